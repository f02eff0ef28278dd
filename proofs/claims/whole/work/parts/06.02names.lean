theorem dX4_added_74 : decode cX4_added 74 = .ok (.goto (-64), 3) := by decide +kernel
theorem dX4_added_77 : decode cX4_added 77 = .ok (.iload_n 3, 1) := by decide +kernel
theorem dX4_added_78 : decode cX4_added 78 = .ok (.ireturn, 1) := by decide +kernel
set_option maxRecDepth 20000 in
theorem ggX4_darkest_X2_at : GoodIn wsX4_darkest wsX2_at := goodIn_r _ [13, 14, 21] (by decide +kernel) (by decide +kernel)
set_option maxRecDepth 20000 in
theorem gX4_darkest_X2_at : GoodIn wsX4_darkest (wsV RX4 41 RX2 yX2_at wsX2_at) := goodIn_app (goodIn_of _ (by decide +kernel)) ggX4_darkest_X2_at
theorem dX4_darkest_0 : decode cX4_darkest 0 = .ok (.iconst 0, 1) := by decide +kernel
theorem dX4_darkest_1 : decode cX4_darkest 1 = .ok (.istore_n 3, 1) := by decide +kernel
theorem dX4_darkest_2 : decode cX4_darkest 2 = .ok (.aload_n 0, 1) := by decide +kernel
theorem dX4_darkest_3 : decode cX4_darkest 3 = .ok (.getfield 15, 3) := by decide +kernel
theorem dX4_darkest_6 : decode cX4_darkest 6 = .ok (.iload_n 1, 1) := by decide +kernel
theorem dX4_darkest_7 : decode cX4_darkest 7 = .ok (.iaload, 1) := by decide +kernel
theorem dX4_darkest_8 : decode cX4_darkest 8 = .ok (.istore 4, 2) := by decide +kernel
theorem dX4_darkest_10 : decode cX4_darkest 10 = .ok (.iload 4, 2) := by decide +kernel
theorem dX4_darkest_12 : decode cX4_darkest 12 = .ok (.aload_n 0, 1) := by decide +kernel
theorem dX4_darkest_13 : decode cX4_darkest 13 = .ok (.getfield 15, 3) := by decide +kernel
theorem dX4_darkest_16 : decode cX4_darkest 16 = .ok (.iload_n 1, 1) := by decide +kernel
theorem dX4_darkest_17 : decode cX4_darkest 17 = .ok (.iaload, 1) := by decide +kernel
theorem dX4_darkest_18 : decode cX4_darkest 18 = .ok (.aload_n 0, 1) := by decide +kernel
theorem dX4_darkest_19 : decode cX4_darkest 19 = .ok (.getfield 22, 3) := by decide +kernel
theorem dX4_darkest_22 : decode cX4_darkest 22 = .ok (.iload_n 1, 1) := by decide +kernel
theorem dX4_darkest_23 : decode cX4_darkest 23 = .ok (.iaload, 1) := by decide +kernel
theorem dX4_darkest_24 : decode cX4_darkest 24 = .ok (.iadd, 1) := by decide +kernel
theorem dX4_darkest_25 : decode cX4_darkest 25 = .ok (.if_icmp .ge 54, 3) := by decide +kernel
theorem dX4_darkest_28 : decode cX4_darkest 28 = .ok (.aload_n 0, 1) := by decide +kernel
theorem dX4_darkest_29 : decode cX4_darkest 29 = .ok (.getfield 19, 3) := by decide +kernel
theorem dX4_darkest_32 : decode cX4_darkest 32 = .ok (.iload_n 1, 1) := by decide +kernel
theorem dX4_darkest_33 : decode cX4_darkest 33 = .ok (.iaload, 1) := by decide +kernel
theorem dX4_darkest_34 : decode cX4_darkest 34 = .ok (.istore 5, 2) := by decide +kernel
theorem dX4_darkest_36 : decode cX4_darkest 36 = .ok (.iload 5, 2) := by decide +kernel
theorem dX4_darkest_38 : decode cX4_darkest 38 = .ok (.aload_n 0, 1) := by decide +kernel
theorem dX4_darkest_39 : decode cX4_darkest 39 = .ok (.getfield 19, 3) := by decide +kernel
theorem dX4_darkest_42 : decode cX4_darkest 42 = .ok (.iload_n 1, 1) := by decide +kernel
theorem dX4_darkest_43 : decode cX4_darkest 43 = .ok (.iaload, 1) := by decide +kernel
theorem dX4_darkest_44 : decode cX4_darkest 44 = .ok (.aload_n 0, 1) := by decide +kernel
theorem dX4_darkest_45 : decode cX4_darkest 45 = .ok (.getfield 25, 3) := by decide +kernel
theorem dX4_darkest_48 : decode cX4_darkest 48 = .ok (.iload_n 1, 1) := by decide +kernel
theorem dX4_darkest_49 : decode cX4_darkest 49 = .ok (.iaload, 1) := by decide +kernel
theorem dX4_darkest_50 : decode cX4_darkest 50 = .ok (.iadd, 1) := by decide +kernel
theorem dX4_darkest_51 : decode cX4_darkest 51 = .ok (.if_icmp .ge 22, 3) := by decide +kernel
theorem dX4_darkest_54 : decode cX4_darkest 54 = .ok (.iload_n 3, 1) := by decide +kernel
theorem dX4_darkest_55 : decode cX4_darkest 55 = .ok (.aload_n 2, 1) := by decide +kernel
theorem dX4_darkest_56 : decode cX4_darkest 56 = .ok (.iload 4, 2) := by decide +kernel
theorem dX4_darkest_58 : decode cX4_darkest 58 = .ok (.iload 5, 2) := by decide +kernel
theorem dX4_darkest_60 : decode cX4_darkest 60 = .ok (.invokevirtual 41, 3) := by decide +kernel
theorem dX4_darkest_63 : decode cX4_darkest 63 = .ok (.invokestatic 47, 3) := by decide +kernel
theorem dX4_darkest_66 : decode cX4_darkest 66 = .ok (.istore_n 3, 1) := by decide +kernel
theorem dX4_darkest_67 : decode cX4_darkest 67 = .ok (.iinc 5 1, 3) := by decide +kernel
theorem dX4_darkest_70 : decode cX4_darkest 70 = .ok (.goto (-34), 3) := by decide +kernel
theorem dX4_darkest_73 : decode cX4_darkest 73 = .ok (.iinc 4 1, 3) := by decide +kernel
theorem dX4_darkest_76 : decode cX4_darkest 76 = .ok (.goto (-66), 3) := by decide +kernel
theorem dX4_darkest_79 : decode cX4_darkest 79 = .ok (.iload_n 3, 1) := by decide +kernel
theorem dX4_darkest_80 : decode cX4_darkest 80 = .ok (.ireturn, 1) := by decide +kernel
set_option maxRecDepth 20000 in
theorem ggX4_brings_X4_panes : GoodIn wsX4_brings wsX4_panes := goodIn_r _ [10, 11, 12, 25, 26, 27, 28, 29, 30] (by decide +kernel) (by decide +kernel)
set_option maxRecDepth 20000 in
theorem gX4_brings_X4_panes : GoodIn wsX4_brings (wsV RX4 52 RX4 yX4_panes wsX4_panes) := goodIn_app (goodIn_of _ (by decide +kernel)) ggX4_brings_X4_panes
set_option maxRecDepth 20000 in
theorem ggX4_brings_X4_added : GoodIn wsX4_brings wsX4_added := goodIn_r _ [16, 17, 11, 18, 12, 19, 20, 21, 22, 23, 24, 25, 26, 27, 28, 29, 30, 31] (by decide +kernel) (by decide +kernel)
set_option maxRecDepth 20000 in
theorem gX4_brings_X4_added : GoodIn wsX4_brings (wsV RX4 31 RX4 yX4_added wsX4_added) := goodIn_app (goodIn_of _ (by decide +kernel)) ggX4_brings_X4_added
theorem dX4_brings_0 : decode cX4_brings 0 = .ok (.iconst 0, 1) := by decide +kernel
theorem dX4_brings_1 : decode cX4_brings 1 = .ok (.aload_n 0, 1) := by decide +kernel
theorem dX4_brings_2 : decode cX4_brings 2 = .ok (.getfield 28, 3) := by decide +kernel
theorem dX4_brings_5 : decode cX4_brings 5 = .ok (.iload_n 1, 1) := by decide +kernel
theorem dX4_brings_6 : decode cX4_brings 6 = .ok (.iaload, 1) := by decide +kernel
theorem dX4_brings_7 : decode cX4_brings 7 = .ok (.aload_n 0, 1) := by decide +kernel
theorem dX4_brings_8 : decode cX4_brings 8 = .ok (.iload_n 1, 1) := by decide +kernel
theorem dX4_brings_9 : decode cX4_brings 9 = .ok (.invokevirtual 52, 3) := by decide +kernel
theorem dX4_brings_12 : decode cX4_brings 12 = .ok (.imul, 1) := by decide +kernel
theorem dX4_brings_13 : decode cX4_brings 13 = .ok (.aload_n 0, 1) := by decide +kernel
theorem dX4_brings_14 : decode cX4_brings 14 = .ok (.iload_n 1, 1) := by decide +kernel
theorem dX4_brings_15 : decode cX4_brings 15 = .ok (.aload_n 2, 1) := by decide +kernel
theorem dX4_brings_16 : decode cX4_brings 16 = .ok (.invokevirtual 31, 3) := by decide +kernel
theorem dX4_brings_19 : decode cX4_brings 19 = .ok (.isub, 1) := by decide +kernel
theorem dX4_brings_20 : decode cX4_brings 20 = .ok (.invokestatic 47, 3) := by decide +kernel
theorem dX4_brings_23 : decode cX4_brings 23 = .ok (.ireturn, 1) := by decide +kernel
set_option maxRecDepth 20000 in
theorem ggX4_allBring_X4_brings : GoodIn wsX4_allBring wsX4_brings := goodIn_r _ [6, 7, 8, 9, 10, 11, 12, 13, 14, 5, 15, 16, 17, 18, 19, 20, 21, 22, 23, 24, 25, 26, 27, 28, 29, 30, 31, 32, 33, 34, 35, 36] (by decide +kernel) (by decide +kernel)
set_option maxRecDepth 20000 in
theorem gX4_allBring_X4_brings : GoodIn wsX4_allBring (wsV RX4 38 RX4 yX4_brings wsX4_brings) := goodIn_app (goodIn_of _ (by decide +kernel)) ggX4_allBring_X4_brings
theorem dX4_allBring_0 : decode cX4_allBring 0 = .ok (.iconst 0, 1) := by decide +kernel
theorem dX4_allBring_1 : decode cX4_allBring 1 = .ok (.istore_n 2, 1) := by decide +kernel
theorem dX4_allBring_2 : decode cX4_allBring 2 = .ok (.iconst 0, 1) := by decide +kernel
theorem dX4_allBring_3 : decode cX4_allBring 3 = .ok (.istore_n 3, 1) := by decide +kernel
theorem dX4_allBring_4 : decode cX4_allBring 4 = .ok (.iload_n 3, 1) := by decide +kernel
theorem dX4_allBring_5 : decode cX4_allBring 5 = .ok (.aload_n 0, 1) := by decide +kernel
theorem dX4_allBring_6 : decode cX4_allBring 6 = .ok (.getfield 9, 3) := by decide +kernel
theorem dX4_allBring_9 : decode cX4_allBring 9 = .ok (.if_icmp .ge 18, 3) := by decide +kernel
theorem dX4_allBring_12 : decode cX4_allBring 12 = .ok (.iload_n 2, 1) := by decide +kernel
theorem dX4_allBring_13 : decode cX4_allBring 13 = .ok (.aload_n 0, 1) := by decide +kernel
theorem dX4_allBring_14 : decode cX4_allBring 14 = .ok (.iload_n 3, 1) := by decide +kernel
theorem dX4_allBring_15 : decode cX4_allBring 15 = .ok (.aload_n 1, 1) := by decide +kernel
theorem dX4_allBring_16 : decode cX4_allBring 16 = .ok (.invokevirtual 38, 3) := by decide +kernel
theorem dX4_allBring_19 : decode cX4_allBring 19 = .ok (.iadd, 1) := by decide +kernel
theorem dX4_allBring_20 : decode cX4_allBring 20 = .ok (.istore_n 2, 1) := by decide +kernel
theorem dX4_allBring_21 : decode cX4_allBring 21 = .ok (.iinc 3 1, 3) := by decide +kernel
theorem dX4_allBring_24 : decode cX4_allBring 24 = .ok (.goto (-20), 3) := by decide +kernel
theorem dX4_allBring_27 : decode cX4_allBring 27 = .ok (.iload_n 2, 1) := by decide +kernel
theorem dX4_allBring_28 : decode cX4_allBring 28 = .ok (.ireturn, 1) := by decide +kernel
set_option maxRecDepth 20000 in
theorem ggX4_isClean_X4_added : GoodIn wsX4_isClean wsX4_added := goodIn_r _ [5, 6, 7, 8, 9, 10, 11, 12, 13, 14, 15, 20, 21, 22, 23, 24, 25, 26] (by decide +kernel) (by decide +kernel)
set_option maxRecDepth 20000 in
theorem gX4_isClean_X4_added : GoodIn wsX4_isClean (wsV RX4 31 RX4 yX4_added wsX4_added) := goodIn_app (goodIn_of _ (by decide +kernel)) ggX4_isClean_X4_added
set_option maxRecDepth 20000 in
theorem ggX4_isClean_X4_panes : GoodIn wsX4_isClean wsX4_panes := goodIn_r _ [19, 7, 9, 20, 21, 22, 23, 24, 25] (by decide +kernel) (by decide +kernel)
set_option maxRecDepth 20000 in
theorem gX4_isClean_X4_panes : GoodIn wsX4_isClean (wsV RX4 52 RX4 yX4_panes wsX4_panes) := goodIn_app (goodIn_of _ (by decide +kernel)) ggX4_isClean_X4_panes
theorem dX4_isClean_0 : decode cX4_isClean 0 = .ok (.aload_n 0, 1) := by decide +kernel
theorem dX4_isClean_1 : decode cX4_isClean 1 = .ok (.iload_n 1, 1) := by decide +kernel
theorem dX4_isClean_2 : decode cX4_isClean 2 = .ok (.aload_n 2, 1) := by decide +kernel
theorem dX4_isClean_3 : decode cX4_isClean 3 = .ok (.invokevirtual 31, 3) := by decide +kernel
theorem dX4_isClean_6 : decode cX4_isClean 6 = .ok (.aload_n 0, 1) := by decide +kernel
theorem dX4_isClean_7 : decode cX4_isClean 7 = .ok (.iload_n 1, 1) := by decide +kernel
theorem dX4_isClean_8 : decode cX4_isClean 8 = .ok (.invokevirtual 52, 3) := by decide +kernel
theorem dX4_isClean_11 : decode cX4_isClean 11 = .ok (.if_icmp .gt 7, 3) := by decide +kernel
theorem dX4_isClean_14 : decode cX4_isClean 14 = .ok (.iconst 1, 1) := by decide +kernel
theorem dX4_isClean_15 : decode cX4_isClean 15 = .ok (.goto 4, 3) := by decide +kernel
theorem dX4_isClean_18 : decode cX4_isClean 18 = .ok (.iconst 0, 1) := by decide +kernel
theorem dX4_isClean_19 : decode cX4_isClean 19 = .ok (.ireturn, 1) := by decide +kernel
set_option maxRecDepth 20000 in
theorem ggX4_wipeOff_X2_takeOff : GoodIn wsX4_wipeOff wsX2_takeOff := goodIn_r _ [9, 10, 11, 12, 13, 14, 21] (by decide +kernel) (by decide +kernel)
set_option maxRecDepth 20000 in
theorem gX4_wipeOff_X2_takeOff : GoodIn wsX4_wipeOff (wsV RX4 56 RX2 yX2_takeOff wsX2_takeOff) := goodIn_app (goodIn_of _ (by decide +kernel)) ggX4_wipeOff_X2_takeOff
theorem dX4_wipeOff_0 : decode cX4_wipeOff 0 = .ok (.iconst 0, 1) := by decide +kernel
theorem dX4_wipeOff_1 : decode cX4_wipeOff 1 = .ok (.istore_n 3, 1) := by decide +kernel
theorem dX4_wipeOff_2 : decode cX4_wipeOff 2 = .ok (.aload_n 0, 1) := by decide +kernel
theorem dX4_wipeOff_3 : decode cX4_wipeOff 3 = .ok (.getfield 15, 3) := by decide +kernel
theorem dX4_wipeOff_6 : decode cX4_wipeOff 6 = .ok (.iload_n 1, 1) := by decide +kernel
theorem dX4_wipeOff_7 : decode cX4_wipeOff 7 = .ok (.iaload, 1) := by decide +kernel
theorem dX4_wipeOff_8 : decode cX4_wipeOff 8 = .ok (.istore 4, 2) := by decide +kernel
theorem dX4_wipeOff_10 : decode cX4_wipeOff 10 = .ok (.iload 4, 2) := by decide +kernel
theorem dX4_wipeOff_12 : decode cX4_wipeOff 12 = .ok (.aload_n 0, 1) := by decide +kernel
theorem dX4_wipeOff_13 : decode cX4_wipeOff 13 = .ok (.getfield 15, 3) := by decide +kernel
theorem dX4_wipeOff_16 : decode cX4_wipeOff 16 = .ok (.iload_n 1, 1) := by decide +kernel
theorem dX4_wipeOff_17 : decode cX4_wipeOff 17 = .ok (.iaload, 1) := by decide +kernel
theorem dX4_wipeOff_18 : decode cX4_wipeOff 18 = .ok (.aload_n 0, 1) := by decide +kernel
theorem dX4_wipeOff_19 : decode cX4_wipeOff 19 = .ok (.getfield 22, 3) := by decide +kernel
theorem dX4_wipeOff_22 : decode cX4_wipeOff 22 = .ok (.iload_n 1, 1) := by decide +kernel
theorem dX4_wipeOff_23 : decode cX4_wipeOff 23 = .ok (.iaload, 1) := by decide +kernel
theorem dX4_wipeOff_24 : decode cX4_wipeOff 24 = .ok (.iadd, 1) := by decide +kernel
theorem dX4_wipeOff_25 : decode cX4_wipeOff 25 = .ok (.if_icmp .ge 54, 3) := by decide +kernel
theorem dX4_wipeOff_28 : decode cX4_wipeOff 28 = .ok (.aload_n 0, 1) := by decide +kernel
theorem dX4_wipeOff_29 : decode cX4_wipeOff 29 = .ok (.getfield 19, 3) := by decide +kernel
theorem dX4_wipeOff_32 : decode cX4_wipeOff 32 = .ok (.iload_n 1, 1) := by decide +kernel
theorem dX4_wipeOff_33 : decode cX4_wipeOff 33 = .ok (.iaload, 1) := by decide +kernel
theorem dX4_wipeOff_34 : decode cX4_wipeOff 34 = .ok (.istore 5, 2) := by decide +kernel
theorem dX4_wipeOff_36 : decode cX4_wipeOff 36 = .ok (.iload 5, 2) := by decide +kernel
theorem dX4_wipeOff_38 : decode cX4_wipeOff 38 = .ok (.aload_n 0, 1) := by decide +kernel
theorem dX4_wipeOff_39 : decode cX4_wipeOff 39 = .ok (.getfield 19, 3) := by decide +kernel
theorem dX4_wipeOff_42 : decode cX4_wipeOff 42 = .ok (.iload_n 1, 1) := by decide +kernel
theorem dX4_wipeOff_43 : decode cX4_wipeOff 43 = .ok (.iaload, 1) := by decide +kernel
theorem dX4_wipeOff_44 : decode cX4_wipeOff 44 = .ok (.aload_n 0, 1) := by decide +kernel
theorem dX4_wipeOff_45 : decode cX4_wipeOff 45 = .ok (.getfield 25, 3) := by decide +kernel
theorem dX4_wipeOff_48 : decode cX4_wipeOff 48 = .ok (.iload_n 1, 1) := by decide +kernel
theorem dX4_wipeOff_49 : decode cX4_wipeOff 49 = .ok (.iaload, 1) := by decide +kernel
theorem dX4_wipeOff_50 : decode cX4_wipeOff 50 = .ok (.iadd, 1) := by decide +kernel
theorem dX4_wipeOff_51 : decode cX4_wipeOff 51 = .ok (.if_icmp .ge 22, 3) := by decide +kernel
theorem dX4_wipeOff_54 : decode cX4_wipeOff 54 = .ok (.iload_n 3, 1) := by decide +kernel
theorem dX4_wipeOff_55 : decode cX4_wipeOff 55 = .ok (.aload_n 2, 1) := by decide +kernel
theorem dX4_wipeOff_56 : decode cX4_wipeOff 56 = .ok (.iload 4, 2) := by decide +kernel
theorem dX4_wipeOff_58 : decode cX4_wipeOff 58 = .ok (.iload 5, 2) := by decide +kernel
theorem dX4_wipeOff_60 : decode cX4_wipeOff 60 = .ok (.bipush 20, 2) := by decide +kernel
theorem dX4_wipeOff_62 : decode cX4_wipeOff 62 = .ok (.invokevirtual 56, 3) := by decide +kernel
theorem dX4_wipeOff_65 : decode cX4_wipeOff 65 = .ok (.iadd, 1) := by decide +kernel
theorem dX4_wipeOff_66 : decode cX4_wipeOff 66 = .ok (.istore_n 3, 1) := by decide +kernel
theorem dX4_wipeOff_67 : decode cX4_wipeOff 67 = .ok (.iinc 5 1, 3) := by decide +kernel
theorem dX4_wipeOff_70 : decode cX4_wipeOff 70 = .ok (.goto (-34), 3) := by decide +kernel
theorem dX4_wipeOff_73 : decode cX4_wipeOff 73 = .ok (.iinc 4 1, 3) := by decide +kernel
theorem dX4_wipeOff_76 : decode cX4_wipeOff 76 = .ok (.goto (-66), 3) := by decide +kernel
theorem dX4_wipeOff_79 : decode cX4_wipeOff 79 = .ok (.iload_n 3, 1) := by decide +kernel
theorem dX4_wipeOff_80 : decode cX4_wipeOff 80 = .ok (.ireturn, 1) := by decide +kernel
set_option maxRecDepth 20000 in
theorem ggX5_init_X4_init : GoodIn wsX5_init wsX4_init := goodIn_r _ [18, 19, 2, 3, 20, 21, 22, 23, 24, 25, 26, 63, 64, 65, 66, 67, 68] (by decide +kernel) (by decide +kernel)
set_option maxRecDepth 20000 in
theorem gX5_init_X4_init_n11 : GoodIn wsX5_init (wsX4_init) := ggX5_init_X4_init
set_option maxRecDepth 20000 in
theorem ggX5_init_X1_init : GoodIn wsX5_init wsX1_init := goodIn_r _ [28, 29, 2, 3, 30, 21, 31, 32, 73, 74, 75] (by decide +kernel) (by decide +kernel)
set_option maxRecDepth 20000 in
theorem gX5_init_X1_init_n18 : GoodIn wsX5_init (wsX1_init) := ggX5_init_X1_init
set_option maxRecDepth 20000 in
theorem ggX5_init_X0_init : GoodIn wsX5_init wsX0_init := goodIn_r _ [34, 35, 2, 3, 36, 37, 38, 39, 40, 41, 42, 43, 44, 45, 46, 47, 48, 49, 50, 21, 51, 52, 53, 54, 55, 56, 57, 58, 59, 60, 61, 62, 82, 76, 77, 78, 79, 80, 81, 83, 84, 85, 86, 87, 88, 89] (by decide +kernel) (by decide +kernel)
set_option maxRecDepth 20000 in
theorem gX5_init_X0_init_n25 : GoodIn wsX5_init (wsX0_init) := ggX5_init_X0_init
theorem dX5_init_0 : decode cX5_init 0 = .ok (.aload_n 0, 1) := by decide +kernel
theorem dX5_init_1 : decode cX5_init 1 = .ok (.invokespecial 3, 3) := by decide +kernel
theorem dX5_init_4 : decode cX5_init 4 = .ok (.aload_n 0, 1) := by decide +kernel
theorem dX5_init_5 : decode cX5_init 5 = .ok (.new 9, 3) := by decide +kernel
theorem dX5_init_8 : decode cX5_init 8 = .ok (.dup, 1) := by decide +kernel
theorem dX5_init_9 : decode cX5_init 9 = .ok (.invokespecial 11, 3) := by decide +kernel
theorem dX5_init_12 : decode cX5_init 12 = .ok (.putfield 12, 3) := by decide +kernel
theorem dX5_init_15 : decode cX5_init 15 = .ok (.aload_n 0, 1) := by decide +kernel
theorem dX5_init_16 : decode cX5_init 16 = .ok (.new 16, 3) := by decide +kernel
theorem dX5_init_19 : decode cX5_init 19 = .ok (.dup, 1) := by decide +kernel
theorem dX5_init_20 : decode cX5_init 20 = .ok (.invokespecial 18, 3) := by decide +kernel
theorem dX5_init_23 : decode cX5_init 23 = .ok (.putfield 19, 3) := by decide +kernel
theorem dX5_init_26 : decode cX5_init 26 = .ok (.aload_n 0, 1) := by decide +kernel
theorem dX5_init_27 : decode cX5_init 27 = .ok (.new 23, 3) := by decide +kernel
theorem dX5_init_30 : decode cX5_init 30 = .ok (.dup, 1) := by decide +kernel
theorem dX5_init_31 : decode cX5_init 31 = .ok (.invokespecial 25, 3) := by decide +kernel
theorem dX5_init_34 : decode cX5_init 34 = .ok (.putfield 26, 3) := by decide +kernel
theorem dX5_init_37 : decode cX5_init 37 = .ok (.aload_n 0, 1) := by decide +kernel
theorem dX5_init_38 : decode cX5_init 38 = .ok (.new 23, 3) := by decide +kernel
theorem dX5_init_41 : decode cX5_init 41 = .ok (.dup, 1) := by decide +kernel
theorem dX5_init_42 : decode cX5_init 42 = .ok (.invokespecial 25, 3) := by decide +kernel
theorem dX5_init_45 : decode cX5_init 45 = .ok (.putfield 30, 3) := by decide +kernel
theorem dX5_init_48 : decode cX5_init 48 = .ok (.return_, 1) := by decide +kernel
set_option maxRecDepth 20000 in
theorem ggX5_window_X4_put : GoodIn wsX5_window wsX4_put := goodIn_r _ [12, 13, 14, 15, 16, 17, 18, 23, 24, 25, 26, 27, 28] (by decide +kernel) (by decide +kernel)
set_option maxRecDepth 20000 in
theorem gX5_window_X4_put : GoodIn wsX5_window (wsV RX5 54 RX4 yX4_put wsX4_put) := goodIn_app (goodIn_of _ (by decide +kernel)) ggX5_window_X4_put
theorem dX5_window_0 : decode cX5_window 0 = .ok (.iload_n 3, 1) := by decide +kernel
theorem dX5_window_1 : decode cX5_window 1 = .ok (.iconst 1, 1) := by decide +kernel
theorem dX5_window_2 : decode cX5_window 2 = .ok (.if_icmp .lt 35, 3) := by decide +kernel
theorem dX5_window_5 : decode cX5_window 5 = .ok (.iload_n 3, 1) := by decide +kernel
theorem dX5_window_6 : decode cX5_window 6 = .ok (.bipush 12, 2) := by decide +kernel
theorem dX5_window_8 : decode cX5_window 8 = .ok (.if_icmp .gt 29, 3) := by decide +kernel
theorem dX5_window_11 : decode cX5_window 11 = .ok (.iload 4, 2) := by decide +kernel
theorem dX5_window_13 : decode cX5_window 13 = .ok (.iconst 1, 1) := by decide +kernel
theorem dX5_window_14 : decode cX5_window 14 = .ok (.if_icmp .lt 23, 3) := by decide +kernel
theorem dX5_window_17 : decode cX5_window 17 = .ok (.iload 4, 2) := by decide +kernel
theorem dX5_window_19 : decode cX5_window 19 = .ok (.bipush 8, 2) := by decide +kernel
theorem dX5_window_21 : decode cX5_window 21 = .ok (.if_icmp .gt 16, 3) := by decide +kernel
theorem dX5_window_24 : decode cX5_window 24 = .ok (.iload 5, 2) := by decide +kernel
theorem dX5_window_26 : decode cX5_window 26 = .ok (.iconst 1, 1) := by decide +kernel
theorem dX5_window_27 : decode cX5_window 27 = .ok (.if_icmp .lt 10, 3) := by decide +kernel
theorem dX5_window_30 : decode cX5_window 30 = .ok (.iload 5, 2) := by decide +kernel
theorem dX5_window_32 : decode cX5_window 32 = .ok (.bipush 9, 2) := by decide +kernel
theorem dX5_window_34 : decode cX5_window 34 = .ok (.if_icmp .le 13, 3) := by decide +kernel
theorem dX5_window_37 : decode cX5_window 37 = .ok (.new 33, 3) := by decide +kernel
theorem dX5_window_40 : decode cX5_window 40 = .ok (.dup, 1) := by decide +kernel
theorem dX5_window_41 : decode cX5_window 41 = .ok (.ldc 35, 2) := by decide +kernel
theorem dX5_window_43 : decode cX5_window 43 = .ok (.invokespecial 37, 3) := by decide +kernel
theorem dX5_window_46 : decode cX5_window 46 = .ok (.athrow, 1) := by decide +kernel
theorem dX5_window_47 : decode cX5_window 47 = .ok (.iload_n 1, 1) := by decide +kernel
theorem dX5_window_48 : decode cX5_window 48 = .ok (.ifCond .lt 24, 3) := by decide +kernel
theorem dX5_window_51 : decode cX5_window 51 = .ok (.iload_n 1, 1) := by decide +kernel
theorem dX5_window_52 : decode cX5_window 52 = .ok (.bipush 12, 2) := by decide +kernel
theorem dX5_window_54 : decode cX5_window 54 = .ok (.iload_n 3, 1) := by decide +kernel
theorem dX5_window_55 : decode cX5_window 55 = .ok (.isub, 1) := by decide +kernel
theorem dX5_window_56 : decode cX5_window 56 = .ok (.if_icmp .gt 16, 3) := by decide +kernel
theorem dX5_window_59 : decode cX5_window 59 = .ok (.iload_n 2, 1) := by decide +kernel
theorem dX5_window_60 : decode cX5_window 60 = .ok (.ifCond .lt 12, 3) := by decide +kernel
theorem dX5_window_63 : decode cX5_window 63 = .ok (.iload_n 2, 1) := by decide +kernel
theorem dX5_window_64 : decode cX5_window 64 = .ok (.bipush 8, 2) := by decide +kernel
theorem dX5_window_66 : decode cX5_window 66 = .ok (.iload 4, 2) := by decide +kernel
theorem dX5_window_68 : decode cX5_window 68 = .ok (.isub, 1) := by decide +kernel
theorem dX5_window_69 : decode cX5_window 69 = .ok (.if_icmp .le 13, 3) := by decide +kernel
theorem dX5_window_72 : decode cX5_window 72 = .ok (.new 40, 3) := by decide +kernel
theorem dX5_window_75 : decode cX5_window 75 = .ok (.dup, 1) := by decide +kernel
theorem dX5_window_76 : decode cX5_window 76 = .ok (.ldc 42, 2) := by decide +kernel
theorem dX5_window_78 : decode cX5_window 78 = .ok (.invokespecial 44, 3) := by decide +kernel
theorem dX5_window_81 : decode cX5_window 81 = .ok (.athrow, 1) := by decide +kernel
theorem dX5_window_82 : decode cX5_window 82 = .ok (.aload_n 0, 1) := by decide +kernel
theorem dX5_window_83 : decode cX5_window 83 = .ok (.getfield 12, 3) := by decide +kernel
theorem dX5_window_86 : decode cX5_window 86 = .ok (.getfield 45, 3) := by decide +kernel
theorem dX5_window_89 : decode cX5_window 89 = .ok (.bipush 6, 2) := by decide +kernel
theorem dX5_window_91 : decode cX5_window 91 = .ok (.if_icmp .lt 13, 3) := by decide +kernel
theorem dX5_window_94 : decode cX5_window 94 = .ok (.new 49, 3) := by decide +kernel
theorem dX5_window_97 : decode cX5_window 97 = .ok (.dup, 1) := by decide +kernel
theorem dX5_window_98 : decode cX5_window 98 = .ok (.ldc 51, 2) := by decide +kernel
theorem dX5_window_100 : decode cX5_window 100 = .ok (.invokespecial 53, 3) := by decide +kernel
theorem dX5_window_103 : decode cX5_window 103 = .ok (.athrow, 1) := by decide +kernel
theorem dX5_window_104 : decode cX5_window 104 = .ok (.aload_n 0, 1) := by decide +kernel
theorem dX5_window_105 : decode cX5_window 105 = .ok (.getfield 12, 3) := by decide +kernel
theorem dX5_window_108 : decode cX5_window 108 = .ok (.iload_n 1, 1) := by decide +kernel
theorem dX5_window_109 : decode cX5_window 109 = .ok (.iload_n 2, 1) := by decide +kernel
theorem dX5_window_110 : decode cX5_window 110 = .ok (.iload_n 3, 1) := by decide +kernel
theorem dX5_window_111 : decode cX5_window 111 = .ok (.iload 4, 2) := by decide +kernel
theorem dX5_window_113 : decode cX5_window 113 = .ok (.iload 5, 2) := by decide +kernel
theorem dX5_window_115 : decode cX5_window 115 = .ok (.invokevirtual 54, 3) := by decide +kernel
theorem dX5_window_118 : decode cX5_window 118 = .ok (.ireturn, 1) := by decide +kernel
set_option maxRecDepth 20000 in
theorem ggX5_rope_X5_isColumn : GoodIn wsX5_rope wsX5_isColumn := goodIn_r _ [11] (by decide +kernel) (by decide +kernel)
set_option maxRecDepth 20000 in
theorem gX5_rope_X5_isColumn : GoodIn wsX5_rope (va_wsS RX5 58 yX5_isColumn wsX5_isColumn) := goodIn_app (goodIn_of _ (by decide +kernel)) ggX5_rope_X5_isColumn
set_option maxRecDepth 20000 in
theorem ggX5_rope_X3_hangAt : GoodIn wsX5_rope wsX3_hangAt := goodIn_r _ [16, 17, 18, 35, 36, 37, 38, 39, 40, 41] (by decide +kernel) (by decide +kernel)
set_option maxRecDepth 20000 in
theorem gX5_rope_X3_hangAt : GoodIn wsX5_rope (wsV RX5 73 RX3 yX3_hangAt wsX3_hangAt) := goodIn_app (goodIn_of _ (by decide +kernel)) ggX5_rope_X3_hangAt
set_option maxRecDepth 20000 in
theorem ggX5_rope_X3_put : GoodIn wsX5_rope wsX3_put := goodIn_r _ [22, 18, 17, 23, 24, 35, 36, 37, 38, 39, 40, 41] (by decide +kernel) (by decide +kernel)
set_option maxRecDepth 20000 in
theorem gX5_rope_X3_put : GoodIn wsX5_rope (wsV RX5 78 RX3 yX3_put wsX3_put) := goodIn_app (goodIn_of _ (by decide +kernel)) ggX5_rope_X3_put
theorem dX5_rope_0 : decode cX5_rope 0 = .ok (.iload_n 1, 1) := by decide +kernel
theorem dX5_rope_1 : decode cX5_rope 1 = .ok (.invokestatic 58, 3) := by decide +kernel
theorem dX5_rope_4 : decode cX5_rope 4 = .ok (.ifCond .ne 13, 3) := by decide +kernel
theorem dX5_rope_7 : decode cX5_rope 7 = .ok (.new 40, 3) := by decide +kernel
theorem dX5_rope_10 : decode cX5_rope 10 = .ok (.dup, 1) := by decide +kernel
theorem dX5_rope_11 : decode cX5_rope 11 = .ok (.ldc 62, 2) := by decide +kernel
theorem dX5_rope_13 : decode cX5_rope 13 = .ok (.invokespecial 44, 3) := by decide +kernel
theorem dX5_rope_16 : decode cX5_rope 16 = .ok (.athrow, 1) := by decide +kernel
theorem dX5_rope_17 : decode cX5_rope 17 = .ok (.iload_n 2, 1) := by decide +kernel
theorem dX5_rope_18 : decode cX5_rope 18 = .ok (.iconst 1, 1) := by decide +kernel
theorem dX5_rope_19 : decode cX5_rope 19 = .ok (.if_icmp .lt 9, 3) := by decide +kernel
theorem dX5_rope_22 : decode cX5_rope 22 = .ok (.iload_n 2, 1) := by decide +kernel
theorem dX5_rope_23 : decode cX5_rope 23 = .ok (.bipush 30, 2) := by decide +kernel
theorem dX5_rope_25 : decode cX5_rope 25 = .ok (.if_icmp .le 13, 3) := by decide +kernel
theorem dX5_rope_28 : decode cX5_rope 28 = .ok (.new 33, 3) := by decide +kernel
theorem dX5_rope_31 : decode cX5_rope 31 = .ok (.dup, 1) := by decide +kernel
theorem dX5_rope_32 : decode cX5_rope 32 = .ok (.ldc 64, 2) := by decide +kernel
theorem dX5_rope_34 : decode cX5_rope 34 = .ok (.invokespecial 37, 3) := by decide +kernel
theorem dX5_rope_37 : decode cX5_rope 37 = .ok (.athrow, 1) := by decide +kernel
theorem dX5_rope_38 : decode cX5_rope 38 = .ok (.aload_n 0, 1) := by decide +kernel
theorem dX5_rope_39 : decode cX5_rope 39 = .ok (.getfield 26, 3) := by decide +kernel
theorem dX5_rope_42 : decode cX5_rope 42 = .ok (.getfield 66, 3) := by decide +kernel
theorem dX5_rope_45 : decode cX5_rope 45 = .ok (.getfield 70, 3) := by decide +kernel
theorem dX5_rope_48 : decode cX5_rope 48 = .ok (.bipush 6, 2) := by decide +kernel
theorem dX5_rope_50 : decode cX5_rope 50 = .ok (.if_icmp .ge 17, 3) := by decide +kernel
theorem dX5_rope_53 : decode cX5_rope 53 = .ok (.aload_n 0, 1) := by decide +kernel
theorem dX5_rope_54 : decode cX5_rope 54 = .ok (.getfield 26, 3) := by decide +kernel
theorem dX5_rope_57 : decode cX5_rope 57 = .ok (.getfield 66, 3) := by decide +kernel
theorem dX5_rope_60 : decode cX5_rope 60 = .ok (.iload_n 1, 1) := by decide +kernel
theorem dX5_rope_61 : decode cX5_rope 61 = .ok (.invokevirtual 73, 3) := by decide +kernel
theorem dX5_rope_64 : decode cX5_rope 64 = .ok (.ifCond .eq 13, 3) := by decide +kernel
theorem dX5_rope_67 : decode cX5_rope 67 = .ok (.new 49, 3) := by decide +kernel
theorem dX5_rope_70 : decode cX5_rope 70 = .ok (.dup, 1) := by decide +kernel
theorem dX5_rope_71 : decode cX5_rope 71 = .ok (.ldc 76, 2) := by decide +kernel
theorem dX5_rope_73 : decode cX5_rope 73 = .ok (.invokespecial 53, 3) := by decide +kernel
theorem dX5_rope_76 : decode cX5_rope 76 = .ok (.athrow, 1) := by decide +kernel
theorem dX5_rope_77 : decode cX5_rope 77 = .ok (.aload_n 0, 1) := by decide +kernel
theorem dX5_rope_78 : decode cX5_rope 78 = .ok (.getfield 26, 3) := by decide +kernel
theorem dX5_rope_81 : decode cX5_rope 81 = .ok (.getfield 66, 3) := by decide +kernel
theorem dX5_rope_84 : decode cX5_rope 84 = .ok (.iload_n 1, 1) := by decide +kernel
theorem dX5_rope_85 : decode cX5_rope 85 = .ok (.iload_n 2, 1) := by decide +kernel
theorem dX5_rope_86 : decode cX5_rope 86 = .ok (.iload_n 3, 1) := by decide +kernel
theorem dX5_rope_87 : decode cX5_rope 87 = .ok (.invokevirtual 78, 3) := by decide +kernel
theorem dX5_rope_90 : decode cX5_rope 90 = .ok (.ireturn, 1) := by decide +kernel
set_option maxRecDepth 20000 in
theorem ggX5_feast_X1_put : GoodIn wsX5_feast wsX1_put := goodIn_r _ [10, 11, 12, 13, 18, 19, 20] (by decide +kernel) (by decide +kernel)
set_option maxRecDepth 20000 in
theorem gX5_feast_X1_put : GoodIn wsX5_feast (wsV RX5 86 RX1 yX1_put wsX1_put) := goodIn_app (goodIn_of _ (by decide +kernel)) ggX5_feast_X1_put
theorem dX5_feast_0 : decode cX5_feast 0 = .ok (.iload_n 1, 1) := by decide +kernel
theorem dX5_feast_1 : decode cX5_feast 1 = .ok (.iconst 2, 1) := by decide +kernel
theorem dX5_feast_2 : decode cX5_feast 2 = .ok (.if_icmp .lt 18, 3) := by decide +kernel
theorem dX5_feast_5 : decode cX5_feast 5 = .ok (.iload_n 1, 1) := by decide +kernel
theorem dX5_feast_6 : decode cX5_feast 6 = .ok (.bipush 30, 2) := by decide +kernel
theorem dX5_feast_8 : decode cX5_feast 8 = .ok (.if_icmp .gt 12, 3) := by decide +kernel
theorem dX5_feast_11 : decode cX5_feast 11 = .ok (.iload_n 2, 1) := by decide +kernel
theorem dX5_feast_12 : decode cX5_feast 12 = .ok (.ifCond .lt 8, 3) := by decide +kernel
theorem dX5_feast_15 : decode cX5_feast 15 = .ok (.iload_n 2, 1) := by decide +kernel
theorem dX5_feast_16 : decode cX5_feast 16 = .ok (.iload_n 1, 1) := by decide +kernel
theorem dX5_feast_17 : decode cX5_feast 17 = .ok (.if_icmp .lt 13, 3) := by decide +kernel
theorem dX5_feast_20 : decode cX5_feast 20 = .ok (.new 33, 3) := by decide +kernel
theorem dX5_feast_23 : decode cX5_feast 23 = .ok (.dup, 1) := by decide +kernel
theorem dX5_feast_24 : decode cX5_feast 24 = .ok (.ldc 81, 2) := by decide +kernel
theorem dX5_feast_26 : decode cX5_feast 26 = .ok (.invokespecial 37, 3) := by decide +kernel
theorem dX5_feast_29 : decode cX5_feast 29 = .ok (.athrow, 1) := by decide +kernel
theorem dX5_feast_30 : decode cX5_feast 30 = .ok (.aload_n 0, 1) := by decide +kernel
theorem dX5_feast_31 : decode cX5_feast 31 = .ok (.getfield 19, 3) := by decide +kernel
theorem dX5_feast_34 : decode cX5_feast 34 = .ok (.getfield 83, 3) := by decide +kernel
theorem dX5_feast_37 : decode cX5_feast 37 = .ok (.iconst 4, 1) := by decide +kernel
theorem dX5_feast_38 : decode cX5_feast 38 = .ok (.if_icmp .lt 13, 3) := by decide +kernel
theorem dX5_feast_41 : decode cX5_feast 41 = .ok (.new 49, 3) := by decide +kernel
theorem dX5_feast_44 : decode cX5_feast 44 = .ok (.dup, 1) := by decide +kernel
theorem dX5_feast_45 : decode cX5_feast 45 = .ok (.ldc 84, 2) := by decide +kernel
theorem dX5_feast_47 : decode cX5_feast 47 = .ok (.invokespecial 53, 3) := by decide +kernel
theorem dX5_feast_50 : decode cX5_feast 50 = .ok (.athrow, 1) := by decide +kernel
theorem dX5_feast_51 : decode cX5_feast 51 = .ok (.aload_n 0, 1) := by decide +kernel
theorem dX5_feast_52 : decode cX5_feast 52 = .ok (.getfield 19, 3) := by decide +kernel
theorem dX5_feast_55 : decode cX5_feast 55 = .ok (.iload_n 1, 1) := by decide +kernel
theorem dX5_feast_56 : decode cX5_feast 56 = .ok (.iload_n 2, 1) := by decide +kernel
theorem dX5_feast_57 : decode cX5_feast 57 = .ok (.invokevirtual 86, 3) := by decide +kernel
theorem dX5_feast_60 : decode cX5_feast 60 = .ok (.ireturn, 1) := by decide +kernel
theorem dX5_setWind_0 : decode cX5_setWind 0 = .ok (.iload_n 1, 1) := by decide +kernel
theorem dX5_setWind_1 : decode cX5_setWind 1 = .ok (.bipush (-5), 2) := by decide +kernel
theorem dX5_setWind_3 : decode cX5_setWind 3 = .ok (.if_icmp .lt 8, 3) := by decide +kernel
theorem dX5_setWind_6 : decode cX5_setWind 6 = .ok (.iload_n 1, 1) := by decide +kernel
theorem dX5_setWind_7 : decode cX5_setWind 7 = .ok (.iconst 5, 1) := by decide +kernel
theorem dX5_setWind_8 : decode cX5_setWind 8 = .ok (.if_icmp .le 13, 3) := by decide +kernel
theorem dX5_setWind_11 : decode cX5_setWind 11 = .ok (.new 33, 3) := by decide +kernel
theorem dX5_setWind_14 : decode cX5_setWind 14 = .ok (.dup, 1) := by decide +kernel
theorem dX5_setWind_15 : decode cX5_setWind 15 = .ok (.ldc 89, 2) := by decide +kernel
theorem dX5_setWind_17 : decode cX5_setWind 17 = .ok (.invokespecial 37, 3) := by decide +kernel
theorem dX5_setWind_20 : decode cX5_setWind 20 = .ok (.athrow, 1) := by decide +kernel
theorem dX5_setWind_21 : decode cX5_setWind 21 = .ok (.aload_n 0, 1) := by decide +kernel
theorem dX5_setWind_22 : decode cX5_setWind 22 = .ok (.getfield 26, 3) := by decide +kernel
theorem dX5_setWind_25 : decode cX5_setWind 25 = .ok (.getfield 91, 3) := by decide +kernel
theorem dX5_setWind_28 : decode cX5_setWind 28 = .ok (.istore_n 2, 1) := by decide +kernel
theorem dX5_setWind_29 : decode cX5_setWind 29 = .ok (.aload_n 0, 1) := by decide +kernel
theorem dX5_setWind_30 : decode cX5_setWind 30 = .ok (.getfield 26, 3) := by decide +kernel
theorem dX5_setWind_33 : decode cX5_setWind 33 = .ok (.iload_n 1, 1) := by decide +kernel
theorem dX5_setWind_34 : decode cX5_setWind 34 = .ok (.putfield 91, 3) := by decide +kernel
theorem dX5_setWind_37 : decode cX5_setWind 37 = .ok (.iload_n 2, 1) := by decide +kernel
theorem dX5_setWind_38 : decode cX5_setWind 38 = .ok (.ireturn, 1) := by decide +kernel
set_option maxRecDepth 20000 in
theorem ggX5_move_X5_isRope : GoodIn wsX5_move wsX5_isRope := goodIn_r _ [10, 5, 27, 28, 29, 30, 31, 32, 33, 34, 35, 36, 37, 38, 39, 40, 41, 42, 43] (by decide +kernel) (by decide +kernel)
set_option maxRecDepth 20000 in
theorem gX5_move_X5_isRope : GoodIn wsX5_move (wsV RX5 94 RX5 yX5_isRope wsX5_isRope) := goodIn_app (goodIn_of _ (by decide +kernel)) ggX5_move_X5_isRope
set_option maxRecDepth 20000 in
theorem ggX5_move_X5_isColumn : GoodIn wsX5_move wsX5_isColumn := goodIn_r _ [13] (by decide +kernel) (by decide +kernel)
set_option maxRecDepth 20000 in
theorem gX5_move_X5_isColumn : GoodIn wsX5_move (va_wsS RX5 58 yX5_isColumn wsX5_isColumn) := goodIn_app (goodIn_of _ (by decide +kernel)) ggX5_move_X5_isColumn
set_option maxRecDepth 20000 in
theorem ggX5_move_X3_hangAt : GoodIn wsX5_move wsX3_hangAt := goodIn_r _ [18, 19, 20, 37, 38, 39, 40, 41, 42, 43] (by decide +kernel) (by decide +kernel)
set_option maxRecDepth 20000 in
theorem gX5_move_X3_hangAt : GoodIn wsX5_move (wsV RX5 73 RX3 yX3_hangAt wsX3_hangAt) := goodIn_app (goodIn_of _ (by decide +kernel)) ggX5_move_X3_hangAt
set_option maxRecDepth 20000 in
theorem ggX5_move_X3_rehang : GoodIn wsX5_move wsX3_rehang := goodIn_r _ [24, 20, 25, 26, 37, 38, 39, 40, 41, 42, 43] (by decide +kernel) (by decide +kernel)
set_option maxRecDepth 20000 in
theorem gX5_move_X3_rehang : GoodIn wsX5_move (wsV RX5 105 RX3 yX3_rehang wsX3_rehang) := goodIn_app (goodIn_of _ (by decide +kernel)) ggX5_move_X3_rehang
theorem dX5_move_0 : decode cX5_move 0 = .ok (.aload_n 0, 1) := by decide +kernel
theorem dX5_move_1 : decode cX5_move 1 = .ok (.iload_n 1, 1) := by decide +kernel
theorem dX5_move_2 : decode cX5_move 2 = .ok (.invokevirtual 94, 3) := by decide +kernel
theorem dX5_move_5 : decode cX5_move 5 = .ok (.ifCond .eq 10, 3) := by decide +kernel
theorem dX5_move_8 : decode cX5_move 8 = .ok (.iload_n 2, 1) := by decide +kernel
theorem dX5_move_9 : decode cX5_move 9 = .ok (.invokestatic 58, 3) := by decide +kernel
theorem dX5_move_12 : decode cX5_move 12 = .ok (.ifCond .ne 13, 3) := by decide +kernel
theorem dX5_move_15 : decode cX5_move 15 = .ok (.new 40, 3) := by decide +kernel
theorem dX5_move_18 : decode cX5_move 18 = .ok (.dup, 1) := by decide +kernel
theorem dX5_move_19 : decode cX5_move 19 = .ok (.ldc 97, 2) := by decide +kernel
theorem dX5_move_21 : decode cX5_move 21 = .ok (.invokespecial 44, 3) := by decide +kernel
theorem dX5_move_24 : decode cX5_move 24 = .ok (.athrow, 1) := by decide +kernel
theorem dX5_move_25 : decode cX5_move 25 = .ok (.aload_n 0, 1) := by decide +kernel
theorem dX5_move_26 : decode cX5_move 26 = .ok (.getfield 26, 3) := by decide +kernel
theorem dX5_move_29 : decode cX5_move 29 = .ok (.getfield 66, 3) := by decide +kernel
theorem dX5_move_32 : decode cX5_move 32 = .ok (.iload_n 2, 1) := by decide +kernel
theorem dX5_move_33 : decode cX5_move 33 = .ok (.invokevirtual 73, 3) := by decide +kernel
theorem dX5_move_36 : decode cX5_move 36 = .ok (.ifCond .eq 13, 3) := by decide +kernel
theorem dX5_move_39 : decode cX5_move 39 = .ok (.new 49, 3) := by decide +kernel
theorem dX5_move_42 : decode cX5_move 42 = .ok (.dup, 1) := by decide +kernel
theorem dX5_move_43 : decode cX5_move 43 = .ok (.ldc 99, 2) := by decide +kernel
theorem dX5_move_45 : decode cX5_move 45 = .ok (.invokespecial 53, 3) := by decide +kernel
theorem dX5_move_48 : decode cX5_move 48 = .ok (.athrow, 1) := by decide +kernel
theorem dX5_move_49 : decode cX5_move 49 = .ok (.aload_n 0, 1) := by decide +kernel
theorem dX5_move_50 : decode cX5_move 50 = .ok (.getfield 26, 3) := by decide +kernel
theorem dX5_move_53 : decode cX5_move 53 = .ok (.getfield 66, 3) := by decide +kernel
theorem dX5_move_56 : decode cX5_move 56 = .ok (.getfield 101, 3) := by decide +kernel
theorem dX5_move_59 : decode cX5_move 59 = .ok (.iload_n 1, 1) := by decide +kernel
theorem dX5_move_60 : decode cX5_move 60 = .ok (.iaload, 1) := by decide +kernel
theorem dX5_move_61 : decode cX5_move 61 = .ok (.istore_n 3, 1) := by decide +kernel
theorem dX5_move_62 : decode cX5_move 62 = .ok (.aload_n 0, 1) := by decide +kernel
theorem dX5_move_63 : decode cX5_move 63 = .ok (.getfield 26, 3) := by decide +kernel
theorem dX5_move_66 : decode cX5_move 66 = .ok (.getfield 66, 3) := by decide +kernel
theorem dX5_move_69 : decode cX5_move 69 = .ok (.iload_n 1, 1) := by decide +kernel
theorem dX5_move_70 : decode cX5_move 70 = .ok (.iload_n 2, 1) := by decide +kernel
theorem dX5_move_71 : decode cX5_move 71 = .ok (.invokevirtual 105, 3) := by decide +kernel
theorem dX5_move_74 : decode cX5_move 74 = .ok (.iload_n 3, 1) := by decide +kernel
theorem dX5_move_75 : decode cX5_move 75 = .ok (.ireturn, 1) := by decide +kernel
set_option maxRecDepth 20000 in
theorem ggX5_turn_X5_isRope : GoodIn wsX5_turn wsX5_isRope := goodIn_r _ [8, 3, 9, 10, 11, 12, 13, 14, 15, 16, 17, 18, 19, 20, 21, 22, 23, 24, 25] (by decide +kernel) (by decide +kernel)
set_option maxRecDepth 20000 in
theorem gX5_turn_X5_isRope : GoodIn wsX5_turn (wsV RX5 94 RX5 yX5_isRope wsX5_isRope) := goodIn_app (goodIn_of _ (by decide +kernel)) ggX5_turn_X5_isRope
theorem dX5_turn_0 : decode cX5_turn 0 = .ok (.aload_n 0, 1) := by decide +kernel
theorem dX5_turn_1 : decode cX5_turn 1 = .ok (.iload_n 1, 1) := by decide +kernel
theorem dX5_turn_2 : decode cX5_turn 2 = .ok (.invokevirtual 94, 3) := by decide +kernel
theorem dX5_turn_5 : decode cX5_turn 5 = .ok (.ifCond .ne 13, 3) := by decide +kernel
theorem dX5_turn_8 : decode cX5_turn 8 = .ok (.new 40, 3) := by decide +kernel
theorem dX5_turn_11 : decode cX5_turn 11 = .ok (.dup, 1) := by decide +kernel
theorem dX5_turn_12 : decode cX5_turn 12 = .ok (.ldc 109, 2) := by decide +kernel
theorem dX5_turn_14 : decode cX5_turn 14 = .ok (.invokespecial 44, 3) := by decide +kernel
theorem dX5_turn_17 : decode cX5_turn 17 = .ok (.athrow, 1) := by decide +kernel
theorem dX5_turn_18 : decode cX5_turn 18 = .ok (.aload_n 0, 1) := by decide +kernel
theorem dX5_turn_19 : decode cX5_turn 19 = .ok (.getfield 26, 3) := by decide +kernel
theorem dX5_turn_22 : decode cX5_turn 22 = .ok (.getfield 66, 3) := by decide +kernel
theorem dX5_turn_25 : decode cX5_turn 25 = .ok (.getfield 111, 3) := by decide +kernel
theorem dX5_turn_28 : decode cX5_turn 28 = .ok (.iload_n 1, 1) := by decide +kernel
theorem dX5_turn_29 : decode cX5_turn 29 = .ok (.aload_n 0, 1) := by decide +kernel
theorem dX5_turn_30 : decode cX5_turn 30 = .ok (.getfield 26, 3) := by decide +kernel
theorem dX5_turn_33 : decode cX5_turn 33 = .ok (.getfield 66, 3) := by decide +kernel
theorem dX5_turn_36 : decode cX5_turn 36 = .ok (.getfield 111, 3) := by decide +kernel
theorem dX5_turn_39 : decode cX5_turn 39 = .ok (.iload_n 1, 1) := by decide +kernel
theorem dX5_turn_40 : decode cX5_turn 40 = .ok (.baload, 1) := by decide +kernel
theorem dX5_turn_41 : decode cX5_turn 41 = .ok (.ifCond .ne 7, 3) := by decide +kernel
theorem dX5_turn_44 : decode cX5_turn 44 = .ok (.iconst 1, 1) := by decide +kernel
theorem dX5_turn_45 : decode cX5_turn 45 = .ok (.goto 4, 3) := by decide +kernel
theorem dX5_turn_48 : decode cX5_turn 48 = .ok (.iconst 0, 1) := by decide +kernel
theorem dX5_turn_49 : decode cX5_turn 49 = .ok (.bastore, 1) := by decide +kernel
theorem dX5_turn_50 : decode cX5_turn 50 = .ok (.aload_n 0, 1) := by decide +kernel
theorem dX5_turn_51 : decode cX5_turn 51 = .ok (.getfield 26, 3) := by decide +kernel
theorem dX5_turn_54 : decode cX5_turn 54 = .ok (.getfield 66, 3) := by decide +kernel
theorem dX5_turn_57 : decode cX5_turn 57 = .ok (.getfield 111, 3) := by decide +kernel
theorem dX5_turn_60 : decode cX5_turn 60 = .ok (.iload_n 1, 1) := by decide +kernel
theorem dX5_turn_61 : decode cX5_turn 61 = .ok (.baload, 1) := by decide +kernel
theorem dX5_turn_62 : decode cX5_turn 62 = .ok (.ireturn, 1) := by decide +kernel
set_option maxRecDepth 20000 in
theorem ggX5_wipe_X5_isWindow : GoodIn wsX5_wipe wsX5_isWindow := goodIn_r _ [9, 3, 29, 30, 31, 32, 39, 40, 41, 42, 43, 44] (by decide +kernel) (by decide +kernel)
set_option maxRecDepth 20000 in
theorem gX5_wipe_X5_isWindow : GoodIn wsX5_wipe (wsV RX5 115 RX5 yX5_isWindow wsX5_isWindow) := goodIn_app (goodIn_of _ (by decide +kernel)) ggX5_wipe_X5_isWindow
set_option maxRecDepth 20000 in
theorem ggX5_wipe_X4_wipeOff : GoodIn wsX5_wipe wsX4_wipeOff := goodIn_r _ [14, 15, 16, 17, 18, 19, 20, 21, 22, 23, 24, 25, 26, 27, 28, 39, 40, 41, 42, 43, 44, 45] (by decide +kernel) (by decide +kernel)
set_option maxRecDepth 20000 in
theorem gX5_wipe_X4_wipeOff : GoodIn wsX5_wipe (wsV RX5 124 RX4 yX4_wipeOff wsX4_wipeOff) := goodIn_app (goodIn_of _ (by decide +kernel)) ggX5_wipe_X4_wipeOff
theorem dX5_wipe_0 : decode cX5_wipe 0 = .ok (.aload_n 0, 1) := by decide +kernel
theorem dX5_wipe_1 : decode cX5_wipe 1 = .ok (.iload_n 1, 1) := by decide +kernel
theorem dX5_wipe_2 : decode cX5_wipe 2 = .ok (.invokevirtual 115, 3) := by decide +kernel
theorem dX5_wipe_5 : decode cX5_wipe 5 = .ok (.ifCond .ne 13, 3) := by decide +kernel
theorem dX5_wipe_8 : decode cX5_wipe 8 = .ok (.new 40, 3) := by decide +kernel
theorem dX5_wipe_11 : decode cX5_wipe 11 = .ok (.dup, 1) := by decide +kernel
theorem dX5_wipe_12 : decode cX5_wipe 12 = .ok (.ldc 118, 2) := by decide +kernel
theorem dX5_wipe_14 : decode cX5_wipe 14 = .ok (.invokespecial 44, 3) := by decide +kernel
theorem dX5_wipe_17 : decode cX5_wipe 17 = .ok (.athrow, 1) := by decide +kernel
theorem dX5_wipe_18 : decode cX5_wipe 18 = .ok (.aload_n 0, 1) := by decide +kernel
theorem dX5_wipe_19 : decode cX5_wipe 19 = .ok (.getfield 12, 3) := by decide +kernel
theorem dX5_wipe_22 : decode cX5_wipe 22 = .ok (.iload_n 1, 1) := by decide +kernel
theorem dX5_wipe_23 : decode cX5_wipe 23 = .ok (.aload_n 0, 1) := by decide +kernel
theorem dX5_wipe_24 : decode cX5_wipe 24 = .ok (.getfield 26, 3) := by decide +kernel
theorem dX5_wipe_27 : decode cX5_wipe 27 = .ok (.getfield 120, 3) := by decide +kernel
theorem dX5_wipe_30 : decode cX5_wipe 30 = .ok (.invokevirtual 124, 3) := by decide +kernel
theorem dX5_wipe_33 : decode cX5_wipe 33 = .ok (.ireturn, 1) := by decide +kernel
set_option maxRecDepth 20000 in
theorem ggX5_pass_X0_goOn : GoodIn wsX5_pass wsX0_goOn := goodIn_r _ [10, 11, 12, 13, 9, 14, 15, 16, 17, 18, 19, 20, 21, 22, 23, 24, 25, 26, 27, 28, 29, 30, 31, 32, 33, 34, 35, 36, 37, 38, 39, 40, 41, 42, 43, 44, 45, 46, 47, 48, 49, 50, 51, 52, 53, 54, 55, 56, 57, 58, 59, 60, 61, 62, 63, 64, 65, 66, 67, 68, 69, 70, 71, 72, 73, 74, 75, 76, 77, 78, 79, 80, 81, 82, 83, 84, 85, 86, 87, 88, 89, 90, 91, 92, 93, 94, 95, 96, 97, 98, 99, 100, 101, 102, 103, 104, 109, 110, 111, 112, 113, 114, 115, 116, 117, 118, 119, 120, 121, 122, 123, 124, 125, 126, 127, 128, 129, 130, 131] (by decide +kernel) (by decide +kernel)
set_option maxRecDepth 20000 in
theorem gX5_pass_X0_goOn : GoodIn wsX5_pass (wsV RX5 133 RX0 yX0_goOn wsX0_goOn) := goodIn_app (goodIn_of _ (by decide +kernel)) ggX5_pass_X0_goOn
theorem dX5_pass_0 : decode cX5_pass 0 = .ok (.iload_n 1, 1) := by decide +kernel
theorem dX5_pass_1 : decode cX5_pass 1 = .ok (.iconst 1, 1) := by decide +kernel
theorem dX5_pass_2 : decode cX5_pass 2 = .ok (.if_icmp .lt 9, 3) := by decide +kernel
theorem dX5_pass_5 : decode cX5_pass 5 = .ok (.iload_n 1, 1) := by decide +kernel
theorem dX5_pass_6 : decode cX5_pass 6 = .ok (.bipush 40, 2) := by decide +kernel
theorem dX5_pass_8 : decode cX5_pass 8 = .ok (.if_icmp .le 13, 3) := by decide +kernel
theorem dX5_pass_11 : decode cX5_pass 11 = .ok (.new 33, 3) := by decide +kernel
theorem dX5_pass_14 : decode cX5_pass 14 = .ok (.dup, 1) := by decide +kernel
theorem dX5_pass_15 : decode cX5_pass 15 = .ok (.ldc 128, 2) := by decide +kernel
theorem dX5_pass_17 : decode cX5_pass 17 = .ok (.invokespecial 37, 3) := by decide +kernel
theorem dX5_pass_20 : decode cX5_pass 20 = .ok (.athrow, 1) := by decide +kernel
theorem dX5_pass_21 : decode cX5_pass 21 = .ok (.aload_n 0, 1) := by decide +kernel
theorem dX5_pass_22 : decode cX5_pass 22 = .ok (.getfield 26, 3) := by decide +kernel
theorem dX5_pass_25 : decode cX5_pass 25 = .ok (.getfield 130, 3) := by decide +kernel
theorem dX5_pass_28 : decode cX5_pass 28 = .ok (.istore_n 2, 1) := by decide +kernel
theorem dX5_pass_29 : decode cX5_pass 29 = .ok (.aload_n 0, 1) := by decide +kernel
theorem dX5_pass_30 : decode cX5_pass 30 = .ok (.getfield 26, 3) := by decide +kernel
theorem dX5_pass_33 : decode cX5_pass 33 = .ok (.iload_n 1, 1) := by decide +kernel
theorem dX5_pass_34 : decode cX5_pass 34 = .ok (.aload_n 0, 1) := by decide +kernel
theorem dX5_pass_35 : decode cX5_pass 35 = .ok (.getfield 12, 3) := by decide +kernel
theorem dX5_pass_38 : decode cX5_pass 38 = .ok (.aload_n 0, 1) := by decide +kernel
theorem dX5_pass_39 : decode cX5_pass 39 = .ok (.getfield 19, 3) := by decide +kernel
theorem dX5_pass_42 : decode cX5_pass 42 = .ok (.invokevirtual 133, 3) := by decide +kernel
theorem dX5_pass_45 : decode cX5_pass 45 = .ok (.aload_n 0, 1) := by decide +kernel
theorem dX5_pass_46 : decode cX5_pass 46 = .ok (.getfield 26, 3) := by decide +kernel
theorem dX5_pass_49 : decode cX5_pass 49 = .ok (.getfield 130, 3) := by decide +kernel
theorem dX5_pass_52 : decode cX5_pass 52 = .ok (.iload_n 2, 1) := by decide +kernel
theorem dX5_pass_53 : decode cX5_pass 53 = .ok (.isub, 1) := by decide +kernel
theorem dX5_pass_54 : decode cX5_pass 54 = .ok (.ireturn, 1) := by decide +kernel
set_option maxRecDepth 20000 in
theorem ggX5_soot_X5_isColumn : GoodIn wsX5_soot wsX5_isColumn := goodIn_r _ [7] (by decide +kernel) (by decide +kernel)
set_option maxRecDepth 20000 in
theorem gX5_soot_X5_isColumn : GoodIn wsX5_soot (va_wsS RX5 58 yX5_isColumn wsX5_isColumn) := goodIn_app (goodIn_of _ (by decide +kernel)) ggX5_soot_X5_isColumn
set_option maxRecDepth 20000 in
theorem ggX5_soot_X2_at : GoodIn wsX5_soot wsX2_at := goodIn_r _ [12, 13, 24] (by decide +kernel) (by decide +kernel)
set_option maxRecDepth 20000 in
theorem gX5_soot_X2_at : GoodIn wsX5_soot (wsV RX5 139 RX2 yX2_at wsX2_at) := goodIn_app (goodIn_of _ (by decide +kernel)) ggX5_soot_X2_at
theorem dX5_soot_0 : decode cX5_soot 0 = .ok (.iload_n 1, 1) := by decide +kernel
theorem dX5_soot_1 : decode cX5_soot 1 = .ok (.invokestatic 58, 3) := by decide +kernel
theorem dX5_soot_4 : decode cX5_soot 4 = .ok (.ifCond .eq 13, 3) := by decide +kernel
theorem dX5_soot_7 : decode cX5_soot 7 = .ok (.iload_n 2, 1) := by decide +kernel
theorem dX5_soot_8 : decode cX5_soot 8 = .ok (.ifCond .lt 9, 3) := by decide +kernel
theorem dX5_soot_11 : decode cX5_soot 11 = .ok (.iload_n 2, 1) := by decide +kernel
theorem dX5_soot_12 : decode cX5_soot 12 = .ok (.bipush 8, 2) := by decide +kernel
theorem dX5_soot_14 : decode cX5_soot 14 = .ok (.if_icmp .lt 13, 3) := by decide +kernel
theorem dX5_soot_17 : decode cX5_soot 17 = .ok (.new 40, 3) := by decide +kernel
theorem dX5_soot_20 : decode cX5_soot 20 = .ok (.dup, 1) := by decide +kernel
theorem dX5_soot_21 : decode cX5_soot 21 = .ok (.ldc 137, 2) := by decide +kernel
theorem dX5_soot_23 : decode cX5_soot 23 = .ok (.invokespecial 44, 3) := by decide +kernel
theorem dX5_soot_26 : decode cX5_soot 26 = .ok (.athrow, 1) := by decide +kernel
theorem dX5_soot_27 : decode cX5_soot 27 = .ok (.aload_n 0, 1) := by decide +kernel
theorem dX5_soot_28 : decode cX5_soot 28 = .ok (.getfield 26, 3) := by decide +kernel
theorem dX5_soot_31 : decode cX5_soot 31 = .ok (.getfield 120, 3) := by decide +kernel
theorem dX5_soot_34 : decode cX5_soot 34 = .ok (.iload_n 1, 1) := by decide +kernel
theorem dX5_soot_35 : decode cX5_soot 35 = .ok (.iload_n 2, 1) := by decide +kernel
theorem dX5_soot_36 : decode cX5_soot 36 = .ok (.invokevirtual 139, 3) := by decide +kernel
theorem dX5_soot_39 : decode cX5_soot 39 = .ok (.ireturn, 1) := by decide +kernel
set_option maxRecDepth 20000 in
theorem ggX5_about_X5_isWindow : GoodIn wsX5_about wsX5_isWindow := goodIn_r _ [9, 3, 46, 47, 48, 49, 56, 57, 58, 59, 60, 61] (by decide +kernel) (by decide +kernel)
set_option maxRecDepth 20000 in
theorem gX5_about_X5_isWindow : GoodIn wsX5_about (wsV RX5 115 RX5 yX5_isWindow wsX5_isWindow) := goodIn_app (goodIn_of _ (by decide +kernel)) ggX5_about_X5_isWindow
set_option maxRecDepth 20000 in
theorem ggX5_about_X4_number : GoodIn wsX5_about wsX4_number := goodIn_r _ [14, 15, 16, 17, 18, 19, 20, 21, 22, 13, 23, 24, 25, 26, 27, 28, 29, 30, 31, 32, 33, 34, 35, 36, 37, 38, 39, 40, 41, 42, 43, 44, 45, 56, 57, 58, 59, 60, 61, 62] (by decide +kernel) (by decide +kernel)
set_option maxRecDepth 20000 in
theorem gX5_about_X4_number : GoodIn wsX5_about (wsV RX5 146 RX4 yX4_number wsX4_number) := goodIn_app (goodIn_of _ (by decide +kernel)) ggX5_about_X4_number
theorem dX5_about_0 : decode cX5_about 0 = .ok (.aload_n 0, 1) := by decide +kernel
theorem dX5_about_1 : decode cX5_about 1 = .ok (.iload_n 1, 1) := by decide +kernel
theorem dX5_about_2 : decode cX5_about 2 = .ok (.invokevirtual 115, 3) := by decide +kernel
theorem dX5_about_5 : decode cX5_about 5 = .ok (.ifCond .eq 13, 3) := by decide +kernel
theorem dX5_about_8 : decode cX5_about 8 = .ok (.iload_n 2, 1) := by decide +kernel
theorem dX5_about_9 : decode cX5_about 9 = .ok (.ifCond .lt 9, 3) := by decide +kernel
theorem dX5_about_12 : decode cX5_about 12 = .ok (.iload_n 2, 1) := by decide +kernel
theorem dX5_about_13 : decode cX5_about 13 = .ok (.bipush 8, 2) := by decide +kernel
theorem dX5_about_15 : decode cX5_about 15 = .ok (.if_icmp .lt 13, 3) := by decide +kernel
theorem dX5_about_18 : decode cX5_about 18 = .ok (.new 40, 3) := by decide +kernel
theorem dX5_about_21 : decode cX5_about 21 = .ok (.dup, 1) := by decide +kernel
theorem dX5_about_22 : decode cX5_about 22 = .ok (.ldc 144, 2) := by decide +kernel
theorem dX5_about_24 : decode cX5_about 24 = .ok (.invokespecial 44, 3) := by decide +kernel
theorem dX5_about_27 : decode cX5_about 27 = .ok (.athrow, 1) := by decide +kernel
theorem dX5_about_28 : decode cX5_about 28 = .ok (.aload_n 0, 1) := by decide +kernel
theorem dX5_about_29 : decode cX5_about 29 = .ok (.getfield 12, 3) := by decide +kernel
theorem dX5_about_32 : decode cX5_about 32 = .ok (.iload_n 1, 1) := by decide +kernel
theorem dX5_about_33 : decode cX5_about 33 = .ok (.iload_n 2, 1) := by decide +kernel
theorem dX5_about_34 : decode cX5_about 34 = .ok (.aload_n 0, 1) := by decide +kernel
theorem dX5_about_35 : decode cX5_about 35 = .ok (.getfield 26, 3) := by decide +kernel
theorem dX5_about_38 : decode cX5_about 38 = .ok (.getfield 120, 3) := by decide +kernel
theorem dX5_about_41 : decode cX5_about 41 = .ok (.invokevirtual 146, 3) := by decide +kernel
theorem dX5_about_44 : decode cX5_about 44 = .ok (.ireturn, 1) := by decide +kernel
set_option maxRecDepth 20000 in
theorem ggX5_told_X5_isRope : GoodIn wsX5_told wsX5_isRope := goodIn_r _ [8, 3, 20, 21, 22, 23, 24, 25, 26, 27, 28, 29, 30, 31, 32, 33, 34, 35, 36] (by decide +kernel) (by decide +kernel)
set_option maxRecDepth 20000 in
theorem gX5_told_X5_isRope : GoodIn wsX5_told (wsV RX5 94 RX5 yX5_isRope wsX5_isRope) := goodIn_app (goodIn_of _ (by decide +kernel)) ggX5_told_X5_isRope
set_option maxRecDepth 20000 in
theorem ggX5_told_X3_number : GoodIn wsX5_told wsX3_number := goodIn_r _ [13, 14, 15, 16, 17, 18, 19, 30, 31, 32, 33, 34, 35, 36] (by decide +kernel) (by decide +kernel)
set_option maxRecDepth 20000 in
theorem gX5_told_X3_number : GoodIn wsX5_told (wsV RX5 152 RX3 yX3_number wsX3_number) := goodIn_app (goodIn_of _ (by decide +kernel)) ggX5_told_X3_number
theorem dX5_told_0 : decode cX5_told 0 = .ok (.aload_n 0, 1) := by decide +kernel
theorem dX5_told_1 : decode cX5_told 1 = .ok (.iload_n 1, 1) := by decide +kernel
theorem dX5_told_2 : decode cX5_told 2 = .ok (.invokevirtual 94, 3) := by decide +kernel
theorem dX5_told_5 : decode cX5_told 5 = .ok (.ifCond .eq 13, 3) := by decide +kernel
theorem dX5_told_8 : decode cX5_told 8 = .ok (.iload_n 2, 1) := by decide +kernel
theorem dX5_told_9 : decode cX5_told 9 = .ok (.ifCond .lt 9, 3) := by decide +kernel
theorem dX5_told_12 : decode cX5_told 12 = .ok (.iload_n 2, 1) := by decide +kernel
theorem dX5_told_13 : decode cX5_told 13 = .ok (.bipush 6, 2) := by decide +kernel
theorem dX5_told_15 : decode cX5_told 15 = .ok (.if_icmp .lt 13, 3) := by decide +kernel
theorem dX5_told_18 : decode cX5_told 18 = .ok (.new 40, 3) := by decide +kernel
theorem dX5_told_21 : decode cX5_told 21 = .ok (.dup, 1) := by decide +kernel
theorem dX5_told_22 : decode cX5_told 22 = .ok (.ldc 150, 2) := by decide +kernel
theorem dX5_told_24 : decode cX5_told 24 = .ok (.invokespecial 44, 3) := by decide +kernel
theorem dX5_told_27 : decode cX5_told 27 = .ok (.athrow, 1) := by decide +kernel
theorem dX5_told_28 : decode cX5_told 28 = .ok (.aload_n 0, 1) := by decide +kernel
theorem dX5_told_29 : decode cX5_told 29 = .ok (.getfield 26, 3) := by decide +kernel
theorem dX5_told_32 : decode cX5_told 32 = .ok (.getfield 66, 3) := by decide +kernel
theorem dX5_told_35 : decode cX5_told 35 = .ok (.iload_n 1, 1) := by decide +kernel
theorem dX5_told_36 : decode cX5_told 36 = .ok (.iload_n 2, 1) := by decide +kernel
theorem dX5_told_37 : decode cX5_told 37 = .ok (.invokevirtual 152, 3) := by decide +kernel
theorem dX5_told_40 : decode cX5_told 40 = .ok (.ireturn, 1) := by decide +kernel
set_option maxRecDepth 20000 in
theorem ggX5_count_X5_number : GoodIn wsX5_count wsX5_number := goodIn_r _ [7, 8, 9, 10, 11, 12, 13, 14, 15, 16, 17, 18, 19, 20, 21, 22, 23, 24, 25, 26, 27, 28, 29, 30, 31, 32, 33, 34, 35, 36, 37, 38, 39, 40, 41, 42, 43, 44, 45, 46, 47, 48, 49, 50, 51, 52, 53, 54, 55, 56, 57, 58, 59, 60, 61, 62, 63, 64, 65, 66, 67, 68, 69, 70, 71, 72, 73, 74, 75, 76, 77, 78, 79, 80, 81, 82, 83, 84, 85] (by decide +kernel) (by decide +kernel)
set_option maxRecDepth 20000 in
theorem gX5_count_X5_number : GoodIn wsX5_count (wsV RX5 156 RX5 yX5_number wsX5_number) := goodIn_app (goodIn_of _ (by decide +kernel)) ggX5_count_X5_number
theorem dX5_count_0 : decode cX5_count 0 = .ok (.iload_n 1, 1) := by decide +kernel
theorem dX5_count_1 : decode cX5_count 1 = .ok (.ifCond .lt 9, 3) := by decide +kernel
theorem dX5_count_4 : decode cX5_count 4 = .ok (.iload_n 1, 1) := by decide +kernel
theorem dX5_count_5 : decode cX5_count 5 = .ok (.bipush 11, 2) := by decide +kernel
theorem dX5_count_7 : decode cX5_count 7 = .ok (.if_icmp .lt 13, 3) := by decide +kernel
theorem dX5_count_10 : decode cX5_count 10 = .ok (.new 40, 3) := by decide +kernel
theorem dX5_count_13 : decode cX5_count 13 = .ok (.dup, 1) := by decide +kernel
theorem dX5_count_14 : decode cX5_count 14 = .ok (.ldc 154, 2) := by decide +kernel
theorem dX5_count_16 : decode cX5_count 16 = .ok (.invokespecial 44, 3) := by decide +kernel
theorem dX5_count_19 : decode cX5_count 19 = .ok (.athrow, 1) := by decide +kernel
theorem dX5_count_20 : decode cX5_count 20 = .ok (.aload_n 0, 1) := by decide +kernel
theorem dX5_count_21 : decode cX5_count 21 = .ok (.iload_n 1, 1) := by decide +kernel
theorem dX5_count_22 : decode cX5_count 22 = .ok (.invokevirtual 156, 3) := by decide +kernel
theorem dX5_count_25 : decode cX5_count 25 = .ok (.ireturn, 1) := by decide +kernel
set_option maxRecDepth 20000 in
theorem ggX5_isFeast_X1_areOn : GoodIn wsX5_isFeast wsX1_areOn := goodIn_r _ [9, 10, 11, 12, 23, 24, 25] (by decide +kernel) (by decide +kernel)
set_option maxRecDepth 20000 in
theorem gX5_isFeast_X1_areOn : GoodIn wsX5_isFeast (wsV RX5 162 RX1 yX1_areOn wsX1_areOn) := goodIn_app (goodIn_of _ (by decide +kernel)) ggX5_isFeast_X1_areOn
theorem dX5_isFeast_0 : decode cX5_isFeast 0 = .ok (.iload_n 1, 1) := by decide +kernel
theorem dX5_isFeast_1 : decode cX5_isFeast 1 = .ok (.ifCond .lt 9, 3) := by decide +kernel
theorem dX5_isFeast_4 : decode cX5_isFeast 4 = .ok (.iload_n 1, 1) := by decide +kernel
theorem dX5_isFeast_5 : decode cX5_isFeast 5 = .ok (.bipush 60, 2) := by decide +kernel
theorem dX5_isFeast_7 : decode cX5_isFeast 7 = .ok (.if_icmp .le 13, 3) := by decide +kernel
theorem dX5_isFeast_10 : decode cX5_isFeast 10 = .ok (.new 33, 3) := by decide +kernel
theorem dX5_isFeast_13 : decode cX5_isFeast 13 = .ok (.dup, 1) := by decide +kernel
theorem dX5_isFeast_14 : decode cX5_isFeast 14 = .ok (.ldc 128, 2) := by decide +kernel
theorem dX5_isFeast_16 : decode cX5_isFeast 16 = .ok (.invokespecial 37, 3) := by decide +kernel
theorem dX5_isFeast_19 : decode cX5_isFeast 19 = .ok (.athrow, 1) := by decide +kernel
theorem dX5_isFeast_20 : decode cX5_isFeast 20 = .ok (.aload_n 0, 1) := by decide +kernel
theorem dX5_isFeast_21 : decode cX5_isFeast 21 = .ok (.getfield 19, 3) := by decide +kernel
theorem dX5_isFeast_24 : decode cX5_isFeast 24 = .ok (.aload_n 0, 1) := by decide +kernel
theorem dX5_isFeast_25 : decode cX5_isFeast 25 = .ok (.getfield 26, 3) := by decide +kernel
theorem dX5_isFeast_28 : decode cX5_isFeast 28 = .ok (.getfield 159, 3) := by decide +kernel
theorem dX5_isFeast_31 : decode cX5_isFeast 31 = .ok (.iload_n 1, 1) := by decide +kernel
theorem dX5_isFeast_32 : decode cX5_isFeast 32 = .ok (.iadd, 1) := by decide +kernel
theorem dX5_isFeast_33 : decode cX5_isFeast 33 = .ok (.invokevirtual 162, 3) := by decide +kernel
theorem dX5_isFeast_36 : decode cX5_isFeast 36 = .ok (.ireturn, 1) := by decide +kernel
set_option maxRecDepth 20000 in
theorem ggX5_next_X1_daysUntil : GoodIn wsX5_next wsX1_daysUntil := goodIn_r _ [7, 8, 9, 10, 6, 11, 12, 13, 14, 25, 26, 27] (by decide +kernel) (by decide +kernel)
set_option maxRecDepth 20000 in
theorem gX5_next_X1_daysUntil : GoodIn wsX5_next (wsV RX5 165 RX1 yX1_daysUntil wsX1_daysUntil) := goodIn_app (goodIn_of _ (by decide +kernel)) ggX5_next_X1_daysUntil
theorem dX5_next_0 : decode cX5_next 0 = .ok (.aload_n 0, 1) := by decide +kernel
theorem dX5_next_1 : decode cX5_next 1 = .ok (.getfield 19, 3) := by decide +kernel
theorem dX5_next_4 : decode cX5_next 4 = .ok (.aload_n 0, 1) := by decide +kernel
theorem dX5_next_5 : decode cX5_next 5 = .ok (.getfield 26, 3) := by decide +kernel
theorem dX5_next_8 : decode cX5_next 8 = .ok (.getfield 159, 3) := by decide +kernel
theorem dX5_next_11 : decode cX5_next 11 = .ok (.invokevirtual 165, 3) := by decide +kernel
theorem dX5_next_14 : decode cX5_next 14 = .ok (.ireturn, 1) := by decide +kernel
set_option maxRecDepth 20000 in
theorem ggX5_would_X0_copyFrom : GoodIn wsX5_would wsX0_copyFrom := goodIn_r _ [13, 14, 15, 16, 17, 18, 19, 20, 21, 22, 23, 24, 25, 26, 27, 28, 29, 30, 31, 32, 33, 34, 35, 36, 37, 38, 39, 40, 41, 136, 137, 138, 139, 140, 141, 142, 143, 144, 145, 146, 147, 148, 149] (by decide +kernel) (by decide +kernel)
set_option maxRecDepth 20000 in
theorem gX5_would_X0_copyFrom : GoodIn wsX5_would (wsV RX5 168 RX0 yX0_copyFrom wsX0_copyFrom) := goodIn_app (goodIn_of _ (by decide +kernel)) ggX5_would_X0_copyFrom
set_option maxRecDepth 20000 in
theorem ggX5_would_X0_goOn : GoodIn wsX5_would wsX0_goOn := goodIn_r _ [45, 46, 47, 48, 12, 49, 14, 16, 17, 18, 19, 15, 50, 51, 52, 23, 53, 25, 54, 55, 56, 57, 58, 59, 60, 61, 62, 63, 64, 65, 66, 67, 68, 69, 70, 71, 72, 73, 74, 75, 76, 77, 78, 79, 80, 81, 82, 83, 84, 85, 86, 87, 88, 89, 90, 91, 92, 93, 94, 95, 96, 97, 98, 99, 100, 101, 102, 33, 103, 35, 104, 105, 106, 107, 38, 36, 37, 40, 108, 109, 110, 111, 112, 113, 114, 115, 39, 116, 117, 118, 119, 120, 121, 122, 123, 41, 136, 137, 138, 139, 140, 141, 142, 150, 151, 152, 153, 154, 155, 156, 157, 158, 143, 144, 145, 146, 147, 148, 149] (by decide +kernel) (by decide +kernel)
set_option maxRecDepth 20000 in
theorem gX5_would_X0_goOn : GoodIn wsX5_would (wsV RX5 133 RX0 yX0_goOn wsX0_goOn) := goodIn_app (goodIn_of _ (by decide +kernel)) ggX5_would_X0_goOn
set_option maxRecDepth 20000 in
theorem ggX5_would_X2_total : GoodIn wsX5_would wsX2_total := goodIn_r _ [127, 25, 142] (by decide +kernel) (by decide +kernel)
set_option maxRecDepth 20000 in
theorem gX5_would_X2_total : GoodIn wsX5_would (wsV RX5 172 RX2 yX2_total wsX2_total) := goodIn_app (goodIn_of _ (by decide +kernel)) ggX5_would_X2_total
set_option maxRecDepth 20000 in
theorem ggX5_would_X3_allCleaned : GoodIn wsX5_would wsX3_allCleaned := goodIn_r _ [131, 35, 40, 143, 144, 145, 146, 147, 148, 149] (by decide +kernel) (by decide +kernel)
set_option maxRecDepth 20000 in
theorem gX5_would_X3_allCleaned : GoodIn wsX5_would (wsV RX5 176 RX3 yX3_allCleaned wsX3_allCleaned) := goodIn_app (goodIn_of _ (by decide +kernel)) ggX5_would_X3_allCleaned
theorem dX5_would_0 : decode cX5_would 0 = .ok (.iload_n 1, 1) := by decide +kernel
theorem dX5_would_1 : decode cX5_would 1 = .ok (.iconst 1, 1) := by decide +kernel
theorem dX5_would_2 : decode cX5_would 2 = .ok (.if_icmp .lt 9, 3) := by decide +kernel
theorem dX5_would_5 : decode cX5_would 5 = .ok (.iload_n 1, 1) := by decide +kernel
theorem dX5_would_6 : decode cX5_would 6 = .ok (.bipush 40, 2) := by decide +kernel
theorem dX5_would_8 : decode cX5_would 8 = .ok (.if_icmp .le 13, 3) := by decide +kernel
theorem dX5_would_11 : decode cX5_would 11 = .ok (.new 33, 3) := by decide +kernel
theorem dX5_would_14 : decode cX5_would 14 = .ok (.dup, 1) := by decide +kernel
theorem dX5_would_15 : decode cX5_would 15 = .ok (.ldc 128, 2) := by decide +kernel
theorem dX5_would_17 : decode cX5_would 17 = .ok (.invokespecial 37, 3) := by decide +kernel
theorem dX5_would_20 : decode cX5_would 20 = .ok (.athrow, 1) := by decide +kernel
theorem dX5_would_21 : decode cX5_would 21 = .ok (.iload_n 2, 1) := by decide +kernel
theorem dX5_would_22 : decode cX5_would 22 = .ok (.ifCond .lt 8, 3) := by decide +kernel
theorem dX5_would_25 : decode cX5_would 25 = .ok (.iload_n 2, 1) := by decide +kernel
theorem dX5_would_26 : decode cX5_would 26 = .ok (.iconst 3, 1) := by decide +kernel
theorem dX5_would_27 : decode cX5_would 27 = .ok (.if_icmp .lt 13, 3) := by decide +kernel
theorem dX5_would_30 : decode cX5_would 30 = .ok (.new 40, 3) := by decide +kernel
theorem dX5_would_33 : decode cX5_would 33 = .ok (.dup, 1) := by decide +kernel
theorem dX5_would_34 : decode cX5_would 34 = .ok (.ldc 154, 2) := by decide +kernel
theorem dX5_would_36 : decode cX5_would 36 = .ok (.invokespecial 44, 3) := by decide +kernel
theorem dX5_would_39 : decode cX5_would 39 = .ok (.athrow, 1) := by decide +kernel
theorem dX5_would_40 : decode cX5_would 40 = .ok (.aload_n 0, 1) := by decide +kernel
theorem dX5_would_41 : decode cX5_would 41 = .ok (.getfield 30, 3) := by decide +kernel
theorem dX5_would_44 : decode cX5_would 44 = .ok (.aload_n 0, 1) := by decide +kernel
theorem dX5_would_45 : decode cX5_would 45 = .ok (.getfield 26, 3) := by decide +kernel
theorem dX5_would_48 : decode cX5_would 48 = .ok (.invokevirtual 168, 3) := by decide +kernel
theorem dX5_would_51 : decode cX5_would 51 = .ok (.aload_n 0, 1) := by decide +kernel
theorem dX5_would_52 : decode cX5_would 52 = .ok (.getfield 30, 3) := by decide +kernel
theorem dX5_would_55 : decode cX5_would 55 = .ok (.iload_n 1, 1) := by decide +kernel
theorem dX5_would_56 : decode cX5_would 56 = .ok (.aload_n 0, 1) := by decide +kernel
theorem dX5_would_57 : decode cX5_would 57 = .ok (.getfield 12, 3) := by decide +kernel
theorem dX5_would_60 : decode cX5_would 60 = .ok (.aload_n 0, 1) := by decide +kernel
theorem dX5_would_61 : decode cX5_would 61 = .ok (.getfield 19, 3) := by decide +kernel
theorem dX5_would_64 : decode cX5_would 64 = .ok (.invokevirtual 133, 3) := by decide +kernel
theorem dX5_would_67 : decode cX5_would 67 = .ok (.iload_n 2, 1) := by decide +kernel
theorem dX5_would_68 : decode cX5_would 68 = .ok (.lookupswitch 47 #[(0, 28), (1, 39)], 28) := by decide +kernel
theorem dX5_would_96 : decode cX5_would 96 = .ok (.aload_n 0, 1) := by decide +kernel
theorem dX5_would_97 : decode cX5_would 97 = .ok (.getfield 30, 3) := by decide +kernel
theorem dX5_would_100 : decode cX5_would 100 = .ok (.getfield 120, 3) := by decide +kernel
theorem dX5_would_103 : decode cX5_would 103 = .ok (.invokevirtual 172, 3) := by decide +kernel
theorem dX5_would_106 : decode cX5_would 106 = .ok (.ireturn, 1) := by decide +kernel
theorem dX5_would_107 : decode cX5_would 107 = .ok (.aload_n 0, 1) := by decide +kernel
theorem dX5_would_108 : decode cX5_would 108 = .ok (.getfield 30, 3) := by decide +kernel
theorem dX5_would_111 : decode cX5_would 111 = .ok (.getfield 130, 3) := by decide +kernel
theorem dX5_would_114 : decode cX5_would 114 = .ok (.ireturn, 1) := by decide +kernel
theorem dX5_would_115 : decode cX5_would 115 = .ok (.aload_n 0, 1) := by decide +kernel
theorem dX5_would_116 : decode cX5_would 116 = .ok (.getfield 30, 3) := by decide +kernel
theorem dX5_would_119 : decode cX5_would 119 = .ok (.getfield 66, 3) := by decide +kernel
theorem dX5_would_122 : decode cX5_would 122 = .ok (.invokevirtual 176, 3) := by decide +kernel
theorem dX5_would_125 : decode cX5_would 125 = .ok (.ireturn, 1) := by decide +kernel
set_option maxRecDepth 20000 in
theorem ggX5_until_X5_isWindow : GoodIn wsX5_until wsX5_isWindow := goodIn_r _ [11, 5, 127, 128, 129, 130, 137, 138, 139, 140, 141, 142] (by decide +kernel) (by decide +kernel)
set_option maxRecDepth 20000 in
theorem gX5_until_X5_isWindow : GoodIn wsX5_until (wsV RX5 115 RX5 yX5_isWindow wsX5_isWindow) := goodIn_app (goodIn_of _ (by decide +kernel)) ggX5_until_X5_isWindow
set_option maxRecDepth 20000 in
theorem ggX5_until_X0_copyFrom : GoodIn wsX5_until wsX0_copyFrom := goodIn_r _ [16, 17, 18, 19, 20, 21, 22, 23, 24, 25, 26, 27, 28, 29, 30, 31, 32, 33, 34, 35, 36, 37, 38, 39, 40, 41, 42, 43, 44, 131, 132, 133, 134, 135, 136, 143, 144, 145, 146, 147, 148, 149, 150] (by decide +kernel) (by decide +kernel)
set_option maxRecDepth 20000 in
theorem gX5_until_X0_copyFrom : GoodIn wsX5_until (wsV RX5 168 RX0 yX0_copyFrom wsX0_copyFrom) := goodIn_app (goodIn_of _ (by decide +kernel)) ggX5_until_X0_copyFrom
set_option maxRecDepth 20000 in
theorem ggX5_until_X4_isClean : GoodIn wsX5_until wsX4_isClean := goodIn_r _ [49, 50, 51, 52, 48, 53, 54, 55, 56, 57, 58, 59, 60, 26, 61, 28, 62, 63, 64, 65, 137, 138, 139, 140, 141, 142, 143] (by decide +kernel) (by decide +kernel)
set_option maxRecDepth 20000 in
theorem gX5_until_X4_isClean : GoodIn wsX5_until (wsV RX5 179 RX4 yX4_isClean wsX4_isClean) := goodIn_app (goodIn_of _ (by decide +kernel)) ggX5_until_X4_isClean
set_option maxRecDepth 20000 in
theorem ggX5_until_X0_goOneDay : GoodIn wsX5_until wsX0_goOneDay := goodIn_r _ [69, 17, 19, 20, 21, 22, 18, 70, 71, 72, 26, 73, 28, 74, 75, 76, 77, 78, 79, 80, 81, 82, 83, 84, 85, 86, 87, 88, 89, 90, 91, 92, 93, 94, 48, 95, 96, 97, 98, 99, 100, 101, 102, 62, 63, 64, 65, 55, 57, 50, 51, 52, 53, 54, 56, 58, 59, 60, 61, 103, 104, 105, 36, 106, 38, 107, 108, 109, 110, 41, 39, 40, 43, 111, 112, 113, 114, 115, 116, 117, 118, 42, 119, 120, 121, 122, 123, 124, 125, 126, 44, 131, 132, 133, 134, 135, 136, 143, 151, 152, 153, 137, 138, 139, 140, 141, 142, 144, 145, 146, 147, 148, 149, 150] (by decide +kernel) (by decide +kernel)
set_option maxRecDepth 20000 in
theorem gX5_until_X0_goOneDay : GoodIn wsX5_until (wsV RX5 183 RX0 yX0_goOneDay wsX0_goOneDay) := goodIn_app (goodIn_of _ (by decide +kernel)) ggX5_until_X0_goOneDay
theorem dX5_until_0 : decode cX5_until 0 = .ok (.aload_n 0, 1) := by decide +kernel
theorem dX5_until_1 : decode cX5_until 1 = .ok (.iload_n 1, 1) := by decide +kernel
theorem dX5_until_2 : decode cX5_until 2 = .ok (.invokevirtual 115, 3) := by decide +kernel
theorem dX5_until_5 : decode cX5_until 5 = .ok (.ifCond .ne 13, 3) := by decide +kernel
theorem dX5_until_8 : decode cX5_until 8 = .ok (.new 40, 3) := by decide +kernel
theorem dX5_until_11 : decode cX5_until 11 = .ok (.dup, 1) := by decide +kernel
theorem dX5_until_12 : decode cX5_until 12 = .ok (.ldc 118, 2) := by decide +kernel
theorem dX5_until_14 : decode cX5_until 14 = .ok (.invokespecial 44, 3) := by decide +kernel
theorem dX5_until_17 : decode cX5_until 17 = .ok (.athrow, 1) := by decide +kernel
theorem dX5_until_18 : decode cX5_until 18 = .ok (.aload_n 0, 1) := by decide +kernel
theorem dX5_until_19 : decode cX5_until 19 = .ok (.getfield 30, 3) := by decide +kernel
theorem dX5_until_22 : decode cX5_until 22 = .ok (.aload_n 0, 1) := by decide +kernel
theorem dX5_until_23 : decode cX5_until 23 = .ok (.getfield 26, 3) := by decide +kernel
theorem dX5_until_26 : decode cX5_until 26 = .ok (.invokevirtual 168, 3) := by decide +kernel
theorem dX5_until_29 : decode cX5_until 29 = .ok (.iconst 0, 1) := by decide +kernel
theorem dX5_until_30 : decode cX5_until 30 = .ok (.istore_n 2, 1) := by decide +kernel
theorem dX5_until_31 : decode cX5_until 31 = .ok (.iload_n 2, 1) := by decide +kernel
theorem dX5_until_32 : decode cX5_until 32 = .ok (.bipush 60, 2) := by decide +kernel
theorem dX5_until_34 : decode cX5_until 34 = .ok (.if_icmp .gt 44, 3) := by decide +kernel
theorem dX5_until_37 : decode cX5_until 37 = .ok (.aload_n 0, 1) := by decide +kernel
theorem dX5_until_38 : decode cX5_until 38 = .ok (.getfield 12, 3) := by decide +kernel
theorem dX5_until_41 : decode cX5_until 41 = .ok (.iload_n 1, 1) := by decide +kernel
theorem dX5_until_42 : decode cX5_until 42 = .ok (.aload_n 0, 1) := by decide +kernel
theorem dX5_until_43 : decode cX5_until 43 = .ok (.getfield 30, 3) := by decide +kernel
theorem dX5_until_46 : decode cX5_until 46 = .ok (.getfield 120, 3) := by decide +kernel
theorem dX5_until_49 : decode cX5_until 49 = .ok (.invokevirtual 179, 3) := by decide +kernel
theorem dX5_until_52 : decode cX5_until 52 = .ok (.ifCond .eq 5, 3) := by decide +kernel
theorem dX5_until_55 : decode cX5_until 55 = .ok (.iload_n 2, 1) := by decide +kernel
theorem dX5_until_56 : decode cX5_until 56 = .ok (.ireturn, 1) := by decide +kernel
theorem dX5_until_57 : decode cX5_until 57 = .ok (.aload_n 0, 1) := by decide +kernel
theorem dX5_until_58 : decode cX5_until 58 = .ok (.getfield 30, 3) := by decide +kernel
theorem dX5_until_61 : decode cX5_until 61 = .ok (.aload_n 0, 1) := by decide +kernel
theorem dX5_until_62 : decode cX5_until 62 = .ok (.getfield 12, 3) := by decide +kernel
theorem dX5_until_65 : decode cX5_until 65 = .ok (.aload_n 0, 1) := by decide +kernel
theorem dX5_until_66 : decode cX5_until 66 = .ok (.getfield 19, 3) := by decide +kernel
theorem dX5_until_69 : decode cX5_until 69 = .ok (.invokevirtual 183, 3) := by decide +kernel
theorem dX5_until_72 : decode cX5_until 72 = .ok (.iinc 2 1, 3) := by decide +kernel
theorem dX5_until_75 : decode cX5_until 75 = .ok (.goto (-44), 3) := by decide +kernel
theorem dX5_until_78 : decode cX5_until 78 = .ok (.iconst (-1), 1) := by decide +kernel
theorem dX5_until_79 : decode cX5_until 79 = .ok (.ireturn, 1) := by decide +kernel
set_option maxRecDepth 20000 in
theorem ggX5_advise_X5_isRope : GoodIn wsX5_advise wsX5_isRope := goodIn_r _ [11, 6, 136, 137, 138, 139, 140, 141, 142, 143, 144, 145, 146, 147, 148, 149, 150, 151, 152] (by decide +kernel) (by decide +kernel)
set_option maxRecDepth 20000 in
theorem gX5_advise_X5_isRope : GoodIn wsX5_advise (wsV RX5 94 RX5 yX5_isRope wsX5_isRope) := goodIn_app (goodIn_of _ (by decide +kernel)) ggX5_advise_X5_isRope
set_option maxRecDepth 20000 in
theorem ggX5_advise_X1_daysUntil : GoodIn wsX5_advise wsX1_daysUntil := goodIn_r _ [16, 17, 18, 19, 15, 20, 21, 22, 23, 153, 154, 155] (by decide +kernel) (by decide +kernel)
set_option maxRecDepth 20000 in
theorem gX5_advise_X1_daysUntil : GoodIn wsX5_advise (wsV RX5 165 RX1 yX1_daysUntil wsX1_daysUntil) := goodIn_app (goodIn_of _ (by decide +kernel)) ggX5_advise_X1_daysUntil
set_option maxRecDepth 20000 in
theorem ggX5_advise_X5_coinsBehind : GoodIn wsX5_advise wsX5_coinsBehind := goodIn_r _ [27, 28, 6, 29, 5, 30, 31, 32, 33, 34, 35, 36, 37, 38, 39, 40, 41, 42, 43, 44, 45, 46, 47, 48, 49, 50, 51, 52, 53, 54, 55, 56, 57, 58, 59, 60, 61, 62, 63, 64, 65, 66, 67, 68, 69, 70, 71, 72, 73, 74, 75, 76, 77, 78, 79, 80, 81, 82, 83, 84, 85, 18, 19, 15, 20, 21, 22, 23, 86, 87, 88, 89, 90, 91, 92, 93, 94, 95, 96, 97, 98, 99, 100, 101, 102, 103, 104, 105, 106, 107, 108, 109, 110, 111, 112, 113, 114, 115, 116, 117, 118, 119, 120, 121, 122, 123, 124, 125, 126, 127, 128, 129, 130, 131, 132, 133, 134, 136, 137, 138, 139, 140, 141, 142, 143, 144, 145, 146, 147, 148, 149, 150, 151, 152, 156, 153, 154, 155, 157, 158, 159, 160, 161, 162] (by decide +kernel) (by decide +kernel)
set_option maxRecDepth 20000 in
theorem gX5_advise_X5_coinsBehind : GoodIn wsX5_advise (wsV RX5 189 RX5 yX5_coinsBehind wsX5_coinsBehind) := goodIn_app (goodIn_of _ (by decide +kernel)) ggX5_advise_X5_coinsBehind
set_option maxRecDepth 20000 in
theorem ggX5_advise_X3_hangAt : GoodIn wsX5_advise wsX3_hangAt := goodIn_r _ [133, 56, 57, 146, 147, 148, 149, 150, 151, 152] (by decide +kernel) (by decide +kernel)
set_option maxRecDepth 20000 in
theorem gX5_advise_X3_hangAt : GoodIn wsX5_advise (wsV RX5 73 RX3 yX3_hangAt wsX3_hangAt) := goodIn_app (goodIn_of _ (by decide +kernel)) ggX5_advise_X3_hangAt
theorem dX5_advise_0 : decode cX5_advise 0 = .ok (.aload_n 0, 1) := by decide +kernel
theorem dX5_advise_1 : decode cX5_advise 1 = .ok (.iload_n 1, 1) := by decide +kernel
theorem dX5_advise_2 : decode cX5_advise 2 = .ok (.invokevirtual 94, 3) := by decide +kernel
theorem dX5_advise_5 : decode cX5_advise 5 = .ok (.ifCond .ne 13, 3) := by decide +kernel
theorem dX5_advise_8 : decode cX5_advise 8 = .ok (.new 40, 3) := by decide +kernel
theorem dX5_advise_11 : decode cX5_advise 11 = .ok (.dup, 1) := by decide +kernel
theorem dX5_advise_12 : decode cX5_advise 12 = .ok (.ldc 109, 2) := by decide +kernel
theorem dX5_advise_14 : decode cX5_advise 14 = .ok (.invokespecial 44, 3) := by decide +kernel
theorem dX5_advise_17 : decode cX5_advise 17 = .ok (.athrow, 1) := by decide +kernel
theorem dX5_advise_18 : decode cX5_advise 18 = .ok (.aload_n 0, 1) := by decide +kernel
theorem dX5_advise_19 : decode cX5_advise 19 = .ok (.getfield 19, 3) := by decide +kernel
theorem dX5_advise_22 : decode cX5_advise 22 = .ok (.aload_n 0, 1) := by decide +kernel
theorem dX5_advise_23 : decode cX5_advise 23 = .ok (.getfield 26, 3) := by decide +kernel
theorem dX5_advise_26 : decode cX5_advise 26 = .ok (.getfield 159, 3) := by decide +kernel
theorem dX5_advise_29 : decode cX5_advise 29 = .ok (.invokevirtual 165, 3) := by decide +kernel
theorem dX5_advise_32 : decode cX5_advise 32 = .ok (.istore_n 2, 1) := by decide +kernel
theorem dX5_advise_33 : decode cX5_advise 33 = .ok (.iload_n 2, 1) := by decide +kernel
theorem dX5_advise_34 : decode cX5_advise 34 = .ok (.ifCond .ge 13, 3) := by decide +kernel
theorem dX5_advise_37 : decode cX5_advise 37 = .ok (.new 49, 3) := by decide +kernel
theorem dX5_advise_40 : decode cX5_advise 40 = .ok (.dup, 1) := by decide +kernel
theorem dX5_advise_41 : decode cX5_advise 41 = .ok (.ldc 187, 2) := by decide +kernel
theorem dX5_advise_43 : decode cX5_advise 43 = .ok (.invokespecial 53, 3) := by decide +kernel
theorem dX5_advise_46 : decode cX5_advise 46 = .ok (.athrow, 1) := by decide +kernel
theorem dX5_advise_47 : decode cX5_advise 47 = .ok (.aload_n 0, 1) := by decide +kernel
theorem dX5_advise_48 : decode cX5_advise 48 = .ok (.getfield 26, 3) := by decide +kernel
theorem dX5_advise_51 : decode cX5_advise 51 = .ok (.getfield 66, 3) := by decide +kernel
theorem dX5_advise_54 : decode cX5_advise 54 = .ok (.getfield 101, 3) := by decide +kernel
theorem dX5_advise_57 : decode cX5_advise 57 = .ok (.iload_n 1, 1) := by decide +kernel
theorem dX5_advise_58 : decode cX5_advise 58 = .ok (.iaload, 1) := by decide +kernel
theorem dX5_advise_59 : decode cX5_advise 59 = .ok (.istore_n 3, 1) := by decide +kernel
theorem dX5_advise_60 : decode cX5_advise 60 = .ok (.iload_n 3, 1) := by decide +kernel
theorem dX5_advise_61 : decode cX5_advise 61 = .ok (.istore 4, 2) := by decide +kernel
theorem dX5_advise_63 : decode cX5_advise 63 = .ok (.aload_n 0, 1) := by decide +kernel
theorem dX5_advise_64 : decode cX5_advise 64 = .ok (.iload_n 2, 1) := by decide +kernel
theorem dX5_advise_65 : decode cX5_advise 65 = .ok (.iconst 1, 1) := by decide +kernel
theorem dX5_advise_66 : decode cX5_advise 66 = .ok (.iadd, 1) := by decide +kernel
theorem dX5_advise_67 : decode cX5_advise 67 = .ok (.iload_n 1, 1) := by decide +kernel
theorem dX5_advise_68 : decode cX5_advise 68 = .ok (.iload_n 3, 1) := by decide +kernel
theorem dX5_advise_69 : decode cX5_advise 69 = .ok (.invokevirtual 189, 3) := by decide +kernel
theorem dX5_advise_72 : decode cX5_advise 72 = .ok (.istore 5, 2) := by decide +kernel
theorem dX5_advise_74 : decode cX5_advise 74 = .ok (.iconst 0, 1) := by decide +kernel
theorem dX5_advise_75 : decode cX5_advise 75 = .ok (.istore 6, 2) := by decide +kernel
theorem dX5_advise_77 : decode cX5_advise 77 = .ok (.iload 6, 2) := by decide +kernel
theorem dX5_advise_79 : decode cX5_advise 79 = .ok (.bipush 12, 2) := by decide +kernel
theorem dX5_advise_81 : decode cX5_advise 81 = .ok (.if_icmp .ge 68, 3) := by decide +kernel
theorem dX5_advise_84 : decode cX5_advise 84 = .ok (.aload_n 0, 1) := by decide +kernel
theorem dX5_advise_85 : decode cX5_advise 85 = .ok (.getfield 26, 3) := by decide +kernel
theorem dX5_advise_88 : decode cX5_advise 88 = .ok (.getfield 66, 3) := by decide +kernel
theorem dX5_advise_91 : decode cX5_advise 91 = .ok (.iload 6, 2) := by decide +kernel
theorem dX5_advise_93 : decode cX5_advise 93 = .ok (.invokevirtual 73, 3) := by decide +kernel
theorem dX5_advise_96 : decode cX5_advise 96 = .ok (.ifCond .eq 6, 3) := by decide +kernel
theorem dX5_advise_99 : decode cX5_advise 99 = .ok (.goto 44, 3) := by decide +kernel
theorem dX5_advise_102 : decode cX5_advise 102 = .ok (.aload_n 0, 1) := by decide +kernel
theorem dX5_advise_103 : decode cX5_advise 103 = .ok (.iload_n 2, 1) := by decide +kernel
theorem dX5_advise_104 : decode cX5_advise 104 = .ok (.iconst 1, 1) := by decide +kernel
theorem dX5_advise_105 : decode cX5_advise 105 = .ok (.iadd, 1) := by decide +kernel
theorem dX5_advise_106 : decode cX5_advise 106 = .ok (.iload_n 1, 1) := by decide +kernel
theorem dX5_advise_107 : decode cX5_advise 107 = .ok (.iload 6, 2) := by decide +kernel
theorem dX5_advise_109 : decode cX5_advise 109 = .ok (.invokevirtual 189, 3) := by decide +kernel
theorem dX5_advise_112 : decode cX5_advise 112 = .ok (.istore 7, 2) := by decide +kernel
theorem dX5_advise_114 : decode cX5_advise 114 = .ok (.iload 7, 2) := by decide +kernel
theorem dX5_advise_116 : decode cX5_advise 116 = .ok (.iload 5, 2) := by decide +kernel
theorem dX5_advise_118 : decode cX5_advise 118 = .ok (.if_icmp .gt 17, 3) := by decide +kernel
theorem dX5_advise_121 : decode cX5_advise 121 = .ok (.iload 7, 2) := by decide +kernel
theorem dX5_advise_123 : decode cX5_advise 123 = .ok (.iload 5, 2) := by decide +kernel
theorem dX5_advise_125 : decode cX5_advise 125 = .ok (.if_icmp .ne 18, 3) := by decide +kernel
theorem dX5_advise_128 : decode cX5_advise 128 = .ok (.iload 6, 2) := by decide +kernel
theorem dX5_advise_130 : decode cX5_advise 130 = .ok (.iload 4, 2) := by decide +kernel
theorem dX5_advise_132 : decode cX5_advise 132 = .ok (.if_icmp .ge 11, 3) := by decide +kernel
theorem dX5_advise_135 : decode cX5_advise 135 = .ok (.iload 7, 2) := by decide +kernel
theorem dX5_advise_137 : decode cX5_advise 137 = .ok (.istore 5, 2) := by decide +kernel
theorem dX5_advise_139 : decode cX5_advise 139 = .ok (.iload 6, 2) := by decide +kernel
theorem dX5_advise_141 : decode cX5_advise 141 = .ok (.istore 4, 2) := by decide +kernel
theorem dX5_advise_143 : decode cX5_advise 143 = .ok (.iinc 6 1, 3) := by decide +kernel
theorem dX5_advise_146 : decode cX5_advise 146 = .ok (.goto (-69), 3) := by decide +kernel
theorem dX5_advise_149 : decode cX5_advise 149 = .ok (.iload 4, 2) := by decide +kernel
theorem dX5_advise_151 : decode cX5_advise 151 = .ok (.ireturn, 1) := by decide +kernel
set_option maxRecDepth 20000 in
theorem ggX5_mean_X2_total : GoodIn wsX5_mean wsX2_total := goodIn_r _ [7, 8, 19] (by decide +kernel) (by decide +kernel)
set_option maxRecDepth 20000 in
theorem gX5_mean_X2_total : GoodIn wsX5_mean (wsV RX5 172 RX2 yX2_total wsX2_total) := goodIn_app (goodIn_of _ (by decide +kernel)) ggX5_mean_X2_total
theorem dX5_mean_0 : decode cX5_mean 0 = .ok (.aload_n 0, 1) := by decide +kernel
theorem dX5_mean_1 : decode cX5_mean 1 = .ok (.getfield 26, 3) := by decide +kernel
theorem dX5_mean_4 : decode cX5_mean 4 = .ok (.getfield 120, 3) := by decide +kernel
theorem dX5_mean_7 : decode cX5_mean 7 = .ok (.invokevirtual 172, 3) := by decide +kernel
theorem dX5_mean_10 : decode cX5_mean 10 = .ok (.i2d, 1) := by decide +kernel
theorem dX5_mean_11 : decode cX5_mean 11 = .ok (.ldc2_w 193, 3) := by decide +kernel
theorem dX5_mean_14 : decode cX5_mean 14 = .ok (.ddiv, 1) := by decide +kernel
