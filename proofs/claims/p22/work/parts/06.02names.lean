theorem dX4_wipeOff_0 : decode cX4_wipeOff 0 = .ok (.iconst 0, 1) := by decide +kernel
theorem dX4_wipeOff_1 : decode cX4_wipeOff 1 = .ok (.istore_n 3, 1) := by decide +kernel
theorem dX4_wipeOff_2 : decode cX4_wipeOff 2 = .ok (.aload_n 0, 1) := by decide +kernel
theorem dX4_wipeOff_3 : decode cX4_wipeOff 3 = .ok (.getfield 15, 3) := by decide +kernel
theorem dX4_wipeOff_6 : decode cX4_wipeOff 6 = .ok (.iload_n 1, 1) := by decide +kernel
theorem dX4_wipeOff_7 : decode cX4_wipeOff 7 = .ok (.iaload, 1) := by decide +kernel
theorem dX4_wipeOff_8 : decode cX4_wipeOff 8 = .ok (.istore 4, 2) := by decide +kernel
theorem dX4_wipeOff_10 : decode cX4_wipeOff 10 = .ok (.iload 4, 2) := by decide +kernel
theorem dX4_wipeOff_12 : decode cX4_wipeOff 12 = .ok (.aload_n 0, 1) := by decide +kernel
theorem dX4_wipeOff_13 : decode cX4_wipeOff 13 = .ok (.getfield 15, 3) := by decide +kernel
theorem dX4_wipeOff_16 : decode cX4_wipeOff 16 = .ok (.iload_n 1, 1) := by decide +kernel
theorem dX4_wipeOff_17 : decode cX4_wipeOff 17 = .ok (.iaload, 1) := by decide +kernel
theorem dX4_wipeOff_18 : decode cX4_wipeOff 18 = .ok (.aload_n 0, 1) := by decide +kernel
theorem dX4_wipeOff_19 : decode cX4_wipeOff 19 = .ok (.getfield 22, 3) := by decide +kernel
theorem dX4_wipeOff_22 : decode cX4_wipeOff 22 = .ok (.iload_n 1, 1) := by decide +kernel
theorem dX4_wipeOff_23 : decode cX4_wipeOff 23 = .ok (.iaload, 1) := by decide +kernel
theorem dX4_wipeOff_24 : decode cX4_wipeOff 24 = .ok (.iadd, 1) := by decide +kernel
theorem dX4_wipeOff_25 : decode cX4_wipeOff 25 = .ok (.if_icmp .ge 54, 3) := by decide +kernel
theorem dX4_wipeOff_28 : decode cX4_wipeOff 28 = .ok (.aload_n 0, 1) := by decide +kernel
theorem dX4_wipeOff_29 : decode cX4_wipeOff 29 = .ok (.getfield 19, 3) := by decide +kernel
theorem dX4_wipeOff_32 : decode cX4_wipeOff 32 = .ok (.iload_n 1, 1) := by decide +kernel
theorem dX4_wipeOff_33 : decode cX4_wipeOff 33 = .ok (.iaload, 1) := by decide +kernel
theorem dX4_wipeOff_34 : decode cX4_wipeOff 34 = .ok (.istore 5, 2) := by decide +kernel
theorem dX4_wipeOff_36 : decode cX4_wipeOff 36 = .ok (.iload 5, 2) := by decide +kernel
theorem dX4_wipeOff_38 : decode cX4_wipeOff 38 = .ok (.aload_n 0, 1) := by decide +kernel
theorem dX4_wipeOff_39 : decode cX4_wipeOff 39 = .ok (.getfield 19, 3) := by decide +kernel
theorem dX4_wipeOff_42 : decode cX4_wipeOff 42 = .ok (.iload_n 1, 1) := by decide +kernel
theorem dX4_wipeOff_43 : decode cX4_wipeOff 43 = .ok (.iaload, 1) := by decide +kernel
theorem dX4_wipeOff_44 : decode cX4_wipeOff 44 = .ok (.aload_n 0, 1) := by decide +kernel
theorem dX4_wipeOff_45 : decode cX4_wipeOff 45 = .ok (.getfield 25, 3) := by decide +kernel
theorem dX4_wipeOff_48 : decode cX4_wipeOff 48 = .ok (.iload_n 1, 1) := by decide +kernel
theorem dX4_wipeOff_49 : decode cX4_wipeOff 49 = .ok (.iaload, 1) := by decide +kernel
theorem dX4_wipeOff_50 : decode cX4_wipeOff 50 = .ok (.iadd, 1) := by decide +kernel
theorem dX4_wipeOff_51 : decode cX4_wipeOff 51 = .ok (.if_icmp .ge 22, 3) := by decide +kernel
theorem dX4_wipeOff_54 : decode cX4_wipeOff 54 = .ok (.iload_n 3, 1) := by decide +kernel
theorem dX4_wipeOff_55 : decode cX4_wipeOff 55 = .ok (.aload_n 2, 1) := by decide +kernel
theorem dX4_wipeOff_56 : decode cX4_wipeOff 56 = .ok (.iload 4, 2) := by decide +kernel
theorem dX4_wipeOff_58 : decode cX4_wipeOff 58 = .ok (.iload 5, 2) := by decide +kernel
theorem dX4_wipeOff_60 : decode cX4_wipeOff 60 = .ok (.bipush 20, 2) := by decide +kernel
theorem dX4_wipeOff_62 : decode cX4_wipeOff 62 = .ok (.invokevirtual 56, 3) := by decide +kernel
theorem dX4_wipeOff_65 : decode cX4_wipeOff 65 = .ok (.iadd, 1) := by decide +kernel
theorem dX4_wipeOff_66 : decode cX4_wipeOff 66 = .ok (.istore_n 3, 1) := by decide +kernel
theorem dX4_wipeOff_67 : decode cX4_wipeOff 67 = .ok (.iinc 5 1, 3) := by decide +kernel
theorem dX4_wipeOff_70 : decode cX4_wipeOff 70 = .ok (.goto (-34), 3) := by decide +kernel
theorem dX4_wipeOff_73 : decode cX4_wipeOff 73 = .ok (.iinc 4 1, 3) := by decide +kernel
theorem dX4_wipeOff_76 : decode cX4_wipeOff 76 = .ok (.goto (-66), 3) := by decide +kernel
theorem dX4_wipeOff_79 : decode cX4_wipeOff 79 = .ok (.iload_n 3, 1) := by decide +kernel
theorem dX4_wipeOff_80 : decode cX4_wipeOff 80 = .ok (.ireturn, 1) := by decide +kernel
set_option maxRecDepth 20000 in
theorem ggX5_init_X4_init : GoodIn wsX5_init wsX4_init := goodIn_r _ [18, 19, 2, 3, 20, 21, 22, 23, 24, 25, 26, 63, 64, 65, 66, 67, 68] (by decide +kernel) (by decide +kernel)
set_option maxRecDepth 20000 in
theorem gX5_init_X4_init_n11 : GoodIn wsX5_init (wsX4_init) := ggX5_init_X4_init
set_option maxRecDepth 20000 in
theorem ggX5_init_X1_init : GoodIn wsX5_init wsX1_init := goodIn_r _ [28, 29, 2, 3, 30, 21, 31, 32, 73, 74, 75] (by decide +kernel) (by decide +kernel)
set_option maxRecDepth 20000 in
theorem gX5_init_X1_init_n18 : GoodIn wsX5_init (wsX1_init) := ggX5_init_X1_init
set_option maxRecDepth 20000 in
theorem ggX5_init_X0_init : GoodIn wsX5_init wsX0_init := goodIn_r _ [34, 35, 2, 3, 36, 37, 38, 39, 40, 41, 42, 43, 44, 45, 46, 47, 48, 49, 50, 21, 51, 52, 53, 54, 55, 56, 57, 58, 59, 60, 61, 62, 82, 76, 77, 78, 79, 80, 81, 83, 84, 85, 86, 87, 88, 89] (by decide +kernel) (by decide +kernel)
set_option maxRecDepth 20000 in
theorem gX5_init_X0_init_n25 : GoodIn wsX5_init (wsX0_init) := ggX5_init_X0_init
theorem dX5_init_0 : decode cX5_init 0 = .ok (.aload_n 0, 1) := by decide +kernel
theorem dX5_init_1 : decode cX5_init 1 = .ok (.invokespecial 3, 3) := by decide +kernel
theorem dX5_init_4 : decode cX5_init 4 = .ok (.aload_n 0, 1) := by decide +kernel
theorem dX5_init_5 : decode cX5_init 5 = .ok (.new 9, 3) := by decide +kernel
theorem dX5_init_8 : decode cX5_init 8 = .ok (.dup, 1) := by decide +kernel
theorem dX5_init_9 : decode cX5_init 9 = .ok (.invokespecial 11, 3) := by decide +kernel
theorem dX5_init_12 : decode cX5_init 12 = .ok (.putfield 12, 3) := by decide +kernel
theorem dX5_init_15 : decode cX5_init 15 = .ok (.aload_n 0, 1) := by decide +kernel
theorem dX5_init_16 : decode cX5_init 16 = .ok (.new 16, 3) := by decide +kernel
theorem dX5_init_19 : decode cX5_init 19 = .ok (.dup, 1) := by decide +kernel
theorem dX5_init_20 : decode cX5_init 20 = .ok (.invokespecial 18, 3) := by decide +kernel
theorem dX5_init_23 : decode cX5_init 23 = .ok (.putfield 19, 3) := by decide +kernel
theorem dX5_init_26 : decode cX5_init 26 = .ok (.aload_n 0, 1) := by decide +kernel
theorem dX5_init_27 : decode cX5_init 27 = .ok (.new 23, 3) := by decide +kernel
theorem dX5_init_30 : decode cX5_init 30 = .ok (.dup, 1) := by decide +kernel
theorem dX5_init_31 : decode cX5_init 31 = .ok (.invokespecial 25, 3) := by decide +kernel
theorem dX5_init_34 : decode cX5_init 34 = .ok (.putfield 26, 3) := by decide +kernel
theorem dX5_init_37 : decode cX5_init 37 = .ok (.aload_n 0, 1) := by decide +kernel
theorem dX5_init_38 : decode cX5_init 38 = .ok (.new 23, 3) := by decide +kernel
theorem dX5_init_41 : decode cX5_init 41 = .ok (.dup, 1) := by decide +kernel
theorem dX5_init_42 : decode cX5_init 42 = .ok (.invokespecial 25, 3) := by decide +kernel
theorem dX5_init_45 : decode cX5_init 45 = .ok (.putfield 30, 3) := by decide +kernel
theorem dX5_init_48 : decode cX5_init 48 = .ok (.return_, 1) := by decide +kernel
set_option maxRecDepth 20000 in
theorem ggX5_window_X4_put : GoodIn wsX5_window wsX4_put := goodIn_r _ [12, 13, 14, 15, 16, 17, 18, 23, 24, 25, 26, 27, 28] (by decide +kernel) (by decide +kernel)
set_option maxRecDepth 20000 in
theorem gX5_window_X4_put : GoodIn wsX5_window (wsV RX5 54 RX4 yX4_put wsX4_put) := goodIn_app (goodIn_of _ (by decide +kernel)) ggX5_window_X4_put
theorem dX5_window_0 : decode cX5_window 0 = .ok (.iload_n 3, 1) := by decide +kernel
theorem dX5_window_1 : decode cX5_window 1 = .ok (.iconst 1, 1) := by decide +kernel
theorem dX5_window_2 : decode cX5_window 2 = .ok (.if_icmp .lt 35, 3) := by decide +kernel
theorem dX5_window_5 : decode cX5_window 5 = .ok (.iload_n 3, 1) := by decide +kernel
theorem dX5_window_6 : decode cX5_window 6 = .ok (.bipush 12, 2) := by decide +kernel
theorem dX5_window_8 : decode cX5_window 8 = .ok (.if_icmp .gt 29, 3) := by decide +kernel
theorem dX5_window_11 : decode cX5_window 11 = .ok (.iload 4, 2) := by decide +kernel
theorem dX5_window_13 : decode cX5_window 13 = .ok (.iconst 1, 1) := by decide +kernel
theorem dX5_window_14 : decode cX5_window 14 = .ok (.if_icmp .lt 23, 3) := by decide +kernel
theorem dX5_window_17 : decode cX5_window 17 = .ok (.iload 4, 2) := by decide +kernel
theorem dX5_window_19 : decode cX5_window 19 = .ok (.bipush 8, 2) := by decide +kernel
theorem dX5_window_21 : decode cX5_window 21 = .ok (.if_icmp .gt 16, 3) := by decide +kernel
theorem dX5_window_24 : decode cX5_window 24 = .ok (.iload 5, 2) := by decide +kernel
theorem dX5_window_26 : decode cX5_window 26 = .ok (.iconst 1, 1) := by decide +kernel
theorem dX5_window_27 : decode cX5_window 27 = .ok (.if_icmp .lt 10, 3) := by decide +kernel
theorem dX5_window_30 : decode cX5_window 30 = .ok (.iload 5, 2) := by decide +kernel
theorem dX5_window_32 : decode cX5_window 32 = .ok (.bipush 9, 2) := by decide +kernel
theorem dX5_window_34 : decode cX5_window 34 = .ok (.if_icmp .le 13, 3) := by decide +kernel
theorem dX5_window_37 : decode cX5_window 37 = .ok (.new 33, 3) := by decide +kernel
theorem dX5_window_40 : decode cX5_window 40 = .ok (.dup, 1) := by decide +kernel
theorem dX5_window_41 : decode cX5_window 41 = .ok (.ldc 35, 2) := by decide +kernel
theorem dX5_window_43 : decode cX5_window 43 = .ok (.invokespecial 37, 3) := by decide +kernel
theorem dX5_window_46 : decode cX5_window 46 = .ok (.athrow, 1) := by decide +kernel
theorem dX5_window_47 : decode cX5_window 47 = .ok (.iload_n 1, 1) := by decide +kernel
theorem dX5_window_48 : decode cX5_window 48 = .ok (.ifCond .lt 24, 3) := by decide +kernel
theorem dX5_window_51 : decode cX5_window 51 = .ok (.iload_n 1, 1) := by decide +kernel
theorem dX5_window_52 : decode cX5_window 52 = .ok (.bipush 12, 2) := by decide +kernel
theorem dX5_window_54 : decode cX5_window 54 = .ok (.iload_n 3, 1) := by decide +kernel
theorem dX5_window_55 : decode cX5_window 55 = .ok (.isub, 1) := by decide +kernel
theorem dX5_window_56 : decode cX5_window 56 = .ok (.if_icmp .gt 16, 3) := by decide +kernel
theorem dX5_window_59 : decode cX5_window 59 = .ok (.iload_n 2, 1) := by decide +kernel
theorem dX5_window_60 : decode cX5_window 60 = .ok (.ifCond .lt 12, 3) := by decide +kernel
theorem dX5_window_63 : decode cX5_window 63 = .ok (.iload_n 2, 1) := by decide +kernel
theorem dX5_window_64 : decode cX5_window 64 = .ok (.bipush 8, 2) := by decide +kernel
theorem dX5_window_66 : decode cX5_window 66 = .ok (.iload 4, 2) := by decide +kernel
theorem dX5_window_68 : decode cX5_window 68 = .ok (.isub, 1) := by decide +kernel
theorem dX5_window_69 : decode cX5_window 69 = .ok (.if_icmp .le 13, 3) := by decide +kernel
theorem dX5_window_72 : decode cX5_window 72 = .ok (.new 40, 3) := by decide +kernel
theorem dX5_window_75 : decode cX5_window 75 = .ok (.dup, 1) := by decide +kernel
theorem dX5_window_76 : decode cX5_window 76 = .ok (.ldc 42, 2) := by decide +kernel
theorem dX5_window_78 : decode cX5_window 78 = .ok (.invokespecial 44, 3) := by decide +kernel
theorem dX5_window_81 : decode cX5_window 81 = .ok (.athrow, 1) := by decide +kernel
theorem dX5_window_82 : decode cX5_window 82 = .ok (.aload_n 0, 1) := by decide +kernel
theorem dX5_window_83 : decode cX5_window 83 = .ok (.getfield 12, 3) := by decide +kernel
theorem dX5_window_86 : decode cX5_window 86 = .ok (.getfield 45, 3) := by decide +kernel
theorem dX5_window_89 : decode cX5_window 89 = .ok (.bipush 6, 2) := by decide +kernel
theorem dX5_window_91 : decode cX5_window 91 = .ok (.if_icmp .lt 13, 3) := by decide +kernel
theorem dX5_window_94 : decode cX5_window 94 = .ok (.new 49, 3) := by decide +kernel
theorem dX5_window_97 : decode cX5_window 97 = .ok (.dup, 1) := by decide +kernel
theorem dX5_window_98 : decode cX5_window 98 = .ok (.ldc 51, 2) := by decide +kernel
theorem dX5_window_100 : decode cX5_window 100 = .ok (.invokespecial 53, 3) := by decide +kernel
theorem dX5_window_103 : decode cX5_window 103 = .ok (.athrow, 1) := by decide +kernel
theorem dX5_window_104 : decode cX5_window 104 = .ok (.aload_n 0, 1) := by decide +kernel
theorem dX5_window_105 : decode cX5_window 105 = .ok (.getfield 12, 3) := by decide +kernel
theorem dX5_window_108 : decode cX5_window 108 = .ok (.iload_n 1, 1) := by decide +kernel
theorem dX5_window_109 : decode cX5_window 109 = .ok (.iload_n 2, 1) := by decide +kernel
theorem dX5_window_110 : decode cX5_window 110 = .ok (.iload_n 3, 1) := by decide +kernel
theorem dX5_window_111 : decode cX5_window 111 = .ok (.iload 4, 2) := by decide +kernel
theorem dX5_window_113 : decode cX5_window 113 = .ok (.iload 5, 2) := by decide +kernel
theorem dX5_window_115 : decode cX5_window 115 = .ok (.invokevirtual 54, 3) := by decide +kernel
theorem dX5_window_118 : decode cX5_window 118 = .ok (.ireturn, 1) := by decide +kernel
set_option maxRecDepth 20000 in
theorem ggX5_rope_X5_isColumn : GoodIn wsX5_rope wsX5_isColumn := goodIn_r _ [11] (by decide +kernel) (by decide +kernel)
set_option maxRecDepth 20000 in
theorem gX5_rope_X5_isColumn : GoodIn wsX5_rope (va_wsS RX5 58 yX5_isColumn wsX5_isColumn) := goodIn_app (goodIn_of _ (by decide +kernel)) ggX5_rope_X5_isColumn
set_option maxRecDepth 20000 in
theorem ggX5_rope_X3_hangAt : GoodIn wsX5_rope wsX3_hangAt := goodIn_r _ [16, 17, 18, 35, 36, 37, 38, 39, 40, 41] (by decide +kernel) (by decide +kernel)
set_option maxRecDepth 20000 in
theorem gX5_rope_X3_hangAt : GoodIn wsX5_rope (wsV RX5 73 RX3 yX3_hangAt wsX3_hangAt) := goodIn_app (goodIn_of _ (by decide +kernel)) ggX5_rope_X3_hangAt
set_option maxRecDepth 20000 in
theorem ggX5_rope_X3_put : GoodIn wsX5_rope wsX3_put := goodIn_r _ [22, 18, 17, 23, 24, 35, 36, 37, 38, 39, 40, 41] (by decide +kernel) (by decide +kernel)
set_option maxRecDepth 20000 in
theorem gX5_rope_X3_put : GoodIn wsX5_rope (wsV RX5 78 RX3 yX3_put wsX3_put) := goodIn_app (goodIn_of _ (by decide +kernel)) ggX5_rope_X3_put
theorem dX5_rope_0 : decode cX5_rope 0 = .ok (.iload_n 1, 1) := by decide +kernel
theorem dX5_rope_1 : decode cX5_rope 1 = .ok (.invokestatic 58, 3) := by decide +kernel
theorem dX5_rope_4 : decode cX5_rope 4 = .ok (.ifCond .ne 13, 3) := by decide +kernel
theorem dX5_rope_7 : decode cX5_rope 7 = .ok (.new 40, 3) := by decide +kernel
theorem dX5_rope_10 : decode cX5_rope 10 = .ok (.dup, 1) := by decide +kernel
theorem dX5_rope_11 : decode cX5_rope 11 = .ok (.ldc 62, 2) := by decide +kernel
theorem dX5_rope_13 : decode cX5_rope 13 = .ok (.invokespecial 44, 3) := by decide +kernel
theorem dX5_rope_16 : decode cX5_rope 16 = .ok (.athrow, 1) := by decide +kernel
theorem dX5_rope_17 : decode cX5_rope 17 = .ok (.iload_n 2, 1) := by decide +kernel
theorem dX5_rope_18 : decode cX5_rope 18 = .ok (.iconst 1, 1) := by decide +kernel
theorem dX5_rope_19 : decode cX5_rope 19 = .ok (.if_icmp .lt 9, 3) := by decide +kernel
theorem dX5_rope_22 : decode cX5_rope 22 = .ok (.iload_n 2, 1) := by decide +kernel
theorem dX5_rope_23 : decode cX5_rope 23 = .ok (.bipush 30, 2) := by decide +kernel
theorem dX5_rope_25 : decode cX5_rope 25 = .ok (.if_icmp .le 13, 3) := by decide +kernel
theorem dX5_rope_28 : decode cX5_rope 28 = .ok (.new 33, 3) := by decide +kernel
theorem dX5_rope_31 : decode cX5_rope 31 = .ok (.dup, 1) := by decide +kernel
theorem dX5_rope_32 : decode cX5_rope 32 = .ok (.ldc 64, 2) := by decide +kernel
theorem dX5_rope_34 : decode cX5_rope 34 = .ok (.invokespecial 37, 3) := by decide +kernel
theorem dX5_rope_37 : decode cX5_rope 37 = .ok (.athrow, 1) := by decide +kernel
theorem dX5_rope_38 : decode cX5_rope 38 = .ok (.aload_n 0, 1) := by decide +kernel
theorem dX5_rope_39 : decode cX5_rope 39 = .ok (.getfield 26, 3) := by decide +kernel
theorem dX5_rope_42 : decode cX5_rope 42 = .ok (.getfield 66, 3) := by decide +kernel
theorem dX5_rope_45 : decode cX5_rope 45 = .ok (.getfield 70, 3) := by decide +kernel
theorem dX5_rope_48 : decode cX5_rope 48 = .ok (.bipush 6, 2) := by decide +kernel
theorem dX5_rope_50 : decode cX5_rope 50 = .ok (.if_icmp .ge 17, 3) := by decide +kernel
theorem dX5_rope_53 : decode cX5_rope 53 = .ok (.aload_n 0, 1) := by decide +kernel
theorem dX5_rope_54 : decode cX5_rope 54 = .ok (.getfield 26, 3) := by decide +kernel
theorem dX5_rope_57 : decode cX5_rope 57 = .ok (.getfield 66, 3) := by decide +kernel
theorem dX5_rope_60 : decode cX5_rope 60 = .ok (.iload_n 1, 1) := by decide +kernel
theorem dX5_rope_61 : decode cX5_rope 61 = .ok (.invokevirtual 73, 3) := by decide +kernel
theorem dX5_rope_64 : decode cX5_rope 64 = .ok (.ifCond .eq 13, 3) := by decide +kernel
theorem dX5_rope_67 : decode cX5_rope 67 = .ok (.new 49, 3) := by decide +kernel
theorem dX5_rope_70 : decode cX5_rope 70 = .ok (.dup, 1) := by decide +kernel
theorem dX5_rope_71 : decode cX5_rope 71 = .ok (.ldc 76, 2) := by decide +kernel
theorem dX5_rope_73 : decode cX5_rope 73 = .ok (.invokespecial 53, 3) := by decide +kernel
theorem dX5_rope_76 : decode cX5_rope 76 = .ok (.athrow, 1) := by decide +kernel
theorem dX5_rope_77 : decode cX5_rope 77 = .ok (.aload_n 0, 1) := by decide +kernel
theorem dX5_rope_78 : decode cX5_rope 78 = .ok (.getfield 26, 3) := by decide +kernel
theorem dX5_rope_81 : decode cX5_rope 81 = .ok (.getfield 66, 3) := by decide +kernel
theorem dX5_rope_84 : decode cX5_rope 84 = .ok (.iload_n 1, 1) := by decide +kernel
theorem dX5_rope_85 : decode cX5_rope 85 = .ok (.iload_n 2, 1) := by decide +kernel
theorem dX5_rope_86 : decode cX5_rope 86 = .ok (.iload_n 3, 1) := by decide +kernel
theorem dX5_rope_87 : decode cX5_rope 87 = .ok (.invokevirtual 78, 3) := by decide +kernel
theorem dX5_rope_90 : decode cX5_rope 90 = .ok (.ireturn, 1) := by decide +kernel
set_option maxRecDepth 20000 in
theorem ggX5_feast_X1_put : GoodIn wsX5_feast wsX1_put := goodIn_r _ [10, 11, 12, 13, 18, 19, 20] (by decide +kernel) (by decide +kernel)
set_option maxRecDepth 20000 in
theorem gX5_feast_X1_put : GoodIn wsX5_feast (wsV RX5 86 RX1 yX1_put wsX1_put) := goodIn_app (goodIn_of _ (by decide +kernel)) ggX5_feast_X1_put
theorem dX5_feast_0 : decode cX5_feast 0 = .ok (.iload_n 1, 1) := by decide +kernel
theorem dX5_feast_1 : decode cX5_feast 1 = .ok (.iconst 2, 1) := by decide +kernel
theorem dX5_feast_2 : decode cX5_feast 2 = .ok (.if_icmp .lt 18, 3) := by decide +kernel
theorem dX5_feast_5 : decode cX5_feast 5 = .ok (.iload_n 1, 1) := by decide +kernel
theorem dX5_feast_6 : decode cX5_feast 6 = .ok (.bipush 30, 2) := by decide +kernel
theorem dX5_feast_8 : decode cX5_feast 8 = .ok (.if_icmp .gt 12, 3) := by decide +kernel
theorem dX5_feast_11 : decode cX5_feast 11 = .ok (.iload_n 2, 1) := by decide +kernel
theorem dX5_feast_12 : decode cX5_feast 12 = .ok (.ifCond .lt 8, 3) := by decide +kernel
theorem dX5_feast_15 : decode cX5_feast 15 = .ok (.iload_n 2, 1) := by decide +kernel
theorem dX5_feast_16 : decode cX5_feast 16 = .ok (.iload_n 1, 1) := by decide +kernel
theorem dX5_feast_17 : decode cX5_feast 17 = .ok (.if_icmp .lt 13, 3) := by decide +kernel
theorem dX5_feast_20 : decode cX5_feast 20 = .ok (.new 33, 3) := by decide +kernel
theorem dX5_feast_23 : decode cX5_feast 23 = .ok (.dup, 1) := by decide +kernel
theorem dX5_feast_24 : decode cX5_feast 24 = .ok (.ldc 81, 2) := by decide +kernel
theorem dX5_feast_26 : decode cX5_feast 26 = .ok (.invokespecial 37, 3) := by decide +kernel
theorem dX5_feast_29 : decode cX5_feast 29 = .ok (.athrow, 1) := by decide +kernel
theorem dX5_feast_30 : decode cX5_feast 30 = .ok (.aload_n 0, 1) := by decide +kernel
theorem dX5_feast_31 : decode cX5_feast 31 = .ok (.getfield 19, 3) := by decide +kernel
theorem dX5_feast_34 : decode cX5_feast 34 = .ok (.getfield 83, 3) := by decide +kernel
theorem dX5_feast_37 : decode cX5_feast 37 = .ok (.iconst 4, 1) := by decide +kernel
theorem dX5_feast_38 : decode cX5_feast 38 = .ok (.if_icmp .lt 13, 3) := by decide +kernel
theorem dX5_feast_41 : decode cX5_feast 41 = .ok (.new 49, 3) := by decide +kernel
theorem dX5_feast_44 : decode cX5_feast 44 = .ok (.dup, 1) := by decide +kernel
theorem dX5_feast_45 : decode cX5_feast 45 = .ok (.ldc 84, 2) := by decide +kernel
theorem dX5_feast_47 : decode cX5_feast 47 = .ok (.invokespecial 53, 3) := by decide +kernel
theorem dX5_feast_50 : decode cX5_feast 50 = .ok (.athrow, 1) := by decide +kernel
theorem dX5_feast_51 : decode cX5_feast 51 = .ok (.aload_n 0, 1) := by decide +kernel
theorem dX5_feast_52 : decode cX5_feast 52 = .ok (.getfield 19, 3) := by decide +kernel
theorem dX5_feast_55 : decode cX5_feast 55 = .ok (.iload_n 1, 1) := by decide +kernel
theorem dX5_feast_56 : decode cX5_feast 56 = .ok (.iload_n 2, 1) := by decide +kernel
theorem dX5_feast_57 : decode cX5_feast 57 = .ok (.invokevirtual 86, 3) := by decide +kernel
theorem dX5_feast_60 : decode cX5_feast 60 = .ok (.ireturn, 1) := by decide +kernel
theorem dX5_setWind_0 : decode cX5_setWind 0 = .ok (.iload_n 1, 1) := by decide +kernel
theorem dX5_setWind_1 : decode cX5_setWind 1 = .ok (.bipush (-5), 2) := by decide +kernel
theorem dX5_setWind_3 : decode cX5_setWind 3 = .ok (.if_icmp .lt 8, 3) := by decide +kernel
theorem dX5_setWind_6 : decode cX5_setWind 6 = .ok (.iload_n 1, 1) := by decide +kernel
theorem dX5_setWind_7 : decode cX5_setWind 7 = .ok (.iconst 5, 1) := by decide +kernel
theorem dX5_setWind_8 : decode cX5_setWind 8 = .ok (.if_icmp .le 13, 3) := by decide +kernel
theorem dX5_setWind_11 : decode cX5_setWind 11 = .ok (.new 33, 3) := by decide +kernel
theorem dX5_setWind_14 : decode cX5_setWind 14 = .ok (.dup, 1) := by decide +kernel
theorem dX5_setWind_15 : decode cX5_setWind 15 = .ok (.ldc 89, 2) := by decide +kernel
theorem dX5_setWind_17 : decode cX5_setWind 17 = .ok (.invokespecial 37, 3) := by decide +kernel
theorem dX5_setWind_20 : decode cX5_setWind 20 = .ok (.athrow, 1) := by decide +kernel
theorem dX5_setWind_21 : decode cX5_setWind 21 = .ok (.aload_n 0, 1) := by decide +kernel
theorem dX5_setWind_22 : decode cX5_setWind 22 = .ok (.getfield 26, 3) := by decide +kernel
theorem dX5_setWind_25 : decode cX5_setWind 25 = .ok (.getfield 91, 3) := by decide +kernel
theorem dX5_setWind_28 : decode cX5_setWind 28 = .ok (.istore_n 2, 1) := by decide +kernel
theorem dX5_setWind_29 : decode cX5_setWind 29 = .ok (.aload_n 0, 1) := by decide +kernel
theorem dX5_setWind_30 : decode cX5_setWind 30 = .ok (.getfield 26, 3) := by decide +kernel
theorem dX5_setWind_33 : decode cX5_setWind 33 = .ok (.iload_n 1, 1) := by decide +kernel
theorem dX5_setWind_34 : decode cX5_setWind 34 = .ok (.putfield 91, 3) := by decide +kernel
theorem dX5_setWind_37 : decode cX5_setWind 37 = .ok (.iload_n 2, 1) := by decide +kernel
theorem dX5_setWind_38 : decode cX5_setWind 38 = .ok (.ireturn, 1) := by decide +kernel
set_option maxRecDepth 20000 in
theorem ggX5_move_X5_isRope : GoodIn wsX5_move wsX5_isRope := goodIn_r _ [10, 5, 27, 28, 29, 30, 31, 32, 33, 34, 35, 36, 37, 38, 39, 40, 41, 42, 43] (by decide +kernel) (by decide +kernel)
set_option maxRecDepth 20000 in
theorem gX5_move_X5_isRope : GoodIn wsX5_move (wsV RX5 94 RX5 yX5_isRope wsX5_isRope) := goodIn_app (goodIn_of _ (by decide +kernel)) ggX5_move_X5_isRope
set_option maxRecDepth 20000 in
theorem ggX5_move_X5_isColumn : GoodIn wsX5_move wsX5_isColumn := goodIn_r _ [13] (by decide +kernel) (by decide +kernel)
set_option maxRecDepth 20000 in
theorem gX5_move_X5_isColumn : GoodIn wsX5_move (va_wsS RX5 58 yX5_isColumn wsX5_isColumn) := goodIn_app (goodIn_of _ (by decide +kernel)) ggX5_move_X5_isColumn
set_option maxRecDepth 20000 in
theorem ggX5_move_X3_hangAt : GoodIn wsX5_move wsX3_hangAt := goodIn_r _ [18, 19, 20, 37, 38, 39, 40, 41, 42, 43] (by decide +kernel) (by decide +kernel)
set_option maxRecDepth 20000 in
theorem gX5_move_X3_hangAt : GoodIn wsX5_move (wsV RX5 73 RX3 yX3_hangAt wsX3_hangAt) := goodIn_app (goodIn_of _ (by decide +kernel)) ggX5_move_X3_hangAt
set_option maxRecDepth 20000 in
theorem ggX5_move_X3_rehang : GoodIn wsX5_move wsX3_rehang := goodIn_r _ [24, 20, 25, 26, 37, 38, 39, 40, 41, 42, 43] (by decide +kernel) (by decide +kernel)
set_option maxRecDepth 20000 in
theorem gX5_move_X3_rehang : GoodIn wsX5_move (wsV RX5 105 RX3 yX3_rehang wsX3_rehang) := goodIn_app (goodIn_of _ (by decide +kernel)) ggX5_move_X3_rehang
theorem dX5_move_0 : decode cX5_move 0 = .ok (.aload_n 0, 1) := by decide +kernel
theorem dX5_move_1 : decode cX5_move 1 = .ok (.iload_n 1, 1) := by decide +kernel
theorem dX5_move_2 : decode cX5_move 2 = .ok (.invokevirtual 94, 3) := by decide +kernel
theorem dX5_move_5 : decode cX5_move 5 = .ok (.ifCond .eq 10, 3) := by decide +kernel
theorem dX5_move_8 : decode cX5_move 8 = .ok (.iload_n 2, 1) := by decide +kernel
theorem dX5_move_9 : decode cX5_move 9 = .ok (.invokestatic 58, 3) := by decide +kernel
theorem dX5_move_12 : decode cX5_move 12 = .ok (.ifCond .ne 13, 3) := by decide +kernel
theorem dX5_move_15 : decode cX5_move 15 = .ok (.new 40, 3) := by decide +kernel
theorem dX5_move_18 : decode cX5_move 18 = .ok (.dup, 1) := by decide +kernel
theorem dX5_move_19 : decode cX5_move 19 = .ok (.ldc 97, 2) := by decide +kernel
theorem dX5_move_21 : decode cX5_move 21 = .ok (.invokespecial 44, 3) := by decide +kernel
theorem dX5_move_24 : decode cX5_move 24 = .ok (.athrow, 1) := by decide +kernel
theorem dX5_move_25 : decode cX5_move 25 = .ok (.aload_n 0, 1) := by decide +kernel
theorem dX5_move_26 : decode cX5_move 26 = .ok (.getfield 26, 3) := by decide +kernel
theorem dX5_move_29 : decode cX5_move 29 = .ok (.getfield 66, 3) := by decide +kernel
theorem dX5_move_32 : decode cX5_move 32 = .ok (.iload_n 2, 1) := by decide +kernel
theorem dX5_move_33 : decode cX5_move 33 = .ok (.invokevirtual 73, 3) := by decide +kernel
theorem dX5_move_36 : decode cX5_move 36 = .ok (.ifCond .eq 13, 3) := by decide +kernel
theorem dX5_move_39 : decode cX5_move 39 = .ok (.new 49, 3) := by decide +kernel
theorem dX5_move_42 : decode cX5_move 42 = .ok (.dup, 1) := by decide +kernel
theorem dX5_move_43 : decode cX5_move 43 = .ok (.ldc 99, 2) := by decide +kernel
theorem dX5_move_45 : decode cX5_move 45 = .ok (.invokespecial 53, 3) := by decide +kernel
theorem dX5_move_48 : decode cX5_move 48 = .ok (.athrow, 1) := by decide +kernel
theorem dX5_move_49 : decode cX5_move 49 = .ok (.aload_n 0, 1) := by decide +kernel
theorem dX5_move_50 : decode cX5_move 50 = .ok (.getfield 26, 3) := by decide +kernel
theorem dX5_move_53 : decode cX5_move 53 = .ok (.getfield 66, 3) := by decide +kernel
theorem dX5_move_56 : decode cX5_move 56 = .ok (.getfield 101, 3) := by decide +kernel
theorem dX5_move_59 : decode cX5_move 59 = .ok (.iload_n 1, 1) := by decide +kernel
theorem dX5_move_60 : decode cX5_move 60 = .ok (.iaload, 1) := by decide +kernel
theorem dX5_move_61 : decode cX5_move 61 = .ok (.istore_n 3, 1) := by decide +kernel
theorem dX5_move_62 : decode cX5_move 62 = .ok (.aload_n 0, 1) := by decide +kernel
theorem dX5_move_63 : decode cX5_move 63 = .ok (.getfield 26, 3) := by decide +kernel
theorem dX5_move_66 : decode cX5_move 66 = .ok (.getfield 66, 3) := by decide +kernel
theorem dX5_move_69 : decode cX5_move 69 = .ok (.iload_n 1, 1) := by decide +kernel
theorem dX5_move_70 : decode cX5_move 70 = .ok (.iload_n 2, 1) := by decide +kernel
theorem dX5_move_71 : decode cX5_move 71 = .ok (.invokevirtual 105, 3) := by decide +kernel
theorem dX5_move_74 : decode cX5_move 74 = .ok (.iload_n 3, 1) := by decide +kernel
theorem dX5_move_75 : decode cX5_move 75 = .ok (.ireturn, 1) := by decide +kernel
set_option maxRecDepth 20000 in
theorem ggX5_turn_X5_isRope : GoodIn wsX5_turn wsX5_isRope := goodIn_r _ [8, 3, 9, 10, 11, 12, 13, 14, 15, 16, 17, 18, 19, 20, 21, 22, 23, 24, 25] (by decide +kernel) (by decide +kernel)
set_option maxRecDepth 20000 in
theorem gX5_turn_X5_isRope : GoodIn wsX5_turn (wsV RX5 94 RX5 yX5_isRope wsX5_isRope) := goodIn_app (goodIn_of _ (by decide +kernel)) ggX5_turn_X5_isRope
theorem dX5_turn_0 : decode cX5_turn 0 = .ok (.aload_n 0, 1) := by decide +kernel
theorem dX5_turn_1 : decode cX5_turn 1 = .ok (.iload_n 1, 1) := by decide +kernel
theorem dX5_turn_2 : decode cX5_turn 2 = .ok (.invokevirtual 94, 3) := by decide +kernel
theorem dX5_turn_5 : decode cX5_turn 5 = .ok (.ifCond .ne 13, 3) := by decide +kernel
theorem dX5_turn_8 : decode cX5_turn 8 = .ok (.new 40, 3) := by decide +kernel
theorem dX5_turn_11 : decode cX5_turn 11 = .ok (.dup, 1) := by decide +kernel
theorem dX5_turn_12 : decode cX5_turn 12 = .ok (.ldc 109, 2) := by decide +kernel
theorem dX5_turn_14 : decode cX5_turn 14 = .ok (.invokespecial 44, 3) := by decide +kernel
theorem dX5_turn_17 : decode cX5_turn 17 = .ok (.athrow, 1) := by decide +kernel
theorem dX5_turn_18 : decode cX5_turn 18 = .ok (.aload_n 0, 1) := by decide +kernel
theorem dX5_turn_19 : decode cX5_turn 19 = .ok (.getfield 26, 3) := by decide +kernel
theorem dX5_turn_22 : decode cX5_turn 22 = .ok (.getfield 66, 3) := by decide +kernel
theorem dX5_turn_25 : decode cX5_turn 25 = .ok (.getfield 111, 3) := by decide +kernel
theorem dX5_turn_28 : decode cX5_turn 28 = .ok (.iload_n 1, 1) := by decide +kernel
theorem dX5_turn_29 : decode cX5_turn 29 = .ok (.aload_n 0, 1) := by decide +kernel
theorem dX5_turn_30 : decode cX5_turn 30 = .ok (.getfield 26, 3) := by decide +kernel
theorem dX5_turn_33 : decode cX5_turn 33 = .ok (.getfield 66, 3) := by decide +kernel
theorem dX5_turn_36 : decode cX5_turn 36 = .ok (.getfield 111, 3) := by decide +kernel
theorem dX5_turn_39 : decode cX5_turn 39 = .ok (.iload_n 1, 1) := by decide +kernel
theorem dX5_turn_40 : decode cX5_turn 40 = .ok (.baload, 1) := by decide +kernel
theorem dX5_turn_41 : decode cX5_turn 41 = .ok (.ifCond .ne 7, 3) := by decide +kernel
theorem dX5_turn_44 : decode cX5_turn 44 = .ok (.iconst 1, 1) := by decide +kernel
theorem dX5_turn_45 : decode cX5_turn 45 = .ok (.goto 4, 3) := by decide +kernel
theorem dX5_turn_48 : decode cX5_turn 48 = .ok (.iconst 0, 1) := by decide +kernel
theorem dX5_turn_49 : decode cX5_turn 49 = .ok (.bastore, 1) := by decide +kernel
theorem dX5_turn_50 : decode cX5_turn 50 = .ok (.aload_n 0, 1) := by decide +kernel
theorem dX5_turn_51 : decode cX5_turn 51 = .ok (.getfield 26, 3) := by decide +kernel
theorem dX5_turn_54 : decode cX5_turn 54 = .ok (.getfield 66, 3) := by decide +kernel
theorem dX5_turn_57 : decode cX5_turn 57 = .ok (.getfield 111, 3) := by decide +kernel
theorem dX5_turn_60 : decode cX5_turn 60 = .ok (.iload_n 1, 1) := by decide +kernel
theorem dX5_turn_61 : decode cX5_turn 61 = .ok (.baload, 1) := by decide +kernel
theorem dX5_turn_62 : decode cX5_turn 62 = .ok (.ireturn, 1) := by decide +kernel
set_option maxRecDepth 20000 in
theorem ggX5_wipe_X5_isWindow : GoodIn wsX5_wipe wsX5_isWindow := goodIn_r _ [9, 3, 29, 30, 31, 32, 39, 40, 41, 42, 43, 44] (by decide +kernel) (by decide +kernel)
set_option maxRecDepth 20000 in
theorem gX5_wipe_X5_isWindow : GoodIn wsX5_wipe (wsV RX5 115 RX5 yX5_isWindow wsX5_isWindow) := goodIn_app (goodIn_of _ (by decide +kernel)) ggX5_wipe_X5_isWindow
set_option maxRecDepth 20000 in
theorem ggX5_wipe_X4_wipeOff : GoodIn wsX5_wipe wsX4_wipeOff := goodIn_r _ [14, 15, 16, 17, 18, 19, 20, 21, 22, 23, 24, 25, 26, 27, 28, 39, 40, 41, 42, 43, 44, 45] (by decide +kernel) (by decide +kernel)
set_option maxRecDepth 20000 in
theorem gX5_wipe_X4_wipeOff : GoodIn wsX5_wipe (wsV RX5 124 RX4 yX4_wipeOff wsX4_wipeOff) := goodIn_app (goodIn_of _ (by decide +kernel)) ggX5_wipe_X4_wipeOff
theorem dX5_wipe_0 : decode cX5_wipe 0 = .ok (.aload_n 0, 1) := by decide +kernel
theorem dX5_wipe_1 : decode cX5_wipe 1 = .ok (.iload_n 1, 1) := by decide +kernel
theorem dX5_wipe_2 : decode cX5_wipe 2 = .ok (.invokevirtual 115, 3) := by decide +kernel
theorem dX5_wipe_5 : decode cX5_wipe 5 = .ok (.ifCond .ne 13, 3) := by decide +kernel
theorem dX5_wipe_8 : decode cX5_wipe 8 = .ok (.new 40, 3) := by decide +kernel
theorem dX5_wipe_11 : decode cX5_wipe 11 = .ok (.dup, 1) := by decide +kernel
theorem dX5_wipe_12 : decode cX5_wipe 12 = .ok (.ldc 118, 2) := by decide +kernel
theorem dX5_wipe_14 : decode cX5_wipe 14 = .ok (.invokespecial 44, 3) := by decide +kernel
theorem dX5_wipe_17 : decode cX5_wipe 17 = .ok (.athrow, 1) := by decide +kernel
theorem dX5_wipe_18 : decode cX5_wipe 18 = .ok (.aload_n 0, 1) := by decide +kernel
theorem dX5_wipe_19 : decode cX5_wipe 19 = .ok (.getfield 12, 3) := by decide +kernel
theorem dX5_wipe_22 : decode cX5_wipe 22 = .ok (.iload_n 1, 1) := by decide +kernel
theorem dX5_wipe_23 : decode cX5_wipe 23 = .ok (.aload_n 0, 1) := by decide +kernel
theorem dX5_wipe_24 : decode cX5_wipe 24 = .ok (.getfield 26, 3) := by decide +kernel
theorem dX5_wipe_27 : decode cX5_wipe 27 = .ok (.getfield 120, 3) := by decide +kernel
theorem dX5_wipe_30 : decode cX5_wipe 30 = .ok (.invokevirtual 124, 3) := by decide +kernel
theorem dX5_wipe_33 : decode cX5_wipe 33 = .ok (.ireturn, 1) := by decide +kernel
set_option maxRecDepth 20000 in
theorem ggX5_pass_X0_goOn : GoodIn wsX5_pass wsX0_goOn := goodIn_r _ [10, 11, 12, 13, 9, 14, 15, 16, 17, 18, 19, 20, 21, 22, 23, 24, 25, 26, 27, 28, 29, 30, 31, 32, 33, 34, 35, 36, 37, 38, 39, 40, 41, 42, 43, 44, 45, 46, 47, 48, 49, 50, 51, 52, 53, 54, 55, 56, 57, 58, 59, 60, 61, 62, 63, 64, 65, 66, 67, 68, 69, 70, 71, 72, 73, 74, 75, 76, 77, 78, 79, 80, 81, 82, 83, 84, 85, 86, 87, 88, 89, 90, 91, 92, 93, 94, 95, 96, 97, 98, 99, 100, 101, 102, 103, 104, 109, 110, 111, 112, 113, 114, 115, 116, 117, 118, 119, 120, 121, 122, 123, 124, 125, 126, 127, 128, 129, 130, 131] (by decide +kernel) (by decide +kernel)
set_option maxRecDepth 20000 in
theorem gX5_pass_X0_goOn : GoodIn wsX5_pass (wsV RX5 133 RX0 yX0_goOn wsX0_goOn) := goodIn_app (goodIn_of _ (by decide +kernel)) ggX5_pass_X0_goOn
theorem dX5_pass_0 : decode cX5_pass 0 = .ok (.iload_n 1, 1) := by decide +kernel
theorem dX5_pass_1 : decode cX5_pass 1 = .ok (.iconst 1, 1) := by decide +kernel
theorem dX5_pass_2 : decode cX5_pass 2 = .ok (.if_icmp .lt 9, 3) := by decide +kernel
theorem dX5_pass_5 : decode cX5_pass 5 = .ok (.iload_n 1, 1) := by decide +kernel
theorem dX5_pass_6 : decode cX5_pass 6 = .ok (.bipush 40, 2) := by decide +kernel
theorem dX5_pass_8 : decode cX5_pass 8 = .ok (.if_icmp .le 13, 3) := by decide +kernel
theorem dX5_pass_11 : decode cX5_pass 11 = .ok (.new 33, 3) := by decide +kernel
theorem dX5_pass_14 : decode cX5_pass 14 = .ok (.dup, 1) := by decide +kernel
theorem dX5_pass_15 : decode cX5_pass 15 = .ok (.ldc 128, 2) := by decide +kernel
theorem dX5_pass_17 : decode cX5_pass 17 = .ok (.invokespecial 37, 3) := by decide +kernel
theorem dX5_pass_20 : decode cX5_pass 20 = .ok (.athrow, 1) := by decide +kernel
theorem dX5_pass_21 : decode cX5_pass 21 = .ok (.aload_n 0, 1) := by decide +kernel
theorem dX5_pass_22 : decode cX5_pass 22 = .ok (.getfield 26, 3) := by decide +kernel
theorem dX5_pass_25 : decode cX5_pass 25 = .ok (.getfield 130, 3) := by decide +kernel
theorem dX5_pass_28 : decode cX5_pass 28 = .ok (.istore_n 2, 1) := by decide +kernel
theorem dX5_pass_29 : decode cX5_pass 29 = .ok (.aload_n 0, 1) := by decide +kernel
theorem dX5_pass_30 : decode cX5_pass 30 = .ok (.getfield 26, 3) := by decide +kernel
theorem dX5_pass_33 : decode cX5_pass 33 = .ok (.iload_n 1, 1) := by decide +kernel
theorem dX5_pass_34 : decode cX5_pass 34 = .ok (.aload_n 0, 1) := by decide +kernel
theorem dX5_pass_35 : decode cX5_pass 35 = .ok (.getfield 12, 3) := by decide +kernel
theorem dX5_pass_38 : decode cX5_pass 38 = .ok (.aload_n 0, 1) := by decide +kernel
theorem dX5_pass_39 : decode cX5_pass 39 = .ok (.getfield 19, 3) := by decide +kernel
theorem dX5_pass_42 : decode cX5_pass 42 = .ok (.invokevirtual 133, 3) := by decide +kernel
theorem dX5_pass_45 : decode cX5_pass 45 = .ok (.aload_n 0, 1) := by decide +kernel
theorem dX5_pass_46 : decode cX5_pass 46 = .ok (.getfield 26, 3) := by decide +kernel
theorem dX5_pass_49 : decode cX5_pass 49 = .ok (.getfield 130, 3) := by decide +kernel
theorem dX5_pass_52 : decode cX5_pass 52 = .ok (.iload_n 2, 1) := by decide +kernel
theorem dX5_pass_53 : decode cX5_pass 53 = .ok (.isub, 1) := by decide +kernel
theorem dX5_pass_54 : decode cX5_pass 54 = .ok (.ireturn, 1) := by decide +kernel
set_option maxRecDepth 20000 in
theorem ggX5_soot_X5_isColumn : GoodIn wsX5_soot wsX5_isColumn := goodIn_r _ [7] (by decide +kernel) (by decide +kernel)
set_option maxRecDepth 20000 in
theorem gX5_soot_X5_isColumn : GoodIn wsX5_soot (va_wsS RX5 58 yX5_isColumn wsX5_isColumn) := goodIn_app (goodIn_of _ (by decide +kernel)) ggX5_soot_X5_isColumn
set_option maxRecDepth 20000 in
theorem ggX5_soot_X2_at : GoodIn wsX5_soot wsX2_at := goodIn_r _ [12, 13, 24] (by decide +kernel) (by decide +kernel)
set_option maxRecDepth 20000 in
theorem gX5_soot_X2_at : GoodIn wsX5_soot (wsV RX5 139 RX2 yX2_at wsX2_at) := goodIn_app (goodIn_of _ (by decide +kernel)) ggX5_soot_X2_at
theorem dX5_soot_0 : decode cX5_soot 0 = .ok (.iload_n 1, 1) := by decide +kernel
theorem dX5_soot_1 : decode cX5_soot 1 = .ok (.invokestatic 58, 3) := by decide +kernel
theorem dX5_soot_4 : decode cX5_soot 4 = .ok (.ifCond .eq 13, 3) := by decide +kernel
theorem dX5_soot_7 : decode cX5_soot 7 = .ok (.iload_n 2, 1) := by decide +kernel
theorem dX5_soot_8 : decode cX5_soot 8 = .ok (.ifCond .lt 9, 3) := by decide +kernel
theorem dX5_soot_11 : decode cX5_soot 11 = .ok (.iload_n 2, 1) := by decide +kernel
theorem dX5_soot_12 : decode cX5_soot 12 = .ok (.bipush 8, 2) := by decide +kernel
theorem dX5_soot_14 : decode cX5_soot 14 = .ok (.if_icmp .lt 13, 3) := by decide +kernel
theorem dX5_soot_17 : decode cX5_soot 17 = .ok (.new 40, 3) := by decide +kernel
theorem dX5_soot_20 : decode cX5_soot 20 = .ok (.dup, 1) := by decide +kernel
theorem dX5_soot_21 : decode cX5_soot 21 = .ok (.ldc 137, 2) := by decide +kernel
theorem dX5_soot_23 : decode cX5_soot 23 = .ok (.invokespecial 44, 3) := by decide +kernel
theorem dX5_soot_26 : decode cX5_soot 26 = .ok (.athrow, 1) := by decide +kernel
theorem dX5_soot_27 : decode cX5_soot 27 = .ok (.aload_n 0, 1) := by decide +kernel
theorem dX5_soot_28 : decode cX5_soot 28 = .ok (.getfield 26, 3) := by decide +kernel
theorem dX5_soot_31 : decode cX5_soot 31 = .ok (.getfield 120, 3) := by decide +kernel
theorem dX5_soot_34 : decode cX5_soot 34 = .ok (.iload_n 1, 1) := by decide +kernel
theorem dX5_soot_35 : decode cX5_soot 35 = .ok (.iload_n 2, 1) := by decide +kernel
theorem dX5_soot_36 : decode cX5_soot 36 = .ok (.invokevirtual 139, 3) := by decide +kernel
theorem dX5_soot_39 : decode cX5_soot 39 = .ok (.ireturn, 1) := by decide +kernel
set_option maxRecDepth 20000 in
theorem ggX5_about_X5_isWindow : GoodIn wsX5_about wsX5_isWindow := goodIn_r _ [9, 3, 46, 47, 48, 49, 56, 57, 58, 59, 60, 61] (by decide +kernel) (by decide +kernel)
set_option maxRecDepth 20000 in
theorem gX5_about_X5_isWindow : GoodIn wsX5_about (wsV RX5 115 RX5 yX5_isWindow wsX5_isWindow) := goodIn_app (goodIn_of _ (by decide +kernel)) ggX5_about_X5_isWindow
set_option maxRecDepth 20000 in
theorem ggX5_about_X4_number : GoodIn wsX5_about wsX4_number := goodIn_r _ [14, 15, 16, 17, 18, 19, 20, 21, 22, 13, 23, 24, 25, 26, 27, 28, 29, 30, 31, 32, 33, 34, 35, 36, 37, 38, 39, 40, 41, 42, 43, 44, 45, 56, 57, 58, 59, 60, 61, 62] (by decide +kernel) (by decide +kernel)
set_option maxRecDepth 20000 in
theorem gX5_about_X4_number : GoodIn wsX5_about (wsV RX5 146 RX4 yX4_number wsX4_number) := goodIn_app (goodIn_of _ (by decide +kernel)) ggX5_about_X4_number
theorem dX5_about_0 : decode cX5_about 0 = .ok (.aload_n 0, 1) := by decide +kernel
theorem dX5_about_1 : decode cX5_about 1 = .ok (.iload_n 1, 1) := by decide +kernel
theorem dX5_about_2 : decode cX5_about 2 = .ok (.invokevirtual 115, 3) := by decide +kernel
theorem dX5_about_5 : decode cX5_about 5 = .ok (.ifCond .eq 13, 3) := by decide +kernel
theorem dX5_about_8 : decode cX5_about 8 = .ok (.iload_n 2, 1) := by decide +kernel
theorem dX5_about_9 : decode cX5_about 9 = .ok (.ifCond .lt 9, 3) := by decide +kernel
theorem dX5_about_12 : decode cX5_about 12 = .ok (.iload_n 2, 1) := by decide +kernel
theorem dX5_about_13 : decode cX5_about 13 = .ok (.bipush 8, 2) := by decide +kernel
theorem dX5_about_15 : decode cX5_about 15 = .ok (.if_icmp .lt 13, 3) := by decide +kernel
theorem dX5_about_18 : decode cX5_about 18 = .ok (.new 40, 3) := by decide +kernel
theorem dX5_about_21 : decode cX5_about 21 = .ok (.dup, 1) := by decide +kernel
theorem dX5_about_22 : decode cX5_about 22 = .ok (.ldc 144, 2) := by decide +kernel
theorem dX5_about_24 : decode cX5_about 24 = .ok (.invokespecial 44, 3) := by decide +kernel
theorem dX5_about_27 : decode cX5_about 27 = .ok (.athrow, 1) := by decide +kernel
theorem dX5_about_28 : decode cX5_about 28 = .ok (.aload_n 0, 1) := by decide +kernel
theorem dX5_about_29 : decode cX5_about 29 = .ok (.getfield 12, 3) := by decide +kernel
theorem dX5_about_32 : decode cX5_about 32 = .ok (.iload_n 1, 1) := by decide +kernel
theorem dX5_about_33 : decode cX5_about 33 = .ok (.iload_n 2, 1) := by decide +kernel
theorem dX5_about_34 : decode cX5_about 34 = .ok (.aload_n 0, 1) := by decide +kernel
theorem dX5_about_35 : decode cX5_about 35 = .ok (.getfield 26, 3) := by decide +kernel
theorem dX5_about_38 : decode cX5_about 38 = .ok (.getfield 120, 3) := by decide +kernel
theorem dX5_about_41 : decode cX5_about 41 = .ok (.invokevirtual 146, 3) := by decide +kernel
theorem dX5_about_44 : decode cX5_about 44 = .ok (.ireturn, 1) := by decide +kernel
set_option maxRecDepth 20000 in
theorem ggX5_told_X5_isRope : GoodIn wsX5_told wsX5_isRope := goodIn_r _ [8, 3, 20, 21, 22, 23, 24, 25, 26, 27, 28, 29, 30, 31, 32, 33, 34, 35, 36] (by decide +kernel) (by decide +kernel)
set_option maxRecDepth 20000 in
theorem gX5_told_X5_isRope : GoodIn wsX5_told (wsV RX5 94 RX5 yX5_isRope wsX5_isRope) := goodIn_app (goodIn_of _ (by decide +kernel)) ggX5_told_X5_isRope
set_option maxRecDepth 20000 in
theorem ggX5_told_X3_number : GoodIn wsX5_told wsX3_number := goodIn_r _ [13, 14, 15, 16, 17, 18, 19, 30, 31, 32, 33, 34, 35, 36] (by decide +kernel) (by decide +kernel)
set_option maxRecDepth 20000 in
theorem gX5_told_X3_number : GoodIn wsX5_told (wsV RX5 152 RX3 yX3_number wsX3_number) := goodIn_app (goodIn_of _ (by decide +kernel)) ggX5_told_X3_number
theorem dX5_told_0 : decode cX5_told 0 = .ok (.aload_n 0, 1) := by decide +kernel
theorem dX5_told_1 : decode cX5_told 1 = .ok (.iload_n 1, 1) := by decide +kernel
theorem dX5_told_2 : decode cX5_told 2 = .ok (.invokevirtual 94, 3) := by decide +kernel
theorem dX5_told_5 : decode cX5_told 5 = .ok (.ifCond .eq 13, 3) := by decide +kernel
theorem dX5_told_8 : decode cX5_told 8 = .ok (.iload_n 2, 1) := by decide +kernel
theorem dX5_told_9 : decode cX5_told 9 = .ok (.ifCond .lt 9, 3) := by decide +kernel
theorem dX5_told_12 : decode cX5_told 12 = .ok (.iload_n 2, 1) := by decide +kernel
theorem dX5_told_13 : decode cX5_told 13 = .ok (.bipush 6, 2) := by decide +kernel
theorem dX5_told_15 : decode cX5_told 15 = .ok (.if_icmp .lt 13, 3) := by decide +kernel
theorem dX5_told_18 : decode cX5_told 18 = .ok (.new 40, 3) := by decide +kernel
theorem dX5_told_21 : decode cX5_told 21 = .ok (.dup, 1) := by decide +kernel
theorem dX5_told_22 : decode cX5_told 22 = .ok (.ldc 150, 2) := by decide +kernel
theorem dX5_told_24 : decode cX5_told 24 = .ok (.invokespecial 44, 3) := by decide +kernel
theorem dX5_told_27 : decode cX5_told 27 = .ok (.athrow, 1) := by decide +kernel
theorem dX5_told_28 : decode cX5_told 28 = .ok (.aload_n 0, 1) := by decide +kernel
theorem dX5_told_29 : decode cX5_told 29 = .ok (.getfield 26, 3) := by decide +kernel
theorem dX5_told_32 : decode cX5_told 32 = .ok (.getfield 66, 3) := by decide +kernel
theorem dX5_told_35 : decode cX5_told 35 = .ok (.iload_n 1, 1) := by decide +kernel
theorem dX5_told_36 : decode cX5_told 36 = .ok (.iload_n 2, 1) := by decide +kernel
theorem dX5_told_37 : decode cX5_told 37 = .ok (.invokevirtual 152, 3) := by decide +kernel
theorem dX5_told_40 : decode cX5_told 40 = .ok (.ireturn, 1) := by decide +kernel
set_option maxRecDepth 20000 in
theorem ggX5_count_X5_number : GoodIn wsX5_count wsX5_number := goodIn_r _ [7, 8, 9, 10, 11, 12, 13, 14, 15, 16, 17, 18, 19, 20, 21, 22, 23, 24, 25, 26, 27, 28, 29, 30, 31, 32, 33, 34, 35, 36, 37, 38, 39, 40, 41, 42, 43, 44, 45, 46, 47, 48, 49, 50, 51, 52, 53, 54, 55, 56, 57, 58, 59, 60, 61, 62, 63, 64, 65, 66, 67, 68, 69, 70, 71, 72, 73, 74, 75, 76, 77, 78, 79, 80, 81, 82, 83, 84, 85] (by decide +kernel) (by decide +kernel)
set_option maxRecDepth 20000 in
theorem gX5_count_X5_number : GoodIn wsX5_count (wsV RX5 156 RX5 yX5_number wsX5_number) := goodIn_app (goodIn_of _ (by decide +kernel)) ggX5_count_X5_number
theorem dX5_count_0 : decode cX5_count 0 = .ok (.iload_n 1, 1) := by decide +kernel
theorem dX5_count_1 : decode cX5_count 1 = .ok (.ifCond .lt 9, 3) := by decide +kernel
theorem dX5_count_4 : decode cX5_count 4 = .ok (.iload_n 1, 1) := by decide +kernel
theorem dX5_count_5 : decode cX5_count 5 = .ok (.bipush 11, 2) := by decide +kernel
theorem dX5_count_7 : decode cX5_count 7 = .ok (.if_icmp .lt 13, 3) := by decide +kernel
theorem dX5_count_10 : decode cX5_count 10 = .ok (.new 40, 3) := by decide +kernel
theorem dX5_count_13 : decode cX5_count 13 = .ok (.dup, 1) := by decide +kernel
theorem dX5_count_14 : decode cX5_count 14 = .ok (.ldc 154, 2) := by decide +kernel
theorem dX5_count_16 : decode cX5_count 16 = .ok (.invokespecial 44, 3) := by decide +kernel
theorem dX5_count_19 : decode cX5_count 19 = .ok (.athrow, 1) := by decide +kernel
theorem dX5_count_20 : decode cX5_count 20 = .ok (.aload_n 0, 1) := by decide +kernel
theorem dX5_count_21 : decode cX5_count 21 = .ok (.iload_n 1, 1) := by decide +kernel
theorem dX5_count_22 : decode cX5_count 22 = .ok (.invokevirtual 156, 3) := by decide +kernel
theorem dX5_count_25 : decode cX5_count 25 = .ok (.ireturn, 1) := by decide +kernel
set_option maxRecDepth 20000 in
theorem ggX5_isFeast_X1_areOn : GoodIn wsX5_isFeast wsX1_areOn := goodIn_r _ [9, 10, 11, 12, 23, 24, 25] (by decide +kernel) (by decide +kernel)
set_option maxRecDepth 20000 in
theorem gX5_isFeast_X1_areOn : GoodIn wsX5_isFeast (wsV RX5 162 RX1 yX1_areOn wsX1_areOn) := goodIn_app (goodIn_of _ (by decide +kernel)) ggX5_isFeast_X1_areOn
theorem dX5_isFeast_0 : decode cX5_isFeast 0 = .ok (.iload_n 1, 1) := by decide +kernel
theorem dX5_isFeast_1 : decode cX5_isFeast 1 = .ok (.ifCond .lt 9, 3) := by decide +kernel
theorem dX5_isFeast_4 : decode cX5_isFeast 4 = .ok (.iload_n 1, 1) := by decide +kernel
theorem dX5_isFeast_5 : decode cX5_isFeast 5 = .ok (.bipush 60, 2) := by decide +kernel
theorem dX5_isFeast_7 : decode cX5_isFeast 7 = .ok (.if_icmp .le 13, 3) := by decide +kernel
theorem dX5_isFeast_10 : decode cX5_isFeast 10 = .ok (.new 33, 3) := by decide +kernel
theorem dX5_isFeast_13 : decode cX5_isFeast 13 = .ok (.dup, 1) := by decide +kernel
theorem dX5_isFeast_14 : decode cX5_isFeast 14 = .ok (.ldc 128, 2) := by decide +kernel
theorem dX5_isFeast_16 : decode cX5_isFeast 16 = .ok (.invokespecial 37, 3) := by decide +kernel
theorem dX5_isFeast_19 : decode cX5_isFeast 19 = .ok (.athrow, 1) := by decide +kernel
theorem dX5_isFeast_20 : decode cX5_isFeast 20 = .ok (.aload_n 0, 1) := by decide +kernel
theorem dX5_isFeast_21 : decode cX5_isFeast 21 = .ok (.getfield 19, 3) := by decide +kernel
theorem dX5_isFeast_24 : decode cX5_isFeast 24 = .ok (.aload_n 0, 1) := by decide +kernel
theorem dX5_isFeast_25 : decode cX5_isFeast 25 = .ok (.getfield 26, 3) := by decide +kernel
theorem dX5_isFeast_28 : decode cX5_isFeast 28 = .ok (.getfield 159, 3) := by decide +kernel
theorem dX5_isFeast_31 : decode cX5_isFeast 31 = .ok (.iload_n 1, 1) := by decide +kernel
theorem dX5_isFeast_32 : decode cX5_isFeast 32 = .ok (.iadd, 1) := by decide +kernel
theorem dX5_isFeast_33 : decode cX5_isFeast 33 = .ok (.invokevirtual 162, 3) := by decide +kernel
theorem dX5_isFeast_36 : decode cX5_isFeast 36 = .ok (.ireturn, 1) := by decide +kernel
set_option maxRecDepth 20000 in
theorem ggX5_next_X1_daysUntil : GoodIn wsX5_next wsX1_daysUntil := goodIn_r _ [7, 8, 9, 10, 6, 11, 12, 13, 14, 25, 26, 27] (by decide +kernel) (by decide +kernel)
set_option maxRecDepth 20000 in
theorem gX5_next_X1_daysUntil : GoodIn wsX5_next (wsV RX5 165 RX1 yX1_daysUntil wsX1_daysUntil) := goodIn_app (goodIn_of _ (by decide +kernel)) ggX5_next_X1_daysUntil
theorem dX5_next_0 : decode cX5_next 0 = .ok (.aload_n 0, 1) := by decide +kernel
theorem dX5_next_1 : decode cX5_next 1 = .ok (.getfield 19, 3) := by decide +kernel
theorem dX5_next_4 : decode cX5_next 4 = .ok (.aload_n 0, 1) := by decide +kernel
theorem dX5_next_5 : decode cX5_next 5 = .ok (.getfield 26, 3) := by decide +kernel
theorem dX5_next_8 : decode cX5_next 8 = .ok (.getfield 159, 3) := by decide +kernel
theorem dX5_next_11 : decode cX5_next 11 = .ok (.invokevirtual 165, 3) := by decide +kernel
theorem dX5_next_14 : decode cX5_next 14 = .ok (.ireturn, 1) := by decide +kernel
set_option maxRecDepth 20000 in
theorem ggX5_mean_X2_total : GoodIn wsX5_mean wsX2_total := goodIn_r _ [7, 8, 19] (by decide +kernel) (by decide +kernel)
set_option maxRecDepth 20000 in
theorem gX5_mean_X2_total : GoodIn wsX5_mean (wsV RX5 172 RX2 yX2_total wsX2_total) := goodIn_app (goodIn_of _ (by decide +kernel)) ggX5_mean_X2_total
theorem dX5_mean_0 : decode cX5_mean 0 = .ok (.aload_n 0, 1) := by decide +kernel
theorem dX5_mean_1 : decode cX5_mean 1 = .ok (.getfield 26, 3) := by decide +kernel
theorem dX5_mean_4 : decode cX5_mean 4 = .ok (.getfield 120, 3) := by decide +kernel
theorem dX5_mean_7 : decode cX5_mean 7 = .ok (.invokevirtual 172, 3) := by decide +kernel
theorem dX5_mean_10 : decode cX5_mean 10 = .ok (.i2d, 1) := by decide +kernel
theorem dX5_mean_11 : decode cX5_mean 11 = .ok (.ldc2_w 193, 3) := by decide +kernel
theorem dX5_mean_14 : decode cX5_mean 14 = .ok (.ddiv, 1) := by decide +kernel
theorem dX5_mean_15 : decode cX5_mean 15 = .ok (.dreturn, 1) := by decide +kernel
theorem dX5_isColumn_0 : decode cX5_isColumn 0 = .ok (.iload_n 0, 1) := by decide +kernel
theorem dX5_isColumn_1 : decode cX5_isColumn 1 = .ok (.ifCond .lt 13, 3) := by decide +kernel
theorem dX5_isColumn_4 : decode cX5_isColumn 4 = .ok (.iload_n 0, 1) := by decide +kernel
theorem dX5_isColumn_5 : decode cX5_isColumn 5 = .ok (.bipush 12, 2) := by decide +kernel
theorem dX5_isColumn_7 : decode cX5_isColumn 7 = .ok (.if_icmp .ge 7, 3) := by decide +kernel
theorem dX5_isColumn_10 : decode cX5_isColumn 10 = .ok (.iconst 1, 1) := by decide +kernel
theorem dX5_isColumn_11 : decode cX5_isColumn 11 = .ok (.goto 4, 3) := by decide +kernel
theorem dX5_isColumn_14 : decode cX5_isColumn 14 = .ok (.iconst 0, 1) := by decide +kernel
theorem dX5_isColumn_15 : decode cX5_isColumn 15 = .ok (.ireturn, 1) := by decide +kernel
theorem dX5_isWindow_0 : decode cX5_isWindow 0 = .ok (.iload_n 1, 1) := by decide +kernel
theorem dX5_isWindow_1 : decode cX5_isWindow 1 = .ok (.ifCond .lt 18, 3) := by decide +kernel
theorem dX5_isWindow_4 : decode cX5_isWindow 4 = .ok (.iload_n 1, 1) := by decide +kernel
theorem dX5_isWindow_5 : decode cX5_isWindow 5 = .ok (.aload_n 0, 1) := by decide +kernel
theorem dX5_isWindow_6 : decode cX5_isWindow 6 = .ok (.getfield 12, 3) := by decide +kernel
theorem dX5_isWindow_9 : decode cX5_isWindow 9 = .ok (.getfield 45, 3) := by decide +kernel
theorem dX5_isWindow_12 : decode cX5_isWindow 12 = .ok (.if_icmp .ge 7, 3) := by decide +kernel
theorem dX5_isWindow_15 : decode cX5_isWindow 15 = .ok (.iconst 1, 1) := by decide +kernel
theorem dX5_isWindow_16 : decode cX5_isWindow 16 = .ok (.goto 4, 3) := by decide +kernel
theorem dX5_isWindow_19 : decode cX5_isWindow 19 = .ok (.iconst 0, 1) := by decide +kernel
theorem dX5_isWindow_20 : decode cX5_isWindow 20 = .ok (.ireturn, 1) := by decide +kernel
theorem dX5_isRope_0 : decode cX5_isRope 0 = .ok (.iload_n 1, 1) := by decide +kernel
theorem dX5_isRope_1 : decode cX5_isRope 1 = .ok (.ifCond .lt 21, 3) := by decide +kernel
theorem dX5_isRope_4 : decode cX5_isRope 4 = .ok (.iload_n 1, 1) := by decide +kernel
theorem dX5_isRope_5 : decode cX5_isRope 5 = .ok (.aload_n 0, 1) := by decide +kernel
theorem dX5_isRope_6 : decode cX5_isRope 6 = .ok (.getfield 26, 3) := by decide +kernel
theorem dX5_isRope_9 : decode cX5_isRope 9 = .ok (.getfield 66, 3) := by decide +kernel
theorem dX5_isRope_12 : decode cX5_isRope 12 = .ok (.getfield 70, 3) := by decide +kernel
theorem dX5_isRope_15 : decode cX5_isRope 15 = .ok (.if_icmp .ge 7, 3) := by decide +kernel
theorem dX5_isRope_18 : decode cX5_isRope 18 = .ok (.iconst 1, 1) := by decide +kernel
theorem dX5_isRope_19 : decode cX5_isRope 19 = .ok (.goto 4, 3) := by decide +kernel
theorem dX5_isRope_22 : decode cX5_isRope 22 = .ok (.iconst 0, 1) := by decide +kernel
theorem dX5_isRope_23 : decode cX5_isRope 23 = .ok (.ireturn, 1) := by decide +kernel
set_option maxRecDepth 20000 in
theorem ggX5_number_X2_total : GoodIn wsX5_number wsX2_total := goodIn_r _ [8, 9, 78] (by decide +kernel) (by decide +kernel)
set_option maxRecDepth 20000 in
theorem gX5_number_X2_total : GoodIn wsX5_number (wsV RX5 172 RX2 yX2_total wsX2_total) := goodIn_app (goodIn_of _ (by decide +kernel)) ggX5_number_X2_total
set_option maxRecDepth 20000 in
theorem ggX5_number_X2_cleanPanes : GoodIn wsX5_number wsX2_cleanPanes := goodIn_r _ [13, 9, 78] (by decide +kernel) (by decide +kernel)
set_option maxRecDepth 20000 in
theorem gX5_number_X2_cleanPanes : GoodIn wsX5_number (wsV RX5 199 RX2 yX2_cleanPanes wsX2_cleanPanes) := goodIn_app (goodIn_of _ (by decide +kernel)) ggX5_number_X2_cleanPanes
set_option maxRecDepth 20000 in
theorem ggX5_number_X3_allCleaned : GoodIn wsX5_number wsX3_allCleaned := goodIn_r _ [18, 19, 20, 68, 69, 70, 71, 72, 73, 74] (by decide +kernel) (by decide +kernel)
set_option maxRecDepth 20000 in
theorem gX5_number_X3_allCleaned : GoodIn wsX5_number (wsV RX5 176 RX3 yX3_allCleaned wsX3_allCleaned) := goodIn_app (goodIn_of _ (by decide +kernel)) ggX5_number_X3_allCleaned
set_option maxRecDepth 20000 in
theorem ggX5_number_X4_allBring : GoodIn wsX5_number wsX4_allBring := goodIn_r _ [25, 26, 27, 28, 29, 24, 30, 31, 32, 33, 34, 35, 36, 37, 38, 39, 40, 41, 42, 43, 44, 45, 46, 47, 48, 49, 50, 7, 51, 9, 62, 63, 64, 65, 66, 67, 78] (by decide +kernel) (by decide +kernel)
set_option maxRecDepth 20000 in
theorem gX5_number_X4_allBring : GoodIn wsX5_number (wsV RX5 205 RX4 yX4_allBring wsX4_allBring) := goodIn_app (goodIn_of _ (by decide +kernel)) ggX5_number_X4_allBring
theorem dX5_number_0 : decode cX5_number 0 = .ok (.iload_n 1, 1) := by decide +kernel
theorem dX5_number_1 : decode cX5_number 1 = .ok (.tableswitch 147 0 9 #[55, 63, 71, 82, 90, 98, 109, 120, 131, 139], 55) := by decide +kernel
theorem dX5_number_56 : decode cX5_number 56 = .ok (.aload_n 0, 1) := by decide +kernel
theorem dX5_number_57 : decode cX5_number 57 = .ok (.getfield 26, 3) := by decide +kernel
theorem dX5_number_60 : decode cX5_number 60 = .ok (.getfield 159, 3) := by decide +kernel
theorem dX5_number_63 : decode cX5_number 63 = .ok (.ireturn, 1) := by decide +kernel
theorem dX5_number_64 : decode cX5_number 64 = .ok (.aload_n 0, 1) := by decide +kernel
theorem dX5_number_65 : decode cX5_number 65 = .ok (.getfield 12, 3) := by decide +kernel
theorem dX5_number_68 : decode cX5_number 68 = .ok (.getfield 45, 3) := by decide +kernel
theorem dX5_number_71 : decode cX5_number 71 = .ok (.ireturn, 1) := by decide +kernel
theorem dX5_number_72 : decode cX5_number 72 = .ok (.aload_n 0, 1) := by decide +kernel
theorem dX5_number_73 : decode cX5_number 73 = .ok (.getfield 26, 3) := by decide +kernel
theorem dX5_number_76 : decode cX5_number 76 = .ok (.getfield 66, 3) := by decide +kernel
theorem dX5_number_79 : decode cX5_number 79 = .ok (.getfield 70, 3) := by decide +kernel
theorem dX5_number_82 : decode cX5_number 82 = .ok (.ireturn, 1) := by decide +kernel
theorem dX5_number_83 : decode cX5_number 83 = .ok (.aload_n 0, 1) := by decide +kernel
theorem dX5_number_84 : decode cX5_number 84 = .ok (.getfield 19, 3) := by decide +kernel
theorem dX5_number_87 : decode cX5_number 87 = .ok (.getfield 83, 3) := by decide +kernel
theorem dX5_number_90 : decode cX5_number 90 = .ok (.ireturn, 1) := by decide +kernel
theorem dX5_number_91 : decode cX5_number 91 = .ok (.aload_n 0, 1) := by decide +kernel
theorem dX5_number_92 : decode cX5_number 92 = .ok (.getfield 26, 3) := by decide +kernel
theorem dX5_number_95 : decode cX5_number 95 = .ok (.getfield 91, 3) := by decide +kernel
theorem dX5_number_98 : decode cX5_number 98 = .ok (.ireturn, 1) := by decide +kernel
theorem dX5_number_99 : decode cX5_number 99 = .ok (.aload_n 0, 1) := by decide +kernel
theorem dX5_number_100 : decode cX5_number 100 = .ok (.getfield 26, 3) := by decide +kernel
theorem dX5_number_103 : decode cX5_number 103 = .ok (.getfield 120, 3) := by decide +kernel
theorem dX5_number_106 : decode cX5_number 106 = .ok (.invokevirtual 172, 3) := by decide +kernel
theorem dX5_number_109 : decode cX5_number 109 = .ok (.ireturn, 1) := by decide +kernel
theorem dX5_number_110 : decode cX5_number 110 = .ok (.aload_n 0, 1) := by decide +kernel
theorem dX5_number_111 : decode cX5_number 111 = .ok (.getfield 26, 3) := by decide +kernel
theorem dX5_number_114 : decode cX5_number 114 = .ok (.getfield 120, 3) := by decide +kernel
theorem dX5_number_117 : decode cX5_number 117 = .ok (.invokevirtual 199, 3) := by decide +kernel
theorem dX5_number_120 : decode cX5_number 120 = .ok (.ireturn, 1) := by decide +kernel
theorem dX5_number_121 : decode cX5_number 121 = .ok (.aload_n 0, 1) := by decide +kernel
theorem dX5_number_122 : decode cX5_number 122 = .ok (.getfield 26, 3) := by decide +kernel
theorem dX5_number_125 : decode cX5_number 125 = .ok (.getfield 66, 3) := by decide +kernel
theorem dX5_number_128 : decode cX5_number 128 = .ok (.invokevirtual 176, 3) := by decide +kernel
theorem dX5_number_131 : decode cX5_number 131 = .ok (.ireturn, 1) := by decide +kernel
theorem dX5_number_132 : decode cX5_number 132 = .ok (.aload_n 0, 1) := by decide +kernel
theorem dX5_number_133 : decode cX5_number 133 = .ok (.getfield 26, 3) := by decide +kernel
theorem dX5_number_136 : decode cX5_number 136 = .ok (.getfield 130, 3) := by decide +kernel
theorem dX5_number_139 : decode cX5_number 139 = .ok (.ireturn, 1) := by decide +kernel
theorem dX5_number_140 : decode cX5_number 140 = .ok (.aload_n 0, 1) := by decide +kernel
theorem dX5_number_141 : decode cX5_number 141 = .ok (.getfield 26, 3) := by decide +kernel
theorem dX5_number_144 : decode cX5_number 144 = .ok (.getfield 202, 3) := by decide +kernel
theorem dX5_number_147 : decode cX5_number 147 = .ok (.ireturn, 1) := by decide +kernel
theorem dX5_number_148 : decode cX5_number 148 = .ok (.aload_n 0, 1) := by decide +kernel
theorem dX5_number_149 : decode cX5_number 149 = .ok (.getfield 12, 3) := by decide +kernel
theorem dX5_number_152 : decode cX5_number 152 = .ok (.aload_n 0, 1) := by decide +kernel
theorem dX5_number_153 : decode cX5_number 153 = .ok (.getfield 26, 3) := by decide +kernel
theorem dX5_number_156 : decode cX5_number 156 = .ok (.getfield 120, 3) := by decide +kernel
theorem dX5_number_159 : decode cX5_number 159 = .ok (.invokevirtual 205, 3) := by decide +kernel
theorem dX5_number_162 : decode cX5_number 162 = .ok (.ireturn, 1) := by decide +kernel
theorem dX6_init_0 : decode cX6_init 0 = .ok (.aload_n 0, 1) := by decide +kernel
theorem dX6_init_1 : decode cX6_init 1 = .ok (.invokespecial 1, 3) := by decide +kernel
theorem dX6_init_4 : decode cX6_init 4 = .ok (.aload_n 0, 1) := by decide +kernel
theorem dX6_init_5 : decode cX6_init 5 = .ok (.bipush 12, 2) := by decide +kernel
theorem dX6_init_7 : decode cX6_init 7 = .ok (.bipush 8, 2) := by decide +kernel
theorem dX6_init_9 : decode cX6_init 9 = .ok (.multianewarray 7 2, 4) := by decide +kernel
theorem dX6_init_13 : decode cX6_init 13 = .ok (.putfield 9, 3) := by decide +kernel
theorem dX6_init_16 : decode cX6_init 16 = .ok (.aload_n 0, 1) := by decide +kernel
theorem dX6_init_17 : decode cX6_init 17 = .ok (.iconst 0, 1) := by decide +kernel
theorem dX6_init_18 : decode cX6_init 18 = .ok (.anewarray 14, 3) := by decide +kernel
theorem dX6_init_21 : decode cX6_init 21 = .ok (.putfield 16, 3) := by decide +kernel
theorem dX6_init_24 : decode cX6_init 24 = .ok (.aload_n 0, 1) := by decide +kernel
theorem dX6_init_25 : decode cX6_init 25 = .ok (.iconst 0, 1) := by decide +kernel
theorem dX6_init_26 : decode cX6_init 26 = .ok (.anewarray 14, 3) := by decide +kernel
theorem dX6_init_29 : decode cX6_init 29 = .ok (.putfield 19, 3) := by decide +kernel
theorem dX6_init_32 : decode cX6_init 32 = .ok (.aload_n 0, 1) := by decide +kernel
theorem dX6_init_33 : decode cX6_init 33 = .ok (.iconst 0, 1) := by decide +kernel
theorem dX6_init_34 : decode cX6_init 34 = .ok (.anewarray 14, 3) := by decide +kernel
theorem dX6_init_37 : decode cX6_init 37 = .ok (.putfield 22, 3) := by decide +kernel
theorem dX6_init_40 : decode cX6_init 40 = .ok (.return_, 1) := by decide +kernel
theorem dX6_with_0 : decode cX6_with 0 = .ok (.aload_n 0, 1) := by decide +kernel
theorem dX6_with_1 : decode cX6_with 1 = .ok (.arraylength, 1) := by decide +kernel
theorem dX6_with_2 : decode cX6_with 2 = .ok (.iconst 1, 1) := by decide +kernel
theorem dX6_with_3 : decode cX6_with 3 = .ok (.iadd, 1) := by decide +kernel
theorem dX6_with_4 : decode cX6_with 4 = .ok (.anewarray 14, 3) := by decide +kernel
theorem dX6_with_7 : decode cX6_with 7 = .ok (.astore_n 2, 1) := by decide +kernel
theorem dX6_with_8 : decode cX6_with 8 = .ok (.iconst 0, 1) := by decide +kernel
theorem dX6_with_9 : decode cX6_with 9 = .ok (.istore_n 3, 1) := by decide +kernel
theorem dX6_with_10 : decode cX6_with 10 = .ok (.iload_n 3, 1) := by decide +kernel
theorem dX6_with_11 : decode cX6_with 11 = .ok (.aload_n 0, 1) := by decide +kernel
theorem dX6_with_12 : decode cX6_with 12 = .ok (.arraylength, 1) := by decide +kernel
theorem dX6_with_13 : decode cX6_with 13 = .ok (.if_icmp .ge 15, 3) := by decide +kernel
theorem dX6_with_16 : decode cX6_with 16 = .ok (.aload_n 2, 1) := by decide +kernel
theorem dX6_with_17 : decode cX6_with 17 = .ok (.iload_n 3, 1) := by decide +kernel
theorem dX6_with_18 : decode cX6_with 18 = .ok (.aload_n 0, 1) := by decide +kernel
theorem dX6_with_19 : decode cX6_with 19 = .ok (.iload_n 3, 1) := by decide +kernel
theorem dX6_with_20 : decode cX6_with 20 = .ok (.aaload, 1) := by decide +kernel
theorem dX6_with_21 : decode cX6_with 21 = .ok (.aastore, 1) := by decide +kernel
theorem dX6_with_22 : decode cX6_with 22 = .ok (.iinc 3 1, 3) := by decide +kernel
theorem dX6_with_25 : decode cX6_with 25 = .ok (.goto (-15), 3) := by decide +kernel
theorem dX6_with_28 : decode cX6_with 28 = .ok (.aload_n 2, 1) := by decide +kernel
theorem dX6_with_29 : decode cX6_with 29 = .ok (.aload_n 0, 1) := by decide +kernel
theorem dX6_with_30 : decode cX6_with 30 = .ok (.arraylength, 1) := by decide +kernel
theorem dX6_with_31 : decode cX6_with 31 = .ok (.aload_n 1, 1) := by decide +kernel
theorem dX6_with_32 : decode cX6_with 32 = .ok (.aastore, 1) := by decide +kernel
theorem dX6_with_33 : decode cX6_with 33 = .ok (.aload_n 2, 1) := by decide +kernel
theorem dX6_with_34 : decode cX6_with 34 = .ok (.areturn, 1) := by decide +kernel
theorem dX6_ropeAt_0 : decode cX6_ropeAt 0 = .ok (.iconst 0, 1) := by decide +kernel
theorem dX6_ropeAt_1 : decode cX6_ropeAt 1 = .ok (.istore_n 2, 1) := by decide +kernel
theorem dX6_ropeAt_2 : decode cX6_ropeAt 2 = .ok (.iload_n 2, 1) := by decide +kernel
theorem dX6_ropeAt_3 : decode cX6_ropeAt 3 = .ok (.aload_n 0, 1) := by decide +kernel
theorem dX6_ropeAt_4 : decode cX6_ropeAt 4 = .ok (.getfield 19, 3) := by decide +kernel
theorem dX6_ropeAt_7 : decode cX6_ropeAt 7 = .ok (.arraylength, 1) := by decide +kernel
theorem dX6_ropeAt_8 : decode cX6_ropeAt 8 = .ok (.if_icmp .ge 23, 3) := by decide +kernel
theorem dX6_ropeAt_11 : decode cX6_ropeAt 11 = .ok (.aload_n 0, 1) := by decide +kernel
theorem dX6_ropeAt_12 : decode cX6_ropeAt 12 = .ok (.getfield 19, 3) := by decide +kernel
theorem dX6_ropeAt_15 : decode cX6_ropeAt 15 = .ok (.iload_n 2, 1) := by decide +kernel
theorem dX6_ropeAt_16 : decode cX6_ropeAt 16 = .ok (.aaload, 1) := by decide +kernel
theorem dX6_ropeAt_17 : decode cX6_ropeAt 17 = .ok (.iconst 0, 1) := by decide +kernel
theorem dX6_ropeAt_18 : decode cX6_ropeAt 18 = .ok (.iaload, 1) := by decide +kernel
theorem dX6_ropeAt_19 : decode cX6_ropeAt 19 = .ok (.iload_n 1, 1) := by decide +kernel
theorem dX6_ropeAt_20 : decode cX6_ropeAt 20 = .ok (.if_icmp .ne 5, 3) := by decide +kernel
theorem dX6_ropeAt_23 : decode cX6_ropeAt 23 = .ok (.iload_n 2, 1) := by decide +kernel
theorem dX6_ropeAt_24 : decode cX6_ropeAt 24 = .ok (.ireturn, 1) := by decide +kernel
theorem dX6_ropeAt_25 : decode cX6_ropeAt 25 = .ok (.iinc 2 1, 3) := by decide +kernel
theorem dX6_ropeAt_28 : decode cX6_ropeAt 28 = .ok (.goto (-26), 3) := by decide +kernel
theorem dX6_ropeAt_31 : decode cX6_ropeAt 31 = .ok (.iconst (-1), 1) := by decide +kernel
theorem dX6_ropeAt_32 : decode cX6_ropeAt 32 = .ok (.ireturn, 1) := by decide +kernel
theorem dX6_isFeast_0 : decode cX6_isFeast 0 = .ok (.aload_n 0, 1) := by decide +kernel
theorem dX6_isFeast_1 : decode cX6_isFeast 1 = .ok (.getfield 22, 3) := by decide +kernel
theorem dX6_isFeast_4 : decode cX6_isFeast 4 = .ok (.astore_n 2, 1) := by decide +kernel
theorem dX6_isFeast_5 : decode cX6_isFeast 5 = .ok (.aload_n 2, 1) := by decide +kernel
theorem dX6_isFeast_6 : decode cX6_isFeast 6 = .ok (.arraylength, 1) := by decide +kernel
theorem dX6_isFeast_7 : decode cX6_isFeast 7 = .ok (.istore_n 3, 1) := by decide +kernel
theorem dX6_isFeast_8 : decode cX6_isFeast 8 = .ok (.iconst 0, 1) := by decide +kernel
theorem dX6_isFeast_9 : decode cX6_isFeast 9 = .ok (.istore 4, 2) := by decide +kernel
theorem dX6_isFeast_11 : decode cX6_isFeast 11 = .ok (.iload 4, 2) := by decide +kernel
theorem dX6_isFeast_13 : decode cX6_isFeast 13 = .ok (.iload_n 3, 1) := by decide +kernel
theorem dX6_isFeast_14 : decode cX6_isFeast 14 = .ok (.if_icmp .ge 31, 3) := by decide +kernel
theorem dX6_isFeast_17 : decode cX6_isFeast 17 = .ok (.aload_n 2, 1) := by decide +kernel
theorem dX6_isFeast_18 : decode cX6_isFeast 18 = .ok (.iload 4, 2) := by decide +kernel
theorem dX6_isFeast_20 : decode cX6_isFeast 20 = .ok (.aaload, 1) := by decide +kernel
theorem dX6_isFeast_21 : decode cX6_isFeast 21 = .ok (.astore 5, 2) := by decide +kernel
theorem dX6_isFeast_23 : decode cX6_isFeast 23 = .ok (.iload_n 1, 1) := by decide +kernel
theorem dX6_isFeast_24 : decode cX6_isFeast 24 = .ok (.aload 5, 2) := by decide +kernel
theorem dX6_isFeast_26 : decode cX6_isFeast 26 = .ok (.iconst 1, 1) := by decide +kernel
theorem dX6_isFeast_27 : decode cX6_isFeast 27 = .ok (.iaload, 1) := by decide +kernel
theorem dX6_isFeast_28 : decode cX6_isFeast 28 = .ok (.isub, 1) := by decide +kernel
theorem dX6_isFeast_29 : decode cX6_isFeast 29 = .ok (.aload 5, 2) := by decide +kernel
theorem dX6_isFeast_31 : decode cX6_isFeast 31 = .ok (.iconst 0, 1) := by decide +kernel
theorem dX6_isFeast_32 : decode cX6_isFeast 32 = .ok (.iaload, 1) := by decide +kernel
theorem dX6_isFeast_33 : decode cX6_isFeast 33 = .ok (.irem, 1) := by decide +kernel
theorem dX6_isFeast_34 : decode cX6_isFeast 34 = .ok (.ifCond .ne 5, 3) := by decide +kernel
theorem dX6_isFeast_37 : decode cX6_isFeast 37 = .ok (.iconst 1, 1) := by decide +kernel
theorem dX6_isFeast_38 : decode cX6_isFeast 38 = .ok (.ireturn, 1) := by decide +kernel
theorem dX6_isFeast_39 : decode cX6_isFeast 39 = .ok (.iinc 4 1, 3) := by decide +kernel
theorem dX6_isFeast_42 : decode cX6_isFeast 42 = .ok (.goto (-31), 3) := by decide +kernel
theorem dX6_isFeast_45 : decode cX6_isFeast 45 = .ok (.iconst 0, 1) := by decide +kernel
theorem dX6_isFeast_46 : decode cX6_isFeast 46 = .ok (.ireturn, 1) := by decide +kernel
theorem dX6_of_0 : decode cX6_of 0 = .ok (.iconst 3, 1) := by decide +kernel
theorem dX6_of_1 : decode cX6_of 1 = .ok (.newarray .int, 2) := by decide +kernel
theorem dX6_of_3 : decode cX6_of 3 = .ok (.astore_n 2, 1) := by decide +kernel
theorem dX6_of_4 : decode cX6_of 4 = .ok (.iconst 0, 1) := by decide +kernel
theorem dX6_of_5 : decode cX6_of 5 = .ok (.istore_n 3, 1) := by decide +kernel
theorem dX6_of_6 : decode cX6_of 6 = .ok (.iload_n 3, 1) := by decide +kernel
theorem dX6_of_7 : decode cX6_of 7 = .ok (.aload_n 1, 1) := by decide +kernel
theorem dX6_of_8 : decode cX6_of 8 = .ok (.iconst 2, 1) := by decide +kernel
theorem dX6_of_9 : decode cX6_of 9 = .ok (.iaload, 1) := by decide +kernel
theorem dX6_of_10 : decode cX6_of 10 = .ok (.if_icmp .ge 72, 3) := by decide +kernel
theorem dX6_of_13 : decode cX6_of 13 = .ok (.iconst 0, 1) := by decide +kernel
theorem dX6_of_14 : decode cX6_of 14 = .ok (.istore 4, 2) := by decide +kernel
theorem dX6_of_16 : decode cX6_of 16 = .ok (.iload 4, 2) := by decide +kernel
theorem dX6_of_18 : decode cX6_of 18 = .ok (.aload_n 1, 1) := by decide +kernel
theorem dX6_of_19 : decode cX6_of 19 = .ok (.iconst 3, 1) := by decide +kernel
theorem dX6_of_20 : decode cX6_of 20 = .ok (.iaload, 1) := by decide +kernel
theorem dX6_of_21 : decode cX6_of 21 = .ok (.if_icmp .ge 55, 3) := by decide +kernel
theorem dX6_of_24 : decode cX6_of 24 = .ok (.aload_n 0, 1) := by decide +kernel
theorem dX6_of_25 : decode cX6_of 25 = .ok (.getfield 9, 3) := by decide +kernel
theorem dX6_of_28 : decode cX6_of 28 = .ok (.aload_n 1, 1) := by decide +kernel
theorem dX6_of_29 : decode cX6_of 29 = .ok (.iconst 0, 1) := by decide +kernel
theorem dX6_of_30 : decode cX6_of 30 = .ok (.iaload, 1) := by decide +kernel
theorem dX6_of_31 : decode cX6_of 31 = .ok (.iload_n 3, 1) := by decide +kernel
theorem dX6_of_32 : decode cX6_of 32 = .ok (.iadd, 1) := by decide +kernel
theorem dX6_of_33 : decode cX6_of 33 = .ok (.aaload, 1) := by decide +kernel
theorem dX6_of_34 : decode cX6_of 34 = .ok (.aload_n 1, 1) := by decide +kernel
theorem dX6_of_35 : decode cX6_of 35 = .ok (.iconst 1, 1) := by decide +kernel
theorem dX6_of_36 : decode cX6_of 36 = .ok (.iaload, 1) := by decide +kernel
theorem dX6_of_37 : decode cX6_of 37 = .ok (.iload 4, 2) := by decide +kernel
theorem dX6_of_39 : decode cX6_of 39 = .ok (.iadd, 1) := by decide +kernel
theorem dX6_of_40 : decode cX6_of 40 = .ok (.iaload, 1) := by decide +kernel
theorem dX6_of_41 : decode cX6_of 41 = .ok (.istore 5, 2) := by decide +kernel
theorem dX6_of_43 : decode cX6_of 43 = .ok (.aload_n 2, 1) := by decide +kernel
theorem dX6_of_44 : decode cX6_of 44 = .ok (.iconst 0, 1) := by decide +kernel
theorem dX6_of_45 : decode cX6_of 45 = .ok (.dup2, 1) := by decide +kernel
theorem dX6_of_46 : decode cX6_of 46 = .ok (.iaload, 1) := by decide +kernel
theorem dX6_of_47 : decode cX6_of 47 = .ok (.iload 5, 2) := by decide +kernel
theorem dX6_of_49 : decode cX6_of 49 = .ok (.iadd, 1) := by decide +kernel
theorem dX6_of_50 : decode cX6_of 50 = .ok (.iastore, 1) := by decide +kernel
theorem dX6_of_51 : decode cX6_of 51 = .ok (.aload_n 2, 1) := by decide +kernel
theorem dX6_of_52 : decode cX6_of 52 = .ok (.iconst 1, 1) := by decide +kernel
theorem dX6_of_53 : decode cX6_of 53 = .ok (.iload 5, 2) := by decide +kernel
theorem dX6_of_55 : decode cX6_of 55 = .ok (.aload_n 2, 1) := by decide +kernel
theorem dX6_of_56 : decode cX6_of 56 = .ok (.iconst 1, 1) := by decide +kernel
theorem dX6_of_57 : decode cX6_of 57 = .ok (.iaload, 1) := by decide +kernel
theorem dX6_of_58 : decode cX6_of 58 = .ok (.if_icmp .le 8, 3) := by decide +kernel
theorem dX6_of_61 : decode cX6_of 61 = .ok (.iload 5, 2) := by decide +kernel
theorem dX6_of_63 : decode cX6_of 63 = .ok (.goto 6, 3) := by decide +kernel
theorem dX6_of_66 : decode cX6_of 66 = .ok (.aload_n 2, 1) := by decide +kernel
theorem dX6_of_67 : decode cX6_of 67 = .ok (.iconst 1, 1) := by decide +kernel
theorem dX6_of_68 : decode cX6_of 68 = .ok (.iaload, 1) := by decide +kernel
theorem dX6_of_69 : decode cX6_of 69 = .ok (.iastore, 1) := by decide +kernel
theorem dX6_of_70 : decode cX6_of 70 = .ok (.iinc 4 1, 3) := by decide +kernel
theorem dX6_of_73 : decode cX6_of 73 = .ok (.goto (-57), 3) := by decide +kernel
theorem dX6_of_76 : decode cX6_of 76 = .ok (.iinc 3 1, 3) := by decide +kernel
theorem dX6_of_79 : decode cX6_of 79 = .ok (.goto (-73), 3) := by decide +kernel
theorem dX6_of_82 : decode cX6_of 82 = .ok (.aload_n 2, 1) := by decide +kernel
theorem dX6_of_83 : decode cX6_of 83 = .ok (.iconst 2, 1) := by decide +kernel
theorem dX6_of_84 : decode cX6_of 84 = .ok (.aload_n 1, 1) := by decide +kernel
theorem dX6_of_85 : decode cX6_of 85 = .ok (.iconst 4, 1) := by decide +kernel
theorem dX6_of_86 : decode cX6_of 86 = .ok (.iaload, 1) := by decide +kernel
theorem dX6_of_87 : decode cX6_of 87 = .ok (.aload_n 1, 1) := by decide +kernel
theorem dX6_of_88 : decode cX6_of 88 = .ok (.iconst 2, 1) := by decide +kernel
theorem dX6_of_89 : decode cX6_of 89 = .ok (.iaload, 1) := by decide +kernel
theorem dX6_of_90 : decode cX6_of 90 = .ok (.imul, 1) := by decide +kernel
theorem dX6_of_91 : decode cX6_of 91 = .ok (.aload_n 1, 1) := by decide +kernel
theorem dX6_of_92 : decode cX6_of 92 = .ok (.iconst 3, 1) := by decide +kernel
theorem dX6_of_93 : decode cX6_of 93 = .ok (.iaload, 1) := by decide +kernel
theorem dX6_of_94 : decode cX6_of 94 = .ok (.imul, 1) := by decide +kernel
theorem dX6_of_95 : decode cX6_of 95 = .ok (.aload_n 2, 1) := by decide +kernel
theorem dX6_of_96 : decode cX6_of 96 = .ok (.iconst 0, 1) := by decide +kernel
theorem dX6_of_97 : decode cX6_of 97 = .ok (.iaload, 1) := by decide +kernel
theorem dX6_of_98 : decode cX6_of 98 = .ok (.if_icmp .le 21, 3) := by decide +kernel
theorem dX6_of_101 : decode cX6_of 101 = .ok (.aload_n 1, 1) := by decide +kernel
theorem dX6_of_102 : decode cX6_of 102 = .ok (.iconst 4, 1) := by decide +kernel
theorem dX6_of_103 : decode cX6_of 103 = .ok (.iaload, 1) := by decide +kernel
theorem dX6_of_104 : decode cX6_of 104 = .ok (.aload_n 1, 1) := by decide +kernel
theorem dX6_of_105 : decode cX6_of 105 = .ok (.iconst 2, 1) := by decide +kernel
theorem dX6_of_106 : decode cX6_of 106 = .ok (.iaload, 1) := by decide +kernel
theorem dX6_of_107 : decode cX6_of 107 = .ok (.imul, 1) := by decide +kernel
theorem dX6_of_108 : decode cX6_of 108 = .ok (.aload_n 1, 1) := by decide +kernel
theorem dX6_of_109 : decode cX6_of 109 = .ok (.iconst 3, 1) := by decide +kernel
theorem dX6_of_110 : decode cX6_of 110 = .ok (.iaload, 1) := by decide +kernel
theorem dX6_of_111 : decode cX6_of 111 = .ok (.imul, 1) := by decide +kernel
theorem dX6_of_112 : decode cX6_of 112 = .ok (.aload_n 2, 1) := by decide +kernel
theorem dX6_of_113 : decode cX6_of 113 = .ok (.iconst 0, 1) := by decide +kernel
theorem dX6_of_114 : decode cX6_of 114 = .ok (.iaload, 1) := by decide +kernel
theorem dX6_of_115 : decode cX6_of 115 = .ok (.isub, 1) := by decide +kernel
theorem dX6_of_116 : decode cX6_of 116 = .ok (.goto 4, 3) := by decide +kernel
theorem dX6_of_119 : decode cX6_of 119 = .ok (.iconst 0, 1) := by decide +kernel
theorem dX6_of_120 : decode cX6_of 120 = .ok (.iastore, 1) := by decide +kernel
theorem dX6_of_121 : decode cX6_of 121 = .ok (.aload_n 2, 1) := by decide +kernel
theorem dX6_of_122 : decode cX6_of 122 = .ok (.areturn, 1) := by decide +kernel
set_option maxRecDepth 20000 in
theorem ggX6_bring_X6_of : GoodIn wsX6_bring wsX6_of := goodIn_r _ [6, 7, 8, 9, 10, 11, 12, 13, 14, 15, 16] (by decide +kernel) (by decide +kernel)
set_option maxRecDepth 20000 in
theorem gX6_bring_X6_of : GoodIn wsX6_bring (wsV RX6 47 RX6 yX6_of wsX6_of) := goodIn_app (goodIn_of _ (by decide +kernel)) ggX6_bring_X6_of
theorem dX6_bring_0 : decode cX6_bring 0 = .ok (.iconst 0, 1) := by decide +kernel
theorem dX6_bring_1 : decode cX6_bring 1 = .ok (.istore_n 1, 1) := by decide +kernel
theorem dX6_bring_2 : decode cX6_bring 2 = .ok (.aload_n 0, 1) := by decide +kernel
theorem dX6_bring_3 : decode cX6_bring 3 = .ok (.getfield 16, 3) := by decide +kernel
theorem dX6_bring_6 : decode cX6_bring 6 = .ok (.astore_n 2, 1) := by decide +kernel
theorem dX6_bring_7 : decode cX6_bring 7 = .ok (.aload_n 2, 1) := by decide +kernel
theorem dX6_bring_8 : decode cX6_bring 8 = .ok (.arraylength, 1) := by decide +kernel
theorem dX6_bring_9 : decode cX6_bring 9 = .ok (.istore_n 3, 1) := by decide +kernel
theorem dX6_bring_10 : decode cX6_bring 10 = .ok (.iconst 0, 1) := by decide +kernel
theorem dX6_bring_11 : decode cX6_bring 11 = .ok (.istore 4, 2) := by decide +kernel
theorem dX6_bring_13 : decode cX6_bring 13 = .ok (.iload 4, 2) := by decide +kernel
theorem dX6_bring_15 : decode cX6_bring 15 = .ok (.iload_n 3, 1) := by decide +kernel
theorem dX6_bring_16 : decode cX6_bring 16 = .ok (.if_icmp .ge 26, 3) := by decide +kernel
theorem dX6_bring_19 : decode cX6_bring 19 = .ok (.aload_n 2, 1) := by decide +kernel
theorem dX6_bring_20 : decode cX6_bring 20 = .ok (.iload 4, 2) := by decide +kernel
theorem dX6_bring_22 : decode cX6_bring 22 = .ok (.aaload, 1) := by decide +kernel
theorem dX6_bring_23 : decode cX6_bring 23 = .ok (.astore 5, 2) := by decide +kernel
theorem dX6_bring_25 : decode cX6_bring 25 = .ok (.iload_n 1, 1) := by decide +kernel
theorem dX6_bring_26 : decode cX6_bring 26 = .ok (.aload_n 0, 1) := by decide +kernel
theorem dX6_bring_27 : decode cX6_bring 27 = .ok (.aload 5, 2) := by decide +kernel
theorem dX6_bring_29 : decode cX6_bring 29 = .ok (.invokevirtual 47, 3) := by decide +kernel
theorem dX6_bring_32 : decode cX6_bring 32 = .ok (.iconst 2, 1) := by decide +kernel
theorem dX6_bring_33 : decode cX6_bring 33 = .ok (.iaload, 1) := by decide +kernel
theorem dX6_bring_34 : decode cX6_bring 34 = .ok (.iadd, 1) := by decide +kernel
theorem dX6_bring_35 : decode cX6_bring 35 = .ok (.istore_n 1, 1) := by decide +kernel
theorem dX6_bring_36 : decode cX6_bring 36 = .ok (.iinc 4 1, 3) := by decide +kernel
theorem dX6_bring_39 : decode cX6_bring 39 = .ok (.goto (-26), 3) := by decide +kernel
theorem dX6_bring_42 : decode cX6_bring 42 = .ok (.iload_n 1, 1) := by decide +kernel
theorem dX6_bring_43 : decode cX6_bring 43 = .ok (.ireturn, 1) := by decide +kernel
set_option maxRecDepth 20000 in
theorem ggX6_pass_X6_isFeast : GoodIn wsX6_pass wsX6_isFeast := goodIn_r _ [11, 12, 27, 28, 29, 30, 31, 32, 33, 34] (by decide +kernel) (by decide +kernel)
set_option maxRecDepth 20000 in
theorem gX6_pass_X6_isFeast : GoodIn wsX6_pass (wsV RX6 51 RX6 yX6_isFeast wsX6_isFeast) := goodIn_app (goodIn_of _ (by decide +kernel)) ggX6_pass_X6_isFeast
set_option maxRecDepth 20000 in
theorem ggX6_pass_X6_bring : GoodIn wsX6_pass wsX6_bring := goodIn_r _ [16, 17, 18, 19, 20, 10, 21, 22, 2, 27, 28, 29, 30, 31, 32, 33, 34] (by decide +kernel) (by decide +kernel)
set_option maxRecDepth 20000 in
theorem gX6_pass_X6_bring : GoodIn wsX6_pass (wsV RX6 55 RX6 yX6_bring wsX6_bring) := goodIn_app (goodIn_of _ (by decide +kernel)) ggX6_pass_X6_bring
set_option maxRecDepth 20000 in
theorem ggX6_pass_X6_ropeAt : GoodIn wsX6_pass wsX6_ropeAt := goodIn_r _ [26, 6, 27, 28, 29, 30, 31, 32, 33, 34] (by decide +kernel) (by decide +kernel)
set_option maxRecDepth 20000 in
theorem gX6_pass_X6_ropeAt : GoodIn wsX6_pass (wsV RX6 59 RX6 yX6_ropeAt wsX6_ropeAt) := goodIn_app (goodIn_of _ (by decide +kernel)) ggX6_pass_X6_ropeAt
theorem dX6_pass_0 : decode cX6_pass 0 = .ok (.iconst 0, 1) := by decide +kernel
