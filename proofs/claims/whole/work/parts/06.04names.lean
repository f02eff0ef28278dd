theorem dX6_wipe_55 : decode cX6_wipe 55 = .ok (.aload_n 0, 1) := by decide +kernel
theorem dX6_wipe_56 : decode cX6_wipe 56 = .ok (.iload_n 1, 1) := by decide +kernel
theorem dX6_wipe_57 : decode cX6_wipe 57 = .ok (.iconst 1, 1) := by decide +kernel
theorem dX6_wipe_58 : decode cX6_wipe 58 = .ok (.invokevirtual 77, 3) := by decide +kernel
theorem dX6_wipe_61 : decode cX6_wipe 61 = .ok (.aload_n 0, 1) := by decide +kernel
theorem dX6_wipe_62 : decode cX6_wipe 62 = .ok (.iload_n 1, 1) := by decide +kernel
theorem dX6_wipe_63 : decode cX6_wipe 63 = .ok (.iconst 3, 1) := by decide +kernel
theorem dX6_wipe_64 : decode cX6_wipe 64 = .ok (.invokevirtual 77, 3) := by decide +kernel
theorem dX6_wipe_67 : decode cX6_wipe 67 = .ok (.iadd, 1) := by decide +kernel
theorem dX6_wipe_68 : decode cX6_wipe 68 = .ok (.if_icmp .ge 35, 3) := by decide +kernel
theorem dX6_wipe_71 : decode cX6_wipe 71 = .ok (.iload_n 2, 1) := by decide +kernel
theorem dX6_wipe_72 : decode cX6_wipe 72 = .ok (.aload_n 0, 1) := by decide +kernel
theorem dX6_wipe_73 : decode cX6_wipe 73 = .ok (.getfield 22, 3) := by decide +kernel
theorem dX6_wipe_76 : decode cX6_wipe 76 = .ok (.iload_n 3, 1) := by decide +kernel
theorem dX6_wipe_77 : decode cX6_wipe 77 = .ok (.iload 4, 2) := by decide +kernel
theorem dX6_wipe_79 : decode cX6_wipe 79 = .ok (.invokestatic 80, 3) := by decide +kernel
theorem dX6_wipe_82 : decode cX6_wipe 82 = .ok (.iaload, 1) := by decide +kernel
theorem dX6_wipe_83 : decode cX6_wipe 83 = .ok (.iadd, 1) := by decide +kernel
theorem dX6_wipe_84 : decode cX6_wipe 84 = .ok (.istore_n 2, 1) := by decide +kernel
theorem dX6_wipe_85 : decode cX6_wipe 85 = .ok (.aload_n 0, 1) := by decide +kernel
theorem dX6_wipe_86 : decode cX6_wipe 86 = .ok (.getfield 22, 3) := by decide +kernel
theorem dX6_wipe_89 : decode cX6_wipe 89 = .ok (.iload_n 3, 1) := by decide +kernel
theorem dX6_wipe_90 : decode cX6_wipe 90 = .ok (.iload 4, 2) := by decide +kernel
theorem dX6_wipe_92 : decode cX6_wipe 92 = .ok (.invokestatic 80, 3) := by decide +kernel
theorem dX6_wipe_95 : decode cX6_wipe 95 = .ok (.iconst 0, 1) := by decide +kernel
theorem dX6_wipe_96 : decode cX6_wipe 96 = .ok (.iastore, 1) := by decide +kernel
theorem dX6_wipe_97 : decode cX6_wipe 97 = .ok (.iinc 4 1, 3) := by decide +kernel
theorem dX6_wipe_100 : decode cX6_wipe 100 = .ok (.goto (-47), 3) := by decide +kernel
theorem dX6_wipe_103 : decode cX6_wipe 103 = .ok (.iinc 3 1, 3) := by decide +kernel
theorem dX6_wipe_106 : decode cX6_wipe 106 = .ok (.goto (-78), 3) := by decide +kernel
theorem dX6_wipe_109 : decode cX6_wipe 109 = .ok (.iload_n 2, 1) := by decide +kernel
theorem dX6_wipe_110 : decode cX6_wipe 110 = .ok (.ireturn, 1) := by decide +kernel
theorem dX6_blown_0 : decode cX6_blown 0 = .ok (.iconst 0, 1) := by decide +kernel
theorem dX6_blown_1 : decode cX6_blown 1 = .ok (.aload_n 0, 1) := by decide +kernel
theorem dX6_blown_2 : decode cX6_blown 2 = .ok (.getfield 22, 3) := by decide +kernel
theorem dX6_blown_5 : decode cX6_blown 5 = .ok (.iconst 1, 1) := by decide +kernel
theorem dX6_blown_6 : decode cX6_blown 6 = .ok (.iaload, 1) := by decide +kernel
theorem dX6_blown_7 : decode cX6_blown 7 = .ok (.ifCond .lt 16, 3) := by decide +kernel
theorem dX6_blown_10 : decode cX6_blown 10 = .ok (.aload_n 0, 1) := by decide +kernel
theorem dX6_blown_11 : decode cX6_blown 11 = .ok (.getfield 22, 3) := by decide +kernel
theorem dX6_blown_14 : decode cX6_blown 14 = .ok (.iconst 1, 1) := by decide +kernel
theorem dX6_blown_15 : decode cX6_blown 15 = .ok (.iaload, 1) := by decide +kernel
theorem dX6_blown_16 : decode cX6_blown 16 = .ok (.iload_n 1, 1) := by decide +kernel
theorem dX6_blown_17 : decode cX6_blown 17 = .ok (.iconst 2, 1) := by decide +kernel
theorem dX6_blown_18 : decode cX6_blown 18 = .ok (.idiv, 1) := by decide +kernel
theorem dX6_blown_19 : decode cX6_blown 19 = .ok (.isub, 1) := by decide +kernel
theorem dX6_blown_20 : decode cX6_blown 20 = .ok (.goto 17, 3) := by decide +kernel
theorem dX6_blown_23 : decode cX6_blown 23 = .ok (.aload_n 0, 1) := by decide +kernel
theorem dX6_blown_24 : decode cX6_blown 24 = .ok (.getfield 22, 3) := by decide +kernel
theorem dX6_blown_27 : decode cX6_blown 27 = .ok (.iconst 1, 1) := by decide +kernel
theorem dX6_blown_28 : decode cX6_blown 28 = .ok (.iaload, 1) := by decide +kernel
theorem dX6_blown_29 : decode cX6_blown 29 = .ok (.ineg, 1) := by decide +kernel
theorem dX6_blown_30 : decode cX6_blown 30 = .ok (.bipush 11, 2) := by decide +kernel
theorem dX6_blown_32 : decode cX6_blown 32 = .ok (.iload_n 1, 1) := by decide +kernel
theorem dX6_blown_33 : decode cX6_blown 33 = .ok (.isub, 1) := by decide +kernel
theorem dX6_blown_34 : decode cX6_blown 34 = .ok (.iconst 2, 1) := by decide +kernel
theorem dX6_blown_35 : decode cX6_blown 35 = .ok (.idiv, 1) := by decide +kernel
theorem dX6_blown_36 : decode cX6_blown 36 = .ok (.isub, 1) := by decide +kernel
theorem dX6_blown_37 : decode cX6_blown 37 = .ok (.invokestatic 83, 3) := by decide +kernel
theorem dX6_blown_40 : decode cX6_blown 40 = .ok (.ireturn, 1) := by decide +kernel
set_option maxRecDepth 20000 in
theorem ggX6_panes_X6_wi : GoodIn wsX6_panes wsX6_wi := goodIn_r _ [5, 6, 7, 8, 9, 10, 11, 12, 13, 14, 15, 16] (by decide +kernel) (by decide +kernel)
set_option maxRecDepth 20000 in
theorem gX6_panes_X6_wi : GoodIn wsX6_panes (wsV RX6 77 RX6 yX6_wi wsX6_wi) := goodIn_app (goodIn_of _ (by decide +kernel)) ggX6_panes_X6_wi
theorem dX6_panes_0 : decode cX6_panes 0 = .ok (.aload_n 0, 1) := by decide +kernel
theorem dX6_panes_1 : decode cX6_panes 1 = .ok (.iload_n 1, 1) := by decide +kernel
theorem dX6_panes_2 : decode cX6_panes 2 = .ok (.iconst 2, 1) := by decide +kernel
theorem dX6_panes_3 : decode cX6_panes 3 = .ok (.invokevirtual 77, 3) := by decide +kernel
theorem dX6_panes_6 : decode cX6_panes 6 = .ok (.aload_n 0, 1) := by decide +kernel
theorem dX6_panes_7 : decode cX6_panes 7 = .ok (.iload_n 1, 1) := by decide +kernel
theorem dX6_panes_8 : decode cX6_panes 8 = .ok (.iconst 3, 1) := by decide +kernel
theorem dX6_panes_9 : decode cX6_panes 9 = .ok (.invokevirtual 77, 3) := by decide +kernel
theorem dX6_panes_12 : decode cX6_panes 12 = .ok (.imul, 1) := by decide +kernel
theorem dX6_panes_13 : decode cX6_panes 13 = .ok (.ireturn, 1) := by decide +kernel
set_option maxRecDepth 20000 in
theorem ggX6_sootOf_X6_wi : GoodIn wsX6_sootOf wsX6_wi := goodIn_r _ [10, 11, 15, 16, 17, 18, 19, 20, 21, 22, 23, 24] (by decide +kernel) (by decide +kernel)
set_option maxRecDepth 20000 in
theorem gX6_sootOf_X6_wi : GoodIn wsX6_sootOf (wsV RX6 77 RX6 yX6_wi wsX6_wi) := goodIn_app (goodIn_of _ (by decide +kernel)) ggX6_sootOf_X6_wi
set_option maxRecDepth 20000 in
theorem ggX6_sootOf_X6_pane : GoodIn wsX6_sootOf wsX6_pane := goodIn_r _ [14] (by decide +kernel) (by decide +kernel)
set_option maxRecDepth 20000 in
theorem gX6_sootOf_X6_pane : GoodIn wsX6_sootOf (va_wsS RX6 80 yX6_pane wsX6_pane) := goodIn_app (goodIn_of _ (by decide +kernel)) ggX6_sootOf_X6_pane
theorem dX6_sootOf_0 : decode cX6_sootOf 0 = .ok (.iconst 0, 1) := by decide +kernel
theorem dX6_sootOf_1 : decode cX6_sootOf 1 = .ok (.istore_n 3, 1) := by decide +kernel
theorem dX6_sootOf_2 : decode cX6_sootOf 2 = .ok (.iconst 0, 1) := by decide +kernel
theorem dX6_sootOf_3 : decode cX6_sootOf 3 = .ok (.istore 4, 2) := by decide +kernel
theorem dX6_sootOf_5 : decode cX6_sootOf 5 = .ok (.aload_n 0, 1) := by decide +kernel
theorem dX6_sootOf_6 : decode cX6_sootOf 6 = .ok (.iload_n 1, 1) := by decide +kernel
theorem dX6_sootOf_7 : decode cX6_sootOf 7 = .ok (.iconst 0, 1) := by decide +kernel
theorem dX6_sootOf_8 : decode cX6_sootOf 8 = .ok (.invokevirtual 77, 3) := by decide +kernel
theorem dX6_sootOf_11 : decode cX6_sootOf 11 = .ok (.istore 5, 2) := by decide +kernel
theorem dX6_sootOf_13 : decode cX6_sootOf 13 = .ok (.iload 5, 2) := by decide +kernel
theorem dX6_sootOf_15 : decode cX6_sootOf 15 = .ok (.aload_n 0, 1) := by decide +kernel
theorem dX6_sootOf_16 : decode cX6_sootOf 16 = .ok (.iload_n 1, 1) := by decide +kernel
theorem dX6_sootOf_17 : decode cX6_sootOf 17 = .ok (.iconst 0, 1) := by decide +kernel
theorem dX6_sootOf_18 : decode cX6_sootOf 18 = .ok (.invokevirtual 77, 3) := by decide +kernel
theorem dX6_sootOf_21 : decode cX6_sootOf 21 = .ok (.aload_n 0, 1) := by decide +kernel
theorem dX6_sootOf_22 : decode cX6_sootOf 22 = .ok (.iload_n 1, 1) := by decide +kernel
theorem dX6_sootOf_23 : decode cX6_sootOf 23 = .ok (.iconst 2, 1) := by decide +kernel
theorem dX6_sootOf_24 : decode cX6_sootOf 24 = .ok (.invokevirtual 77, 3) := by decide +kernel
theorem dX6_sootOf_27 : decode cX6_sootOf 27 = .ok (.iadd, 1) := by decide +kernel
theorem dX6_sootOf_28 : decode cX6_sootOf 28 = .ok (.if_icmp .ge 75, 3) := by decide +kernel
theorem dX6_sootOf_31 : decode cX6_sootOf 31 = .ok (.aload_n 0, 1) := by decide +kernel
theorem dX6_sootOf_32 : decode cX6_sootOf 32 = .ok (.iload_n 1, 1) := by decide +kernel
theorem dX6_sootOf_33 : decode cX6_sootOf 33 = .ok (.iconst 1, 1) := by decide +kernel
theorem dX6_sootOf_34 : decode cX6_sootOf 34 = .ok (.invokevirtual 77, 3) := by decide +kernel
theorem dX6_sootOf_37 : decode cX6_sootOf 37 = .ok (.istore 6, 2) := by decide +kernel
theorem dX6_sootOf_39 : decode cX6_sootOf 39 = .ok (.iload 6, 2) := by decide +kernel
theorem dX6_sootOf_41 : decode cX6_sootOf 41 = .ok (.aload_n 0, 1) := by decide +kernel
theorem dX6_sootOf_42 : decode cX6_sootOf 42 = .ok (.iload_n 1, 1) := by decide +kernel
theorem dX6_sootOf_43 : decode cX6_sootOf 43 = .ok (.iconst 1, 1) := by decide +kernel
theorem dX6_sootOf_44 : decode cX6_sootOf 44 = .ok (.invokevirtual 77, 3) := by decide +kernel
theorem dX6_sootOf_47 : decode cX6_sootOf 47 = .ok (.aload_n 0, 1) := by decide +kernel
theorem dX6_sootOf_48 : decode cX6_sootOf 48 = .ok (.iload_n 1, 1) := by decide +kernel
theorem dX6_sootOf_49 : decode cX6_sootOf 49 = .ok (.iconst 3, 1) := by decide +kernel
theorem dX6_sootOf_50 : decode cX6_sootOf 50 = .ok (.invokevirtual 77, 3) := by decide +kernel
theorem dX6_sootOf_53 : decode cX6_sootOf 53 = .ok (.iadd, 1) := by decide +kernel
theorem dX6_sootOf_54 : decode cX6_sootOf 54 = .ok (.if_icmp .ge 43, 3) := by decide +kernel
theorem dX6_sootOf_57 : decode cX6_sootOf 57 = .ok (.iload_n 3, 1) := by decide +kernel
theorem dX6_sootOf_58 : decode cX6_sootOf 58 = .ok (.aload_n 0, 1) := by decide +kernel
theorem dX6_sootOf_59 : decode cX6_sootOf 59 = .ok (.getfield 22, 3) := by decide +kernel
theorem dX6_sootOf_62 : decode cX6_sootOf 62 = .ok (.iload 5, 2) := by decide +kernel
theorem dX6_sootOf_64 : decode cX6_sootOf 64 = .ok (.iload 6, 2) := by decide +kernel
theorem dX6_sootOf_66 : decode cX6_sootOf 66 = .ok (.invokestatic 80, 3) := by decide +kernel
theorem dX6_sootOf_69 : decode cX6_sootOf 69 = .ok (.iaload, 1) := by decide +kernel
theorem dX6_sootOf_70 : decode cX6_sootOf 70 = .ok (.iadd, 1) := by decide +kernel
theorem dX6_sootOf_71 : decode cX6_sootOf 71 = .ok (.istore_n 3, 1) := by decide +kernel
theorem dX6_sootOf_72 : decode cX6_sootOf 72 = .ok (.iload 4, 2) := by decide +kernel
theorem dX6_sootOf_74 : decode cX6_sootOf 74 = .ok (.aload_n 0, 1) := by decide +kernel
theorem dX6_sootOf_75 : decode cX6_sootOf 75 = .ok (.getfield 22, 3) := by decide +kernel
theorem dX6_sootOf_78 : decode cX6_sootOf 78 = .ok (.iload 5, 2) := by decide +kernel
theorem dX6_sootOf_80 : decode cX6_sootOf 80 = .ok (.iload 6, 2) := by decide +kernel
theorem dX6_sootOf_82 : decode cX6_sootOf 82 = .ok (.invokestatic 80, 3) := by decide +kernel
theorem dX6_sootOf_85 : decode cX6_sootOf 85 = .ok (.iaload, 1) := by decide +kernel
theorem dX6_sootOf_86 : decode cX6_sootOf 86 = .ok (.invokestatic 83, 3) := by decide +kernel
theorem dX6_sootOf_89 : decode cX6_sootOf 89 = .ok (.istore 4, 2) := by decide +kernel
theorem dX6_sootOf_91 : decode cX6_sootOf 91 = .ok (.iinc 6 1, 3) := by decide +kernel
theorem dX6_sootOf_94 : decode cX6_sootOf 94 = .ok (.goto (-55), 3) := by decide +kernel
theorem dX6_sootOf_97 : decode cX6_sootOf 97 = .ok (.iinc 5 1, 3) := by decide +kernel
theorem dX6_sootOf_100 : decode cX6_sootOf 100 = .ok (.goto (-87), 3) := by decide +kernel
theorem dX6_sootOf_103 : decode cX6_sootOf 103 = .ok (.iload_n 2, 1) := by decide +kernel
theorem dX6_sootOf_104 : decode cX6_sootOf 104 = .ok (.ifCond .eq 8, 3) := by decide +kernel
theorem dX6_sootOf_107 : decode cX6_sootOf 107 = .ok (.iload 4, 2) := by decide +kernel
theorem dX6_sootOf_109 : decode cX6_sootOf 109 = .ok (.goto 4, 3) := by decide +kernel
theorem dX6_sootOf_112 : decode cX6_sootOf 112 = .ok (.iload_n 3, 1) := by decide +kernel
theorem dX6_sootOf_113 : decode cX6_sootOf 113 = .ok (.ireturn, 1) := by decide +kernel
set_option maxRecDepth 20000 in
theorem ggX6_brings_X6_wi : GoodIn wsX6_brings wsX6_wi := goodIn_r _ [9, 10, 23, 24, 25, 26, 27, 28, 29, 30, 31, 32] (by decide +kernel) (by decide +kernel)
set_option maxRecDepth 20000 in
theorem gX6_brings_X6_wi : GoodIn wsX6_brings (wsV RX6 77 RX6 yX6_wi wsX6_wi) := goodIn_app (goodIn_of _ (by decide +kernel)) ggX6_brings_X6_wi
set_option maxRecDepth 20000 in
theorem ggX6_brings_X6_panes : GoodIn wsX6_brings wsX6_panes := goodIn_r _ [14, 5, 6, 7, 8, 9, 10, 23, 24, 25, 26, 27, 28, 29, 30, 31, 32] (by decide +kernel) (by decide +kernel)
set_option maxRecDepth 20000 in
theorem gX6_brings_X6_panes : GoodIn wsX6_brings (wsV RX6 88 RX6 yX6_panes wsX6_panes) := goodIn_app (goodIn_of _ (by decide +kernel)) ggX6_brings_X6_panes
set_option maxRecDepth 20000 in
theorem ggX6_brings_X6_sootOf : GoodIn wsX6_brings wsX6_sootOf := goodIn_r _ [18, 19, 1, 2, 3, 4, 5, 6, 7, 8, 9, 10, 20, 21, 22, 23, 24, 25, 26, 27, 28, 29, 30, 31, 32] (by decide +kernel) (by decide +kernel)
set_option maxRecDepth 20000 in
theorem gX6_brings_X6_sootOf : GoodIn wsX6_brings (wsV RX6 91 RX6 yX6_sootOf wsX6_sootOf) := goodIn_app (goodIn_of _ (by decide +kernel)) ggX6_brings_X6_sootOf
theorem dX6_brings_0 : decode cX6_brings 0 = .ok (.iconst 0, 1) := by decide +kernel
theorem dX6_brings_1 : decode cX6_brings 1 = .ok (.aload_n 0, 1) := by decide +kernel
theorem dX6_brings_2 : decode cX6_brings 2 = .ok (.iload_n 1, 1) := by decide +kernel
theorem dX6_brings_3 : decode cX6_brings 3 = .ok (.iconst 4, 1) := by decide +kernel
theorem dX6_brings_4 : decode cX6_brings 4 = .ok (.invokevirtual 77, 3) := by decide +kernel
theorem dX6_brings_7 : decode cX6_brings 7 = .ok (.aload_n 0, 1) := by decide +kernel
theorem dX6_brings_8 : decode cX6_brings 8 = .ok (.iload_n 1, 1) := by decide +kernel
theorem dX6_brings_9 : decode cX6_brings 9 = .ok (.invokevirtual 88, 3) := by decide +kernel
theorem dX6_brings_12 : decode cX6_brings 12 = .ok (.imul, 1) := by decide +kernel
theorem dX6_brings_13 : decode cX6_brings 13 = .ok (.aload_n 0, 1) := by decide +kernel
theorem dX6_brings_14 : decode cX6_brings 14 = .ok (.iload_n 1, 1) := by decide +kernel
theorem dX6_brings_15 : decode cX6_brings 15 = .ok (.iconst 0, 1) := by decide +kernel
theorem dX6_brings_16 : decode cX6_brings 16 = .ok (.invokevirtual 91, 3) := by decide +kernel
theorem dX6_brings_19 : decode cX6_brings 19 = .ok (.isub, 1) := by decide +kernel
theorem dX6_brings_20 : decode cX6_brings 20 = .ok (.invokestatic 83, 3) := by decide +kernel
theorem dX6_brings_23 : decode cX6_brings 23 = .ok (.ireturn, 1) := by decide +kernel
set_option maxRecDepth 20000 in
theorem ggX6_allBring_X6_brings : GoodIn wsX6_allBring wsX6_brings := goodIn_r _ [6, 7, 8, 9, 10, 11, 12, 13, 5, 14, 15, 16, 17, 18, 19, 20, 21, 22, 23, 24, 25, 26, 27, 28, 29, 30, 31, 32, 33, 34, 35, 36, 37] (by decide +kernel) (by decide +kernel)
set_option maxRecDepth 20000 in
theorem gX6_allBring_X6_brings : GoodIn wsX6_allBring (wsV RX6 95 RX6 yX6_brings wsX6_brings) := goodIn_app (goodIn_of _ (by decide +kernel)) ggX6_allBring_X6_brings
theorem dX6_allBring_0 : decode cX6_allBring 0 = .ok (.iconst 0, 1) := by decide +kernel
theorem dX6_allBring_1 : decode cX6_allBring 1 = .ok (.istore_n 1, 1) := by decide +kernel
theorem dX6_allBring_2 : decode cX6_allBring 2 = .ok (.iconst 0, 1) := by decide +kernel
theorem dX6_allBring_3 : decode cX6_allBring 3 = .ok (.istore_n 2, 1) := by decide +kernel
theorem dX6_allBring_4 : decode cX6_allBring 4 = .ok (.iload_n 2, 1) := by decide +kernel
theorem dX6_allBring_5 : decode cX6_allBring 5 = .ok (.aload_n 0, 1) := by decide +kernel
theorem dX6_allBring_6 : decode cX6_allBring 6 = .ok (.getfield 32, 3) := by decide +kernel
theorem dX6_allBring_9 : decode cX6_allBring 9 = .ok (.if_icmp .ge 17, 3) := by decide +kernel
theorem dX6_allBring_12 : decode cX6_allBring 12 = .ok (.iload_n 1, 1) := by decide +kernel
theorem dX6_allBring_13 : decode cX6_allBring 13 = .ok (.aload_n 0, 1) := by decide +kernel
theorem dX6_allBring_14 : decode cX6_allBring 14 = .ok (.iload_n 2, 1) := by decide +kernel
theorem dX6_allBring_15 : decode cX6_allBring 15 = .ok (.invokevirtual 95, 3) := by decide +kernel
theorem dX6_allBring_18 : decode cX6_allBring 18 = .ok (.iadd, 1) := by decide +kernel
theorem dX6_allBring_19 : decode cX6_allBring 19 = .ok (.istore_n 1, 1) := by decide +kernel
theorem dX6_allBring_20 : decode cX6_allBring 20 = .ok (.iinc 2 1, 3) := by decide +kernel
theorem dX6_allBring_23 : decode cX6_allBring 23 = .ok (.goto (-19), 3) := by decide +kernel
theorem dX6_allBring_26 : decode cX6_allBring 26 = .ok (.iload_n 1, 1) := by decide +kernel
theorem dX6_allBring_27 : decode cX6_allBring 27 = .ok (.ireturn, 1) := by decide +kernel
set_option maxRecDepth 20000 in
theorem ggX6_moveOn_X6_ro : GoodIn wsX6_moveOn wsX6_ro := goodIn_r _ [5, 6, 20, 21, 22, 23, 24, 25, 26, 27, 28, 29] (by decide +kernel) (by decide +kernel)
set_option maxRecDepth 20000 in
theorem gX6_moveOn_X6_ro : GoodIn wsX6_moveOn (wsV RX6 42 RX6 yX6_ro wsX6_ro) := goodIn_app (goodIn_of _ (by decide +kernel)) ggX6_moveOn_X6_ro
set_option maxRecDepth 20000 in
theorem ggX6_moveOn_X6_isHung : GoodIn wsX6_moveOn wsX6_isHung := goodIn_r _ [10, 11, 1, 2, 3, 4, 5, 6, 20, 21, 22, 23, 24, 25, 26, 27, 28, 29] (by decide +kernel) (by decide +kernel)
set_option maxRecDepth 20000 in
theorem gX6_moveOn_X6_isHung : GoodIn wsX6_moveOn (wsV RX6 59 RX6 yX6_isHung wsX6_isHung) := goodIn_app (goodIn_of _ (by decide +kernel)) ggX6_moveOn_X6_isHung
set_option maxRecDepth 20000 in
theorem ggX6_moveOn_X6_hang : GoodIn wsX6_moveOn wsX6_hang := goodIn_r _ [15, 16, 17, 18, 4, 19, 6, 1, 2, 3, 5, 20, 21, 22, 23, 24, 25, 26, 27, 28, 29] (by decide +kernel) (by decide +kernel)
set_option maxRecDepth 20000 in
theorem gX6_moveOn_X6_hang : GoodIn wsX6_moveOn (wsV RX6 70 RX6 yX6_hang wsX6_hang) := goodIn_app (goodIn_of _ (by decide +kernel)) ggX6_moveOn_X6_hang
theorem dX6_moveOn_0 : decode cX6_moveOn 0 = .ok (.aload_n 0, 1) := by decide +kernel
theorem dX6_moveOn_1 : decode cX6_moveOn 1 = .ok (.iload_n 1, 1) := by decide +kernel
theorem dX6_moveOn_2 : decode cX6_moveOn 2 = .ok (.iconst 0, 1) := by decide +kernel
theorem dX6_moveOn_3 : decode cX6_moveOn 3 = .ok (.invokevirtual 42, 3) := by decide +kernel
theorem dX6_moveOn_6 : decode cX6_moveOn 6 = .ok (.istore_n 2, 1) := by decide +kernel
theorem dX6_moveOn_7 : decode cX6_moveOn 7 = .ok (.iload_n 2, 1) := by decide +kernel
theorem dX6_moveOn_8 : decode cX6_moveOn 8 = .ok (.aload_n 0, 1) := by decide +kernel
theorem dX6_moveOn_9 : decode cX6_moveOn 9 = .ok (.iload_n 1, 1) := by decide +kernel
theorem dX6_moveOn_10 : decode cX6_moveOn 10 = .ok (.iconst 2, 1) := by decide +kernel
theorem dX6_moveOn_11 : decode cX6_moveOn 11 = .ok (.invokevirtual 42, 3) := by decide +kernel
theorem dX6_moveOn_14 : decode cX6_moveOn 14 = .ok (.ifCond .ne 7, 3) := by decide +kernel
theorem dX6_moveOn_17 : decode cX6_moveOn 17 = .ok (.iconst 1, 1) := by decide +kernel
theorem dX6_moveOn_18 : decode cX6_moveOn 18 = .ok (.goto 5, 3) := by decide +kernel
theorem dX6_moveOn_21 : decode cX6_moveOn 21 = .ok (.bipush 11, 2) := by decide +kernel
theorem dX6_moveOn_23 : decode cX6_moveOn 23 = .ok (.iadd, 1) := by decide +kernel
theorem dX6_moveOn_24 : decode cX6_moveOn 24 = .ok (.bipush 12, 2) := by decide +kernel
theorem dX6_moveOn_26 : decode cX6_moveOn 26 = .ok (.irem, 1) := by decide +kernel
theorem dX6_moveOn_27 : decode cX6_moveOn 27 = .ok (.istore_n 2, 1) := by decide +kernel
theorem dX6_moveOn_28 : decode cX6_moveOn 28 = .ok (.aload_n 0, 1) := by decide +kernel
theorem dX6_moveOn_29 : decode cX6_moveOn 29 = .ok (.iload_n 2, 1) := by decide +kernel
theorem dX6_moveOn_30 : decode cX6_moveOn 30 = .ok (.invokevirtual 59, 3) := by decide +kernel
theorem dX6_moveOn_33 : decode cX6_moveOn 33 = .ok (.ifCond .ne (-26), 3) := by decide +kernel
theorem dX6_moveOn_36 : decode cX6_moveOn 36 = .ok (.aload_n 0, 1) := by decide +kernel
theorem dX6_moveOn_37 : decode cX6_moveOn 37 = .ok (.iload_n 1, 1) := by decide +kernel
theorem dX6_moveOn_38 : decode cX6_moveOn 38 = .ok (.iload_n 2, 1) := by decide +kernel
theorem dX6_moveOn_39 : decode cX6_moveOn 39 = .ok (.invokevirtual 70, 3) := by decide +kernel
theorem dX6_moveOn_42 : decode cX6_moveOn 42 = .ok (.return_, 1) := by decide +kernel
set_option maxRecDepth 20000 in
theorem ggX6_work_X6_ro : GoodIn wsX6_work wsX6_ro := goodIn_r _ [11, 2, 32, 33, 34, 35, 36, 37, 38, 39, 40, 41] (by decide +kernel) (by decide +kernel)
set_option maxRecDepth 20000 in
theorem gX6_work_X6_ro : GoodIn wsX6_work (wsV RX6 42 RX6 yX6_ro wsX6_ro) := goodIn_app (goodIn_of _ (by decide +kernel)) ggX6_work_X6_ro
set_option maxRecDepth 20000 in
theorem ggX6_work_X6_pane : GoodIn wsX6_work wsX6_pane := goodIn_r _ [14] (by decide +kernel) (by decide +kernel)
set_option maxRecDepth 20000 in
theorem gX6_work_X6_pane : GoodIn wsX6_work (va_wsS RX6 80 yX6_pane wsX6_pane) := goodIn_app (goodIn_of _ (by decide +kernel)) ggX6_work_X6_pane
set_option maxRecDepth 20000 in
theorem ggX6_work_X6_let : GoodIn wsX6_work wsX6_let := goodIn_r _ [18, 2, 32, 33, 34, 35, 36, 37, 38, 39, 40, 41] (by decide +kernel) (by decide +kernel)
set_option maxRecDepth 20000 in
theorem gX6_work_X6_let : GoodIn wsX6_work (wsV RX6 63 RX6 yX6_let wsX6_let) := goodIn_app (goodIn_of _ (by decide +kernel)) ggX6_work_X6_let
set_option maxRecDepth 20000 in
theorem ggX6_work_X6_moveOn : GoodIn wsX6_work wsX6_moveOn := goodIn_r _ [22, 7, 8, 9, 10, 11, 2, 23, 24, 25, 26, 27, 28, 29, 30, 31, 15, 16, 17, 18, 32, 33, 34, 35, 36, 37, 38, 39, 40, 41] (by decide +kernel) (by decide +kernel)
set_option maxRecDepth 20000 in
theorem gX6_work_X6_moveOn : GoodIn wsX6_work (wsV RX6 101 RX6 yX6_moveOn wsX6_moveOn) := goodIn_app (goodIn_of _ (by decide +kernel)) ggX6_work_X6_moveOn
theorem dX6_work_0 : decode cX6_work 0 = .ok (.aload_n 0, 1) := by decide +kernel
theorem dX6_work_1 : decode cX6_work 1 = .ok (.getfield 13, 3) := by decide +kernel
theorem dX6_work_4 : decode cX6_work 4 = .ok (.iload_n 1, 1) := by decide +kernel
theorem dX6_work_5 : decode cX6_work 5 = .ok (.iaload, 1) := by decide +kernel
theorem dX6_work_6 : decode cX6_work 6 = .ok (.istore_n 2, 1) := by decide +kernel
theorem dX6_work_7 : decode cX6_work 7 = .ok (.iload_n 2, 1) := by decide +kernel
theorem dX6_work_8 : decode cX6_work 8 = .ok (.ifCond .le 115, 3) := by decide +kernel
theorem dX6_work_11 : decode cX6_work 11 = .ok (.aload_n 0, 1) := by decide +kernel
theorem dX6_work_12 : decode cX6_work 12 = .ok (.iload_n 1, 1) := by decide +kernel
theorem dX6_work_13 : decode cX6_work 13 = .ok (.iconst 0, 1) := by decide +kernel
theorem dX6_work_14 : decode cX6_work 14 = .ok (.invokevirtual 42, 3) := by decide +kernel
theorem dX6_work_17 : decode cX6_work 17 = .ok (.aload_n 0, 1) := by decide +kernel
theorem dX6_work_18 : decode cX6_work 18 = .ok (.iload_n 1, 1) := by decide +kernel
theorem dX6_work_19 : decode cX6_work 19 = .ok (.iconst 1, 1) := by decide +kernel
theorem dX6_work_20 : decode cX6_work 20 = .ok (.invokevirtual 42, 3) := by decide +kernel
theorem dX6_work_23 : decode cX6_work 23 = .ok (.invokestatic 80, 3) := by decide +kernel
theorem dX6_work_26 : decode cX6_work 26 = .ok (.istore_n 3, 1) := by decide +kernel
theorem dX6_work_27 : decode cX6_work 27 = .ok (.iload_n 2, 1) := by decide +kernel
theorem dX6_work_28 : decode cX6_work 28 = .ok (.aload_n 0, 1) := by decide +kernel
theorem dX6_work_29 : decode cX6_work 29 = .ok (.getfield 22, 3) := by decide +kernel
theorem dX6_work_32 : decode cX6_work 32 = .ok (.iload_n 3, 1) := by decide +kernel
theorem dX6_work_33 : decode cX6_work 33 = .ok (.iaload, 1) := by decide +kernel
theorem dX6_work_34 : decode cX6_work 34 = .ok (.invokestatic 98, 3) := by decide +kernel
theorem dX6_work_37 : decode cX6_work 37 = .ok (.istore 4, 2) := by decide +kernel
theorem dX6_work_39 : decode cX6_work 39 = .ok (.aload_n 0, 1) := by decide +kernel
theorem dX6_work_40 : decode cX6_work 40 = .ok (.getfield 22, 3) := by decide +kernel
theorem dX6_work_43 : decode cX6_work 43 = .ok (.iload_n 3, 1) := by decide +kernel
theorem dX6_work_44 : decode cX6_work 44 = .ok (.dup2, 1) := by decide +kernel
theorem dX6_work_45 : decode cX6_work 45 = .ok (.iaload, 1) := by decide +kernel
theorem dX6_work_46 : decode cX6_work 46 = .ok (.iload 4, 2) := by decide +kernel
theorem dX6_work_48 : decode cX6_work 48 = .ok (.isub, 1) := by decide +kernel
theorem dX6_work_49 : decode cX6_work 49 = .ok (.iastore, 1) := by decide +kernel
theorem dX6_work_50 : decode cX6_work 50 = .ok (.iload_n 2, 1) := by decide +kernel
theorem dX6_work_51 : decode cX6_work 51 = .ok (.iload 4, 2) := by decide +kernel
theorem dX6_work_53 : decode cX6_work 53 = .ok (.isub, 1) := by decide +kernel
theorem dX6_work_54 : decode cX6_work 54 = .ok (.istore_n 2, 1) := by decide +kernel
theorem dX6_work_55 : decode cX6_work 55 = .ok (.aload_n 0, 1) := by decide +kernel
theorem dX6_work_56 : decode cX6_work 56 = .ok (.iload_n 1, 1) := by decide +kernel
theorem dX6_work_57 : decode cX6_work 57 = .ok (.iconst 3, 1) := by decide +kernel
theorem dX6_work_58 : decode cX6_work 58 = .ok (.aload_n 0, 1) := by decide +kernel
theorem dX6_work_59 : decode cX6_work 59 = .ok (.iload_n 1, 1) := by decide +kernel
theorem dX6_work_60 : decode cX6_work 60 = .ok (.iconst 3, 1) := by decide +kernel
theorem dX6_work_61 : decode cX6_work 61 = .ok (.invokevirtual 42, 3) := by decide +kernel
theorem dX6_work_64 : decode cX6_work 64 = .ok (.iload 4, 2) := by decide +kernel
theorem dX6_work_66 : decode cX6_work 66 = .ok (.iadd, 1) := by decide +kernel
theorem dX6_work_67 : decode cX6_work 67 = .ok (.invokevirtual 63, 3) := by decide +kernel
theorem dX6_work_70 : decode cX6_work 70 = .ok (.iload_n 2, 1) := by decide +kernel
theorem dX6_work_71 : decode cX6_work 71 = .ok (.ifCond .ne 4, 3) := by decide +kernel
theorem dX6_work_74 : decode cX6_work 74 = .ok (.return_, 1) := by decide +kernel
theorem dX6_work_75 : decode cX6_work 75 = .ok (.aload_n 0, 1) := by decide +kernel
theorem dX6_work_76 : decode cX6_work 76 = .ok (.iload_n 1, 1) := by decide +kernel
theorem dX6_work_77 : decode cX6_work 77 = .ok (.iconst 1, 1) := by decide +kernel
theorem dX6_work_78 : decode cX6_work 78 = .ok (.invokevirtual 42, 3) := by decide +kernel
theorem dX6_work_81 : decode cX6_work 81 = .ok (.bipush 7, 2) := by decide +kernel
theorem dX6_work_83 : decode cX6_work 83 = .ok (.if_icmp .ge 23, 3) := by decide +kernel
theorem dX6_work_86 : decode cX6_work 86 = .ok (.aload_n 0, 1) := by decide +kernel
theorem dX6_work_87 : decode cX6_work 87 = .ok (.iload_n 1, 1) := by decide +kernel
theorem dX6_work_88 : decode cX6_work 88 = .ok (.iconst 1, 1) := by decide +kernel
theorem dX6_work_89 : decode cX6_work 89 = .ok (.aload_n 0, 1) := by decide +kernel
theorem dX6_work_90 : decode cX6_work 90 = .ok (.iload_n 1, 1) := by decide +kernel
theorem dX6_work_91 : decode cX6_work 91 = .ok (.iconst 1, 1) := by decide +kernel
theorem dX6_work_92 : decode cX6_work 92 = .ok (.invokevirtual 42, 3) := by decide +kernel
theorem dX6_work_95 : decode cX6_work 95 = .ok (.iconst 1, 1) := by decide +kernel
theorem dX6_work_96 : decode cX6_work 96 = .ok (.iadd, 1) := by decide +kernel
theorem dX6_work_97 : decode cX6_work 97 = .ok (.invokevirtual 63, 3) := by decide +kernel
theorem dX6_work_100 : decode cX6_work 100 = .ok (.iinc 2 (-1), 3) := by decide +kernel
theorem dX6_work_103 : decode cX6_work 103 = .ok (.goto 17, 3) := by decide +kernel
theorem dX6_work_106 : decode cX6_work 106 = .ok (.iload_n 2, 1) := by decide +kernel
theorem dX6_work_107 : decode cX6_work 107 = .ok (.iconst 3, 1) := by decide +kernel
theorem dX6_work_108 : decode cX6_work 108 = .ok (.if_icmp .ge 4, 3) := by decide +kernel
theorem dX6_work_111 : decode cX6_work 111 = .ok (.return_, 1) := by decide +kernel
theorem dX6_work_112 : decode cX6_work 112 = .ok (.aload_n 0, 1) := by decide +kernel
theorem dX6_work_113 : decode cX6_work 113 = .ok (.iload_n 1, 1) := by decide +kernel
theorem dX6_work_114 : decode cX6_work 114 = .ok (.invokevirtual 101, 3) := by decide +kernel
theorem dX6_work_117 : decode cX6_work 117 = .ok (.iinc 2 (-3), 3) := by decide +kernel
theorem dX6_work_120 : decode cX6_work 120 = .ok (.goto (-113), 3) := by decide +kernel
theorem dX6_work_123 : decode cX6_work 123 = .ok (.return_, 1) := by decide +kernel
set_option maxRecDepth 20000 in
theorem ggX6_dayOn_X6_blown : GoodIn wsX6_dayOn wsX6_blown := goodIn_r _ [11, 1, 12, 13, 4, 14, 72, 73, 74, 75, 76, 77, 78, 79, 80, 81] (by decide +kernel) (by decide +kernel)
set_option maxRecDepth 20000 in
theorem gX6_dayOn_X6_blown : GoodIn wsX6_dayOn (wsV RX6 105 RX6 yX6_blown wsX6_blown) := goodIn_app (goodIn_of _ (by decide +kernel)) ggX6_dayOn_X6_blown
set_option maxRecDepth 20000 in
theorem ggX6_dayOn_X6_pane : GoodIn wsX6_dayOn wsX6_pane := goodIn_r _ [17] (by decide +kernel) (by decide +kernel)
set_option maxRecDepth 20000 in
theorem gX6_dayOn_X6_pane : GoodIn wsX6_dayOn (va_wsS RX6 80 yX6_pane wsX6_pane) := goodIn_app (goodIn_of _ (by decide +kernel)) ggX6_dayOn_X6_pane
set_option maxRecDepth 20000 in
theorem ggX6_dayOn_X6_isFeastOn : GoodIn wsX6_dayOn wsX6_isFeastOn := goodIn_r _ [21, 22, 23, 24, 72, 73, 74, 75, 76, 77, 78, 79, 80, 81] (by decide +kernel) (by decide +kernel)
set_option maxRecDepth 20000 in
theorem gX6_dayOn_X6_isFeastOn : GoodIn wsX6_dayOn (wsV RX6 108 RX6 yX6_isFeastOn wsX6_isFeastOn) := goodIn_app (goodIn_of _ (by decide +kernel)) ggX6_dayOn_X6_isFeastOn
set_option maxRecDepth 20000 in
theorem ggX6_dayOn_X6_allBring : GoodIn wsX6_dayOn wsX6_allBring := goodIn_r _ [28, 29, 30, 31, 32, 10, 33, 12, 13, 4, 14, 34, 35, 36, 37, 38, 39, 40, 41, 42, 43, 44, 45, 46, 1, 15, 16, 17, 72, 73, 74, 75, 76, 77, 78, 79, 80, 81] (by decide +kernel) (by decide +kernel)
set_option maxRecDepth 20000 in
theorem gX6_dayOn_X6_allBring : GoodIn wsX6_dayOn (wsV RX6 111 RX6 yX6_allBring wsX6_allBring) := goodIn_app (goodIn_of _ (by decide +kernel)) ggX6_dayOn_X6_allBring
set_option maxRecDepth 20000 in
theorem ggX6_dayOn_X6_work : GoodIn wsX6_dayOn wsX6_work := goodIn_r _ [50, 51, 1, 2, 3, 4, 5, 52, 53, 54, 10, 55, 15, 16, 17, 56, 57, 58, 59, 60, 61, 62, 63, 64, 65, 66, 67, 6, 68, 69, 70, 71, 72, 73, 74, 75, 76, 77, 78, 79, 80, 81] (by decide +kernel) (by decide +kernel)
set_option maxRecDepth 20000 in
theorem gX6_dayOn_X6_work : GoodIn wsX6_dayOn (wsV RX6 115 RX6 yX6_work wsX6_work) := goodIn_app (goodIn_of _ (by decide +kernel)) ggX6_dayOn_X6_work
theorem dX6_dayOn_0 : decode cX6_dayOn 0 = .ok (.iconst 0, 1) := by decide +kernel
theorem dX6_dayOn_1 : decode cX6_dayOn 1 = .ok (.istore_n 1, 1) := by decide +kernel
theorem dX6_dayOn_2 : decode cX6_dayOn 2 = .ok (.iload_n 1, 1) := by decide +kernel
theorem dX6_dayOn_3 : decode cX6_dayOn 3 = .ok (.bipush 12, 2) := by decide +kernel
theorem dX6_dayOn_5 : decode cX6_dayOn 5 = .ok (.if_icmp .ge 58, 3) := by decide +kernel
theorem dX6_dayOn_8 : decode cX6_dayOn 8 = .ok (.iconst 1, 1) := by decide +kernel
theorem dX6_dayOn_9 : decode cX6_dayOn 9 = .ok (.aload_n 0, 1) := by decide +kernel
theorem dX6_dayOn_10 : decode cX6_dayOn 10 = .ok (.iload_n 1, 1) := by decide +kernel
theorem dX6_dayOn_11 : decode cX6_dayOn 11 = .ok (.invokevirtual 105, 3) := by decide +kernel
theorem dX6_dayOn_14 : decode cX6_dayOn 14 = .ok (.iadd, 1) := by decide +kernel
theorem dX6_dayOn_15 : decode cX6_dayOn 15 = .ok (.istore_n 2, 1) := by decide +kernel
theorem dX6_dayOn_16 : decode cX6_dayOn 16 = .ok (.iconst 0, 1) := by decide +kernel
theorem dX6_dayOn_17 : decode cX6_dayOn 17 = .ok (.istore_n 3, 1) := by decide +kernel
theorem dX6_dayOn_18 : decode cX6_dayOn 18 = .ok (.iload_n 3, 1) := by decide +kernel
theorem dX6_dayOn_19 : decode cX6_dayOn 19 = .ok (.bipush 8, 2) := by decide +kernel
theorem dX6_dayOn_21 : decode cX6_dayOn 21 = .ok (.if_icmp .ge 36, 3) := by decide +kernel
theorem dX6_dayOn_24 : decode cX6_dayOn 24 = .ok (.aload_n 0, 1) := by decide +kernel
theorem dX6_dayOn_25 : decode cX6_dayOn 25 = .ok (.getfield 22, 3) := by decide +kernel
theorem dX6_dayOn_28 : decode cX6_dayOn 28 = .ok (.iload_n 1, 1) := by decide +kernel
theorem dX6_dayOn_29 : decode cX6_dayOn 29 = .ok (.iload_n 3, 1) := by decide +kernel
theorem dX6_dayOn_30 : decode cX6_dayOn 30 = .ok (.invokestatic 80, 3) := by decide +kernel
theorem dX6_dayOn_33 : decode cX6_dayOn 33 = .ok (.bipush 20, 2) := by decide +kernel
theorem dX6_dayOn_35 : decode cX6_dayOn 35 = .ok (.aload_n 0, 1) := by decide +kernel
theorem dX6_dayOn_36 : decode cX6_dayOn 36 = .ok (.getfield 22, 3) := by decide +kernel
theorem dX6_dayOn_39 : decode cX6_dayOn 39 = .ok (.iload_n 1, 1) := by decide +kernel
theorem dX6_dayOn_40 : decode cX6_dayOn 40 = .ok (.iload_n 3, 1) := by decide +kernel
theorem dX6_dayOn_41 : decode cX6_dayOn 41 = .ok (.invokestatic 80, 3) := by decide +kernel
theorem dX6_dayOn_44 : decode cX6_dayOn 44 = .ok (.iaload, 1) := by decide +kernel
theorem dX6_dayOn_45 : decode cX6_dayOn 45 = .ok (.iload_n 2, 1) := by decide +kernel
theorem dX6_dayOn_46 : decode cX6_dayOn 46 = .ok (.iadd, 1) := by decide +kernel
theorem dX6_dayOn_47 : decode cX6_dayOn 47 = .ok (.invokestatic 98, 3) := by decide +kernel
theorem dX6_dayOn_50 : decode cX6_dayOn 50 = .ok (.iastore, 1) := by decide +kernel
theorem dX6_dayOn_51 : decode cX6_dayOn 51 = .ok (.iinc 3 1, 3) := by decide +kernel
theorem dX6_dayOn_54 : decode cX6_dayOn 54 = .ok (.goto (-36), 3) := by decide +kernel
theorem dX6_dayOn_57 : decode cX6_dayOn 57 = .ok (.iinc 1 1, 3) := by decide +kernel
theorem dX6_dayOn_60 : decode cX6_dayOn 60 = .ok (.goto (-58), 3) := by decide +kernel
theorem dX6_dayOn_63 : decode cX6_dayOn 63 = .ok (.aload_n 0, 1) := by decide +kernel
theorem dX6_dayOn_64 : decode cX6_dayOn 64 = .ok (.aload_n 0, 1) := by decide +kernel
theorem dX6_dayOn_65 : decode cX6_dayOn 65 = .ok (.getfield 22, 3) := by decide +kernel
theorem dX6_dayOn_68 : decode cX6_dayOn 68 = .ok (.iconst 0, 1) := by decide +kernel
theorem dX6_dayOn_69 : decode cX6_dayOn 69 = .ok (.iaload, 1) := by decide +kernel
theorem dX6_dayOn_70 : decode cX6_dayOn 70 = .ok (.invokevirtual 108, 3) := by decide +kernel
theorem dX6_dayOn_73 : decode cX6_dayOn 73 = .ok (.ifCond .eq 29, 3) := by decide +kernel
theorem dX6_dayOn_76 : decode cX6_dayOn 76 = .ok (.aload_n 0, 1) := by decide +kernel
theorem dX6_dayOn_77 : decode cX6_dayOn 77 = .ok (.getfield 22, 3) := by decide +kernel
theorem dX6_dayOn_80 : decode cX6_dayOn 80 = .ok (.iconst 2, 1) := by decide +kernel
theorem dX6_dayOn_81 : decode cX6_dayOn 81 = .ok (.dup2, 1) := by decide +kernel
theorem dX6_dayOn_82 : decode cX6_dayOn 82 = .ok (.iaload, 1) := by decide +kernel
theorem dX6_dayOn_83 : decode cX6_dayOn 83 = .ok (.aload_n 0, 1) := by decide +kernel
theorem dX6_dayOn_84 : decode cX6_dayOn 84 = .ok (.invokevirtual 111, 3) := by decide +kernel
theorem dX6_dayOn_87 : decode cX6_dayOn 87 = .ok (.iadd, 1) := by decide +kernel
theorem dX6_dayOn_88 : decode cX6_dayOn 88 = .ok (.iastore, 1) := by decide +kernel
theorem dX6_dayOn_89 : decode cX6_dayOn 89 = .ok (.aload_n 0, 1) := by decide +kernel
theorem dX6_dayOn_90 : decode cX6_dayOn 90 = .ok (.getfield 22, 3) := by decide +kernel
theorem dX6_dayOn_93 : decode cX6_dayOn 93 = .ok (.iconst 3, 1) := by decide +kernel
theorem dX6_dayOn_94 : decode cX6_dayOn 94 = .ok (.dup2, 1) := by decide +kernel
theorem dX6_dayOn_95 : decode cX6_dayOn 95 = .ok (.iaload, 1) := by decide +kernel
theorem dX6_dayOn_96 : decode cX6_dayOn 96 = .ok (.iconst 1, 1) := by decide +kernel
theorem dX6_dayOn_97 : decode cX6_dayOn 97 = .ok (.iadd, 1) := by decide +kernel
theorem dX6_dayOn_98 : decode cX6_dayOn 98 = .ok (.iastore, 1) := by decide +kernel
theorem dX6_dayOn_99 : decode cX6_dayOn 99 = .ok (.goto 24, 3) := by decide +kernel
theorem dX6_dayOn_102 : decode cX6_dayOn 102 = .ok (.iconst 0, 1) := by decide +kernel
theorem dX6_dayOn_103 : decode cX6_dayOn 103 = .ok (.istore_n 1, 1) := by decide +kernel
theorem dX6_dayOn_104 : decode cX6_dayOn 104 = .ok (.iload_n 1, 1) := by decide +kernel
theorem dX6_dayOn_105 : decode cX6_dayOn 105 = .ok (.aload_n 0, 1) := by decide +kernel
theorem dX6_dayOn_106 : decode cX6_dayOn 106 = .ok (.getfield 39, 3) := by decide +kernel
theorem dX6_dayOn_109 : decode cX6_dayOn 109 = .ok (.if_icmp .ge 14, 3) := by decide +kernel
theorem dX6_dayOn_112 : decode cX6_dayOn 112 = .ok (.aload_n 0, 1) := by decide +kernel
theorem dX6_dayOn_113 : decode cX6_dayOn 113 = .ok (.iload_n 1, 1) := by decide +kernel
theorem dX6_dayOn_114 : decode cX6_dayOn 114 = .ok (.invokevirtual 115, 3) := by decide +kernel
theorem dX6_dayOn_117 : decode cX6_dayOn 117 = .ok (.iinc 1 1, 3) := by decide +kernel
theorem dX6_dayOn_120 : decode cX6_dayOn 120 = .ok (.goto (-16), 3) := by decide +kernel
theorem dX6_dayOn_123 : decode cX6_dayOn 123 = .ok (.aload_n 0, 1) := by decide +kernel
theorem dX6_dayOn_124 : decode cX6_dayOn 124 = .ok (.getfield 22, 3) := by decide +kernel
theorem dX6_dayOn_127 : decode cX6_dayOn 127 = .ok (.iconst 0, 1) := by decide +kernel
theorem dX6_dayOn_128 : decode cX6_dayOn 128 = .ok (.dup2, 1) := by decide +kernel
theorem dX6_dayOn_129 : decode cX6_dayOn 129 = .ok (.iaload, 1) := by decide +kernel
theorem dX6_dayOn_130 : decode cX6_dayOn 130 = .ok (.iconst 1, 1) := by decide +kernel
theorem dX6_dayOn_131 : decode cX6_dayOn 131 = .ok (.iadd, 1) := by decide +kernel
theorem dX6_dayOn_132 : decode cX6_dayOn 132 = .ok (.iastore, 1) := by decide +kernel
theorem dX6_dayOn_133 : decode cX6_dayOn 133 = .ok (.return_, 1) := by decide +kernel
set_option maxRecDepth 20000 in
theorem ggX6_daysOn_X6_dayOn : GoodIn wsX6_daysOn wsX6_dayOn := goodIn_r _ [5, 6, 7, 8, 9, 10, 11, 12, 13, 14, 4, 15, 16, 17, 18, 19, 20, 21, 22, 23, 24, 25, 26, 27, 28, 29, 30, 31, 32, 33, 34, 35, 36, 37, 38, 39, 40, 41, 42, 43, 44, 45, 46, 47, 48, 49, 50, 51, 52, 53, 54, 55, 56, 57, 58, 59, 60, 61, 62, 63, 64, 65, 66, 67, 68, 69, 70, 71, 72, 73, 74, 75, 76, 77, 78, 79, 80, 81, 82, 83, 84, 85] (by decide +kernel) (by decide +kernel)
set_option maxRecDepth 20000 in
theorem gX6_daysOn_X6_dayOn : GoodIn wsX6_daysOn (wsV RX6 118 RX6 yX6_dayOn wsX6_dayOn) := goodIn_app (goodIn_of _ (by decide +kernel)) ggX6_daysOn_X6_dayOn
theorem dX6_daysOn_0 : decode cX6_daysOn 0 = .ok (.iconst 0, 1) := by decide +kernel
theorem dX6_daysOn_1 : decode cX6_daysOn 1 = .ok (.istore_n 2, 1) := by decide +kernel
theorem dX6_daysOn_2 : decode cX6_daysOn 2 = .ok (.iload_n 2, 1) := by decide +kernel
theorem dX6_daysOn_3 : decode cX6_daysOn 3 = .ok (.iload_n 1, 1) := by decide +kernel
theorem dX6_daysOn_4 : decode cX6_daysOn 4 = .ok (.if_icmp .ge 13, 3) := by decide +kernel
theorem dX6_daysOn_7 : decode cX6_daysOn 7 = .ok (.aload_n 0, 1) := by decide +kernel
theorem dX6_daysOn_8 : decode cX6_daysOn 8 = .ok (.invokevirtual 118, 3) := by decide +kernel
theorem dX6_daysOn_11 : decode cX6_daysOn 11 = .ok (.iinc 2 1, 3) := by decide +kernel
theorem dX6_daysOn_14 : decode cX6_daysOn 14 = .ok (.goto (-12), 3) := by decide +kernel
theorem dX6_daysOn_17 : decode cX6_daysOn 17 = .ok (.return_, 1) := by decide +kernel
set_option maxRecDepth 20000 in
theorem ggX6_pass_X6_isIn : GoodIn wsX6_pass wsX6_isIn := goodIn_r _ [6] (by decide +kernel) (by decide +kernel)
set_option maxRecDepth 20000 in
theorem gX6_pass_X6_isIn : GoodIn wsX6_pass (va_wsS RX6 35 yX6_isIn wsX6_isIn) := goodIn_app (goodIn_of _ (by decide +kernel)) ggX6_pass_X6_isIn
set_option maxRecDepth 20000 in
theorem ggX6_pass_X6_fail : GoodIn wsX6_pass wsX6_fail := goodIn_r _ [10, 1, 88, 89, 90, 91, 92, 93, 94, 95, 96, 97] (by decide +kernel) (by decide +kernel)
set_option maxRecDepth 20000 in
theorem gX6_pass_X6_fail : GoodIn wsX6_pass (wsV RX6 55 RX6 yX6_fail wsX6_fail) := goodIn_app (goodIn_of _ (by decide +kernel)) ggX6_pass_X6_fail
set_option maxRecDepth 20000 in
theorem ggX6_pass_X6_daysOn : GoodIn wsX6_pass wsX6_daysOn := goodIn_r _ [14, 15, 16, 17, 5, 18, 2, 19, 20, 21, 22, 23, 24, 25, 26, 27, 28, 29, 30, 31, 32, 33, 34, 35, 36, 37, 38, 39, 40, 41, 42, 43, 44, 45, 46, 47, 48, 49, 50, 51, 52, 53, 54, 55, 56, 57, 58, 59, 60, 61, 62, 63, 64, 65, 66, 67, 68, 69, 70, 71, 72, 73, 74, 75, 76, 77, 78, 79, 80, 81, 82, 83, 84, 85, 86, 87, 88, 89, 90, 91, 92, 93, 94, 95, 96, 97] (by decide +kernel) (by decide +kernel)
set_option maxRecDepth 20000 in
theorem gX6_pass_X6_daysOn : GoodIn wsX6_pass (wsV RX6 121 RX6 yX6_daysOn wsX6_daysOn) := goodIn_app (goodIn_of _ (by decide +kernel)) ggX6_pass_X6_daysOn
theorem dX6_pass_0 : decode cX6_pass 0 = .ok (.aload_n 0, 1) := by decide +kernel
theorem dX6_pass_1 : decode cX6_pass 1 = .ok (.iconst 0, 1) := by decide +kernel
theorem dX6_pass_2 : decode cX6_pass 2 = .ok (.putfield 28, 3) := by decide +kernel
theorem dX6_pass_5 : decode cX6_pass 5 = .ok (.iload_n 1, 1) := by decide +kernel
theorem dX6_pass_6 : decode cX6_pass 6 = .ok (.iconst 1, 1) := by decide +kernel
theorem dX6_pass_7 : decode cX6_pass 7 = .ok (.bipush 40, 2) := by decide +kernel
theorem dX6_pass_9 : decode cX6_pass 9 = .ok (.invokestatic 35, 3) := by decide +kernel
theorem dX6_pass_12 : decode cX6_pass 12 = .ok (.ifCond .ne 9, 3) := by decide +kernel
theorem dX6_pass_15 : decode cX6_pass 15 = .ok (.aload_n 0, 1) := by decide +kernel
theorem dX6_pass_16 : decode cX6_pass 16 = .ok (.iconst 1, 1) := by decide +kernel
theorem dX6_pass_17 : decode cX6_pass 17 = .ok (.invokevirtual 55, 3) := by decide +kernel
theorem dX6_pass_20 : decode cX6_pass 20 = .ok (.ireturn, 1) := by decide +kernel
theorem dX6_pass_21 : decode cX6_pass 21 = .ok (.aload_n 0, 1) := by decide +kernel
theorem dX6_pass_22 : decode cX6_pass 22 = .ok (.getfield 22, 3) := by decide +kernel
theorem dX6_pass_25 : decode cX6_pass 25 = .ok (.iconst 2, 1) := by decide +kernel
theorem dX6_pass_26 : decode cX6_pass 26 = .ok (.iaload, 1) := by decide +kernel
theorem dX6_pass_27 : decode cX6_pass 27 = .ok (.istore_n 2, 1) := by decide +kernel
theorem dX6_pass_28 : decode cX6_pass 28 = .ok (.aload_n 0, 1) := by decide +kernel
theorem dX6_pass_29 : decode cX6_pass 29 = .ok (.iload_n 1, 1) := by decide +kernel
theorem dX6_pass_30 : decode cX6_pass 30 = .ok (.invokevirtual 121, 3) := by decide +kernel
theorem dX6_pass_33 : decode cX6_pass 33 = .ok (.aload_n 0, 1) := by decide +kernel
theorem dX6_pass_34 : decode cX6_pass 34 = .ok (.getfield 22, 3) := by decide +kernel
theorem dX6_pass_37 : decode cX6_pass 37 = .ok (.iconst 2, 1) := by decide +kernel
theorem dX6_pass_38 : decode cX6_pass 38 = .ok (.iaload, 1) := by decide +kernel
theorem dX6_pass_39 : decode cX6_pass 39 = .ok (.iload_n 2, 1) := by decide +kernel
theorem dX6_pass_40 : decode cX6_pass 40 = .ok (.isub, 1) := by decide +kernel
theorem dX6_pass_41 : decode cX6_pass 41 = .ok (.ireturn, 1) := by decide +kernel
set_option maxRecDepth 20000 in
theorem ggX6_soot_X6_isIn : GoodIn wsX6_soot wsX6_isIn := goodIn_r _ [6] (by decide +kernel) (by decide +kernel)
set_option maxRecDepth 20000 in
theorem gX6_soot_X6_isIn : GoodIn wsX6_soot (va_wsS RX6 35 yX6_isIn wsX6_isIn) := goodIn_app (goodIn_of _ (by decide +kernel)) ggX6_soot_X6_isIn
set_option maxRecDepth 20000 in
theorem ggX6_soot_X6_pane : GoodIn wsX6_soot wsX6_pane := goodIn_r _ [9] (by decide +kernel) (by decide +kernel)
set_option maxRecDepth 20000 in
theorem gX6_soot_X6_pane : GoodIn wsX6_soot (va_wsS RX6 80 yX6_pane wsX6_pane) := goodIn_app (goodIn_of _ (by decide +kernel)) ggX6_soot_X6_pane
set_option maxRecDepth 20000 in
theorem ggX6_soot_X6_fail : GoodIn wsX6_soot wsX6_fail := goodIn_r _ [13, 1, 14, 15, 16, 17, 18, 19, 20, 21, 22, 23] (by decide +kernel) (by decide +kernel)
set_option maxRecDepth 20000 in
theorem gX6_soot_X6_fail : GoodIn wsX6_soot (wsV RX6 55 RX6 yX6_fail wsX6_fail) := goodIn_app (goodIn_of _ (by decide +kernel)) ggX6_soot_X6_fail
theorem dX6_soot_0 : decode cX6_soot 0 = .ok (.aload_n 0, 1) := by decide +kernel
theorem dX6_soot_1 : decode cX6_soot 1 = .ok (.iconst 0, 1) := by decide +kernel
theorem dX6_soot_2 : decode cX6_soot 2 = .ok (.putfield 28, 3) := by decide +kernel
theorem dX6_soot_5 : decode cX6_soot 5 = .ok (.iload_n 1, 1) := by decide +kernel
theorem dX6_soot_6 : decode cX6_soot 6 = .ok (.iconst 0, 1) := by decide +kernel
theorem dX6_soot_7 : decode cX6_soot 7 = .ok (.bipush 11, 2) := by decide +kernel
theorem dX6_soot_9 : decode cX6_soot 9 = .ok (.invokestatic 35, 3) := by decide +kernel
theorem dX6_soot_12 : decode cX6_soot 12 = .ok (.ifCond .eq 26, 3) := by decide +kernel
theorem dX6_soot_15 : decode cX6_soot 15 = .ok (.iload_n 2, 1) := by decide +kernel
theorem dX6_soot_16 : decode cX6_soot 16 = .ok (.iconst 0, 1) := by decide +kernel
theorem dX6_soot_17 : decode cX6_soot 17 = .ok (.bipush 7, 2) := by decide +kernel
theorem dX6_soot_19 : decode cX6_soot 19 = .ok (.invokestatic 35, 3) := by decide +kernel
theorem dX6_soot_22 : decode cX6_soot 22 = .ok (.ifCond .eq 16, 3) := by decide +kernel
theorem dX6_soot_25 : decode cX6_soot 25 = .ok (.aload_n 0, 1) := by decide +kernel
theorem dX6_soot_26 : decode cX6_soot 26 = .ok (.getfield 22, 3) := by decide +kernel
theorem dX6_soot_29 : decode cX6_soot 29 = .ok (.iload_n 1, 1) := by decide +kernel
theorem dX6_soot_30 : decode cX6_soot 30 = .ok (.iload_n 2, 1) := by decide +kernel
theorem dX6_soot_31 : decode cX6_soot 31 = .ok (.invokestatic 80, 3) := by decide +kernel
theorem dX6_soot_34 : decode cX6_soot 34 = .ok (.iaload, 1) := by decide +kernel
theorem dX6_soot_35 : decode cX6_soot 35 = .ok (.goto 8, 3) := by decide +kernel
theorem dX6_soot_38 : decode cX6_soot 38 = .ok (.aload_n 0, 1) := by decide +kernel
theorem dX6_soot_39 : decode cX6_soot 39 = .ok (.iconst 1, 1) := by decide +kernel
theorem dX6_soot_40 : decode cX6_soot 40 = .ok (.invokevirtual 55, 3) := by decide +kernel
theorem dX6_soot_43 : decode cX6_soot 43 = .ok (.ireturn, 1) := by decide +kernel
set_option maxRecDepth 20000 in
theorem ggX6_windowTold_X6_sootOf : GoodIn wsX6_windowTold wsX6_sootOf := goodIn_r _ [5, 6, 7, 8, 9, 10, 11, 12, 13, 4, 14, 15, 16, 17, 18, 27, 28, 29, 30, 31, 32, 33, 34, 35, 36] (by decide +kernel) (by decide +kernel)
set_option maxRecDepth 20000 in
theorem gX6_windowTold_X6_sootOf : GoodIn wsX6_windowTold (wsV RX6 91 RX6 yX6_sootOf wsX6_sootOf) := goodIn_app (goodIn_of _ (by decide +kernel)) ggX6_windowTold_X6_sootOf
set_option maxRecDepth 20000 in
theorem ggX6_windowTold_X6_brings : GoodIn wsX6_windowTold wsX6_brings := goodIn_r _ [22, 7, 8, 9, 10, 11, 12, 13, 4, 14, 15, 23, 24, 25, 26, 1, 2, 3, 5, 6, 16, 17, 18, 27, 28, 29, 30, 31, 32, 33, 34, 35, 36] (by decide +kernel) (by decide +kernel)
set_option maxRecDepth 20000 in
theorem gX6_windowTold_X6_brings : GoodIn wsX6_windowTold (wsV RX6 95 RX6 yX6_brings wsX6_brings) := goodIn_app (goodIn_of _ (by decide +kernel)) ggX6_windowTold_X6_brings
set_option maxRecDepth 20000 in
theorem ggX6_windowTold_X6_wi : GoodIn wsX6_windowTold wsX6_wi := goodIn_r _ [14, 15, 27, 28, 29, 30, 31, 32, 33, 34, 35, 36] (by decide +kernel) (by decide +kernel)
set_option maxRecDepth 20000 in
theorem gX6_windowTold_X6_wi : GoodIn wsX6_windowTold (wsV RX6 77 RX6 yX6_wi wsX6_wi) := goodIn_app (goodIn_of _ (by decide +kernel)) ggX6_windowTold_X6_wi
theorem dX6_windowTold_0 : decode cX6_windowTold 0 = .ok (.iload_n 2, 1) := by decide +kernel
theorem dX6_windowTold_1 : decode cX6_windowTold 1 = .ok (.tableswitch 47 5 7 #[27, 34, 41], 27) := by decide +kernel
theorem dX6_windowTold_28 : decode cX6_windowTold 28 = .ok (.aload_n 0, 1) := by decide +kernel
theorem dX6_windowTold_29 : decode cX6_windowTold 29 = .ok (.iload_n 1, 1) := by decide +kernel
theorem dX6_windowTold_30 : decode cX6_windowTold 30 = .ok (.iconst 0, 1) := by decide +kernel
theorem dX6_windowTold_31 : decode cX6_windowTold 31 = .ok (.invokevirtual 91, 3) := by decide +kernel
theorem dX6_windowTold_34 : decode cX6_windowTold 34 = .ok (.ireturn, 1) := by decide +kernel
theorem dX6_windowTold_35 : decode cX6_windowTold 35 = .ok (.aload_n 0, 1) := by decide +kernel
theorem dX6_windowTold_36 : decode cX6_windowTold 36 = .ok (.iload_n 1, 1) := by decide +kernel
theorem dX6_windowTold_37 : decode cX6_windowTold 37 = .ok (.iconst 1, 1) := by decide +kernel
theorem dX6_windowTold_38 : decode cX6_windowTold 38 = .ok (.invokevirtual 91, 3) := by decide +kernel
theorem dX6_windowTold_41 : decode cX6_windowTold 41 = .ok (.ireturn, 1) := by decide +kernel
theorem dX6_windowTold_42 : decode cX6_windowTold 42 = .ok (.aload_n 0, 1) := by decide +kernel
theorem dX6_windowTold_43 : decode cX6_windowTold 43 = .ok (.iload_n 1, 1) := by decide +kernel
theorem dX6_windowTold_44 : decode cX6_windowTold 44 = .ok (.invokevirtual 95, 3) := by decide +kernel
theorem dX6_windowTold_47 : decode cX6_windowTold 47 = .ok (.ireturn, 1) := by decide +kernel
theorem dX6_windowTold_48 : decode cX6_windowTold 48 = .ok (.aload_n 0, 1) := by decide +kernel
theorem dX6_windowTold_49 : decode cX6_windowTold 49 = .ok (.iload_n 1, 1) := by decide +kernel
theorem dX6_windowTold_50 : decode cX6_windowTold 50 = .ok (.iload_n 2, 1) := by decide +kernel
theorem dX6_windowTold_51 : decode cX6_windowTold 51 = .ok (.invokevirtual 77, 3) := by decide +kernel
theorem dX6_windowTold_54 : decode cX6_windowTold 54 = .ok (.ireturn, 1) := by decide +kernel
set_option maxRecDepth 20000 in
theorem ggX6_about_X6_isWindow : GoodIn wsX6_about wsX6_isWindow := goodIn_r _ [6, 7, 8, 9, 5, 10, 44, 45, 46, 47, 48, 49, 50, 51, 52, 53] (by decide +kernel) (by decide +kernel)
set_option maxRecDepth 20000 in
theorem gX6_about_X6_isWindow : GoodIn wsX6_about (wsV RX6 74 RX6 yX6_isWindow wsX6_isWindow) := goodIn_app (goodIn_of _ (by decide +kernel)) ggX6_about_X6_isWindow
set_option maxRecDepth 20000 in
theorem ggX6_about_X6_isIn : GoodIn wsX6_about wsX6_isIn := goodIn_r _ [10] (by decide +kernel) (by decide +kernel)
set_option maxRecDepth 20000 in
theorem gX6_about_X6_isIn : GoodIn wsX6_about (va_wsS RX6 35 yX6_isIn wsX6_isIn) := goodIn_app (goodIn_of _ (by decide +kernel)) ggX6_about_X6_isIn
set_option maxRecDepth 20000 in
theorem ggX6_about_X6_windowTold : GoodIn wsX6_about wsX6_windowTold := goodIn_r _ [14, 15, 16, 17, 5, 18, 19, 20, 21, 22, 23, 24, 25, 26, 27, 28, 29, 30, 31, 32, 33, 34, 35, 36, 37, 38, 39, 44, 45, 46, 47, 48, 49, 50, 51, 52, 53] (by decide +kernel) (by decide +kernel)
set_option maxRecDepth 20000 in
theorem gX6_about_X6_windowTold : GoodIn wsX6_about (wsV RX6 124 RX6 yX6_windowTold wsX6_windowTold) := goodIn_app (goodIn_of _ (by decide +kernel)) ggX6_about_X6_windowTold
set_option maxRecDepth 20000 in
theorem ggX6_about_X6_fail : GoodIn wsX6_about wsX6_fail := goodIn_r _ [43, 1, 44, 45, 46, 47, 48, 49, 50, 51, 52, 53] (by decide +kernel) (by decide +kernel)
set_option maxRecDepth 20000 in
theorem gX6_about_X6_fail : GoodIn wsX6_about (wsV RX6 55 RX6 yX6_fail wsX6_fail) := goodIn_app (goodIn_of _ (by decide +kernel)) ggX6_about_X6_fail
theorem dX6_about_0 : decode cX6_about 0 = .ok (.aload_n 0, 1) := by decide +kernel
theorem dX6_about_1 : decode cX6_about 1 = .ok (.iconst 0, 1) := by decide +kernel
theorem dX6_about_2 : decode cX6_about 2 = .ok (.putfield 28, 3) := by decide +kernel
theorem dX6_about_5 : decode cX6_about 5 = .ok (.aload_n 0, 1) := by decide +kernel
theorem dX6_about_6 : decode cX6_about 6 = .ok (.iload_n 1, 1) := by decide +kernel
theorem dX6_about_7 : decode cX6_about 7 = .ok (.invokevirtual 74, 3) := by decide +kernel
theorem dX6_about_10 : decode cX6_about 10 = .ok (.ifCond .eq 22, 3) := by decide +kernel
theorem dX6_about_13 : decode cX6_about 13 = .ok (.iload_n 2, 1) := by decide +kernel
theorem dX6_about_14 : decode cX6_about 14 = .ok (.iconst 0, 1) := by decide +kernel
theorem dX6_about_15 : decode cX6_about 15 = .ok (.bipush 7, 2) := by decide +kernel
theorem dX6_about_17 : decode cX6_about 17 = .ok (.invokestatic 35, 3) := by decide +kernel
theorem dX6_about_20 : decode cX6_about 20 = .ok (.ifCond .eq 12, 3) := by decide +kernel
theorem dX6_about_23 : decode cX6_about 23 = .ok (.aload_n 0, 1) := by decide +kernel
theorem dX6_about_24 : decode cX6_about 24 = .ok (.iload_n 1, 1) := by decide +kernel
theorem dX6_about_25 : decode cX6_about 25 = .ok (.iload_n 2, 1) := by decide +kernel
theorem dX6_about_26 : decode cX6_about 26 = .ok (.invokevirtual 124, 3) := by decide +kernel
theorem dX6_about_29 : decode cX6_about 29 = .ok (.goto 8, 3) := by decide +kernel
theorem dX6_about_32 : decode cX6_about 32 = .ok (.aload_n 0, 1) := by decide +kernel
theorem dX6_about_33 : decode cX6_about 33 = .ok (.iconst 1, 1) := by decide +kernel
theorem dX6_about_34 : decode cX6_about 34 = .ok (.invokevirtual 55, 3) := by decide +kernel
theorem dX6_about_37 : decode cX6_about 37 = .ok (.ireturn, 1) := by decide +kernel
set_option maxRecDepth 20000 in
theorem ggX6_ropeTold_X6_ro : GoodIn wsX6_ropeTold wsX6_ro := goodIn_r _ [6, 7, 8, 9, 10, 11, 12, 13, 14, 15, 16, 17] (by decide +kernel) (by decide +kernel)
set_option maxRecDepth 20000 in
theorem gX6_ropeTold_X6_ro : GoodIn wsX6_ropeTold (wsV RX6 42 RX6 yX6_ro wsX6_ro) := goodIn_app (goodIn_of _ (by decide +kernel)) ggX6_ropeTold_X6_ro
theorem dX6_ropeTold_0 : decode cX6_ropeTold 0 = .ok (.iload_n 2, 1) := by decide +kernel
theorem dX6_ropeTold_1 : decode cX6_ropeTold 1 = .ok (.iconst 2, 1) := by decide +kernel
theorem dX6_ropeTold_2 : decode cX6_ropeTold 2 = .ok (.if_icmp .ge 12, 3) := by decide +kernel
theorem dX6_ropeTold_5 : decode cX6_ropeTold 5 = .ok (.aload_n 0, 1) := by decide +kernel
theorem dX6_ropeTold_6 : decode cX6_ropeTold 6 = .ok (.iload_n 1, 1) := by decide +kernel
theorem dX6_ropeTold_7 : decode cX6_ropeTold 7 = .ok (.iload_n 2, 1) := by decide +kernel
theorem dX6_ropeTold_8 : decode cX6_ropeTold 8 = .ok (.invokevirtual 42, 3) := by decide +kernel
theorem dX6_ropeTold_11 : decode cX6_ropeTold 11 = .ok (.goto 25, 3) := by decide +kernel
theorem dX6_ropeTold_14 : decode cX6_ropeTold 14 = .ok (.iload_n 2, 1) := by decide +kernel
theorem dX6_ropeTold_15 : decode cX6_ropeTold 15 = .ok (.iconst 2, 1) := by decide +kernel
theorem dX6_ropeTold_16 : decode cX6_ropeTold 16 = .ok (.if_icmp .ne 12, 3) := by decide +kernel
theorem dX6_ropeTold_19 : decode cX6_ropeTold 19 = .ok (.aload_n 0, 1) := by decide +kernel
theorem dX6_ropeTold_20 : decode cX6_ropeTold 20 = .ok (.getfield 13, 3) := by decide +kernel
theorem dX6_ropeTold_23 : decode cX6_ropeTold 23 = .ok (.iload_n 1, 1) := by decide +kernel
theorem dX6_ropeTold_24 : decode cX6_ropeTold 24 = .ok (.iaload, 1) := by decide +kernel
theorem dX6_ropeTold_25 : decode cX6_ropeTold 25 = .ok (.goto 11, 3) := by decide +kernel
theorem dX6_ropeTold_28 : decode cX6_ropeTold 28 = .ok (.aload_n 0, 1) := by decide +kernel
theorem dX6_ropeTold_29 : decode cX6_ropeTold 29 = .ok (.iload_n 1, 1) := by decide +kernel
theorem dX6_ropeTold_30 : decode cX6_ropeTold 30 = .ok (.iload_n 2, 1) := by decide +kernel
theorem dX6_ropeTold_31 : decode cX6_ropeTold 31 = .ok (.iconst 1, 1) := by decide +kernel
theorem dX6_ropeTold_32 : decode cX6_ropeTold 32 = .ok (.isub, 1) := by decide +kernel
theorem dX6_ropeTold_33 : decode cX6_ropeTold 33 = .ok (.invokevirtual 42, 3) := by decide +kernel
theorem dX6_ropeTold_36 : decode cX6_ropeTold 36 = .ok (.ireturn, 1) := by decide +kernel
set_option maxRecDepth 20000 in
theorem ggX6_told_X6_isRope : GoodIn wsX6_told wsX6_isRope := goodIn_r _ [6, 7, 8, 9, 5, 10, 25, 26, 27, 28, 29, 30, 31, 32, 33, 34] (by decide +kernel) (by decide +kernel)
set_option maxRecDepth 20000 in
theorem gX6_told_X6_isRope : GoodIn wsX6_told (wsV RX6 67 RX6 yX6_isRope wsX6_isRope) := goodIn_app (goodIn_of _ (by decide +kernel)) ggX6_told_X6_isRope
set_option maxRecDepth 20000 in
theorem ggX6_told_X6_isIn : GoodIn wsX6_told wsX6_isIn := goodIn_r _ [10] (by decide +kernel) (by decide +kernel)
set_option maxRecDepth 20000 in
theorem gX6_told_X6_isIn : GoodIn wsX6_told (va_wsS RX6 35 yX6_isIn wsX6_isIn) := goodIn_app (goodIn_of _ (by decide +kernel)) ggX6_told_X6_isIn
set_option maxRecDepth 20000 in
theorem ggX6_told_X6_ropeTold : GoodIn wsX6_told wsX6_ropeTold := goodIn_r _ [14, 15, 16, 17, 18, 5, 19, 20, 25, 26, 27, 28, 29, 30, 31, 32, 33, 34] (by decide +kernel) (by decide +kernel)
set_option maxRecDepth 20000 in
theorem gX6_told_X6_ropeTold : GoodIn wsX6_told (wsV RX6 127 RX6 yX6_ropeTold wsX6_ropeTold) := goodIn_app (goodIn_of _ (by decide +kernel)) ggX6_told_X6_ropeTold
set_option maxRecDepth 20000 in
theorem ggX6_told_X6_fail : GoodIn wsX6_told wsX6_fail := goodIn_r _ [24, 1, 25, 26, 27, 28, 29, 30, 31, 32, 33, 34] (by decide +kernel) (by decide +kernel)
set_option maxRecDepth 20000 in
theorem gX6_told_X6_fail : GoodIn wsX6_told (wsV RX6 55 RX6 yX6_fail wsX6_fail) := goodIn_app (goodIn_of _ (by decide +kernel)) ggX6_told_X6_fail
theorem dX6_told_0 : decode cX6_told 0 = .ok (.aload_n 0, 1) := by decide +kernel
theorem dX6_told_1 : decode cX6_told 1 = .ok (.iconst 0, 1) := by decide +kernel
theorem dX6_told_2 : decode cX6_told 2 = .ok (.putfield 28, 3) := by decide +kernel
theorem dX6_told_5 : decode cX6_told 5 = .ok (.aload_n 0, 1) := by decide +kernel
theorem dX6_told_6 : decode cX6_told 6 = .ok (.iload_n 1, 1) := by decide +kernel
theorem dX6_told_7 : decode cX6_told 7 = .ok (.invokevirtual 67, 3) := by decide +kernel
theorem dX6_told_10 : decode cX6_told 10 = .ok (.ifCond .eq 21, 3) := by decide +kernel
theorem dX6_told_13 : decode cX6_told 13 = .ok (.iload_n 2, 1) := by decide +kernel
theorem dX6_told_14 : decode cX6_told 14 = .ok (.iconst 0, 1) := by decide +kernel
theorem dX6_told_15 : decode cX6_told 15 = .ok (.iconst 5, 1) := by decide +kernel
theorem dX6_told_16 : decode cX6_told 16 = .ok (.invokestatic 35, 3) := by decide +kernel
theorem dX6_told_19 : decode cX6_told 19 = .ok (.ifCond .eq 12, 3) := by decide +kernel
theorem dX6_told_22 : decode cX6_told 22 = .ok (.aload_n 0, 1) := by decide +kernel
theorem dX6_told_23 : decode cX6_told 23 = .ok (.iload_n 1, 1) := by decide +kernel
theorem dX6_told_24 : decode cX6_told 24 = .ok (.iload_n 2, 1) := by decide +kernel
theorem dX6_told_25 : decode cX6_told 25 = .ok (.invokevirtual 127, 3) := by decide +kernel
theorem dX6_told_28 : decode cX6_told 28 = .ok (.goto 8, 3) := by decide +kernel
theorem dX6_told_31 : decode cX6_told 31 = .ok (.aload_n 0, 1) := by decide +kernel
theorem dX6_told_32 : decode cX6_told 32 = .ok (.iconst 1, 1) := by decide +kernel
theorem dX6_told_33 : decode cX6_told 33 = .ok (.invokevirtual 55, 3) := by decide +kernel
theorem dX6_told_36 : decode cX6_told 36 = .ok (.ireturn, 1) := by decide +kernel
theorem dX6_allSoot_0 : decode cX6_allSoot 0 = .ok (.iconst 0, 1) := by decide +kernel
theorem dX6_allSoot_1 : decode cX6_allSoot 1 = .ok (.istore_n 1, 1) := by decide +kernel
theorem dX6_allSoot_2 : decode cX6_allSoot 2 = .ok (.iconst 0, 1) := by decide +kernel
theorem dX6_allSoot_3 : decode cX6_allSoot 3 = .ok (.istore_n 2, 1) := by decide +kernel
theorem dX6_allSoot_4 : decode cX6_allSoot 4 = .ok (.iload_n 2, 1) := by decide +kernel
theorem dX6_allSoot_5 : decode cX6_allSoot 5 = .ok (.bipush 96, 2) := by decide +kernel
theorem dX6_allSoot_7 : decode cX6_allSoot 7 = .ok (.if_icmp .ge 20, 3) := by decide +kernel
theorem dX6_allSoot_10 : decode cX6_allSoot 10 = .ok (.iload_n 1, 1) := by decide +kernel
theorem dX6_allSoot_11 : decode cX6_allSoot 11 = .ok (.aload_n 0, 1) := by decide +kernel
theorem dX6_allSoot_12 : decode cX6_allSoot 12 = .ok (.getfield 22, 3) := by decide +kernel
theorem dX6_allSoot_15 : decode cX6_allSoot 15 = .ok (.iconst 4, 1) := by decide +kernel
theorem dX6_allSoot_16 : decode cX6_allSoot 16 = .ok (.iload_n 2, 1) := by decide +kernel
theorem dX6_allSoot_17 : decode cX6_allSoot 17 = .ok (.iadd, 1) := by decide +kernel
theorem dX6_allSoot_18 : decode cX6_allSoot 18 = .ok (.iaload, 1) := by decide +kernel
theorem dX6_allSoot_19 : decode cX6_allSoot 19 = .ok (.iadd, 1) := by decide +kernel
theorem dX6_allSoot_20 : decode cX6_allSoot 20 = .ok (.istore_n 1, 1) := by decide +kernel
theorem dX6_allSoot_21 : decode cX6_allSoot 21 = .ok (.iinc 2 1, 3) := by decide +kernel
theorem dX6_allSoot_24 : decode cX6_allSoot 24 = .ok (.goto (-20), 3) := by decide +kernel
theorem dX6_allSoot_27 : decode cX6_allSoot 27 = .ok (.iload_n 1, 1) := by decide +kernel
theorem dX6_allSoot_28 : decode cX6_allSoot 28 = .ok (.ireturn, 1) := by decide +kernel
set_option maxRecDepth 20000 in
theorem ggX6_cleaned_X6_ro : GoodIn wsX6_cleaned wsX6_ro := goodIn_r _ [6, 7, 8, 9, 10, 11, 12, 13, 14, 15, 16, 17] (by decide +kernel) (by decide +kernel)
set_option maxRecDepth 20000 in
theorem gX6_cleaned_X6_ro : GoodIn wsX6_cleaned (wsV RX6 42 RX6 yX6_ro wsX6_ro) := goodIn_app (goodIn_of _ (by decide +kernel)) ggX6_cleaned_X6_ro
theorem dX6_cleaned_0 : decode cX6_cleaned 0 = .ok (.iconst 0, 1) := by decide +kernel
theorem dX6_cleaned_1 : decode cX6_cleaned 1 = .ok (.istore_n 1, 1) := by decide +kernel
theorem dX6_cleaned_2 : decode cX6_cleaned 2 = .ok (.iconst 0, 1) := by decide +kernel
theorem dX6_cleaned_3 : decode cX6_cleaned 3 = .ok (.istore_n 2, 1) := by decide +kernel
theorem dX6_cleaned_4 : decode cX6_cleaned 4 = .ok (.iload_n 2, 1) := by decide +kernel
theorem dX6_cleaned_5 : decode cX6_cleaned 5 = .ok (.aload_n 0, 1) := by decide +kernel
theorem dX6_cleaned_6 : decode cX6_cleaned 6 = .ok (.getfield 39, 3) := by decide +kernel
theorem dX6_cleaned_9 : decode cX6_cleaned 9 = .ok (.if_icmp .ge 18, 3) := by decide +kernel
theorem dX6_cleaned_12 : decode cX6_cleaned 12 = .ok (.iload_n 1, 1) := by decide +kernel
theorem dX6_cleaned_13 : decode cX6_cleaned 13 = .ok (.aload_n 0, 1) := by decide +kernel
theorem dX6_cleaned_14 : decode cX6_cleaned 14 = .ok (.iload_n 2, 1) := by decide +kernel
theorem dX6_cleaned_15 : decode cX6_cleaned 15 = .ok (.iconst 3, 1) := by decide +kernel
theorem dX6_cleaned_16 : decode cX6_cleaned 16 = .ok (.invokevirtual 42, 3) := by decide +kernel
theorem dX6_cleaned_19 : decode cX6_cleaned 19 = .ok (.iadd, 1) := by decide +kernel
theorem dX6_cleaned_20 : decode cX6_cleaned 20 = .ok (.istore_n 1, 1) := by decide +kernel
theorem dX6_cleaned_21 : decode cX6_cleaned 21 = .ok (.iinc 2 1, 3) := by decide +kernel
theorem dX6_cleaned_24 : decode cX6_cleaned 24 = .ok (.goto (-20), 3) := by decide +kernel
theorem dX6_cleaned_27 : decode cX6_cleaned 27 = .ok (.iload_n 1, 1) := by decide +kernel
theorem dX6_cleaned_28 : decode cX6_cleaned 28 = .ok (.ireturn, 1) := by decide +kernel
set_option maxRecDepth 20000 in
theorem ggX6_counted_X6_allSoot : GoodIn wsX6_counted wsX6_allSoot := goodIn_r _ [9, 1, 46, 47, 48, 49, 50, 51, 52, 53, 54, 55] (by decide +kernel) (by decide +kernel)
set_option maxRecDepth 20000 in
theorem gX6_counted_X6_allSoot : GoodIn wsX6_counted (wsV RX6 130 RX6 yX6_allSoot wsX6_allSoot) := goodIn_app (goodIn_of _ (by decide +kernel)) ggX6_counted_X6_allSoot
set_option maxRecDepth 20000 in
theorem ggX6_counted_X6_cleaned : GoodIn wsX6_counted wsX6_cleaned := goodIn_r _ [13, 3, 14, 15, 16, 8, 17, 1, 46, 47, 48, 49, 50, 51, 52, 53, 54, 55] (by decide +kernel) (by decide +kernel)
set_option maxRecDepth 20000 in
theorem gX6_counted_X6_cleaned : GoodIn wsX6_counted (wsV RX6 133 RX6 yX6_cleaned wsX6_cleaned) := goodIn_app (goodIn_of _ (by decide +kernel)) ggX6_counted_X6_cleaned
set_option maxRecDepth 20000 in
theorem ggX6_counted_X6_allBring : GoodIn wsX6_counted wsX6_allBring := goodIn_r _ [21, 2, 22, 23, 24, 8, 25, 26, 27, 28, 29, 30, 31, 32, 33, 34, 35, 36, 37, 38, 39, 40, 41, 42, 1, 43, 44, 45, 46, 47, 48, 49, 50, 51, 52, 53, 54, 55] (by decide +kernel) (by decide +kernel)
set_option maxRecDepth 20000 in
theorem gX6_counted_X6_allBring : GoodIn wsX6_counted (wsV RX6 111 RX6 yX6_allBring wsX6_allBring) := goodIn_app (goodIn_of _ (by decide +kernel)) ggX6_counted_X6_allBring
theorem dX6_counted_0 : decode cX6_counted 0 = .ok (.iconst 0, 1) := by decide +kernel
theorem dX6_counted_1 : decode cX6_counted 1 = .ok (.istore_n 2, 1) := by decide +kernel
theorem dX6_counted_2 : decode cX6_counted 2 = .ok (.iload_n 1, 1) := by decide +kernel
theorem dX6_counted_3 : decode cX6_counted 3 = .ok (.tableswitch 141 0 9 #[53, 60, 65, 70, 75, 82, 87, 122, 127, 134], 53) := by decide +kernel
theorem dX6_counted_56 : decode cX6_counted 56 = .ok (.aload_n 0, 1) := by decide +kernel
theorem dX6_counted_57 : decode cX6_counted 57 = .ok (.getfield 22, 3) := by decide +kernel
theorem dX6_counted_60 : decode cX6_counted 60 = .ok (.iconst 0, 1) := by decide +kernel
theorem dX6_counted_61 : decode cX6_counted 61 = .ok (.iaload, 1) := by decide +kernel
theorem dX6_counted_62 : decode cX6_counted 62 = .ok (.ireturn, 1) := by decide +kernel
theorem dX6_counted_63 : decode cX6_counted 63 = .ok (.aload_n 0, 1) := by decide +kernel
theorem dX6_counted_64 : decode cX6_counted 64 = .ok (.getfield 32, 3) := by decide +kernel
theorem dX6_counted_67 : decode cX6_counted 67 = .ok (.ireturn, 1) := by decide +kernel
theorem dX6_counted_68 : decode cX6_counted 68 = .ok (.aload_n 0, 1) := by decide +kernel
theorem dX6_counted_69 : decode cX6_counted 69 = .ok (.getfield 39, 3) := by decide +kernel
theorem dX6_counted_72 : decode cX6_counted 72 = .ok (.ireturn, 1) := by decide +kernel
theorem dX6_counted_73 : decode cX6_counted 73 = .ok (.aload_n 0, 1) := by decide +kernel
theorem dX6_counted_74 : decode cX6_counted 74 = .ok (.getfield 46, 3) := by decide +kernel
theorem dX6_counted_77 : decode cX6_counted 77 = .ok (.ireturn, 1) := by decide +kernel
theorem dX6_counted_78 : decode cX6_counted 78 = .ok (.aload_n 0, 1) := by decide +kernel
theorem dX6_counted_79 : decode cX6_counted 79 = .ok (.getfield 22, 3) := by decide +kernel
theorem dX6_counted_82 : decode cX6_counted 82 = .ok (.iconst 1, 1) := by decide +kernel
theorem dX6_counted_83 : decode cX6_counted 83 = .ok (.iaload, 1) := by decide +kernel
theorem dX6_counted_84 : decode cX6_counted 84 = .ok (.ireturn, 1) := by decide +kernel
theorem dX6_counted_85 : decode cX6_counted 85 = .ok (.aload_n 0, 1) := by decide +kernel
theorem dX6_counted_86 : decode cX6_counted 86 = .ok (.invokevirtual 130, 3) := by decide +kernel
theorem dX6_counted_89 : decode cX6_counted 89 = .ok (.ireturn, 1) := by decide +kernel
theorem dX6_counted_90 : decode cX6_counted 90 = .ok (.iconst 0, 1) := by decide +kernel
theorem dX6_counted_91 : decode cX6_counted 91 = .ok (.istore_n 3, 1) := by decide +kernel
theorem dX6_counted_92 : decode cX6_counted 92 = .ok (.iload_n 3, 1) := by decide +kernel
theorem dX6_counted_93 : decode cX6_counted 93 = .ok (.bipush 96, 2) := by decide +kernel
theorem dX6_counted_95 : decode cX6_counted 95 = .ok (.if_icmp .ge 28, 3) := by decide +kernel
theorem dX6_counted_98 : decode cX6_counted 98 = .ok (.iload_n 2, 1) := by decide +kernel
theorem dX6_counted_99 : decode cX6_counted 99 = .ok (.aload_n 0, 1) := by decide +kernel
theorem dX6_counted_100 : decode cX6_counted 100 = .ok (.getfield 22, 3) := by decide +kernel
theorem dX6_counted_103 : decode cX6_counted 103 = .ok (.iconst 4, 1) := by decide +kernel
theorem dX6_counted_104 : decode cX6_counted 104 = .ok (.iload_n 3, 1) := by decide +kernel
theorem dX6_counted_105 : decode cX6_counted 105 = .ok (.iadd, 1) := by decide +kernel
theorem dX6_counted_106 : decode cX6_counted 106 = .ok (.iaload, 1) := by decide +kernel
theorem dX6_counted_107 : decode cX6_counted 107 = .ok (.ifCond .ne 7, 3) := by decide +kernel
theorem dX6_counted_110 : decode cX6_counted 110 = .ok (.iconst 1, 1) := by decide +kernel
theorem dX6_counted_111 : decode cX6_counted 111 = .ok (.goto 4, 3) := by decide +kernel
theorem dX6_counted_114 : decode cX6_counted 114 = .ok (.iconst 0, 1) := by decide +kernel
theorem dX6_counted_115 : decode cX6_counted 115 = .ok (.iadd, 1) := by decide +kernel
theorem dX6_counted_116 : decode cX6_counted 116 = .ok (.istore_n 2, 1) := by decide +kernel
theorem dX6_counted_117 : decode cX6_counted 117 = .ok (.iinc 3 1, 3) := by decide +kernel
theorem dX6_counted_120 : decode cX6_counted 120 = .ok (.goto (-28), 3) := by decide +kernel
theorem dX6_counted_123 : decode cX6_counted 123 = .ok (.iload_n 2, 1) := by decide +kernel
theorem dX6_counted_124 : decode cX6_counted 124 = .ok (.ireturn, 1) := by decide +kernel
theorem dX6_counted_125 : decode cX6_counted 125 = .ok (.aload_n 0, 1) := by decide +kernel
theorem dX6_counted_126 : decode cX6_counted 126 = .ok (.invokevirtual 133, 3) := by decide +kernel
theorem dX6_counted_129 : decode cX6_counted 129 = .ok (.ireturn, 1) := by decide +kernel
theorem dX6_counted_130 : decode cX6_counted 130 = .ok (.aload_n 0, 1) := by decide +kernel
theorem dX6_counted_131 : decode cX6_counted 131 = .ok (.getfield 22, 3) := by decide +kernel
theorem dX6_counted_134 : decode cX6_counted 134 = .ok (.iconst 2, 1) := by decide +kernel
theorem dX6_counted_135 : decode cX6_counted 135 = .ok (.iaload, 1) := by decide +kernel
theorem dX6_counted_136 : decode cX6_counted 136 = .ok (.ireturn, 1) := by decide +kernel
theorem dX6_counted_137 : decode cX6_counted 137 = .ok (.aload_n 0, 1) := by decide +kernel
theorem dX6_counted_138 : decode cX6_counted 138 = .ok (.getfield 22, 3) := by decide +kernel
theorem dX6_counted_141 : decode cX6_counted 141 = .ok (.iconst 3, 1) := by decide +kernel
theorem dX6_counted_142 : decode cX6_counted 142 = .ok (.iaload, 1) := by decide +kernel
theorem dX6_counted_143 : decode cX6_counted 143 = .ok (.ireturn, 1) := by decide +kernel
theorem dX6_counted_144 : decode cX6_counted 144 = .ok (.aload_n 0, 1) := by decide +kernel
theorem dX6_counted_145 : decode cX6_counted 145 = .ok (.invokevirtual 111, 3) := by decide +kernel
theorem dX6_counted_148 : decode cX6_counted 148 = .ok (.ireturn, 1) := by decide +kernel
set_option maxRecDepth 20000 in
theorem ggX6_count_X6_isIn : GoodIn wsX6_count wsX6_isIn := goodIn_r _ [5] (by decide +kernel) (by decide +kernel)
set_option maxRecDepth 20000 in
theorem gX6_count_X6_isIn : GoodIn wsX6_count (va_wsS RX6 35 yX6_isIn wsX6_isIn) := goodIn_app (goodIn_of _ (by decide +kernel)) ggX6_count_X6_isIn
set_option maxRecDepth 20000 in
theorem ggX6_count_X6_counted : GoodIn wsX6_count wsX6_counted := goodIn_r _ [9, 10, 11, 12, 13, 14, 15, 16, 4, 17, 18, 19, 20, 21, 22, 23, 24, 25, 26, 27, 28, 29, 30, 31, 32, 33, 34, 35, 36, 37, 38, 39, 40, 41, 42, 43, 44, 45, 46, 47, 48, 49, 50, 51, 52, 53, 58, 59, 60, 61, 62, 63, 64, 65, 66, 67] (by decide +kernel) (by decide +kernel)
set_option maxRecDepth 20000 in
theorem gX6_count_X6_counted : GoodIn wsX6_count (wsV RX6 136 RX6 yX6_counted wsX6_counted) := goodIn_app (goodIn_of _ (by decide +kernel)) ggX6_count_X6_counted
set_option maxRecDepth 20000 in
theorem ggX6_count_X6_fail : GoodIn wsX6_count wsX6_fail := goodIn_r _ [57, 1, 58, 59, 60, 61, 62, 63, 64, 65, 66, 67] (by decide +kernel) (by decide +kernel)
set_option maxRecDepth 20000 in
theorem gX6_count_X6_fail : GoodIn wsX6_count (wsV RX6 55 RX6 yX6_fail wsX6_fail) := goodIn_app (goodIn_of _ (by decide +kernel)) ggX6_count_X6_fail
theorem dX6_count_0 : decode cX6_count 0 = .ok (.aload_n 0, 1) := by decide +kernel
theorem dX6_count_1 : decode cX6_count 1 = .ok (.iconst 0, 1) := by decide +kernel
theorem dX6_count_2 : decode cX6_count 2 = .ok (.putfield 28, 3) := by decide +kernel
theorem dX6_count_5 : decode cX6_count 5 = .ok (.iload_n 1, 1) := by decide +kernel
theorem dX6_count_6 : decode cX6_count 6 = .ok (.iconst 0, 1) := by decide +kernel
theorem dX6_count_7 : decode cX6_count 7 = .ok (.bipush 10, 2) := by decide +kernel
theorem dX6_count_9 : decode cX6_count 9 = .ok (.invokestatic 35, 3) := by decide +kernel
theorem dX6_count_12 : decode cX6_count 12 = .ok (.ifCond .eq 11, 3) := by decide +kernel
theorem dX6_count_15 : decode cX6_count 15 = .ok (.aload_n 0, 1) := by decide +kernel
theorem dX6_count_16 : decode cX6_count 16 = .ok (.iload_n 1, 1) := by decide +kernel
theorem dX6_count_17 : decode cX6_count 17 = .ok (.invokevirtual 136, 3) := by decide +kernel
theorem dX6_count_20 : decode cX6_count 20 = .ok (.goto 8, 3) := by decide +kernel
theorem dX6_count_23 : decode cX6_count 23 = .ok (.aload_n 0, 1) := by decide +kernel
theorem dX6_count_24 : decode cX6_count 24 = .ok (.iconst 1, 1) := by decide +kernel
theorem dX6_count_25 : decode cX6_count 25 = .ok (.invokevirtual 55, 3) := by decide +kernel
theorem dX6_count_28 : decode cX6_count 28 = .ok (.ireturn, 1) := by decide +kernel
set_option maxRecDepth 20000 in
theorem ggX6_isFeast_X6_isIn : GoodIn wsX6_isFeast wsX6_isIn := goodIn_r _ [6] (by decide +kernel) (by decide +kernel)
set_option maxRecDepth 20000 in
theorem gX6_isFeast_X6_isIn : GoodIn wsX6_isFeast (va_wsS RX6 35 yX6_isIn wsX6_isIn) := goodIn_app (goodIn_of _ (by decide +kernel)) ggX6_isFeast_X6_isIn
set_option maxRecDepth 20000 in
theorem ggX6_isFeast_X6_isFeastOn : GoodIn wsX6_isFeast wsX6_isFeastOn := goodIn_r _ [10, 11, 12, 13, 14, 15, 16, 17, 18, 19, 20, 21, 22, 23] (by decide +kernel) (by decide +kernel)
set_option maxRecDepth 20000 in
theorem gX6_isFeast_X6_isFeastOn : GoodIn wsX6_isFeast (wsV RX6 108 RX6 yX6_isFeastOn wsX6_isFeastOn) := goodIn_app (goodIn_of _ (by decide +kernel)) ggX6_isFeast_X6_isFeastOn
theorem dX6_isFeast_0 : decode cX6_isFeast 0 = .ok (.aload_n 0, 1) := by decide +kernel
theorem dX6_isFeast_1 : decode cX6_isFeast 1 = .ok (.iload_n 1, 1) := by decide +kernel
theorem dX6_isFeast_2 : decode cX6_isFeast 2 = .ok (.iconst 0, 1) := by decide +kernel
theorem dX6_isFeast_3 : decode cX6_isFeast 3 = .ok (.bipush 60, 2) := by decide +kernel
theorem dX6_isFeast_5 : decode cX6_isFeast 5 = .ok (.invokestatic 35, 3) := by decide +kernel
theorem dX6_isFeast_8 : decode cX6_isFeast 8 = .ok (.ifCond .eq 7, 3) := by decide +kernel
theorem dX6_isFeast_11 : decode cX6_isFeast 11 = .ok (.iconst 0, 1) := by decide +kernel
theorem dX6_isFeast_12 : decode cX6_isFeast 12 = .ok (.goto 4, 3) := by decide +kernel
theorem dX6_isFeast_15 : decode cX6_isFeast 15 = .ok (.iconst 1, 1) := by decide +kernel
theorem dX6_isFeast_16 : decode cX6_isFeast 16 = .ok (.putfield 28, 3) := by decide +kernel
theorem dX6_isFeast_19 : decode cX6_isFeast 19 = .ok (.aload_n 0, 1) := by decide +kernel
theorem dX6_isFeast_20 : decode cX6_isFeast 20 = .ok (.getfield 28, 3) := by decide +kernel
theorem dX6_isFeast_23 : decode cX6_isFeast 23 = .ok (.ifCond .ne 22, 3) := by decide +kernel
theorem dX6_isFeast_26 : decode cX6_isFeast 26 = .ok (.aload_n 0, 1) := by decide +kernel
theorem dX6_isFeast_27 : decode cX6_isFeast 27 = .ok (.aload_n 0, 1) := by decide +kernel
theorem dX6_isFeast_28 : decode cX6_isFeast 28 = .ok (.getfield 22, 3) := by decide +kernel
theorem dX6_isFeast_31 : decode cX6_isFeast 31 = .ok (.iconst 0, 1) := by decide +kernel
theorem dX6_isFeast_32 : decode cX6_isFeast 32 = .ok (.iaload, 1) := by decide +kernel
theorem dX6_isFeast_33 : decode cX6_isFeast 33 = .ok (.iload_n 1, 1) := by decide +kernel
theorem dX6_isFeast_34 : decode cX6_isFeast 34 = .ok (.iadd, 1) := by decide +kernel
theorem dX6_isFeast_35 : decode cX6_isFeast 35 = .ok (.invokevirtual 108, 3) := by decide +kernel
theorem dX6_isFeast_38 : decode cX6_isFeast 38 = .ok (.ifCond .eq 7, 3) := by decide +kernel
theorem dX6_isFeast_41 : decode cX6_isFeast 41 = .ok (.iconst 1, 1) := by decide +kernel
theorem dX6_isFeast_42 : decode cX6_isFeast 42 = .ok (.goto 4, 3) := by decide +kernel
theorem dX6_isFeast_45 : decode cX6_isFeast 45 = .ok (.iconst 0, 1) := by decide +kernel
theorem dX6_isFeast_46 : decode cX6_isFeast 46 = .ok (.ireturn, 1) := by decide +kernel
set_option maxRecDepth 20000 in
theorem ggX6_nextFeast_X6_isFeastOn : GoodIn wsX6_nextFeast wsX6_isFeastOn := goodIn_r _ [6, 7, 8, 9, 10, 11, 12, 13, 14, 15, 16, 17, 18, 19] (by decide +kernel) (by decide +kernel)
set_option maxRecDepth 20000 in
theorem gX6_nextFeast_X6_isFeastOn : GoodIn wsX6_nextFeast (wsV RX6 108 RX6 yX6_isFeastOn wsX6_isFeastOn) := goodIn_app (goodIn_of _ (by decide +kernel)) ggX6_nextFeast_X6_isFeastOn
theorem dX6_nextFeast_0 : decode cX6_nextFeast 0 = .ok (.iconst 0, 1) := by decide +kernel
theorem dX6_nextFeast_1 : decode cX6_nextFeast 1 = .ok (.istore_n 1, 1) := by decide +kernel
theorem dX6_nextFeast_2 : decode cX6_nextFeast 2 = .ok (.iload_n 1, 1) := by decide +kernel
theorem dX6_nextFeast_3 : decode cX6_nextFeast 3 = .ok (.bipush 60, 2) := by decide +kernel
theorem dX6_nextFeast_5 : decode cX6_nextFeast 5 = .ok (.if_icmp .gt 26, 3) := by decide +kernel
theorem dX6_nextFeast_8 : decode cX6_nextFeast 8 = .ok (.aload_n 0, 1) := by decide +kernel
theorem dX6_nextFeast_9 : decode cX6_nextFeast 9 = .ok (.aload_n 0, 1) := by decide +kernel
theorem dX6_nextFeast_10 : decode cX6_nextFeast 10 = .ok (.getfield 22, 3) := by decide +kernel
theorem dX6_nextFeast_13 : decode cX6_nextFeast 13 = .ok (.iconst 0, 1) := by decide +kernel
theorem dX6_nextFeast_14 : decode cX6_nextFeast 14 = .ok (.iaload, 1) := by decide +kernel
theorem dX6_nextFeast_15 : decode cX6_nextFeast 15 = .ok (.iload_n 1, 1) := by decide +kernel
theorem dX6_nextFeast_16 : decode cX6_nextFeast 16 = .ok (.iadd, 1) := by decide +kernel
theorem dX6_nextFeast_17 : decode cX6_nextFeast 17 = .ok (.invokevirtual 108, 3) := by decide +kernel
theorem dX6_nextFeast_20 : decode cX6_nextFeast 20 = .ok (.ifCond .eq 5, 3) := by decide +kernel
theorem dX6_nextFeast_23 : decode cX6_nextFeast 23 = .ok (.iload_n 1, 1) := by decide +kernel
theorem dX6_nextFeast_24 : decode cX6_nextFeast 24 = .ok (.ireturn, 1) := by decide +kernel
theorem dX6_nextFeast_25 : decode cX6_nextFeast 25 = .ok (.iinc 1 1, 3) := by decide +kernel
theorem dX6_nextFeast_28 : decode cX6_nextFeast 28 = .ok (.goto (-26), 3) := by decide +kernel
theorem dX6_nextFeast_31 : decode cX6_nextFeast 31 = .ok (.iconst (-1), 1) := by decide +kernel
theorem dX6_nextFeast_32 : decode cX6_nextFeast 32 = .ok (.ireturn, 1) := by decide +kernel
set_option maxRecDepth 20000 in
theorem ggX6_next_X6_nextFeast : GoodIn wsX6_next wsX6_nextFeast := goodIn_r _ [6, 7, 8, 9, 10, 5, 11, 12, 13, 14, 15, 16, 17, 18, 19, 20, 21, 22, 23, 24] (by decide +kernel) (by decide +kernel)
set_option maxRecDepth 20000 in
theorem gX6_next_X6_nextFeast : GoodIn wsX6_next (wsV RX6 139 RX6 yX6_nextFeast wsX6_nextFeast) := goodIn_app (goodIn_of _ (by decide +kernel)) ggX6_next_X6_nextFeast
theorem dX6_next_0 : decode cX6_next 0 = .ok (.aload_n 0, 1) := by decide +kernel
theorem dX6_next_1 : decode cX6_next 1 = .ok (.iconst 0, 1) := by decide +kernel
theorem dX6_next_2 : decode cX6_next 2 = .ok (.putfield 28, 3) := by decide +kernel
theorem dX6_next_5 : decode cX6_next 5 = .ok (.aload_n 0, 1) := by decide +kernel
theorem dX6_next_6 : decode cX6_next 6 = .ok (.invokevirtual 139, 3) := by decide +kernel
theorem dX6_next_9 : decode cX6_next 9 = .ok (.ireturn, 1) := by decide +kernel
set_option maxRecDepth 20000 in
theorem ggX6_would_X6_isIn : GoodIn wsX6_would wsX6_isIn := goodIn_r _ [6] (by decide +kernel) (by decide +kernel)
set_option maxRecDepth 20000 in
theorem gX6_would_X6_isIn : GoodIn wsX6_would (va_wsS RX6 35 yX6_isIn wsX6_isIn) := goodIn_app (goodIn_of _ (by decide +kernel)) ggX6_would_X6_isIn
set_option maxRecDepth 20000 in
theorem ggX6_would_X6_fail : GoodIn wsX6_would wsX6_fail := goodIn_r _ [10, 1, 109, 110, 111, 112, 113, 114, 115, 116, 117, 118] (by decide +kernel) (by decide +kernel)
set_option maxRecDepth 20000 in
theorem gX6_would_X6_fail : GoodIn wsX6_would (wsV RX6 55 RX6 yX6_fail wsX6_fail) := goodIn_app (goodIn_of _ (by decide +kernel)) ggX6_would_X6_fail
set_option maxRecDepth 20000 in
theorem ggX6_would_X6_keep : GoodIn wsX6_would wsX6_keep := goodIn_r _ [14, 2, 15, 16, 17, 18, 19, 109, 110, 111, 112, 113, 114, 115, 116, 117, 118] (by decide +kernel) (by decide +kernel)
set_option maxRecDepth 20000 in
theorem gX6_would_X6_keep : GoodIn wsX6_would (wsV RX6 142 RX6 yX6_keep wsX6_keep) := goodIn_app (goodIn_of _ (by decide +kernel)) ggX6_would_X6_keep
set_option maxRecDepth 20000 in
theorem ggX6_would_X6_daysOn : GoodIn wsX6_would wsX6_daysOn := goodIn_r _ [23, 24, 25, 26, 5, 27, 2, 28, 29, 30, 31, 32, 33, 34, 35, 36, 37, 38, 39, 40, 41, 42, 43, 44, 45, 46, 47, 48, 49, 50, 51, 52, 53, 54, 55, 56, 57, 58, 59, 60, 61, 62, 63, 64, 65, 66, 67, 68, 69, 70, 71, 72, 73, 74, 75, 76, 77, 78, 79, 80, 81, 82, 83, 84, 85, 86, 87, 88, 89, 90, 91, 92, 93, 94, 95, 96, 109, 110, 111, 112, 113, 114, 115, 116, 117, 118] (by decide +kernel) (by decide +kernel)
set_option maxRecDepth 20000 in
theorem gX6_would_X6_daysOn : GoodIn wsX6_would (wsV RX6 121 RX6 yX6_daysOn wsX6_daysOn) := goodIn_app (goodIn_of _ (by decide +kernel)) ggX6_would_X6_daysOn
set_option maxRecDepth 20000 in
theorem ggX6_would_X6_allSoot : GoodIn wsX6_would wsX6_allSoot := goodIn_r _ [100, 2, 109, 110, 111, 112, 113, 114, 115, 116, 117, 118] (by decide +kernel) (by decide +kernel)
set_option maxRecDepth 20000 in
theorem gX6_would_X6_allSoot : GoodIn wsX6_would (wsV RX6 130 RX6 yX6_allSoot wsX6_allSoot) := goodIn_app (goodIn_of _ (by decide +kernel)) ggX6_would_X6_allSoot
set_option maxRecDepth 20000 in
theorem ggX6_would_X6_cleaned : GoodIn wsX6_would wsX6_cleaned := goodIn_r _ [104, 32, 77, 78, 79, 5, 80, 2, 109, 110, 111, 112, 113, 114, 115, 116, 117, 118] (by decide +kernel) (by decide +kernel)
set_option maxRecDepth 20000 in
theorem gX6_would_X6_cleaned : GoodIn wsX6_would (wsV RX6 133 RX6 yX6_cleaned wsX6_cleaned) := goodIn_app (goodIn_of _ (by decide +kernel)) ggX6_would_X6_cleaned
set_option maxRecDepth 20000 in
theorem ggX6_would_X6_bringBack : GoodIn wsX6_would wsX6_bringBack := goodIn_r _ [108, 15, 2, 16, 17, 18, 19, 109, 110, 111, 112, 113, 114, 115, 116, 117, 118] (by decide +kernel) (by decide +kernel)
set_option maxRecDepth 20000 in
theorem gX6_would_X6_bringBack : GoodIn wsX6_would (wsV RX6 145 RX6 yX6_bringBack wsX6_bringBack) := goodIn_app (goodIn_of _ (by decide +kernel)) ggX6_would_X6_bringBack
theorem dX6_would_0 : decode cX6_would 0 = .ok (.aload_n 0, 1) := by decide +kernel
theorem dX6_would_1 : decode cX6_would 1 = .ok (.iconst 0, 1) := by decide +kernel
theorem dX6_would_2 : decode cX6_would 2 = .ok (.putfield 28, 3) := by decide +kernel
theorem dX6_would_5 : decode cX6_would 5 = .ok (.iload_n 1, 1) := by decide +kernel
theorem dX6_would_6 : decode cX6_would 6 = .ok (.iconst 1, 1) := by decide +kernel
