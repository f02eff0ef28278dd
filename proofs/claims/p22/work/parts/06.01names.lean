set_option maxRecDepth 20000 in
theorem ggX0_init_X2_init : GoodIn wsX0_init wsX2_init := goodIn_r _ [17, 18, 2, 3, 19, 20, 32] (by decide +kernel) (by decide +kernel)
set_option maxRecDepth 20000 in
theorem gX0_init_X2_init_n9 : GoodIn wsX0_init (wsX2_init) := ggX0_init_X2_init
set_option maxRecDepth 20000 in
theorem ggX0_init_X3_init : GoodIn wsX0_init wsX3_init := goodIn_r _ [22, 23, 2, 3, 24, 19, 25, 26, 27, 28, 29, 30, 31, 39, 40, 41, 42, 43, 44, 45] (by decide +kernel) (by decide +kernel)
set_option maxRecDepth 20000 in
theorem gX0_init_X3_init_n18 : GoodIn wsX0_init (wsX3_init) := ggX0_init_X3_init
theorem dX0_init_0 : decode cX0_init 0 = .ok (.aload_n 0, 1) := by decide +kernel
theorem dX0_init_1 : decode cX0_init 1 = .ok (.invokespecial 1, 3) := by decide +kernel
theorem dX0_init_4 : decode cX0_init 4 = .ok (.aload_n 0, 1) := by decide +kernel
theorem dX0_init_5 : decode cX0_init 5 = .ok (.new 7, 3) := by decide +kernel
theorem dX0_init_8 : decode cX0_init 8 = .ok (.dup, 1) := by decide +kernel
theorem dX0_init_9 : decode cX0_init 9 = .ok (.invokespecial 9, 3) := by decide +kernel
theorem dX0_init_12 : decode cX0_init 12 = .ok (.putfield 10, 3) := by decide +kernel
theorem dX0_init_15 : decode cX0_init 15 = .ok (.aload_n 0, 1) := by decide +kernel
theorem dX0_init_16 : decode cX0_init 16 = .ok (.new 16, 3) := by decide +kernel
theorem dX0_init_19 : decode cX0_init 19 = .ok (.dup, 1) := by decide +kernel
theorem dX0_init_20 : decode cX0_init 20 = .ok (.invokespecial 18, 3) := by decide +kernel
theorem dX0_init_23 : decode cX0_init 23 = .ok (.putfield 19, 3) := by decide +kernel
theorem dX0_init_26 : decode cX0_init 26 = .ok (.aload_n 0, 1) := by decide +kernel
theorem dX0_init_27 : decode cX0_init 27 = .ok (.iconst 0, 1) := by decide +kernel
theorem dX0_init_28 : decode cX0_init 28 = .ok (.putfield 23, 3) := by decide +kernel
theorem dX0_init_31 : decode cX0_init 31 = .ok (.aload_n 0, 1) := by decide +kernel
theorem dX0_init_32 : decode cX0_init 32 = .ok (.iconst 0, 1) := by decide +kernel
theorem dX0_init_33 : decode cX0_init 33 = .ok (.putfield 27, 3) := by decide +kernel
theorem dX0_init_36 : decode cX0_init 36 = .ok (.aload_n 0, 1) := by decide +kernel
theorem dX0_init_37 : decode cX0_init 37 = .ok (.iconst 0, 1) := by decide +kernel
theorem dX0_init_38 : decode cX0_init 38 = .ok (.putfield 30, 3) := by decide +kernel
theorem dX0_init_41 : decode cX0_init 41 = .ok (.aload_n 0, 1) := by decide +kernel
theorem dX0_init_42 : decode cX0_init 42 = .ok (.iconst 0, 1) := by decide +kernel
theorem dX0_init_43 : decode cX0_init 43 = .ok (.putfield 33, 3) := by decide +kernel
theorem dX0_init_46 : decode cX0_init 46 = .ok (.return_, 1) := by decide +kernel
set_option maxRecDepth 20000 in
theorem ggX0_goOn_X0_goOneDay : GoodIn wsX0_goOn wsX0_goOneDay := goodIn_r _ [5, 6, 7, 8, 9, 10, 11, 12, 13, 14, 15, 16, 17, 18, 19, 20, 21, 22, 23, 24, 25, 26, 27, 28, 29, 30, 31, 32, 33, 34, 35, 36, 37, 38, 39, 40, 41, 42, 43, 44, 45, 46, 47, 48, 49, 50, 51, 52, 53, 54, 55, 56, 57, 58, 59, 60, 61, 62, 63, 64, 65, 66, 67, 68, 69, 70, 71, 72, 73, 74, 75, 76, 77, 78, 79, 80, 81, 82, 83, 84, 85, 86, 87, 88, 89, 90, 91, 92, 93, 94, 95, 96, 97, 98, 99, 100, 101, 102, 103, 104, 105, 106, 107, 108, 109, 110, 111, 112, 113, 114, 115, 116, 117, 118] (by decide +kernel) (by decide +kernel)
set_option maxRecDepth 20000 in
theorem gX0_goOn_X0_goOneDay : GoodIn wsX0_goOn (wsV RX0 43 RX0 yX0_goOneDay wsX0_goOneDay) := goodIn_app (goodIn_of _ (by decide +kernel)) ggX0_goOn_X0_goOneDay
theorem dX0_goOn_0 : decode cX0_goOn 0 = .ok (.iconst 0, 1) := by decide +kernel
theorem dX0_goOn_1 : decode cX0_goOn 1 = .ok (.istore 4, 2) := by decide +kernel
theorem dX0_goOn_3 : decode cX0_goOn 3 = .ok (.iload 4, 2) := by decide +kernel
theorem dX0_goOn_5 : decode cX0_goOn 5 = .ok (.iload_n 1, 1) := by decide +kernel
theorem dX0_goOn_6 : decode cX0_goOn 6 = .ok (.if_icmp .ge 15, 3) := by decide +kernel
theorem dX0_goOn_9 : decode cX0_goOn 9 = .ok (.aload_n 0, 1) := by decide +kernel
theorem dX0_goOn_10 : decode cX0_goOn 10 = .ok (.aload_n 2, 1) := by decide +kernel
theorem dX0_goOn_11 : decode cX0_goOn 11 = .ok (.aload_n 3, 1) := by decide +kernel
theorem dX0_goOn_12 : decode cX0_goOn 12 = .ok (.invokevirtual 43, 3) := by decide +kernel
theorem dX0_goOn_15 : decode cX0_goOn 15 = .ok (.iinc 4 1, 3) := by decide +kernel
theorem dX0_goOn_18 : decode cX0_goOn 18 = .ok (.goto (-15), 3) := by decide +kernel
theorem dX0_goOn_21 : decode cX0_goOn 21 = .ok (.return_, 1) := by decide +kernel
set_option maxRecDepth 20000 in
theorem ggX0_goOneDay_X2_gather : GoodIn wsX0_goOneDay wsX2_gather := goodIn_r _ [11, 12, 13, 14, 15, 16, 17, 18, 10, 19, 20, 21, 22, 97] (by decide +kernel) (by decide +kernel)
set_option maxRecDepth 20000 in
theorem gX0_goOneDay_X2_gather : GoodIn wsX0_goOneDay (wsV RX0 47 RX2 yX2_gather wsX2_gather) := goodIn_app (goodIn_of _ (by decide +kernel)) ggX0_goOneDay_X2_gather
set_option maxRecDepth 20000 in
theorem ggX0_goOneDay_X1_areOn : GoodIn wsX0_goOneDay wsX1_areOn := goodIn_r _ [27, 28, 29, 30, 98, 99, 100] (by decide +kernel) (by decide +kernel)
set_option maxRecDepth 20000 in
theorem gX0_goOneDay_X1_areOn : GoodIn wsX0_goOneDay (wsV RX0 51 RX1 yX1_areOn wsX1_areOn) := goodIn_app (goodIn_of _ (by decide +kernel)) ggX0_goOneDay_X1_areOn
set_option maxRecDepth 20000 in
theorem ggX0_goOneDay_X4_allBring : GoodIn wsX0_goOneDay wsX4_allBring := goodIn_r _ [35, 36, 37, 38, 39, 34, 40, 41, 42, 21, 15, 22, 43, 44, 45, 46, 47, 48, 49, 50, 51, 52, 53, 54, 55, 56, 57, 10, 58, 12, 101, 102, 103, 104, 105, 106, 97] (by decide +kernel) (by decide +kernel)
set_option maxRecDepth 20000 in
theorem gX0_goOneDay_X4_allBring : GoodIn wsX0_goOneDay (wsV RX0 57 RX4 yX4_allBring wsX4_allBring) := goodIn_app (goodIn_of _ (by decide +kernel)) ggX0_goOneDay_X4_allBring
set_option maxRecDepth 20000 in
theorem ggX0_goOneDay_X3_work : GoodIn wsX0_goOneDay wsX3_work := goodIn_r _ [63, 64, 65, 66, 67, 62, 68, 69, 70, 71, 72, 73, 74, 75, 10, 76, 12, 13, 14, 15, 16, 77, 78, 79, 80, 81, 82, 83, 84, 85, 86, 87, 88, 89, 90, 107, 108, 109, 110, 111, 112, 113, 97] (by decide +kernel) (by decide +kernel)
set_option maxRecDepth 20000 in
theorem gX0_goOneDay_X3_work : GoodIn wsX0_goOneDay (wsV RX0 63 RX3 yX3_work wsX3_work) := goodIn_app (goodIn_of _ (by decide +kernel)) ggX0_goOneDay_X3_work
theorem dX0_goOneDay_0 : decode cX0_goOneDay 0 = .ok (.aload_n 0, 1) := by decide +kernel
theorem dX0_goOneDay_1 : decode cX0_goOneDay 1 = .ok (.getfield 10, 3) := by decide +kernel
theorem dX0_goOneDay_4 : decode cX0_goOneDay 4 = .ok (.aload_n 0, 1) := by decide +kernel
theorem dX0_goOneDay_5 : decode cX0_goOneDay 5 = .ok (.getfield 23, 3) := by decide +kernel
theorem dX0_goOneDay_8 : decode cX0_goOneDay 8 = .ok (.invokevirtual 47, 3) := by decide +kernel
theorem dX0_goOneDay_11 : decode cX0_goOneDay 11 = .ok (.aload_n 2, 1) := by decide +kernel
theorem dX0_goOneDay_12 : decode cX0_goOneDay 12 = .ok (.aload_n 0, 1) := by decide +kernel
theorem dX0_goOneDay_13 : decode cX0_goOneDay 13 = .ok (.getfield 27, 3) := by decide +kernel
theorem dX0_goOneDay_16 : decode cX0_goOneDay 16 = .ok (.invokevirtual 51, 3) := by decide +kernel
theorem dX0_goOneDay_19 : decode cX0_goOneDay 19 = .ok (.ifCond .eq 33, 3) := by decide +kernel
theorem dX0_goOneDay_22 : decode cX0_goOneDay 22 = .ok (.aload_n 0, 1) := by decide +kernel
theorem dX0_goOneDay_23 : decode cX0_goOneDay 23 = .ok (.dup, 1) := by decide +kernel
theorem dX0_goOneDay_24 : decode cX0_goOneDay 24 = .ok (.getfield 30, 3) := by decide +kernel
theorem dX0_goOneDay_27 : decode cX0_goOneDay 27 = .ok (.aload_n 1, 1) := by decide +kernel
theorem dX0_goOneDay_28 : decode cX0_goOneDay 28 = .ok (.aload_n 0, 1) := by decide +kernel
theorem dX0_goOneDay_29 : decode cX0_goOneDay 29 = .ok (.getfield 10, 3) := by decide +kernel
theorem dX0_goOneDay_32 : decode cX0_goOneDay 32 = .ok (.invokevirtual 57, 3) := by decide +kernel
theorem dX0_goOneDay_35 : decode cX0_goOneDay 35 = .ok (.iadd, 1) := by decide +kernel
theorem dX0_goOneDay_36 : decode cX0_goOneDay 36 = .ok (.putfield 30, 3) := by decide +kernel
theorem dX0_goOneDay_39 : decode cX0_goOneDay 39 = .ok (.aload_n 0, 1) := by decide +kernel
theorem dX0_goOneDay_40 : decode cX0_goOneDay 40 = .ok (.dup, 1) := by decide +kernel
theorem dX0_goOneDay_41 : decode cX0_goOneDay 41 = .ok (.getfield 33, 3) := by decide +kernel
theorem dX0_goOneDay_44 : decode cX0_goOneDay 44 = .ok (.iconst 1, 1) := by decide +kernel
theorem dX0_goOneDay_45 : decode cX0_goOneDay 45 = .ok (.iadd, 1) := by decide +kernel
theorem dX0_goOneDay_46 : decode cX0_goOneDay 46 = .ok (.putfield 33, 3) := by decide +kernel
theorem dX0_goOneDay_49 : decode cX0_goOneDay 49 = .ok (.goto 14, 3) := by decide +kernel
theorem dX0_goOneDay_52 : decode cX0_goOneDay 52 = .ok (.aload_n 0, 1) := by decide +kernel
theorem dX0_goOneDay_53 : decode cX0_goOneDay 53 = .ok (.getfield 19, 3) := by decide +kernel
theorem dX0_goOneDay_56 : decode cX0_goOneDay 56 = .ok (.aload_n 0, 1) := by decide +kernel
theorem dX0_goOneDay_57 : decode cX0_goOneDay 57 = .ok (.getfield 10, 3) := by decide +kernel
theorem dX0_goOneDay_60 : decode cX0_goOneDay 60 = .ok (.invokevirtual 63, 3) := by decide +kernel
theorem dX0_goOneDay_63 : decode cX0_goOneDay 63 = .ok (.aload_n 0, 1) := by decide +kernel
theorem dX0_goOneDay_64 : decode cX0_goOneDay 64 = .ok (.dup, 1) := by decide +kernel
theorem dX0_goOneDay_65 : decode cX0_goOneDay 65 = .ok (.getfield 27, 3) := by decide +kernel
theorem dX0_goOneDay_68 : decode cX0_goOneDay 68 = .ok (.iconst 1, 1) := by decide +kernel
theorem dX0_goOneDay_69 : decode cX0_goOneDay 69 = .ok (.iadd, 1) := by decide +kernel
theorem dX0_goOneDay_70 : decode cX0_goOneDay 70 = .ok (.putfield 27, 3) := by decide +kernel
theorem dX0_goOneDay_73 : decode cX0_goOneDay 73 = .ok (.return_, 1) := by decide +kernel
theorem dX1_init_0 : decode cX1_init 0 = .ok (.aload_n 0, 1) := by decide +kernel
theorem dX1_init_1 : decode cX1_init 1 = .ok (.invokespecial 3, 3) := by decide +kernel
theorem dX1_init_4 : decode cX1_init 4 = .ok (.aload_n 0, 1) := by decide +kernel
theorem dX1_init_5 : decode cX1_init 5 = .ok (.iconst 0, 1) := by decide +kernel
theorem dX1_init_6 : decode cX1_init 6 = .ok (.putfield 9, 3) := by decide +kernel
theorem dX1_init_9 : decode cX1_init 9 = .ok (.aload_n 0, 1) := by decide +kernel
theorem dX1_init_10 : decode cX1_init 10 = .ok (.iconst 4, 1) := by decide +kernel
theorem dX1_init_11 : decode cX1_init 11 = .ok (.newarray .int, 2) := by decide +kernel
theorem dX1_init_13 : decode cX1_init 13 = .ok (.putfield 15, 3) := by decide +kernel
theorem dX1_init_16 : decode cX1_init 16 = .ok (.aload_n 0, 1) := by decide +kernel
theorem dX1_init_17 : decode cX1_init 17 = .ok (.iconst 4, 1) := by decide +kernel
theorem dX1_init_18 : decode cX1_init 18 = .ok (.newarray .int, 2) := by decide +kernel
theorem dX1_init_20 : decode cX1_init 20 = .ok (.putfield 19, 3) := by decide +kernel
theorem dX1_init_23 : decode cX1_init 23 = .ok (.return_, 1) := by decide +kernel
theorem dX1_put_0 : decode cX1_put 0 = .ok (.aload_n 0, 1) := by decide +kernel
theorem dX1_put_1 : decode cX1_put 1 = .ok (.getfield 15, 3) := by decide +kernel
theorem dX1_put_4 : decode cX1_put 4 = .ok (.aload_n 0, 1) := by decide +kernel
theorem dX1_put_5 : decode cX1_put 5 = .ok (.getfield 9, 3) := by decide +kernel
theorem dX1_put_8 : decode cX1_put 8 = .ok (.iload_n 1, 1) := by decide +kernel
theorem dX1_put_9 : decode cX1_put 9 = .ok (.iastore, 1) := by decide +kernel
theorem dX1_put_10 : decode cX1_put 10 = .ok (.aload_n 0, 1) := by decide +kernel
theorem dX1_put_11 : decode cX1_put 11 = .ok (.getfield 19, 3) := by decide +kernel
theorem dX1_put_14 : decode cX1_put 14 = .ok (.aload_n 0, 1) := by decide +kernel
theorem dX1_put_15 : decode cX1_put 15 = .ok (.getfield 9, 3) := by decide +kernel
theorem dX1_put_18 : decode cX1_put 18 = .ok (.iload_n 2, 1) := by decide +kernel
theorem dX1_put_19 : decode cX1_put 19 = .ok (.iastore, 1) := by decide +kernel
theorem dX1_put_20 : decode cX1_put 20 = .ok (.aload_n 0, 1) := by decide +kernel
theorem dX1_put_21 : decode cX1_put 21 = .ok (.dup, 1) := by decide +kernel
theorem dX1_put_22 : decode cX1_put 22 = .ok (.getfield 9, 3) := by decide +kernel
theorem dX1_put_25 : decode cX1_put 25 = .ok (.iconst 1, 1) := by decide +kernel
theorem dX1_put_26 : decode cX1_put 26 = .ok (.iadd, 1) := by decide +kernel
theorem dX1_put_27 : decode cX1_put 27 = .ok (.putfield 9, 3) := by decide +kernel
theorem dX1_put_30 : decode cX1_put 30 = .ok (.aload_n 0, 1) := by decide +kernel
theorem dX1_put_31 : decode cX1_put 31 = .ok (.getfield 9, 3) := by decide +kernel
theorem dX1_put_34 : decode cX1_put 34 = .ok (.iconst 1, 1) := by decide +kernel
theorem dX1_put_35 : decode cX1_put 35 = .ok (.isub, 1) := by decide +kernel
theorem dX1_put_36 : decode cX1_put 36 = .ok (.ireturn, 1) := by decide +kernel
theorem dX1_areOn_0 : decode cX1_areOn 0 = .ok (.iconst 0, 1) := by decide +kernel
theorem dX1_areOn_1 : decode cX1_areOn 1 = .ok (.istore_n 2, 1) := by decide +kernel
theorem dX1_areOn_2 : decode cX1_areOn 2 = .ok (.iload_n 2, 1) := by decide +kernel
theorem dX1_areOn_3 : decode cX1_areOn 3 = .ok (.aload_n 0, 1) := by decide +kernel
theorem dX1_areOn_4 : decode cX1_areOn 4 = .ok (.getfield 9, 3) := by decide +kernel
theorem dX1_areOn_7 : decode cX1_areOn 7 = .ok (.if_icmp .ge 35, 3) := by decide +kernel
theorem dX1_areOn_10 : decode cX1_areOn 10 = .ok (.aload_n 0, 1) := by decide +kernel
theorem dX1_areOn_11 : decode cX1_areOn 11 = .ok (.getfield 15, 3) := by decide +kernel
theorem dX1_areOn_14 : decode cX1_areOn 14 = .ok (.iload_n 2, 1) := by decide +kernel
theorem dX1_areOn_15 : decode cX1_areOn 15 = .ok (.iaload, 1) := by decide +kernel
theorem dX1_areOn_16 : decode cX1_areOn 16 = .ok (.istore_n 3, 1) := by decide +kernel
theorem dX1_areOn_17 : decode cX1_areOn 17 = .ok (.iload_n 3, 1) := by decide +kernel
theorem dX1_areOn_18 : decode cX1_areOn 18 = .ok (.iconst 2, 1) := by decide +kernel
theorem dX1_areOn_19 : decode cX1_areOn 19 = .ok (.if_icmp .lt 17, 3) := by decide +kernel
theorem dX1_areOn_22 : decode cX1_areOn 22 = .ok (.iload_n 1, 1) := by decide +kernel
theorem dX1_areOn_23 : decode cX1_areOn 23 = .ok (.iload_n 3, 1) := by decide +kernel
theorem dX1_areOn_24 : decode cX1_areOn 24 = .ok (.irem, 1) := by decide +kernel
theorem dX1_areOn_25 : decode cX1_areOn 25 = .ok (.aload_n 0, 1) := by decide +kernel
theorem dX1_areOn_26 : decode cX1_areOn 26 = .ok (.getfield 19, 3) := by decide +kernel
theorem dX1_areOn_29 : decode cX1_areOn 29 = .ok (.iload_n 2, 1) := by decide +kernel
theorem dX1_areOn_30 : decode cX1_areOn 30 = .ok (.iaload, 1) := by decide +kernel
theorem dX1_areOn_31 : decode cX1_areOn 31 = .ok (.if_icmp .ne 5, 3) := by decide +kernel
theorem dX1_areOn_34 : decode cX1_areOn 34 = .ok (.iconst 1, 1) := by decide +kernel
theorem dX1_areOn_35 : decode cX1_areOn 35 = .ok (.ireturn, 1) := by decide +kernel
theorem dX1_areOn_36 : decode cX1_areOn 36 = .ok (.iinc 2 1, 3) := by decide +kernel
theorem dX1_areOn_39 : decode cX1_areOn 39 = .ok (.goto (-37), 3) := by decide +kernel
theorem dX1_areOn_42 : decode cX1_areOn 42 = .ok (.iconst 0, 1) := by decide +kernel
theorem dX1_areOn_43 : decode cX1_areOn 43 = .ok (.ireturn, 1) := by decide +kernel
set_option maxRecDepth 20000 in
theorem ggX1_daysUntil_X1_areOn : GoodIn wsX1_daysUntil wsX1_areOn := goodIn_r _ [5, 6, 7, 8, 9, 10, 11] (by decide +kernel) (by decide +kernel)
set_option maxRecDepth 20000 in
theorem gX1_daysUntil_X1_areOn : GoodIn wsX1_daysUntil (wsV RX1 22 RX1 yX1_areOn wsX1_areOn) := goodIn_app (goodIn_of _ (by decide +kernel)) ggX1_daysUntil_X1_areOn
theorem dX1_daysUntil_0 : decode cX1_daysUntil 0 = .ok (.iconst 0, 1) := by decide +kernel
theorem dX1_daysUntil_1 : decode cX1_daysUntil 1 = .ok (.istore_n 2, 1) := by decide +kernel
theorem dX1_daysUntil_2 : decode cX1_daysUntil 2 = .ok (.iload_n 2, 1) := by decide +kernel
theorem dX1_daysUntil_3 : decode cX1_daysUntil 3 = .ok (.bipush 60, 2) := by decide +kernel
theorem dX1_daysUntil_5 : decode cX1_daysUntil 5 = .ok (.if_icmp .gt 21, 3) := by decide +kernel
theorem dX1_daysUntil_8 : decode cX1_daysUntil 8 = .ok (.aload_n 0, 1) := by decide +kernel
theorem dX1_daysUntil_9 : decode cX1_daysUntil 9 = .ok (.iload_n 1, 1) := by decide +kernel
theorem dX1_daysUntil_10 : decode cX1_daysUntil 10 = .ok (.iload_n 2, 1) := by decide +kernel
theorem dX1_daysUntil_11 : decode cX1_daysUntil 11 = .ok (.iadd, 1) := by decide +kernel
theorem dX1_daysUntil_12 : decode cX1_daysUntil 12 = .ok (.invokevirtual 22, 3) := by decide +kernel
theorem dX1_daysUntil_15 : decode cX1_daysUntil 15 = .ok (.ifCond .eq 5, 3) := by decide +kernel
theorem dX1_daysUntil_18 : decode cX1_daysUntil 18 = .ok (.iload_n 2, 1) := by decide +kernel
theorem dX1_daysUntil_19 : decode cX1_daysUntil 19 = .ok (.ireturn, 1) := by decide +kernel
theorem dX1_daysUntil_20 : decode cX1_daysUntil 20 = .ok (.iinc 2 1, 3) := by decide +kernel
theorem dX1_daysUntil_23 : decode cX1_daysUntil 23 = .ok (.goto (-21), 3) := by decide +kernel
theorem dX1_daysUntil_26 : decode cX1_daysUntil 26 = .ok (.iconst (-1), 1) := by decide +kernel
theorem dX1_daysUntil_27 : decode cX1_daysUntil 27 = .ok (.ireturn, 1) := by decide +kernel
theorem dX2_init_0 : decode cX2_init 0 = .ok (.aload_n 0, 1) := by decide +kernel
theorem dX2_init_1 : decode cX2_init 1 = .ok (.invokespecial 3, 3) := by decide +kernel
theorem dX2_init_4 : decode cX2_init 4 = .ok (.aload_n 0, 1) := by decide +kernel
theorem dX2_init_5 : decode cX2_init 5 = .ok (.bipush 96, 2) := by decide +kernel
theorem dX2_init_7 : decode cX2_init 7 = .ok (.newarray .int, 2) := by decide +kernel
theorem dX2_init_9 : decode cX2_init 9 = .ok (.putfield 9, 3) := by decide +kernel
theorem dX2_init_12 : decode cX2_init 12 = .ok (.return_, 1) := by decide +kernel
theorem dX2_at_0 : decode cX2_at 0 = .ok (.aload_n 0, 1) := by decide +kernel
theorem dX2_at_1 : decode cX2_at 1 = .ok (.getfield 9, 3) := by decide +kernel
theorem dX2_at_4 : decode cX2_at 4 = .ok (.iload_n 1, 1) := by decide +kernel
theorem dX2_at_5 : decode cX2_at 5 = .ok (.bipush 8, 2) := by decide +kernel
theorem dX2_at_7 : decode cX2_at 7 = .ok (.imul, 1) := by decide +kernel
theorem dX2_at_8 : decode cX2_at 8 = .ok (.iload_n 2, 1) := by decide +kernel
theorem dX2_at_9 : decode cX2_at 9 = .ok (.iadd, 1) := by decide +kernel
theorem dX2_at_10 : decode cX2_at 10 = .ok (.iaload, 1) := by decide +kernel
theorem dX2_at_11 : decode cX2_at 11 = .ok (.ireturn, 1) := by decide +kernel
set_option maxRecDepth 20000 in
theorem ggX2_gather_X2_broughtTo : GoodIn wsX2_gather wsX2_broughtTo := goodIn_r _ [9, 10, 11, 4, 12] (by decide +kernel) (by decide +kernel)
set_option maxRecDepth 20000 in
theorem gX2_gather_X2_broughtTo : GoodIn wsX2_gather (va_wsS RX2 21 yX2_broughtTo wsX2_broughtTo) := goodIn_app (goodIn_of _ (by decide +kernel)) ggX2_gather_X2_broughtTo
theorem dX2_gather_0 : decode cX2_gather 0 = .ok (.iconst 0, 1) := by decide +kernel
theorem dX2_gather_1 : decode cX2_gather 1 = .ok (.istore_n 2, 1) := by decide +kernel
theorem dX2_gather_2 : decode cX2_gather 2 = .ok (.iload_n 2, 1) := by decide +kernel
theorem dX2_gather_3 : decode cX2_gather 3 = .ok (.bipush 12, 2) := by decide +kernel
theorem dX2_gather_5 : decode cX2_gather 5 = .ok (.if_icmp .ge 63, 3) := by decide +kernel
theorem dX2_gather_8 : decode cX2_gather 8 = .ok (.iconst 1, 1) := by decide +kernel
theorem dX2_gather_9 : decode cX2_gather 9 = .ok (.iload_n 2, 1) := by decide +kernel
theorem dX2_gather_10 : decode cX2_gather 10 = .ok (.iload_n 1, 1) := by decide +kernel
theorem dX2_gather_11 : decode cX2_gather 11 = .ok (.invokestatic 21, 3) := by decide +kernel
theorem dX2_gather_14 : decode cX2_gather 14 = .ok (.iadd, 1) := by decide +kernel
theorem dX2_gather_15 : decode cX2_gather 15 = .ok (.istore_n 3, 1) := by decide +kernel
theorem dX2_gather_16 : decode cX2_gather 16 = .ok (.iconst 0, 1) := by decide +kernel
theorem dX2_gather_17 : decode cX2_gather 17 = .ok (.istore 4, 2) := by decide +kernel
theorem dX2_gather_19 : decode cX2_gather 19 = .ok (.iload 4, 2) := by decide +kernel
theorem dX2_gather_21 : decode cX2_gather 21 = .ok (.bipush 8, 2) := by decide +kernel
theorem dX2_gather_23 : decode cX2_gather 23 = .ok (.if_icmp .ge 39, 3) := by decide +kernel
theorem dX2_gather_26 : decode cX2_gather 26 = .ok (.iload_n 2, 1) := by decide +kernel
theorem dX2_gather_27 : decode cX2_gather 27 = .ok (.bipush 8, 2) := by decide +kernel
theorem dX2_gather_29 : decode cX2_gather 29 = .ok (.imul, 1) := by decide +kernel
theorem dX2_gather_30 : decode cX2_gather 30 = .ok (.iload 4, 2) := by decide +kernel
theorem dX2_gather_32 : decode cX2_gather 32 = .ok (.iadd, 1) := by decide +kernel
theorem dX2_gather_33 : decode cX2_gather 33 = .ok (.istore 5, 2) := by decide +kernel
theorem dX2_gather_35 : decode cX2_gather 35 = .ok (.aload_n 0, 1) := by decide +kernel
theorem dX2_gather_36 : decode cX2_gather 36 = .ok (.getfield 9, 3) := by decide +kernel
theorem dX2_gather_39 : decode cX2_gather 39 = .ok (.iload 5, 2) := by decide +kernel
theorem dX2_gather_41 : decode cX2_gather 41 = .ok (.bipush 20, 2) := by decide +kernel
theorem dX2_gather_43 : decode cX2_gather 43 = .ok (.aload_n 0, 1) := by decide +kernel
theorem dX2_gather_44 : decode cX2_gather 44 = .ok (.getfield 9, 3) := by decide +kernel
theorem dX2_gather_47 : decode cX2_gather 47 = .ok (.iload 5, 2) := by decide +kernel
theorem dX2_gather_49 : decode cX2_gather 49 = .ok (.iaload, 1) := by decide +kernel
theorem dX2_gather_50 : decode cX2_gather 50 = .ok (.iload_n 3, 1) := by decide +kernel
theorem dX2_gather_51 : decode cX2_gather 51 = .ok (.iadd, 1) := by decide +kernel
theorem dX2_gather_52 : decode cX2_gather 52 = .ok (.invokestatic 25, 3) := by decide +kernel
theorem dX2_gather_55 : decode cX2_gather 55 = .ok (.iastore, 1) := by decide +kernel
theorem dX2_gather_56 : decode cX2_gather 56 = .ok (.iinc 4 1, 3) := by decide +kernel
theorem dX2_gather_59 : decode cX2_gather 59 = .ok (.goto (-40), 3) := by decide +kernel
theorem dX2_gather_62 : decode cX2_gather 62 = .ok (.iinc 2 1, 3) := by decide +kernel
theorem dX2_gather_65 : decode cX2_gather 65 = .ok (.goto (-63), 3) := by decide +kernel
theorem dX2_gather_68 : decode cX2_gather 68 = .ok (.return_, 1) := by decide +kernel
theorem dX2_broughtTo_0 : decode cX2_broughtTo 0 = .ok (.iload_n 1, 1) := by decide +kernel
theorem dX2_broughtTo_1 : decode cX2_broughtTo 1 = .ok (.ifCond .lt 11, 3) := by decide +kernel
theorem dX2_broughtTo_4 : decode cX2_broughtTo 4 = .ok (.iload_n 1, 1) := by decide +kernel
theorem dX2_broughtTo_5 : decode cX2_broughtTo 5 = .ok (.iload_n 0, 1) := by decide +kernel
theorem dX2_broughtTo_6 : decode cX2_broughtTo 6 = .ok (.iconst 2, 1) := by decide +kernel
theorem dX2_broughtTo_7 : decode cX2_broughtTo 7 = .ok (.idiv, 1) := by decide +kernel
theorem dX2_broughtTo_8 : decode cX2_broughtTo 8 = .ok (.isub, 1) := by decide +kernel
theorem dX2_broughtTo_9 : decode cX2_broughtTo 9 = .ok (.goto 12, 3) := by decide +kernel
theorem dX2_broughtTo_12 : decode cX2_broughtTo 12 = .ok (.iload_n 1, 1) := by decide +kernel
theorem dX2_broughtTo_13 : decode cX2_broughtTo 13 = .ok (.ineg, 1) := by decide +kernel
theorem dX2_broughtTo_14 : decode cX2_broughtTo 14 = .ok (.bipush 11, 2) := by decide +kernel
theorem dX2_broughtTo_16 : decode cX2_broughtTo 16 = .ok (.iload_n 0, 1) := by decide +kernel
theorem dX2_broughtTo_17 : decode cX2_broughtTo 17 = .ok (.isub, 1) := by decide +kernel
theorem dX2_broughtTo_18 : decode cX2_broughtTo 18 = .ok (.iconst 2, 1) := by decide +kernel
theorem dX2_broughtTo_19 : decode cX2_broughtTo 19 = .ok (.idiv, 1) := by decide +kernel
theorem dX2_broughtTo_20 : decode cX2_broughtTo 20 = .ok (.isub, 1) := by decide +kernel
theorem dX2_broughtTo_21 : decode cX2_broughtTo 21 = .ok (.istore_n 2, 1) := by decide +kernel
theorem dX2_broughtTo_22 : decode cX2_broughtTo 22 = .ok (.iconst 0, 1) := by decide +kernel
theorem dX2_broughtTo_23 : decode cX2_broughtTo 23 = .ok (.iload_n 2, 1) := by decide +kernel
theorem dX2_broughtTo_24 : decode cX2_broughtTo 24 = .ok (.invokestatic 30, 3) := by decide +kernel
theorem dX2_broughtTo_27 : decode cX2_broughtTo 27 = .ok (.ireturn, 1) := by decide +kernel
theorem dX2_takeOff_0 : decode cX2_takeOff 0 = .ok (.iload_n 1, 1) := by decide +kernel
theorem dX2_takeOff_1 : decode cX2_takeOff 1 = .ok (.bipush 8, 2) := by decide +kernel
theorem dX2_takeOff_3 : decode cX2_takeOff 3 = .ok (.imul, 1) := by decide +kernel
theorem dX2_takeOff_4 : decode cX2_takeOff 4 = .ok (.iload_n 2, 1) := by decide +kernel
theorem dX2_takeOff_5 : decode cX2_takeOff 5 = .ok (.iadd, 1) := by decide +kernel
theorem dX2_takeOff_6 : decode cX2_takeOff 6 = .ok (.istore 4, 2) := by decide +kernel
theorem dX2_takeOff_8 : decode cX2_takeOff 8 = .ok (.iload_n 3, 1) := by decide +kernel
theorem dX2_takeOff_9 : decode cX2_takeOff 9 = .ok (.aload_n 0, 1) := by decide +kernel
theorem dX2_takeOff_10 : decode cX2_takeOff 10 = .ok (.getfield 9, 3) := by decide +kernel
theorem dX2_takeOff_13 : decode cX2_takeOff 13 = .ok (.iload 4, 2) := by decide +kernel
theorem dX2_takeOff_15 : decode cX2_takeOff 15 = .ok (.iaload, 1) := by decide +kernel
theorem dX2_takeOff_16 : decode cX2_takeOff 16 = .ok (.invokestatic 25, 3) := by decide +kernel
theorem dX2_takeOff_19 : decode cX2_takeOff 19 = .ok (.istore 5, 2) := by decide +kernel
theorem dX2_takeOff_21 : decode cX2_takeOff 21 = .ok (.aload_n 0, 1) := by decide +kernel
theorem dX2_takeOff_22 : decode cX2_takeOff 22 = .ok (.getfield 9, 3) := by decide +kernel
theorem dX2_takeOff_25 : decode cX2_takeOff 25 = .ok (.iload 4, 2) := by decide +kernel
theorem dX2_takeOff_27 : decode cX2_takeOff 27 = .ok (.dup2, 1) := by decide +kernel
theorem dX2_takeOff_28 : decode cX2_takeOff 28 = .ok (.iaload, 1) := by decide +kernel
theorem dX2_takeOff_29 : decode cX2_takeOff 29 = .ok (.iload 5, 2) := by decide +kernel
theorem dX2_takeOff_31 : decode cX2_takeOff 31 = .ok (.isub, 1) := by decide +kernel
theorem dX2_takeOff_32 : decode cX2_takeOff 32 = .ok (.iastore, 1) := by decide +kernel
theorem dX2_takeOff_33 : decode cX2_takeOff 33 = .ok (.iload 5, 2) := by decide +kernel
theorem dX2_takeOff_35 : decode cX2_takeOff 35 = .ok (.ireturn, 1) := by decide +kernel
theorem dX2_total_0 : decode cX2_total 0 = .ok (.iconst 0, 1) := by decide +kernel
theorem dX2_total_1 : decode cX2_total 1 = .ok (.istore_n 1, 1) := by decide +kernel
theorem dX2_total_2 : decode cX2_total 2 = .ok (.iconst 0, 1) := by decide +kernel
theorem dX2_total_3 : decode cX2_total 3 = .ok (.istore_n 2, 1) := by decide +kernel
theorem dX2_total_4 : decode cX2_total 4 = .ok (.iload_n 2, 1) := by decide +kernel
theorem dX2_total_5 : decode cX2_total 5 = .ok (.bipush 96, 2) := by decide +kernel
theorem dX2_total_7 : decode cX2_total 7 = .ok (.if_icmp .ge 18, 3) := by decide +kernel
theorem dX2_total_10 : decode cX2_total 10 = .ok (.iload_n 1, 1) := by decide +kernel
theorem dX2_total_11 : decode cX2_total 11 = .ok (.aload_n 0, 1) := by decide +kernel
theorem dX2_total_12 : decode cX2_total 12 = .ok (.getfield 9, 3) := by decide +kernel
theorem dX2_total_15 : decode cX2_total 15 = .ok (.iload_n 2, 1) := by decide +kernel
theorem dX2_total_16 : decode cX2_total 16 = .ok (.iaload, 1) := by decide +kernel
theorem dX2_total_17 : decode cX2_total 17 = .ok (.iadd, 1) := by decide +kernel
theorem dX2_total_18 : decode cX2_total 18 = .ok (.istore_n 1, 1) := by decide +kernel
theorem dX2_total_19 : decode cX2_total 19 = .ok (.iinc 2 1, 3) := by decide +kernel
theorem dX2_total_22 : decode cX2_total 22 = .ok (.goto (-18), 3) := by decide +kernel
theorem dX2_total_25 : decode cX2_total 25 = .ok (.iload_n 1, 1) := by decide +kernel
theorem dX2_total_26 : decode cX2_total 26 = .ok (.ireturn, 1) := by decide +kernel
theorem dX2_cleanPanes_0 : decode cX2_cleanPanes 0 = .ok (.iconst 0, 1) := by decide +kernel
theorem dX2_cleanPanes_1 : decode cX2_cleanPanes 1 = .ok (.istore_n 1, 1) := by decide +kernel
theorem dX2_cleanPanes_2 : decode cX2_cleanPanes 2 = .ok (.iconst 0, 1) := by decide +kernel
theorem dX2_cleanPanes_3 : decode cX2_cleanPanes 3 = .ok (.istore_n 2, 1) := by decide +kernel
theorem dX2_cleanPanes_4 : decode cX2_cleanPanes 4 = .ok (.iload_n 2, 1) := by decide +kernel
theorem dX2_cleanPanes_5 : decode cX2_cleanPanes 5 = .ok (.bipush 96, 2) := by decide +kernel
theorem dX2_cleanPanes_7 : decode cX2_cleanPanes 7 = .ok (.if_icmp .ge 21, 3) := by decide +kernel
theorem dX2_cleanPanes_10 : decode cX2_cleanPanes 10 = .ok (.aload_n 0, 1) := by decide +kernel
theorem dX2_cleanPanes_11 : decode cX2_cleanPanes 11 = .ok (.getfield 9, 3) := by decide +kernel
theorem dX2_cleanPanes_14 : decode cX2_cleanPanes 14 = .ok (.iload_n 2, 1) := by decide +kernel
theorem dX2_cleanPanes_15 : decode cX2_cleanPanes 15 = .ok (.iaload, 1) := by decide +kernel
theorem dX2_cleanPanes_16 : decode cX2_cleanPanes 16 = .ok (.ifCond .ne 6, 3) := by decide +kernel
theorem dX2_cleanPanes_19 : decode cX2_cleanPanes 19 = .ok (.iinc 1 1, 3) := by decide +kernel
theorem dX2_cleanPanes_22 : decode cX2_cleanPanes 22 = .ok (.iinc 2 1, 3) := by decide +kernel
theorem dX2_cleanPanes_25 : decode cX2_cleanPanes 25 = .ok (.goto (-21), 3) := by decide +kernel
theorem dX2_cleanPanes_28 : decode cX2_cleanPanes 28 = .ok (.iload_n 1, 1) := by decide +kernel
theorem dX2_cleanPanes_29 : decode cX2_cleanPanes 29 = .ok (.ireturn, 1) := by decide +kernel
theorem dX3_init_0 : decode cX3_init 0 = .ok (.aload_n 0, 1) := by decide +kernel
theorem dX3_init_1 : decode cX3_init 1 = .ok (.invokespecial 3, 3) := by decide +kernel
theorem dX3_init_4 : decode cX3_init 4 = .ok (.aload_n 0, 1) := by decide +kernel
theorem dX3_init_5 : decode cX3_init 5 = .ok (.iconst 0, 1) := by decide +kernel
theorem dX3_init_6 : decode cX3_init 6 = .ok (.putfield 9, 3) := by decide +kernel
theorem dX3_init_9 : decode cX3_init 9 = .ok (.aload_n 0, 1) := by decide +kernel
theorem dX3_init_10 : decode cX3_init 10 = .ok (.bipush 6, 2) := by decide +kernel
theorem dX3_init_12 : decode cX3_init 12 = .ok (.newarray .int, 2) := by decide +kernel
theorem dX3_init_14 : decode cX3_init 14 = .ok (.putfield 15, 3) := by decide +kernel
theorem dX3_init_17 : decode cX3_init 17 = .ok (.aload_n 0, 1) := by decide +kernel
theorem dX3_init_18 : decode cX3_init 18 = .ok (.bipush 6, 2) := by decide +kernel
theorem dX3_init_20 : decode cX3_init 20 = .ok (.newarray .int, 2) := by decide +kernel
theorem dX3_init_22 : decode cX3_init 22 = .ok (.putfield 19, 3) := by decide +kernel
theorem dX3_init_25 : decode cX3_init 25 = .ok (.aload_n 0, 1) := by decide +kernel
theorem dX3_init_26 : decode cX3_init 26 = .ok (.bipush 6, 2) := by decide +kernel
theorem dX3_init_28 : decode cX3_init 28 = .ok (.newarray .int, 2) := by decide +kernel
theorem dX3_init_30 : decode cX3_init 30 = .ok (.putfield 22, 3) := by decide +kernel
theorem dX3_init_33 : decode cX3_init 33 = .ok (.aload_n 0, 1) := by decide +kernel
theorem dX3_init_34 : decode cX3_init 34 = .ok (.bipush 6, 2) := by decide +kernel
theorem dX3_init_36 : decode cX3_init 36 = .ok (.newarray .boolean, 2) := by decide +kernel
theorem dX3_init_38 : decode cX3_init 38 = .ok (.putfield 25, 3) := by decide +kernel
theorem dX3_init_41 : decode cX3_init 41 = .ok (.aload_n 0, 1) := by decide +kernel
theorem dX3_init_42 : decode cX3_init 42 = .ok (.bipush 6, 2) := by decide +kernel
theorem dX3_init_44 : decode cX3_init 44 = .ok (.newarray .int, 2) := by decide +kernel
theorem dX3_init_46 : decode cX3_init 46 = .ok (.putfield 29, 3) := by decide +kernel
theorem dX3_init_49 : decode cX3_init 49 = .ok (.aload_n 0, 1) := by decide +kernel
theorem dX3_init_50 : decode cX3_init 50 = .ok (.bipush 6, 2) := by decide +kernel
theorem dX3_init_52 : decode cX3_init 52 = .ok (.newarray .int, 2) := by decide +kernel
theorem dX3_init_54 : decode cX3_init 54 = .ok (.putfield 32, 3) := by decide +kernel
theorem dX3_init_57 : decode cX3_init 57 = .ok (.return_, 1) := by decide +kernel
theorem dX3_put_0 : decode cX3_put 0 = .ok (.aload_n 0, 1) := by decide +kernel
theorem dX3_put_1 : decode cX3_put 1 = .ok (.getfield 15, 3) := by decide +kernel
theorem dX3_put_4 : decode cX3_put 4 = .ok (.aload_n 0, 1) := by decide +kernel
theorem dX3_put_5 : decode cX3_put 5 = .ok (.getfield 9, 3) := by decide +kernel
theorem dX3_put_8 : decode cX3_put 8 = .ok (.iload_n 1, 1) := by decide +kernel
theorem dX3_put_9 : decode cX3_put 9 = .ok (.iastore, 1) := by decide +kernel
theorem dX3_put_10 : decode cX3_put 10 = .ok (.aload_n 0, 1) := by decide +kernel
theorem dX3_put_11 : decode cX3_put 11 = .ok (.getfield 22, 3) := by decide +kernel
theorem dX3_put_14 : decode cX3_put 14 = .ok (.aload_n 0, 1) := by decide +kernel
theorem dX3_put_15 : decode cX3_put 15 = .ok (.getfield 9, 3) := by decide +kernel
theorem dX3_put_18 : decode cX3_put 18 = .ok (.iload_n 2, 1) := by decide +kernel
theorem dX3_put_19 : decode cX3_put 19 = .ok (.iastore, 1) := by decide +kernel
theorem dX3_put_20 : decode cX3_put 20 = .ok (.aload_n 0, 1) := by decide +kernel
theorem dX3_put_21 : decode cX3_put 21 = .ok (.getfield 25, 3) := by decide +kernel
theorem dX3_put_24 : decode cX3_put 24 = .ok (.aload_n 0, 1) := by decide +kernel
theorem dX3_put_25 : decode cX3_put 25 = .ok (.getfield 9, 3) := by decide +kernel
theorem dX3_put_28 : decode cX3_put 28 = .ok (.iload_n 3, 1) := by decide +kernel
theorem dX3_put_29 : decode cX3_put 29 = .ok (.bastore, 1) := by decide +kernel
theorem dX3_put_30 : decode cX3_put 30 = .ok (.aload_n 0, 1) := by decide +kernel
theorem dX3_put_31 : decode cX3_put 31 = .ok (.dup, 1) := by decide +kernel
theorem dX3_put_32 : decode cX3_put 32 = .ok (.getfield 9, 3) := by decide +kernel
theorem dX3_put_35 : decode cX3_put 35 = .ok (.iconst 1, 1) := by decide +kernel
theorem dX3_put_36 : decode cX3_put 36 = .ok (.iadd, 1) := by decide +kernel
theorem dX3_put_37 : decode cX3_put 37 = .ok (.putfield 9, 3) := by decide +kernel
theorem dX3_put_40 : decode cX3_put 40 = .ok (.aload_n 0, 1) := by decide +kernel
theorem dX3_put_41 : decode cX3_put 41 = .ok (.getfield 9, 3) := by decide +kernel
theorem dX3_put_44 : decode cX3_put 44 = .ok (.iconst 1, 1) := by decide +kernel
theorem dX3_put_45 : decode cX3_put 45 = .ok (.isub, 1) := by decide +kernel
theorem dX3_put_46 : decode cX3_put 46 = .ok (.ireturn, 1) := by decide +kernel
theorem dX3_number_0 : decode cX3_number 0 = .ok (.iload_n 2, 1) := by decide +kernel
theorem dX3_number_1 : decode cX3_number 1 = .ok (.tableswitch 78 0 4 #[35, 42, 49, 56, 71], 35) := by decide +kernel
theorem dX3_number_36 : decode cX3_number 36 = .ok (.aload_n 0, 1) := by decide +kernel
theorem dX3_number_37 : decode cX3_number 37 = .ok (.getfield 15, 3) := by decide +kernel
theorem dX3_number_40 : decode cX3_number 40 = .ok (.iload_n 1, 1) := by decide +kernel
theorem dX3_number_41 : decode cX3_number 41 = .ok (.iaload, 1) := by decide +kernel
theorem dX3_number_42 : decode cX3_number 42 = .ok (.ireturn, 1) := by decide +kernel
theorem dX3_number_43 : decode cX3_number 43 = .ok (.aload_n 0, 1) := by decide +kernel
theorem dX3_number_44 : decode cX3_number 44 = .ok (.getfield 19, 3) := by decide +kernel
theorem dX3_number_47 : decode cX3_number 47 = .ok (.iload_n 1, 1) := by decide +kernel
theorem dX3_number_48 : decode cX3_number 48 = .ok (.iaload, 1) := by decide +kernel
theorem dX3_number_49 : decode cX3_number 49 = .ok (.ireturn, 1) := by decide +kernel
theorem dX3_number_50 : decode cX3_number 50 = .ok (.aload_n 0, 1) := by decide +kernel
theorem dX3_number_51 : decode cX3_number 51 = .ok (.getfield 22, 3) := by decide +kernel
theorem dX3_number_54 : decode cX3_number 54 = .ok (.iload_n 1, 1) := by decide +kernel
theorem dX3_number_55 : decode cX3_number 55 = .ok (.iaload, 1) := by decide +kernel
theorem dX3_number_56 : decode cX3_number 56 = .ok (.ireturn, 1) := by decide +kernel
theorem dX3_number_57 : decode cX3_number 57 = .ok (.aload_n 0, 1) := by decide +kernel
theorem dX3_number_58 : decode cX3_number 58 = .ok (.getfield 25, 3) := by decide +kernel
theorem dX3_number_61 : decode cX3_number 61 = .ok (.iload_n 1, 1) := by decide +kernel
theorem dX3_number_62 : decode cX3_number 62 = .ok (.baload, 1) := by decide +kernel
theorem dX3_number_63 : decode cX3_number 63 = .ok (.ifCond .eq 7, 3) := by decide +kernel
theorem dX3_number_66 : decode cX3_number 66 = .ok (.iconst 0, 1) := by decide +kernel
theorem dX3_number_67 : decode cX3_number 67 = .ok (.goto 4, 3) := by decide +kernel
theorem dX3_number_70 : decode cX3_number 70 = .ok (.iconst 1, 1) := by decide +kernel
theorem dX3_number_71 : decode cX3_number 71 = .ok (.ireturn, 1) := by decide +kernel
theorem dX3_number_72 : decode cX3_number 72 = .ok (.aload_n 0, 1) := by decide +kernel
theorem dX3_number_73 : decode cX3_number 73 = .ok (.getfield 29, 3) := by decide +kernel
theorem dX3_number_76 : decode cX3_number 76 = .ok (.iload_n 1, 1) := by decide +kernel
theorem dX3_number_77 : decode cX3_number 77 = .ok (.iaload, 1) := by decide +kernel
theorem dX3_number_78 : decode cX3_number 78 = .ok (.ireturn, 1) := by decide +kernel
theorem dX3_number_79 : decode cX3_number 79 = .ok (.aload_n 0, 1) := by decide +kernel
theorem dX3_number_80 : decode cX3_number 80 = .ok (.getfield 32, 3) := by decide +kernel
theorem dX3_number_83 : decode cX3_number 83 = .ok (.iload_n 1, 1) := by decide +kernel
theorem dX3_number_84 : decode cX3_number 84 = .ok (.iaload, 1) := by decide +kernel
theorem dX3_number_85 : decode cX3_number 85 = .ok (.ireturn, 1) := by decide +kernel
theorem dX3_allCleaned_0 : decode cX3_allCleaned 0 = .ok (.iconst 0, 1) := by decide +kernel
theorem dX3_allCleaned_1 : decode cX3_allCleaned 1 = .ok (.istore_n 1, 1) := by decide +kernel
theorem dX3_allCleaned_2 : decode cX3_allCleaned 2 = .ok (.iconst 0, 1) := by decide +kernel
theorem dX3_allCleaned_3 : decode cX3_allCleaned 3 = .ok (.istore_n 2, 1) := by decide +kernel
theorem dX3_allCleaned_4 : decode cX3_allCleaned 4 = .ok (.iload_n 2, 1) := by decide +kernel
theorem dX3_allCleaned_5 : decode cX3_allCleaned 5 = .ok (.aload_n 0, 1) := by decide +kernel
theorem dX3_allCleaned_6 : decode cX3_allCleaned 6 = .ok (.getfield 9, 3) := by decide +kernel
theorem dX3_allCleaned_9 : decode cX3_allCleaned 9 = .ok (.if_icmp .ge 18, 3) := by decide +kernel
theorem dX3_allCleaned_12 : decode cX3_allCleaned 12 = .ok (.iload_n 1, 1) := by decide +kernel
theorem dX3_allCleaned_13 : decode cX3_allCleaned 13 = .ok (.aload_n 0, 1) := by decide +kernel
theorem dX3_allCleaned_14 : decode cX3_allCleaned 14 = .ok (.getfield 29, 3) := by decide +kernel
theorem dX3_allCleaned_17 : decode cX3_allCleaned 17 = .ok (.iload_n 2, 1) := by decide +kernel
theorem dX3_allCleaned_18 : decode cX3_allCleaned 18 = .ok (.iaload, 1) := by decide +kernel
theorem dX3_allCleaned_19 : decode cX3_allCleaned 19 = .ok (.iadd, 1) := by decide +kernel
theorem dX3_allCleaned_20 : decode cX3_allCleaned 20 = .ok (.istore_n 1, 1) := by decide +kernel
theorem dX3_allCleaned_21 : decode cX3_allCleaned 21 = .ok (.iinc 2 1, 3) := by decide +kernel
theorem dX3_allCleaned_24 : decode cX3_allCleaned 24 = .ok (.goto (-20), 3) := by decide +kernel
theorem dX3_allCleaned_27 : decode cX3_allCleaned 27 = .ok (.iload_n 1, 1) := by decide +kernel
theorem dX3_allCleaned_28 : decode cX3_allCleaned 28 = .ok (.ireturn, 1) := by decide +kernel
theorem dX3_hangAt_0 : decode cX3_hangAt 0 = .ok (.iconst 0, 1) := by decide +kernel
theorem dX3_hangAt_1 : decode cX3_hangAt 1 = .ok (.istore_n 2, 1) := by decide +kernel
theorem dX3_hangAt_2 : decode cX3_hangAt 2 = .ok (.iload_n 2, 1) := by decide +kernel
theorem dX3_hangAt_3 : decode cX3_hangAt 3 = .ok (.aload_n 0, 1) := by decide +kernel
theorem dX3_hangAt_4 : decode cX3_hangAt 4 = .ok (.getfield 9, 3) := by decide +kernel
theorem dX3_hangAt_7 : decode cX3_hangAt 7 = .ok (.if_icmp .ge 21, 3) := by decide +kernel
theorem dX3_hangAt_10 : decode cX3_hangAt 10 = .ok (.aload_n 0, 1) := by decide +kernel
theorem dX3_hangAt_11 : decode cX3_hangAt 11 = .ok (.getfield 15, 3) := by decide +kernel
theorem dX3_hangAt_14 : decode cX3_hangAt 14 = .ok (.iload_n 2, 1) := by decide +kernel
theorem dX3_hangAt_15 : decode cX3_hangAt 15 = .ok (.iaload, 1) := by decide +kernel
theorem dX3_hangAt_16 : decode cX3_hangAt 16 = .ok (.iload_n 1, 1) := by decide +kernel
theorem dX3_hangAt_17 : decode cX3_hangAt 17 = .ok (.if_icmp .ne 5, 3) := by decide +kernel
theorem dX3_hangAt_20 : decode cX3_hangAt 20 = .ok (.iconst 1, 1) := by decide +kernel
theorem dX3_hangAt_21 : decode cX3_hangAt 21 = .ok (.ireturn, 1) := by decide +kernel
theorem dX3_hangAt_22 : decode cX3_hangAt 22 = .ok (.iinc 2 1, 3) := by decide +kernel
theorem dX3_hangAt_25 : decode cX3_hangAt 25 = .ok (.goto (-23), 3) := by decide +kernel
theorem dX3_hangAt_28 : decode cX3_hangAt 28 = .ok (.iconst 0, 1) := by decide +kernel
theorem dX3_hangAt_29 : decode cX3_hangAt 29 = .ok (.ireturn, 1) := by decide +kernel
theorem dX3_rehang_0 : decode cX3_rehang 0 = .ok (.aload_n 0, 1) := by decide +kernel
theorem dX3_rehang_1 : decode cX3_rehang 1 = .ok (.getfield 15, 3) := by decide +kernel
theorem dX3_rehang_4 : decode cX3_rehang 4 = .ok (.iload_n 1, 1) := by decide +kernel
theorem dX3_rehang_5 : decode cX3_rehang 5 = .ok (.iload_n 2, 1) := by decide +kernel
theorem dX3_rehang_6 : decode cX3_rehang 6 = .ok (.iastore, 1) := by decide +kernel
theorem dX3_rehang_7 : decode cX3_rehang 7 = .ok (.aload_n 0, 1) := by decide +kernel
theorem dX3_rehang_8 : decode cX3_rehang 8 = .ok (.getfield 19, 3) := by decide +kernel
theorem dX3_rehang_11 : decode cX3_rehang 11 = .ok (.iload_n 1, 1) := by decide +kernel
theorem dX3_rehang_12 : decode cX3_rehang 12 = .ok (.iconst 0, 1) := by decide +kernel
theorem dX3_rehang_13 : decode cX3_rehang 13 = .ok (.iastore, 1) := by decide +kernel
theorem dX3_rehang_14 : decode cX3_rehang 14 = .ok (.aload_n 0, 1) := by decide +kernel
theorem dX3_rehang_15 : decode cX3_rehang 15 = .ok (.getfield 32, 3) := by decide +kernel
theorem dX3_rehang_18 : decode cX3_rehang 18 = .ok (.iload_n 1, 1) := by decide +kernel
theorem dX3_rehang_19 : decode cX3_rehang 19 = .ok (.dup2, 1) := by decide +kernel
theorem dX3_rehang_20 : decode cX3_rehang 20 = .ok (.iaload, 1) := by decide +kernel
theorem dX3_rehang_21 : decode cX3_rehang 21 = .ok (.iconst 1, 1) := by decide +kernel
theorem dX3_rehang_22 : decode cX3_rehang 22 = .ok (.iadd, 1) := by decide +kernel
theorem dX3_rehang_23 : decode cX3_rehang 23 = .ok (.iastore, 1) := by decide +kernel
theorem dX3_rehang_24 : decode cX3_rehang 24 = .ok (.return_, 1) := by decide +kernel
set_option maxRecDepth 20000 in
theorem ggX3_work_X3_workOnOne : GoodIn wsX3_work wsX3_workOnOne := goodIn_r _ [6, 7, 8, 9, 10, 11, 12, 13, 14, 15, 16, 17, 18, 19, 20, 21, 22, 23, 5, 24, 25, 26, 27, 28, 29, 1, 30, 31, 32, 33, 34, 35, 36, 37, 38, 39, 40, 41, 42] (by decide +kernel) (by decide +kernel)
set_option maxRecDepth 20000 in
theorem gX3_work_X3_workOnOne : GoodIn wsX3_work (wsV RX3 35 RX3 yX3_workOnOne wsX3_workOnOne) := goodIn_app (goodIn_of _ (by decide +kernel)) ggX3_work_X3_workOnOne
theorem dX3_work_0 : decode cX3_work 0 = .ok (.iconst 0, 1) := by decide +kernel
theorem dX3_work_1 : decode cX3_work 1 = .ok (.istore_n 2, 1) := by decide +kernel
theorem dX3_work_2 : decode cX3_work 2 = .ok (.iload_n 2, 1) := by decide +kernel
theorem dX3_work_3 : decode cX3_work 3 = .ok (.aload_n 0, 1) := by decide +kernel
theorem dX3_work_4 : decode cX3_work 4 = .ok (.getfield 9, 3) := by decide +kernel
theorem dX3_work_7 : decode cX3_work 7 = .ok (.if_icmp .ge 15, 3) := by decide +kernel
theorem dX3_work_10 : decode cX3_work 10 = .ok (.aload_n 0, 1) := by decide +kernel
theorem dX3_work_11 : decode cX3_work 11 = .ok (.iload_n 2, 1) := by decide +kernel
theorem dX3_work_12 : decode cX3_work 12 = .ok (.aload_n 1, 1) := by decide +kernel
theorem dX3_work_13 : decode cX3_work 13 = .ok (.invokevirtual 35, 3) := by decide +kernel
theorem dX3_work_16 : decode cX3_work 16 = .ok (.iinc 2 1, 3) := by decide +kernel
theorem dX3_work_19 : decode cX3_work 19 = .ok (.goto (-17), 3) := by decide +kernel
theorem dX3_work_22 : decode cX3_work 22 = .ok (.return_, 1) := by decide +kernel
set_option maxRecDepth 20000 in
theorem ggX3_workOnOne_X2_takeOff : GoodIn wsX3_workOnOne wsX2_takeOff := goodIn_r _ [9, 10, 11, 12, 13, 14, 38] (by decide +kernel) (by decide +kernel)
set_option maxRecDepth 20000 in
theorem gX3_workOnOne_X2_takeOff : GoodIn wsX3_workOnOne (wsV RX3 39 RX2 yX2_takeOff wsX2_takeOff) := goodIn_app (goodIn_of _ (by decide +kernel)) ggX3_workOnOne_X2_takeOff
set_option maxRecDepth 20000 in
theorem ggX3_workOnOne_X3_nextFreeColumn : GoodIn wsX3_workOnOne wsX3_nextFreeColumn := goodIn_r _ [19, 20, 2, 21, 22, 23, 18, 24, 25, 31, 32, 33, 34, 35, 36, 37] (by decide +kernel) (by decide +kernel)
set_option maxRecDepth 20000 in
theorem gX3_workOnOne_X3_nextFreeColumn : GoodIn wsX3_workOnOne (wsV RX3 45 RX3 yX3_nextFreeColumn wsX3_nextFreeColumn) := goodIn_app (goodIn_of _ (by decide +kernel)) ggX3_workOnOne_X3_nextFreeColumn
set_option maxRecDepth 20000 in
theorem ggX3_workOnOne_X3_rehang : GoodIn wsX3_workOnOne wsX3_rehang := goodIn_r _ [29, 2, 3, 30, 31, 32, 33, 34, 35, 36, 37] (by decide +kernel) (by decide +kernel)
set_option maxRecDepth 20000 in
theorem gX3_workOnOne_X3_rehang : GoodIn wsX3_workOnOne (wsV RX3 49 RX3 yX3_rehang wsX3_rehang) := goodIn_app (goodIn_of _ (by decide +kernel)) ggX3_workOnOne_X3_rehang
theorem dX3_workOnOne_0 : decode cX3_workOnOne 0 = .ok (.aload_n 0, 1) := by decide +kernel
theorem dX3_workOnOne_1 : decode cX3_workOnOne 1 = .ok (.getfield 22, 3) := by decide +kernel
theorem dX3_workOnOne_4 : decode cX3_workOnOne 4 = .ok (.iload_n 1, 1) := by decide +kernel
theorem dX3_workOnOne_5 : decode cX3_workOnOne 5 = .ok (.iaload, 1) := by decide +kernel
theorem dX3_workOnOne_6 : decode cX3_workOnOne 6 = .ok (.istore_n 3, 1) := by decide +kernel
theorem dX3_workOnOne_7 : decode cX3_workOnOne 7 = .ok (.iconst 0, 1) := by decide +kernel
theorem dX3_workOnOne_8 : decode cX3_workOnOne 8 = .ok (.istore 4, 2) := by decide +kernel
theorem dX3_workOnOne_10 : decode cX3_workOnOne 10 = .ok (.iload 4, 2) := by decide +kernel
theorem dX3_workOnOne_12 : decode cX3_workOnOne 12 = .ok (.bipush 30, 2) := by decide +kernel
theorem dX3_workOnOne_14 : decode cX3_workOnOne 14 = .ok (.if_icmp .ge 98, 3) := by decide +kernel
theorem dX3_workOnOne_17 : decode cX3_workOnOne 17 = .ok (.aload_n 2, 1) := by decide +kernel
theorem dX3_workOnOne_18 : decode cX3_workOnOne 18 = .ok (.aload_n 0, 1) := by decide +kernel
theorem dX3_workOnOne_19 : decode cX3_workOnOne 19 = .ok (.getfield 15, 3) := by decide +kernel
theorem dX3_workOnOne_22 : decode cX3_workOnOne 22 = .ok (.iload_n 1, 1) := by decide +kernel
theorem dX3_workOnOne_23 : decode cX3_workOnOne 23 = .ok (.iaload, 1) := by decide +kernel
theorem dX3_workOnOne_24 : decode cX3_workOnOne 24 = .ok (.aload_n 0, 1) := by decide +kernel
theorem dX3_workOnOne_25 : decode cX3_workOnOne 25 = .ok (.getfield 19, 3) := by decide +kernel
theorem dX3_workOnOne_28 : decode cX3_workOnOne 28 = .ok (.iload_n 1, 1) := by decide +kernel
theorem dX3_workOnOne_29 : decode cX3_workOnOne 29 = .ok (.iaload, 1) := by decide +kernel
theorem dX3_workOnOne_30 : decode cX3_workOnOne 30 = .ok (.iload_n 3, 1) := by decide +kernel
theorem dX3_workOnOne_31 : decode cX3_workOnOne 31 = .ok (.invokevirtual 39, 3) := by decide +kernel
theorem dX3_workOnOne_34 : decode cX3_workOnOne 34 = .ok (.istore 5, 2) := by decide +kernel
theorem dX3_workOnOne_36 : decode cX3_workOnOne 36 = .ok (.aload_n 0, 1) := by decide +kernel
theorem dX3_workOnOne_37 : decode cX3_workOnOne 37 = .ok (.getfield 29, 3) := by decide +kernel
theorem dX3_workOnOne_40 : decode cX3_workOnOne 40 = .ok (.iload_n 1, 1) := by decide +kernel
theorem dX3_workOnOne_41 : decode cX3_workOnOne 41 = .ok (.dup2, 1) := by decide +kernel
theorem dX3_workOnOne_42 : decode cX3_workOnOne 42 = .ok (.iaload, 1) := by decide +kernel
theorem dX3_workOnOne_43 : decode cX3_workOnOne 43 = .ok (.iload 5, 2) := by decide +kernel
theorem dX3_workOnOne_45 : decode cX3_workOnOne 45 = .ok (.iadd, 1) := by decide +kernel
theorem dX3_workOnOne_46 : decode cX3_workOnOne 46 = .ok (.iastore, 1) := by decide +kernel
theorem dX3_workOnOne_47 : decode cX3_workOnOne 47 = .ok (.iload_n 3, 1) := by decide +kernel
theorem dX3_workOnOne_48 : decode cX3_workOnOne 48 = .ok (.iload 5, 2) := by decide +kernel
theorem dX3_workOnOne_50 : decode cX3_workOnOne 50 = .ok (.isub, 1) := by decide +kernel
theorem dX3_workOnOne_51 : decode cX3_workOnOne 51 = .ok (.istore_n 3, 1) := by decide +kernel
theorem dX3_workOnOne_52 : decode cX3_workOnOne 52 = .ok (.iload_n 3, 1) := by decide +kernel
theorem dX3_workOnOne_53 : decode cX3_workOnOne 53 = .ok (.ifCond .ne 4, 3) := by decide +kernel
theorem dX3_workOnOne_56 : decode cX3_workOnOne 56 = .ok (.return_, 1) := by decide +kernel
theorem dX3_workOnOne_57 : decode cX3_workOnOne 57 = .ok (.aload_n 0, 1) := by decide +kernel
theorem dX3_workOnOne_58 : decode cX3_workOnOne 58 = .ok (.getfield 19, 3) := by decide +kernel
theorem dX3_workOnOne_61 : decode cX3_workOnOne 61 = .ok (.iload_n 1, 1) := by decide +kernel
theorem dX3_workOnOne_62 : decode cX3_workOnOne 62 = .ok (.iaload, 1) := by decide +kernel
theorem dX3_workOnOne_63 : decode cX3_workOnOne 63 = .ok (.bipush 7, 2) := by decide +kernel
theorem dX3_workOnOne_65 : decode cX3_workOnOne 65 = .ok (.if_icmp .ge 19, 3) := by decide +kernel
theorem dX3_workOnOne_68 : decode cX3_workOnOne 68 = .ok (.aload_n 0, 1) := by decide +kernel
theorem dX3_workOnOne_69 : decode cX3_workOnOne 69 = .ok (.getfield 19, 3) := by decide +kernel
theorem dX3_workOnOne_72 : decode cX3_workOnOne 72 = .ok (.iload_n 1, 1) := by decide +kernel
theorem dX3_workOnOne_73 : decode cX3_workOnOne 73 = .ok (.dup2, 1) := by decide +kernel
theorem dX3_workOnOne_74 : decode cX3_workOnOne 74 = .ok (.iaload, 1) := by decide +kernel
theorem dX3_workOnOne_75 : decode cX3_workOnOne 75 = .ok (.iconst 1, 1) := by decide +kernel
theorem dX3_workOnOne_76 : decode cX3_workOnOne 76 = .ok (.iadd, 1) := by decide +kernel
theorem dX3_workOnOne_77 : decode cX3_workOnOne 77 = .ok (.iastore, 1) := by decide +kernel
theorem dX3_workOnOne_78 : decode cX3_workOnOne 78 = .ok (.iinc 3 (-1), 3) := by decide +kernel
theorem dX3_workOnOne_81 : decode cX3_workOnOne 81 = .ok (.goto 25, 3) := by decide +kernel
theorem dX3_workOnOne_84 : decode cX3_workOnOne 84 = .ok (.iload_n 3, 1) := by decide +kernel
theorem dX3_workOnOne_85 : decode cX3_workOnOne 85 = .ok (.iconst 3, 1) := by decide +kernel
theorem dX3_workOnOne_86 : decode cX3_workOnOne 86 = .ok (.if_icmp .lt 19, 3) := by decide +kernel
theorem dX3_workOnOne_89 : decode cX3_workOnOne 89 = .ok (.aload_n 0, 1) := by decide +kernel
theorem dX3_workOnOne_90 : decode cX3_workOnOne 90 = .ok (.iload_n 1, 1) := by decide +kernel
theorem dX3_workOnOne_91 : decode cX3_workOnOne 91 = .ok (.aload_n 0, 1) := by decide +kernel
theorem dX3_workOnOne_92 : decode cX3_workOnOne 92 = .ok (.iload_n 1, 1) := by decide +kernel
theorem dX3_workOnOne_93 : decode cX3_workOnOne 93 = .ok (.invokevirtual 45, 3) := by decide +kernel
theorem dX3_workOnOne_96 : decode cX3_workOnOne 96 = .ok (.invokevirtual 49, 3) := by decide +kernel
theorem dX3_workOnOne_99 : decode cX3_workOnOne 99 = .ok (.iinc 3 (-3), 3) := by decide +kernel
theorem dX3_workOnOne_102 : decode cX3_workOnOne 102 = .ok (.goto 4, 3) := by decide +kernel
theorem dX3_workOnOne_105 : decode cX3_workOnOne 105 = .ok (.return_, 1) := by decide +kernel
theorem dX3_workOnOne_106 : decode cX3_workOnOne 106 = .ok (.iinc 4 1, 3) := by decide +kernel
theorem dX3_workOnOne_109 : decode cX3_workOnOne 109 = .ok (.goto (-99), 3) := by decide +kernel
theorem dX3_workOnOne_112 : decode cX3_workOnOne 112 = .ok (.return_, 1) := by decide +kernel
set_option maxRecDepth 20000 in
theorem ggX3_nextFreeColumn_X3_hangAt : GoodIn wsX3_nextFreeColumn wsX3_hangAt := goodIn_r _ [7, 8, 2, 9, 10, 11, 12, 13, 14, 15] (by decide +kernel) (by decide +kernel)
set_option maxRecDepth 20000 in
theorem gX3_nextFreeColumn_X3_hangAt : GoodIn wsX3_nextFreeColumn (wsV RX3 53 RX3 yX3_hangAt wsX3_hangAt) := goodIn_app (goodIn_of _ (by decide +kernel)) ggX3_nextFreeColumn_X3_hangAt
theorem dX3_nextFreeColumn_0 : decode cX3_nextFreeColumn 0 = .ok (.aload_n 0, 1) := by decide +kernel
theorem dX3_nextFreeColumn_1 : decode cX3_nextFreeColumn 1 = .ok (.getfield 25, 3) := by decide +kernel
theorem dX3_nextFreeColumn_4 : decode cX3_nextFreeColumn 4 = .ok (.iload_n 1, 1) := by decide +kernel
theorem dX3_nextFreeColumn_5 : decode cX3_nextFreeColumn 5 = .ok (.baload, 1) := by decide +kernel
theorem dX3_nextFreeColumn_6 : decode cX3_nextFreeColumn 6 = .ok (.ifCond .eq 7, 3) := by decide +kernel
theorem dX3_nextFreeColumn_9 : decode cX3_nextFreeColumn 9 = .ok (.iconst 1, 1) := by decide +kernel
theorem dX3_nextFreeColumn_10 : decode cX3_nextFreeColumn 10 = .ok (.goto 5, 3) := by decide +kernel
theorem dX3_nextFreeColumn_13 : decode cX3_nextFreeColumn 13 = .ok (.bipush 11, 2) := by decide +kernel
theorem dX3_nextFreeColumn_15 : decode cX3_nextFreeColumn 15 = .ok (.istore_n 2, 1) := by decide +kernel
theorem dX3_nextFreeColumn_16 : decode cX3_nextFreeColumn 16 = .ok (.aload_n 0, 1) := by decide +kernel
theorem dX3_nextFreeColumn_17 : decode cX3_nextFreeColumn 17 = .ok (.getfield 15, 3) := by decide +kernel
theorem dX3_nextFreeColumn_20 : decode cX3_nextFreeColumn 20 = .ok (.iload_n 1, 1) := by decide +kernel
theorem dX3_nextFreeColumn_21 : decode cX3_nextFreeColumn 21 = .ok (.iaload, 1) := by decide +kernel
theorem dX3_nextFreeColumn_22 : decode cX3_nextFreeColumn 22 = .ok (.istore_n 3, 1) := by decide +kernel
theorem dX3_nextFreeColumn_23 : decode cX3_nextFreeColumn 23 = .ok (.iconst 1, 1) := by decide +kernel
theorem dX3_nextFreeColumn_24 : decode cX3_nextFreeColumn 24 = .ok (.istore 4, 2) := by decide +kernel
theorem dX3_nextFreeColumn_26 : decode cX3_nextFreeColumn 26 = .ok (.iload 4, 2) := by decide +kernel
theorem dX3_nextFreeColumn_28 : decode cX3_nextFreeColumn 28 = .ok (.bipush 12, 2) := by decide +kernel
theorem dX3_nextFreeColumn_30 : decode cX3_nextFreeColumn 30 = .ok (.if_icmp .ge 26, 3) := by decide +kernel
theorem dX3_nextFreeColumn_33 : decode cX3_nextFreeColumn 33 = .ok (.iload_n 3, 1) := by decide +kernel
theorem dX3_nextFreeColumn_34 : decode cX3_nextFreeColumn 34 = .ok (.iload_n 2, 1) := by decide +kernel
theorem dX3_nextFreeColumn_35 : decode cX3_nextFreeColumn 35 = .ok (.iadd, 1) := by decide +kernel
theorem dX3_nextFreeColumn_36 : decode cX3_nextFreeColumn 36 = .ok (.bipush 12, 2) := by decide +kernel
theorem dX3_nextFreeColumn_38 : decode cX3_nextFreeColumn 38 = .ok (.irem, 1) := by decide +kernel
theorem dX3_nextFreeColumn_39 : decode cX3_nextFreeColumn 39 = .ok (.istore_n 3, 1) := by decide +kernel
theorem dX3_nextFreeColumn_40 : decode cX3_nextFreeColumn 40 = .ok (.aload_n 0, 1) := by decide +kernel
theorem dX3_nextFreeColumn_41 : decode cX3_nextFreeColumn 41 = .ok (.iload_n 3, 1) := by decide +kernel
theorem dX3_nextFreeColumn_42 : decode cX3_nextFreeColumn 42 = .ok (.invokevirtual 53, 3) := by decide +kernel
theorem dX3_nextFreeColumn_45 : decode cX3_nextFreeColumn 45 = .ok (.ifCond .ne 5, 3) := by decide +kernel
theorem dX3_nextFreeColumn_48 : decode cX3_nextFreeColumn 48 = .ok (.iload_n 3, 1) := by decide +kernel
theorem dX3_nextFreeColumn_49 : decode cX3_nextFreeColumn 49 = .ok (.ireturn, 1) := by decide +kernel
theorem dX3_nextFreeColumn_50 : decode cX3_nextFreeColumn 50 = .ok (.iinc 4 1, 3) := by decide +kernel
theorem dX3_nextFreeColumn_53 : decode cX3_nextFreeColumn 53 = .ok (.goto (-27), 3) := by decide +kernel
theorem dX3_nextFreeColumn_56 : decode cX3_nextFreeColumn 56 = .ok (.aload_n 0, 1) := by decide +kernel
theorem dX3_nextFreeColumn_57 : decode cX3_nextFreeColumn 57 = .ok (.getfield 15, 3) := by decide +kernel
theorem dX3_nextFreeColumn_60 : decode cX3_nextFreeColumn 60 = .ok (.iload_n 1, 1) := by decide +kernel
theorem dX3_nextFreeColumn_61 : decode cX3_nextFreeColumn 61 = .ok (.iaload, 1) := by decide +kernel
theorem dX3_nextFreeColumn_62 : decode cX3_nextFreeColumn 62 = .ok (.ireturn, 1) := by decide +kernel
theorem dX4_init_0 : decode cX4_init 0 = .ok (.aload_n 0, 1) := by decide +kernel
theorem dX4_init_1 : decode cX4_init 1 = .ok (.invokespecial 3, 3) := by decide +kernel
theorem dX4_init_4 : decode cX4_init 4 = .ok (.aload_n 0, 1) := by decide +kernel
theorem dX4_init_5 : decode cX4_init 5 = .ok (.iconst 0, 1) := by decide +kernel
theorem dX4_init_6 : decode cX4_init 6 = .ok (.putfield 9, 3) := by decide +kernel
theorem dX4_init_9 : decode cX4_init 9 = .ok (.aload_n 0, 1) := by decide +kernel
theorem dX4_init_10 : decode cX4_init 10 = .ok (.bipush 6, 2) := by decide +kernel
theorem dX4_init_12 : decode cX4_init 12 = .ok (.newarray .int, 2) := by decide +kernel
theorem dX4_init_14 : decode cX4_init 14 = .ok (.putfield 15, 3) := by decide +kernel
theorem dX4_init_17 : decode cX4_init 17 = .ok (.aload_n 0, 1) := by decide +kernel
theorem dX4_init_18 : decode cX4_init 18 = .ok (.bipush 6, 2) := by decide +kernel
theorem dX4_init_20 : decode cX4_init 20 = .ok (.newarray .int, 2) := by decide +kernel
theorem dX4_init_22 : decode cX4_init 22 = .ok (.putfield 19, 3) := by decide +kernel
theorem dX4_init_25 : decode cX4_init 25 = .ok (.aload_n 0, 1) := by decide +kernel
theorem dX4_init_26 : decode cX4_init 26 = .ok (.bipush 6, 2) := by decide +kernel
theorem dX4_init_28 : decode cX4_init 28 = .ok (.newarray .int, 2) := by decide +kernel
theorem dX4_init_30 : decode cX4_init 30 = .ok (.putfield 22, 3) := by decide +kernel
theorem dX4_init_33 : decode cX4_init 33 = .ok (.aload_n 0, 1) := by decide +kernel
theorem dX4_init_34 : decode cX4_init 34 = .ok (.bipush 6, 2) := by decide +kernel
theorem dX4_init_36 : decode cX4_init 36 = .ok (.newarray .int, 2) := by decide +kernel
theorem dX4_init_38 : decode cX4_init 38 = .ok (.putfield 25, 3) := by decide +kernel
theorem dX4_init_41 : decode cX4_init 41 = .ok (.aload_n 0, 1) := by decide +kernel
theorem dX4_init_42 : decode cX4_init 42 = .ok (.bipush 6, 2) := by decide +kernel
theorem dX4_init_44 : decode cX4_init 44 = .ok (.newarray .int, 2) := by decide +kernel
theorem dX4_init_46 : decode cX4_init 46 = .ok (.putfield 28, 3) := by decide +kernel
theorem dX4_init_49 : decode cX4_init 49 = .ok (.return_, 1) := by decide +kernel
theorem dX4_put_0 : decode cX4_put 0 = .ok (.aload_n 0, 1) := by decide +kernel
theorem dX4_put_1 : decode cX4_put 1 = .ok (.getfield 15, 3) := by decide +kernel
theorem dX4_put_4 : decode cX4_put 4 = .ok (.aload_n 0, 1) := by decide +kernel
theorem dX4_put_5 : decode cX4_put 5 = .ok (.getfield 9, 3) := by decide +kernel
theorem dX4_put_8 : decode cX4_put 8 = .ok (.iload_n 1, 1) := by decide +kernel
theorem dX4_put_9 : decode cX4_put 9 = .ok (.iastore, 1) := by decide +kernel
theorem dX4_put_10 : decode cX4_put 10 = .ok (.aload_n 0, 1) := by decide +kernel
theorem dX4_put_11 : decode cX4_put 11 = .ok (.getfield 19, 3) := by decide +kernel
theorem dX4_put_14 : decode cX4_put 14 = .ok (.aload_n 0, 1) := by decide +kernel
theorem dX4_put_15 : decode cX4_put 15 = .ok (.getfield 9, 3) := by decide +kernel
theorem dX4_put_18 : decode cX4_put 18 = .ok (.iload_n 2, 1) := by decide +kernel
theorem dX4_put_19 : decode cX4_put 19 = .ok (.iastore, 1) := by decide +kernel
theorem dX4_put_20 : decode cX4_put 20 = .ok (.aload_n 0, 1) := by decide +kernel
theorem dX4_put_21 : decode cX4_put 21 = .ok (.getfield 22, 3) := by decide +kernel
theorem dX4_put_24 : decode cX4_put 24 = .ok (.aload_n 0, 1) := by decide +kernel
theorem dX4_put_25 : decode cX4_put 25 = .ok (.getfield 9, 3) := by decide +kernel
theorem dX4_put_28 : decode cX4_put 28 = .ok (.iload_n 3, 1) := by decide +kernel
theorem dX4_put_29 : decode cX4_put 29 = .ok (.iastore, 1) := by decide +kernel
theorem dX4_put_30 : decode cX4_put 30 = .ok (.aload_n 0, 1) := by decide +kernel
theorem dX4_put_31 : decode cX4_put 31 = .ok (.getfield 25, 3) := by decide +kernel
theorem dX4_put_34 : decode cX4_put 34 = .ok (.aload_n 0, 1) := by decide +kernel
theorem dX4_put_35 : decode cX4_put 35 = .ok (.getfield 9, 3) := by decide +kernel
theorem dX4_put_38 : decode cX4_put 38 = .ok (.iload 4, 2) := by decide +kernel
theorem dX4_put_40 : decode cX4_put 40 = .ok (.iastore, 1) := by decide +kernel
theorem dX4_put_41 : decode cX4_put 41 = .ok (.aload_n 0, 1) := by decide +kernel
theorem dX4_put_42 : decode cX4_put 42 = .ok (.getfield 28, 3) := by decide +kernel
theorem dX4_put_45 : decode cX4_put 45 = .ok (.aload_n 0, 1) := by decide +kernel
theorem dX4_put_46 : decode cX4_put 46 = .ok (.getfield 9, 3) := by decide +kernel
theorem dX4_put_49 : decode cX4_put 49 = .ok (.iload 5, 2) := by decide +kernel
theorem dX4_put_51 : decode cX4_put 51 = .ok (.iastore, 1) := by decide +kernel
theorem dX4_put_52 : decode cX4_put 52 = .ok (.aload_n 0, 1) := by decide +kernel
theorem dX4_put_53 : decode cX4_put 53 = .ok (.dup, 1) := by decide +kernel
theorem dX4_put_54 : decode cX4_put 54 = .ok (.getfield 9, 3) := by decide +kernel
theorem dX4_put_57 : decode cX4_put 57 = .ok (.iconst 1, 1) := by decide +kernel
theorem dX4_put_58 : decode cX4_put 58 = .ok (.iadd, 1) := by decide +kernel
theorem dX4_put_59 : decode cX4_put 59 = .ok (.putfield 9, 3) := by decide +kernel
theorem dX4_put_62 : decode cX4_put 62 = .ok (.aload_n 0, 1) := by decide +kernel
theorem dX4_put_63 : decode cX4_put 63 = .ok (.getfield 9, 3) := by decide +kernel
theorem dX4_put_66 : decode cX4_put 66 = .ok (.iconst 1, 1) := by decide +kernel
theorem dX4_put_67 : decode cX4_put 67 = .ok (.isub, 1) := by decide +kernel
theorem dX4_put_68 : decode cX4_put 68 = .ok (.ireturn, 1) := by decide +kernel
set_option maxRecDepth 20000 in
theorem ggX4_number_X4_added : GoodIn wsX4_number wsX4_added := goodIn_r _ [10, 1, 3, 2, 4, 11, 12, 13, 14, 15, 16, 33, 34, 35, 36, 37, 38, 39] (by decide +kernel) (by decide +kernel)
set_option maxRecDepth 20000 in
theorem gX4_number_X4_added : GoodIn wsX4_number (wsV RX4 31 RX4 yX4_added wsX4_added) := goodIn_app (goodIn_of _ (by decide +kernel)) ggX4_number_X4_added
set_option maxRecDepth 20000 in
theorem ggX4_number_X4_darkest : GoodIn wsX4_number wsX4_darkest := goodIn_r _ [20, 1, 3, 2, 4, 21, 22, 23, 24, 11, 12, 13, 14, 15, 16, 33, 34, 35, 36, 37, 38, 39] (by decide +kernel) (by decide +kernel)
set_option maxRecDepth 20000 in
theorem gX4_number_X4_darkest : GoodIn wsX4_number (wsV RX4 35 RX4 yX4_darkest wsX4_darkest) := goodIn_app (goodIn_of _ (by decide +kernel)) ggX4_number_X4_darkest
set_option maxRecDepth 20000 in
theorem ggX4_number_X4_brings : GoodIn wsX4_number wsX4_brings := goodIn_r _ [28, 5, 21, 22, 23, 24, 29, 30, 31, 9, 32, 3, 4, 6, 7, 8, 10, 1, 2, 11, 12, 13, 14, 15, 16, 33, 34, 35, 36, 37, 38, 39] (by decide +kernel) (by decide +kernel)
set_option maxRecDepth 20000 in
theorem gX4_number_X4_brings : GoodIn wsX4_number (wsV RX4 38 RX4 yX4_brings wsX4_brings) := goodIn_app (goodIn_of _ (by decide +kernel)) ggX4_number_X4_brings
theorem dX4_number_0 : decode cX4_number 0 = .ok (.iload_n 2, 1) := by decide +kernel
theorem dX4_number_1 : decode cX4_number 1 = .ok (.tableswitch 92 0 6 #[43, 50, 57, 64, 71, 78, 85], 43) := by decide +kernel
theorem dX4_number_44 : decode cX4_number 44 = .ok (.aload_n 0, 1) := by decide +kernel
theorem dX4_number_45 : decode cX4_number 45 = .ok (.getfield 15, 3) := by decide +kernel
theorem dX4_number_48 : decode cX4_number 48 = .ok (.iload_n 1, 1) := by decide +kernel
theorem dX4_number_49 : decode cX4_number 49 = .ok (.iaload, 1) := by decide +kernel
theorem dX4_number_50 : decode cX4_number 50 = .ok (.ireturn, 1) := by decide +kernel
theorem dX4_number_51 : decode cX4_number 51 = .ok (.aload_n 0, 1) := by decide +kernel
theorem dX4_number_52 : decode cX4_number 52 = .ok (.getfield 19, 3) := by decide +kernel
theorem dX4_number_55 : decode cX4_number 55 = .ok (.iload_n 1, 1) := by decide +kernel
theorem dX4_number_56 : decode cX4_number 56 = .ok (.iaload, 1) := by decide +kernel
theorem dX4_number_57 : decode cX4_number 57 = .ok (.ireturn, 1) := by decide +kernel
theorem dX4_number_58 : decode cX4_number 58 = .ok (.aload_n 0, 1) := by decide +kernel
theorem dX4_number_59 : decode cX4_number 59 = .ok (.getfield 22, 3) := by decide +kernel
theorem dX4_number_62 : decode cX4_number 62 = .ok (.iload_n 1, 1) := by decide +kernel
theorem dX4_number_63 : decode cX4_number 63 = .ok (.iaload, 1) := by decide +kernel
theorem dX4_number_64 : decode cX4_number 64 = .ok (.ireturn, 1) := by decide +kernel
theorem dX4_number_65 : decode cX4_number 65 = .ok (.aload_n 0, 1) := by decide +kernel
theorem dX4_number_66 : decode cX4_number 66 = .ok (.getfield 25, 3) := by decide +kernel
theorem dX4_number_69 : decode cX4_number 69 = .ok (.iload_n 1, 1) := by decide +kernel
theorem dX4_number_70 : decode cX4_number 70 = .ok (.iaload, 1) := by decide +kernel
theorem dX4_number_71 : decode cX4_number 71 = .ok (.ireturn, 1) := by decide +kernel
theorem dX4_number_72 : decode cX4_number 72 = .ok (.aload_n 0, 1) := by decide +kernel
theorem dX4_number_73 : decode cX4_number 73 = .ok (.getfield 28, 3) := by decide +kernel
theorem dX4_number_76 : decode cX4_number 76 = .ok (.iload_n 1, 1) := by decide +kernel
theorem dX4_number_77 : decode cX4_number 77 = .ok (.iaload, 1) := by decide +kernel
theorem dX4_number_78 : decode cX4_number 78 = .ok (.ireturn, 1) := by decide +kernel
theorem dX4_number_79 : decode cX4_number 79 = .ok (.aload_n 0, 1) := by decide +kernel
theorem dX4_number_80 : decode cX4_number 80 = .ok (.iload_n 1, 1) := by decide +kernel
theorem dX4_number_81 : decode cX4_number 81 = .ok (.aload_n 3, 1) := by decide +kernel
theorem dX4_number_82 : decode cX4_number 82 = .ok (.invokevirtual 31, 3) := by decide +kernel
theorem dX4_number_85 : decode cX4_number 85 = .ok (.ireturn, 1) := by decide +kernel
theorem dX4_number_86 : decode cX4_number 86 = .ok (.aload_n 0, 1) := by decide +kernel
theorem dX4_number_87 : decode cX4_number 87 = .ok (.iload_n 1, 1) := by decide +kernel
theorem dX4_number_88 : decode cX4_number 88 = .ok (.aload_n 3, 1) := by decide +kernel
theorem dX4_number_89 : decode cX4_number 89 = .ok (.invokevirtual 35, 3) := by decide +kernel
theorem dX4_number_92 : decode cX4_number 92 = .ok (.ireturn, 1) := by decide +kernel
theorem dX4_number_93 : decode cX4_number 93 = .ok (.aload_n 0, 1) := by decide +kernel
theorem dX4_number_94 : decode cX4_number 94 = .ok (.iload_n 1, 1) := by decide +kernel
theorem dX4_number_95 : decode cX4_number 95 = .ok (.aload_n 3, 1) := by decide +kernel
theorem dX4_number_96 : decode cX4_number 96 = .ok (.invokevirtual 38, 3) := by decide +kernel
theorem dX4_number_99 : decode cX4_number 99 = .ok (.ireturn, 1) := by decide +kernel
theorem dX4_panes_0 : decode cX4_panes 0 = .ok (.aload_n 0, 1) := by decide +kernel
theorem dX4_panes_1 : decode cX4_panes 1 = .ok (.getfield 22, 3) := by decide +kernel
theorem dX4_panes_4 : decode cX4_panes 4 = .ok (.iload_n 1, 1) := by decide +kernel
theorem dX4_panes_5 : decode cX4_panes 5 = .ok (.iaload, 1) := by decide +kernel
theorem dX4_panes_6 : decode cX4_panes 6 = .ok (.aload_n 0, 1) := by decide +kernel
theorem dX4_panes_7 : decode cX4_panes 7 = .ok (.getfield 25, 3) := by decide +kernel
theorem dX4_panes_10 : decode cX4_panes 10 = .ok (.iload_n 1, 1) := by decide +kernel
theorem dX4_panes_11 : decode cX4_panes 11 = .ok (.iaload, 1) := by decide +kernel
theorem dX4_panes_12 : decode cX4_panes 12 = .ok (.imul, 1) := by decide +kernel
theorem dX4_panes_13 : decode cX4_panes 13 = .ok (.ireturn, 1) := by decide +kernel
set_option maxRecDepth 20000 in
theorem ggX4_added_X2_at : GoodIn wsX4_added wsX2_at := goodIn_r _ [9, 10, 17] (by decide +kernel) (by decide +kernel)
set_option maxRecDepth 20000 in
theorem gX4_added_X2_at : GoodIn wsX4_added (wsV RX4 41 RX2 yX2_at wsX2_at) := goodIn_app (goodIn_of _ (by decide +kernel)) ggX4_added_X2_at
theorem dX4_added_0 : decode cX4_added 0 = .ok (.iconst 0, 1) := by decide +kernel
theorem dX4_added_1 : decode cX4_added 1 = .ok (.istore_n 3, 1) := by decide +kernel
theorem dX4_added_2 : decode cX4_added 2 = .ok (.aload_n 0, 1) := by decide +kernel
theorem dX4_added_3 : decode cX4_added 3 = .ok (.getfield 15, 3) := by decide +kernel
theorem dX4_added_6 : decode cX4_added 6 = .ok (.iload_n 1, 1) := by decide +kernel
theorem dX4_added_7 : decode cX4_added 7 = .ok (.iaload, 1) := by decide +kernel
theorem dX4_added_8 : decode cX4_added 8 = .ok (.istore 4, 2) := by decide +kernel
theorem dX4_added_10 : decode cX4_added 10 = .ok (.iload 4, 2) := by decide +kernel
theorem dX4_added_12 : decode cX4_added 12 = .ok (.aload_n 0, 1) := by decide +kernel
theorem dX4_added_13 : decode cX4_added 13 = .ok (.getfield 15, 3) := by decide +kernel
theorem dX4_added_16 : decode cX4_added 16 = .ok (.iload_n 1, 1) := by decide +kernel
theorem dX4_added_17 : decode cX4_added 17 = .ok (.iaload, 1) := by decide +kernel
theorem dX4_added_18 : decode cX4_added 18 = .ok (.aload_n 0, 1) := by decide +kernel
theorem dX4_added_19 : decode cX4_added 19 = .ok (.getfield 22, 3) := by decide +kernel
theorem dX4_added_22 : decode cX4_added 22 = .ok (.iload_n 1, 1) := by decide +kernel
theorem dX4_added_23 : decode cX4_added 23 = .ok (.iaload, 1) := by decide +kernel
theorem dX4_added_24 : decode cX4_added 24 = .ok (.iadd, 1) := by decide +kernel
theorem dX4_added_25 : decode cX4_added 25 = .ok (.if_icmp .ge 52, 3) := by decide +kernel
theorem dX4_added_28 : decode cX4_added 28 = .ok (.aload_n 0, 1) := by decide +kernel
theorem dX4_added_29 : decode cX4_added 29 = .ok (.getfield 19, 3) := by decide +kernel
theorem dX4_added_32 : decode cX4_added 32 = .ok (.iload_n 1, 1) := by decide +kernel
theorem dX4_added_33 : decode cX4_added 33 = .ok (.iaload, 1) := by decide +kernel
theorem dX4_added_34 : decode cX4_added 34 = .ok (.istore 5, 2) := by decide +kernel
theorem dX4_added_36 : decode cX4_added 36 = .ok (.iload 5, 2) := by decide +kernel
theorem dX4_added_38 : decode cX4_added 38 = .ok (.aload_n 0, 1) := by decide +kernel
theorem dX4_added_39 : decode cX4_added 39 = .ok (.getfield 19, 3) := by decide +kernel
theorem dX4_added_42 : decode cX4_added 42 = .ok (.iload_n 1, 1) := by decide +kernel
theorem dX4_added_43 : decode cX4_added 43 = .ok (.iaload, 1) := by decide +kernel
theorem dX4_added_44 : decode cX4_added 44 = .ok (.aload_n 0, 1) := by decide +kernel
theorem dX4_added_45 : decode cX4_added 45 = .ok (.getfield 25, 3) := by decide +kernel
theorem dX4_added_48 : decode cX4_added 48 = .ok (.iload_n 1, 1) := by decide +kernel
theorem dX4_added_49 : decode cX4_added 49 = .ok (.iaload, 1) := by decide +kernel
theorem dX4_added_50 : decode cX4_added 50 = .ok (.iadd, 1) := by decide +kernel
theorem dX4_added_51 : decode cX4_added 51 = .ok (.if_icmp .ge 20, 3) := by decide +kernel
theorem dX4_added_54 : decode cX4_added 54 = .ok (.iload_n 3, 1) := by decide +kernel
theorem dX4_added_55 : decode cX4_added 55 = .ok (.aload_n 2, 1) := by decide +kernel
theorem dX4_added_56 : decode cX4_added 56 = .ok (.iload 4, 2) := by decide +kernel
theorem dX4_added_58 : decode cX4_added 58 = .ok (.iload 5, 2) := by decide +kernel
theorem dX4_added_60 : decode cX4_added 60 = .ok (.invokevirtual 41, 3) := by decide +kernel
theorem dX4_added_63 : decode cX4_added 63 = .ok (.iadd, 1) := by decide +kernel
theorem dX4_added_64 : decode cX4_added 64 = .ok (.istore_n 3, 1) := by decide +kernel
theorem dX4_added_65 : decode cX4_added 65 = .ok (.iinc 5 1, 3) := by decide +kernel
theorem dX4_added_68 : decode cX4_added 68 = .ok (.goto (-32), 3) := by decide +kernel
theorem dX4_added_71 : decode cX4_added 71 = .ok (.iinc 4 1, 3) := by decide +kernel
theorem dX4_added_74 : decode cX4_added 74 = .ok (.goto (-64), 3) := by decide +kernel
theorem dX4_added_77 : decode cX4_added 77 = .ok (.iload_n 3, 1) := by decide +kernel
theorem dX4_added_78 : decode cX4_added 78 = .ok (.ireturn, 1) := by decide +kernel
set_option maxRecDepth 20000 in
theorem ggX4_darkest_X2_at : GoodIn wsX4_darkest wsX2_at := goodIn_r _ [13, 14, 21] (by decide +kernel) (by decide +kernel)
set_option maxRecDepth 20000 in
theorem gX4_darkest_X2_at : GoodIn wsX4_darkest (wsV RX4 41 RX2 yX2_at wsX2_at) := goodIn_app (goodIn_of _ (by decide +kernel)) ggX4_darkest_X2_at
theorem dX4_darkest_0 : decode cX4_darkest 0 = .ok (.iconst 0, 1) := by decide +kernel
theorem dX4_darkest_1 : decode cX4_darkest 1 = .ok (.istore_n 3, 1) := by decide +kernel
theorem dX4_darkest_2 : decode cX4_darkest 2 = .ok (.aload_n 0, 1) := by decide +kernel
theorem dX4_darkest_3 : decode cX4_darkest 3 = .ok (.getfield 15, 3) := by decide +kernel
theorem dX4_darkest_6 : decode cX4_darkest 6 = .ok (.iload_n 1, 1) := by decide +kernel
theorem dX4_darkest_7 : decode cX4_darkest 7 = .ok (.iaload, 1) := by decide +kernel
theorem dX4_darkest_8 : decode cX4_darkest 8 = .ok (.istore 4, 2) := by decide +kernel
theorem dX4_darkest_10 : decode cX4_darkest 10 = .ok (.iload 4, 2) := by decide +kernel
theorem dX4_darkest_12 : decode cX4_darkest 12 = .ok (.aload_n 0, 1) := by decide +kernel
theorem dX4_darkest_13 : decode cX4_darkest 13 = .ok (.getfield 15, 3) := by decide +kernel
theorem dX4_darkest_16 : decode cX4_darkest 16 = .ok (.iload_n 1, 1) := by decide +kernel
theorem dX4_darkest_17 : decode cX4_darkest 17 = .ok (.iaload, 1) := by decide +kernel
theorem dX4_darkest_18 : decode cX4_darkest 18 = .ok (.aload_n 0, 1) := by decide +kernel
theorem dX4_darkest_19 : decode cX4_darkest 19 = .ok (.getfield 22, 3) := by decide +kernel
theorem dX4_darkest_22 : decode cX4_darkest 22 = .ok (.iload_n 1, 1) := by decide +kernel
theorem dX4_darkest_23 : decode cX4_darkest 23 = .ok (.iaload, 1) := by decide +kernel
theorem dX4_darkest_24 : decode cX4_darkest 24 = .ok (.iadd, 1) := by decide +kernel
theorem dX4_darkest_25 : decode cX4_darkest 25 = .ok (.if_icmp .ge 54, 3) := by decide +kernel
theorem dX4_darkest_28 : decode cX4_darkest 28 = .ok (.aload_n 0, 1) := by decide +kernel
theorem dX4_darkest_29 : decode cX4_darkest 29 = .ok (.getfield 19, 3) := by decide +kernel
theorem dX4_darkest_32 : decode cX4_darkest 32 = .ok (.iload_n 1, 1) := by decide +kernel
theorem dX4_darkest_33 : decode cX4_darkest 33 = .ok (.iaload, 1) := by decide +kernel
theorem dX4_darkest_34 : decode cX4_darkest 34 = .ok (.istore 5, 2) := by decide +kernel
theorem dX4_darkest_36 : decode cX4_darkest 36 = .ok (.iload 5, 2) := by decide +kernel
theorem dX4_darkest_38 : decode cX4_darkest 38 = .ok (.aload_n 0, 1) := by decide +kernel
theorem dX4_darkest_39 : decode cX4_darkest 39 = .ok (.getfield 19, 3) := by decide +kernel
theorem dX4_darkest_42 : decode cX4_darkest 42 = .ok (.iload_n 1, 1) := by decide +kernel
theorem dX4_darkest_43 : decode cX4_darkest 43 = .ok (.iaload, 1) := by decide +kernel
theorem dX4_darkest_44 : decode cX4_darkest 44 = .ok (.aload_n 0, 1) := by decide +kernel
theorem dX4_darkest_45 : decode cX4_darkest 45 = .ok (.getfield 25, 3) := by decide +kernel
theorem dX4_darkest_48 : decode cX4_darkest 48 = .ok (.iload_n 1, 1) := by decide +kernel
theorem dX4_darkest_49 : decode cX4_darkest 49 = .ok (.iaload, 1) := by decide +kernel
theorem dX4_darkest_50 : decode cX4_darkest 50 = .ok (.iadd, 1) := by decide +kernel
theorem dX4_darkest_51 : decode cX4_darkest 51 = .ok (.if_icmp .ge 22, 3) := by decide +kernel
theorem dX4_darkest_54 : decode cX4_darkest 54 = .ok (.iload_n 3, 1) := by decide +kernel
theorem dX4_darkest_55 : decode cX4_darkest 55 = .ok (.aload_n 2, 1) := by decide +kernel
theorem dX4_darkest_56 : decode cX4_darkest 56 = .ok (.iload 4, 2) := by decide +kernel
theorem dX4_darkest_58 : decode cX4_darkest 58 = .ok (.iload 5, 2) := by decide +kernel
theorem dX4_darkest_60 : decode cX4_darkest 60 = .ok (.invokevirtual 41, 3) := by decide +kernel
theorem dX4_darkest_63 : decode cX4_darkest 63 = .ok (.invokestatic 47, 3) := by decide +kernel
theorem dX4_darkest_66 : decode cX4_darkest 66 = .ok (.istore_n 3, 1) := by decide +kernel
theorem dX4_darkest_67 : decode cX4_darkest 67 = .ok (.iinc 5 1, 3) := by decide +kernel
theorem dX4_darkest_70 : decode cX4_darkest 70 = .ok (.goto (-34), 3) := by decide +kernel
theorem dX4_darkest_73 : decode cX4_darkest 73 = .ok (.iinc 4 1, 3) := by decide +kernel
theorem dX4_darkest_76 : decode cX4_darkest 76 = .ok (.goto (-66), 3) := by decide +kernel
theorem dX4_darkest_79 : decode cX4_darkest 79 = .ok (.iload_n 3, 1) := by decide +kernel
theorem dX4_darkest_80 : decode cX4_darkest 80 = .ok (.ireturn, 1) := by decide +kernel
set_option maxRecDepth 20000 in
theorem ggX4_brings_X4_panes : GoodIn wsX4_brings wsX4_panes := goodIn_r _ [10, 11, 12, 25, 26, 27, 28, 29, 30] (by decide +kernel) (by decide +kernel)
set_option maxRecDepth 20000 in
theorem gX4_brings_X4_panes : GoodIn wsX4_brings (wsV RX4 52 RX4 yX4_panes wsX4_panes) := goodIn_app (goodIn_of _ (by decide +kernel)) ggX4_brings_X4_panes
set_option maxRecDepth 20000 in
theorem ggX4_brings_X4_added : GoodIn wsX4_brings wsX4_added := goodIn_r _ [16, 17, 11, 18, 12, 19, 20, 21, 22, 23, 24, 25, 26, 27, 28, 29, 30, 31] (by decide +kernel) (by decide +kernel)
set_option maxRecDepth 20000 in
theorem gX4_brings_X4_added : GoodIn wsX4_brings (wsV RX4 31 RX4 yX4_added wsX4_added) := goodIn_app (goodIn_of _ (by decide +kernel)) ggX4_brings_X4_added
theorem dX4_brings_0 : decode cX4_brings 0 = .ok (.iconst 0, 1) := by decide +kernel
theorem dX4_brings_1 : decode cX4_brings 1 = .ok (.aload_n 0, 1) := by decide +kernel
theorem dX4_brings_2 : decode cX4_brings 2 = .ok (.getfield 28, 3) := by decide +kernel
theorem dX4_brings_5 : decode cX4_brings 5 = .ok (.iload_n 1, 1) := by decide +kernel
theorem dX4_brings_6 : decode cX4_brings 6 = .ok (.iaload, 1) := by decide +kernel
theorem dX4_brings_7 : decode cX4_brings 7 = .ok (.aload_n 0, 1) := by decide +kernel
theorem dX4_brings_8 : decode cX4_brings 8 = .ok (.iload_n 1, 1) := by decide +kernel
theorem dX4_brings_9 : decode cX4_brings 9 = .ok (.invokevirtual 52, 3) := by decide +kernel
theorem dX4_brings_12 : decode cX4_brings 12 = .ok (.imul, 1) := by decide +kernel
theorem dX4_brings_13 : decode cX4_brings 13 = .ok (.aload_n 0, 1) := by decide +kernel
theorem dX4_brings_14 : decode cX4_brings 14 = .ok (.iload_n 1, 1) := by decide +kernel
theorem dX4_brings_15 : decode cX4_brings 15 = .ok (.aload_n 2, 1) := by decide +kernel
theorem dX4_brings_16 : decode cX4_brings 16 = .ok (.invokevirtual 31, 3) := by decide +kernel
theorem dX4_brings_19 : decode cX4_brings 19 = .ok (.isub, 1) := by decide +kernel
theorem dX4_brings_20 : decode cX4_brings 20 = .ok (.invokestatic 47, 3) := by decide +kernel
theorem dX4_brings_23 : decode cX4_brings 23 = .ok (.ireturn, 1) := by decide +kernel
set_option maxRecDepth 20000 in
theorem ggX4_allBring_X4_brings : GoodIn wsX4_allBring wsX4_brings := goodIn_r _ [6, 7, 8, 9, 10, 11, 12, 13, 14, 5, 15, 16, 17, 18, 19, 20, 21, 22, 23, 24, 25, 26, 27, 28, 29, 30, 31, 32, 33, 34, 35, 36] (by decide +kernel) (by decide +kernel)
set_option maxRecDepth 20000 in
theorem gX4_allBring_X4_brings : GoodIn wsX4_allBring (wsV RX4 38 RX4 yX4_brings wsX4_brings) := goodIn_app (goodIn_of _ (by decide +kernel)) ggX4_allBring_X4_brings
theorem dX4_allBring_0 : decode cX4_allBring 0 = .ok (.iconst 0, 1) := by decide +kernel
theorem dX4_allBring_1 : decode cX4_allBring 1 = .ok (.istore_n 2, 1) := by decide +kernel
theorem dX4_allBring_2 : decode cX4_allBring 2 = .ok (.iconst 0, 1) := by decide +kernel
theorem dX4_allBring_3 : decode cX4_allBring 3 = .ok (.istore_n 3, 1) := by decide +kernel
theorem dX4_allBring_4 : decode cX4_allBring 4 = .ok (.iload_n 3, 1) := by decide +kernel
theorem dX4_allBring_5 : decode cX4_allBring 5 = .ok (.aload_n 0, 1) := by decide +kernel
theorem dX4_allBring_6 : decode cX4_allBring 6 = .ok (.getfield 9, 3) := by decide +kernel
theorem dX4_allBring_9 : decode cX4_allBring 9 = .ok (.if_icmp .ge 18, 3) := by decide +kernel
theorem dX4_allBring_12 : decode cX4_allBring 12 = .ok (.iload_n 2, 1) := by decide +kernel
theorem dX4_allBring_13 : decode cX4_allBring 13 = .ok (.aload_n 0, 1) := by decide +kernel
theorem dX4_allBring_14 : decode cX4_allBring 14 = .ok (.iload_n 3, 1) := by decide +kernel
theorem dX4_allBring_15 : decode cX4_allBring 15 = .ok (.aload_n 1, 1) := by decide +kernel
theorem dX4_allBring_16 : decode cX4_allBring 16 = .ok (.invokevirtual 38, 3) := by decide +kernel
theorem dX4_allBring_19 : decode cX4_allBring 19 = .ok (.iadd, 1) := by decide +kernel
theorem dX4_allBring_20 : decode cX4_allBring 20 = .ok (.istore_n 2, 1) := by decide +kernel
theorem dX4_allBring_21 : decode cX4_allBring 21 = .ok (.iinc 3 1, 3) := by decide +kernel
theorem dX4_allBring_24 : decode cX4_allBring 24 = .ok (.goto (-20), 3) := by decide +kernel
theorem dX4_allBring_27 : decode cX4_allBring 27 = .ok (.iload_n 2, 1) := by decide +kernel
theorem dX4_allBring_28 : decode cX4_allBring 28 = .ok (.ireturn, 1) := by decide +kernel
set_option maxRecDepth 20000 in
theorem ggX4_wipeOff_X2_takeOff : GoodIn wsX4_wipeOff wsX2_takeOff := goodIn_r _ [9, 10, 11, 12, 13, 14, 21] (by decide +kernel) (by decide +kernel)
set_option maxRecDepth 20000 in
theorem gX4_wipeOff_X2_takeOff : GoodIn wsX4_wipeOff (wsV RX4 56 RX2 yX2_takeOff wsX2_takeOff) := goodIn_app (goodIn_of _ (by decide +kernel)) ggX4_wipeOff_X2_takeOff
