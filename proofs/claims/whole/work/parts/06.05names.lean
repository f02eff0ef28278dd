theorem dX6_would_7 : decode cX6_would 7 = .ok (.bipush 40, 2) := by decide +kernel
theorem dX6_would_9 : decode cX6_would 9 = .ok (.invokestatic 35, 3) := by decide +kernel
theorem dX6_would_12 : decode cX6_would 12 = .ok (.ifCond .ne 9, 3) := by decide +kernel
theorem dX6_would_15 : decode cX6_would 15 = .ok (.aload_n 0, 1) := by decide +kernel
theorem dX6_would_16 : decode cX6_would 16 = .ok (.iconst 1, 1) := by decide +kernel
theorem dX6_would_17 : decode cX6_would 17 = .ok (.invokevirtual 55, 3) := by decide +kernel
theorem dX6_would_20 : decode cX6_would 20 = .ok (.ireturn, 1) := by decide +kernel
theorem dX6_would_21 : decode cX6_would 21 = .ok (.iload_n 2, 1) := by decide +kernel
theorem dX6_would_22 : decode cX6_would 22 = .ok (.iconst 0, 1) := by decide +kernel
theorem dX6_would_23 : decode cX6_would 23 = .ok (.iconst 2, 1) := by decide +kernel
theorem dX6_would_24 : decode cX6_would 24 = .ok (.invokestatic 35, 3) := by decide +kernel
theorem dX6_would_27 : decode cX6_would 27 = .ok (.ifCond .ne 9, 3) := by decide +kernel
theorem dX6_would_30 : decode cX6_would 30 = .ok (.aload_n 0, 1) := by decide +kernel
theorem dX6_would_31 : decode cX6_would 31 = .ok (.iconst 2, 1) := by decide +kernel
theorem dX6_would_32 : decode cX6_would 32 = .ok (.invokevirtual 55, 3) := by decide +kernel
theorem dX6_would_35 : decode cX6_would 35 = .ok (.ireturn, 1) := by decide +kernel
theorem dX6_would_36 : decode cX6_would 36 = .ok (.aload_n 0, 1) := by decide +kernel
theorem dX6_would_37 : decode cX6_would 37 = .ok (.invokevirtual 142, 3) := by decide +kernel
theorem dX6_would_40 : decode cX6_would 40 = .ok (.aload_n 0, 1) := by decide +kernel
theorem dX6_would_41 : decode cX6_would 41 = .ok (.iload_n 1, 1) := by decide +kernel
theorem dX6_would_42 : decode cX6_would 42 = .ok (.invokevirtual 121, 3) := by decide +kernel
theorem dX6_would_45 : decode cX6_would 45 = .ok (.iload_n 2, 1) := by decide +kernel
theorem dX6_would_46 : decode cX6_would 46 = .ok (.ifCond .ne 10, 3) := by decide +kernel
theorem dX6_would_49 : decode cX6_would 49 = .ok (.aload_n 0, 1) := by decide +kernel
theorem dX6_would_50 : decode cX6_would 50 = .ok (.invokevirtual 130, 3) := by decide +kernel
theorem dX6_would_53 : decode cX6_would 53 = .ok (.goto 21, 3) := by decide +kernel
theorem dX6_would_56 : decode cX6_would 56 = .ok (.iload_n 2, 1) := by decide +kernel
theorem dX6_would_57 : decode cX6_would 57 = .ok (.iconst 1, 1) := by decide +kernel
theorem dX6_would_58 : decode cX6_would 58 = .ok (.if_icmp .ne 12, 3) := by decide +kernel
theorem dX6_would_61 : decode cX6_would 61 = .ok (.aload_n 0, 1) := by decide +kernel
theorem dX6_would_62 : decode cX6_would 62 = .ok (.getfield 22, 3) := by decide +kernel
theorem dX6_would_65 : decode cX6_would 65 = .ok (.iconst 2, 1) := by decide +kernel
theorem dX6_would_66 : decode cX6_would 66 = .ok (.iaload, 1) := by decide +kernel
theorem dX6_would_67 : decode cX6_would 67 = .ok (.goto 7, 3) := by decide +kernel
theorem dX6_would_70 : decode cX6_would 70 = .ok (.aload_n 0, 1) := by decide +kernel
theorem dX6_would_71 : decode cX6_would 71 = .ok (.invokevirtual 133, 3) := by decide +kernel
theorem dX6_would_74 : decode cX6_would 74 = .ok (.istore_n 3, 1) := by decide +kernel
theorem dX6_would_75 : decode cX6_would 75 = .ok (.aload_n 0, 1) := by decide +kernel
theorem dX6_would_76 : decode cX6_would 76 = .ok (.invokevirtual 145, 3) := by decide +kernel
theorem dX6_would_79 : decode cX6_would 79 = .ok (.iload_n 3, 1) := by decide +kernel
theorem dX6_would_80 : decode cX6_would 80 = .ok (.ireturn, 1) := by decide +kernel
set_option maxRecDepth 20000 in
theorem ggX6_until_X6_isWindow : GoodIn wsX6_until wsX6_isWindow := goodIn_r _ [6, 7, 8, 9, 5, 10, 101, 102, 103, 104, 105, 106, 107, 108, 109, 110] (by decide +kernel) (by decide +kernel)
set_option maxRecDepth 20000 in
theorem gX6_until_X6_isWindow : GoodIn wsX6_until (wsV RX6 74 RX6 yX6_isWindow wsX6_isWindow) := goodIn_app (goodIn_of _ (by decide +kernel)) ggX6_until_X6_isWindow
set_option maxRecDepth 20000 in
theorem ggX6_until_X6_fail : GoodIn wsX6_until wsX6_fail := goodIn_r _ [14, 1, 101, 102, 103, 104, 105, 106, 107, 108, 109, 110] (by decide +kernel) (by decide +kernel)
set_option maxRecDepth 20000 in
theorem gX6_until_X6_fail : GoodIn wsX6_until (wsV RX6 55 RX6 yX6_fail wsX6_fail) := goodIn_app (goodIn_of _ (by decide +kernel)) ggX6_until_X6_fail
set_option maxRecDepth 20000 in
theorem ggX6_until_X6_keep : GoodIn wsX6_until wsX6_keep := goodIn_r _ [18, 19, 20, 21, 22, 23, 24, 101, 102, 103, 104, 105, 106, 107, 108, 109, 110] (by decide +kernel) (by decide +kernel)
set_option maxRecDepth 20000 in
theorem gX6_until_X6_keep : GoodIn wsX6_until (wsV RX6 142 RX6 yX6_keep wsX6_keep) := goodIn_app (goodIn_of _ (by decide +kernel)) ggX6_until_X6_keep
set_option maxRecDepth 20000 in
theorem ggX6_until_X6_sootOf : GoodIn wsX6_until wsX6_sootOf := goodIn_r _ [28, 19, 29, 30, 31, 32, 33, 34, 35, 5, 36, 37, 38, 39, 40, 101, 102, 103, 104, 105, 106, 107, 108, 109, 110] (by decide +kernel) (by decide +kernel)
set_option maxRecDepth 20000 in
theorem gX6_until_X6_sootOf : GoodIn wsX6_until (wsV RX6 91 RX6 yX6_sootOf wsX6_sootOf) := goodIn_app (goodIn_of _ (by decide +kernel)) ggX6_until_X6_sootOf
set_option maxRecDepth 20000 in
theorem ggX6_until_X6_panes : GoodIn wsX6_until wsX6_panes := goodIn_r _ [44, 33, 34, 35, 5, 36, 37, 101, 102, 103, 104, 105, 106, 107, 108, 109, 110] (by decide +kernel) (by decide +kernel)
set_option maxRecDepth 20000 in
theorem gX6_until_X6_panes : GoodIn wsX6_until (wsV RX6 88 RX6 yX6_panes wsX6_panes) := goodIn_app (goodIn_of _ (by decide +kernel)) ggX6_until_X6_panes
set_option maxRecDepth 20000 in
theorem ggX6_until_X6_dayOn : GoodIn wsX6_until wsX6_dayOn := goodIn_r _ [48, 19, 49, 50, 31, 51, 52, 53, 54, 55, 5, 56, 29, 30, 32, 38, 39, 40, 57, 58, 59, 60, 61, 62, 63, 64, 65, 66, 67, 7, 68, 69, 70, 71, 33, 34, 35, 36, 37, 41, 42, 43, 44, 25, 26, 27, 28, 72, 73, 74, 75, 76, 77, 78, 79, 80, 81, 82, 83, 84, 85, 86, 87, 88, 89, 90, 91, 92, 93, 94, 95, 96, 101, 102, 103, 104, 105, 106, 107, 108, 109, 110] (by decide +kernel) (by decide +kernel)
set_option maxRecDepth 20000 in
theorem gX6_until_X6_dayOn : GoodIn wsX6_until (wsV RX6 118 RX6 yX6_dayOn wsX6_dayOn) := goodIn_app (goodIn_of _ (by decide +kernel)) ggX6_until_X6_dayOn
set_option maxRecDepth 20000 in
theorem ggX6_until_X6_bringBack : GoodIn wsX6_until wsX6_bringBack := goodIn_r _ [100, 20, 19, 21, 22, 23, 24, 101, 102, 103, 104, 105, 106, 107, 108, 109, 110] (by decide +kernel) (by decide +kernel)
set_option maxRecDepth 20000 in
theorem gX6_until_X6_bringBack : GoodIn wsX6_until (wsV RX6 145 RX6 yX6_bringBack wsX6_bringBack) := goodIn_app (goodIn_of _ (by decide +kernel)) ggX6_until_X6_bringBack
theorem dX6_until_0 : decode cX6_until 0 = .ok (.aload_n 0, 1) := by decide +kernel
theorem dX6_until_1 : decode cX6_until 1 = .ok (.iconst 0, 1) := by decide +kernel
theorem dX6_until_2 : decode cX6_until 2 = .ok (.putfield 28, 3) := by decide +kernel
theorem dX6_until_5 : decode cX6_until 5 = .ok (.aload_n 0, 1) := by decide +kernel
theorem dX6_until_6 : decode cX6_until 6 = .ok (.iload_n 1, 1) := by decide +kernel
theorem dX6_until_7 : decode cX6_until 7 = .ok (.invokevirtual 74, 3) := by decide +kernel
theorem dX6_until_10 : decode cX6_until 10 = .ok (.ifCond .ne 9, 3) := by decide +kernel
theorem dX6_until_13 : decode cX6_until 13 = .ok (.aload_n 0, 1) := by decide +kernel
theorem dX6_until_14 : decode cX6_until 14 = .ok (.iconst 1, 1) := by decide +kernel
theorem dX6_until_15 : decode cX6_until 15 = .ok (.invokevirtual 55, 3) := by decide +kernel
theorem dX6_until_18 : decode cX6_until 18 = .ok (.ireturn, 1) := by decide +kernel
theorem dX6_until_19 : decode cX6_until 19 = .ok (.aload_n 0, 1) := by decide +kernel
theorem dX6_until_20 : decode cX6_until 20 = .ok (.invokevirtual 142, 3) := by decide +kernel
theorem dX6_until_23 : decode cX6_until 23 = .ok (.iconst 0, 1) := by decide +kernel
theorem dX6_until_24 : decode cX6_until 24 = .ok (.istore_n 2, 1) := by decide +kernel
theorem dX6_until_25 : decode cX6_until 25 = .ok (.iload_n 2, 1) := by decide +kernel
theorem dX6_until_26 : decode cX6_until 26 = .ok (.bipush 60, 2) := by decide +kernel
theorem dX6_until_28 : decode cX6_until 28 = .ok (.if_icmp .gt 27, 3) := by decide +kernel
theorem dX6_until_31 : decode cX6_until 31 = .ok (.aload_n 0, 1) := by decide +kernel
theorem dX6_until_32 : decode cX6_until 32 = .ok (.iload_n 1, 1) := by decide +kernel
theorem dX6_until_33 : decode cX6_until 33 = .ok (.iconst 0, 1) := by decide +kernel
theorem dX6_until_34 : decode cX6_until 34 = .ok (.invokevirtual 91, 3) := by decide +kernel
theorem dX6_until_37 : decode cX6_until 37 = .ok (.aload_n 0, 1) := by decide +kernel
theorem dX6_until_38 : decode cX6_until 38 = .ok (.iload_n 1, 1) := by decide +kernel
theorem dX6_until_39 : decode cX6_until 39 = .ok (.invokevirtual 88, 3) := by decide +kernel
theorem dX6_until_42 : decode cX6_until 42 = .ok (.if_icmp .le 13, 3) := by decide +kernel
theorem dX6_until_45 : decode cX6_until 45 = .ok (.aload_n 0, 1) := by decide +kernel
theorem dX6_until_46 : decode cX6_until 46 = .ok (.invokevirtual 118, 3) := by decide +kernel
theorem dX6_until_49 : decode cX6_until 49 = .ok (.iinc 2 1, 3) := by decide +kernel
theorem dX6_until_52 : decode cX6_until 52 = .ok (.goto (-27), 3) := by decide +kernel
theorem dX6_until_55 : decode cX6_until 55 = .ok (.aload_n 0, 1) := by decide +kernel
theorem dX6_until_56 : decode cX6_until 56 = .ok (.invokevirtual 145, 3) := by decide +kernel
theorem dX6_until_59 : decode cX6_until 59 = .ok (.iload_n 2, 1) := by decide +kernel
theorem dX6_until_60 : decode cX6_until 60 = .ok (.bipush 60, 2) := by decide +kernel
theorem dX6_until_62 : decode cX6_until 62 = .ok (.if_icmp .le 7, 3) := by decide +kernel
theorem dX6_until_65 : decode cX6_until 65 = .ok (.iconst (-1), 1) := by decide +kernel
theorem dX6_until_66 : decode cX6_until 66 = .ok (.goto 4, 3) := by decide +kernel
theorem dX6_until_69 : decode cX6_until 69 = .ok (.iload_n 2, 1) := by decide +kernel
theorem dX6_until_70 : decode cX6_until 70 = .ok (.ireturn, 1) := by decide +kernel
set_option maxRecDepth 20000 in
theorem ggX6_advise_X6_isRope : GoodIn wsX6_advise wsX6_isRope := goodIn_r _ [7, 8, 9, 10, 6, 11, 109, 110, 111, 112, 113, 114, 115, 116, 117, 118] (by decide +kernel) (by decide +kernel)
set_option maxRecDepth 20000 in
theorem gX6_advise_X6_isRope : GoodIn wsX6_advise (wsV RX6 67 RX6 yX6_isRope wsX6_isRope) := goodIn_app (goodIn_of _ (by decide +kernel)) ggX6_advise_X6_isRope
set_option maxRecDepth 20000 in
theorem ggX6_advise_X6_fail : GoodIn wsX6_advise wsX6_fail := goodIn_r _ [15, 1, 109, 110, 111, 112, 113, 114, 115, 116, 117, 118] (by decide +kernel) (by decide +kernel)
set_option maxRecDepth 20000 in
theorem gX6_advise_X6_fail : GoodIn wsX6_advise (wsV RX6 55 RX6 yX6_fail wsX6_fail) := goodIn_app (goodIn_of _ (by decide +kernel)) ggX6_advise_X6_fail
set_option maxRecDepth 20000 in
theorem ggX6_advise_X6_nextFeast : GoodIn wsX6_advise wsX6_nextFeast := goodIn_r _ [19, 2, 20, 21, 22, 6, 23, 24, 25, 26, 109, 110, 111, 112, 113, 114, 115, 116, 117, 118] (by decide +kernel) (by decide +kernel)
set_option maxRecDepth 20000 in
theorem gX6_advise_X6_nextFeast : GoodIn wsX6_advise (wsV RX6 139 RX6 yX6_nextFeast wsX6_nextFeast) := goodIn_app (goodIn_of _ (by decide +kernel)) ggX6_advise_X6_nextFeast
set_option maxRecDepth 20000 in
theorem ggX6_advise_X6_keep : GoodIn wsX6_advise wsX6_keep := goodIn_r _ [30, 2, 31, 32, 33, 34, 35, 109, 110, 111, 112, 113, 114, 115, 116, 117, 118] (by decide +kernel) (by decide +kernel)
set_option maxRecDepth 20000 in
theorem gX6_advise_X6_keep : GoodIn wsX6_advise (wsV RX6 142 RX6 yX6_keep wsX6_keep) := goodIn_app (goodIn_of _ (by decide +kernel)) ggX6_advise_X6_keep
set_option maxRecDepth 20000 in
theorem ggX6_advise_X6_ro : GoodIn wsX6_advise wsX6_ro := goodIn_r _ [39, 2, 109, 110, 111, 112, 113, 114, 115, 116, 117, 118] (by decide +kernel) (by decide +kernel)
set_option maxRecDepth 20000 in
theorem gX6_advise_X6_ro : GoodIn wsX6_advise (wsV RX6 42 RX6 yX6_ro wsX6_ro) := goodIn_app (goodIn_of _ (by decide +kernel)) ggX6_advise_X6_ro
set_option maxRecDepth 20000 in
theorem ggX6_advise_X6_isHung : GoodIn wsX6_advise wsX6_isHung := goodIn_r _ [43, 8, 36, 37, 38, 6, 39, 2, 109, 110, 111, 112, 113, 114, 115, 116, 117, 118] (by decide +kernel) (by decide +kernel)
set_option maxRecDepth 20000 in
theorem gX6_advise_X6_isHung : GoodIn wsX6_advise (wsV RX6 59 RX6 yX6_isHung wsX6_isHung) := goodIn_app (goodIn_of _ (by decide +kernel)) ggX6_advise_X6_isHung
set_option maxRecDepth 20000 in
theorem ggX6_advise_X6_hang : GoodIn wsX6_advise wsX6_hang := goodIn_r _ [47, 48, 49, 50, 6, 51, 2, 36, 37, 38, 39, 109, 110, 111, 112, 113, 114, 115, 116, 117, 118] (by decide +kernel) (by decide +kernel)
set_option maxRecDepth 20000 in
theorem gX6_advise_X6_hang : GoodIn wsX6_advise (wsV RX6 70 RX6 yX6_hang wsX6_hang) := goodIn_app (goodIn_of _ (by decide +kernel)) ggX6_advise_X6_hang
set_option maxRecDepth 20000 in
theorem ggX6_advise_X6_daysOn : GoodIn wsX6_advise wsX6_daysOn := goodIn_r _ [55, 56, 57, 58, 6, 59, 2, 60, 61, 62, 63, 8, 64, 65, 66, 67, 68, 69, 70, 71, 72, 73, 20, 21, 22, 23, 24, 25, 26, 74, 75, 76, 77, 78, 79, 80, 81, 82, 83, 84, 85, 86, 87, 88, 89, 90, 91, 92, 93, 94, 95, 96, 97, 98, 99, 100, 36, 37, 38, 39, 48, 49, 50, 51, 101, 102, 103, 104, 40, 41, 42, 43, 44, 45, 46, 47, 109, 110, 111, 112, 113, 114, 115, 116, 117, 118] (by decide +kernel) (by decide +kernel)
set_option maxRecDepth 20000 in
theorem gX6_advise_X6_daysOn : GoodIn wsX6_advise (wsV RX6 121 RX6 yX6_daysOn wsX6_daysOn) := goodIn_app (goodIn_of _ (by decide +kernel)) ggX6_advise_X6_daysOn
set_option maxRecDepth 20000 in
theorem ggX6_advise_X6_bringBack : GoodIn wsX6_advise wsX6_bringBack := goodIn_r _ [108, 31, 2, 32, 33, 34, 35, 109, 110, 111, 112, 113, 114, 115, 116, 117, 118] (by decide +kernel) (by decide +kernel)
set_option maxRecDepth 20000 in
theorem gX6_advise_X6_bringBack : GoodIn wsX6_advise (wsV RX6 145 RX6 yX6_bringBack wsX6_bringBack) := goodIn_app (goodIn_of _ (by decide +kernel)) ggX6_advise_X6_bringBack
theorem dX6_advise_0 : decode cX6_advise 0 = .ok (.aload_n 0, 1) := by decide +kernel
theorem dX6_advise_1 : decode cX6_advise 1 = .ok (.iconst 0, 1) := by decide +kernel
theorem dX6_advise_2 : decode cX6_advise 2 = .ok (.putfield 28, 3) := by decide +kernel
theorem dX6_advise_5 : decode cX6_advise 5 = .ok (.aload_n 0, 1) := by decide +kernel
theorem dX6_advise_6 : decode cX6_advise 6 = .ok (.iload_n 1, 1) := by decide +kernel
theorem dX6_advise_7 : decode cX6_advise 7 = .ok (.invokevirtual 67, 3) := by decide +kernel
theorem dX6_advise_10 : decode cX6_advise 10 = .ok (.ifCond .ne 9, 3) := by decide +kernel
theorem dX6_advise_13 : decode cX6_advise 13 = .ok (.aload_n 0, 1) := by decide +kernel
theorem dX6_advise_14 : decode cX6_advise 14 = .ok (.iconst 1, 1) := by decide +kernel
theorem dX6_advise_15 : decode cX6_advise 15 = .ok (.invokevirtual 55, 3) := by decide +kernel
theorem dX6_advise_18 : decode cX6_advise 18 = .ok (.ireturn, 1) := by decide +kernel
theorem dX6_advise_19 : decode cX6_advise 19 = .ok (.aload_n 0, 1) := by decide +kernel
theorem dX6_advise_20 : decode cX6_advise 20 = .ok (.invokevirtual 139, 3) := by decide +kernel
theorem dX6_advise_23 : decode cX6_advise 23 = .ok (.istore_n 2, 1) := by decide +kernel
theorem dX6_advise_24 : decode cX6_advise 24 = .ok (.iload_n 2, 1) := by decide +kernel
theorem dX6_advise_25 : decode cX6_advise 25 = .ok (.iconst (-1), 1) := by decide +kernel
theorem dX6_advise_26 : decode cX6_advise 26 = .ok (.if_icmp .ne 9, 3) := by decide +kernel
theorem dX6_advise_29 : decode cX6_advise 29 = .ok (.aload_n 0, 1) := by decide +kernel
theorem dX6_advise_30 : decode cX6_advise 30 = .ok (.iconst 2, 1) := by decide +kernel
theorem dX6_advise_31 : decode cX6_advise 31 = .ok (.invokevirtual 55, 3) := by decide +kernel
theorem dX6_advise_34 : decode cX6_advise 34 = .ok (.ireturn, 1) := by decide +kernel
theorem dX6_advise_35 : decode cX6_advise 35 = .ok (.aload_n 0, 1) := by decide +kernel
theorem dX6_advise_36 : decode cX6_advise 36 = .ok (.invokevirtual 142, 3) := by decide +kernel
theorem dX6_advise_39 : decode cX6_advise 39 = .ok (.iconst (-1), 1) := by decide +kernel
theorem dX6_advise_40 : decode cX6_advise 40 = .ok (.istore_n 3, 1) := by decide +kernel
theorem dX6_advise_41 : decode cX6_advise 41 = .ok (.iconst (-1), 1) := by decide +kernel
theorem dX6_advise_42 : decode cX6_advise 42 = .ok (.istore 4, 2) := by decide +kernel
theorem dX6_advise_44 : decode cX6_advise 44 = .ok (.iconst 0, 1) := by decide +kernel
theorem dX6_advise_45 : decode cX6_advise 45 = .ok (.istore 5, 2) := by decide +kernel
theorem dX6_advise_47 : decode cX6_advise 47 = .ok (.iload 5, 2) := by decide +kernel
theorem dX6_advise_49 : decode cX6_advise 49 = .ok (.bipush 12, 2) := by decide +kernel
theorem dX6_advise_51 : decode cX6_advise 51 = .ok (.if_icmp .ge 75, 3) := by decide +kernel
theorem dX6_advise_54 : decode cX6_advise 54 = .ok (.iload 5, 2) := by decide +kernel
theorem dX6_advise_56 : decode cX6_advise 56 = .ok (.aload_n 0, 1) := by decide +kernel
theorem dX6_advise_57 : decode cX6_advise 57 = .ok (.iload_n 1, 1) := by decide +kernel
theorem dX6_advise_58 : decode cX6_advise 58 = .ok (.iconst 0, 1) := by decide +kernel
theorem dX6_advise_59 : decode cX6_advise 59 = .ok (.invokevirtual 42, 3) := by decide +kernel
theorem dX6_advise_62 : decode cX6_advise 62 = .ok (.if_icmp .eq 22, 3) := by decide +kernel
theorem dX6_advise_65 : decode cX6_advise 65 = .ok (.aload_n 0, 1) := by decide +kernel
theorem dX6_advise_66 : decode cX6_advise 66 = .ok (.iload 5, 2) := by decide +kernel
theorem dX6_advise_68 : decode cX6_advise 68 = .ok (.invokevirtual 59, 3) := by decide +kernel
theorem dX6_advise_71 : decode cX6_advise 71 = .ok (.ifCond .eq 6, 3) := by decide +kernel
theorem dX6_advise_74 : decode cX6_advise 74 = .ok (.goto 46, 3) := by decide +kernel
theorem dX6_advise_77 : decode cX6_advise 77 = .ok (.aload_n 0, 1) := by decide +kernel
theorem dX6_advise_78 : decode cX6_advise 78 = .ok (.iload_n 1, 1) := by decide +kernel
theorem dX6_advise_79 : decode cX6_advise 79 = .ok (.iload 5, 2) := by decide +kernel
theorem dX6_advise_81 : decode cX6_advise 81 = .ok (.invokevirtual 70, 3) := by decide +kernel
theorem dX6_advise_84 : decode cX6_advise 84 = .ok (.aload_n 0, 1) := by decide +kernel
theorem dX6_advise_85 : decode cX6_advise 85 = .ok (.iload_n 2, 1) := by decide +kernel
theorem dX6_advise_86 : decode cX6_advise 86 = .ok (.iconst 1, 1) := by decide +kernel
theorem dX6_advise_87 : decode cX6_advise 87 = .ok (.iadd, 1) := by decide +kernel
theorem dX6_advise_88 : decode cX6_advise 88 = .ok (.invokevirtual 121, 3) := by decide +kernel
theorem dX6_advise_91 : decode cX6_advise 91 = .ok (.aload_n 0, 1) := by decide +kernel
theorem dX6_advise_92 : decode cX6_advise 92 = .ok (.getfield 22, 3) := by decide +kernel
theorem dX6_advise_95 : decode cX6_advise 95 = .ok (.iconst 2, 1) := by decide +kernel
theorem dX6_advise_96 : decode cX6_advise 96 = .ok (.iaload, 1) := by decide +kernel
theorem dX6_advise_97 : decode cX6_advise 97 = .ok (.istore 6, 2) := by decide +kernel
theorem dX6_advise_99 : decode cX6_advise 99 = .ok (.aload_n 0, 1) := by decide +kernel
theorem dX6_advise_100 : decode cX6_advise 100 = .ok (.invokevirtual 145, 3) := by decide +kernel
theorem dX6_advise_103 : decode cX6_advise 103 = .ok (.iload 6, 2) := by decide +kernel
theorem dX6_advise_105 : decode cX6_advise 105 = .ok (.iload 4, 2) := by decide +kernel
theorem dX6_advise_107 : decode cX6_advise 107 = .ok (.if_icmp .gt 6, 3) := by decide +kernel
theorem dX6_advise_110 : decode cX6_advise 110 = .ok (.goto 10, 3) := by decide +kernel
theorem dX6_advise_113 : decode cX6_advise 113 = .ok (.iload 5, 2) := by decide +kernel
theorem dX6_advise_115 : decode cX6_advise 115 = .ok (.istore_n 3, 1) := by decide +kernel
theorem dX6_advise_116 : decode cX6_advise 116 = .ok (.iload 6, 2) := by decide +kernel
theorem dX6_advise_118 : decode cX6_advise 118 = .ok (.istore 4, 2) := by decide +kernel
theorem dX6_advise_120 : decode cX6_advise 120 = .ok (.iinc 5 1, 3) := by decide +kernel
theorem dX6_advise_123 : decode cX6_advise 123 = .ok (.goto (-76), 3) := by decide +kernel
theorem dX6_advise_126 : decode cX6_advise 126 = .ok (.iload_n 3, 1) := by decide +kernel
theorem dX6_advise_127 : decode cX6_advise 127 = .ok (.ireturn, 1) := by decide +kernel
set_option maxRecDepth 20000 in
theorem ggX6_mean_X6_allSoot : GoodIn wsX6_mean wsX6_allSoot := goodIn_r _ [7, 8, 9, 10, 11, 12, 13, 14, 15, 16, 17, 18] (by decide +kernel) (by decide +kernel)
set_option maxRecDepth 20000 in
theorem gX6_mean_X6_allSoot : GoodIn wsX6_mean (wsV RX6 130 RX6 yX6_allSoot wsX6_allSoot) := goodIn_app (goodIn_of _ (by decide +kernel)) ggX6_mean_X6_allSoot
theorem dX6_mean_0 : decode cX6_mean 0 = .ok (.aload_n 0, 1) := by decide +kernel
theorem dX6_mean_1 : decode cX6_mean 1 = .ok (.iconst 0, 1) := by decide +kernel
theorem dX6_mean_2 : decode cX6_mean 2 = .ok (.putfield 28, 3) := by decide +kernel
theorem dX6_mean_5 : decode cX6_mean 5 = .ok (.aload_n 0, 1) := by decide +kernel
theorem dX6_mean_6 : decode cX6_mean 6 = .ok (.invokevirtual 130, 3) := by decide +kernel
theorem dX6_mean_9 : decode cX6_mean 9 = .ok (.i2d, 1) := by decide +kernel
theorem dX6_mean_10 : decode cX6_mean 10 = .ok (.ldc2_w 148, 3) := by decide +kernel
theorem dX6_mean_13 : decode cX6_mean 13 = .ok (.ddiv, 1) := by decide +kernel
theorem dX6_mean_14 : decode cX6_mean 14 = .ok (.dreturn, 1) := by decide +kernel
set_option maxRecDepth 20000 in
theorem ggX6_digest_X6_counted : GoodIn wsX6_digest wsX6_counted := goodIn_r _ [11, 6, 4, 5, 12, 13, 14, 15, 10, 16, 17, 18, 19, 20, 21, 22, 23, 24, 25, 26, 27, 28, 29, 30, 31, 32, 33, 34, 35, 36, 37, 38, 39, 40, 41, 42, 43, 44, 45, 46, 47, 48, 49, 50, 51, 52, 62, 63, 64, 65, 66, 67, 68, 69, 70, 71] (by decide +kernel) (by decide +kernel)
set_option maxRecDepth 20000 in
theorem gX6_digest_X6_counted : GoodIn wsX6_digest (wsV RX6 136 RX6 yX6_counted wsX6_counted) := goodIn_app (goodIn_of _ (by decide +kernel)) ggX6_digest_X6_counted
set_option maxRecDepth 20000 in
theorem ggX6_digest_X6_windowTold : GoodIn wsX6_digest wsX6_windowTold := goodIn_r _ [56, 46, 47, 48, 10, 49, 6, 33, 34, 35, 36, 37, 38, 39, 40, 41, 50, 51, 52, 29, 30, 31, 32, 42, 43, 44, 45, 62, 63, 64, 65, 66, 67, 68, 69, 70, 71] (by decide +kernel) (by decide +kernel)
set_option maxRecDepth 20000 in
theorem gX6_digest_X6_windowTold : GoodIn wsX6_digest (wsV RX6 124 RX6 yX6_windowTold wsX6_windowTold) := goodIn_app (goodIn_of _ (by decide +kernel)) ggX6_digest_X6_windowTold
set_option maxRecDepth 20000 in
theorem ggX6_digest_X6_ropeTold : GoodIn wsX6_digest wsX6_ropeTold := goodIn_r _ [60, 61, 21, 22, 23, 10, 24, 6, 62, 63, 64, 65, 66, 67, 68, 69, 70, 71] (by decide +kernel) (by decide +kernel)
set_option maxRecDepth 20000 in
theorem gX6_digest_X6_ropeTold : GoodIn wsX6_digest (wsV RX6 127 RX6 yX6_ropeTold wsX6_ropeTold) := goodIn_app (goodIn_of _ (by decide +kernel)) ggX6_digest_X6_ropeTold
theorem dX6_digest_0 : decode cX6_digest 0 = .ok (.aload_n 0, 1) := by decide +kernel
theorem dX6_digest_1 : decode cX6_digest 1 = .ok (.iconst 0, 1) := by decide +kernel
theorem dX6_digest_2 : decode cX6_digest 2 = .ok (.putfield 28, 3) := by decide +kernel
theorem dX6_digest_5 : decode cX6_digest 5 = .ok (.ldc2_w 150, 3) := by decide +kernel
theorem dX6_digest_8 : decode cX6_digest 8 = .ok (.lstore_n 1, 1) := by decide +kernel
theorem dX6_digest_9 : decode cX6_digest 9 = .ok (.iconst 0, 1) := by decide +kernel
theorem dX6_digest_10 : decode cX6_digest 10 = .ok (.istore_n 3, 1) := by decide +kernel
theorem dX6_digest_11 : decode cX6_digest 11 = .ok (.iload_n 3, 1) := by decide +kernel
theorem dX6_digest_12 : decode cX6_digest 12 = .ok (.bipush 11, 2) := by decide +kernel
theorem dX6_digest_14 : decode cX6_digest 14 = .ok (.if_icmp .ge 22, 3) := by decide +kernel
theorem dX6_digest_17 : decode cX6_digest 17 = .ok (.lload_n 1, 1) := by decide +kernel
theorem dX6_digest_18 : decode cX6_digest 18 = .ok (.ldc2_w 152, 3) := by decide +kernel
theorem dX6_digest_21 : decode cX6_digest 21 = .ok (.lmul, 1) := by decide +kernel
theorem dX6_digest_22 : decode cX6_digest 22 = .ok (.aload_n 0, 1) := by decide +kernel
theorem dX6_digest_23 : decode cX6_digest 23 = .ok (.iload_n 3, 1) := by decide +kernel
theorem dX6_digest_24 : decode cX6_digest 24 = .ok (.invokevirtual 136, 3) := by decide +kernel
theorem dX6_digest_27 : decode cX6_digest 27 = .ok (.i2l, 1) := by decide +kernel
theorem dX6_digest_28 : decode cX6_digest 28 = .ok (.ladd, 1) := by decide +kernel
theorem dX6_digest_29 : decode cX6_digest 29 = .ok (.lstore_n 1, 1) := by decide +kernel
theorem dX6_digest_30 : decode cX6_digest 30 = .ok (.iinc 3 1, 3) := by decide +kernel
theorem dX6_digest_33 : decode cX6_digest 33 = .ok (.goto (-22), 3) := by decide +kernel
theorem dX6_digest_36 : decode cX6_digest 36 = .ok (.iconst 0, 1) := by decide +kernel
theorem dX6_digest_37 : decode cX6_digest 37 = .ok (.istore_n 3, 1) := by decide +kernel
theorem dX6_digest_38 : decode cX6_digest 38 = .ok (.iload_n 3, 1) := by decide +kernel
theorem dX6_digest_39 : decode cX6_digest 39 = .ok (.aload_n 0, 1) := by decide +kernel
theorem dX6_digest_40 : decode cX6_digest 40 = .ok (.getfield 32, 3) := by decide +kernel
theorem dX6_digest_43 : decode cX6_digest 43 = .ok (.if_icmp .ge 40, 3) := by decide +kernel
theorem dX6_digest_46 : decode cX6_digest 46 = .ok (.iconst 0, 1) := by decide +kernel
theorem dX6_digest_47 : decode cX6_digest 47 = .ok (.istore 4, 2) := by decide +kernel
theorem dX6_digest_49 : decode cX6_digest 49 = .ok (.iload 4, 2) := by decide +kernel
theorem dX6_digest_51 : decode cX6_digest 51 = .ok (.bipush 8, 2) := by decide +kernel
theorem dX6_digest_53 : decode cX6_digest 53 = .ok (.if_icmp .ge 24, 3) := by decide +kernel
theorem dX6_digest_56 : decode cX6_digest 56 = .ok (.lload_n 1, 1) := by decide +kernel
theorem dX6_digest_57 : decode cX6_digest 57 = .ok (.ldc2_w 152, 3) := by decide +kernel
theorem dX6_digest_60 : decode cX6_digest 60 = .ok (.lmul, 1) := by decide +kernel
theorem dX6_digest_61 : decode cX6_digest 61 = .ok (.aload_n 0, 1) := by decide +kernel
theorem dX6_digest_62 : decode cX6_digest 62 = .ok (.iload_n 3, 1) := by decide +kernel
theorem dX6_digest_63 : decode cX6_digest 63 = .ok (.iload 4, 2) := by decide +kernel
theorem dX6_digest_65 : decode cX6_digest 65 = .ok (.invokevirtual 124, 3) := by decide +kernel
theorem dX6_digest_68 : decode cX6_digest 68 = .ok (.i2l, 1) := by decide +kernel
theorem dX6_digest_69 : decode cX6_digest 69 = .ok (.ladd, 1) := by decide +kernel
theorem dX6_digest_70 : decode cX6_digest 70 = .ok (.lstore_n 1, 1) := by decide +kernel
theorem dX6_digest_71 : decode cX6_digest 71 = .ok (.iinc 4 1, 3) := by decide +kernel
theorem dX6_digest_74 : decode cX6_digest 74 = .ok (.goto (-25), 3) := by decide +kernel
theorem dX6_digest_77 : decode cX6_digest 77 = .ok (.iinc 3 1, 3) := by decide +kernel
theorem dX6_digest_80 : decode cX6_digest 80 = .ok (.goto (-42), 3) := by decide +kernel
theorem dX6_digest_83 : decode cX6_digest 83 = .ok (.iconst 0, 1) := by decide +kernel
theorem dX6_digest_84 : decode cX6_digest 84 = .ok (.istore_n 3, 1) := by decide +kernel
theorem dX6_digest_85 : decode cX6_digest 85 = .ok (.iload_n 3, 1) := by decide +kernel
theorem dX6_digest_86 : decode cX6_digest 86 = .ok (.aload_n 0, 1) := by decide +kernel
theorem dX6_digest_87 : decode cX6_digest 87 = .ok (.getfield 39, 3) := by decide +kernel
theorem dX6_digest_90 : decode cX6_digest 90 = .ok (.if_icmp .ge 40, 3) := by decide +kernel
theorem dX6_digest_93 : decode cX6_digest 93 = .ok (.iconst 0, 1) := by decide +kernel
theorem dX6_digest_94 : decode cX6_digest 94 = .ok (.istore 4, 2) := by decide +kernel
theorem dX6_digest_96 : decode cX6_digest 96 = .ok (.iload 4, 2) := by decide +kernel
theorem dX6_digest_98 : decode cX6_digest 98 = .ok (.bipush 6, 2) := by decide +kernel
theorem dX6_digest_100 : decode cX6_digest 100 = .ok (.if_icmp .ge 24, 3) := by decide +kernel
theorem dX6_digest_103 : decode cX6_digest 103 = .ok (.lload_n 1, 1) := by decide +kernel
theorem dX6_digest_104 : decode cX6_digest 104 = .ok (.ldc2_w 152, 3) := by decide +kernel
theorem dX6_digest_107 : decode cX6_digest 107 = .ok (.lmul, 1) := by decide +kernel
theorem dX6_digest_108 : decode cX6_digest 108 = .ok (.aload_n 0, 1) := by decide +kernel
theorem dX6_digest_109 : decode cX6_digest 109 = .ok (.iload_n 3, 1) := by decide +kernel
theorem dX6_digest_110 : decode cX6_digest 110 = .ok (.iload 4, 2) := by decide +kernel
theorem dX6_digest_112 : decode cX6_digest 112 = .ok (.invokevirtual 127, 3) := by decide +kernel
theorem dX6_digest_115 : decode cX6_digest 115 = .ok (.i2l, 1) := by decide +kernel
theorem dX6_digest_116 : decode cX6_digest 116 = .ok (.ladd, 1) := by decide +kernel
theorem dX6_digest_117 : decode cX6_digest 117 = .ok (.lstore_n 1, 1) := by decide +kernel
theorem dX6_digest_118 : decode cX6_digest 118 = .ok (.iinc 4 1, 3) := by decide +kernel
theorem dX6_digest_121 : decode cX6_digest 121 = .ok (.goto (-25), 3) := by decide +kernel
theorem dX6_digest_124 : decode cX6_digest 124 = .ok (.iinc 3 1, 3) := by decide +kernel
theorem dX6_digest_127 : decode cX6_digest 127 = .ok (.goto (-42), 3) := by decide +kernel
theorem dX6_digest_130 : decode cX6_digest 130 = .ok (.iconst 0, 1) := by decide +kernel
theorem dX6_digest_131 : decode cX6_digest 131 = .ok (.istore_n 3, 1) := by decide +kernel
theorem dX6_digest_132 : decode cX6_digest 132 = .ok (.iload_n 3, 1) := by decide +kernel
theorem dX6_digest_133 : decode cX6_digest 133 = .ok (.bipush 96, 2) := by decide +kernel
theorem dX6_digest_135 : decode cX6_digest 135 = .ok (.if_icmp .ge 25, 3) := by decide +kernel
theorem dX6_digest_138 : decode cX6_digest 138 = .ok (.lload_n 1, 1) := by decide +kernel
theorem dX6_digest_139 : decode cX6_digest 139 = .ok (.ldc2_w 152, 3) := by decide +kernel
theorem dX6_digest_142 : decode cX6_digest 142 = .ok (.lmul, 1) := by decide +kernel
theorem dX6_digest_143 : decode cX6_digest 143 = .ok (.aload_n 0, 1) := by decide +kernel
theorem dX6_digest_144 : decode cX6_digest 144 = .ok (.getfield 22, 3) := by decide +kernel
theorem dX6_digest_147 : decode cX6_digest 147 = .ok (.iconst 4, 1) := by decide +kernel
theorem dX6_digest_148 : decode cX6_digest 148 = .ok (.iload_n 3, 1) := by decide +kernel
theorem dX6_digest_149 : decode cX6_digest 149 = .ok (.iadd, 1) := by decide +kernel
theorem dX6_digest_150 : decode cX6_digest 150 = .ok (.iaload, 1) := by decide +kernel
theorem dX6_digest_151 : decode cX6_digest 151 = .ok (.i2l, 1) := by decide +kernel
theorem dX6_digest_152 : decode cX6_digest 152 = .ok (.ladd, 1) := by decide +kernel
theorem dX6_digest_153 : decode cX6_digest 153 = .ok (.lstore_n 1, 1) := by decide +kernel
theorem dX6_digest_154 : decode cX6_digest 154 = .ok (.iinc 3 1, 3) := by decide +kernel
theorem dX6_digest_157 : decode cX6_digest 157 = .ok (.goto (-25), 3) := by decide +kernel
theorem dX6_digest_160 : decode cX6_digest 160 = .ok (.lload_n 1, 1) := by decide +kernel
theorem dX6_digest_161 : decode cX6_digest 161 = .ok (.lreturn, 1) := by decide +kernel
theorem dJ9_max_7cf53_0 : decode cJ9_max_7cf53 0 = .ok (.iload_n 0, 1) := by decide +kernel
theorem dJ9_max_7cf53_1 : decode cJ9_max_7cf53 1 = .ok (.iload_n 1, 1) := by decide +kernel
theorem dJ9_max_7cf53_2 : decode cJ9_max_7cf53 2 = .ok (.if_icmp .lt 7, 3) := by decide +kernel
theorem dJ9_max_7cf53_5 : decode cJ9_max_7cf53 5 = .ok (.iload_n 0, 1) := by decide +kernel
theorem dJ9_max_7cf53_6 : decode cJ9_max_7cf53 6 = .ok (.goto 4, 3) := by decide +kernel
theorem dJ9_max_7cf53_9 : decode cJ9_max_7cf53 9 = .ok (.iload_n 1, 1) := by decide +kernel
theorem dJ9_max_7cf53_10 : decode cJ9_max_7cf53 10 = .ok (.ireturn, 1) := by decide +kernel
theorem dJ9_min_7cf53_0 : decode cJ9_min_7cf53 0 = .ok (.iload_n 0, 1) := by decide +kernel
theorem dJ9_min_7cf53_1 : decode cJ9_min_7cf53 1 = .ok (.iload_n 1, 1) := by decide +kernel
theorem dJ9_min_7cf53_2 : decode cJ9_min_7cf53 2 = .ok (.if_icmp .gt 7, 3) := by decide +kernel
theorem dJ9_min_7cf53_5 : decode cJ9_min_7cf53 5 = .ok (.iload_n 0, 1) := by decide +kernel
theorem dJ9_min_7cf53_6 : decode cJ9_min_7cf53 6 = .ok (.goto 4, 3) := by decide +kernel
theorem dJ9_min_7cf53_9 : decode cJ9_min_7cf53 9 = .ok (.iload_n 1, 1) := by decide +kernel
theorem dJ9_min_7cf53_10 : decode cJ9_min_7cf53 10 = .ok (.ireturn, 1) := by decide +kernel
set_option maxRecDepth 20000 in
theorem ggL_window_X5_window : GoodIn wsL_window wsX5_window := goodIn_ca (goodIn_ca (goodIn_ca (goodIn_r _ [8, 9, 10, 11, 12, 13, 14, 15, 16, 17, 18, 19, 20, 21, 22, 23, 24, 25, 26, 27, 28, 29, 30, 31, 32, 33, 34, 35, 36] (by decide +kernel) (by decide +kernel)) (goodIn_sub (fun _ h => List.mem_cons_of_mem _ (List.mem_append_left _ (List.mem_append_left _ (List.mem_append_right _ h)))) (by decide +kernel))) (goodIn_sub (fun _ h => List.mem_cons_of_mem _ (List.mem_append_left _ (List.mem_append_right _ h))) (by decide +kernel))) (goodIn_sub (fun _ h => List.mem_cons_of_mem _ (List.mem_append_right _ h)) (by decide +kernel))
set_option maxRecDepth 20000 in
theorem gL_window_X5_window : GoodIn wsL_window (wsV RL 7 RX5 yX5_window wsX5_window) := goodIn_app (goodIn_of _ (by decide +kernel)) ggL_window_X5_window
theorem dL_window_0 : decode cL_window 0 = .ok (.aload 6, 2) := by decide +kernel
theorem dL_window_2 : decode cL_window 2 = .ok (.iconst 0, 1) := by decide +kernel
theorem dL_window_3 : decode cL_window 3 = .ok (.aload_n 0, 1) := by decide +kernel
theorem dL_window_4 : decode cL_window 4 = .ok (.iload_n 1, 1) := by decide +kernel
theorem dL_window_5 : decode cL_window 5 = .ok (.iload_n 2, 1) := by decide +kernel
theorem dL_window_6 : decode cL_window 6 = .ok (.iload_n 3, 1) := by decide +kernel
theorem dL_window_7 : decode cL_window 7 = .ok (.iload 4, 2) := by decide +kernel
theorem dL_window_9 : decode cL_window 9 = .ok (.iload 5, 2) := by decide +kernel
theorem dL_window_11 : decode cL_window 11 = .ok (.invokevirtual 7, 3) := by decide +kernel
theorem dL_window_14 : decode cL_window 14 = .ok (.i2l, 1) := by decide +kernel
theorem dL_window_15 : decode cL_window 15 = .ok (.lastore, 1) := by decide +kernel
theorem dL_window_16 : decode cL_window 16 = .ok (.goto 15, 3) := by decide +kernel
theorem dL_window_19 : decode cL_window 19 = .ok (.astore 7, 2) := by decide +kernel
theorem dL_window_21 : decode cL_window 21 = .ok (.iconst 1, 1) := by decide +kernel
theorem dL_window_22 : decode cL_window 22 = .ok (.ireturn, 1) := by decide +kernel
theorem dL_window_23 : decode cL_window 23 = .ok (.astore 7, 2) := by decide +kernel
theorem dL_window_25 : decode cL_window 25 = .ok (.iconst 2, 1) := by decide +kernel
theorem dL_window_26 : decode cL_window 26 = .ok (.ireturn, 1) := by decide +kernel
theorem dL_window_27 : decode cL_window 27 = .ok (.astore 7, 2) := by decide +kernel
theorem dL_window_29 : decode cL_window 29 = .ok (.iconst 3, 1) := by decide +kernel
theorem dL_window_30 : decode cL_window 30 = .ok (.ireturn, 1) := by decide +kernel
theorem dL_window_31 : decode cL_window 31 = .ok (.iconst 0, 1) := by decide +kernel
theorem dL_window_32 : decode cL_window 32 = .ok (.ireturn, 1) := by decide +kernel
set_option maxRecDepth 20000 in
theorem ggL_rope_X5_rope : GoodIn wsL_rope wsX5_rope := goodIn_ca (goodIn_ca (goodIn_ca (goodIn_r _ [8, 9, 10, 11, 12, 13, 14, 15, 16, 17, 7, 18, 19, 20, 21, 22, 23, 24, 25, 26, 27, 28, 29, 30, 31, 32, 33, 34, 35, 36, 37, 38, 39, 40, 41, 42, 43, 44, 45, 46, 47, 48] (by decide +kernel) (by decide +kernel)) (goodIn_sub (fun _ h => List.mem_cons_of_mem _ (List.mem_append_left _ (List.mem_append_left _ (List.mem_append_right _ h)))) (by decide +kernel))) (goodIn_sub (fun _ h => List.mem_cons_of_mem _ (List.mem_append_left _ (List.mem_append_right _ h))) (by decide +kernel))) (goodIn_sub (fun _ h => List.mem_cons_of_mem _ (List.mem_append_right _ h)) (by decide +kernel))
set_option maxRecDepth 20000 in
theorem gL_rope_X5_rope : GoodIn wsL_rope (wsV RL 19 RX5 yX5_rope wsX5_rope) := goodIn_app (goodIn_of _ (by decide +kernel)) ggL_rope_X5_rope
theorem dL_rope_0 : decode cL_rope 0 = .ok (.aload 4, 2) := by decide +kernel
theorem dL_rope_2 : decode cL_rope 2 = .ok (.iconst 0, 1) := by decide +kernel
theorem dL_rope_3 : decode cL_rope 3 = .ok (.aload_n 0, 1) := by decide +kernel
theorem dL_rope_4 : decode cL_rope 4 = .ok (.iload_n 1, 1) := by decide +kernel
theorem dL_rope_5 : decode cL_rope 5 = .ok (.iload_n 2, 1) := by decide +kernel
theorem dL_rope_6 : decode cL_rope 6 = .ok (.iload_n 3, 1) := by decide +kernel
theorem dL_rope_7 : decode cL_rope 7 = .ok (.invokevirtual 19, 3) := by decide +kernel
theorem dL_rope_10 : decode cL_rope 10 = .ok (.i2l, 1) := by decide +kernel
theorem dL_rope_11 : decode cL_rope 11 = .ok (.lastore, 1) := by decide +kernel
theorem dL_rope_12 : decode cL_rope 12 = .ok (.goto 15, 3) := by decide +kernel
theorem dL_rope_15 : decode cL_rope 15 = .ok (.astore 5, 2) := by decide +kernel
theorem dL_rope_17 : decode cL_rope 17 = .ok (.iconst 1, 1) := by decide +kernel
theorem dL_rope_18 : decode cL_rope 18 = .ok (.ireturn, 1) := by decide +kernel
theorem dL_rope_19 : decode cL_rope 19 = .ok (.astore 5, 2) := by decide +kernel
theorem dL_rope_21 : decode cL_rope 21 = .ok (.iconst 2, 1) := by decide +kernel
theorem dL_rope_22 : decode cL_rope 22 = .ok (.ireturn, 1) := by decide +kernel
theorem dL_rope_23 : decode cL_rope 23 = .ok (.astore 5, 2) := by decide +kernel
theorem dL_rope_25 : decode cL_rope 25 = .ok (.iconst 3, 1) := by decide +kernel
theorem dL_rope_26 : decode cL_rope 26 = .ok (.ireturn, 1) := by decide +kernel
theorem dL_rope_27 : decode cL_rope 27 = .ok (.iconst 0, 1) := by decide +kernel
theorem dL_rope_28 : decode cL_rope 28 = .ok (.ireturn, 1) := by decide +kernel
set_option maxRecDepth 20000 in
theorem ggL_feast_X5_feast : GoodIn wsL_feast wsX5_feast := goodIn_ca (goodIn_ca (goodIn_r _ [7, 8, 9, 10, 11, 12, 13, 14, 15, 16, 17, 18, 19, 20, 21, 22, 23, 24, 25, 26, 27] (by decide +kernel) (by decide +kernel)) (goodIn_sub (fun _ h => List.mem_cons_of_mem _ (List.mem_append_left _ (List.mem_append_right _ h))) (by decide +kernel))) (goodIn_sub (fun _ h => List.mem_cons_of_mem _ (List.mem_append_right _ h)) (by decide +kernel))
set_option maxRecDepth 20000 in
theorem gL_feast_X5_feast : GoodIn wsL_feast (wsV RL 23 RX5 yX5_feast wsX5_feast) := goodIn_app (goodIn_of _ (by decide +kernel)) ggL_feast_X5_feast
theorem dL_feast_0 : decode cL_feast 0 = .ok (.aload_n 3, 1) := by decide +kernel
theorem dL_feast_1 : decode cL_feast 1 = .ok (.iconst 0, 1) := by decide +kernel
theorem dL_feast_2 : decode cL_feast 2 = .ok (.aload_n 0, 1) := by decide +kernel
theorem dL_feast_3 : decode cL_feast 3 = .ok (.iload_n 1, 1) := by decide +kernel
theorem dL_feast_4 : decode cL_feast 4 = .ok (.iload_n 2, 1) := by decide +kernel
theorem dL_feast_5 : decode cL_feast 5 = .ok (.invokevirtual 23, 3) := by decide +kernel
theorem dL_feast_8 : decode cL_feast 8 = .ok (.i2l, 1) := by decide +kernel
theorem dL_feast_9 : decode cL_feast 9 = .ok (.lastore, 1) := by decide +kernel
theorem dL_feast_10 : decode cL_feast 10 = .ok (.goto 11, 3) := by decide +kernel
theorem dL_feast_13 : decode cL_feast 13 = .ok (.astore 4, 2) := by decide +kernel
theorem dL_feast_15 : decode cL_feast 15 = .ok (.iconst 1, 1) := by decide +kernel
theorem dL_feast_16 : decode cL_feast 16 = .ok (.ireturn, 1) := by decide +kernel
theorem dL_feast_17 : decode cL_feast 17 = .ok (.astore 4, 2) := by decide +kernel
theorem dL_feast_19 : decode cL_feast 19 = .ok (.iconst 2, 1) := by decide +kernel
theorem dL_feast_20 : decode cL_feast 20 = .ok (.ireturn, 1) := by decide +kernel
theorem dL_feast_21 : decode cL_feast 21 = .ok (.iconst 0, 1) := by decide +kernel
theorem dL_feast_22 : decode cL_feast 22 = .ok (.ireturn, 1) := by decide +kernel
set_option maxRecDepth 20000 in
theorem ggL_setWind_X5_setWind : GoodIn wsL_setWind wsX5_setWind := goodIn_ca (goodIn_r _ [6, 7, 8, 9, 10, 11, 12, 13, 14, 15, 16, 17, 18, 19] (by decide +kernel) (by decide +kernel)) (goodIn_sub (fun _ h => List.mem_cons_of_mem _ (List.mem_append_right _ h)) (by decide +kernel))
set_option maxRecDepth 20000 in
theorem gL_setWind_X5_setWind : GoodIn wsL_setWind (wsV RL 27 RX5 yX5_setWind wsX5_setWind) := goodIn_app (goodIn_of _ (by decide +kernel)) ggL_setWind_X5_setWind
theorem dL_setWind_0 : decode cL_setWind 0 = .ok (.aload_n 2, 1) := by decide +kernel
theorem dL_setWind_1 : decode cL_setWind 1 = .ok (.iconst 0, 1) := by decide +kernel
theorem dL_setWind_2 : decode cL_setWind 2 = .ok (.aload_n 0, 1) := by decide +kernel
theorem dL_setWind_3 : decode cL_setWind 3 = .ok (.iload_n 1, 1) := by decide +kernel
theorem dL_setWind_4 : decode cL_setWind 4 = .ok (.invokevirtual 27, 3) := by decide +kernel
theorem dL_setWind_7 : decode cL_setWind 7 = .ok (.i2l, 1) := by decide +kernel
theorem dL_setWind_8 : decode cL_setWind 8 = .ok (.lastore, 1) := by decide +kernel
theorem dL_setWind_9 : decode cL_setWind 9 = .ok (.goto 6, 3) := by decide +kernel
theorem dL_setWind_12 : decode cL_setWind 12 = .ok (.astore_n 3, 1) := by decide +kernel
theorem dL_setWind_13 : decode cL_setWind 13 = .ok (.iconst 1, 1) := by decide +kernel
theorem dL_setWind_14 : decode cL_setWind 14 = .ok (.ireturn, 1) := by decide +kernel
theorem dL_setWind_15 : decode cL_setWind 15 = .ok (.iconst 0, 1) := by decide +kernel
theorem dL_setWind_16 : decode cL_setWind 16 = .ok (.ireturn, 1) := by decide +kernel
set_option maxRecDepth 20000 in
theorem ggL_move_X5_move : GoodIn wsL_move wsX5_move := goodIn_ca (goodIn_ca (goodIn_r _ [7, 8, 9, 10, 11, 12, 13, 14, 15, 6, 16, 17, 18, 19, 20, 21, 22, 23, 24, 25, 26, 27, 28, 29, 30, 31, 32, 33, 34, 35, 36, 37, 38, 39, 40, 41, 42, 43, 44, 45, 46, 47, 48, 49] (by decide +kernel) (by decide +kernel)) (goodIn_sub (fun _ h => List.mem_cons_of_mem _ (List.mem_append_left _ (List.mem_append_right _ h))) (by decide +kernel))) (goodIn_sub (fun _ h => List.mem_cons_of_mem _ (List.mem_append_right _ h)) (by decide +kernel))
set_option maxRecDepth 20000 in
theorem gL_move_X5_move : GoodIn wsL_move (wsV RL 31 RX5 yX5_move wsX5_move) := goodIn_app (goodIn_of _ (by decide +kernel)) ggL_move_X5_move
theorem dL_move_0 : decode cL_move 0 = .ok (.aload_n 3, 1) := by decide +kernel
theorem dL_move_1 : decode cL_move 1 = .ok (.iconst 0, 1) := by decide +kernel
theorem dL_move_2 : decode cL_move 2 = .ok (.aload_n 0, 1) := by decide +kernel
theorem dL_move_3 : decode cL_move 3 = .ok (.iload_n 1, 1) := by decide +kernel
theorem dL_move_4 : decode cL_move 4 = .ok (.iload_n 2, 1) := by decide +kernel
theorem dL_move_5 : decode cL_move 5 = .ok (.invokevirtual 31, 3) := by decide +kernel
theorem dL_move_8 : decode cL_move 8 = .ok (.i2l, 1) := by decide +kernel
theorem dL_move_9 : decode cL_move 9 = .ok (.lastore, 1) := by decide +kernel
theorem dL_move_10 : decode cL_move 10 = .ok (.goto 11, 3) := by decide +kernel
theorem dL_move_13 : decode cL_move 13 = .ok (.astore 4, 2) := by decide +kernel
theorem dL_move_15 : decode cL_move 15 = .ok (.iconst 1, 1) := by decide +kernel
theorem dL_move_16 : decode cL_move 16 = .ok (.ireturn, 1) := by decide +kernel
theorem dL_move_17 : decode cL_move 17 = .ok (.astore 4, 2) := by decide +kernel
theorem dL_move_19 : decode cL_move 19 = .ok (.iconst 2, 1) := by decide +kernel
theorem dL_move_20 : decode cL_move 20 = .ok (.ireturn, 1) := by decide +kernel
theorem dL_move_21 : decode cL_move 21 = .ok (.iconst 0, 1) := by decide +kernel
theorem dL_move_22 : decode cL_move 22 = .ok (.ireturn, 1) := by decide +kernel
set_option maxRecDepth 20000 in
theorem ggL_turn_X5_turn : GoodIn wsL_turn wsX5_turn := goodIn_ca (goodIn_r _ [6, 7, 8, 9, 10, 11, 12, 5, 13, 14, 15, 16, 17, 18, 19, 20, 21, 22, 23, 24, 25, 26, 27, 28, 29, 30] (by decide +kernel) (by decide +kernel)) (goodIn_sub (fun _ h => List.mem_cons_of_mem _ (List.mem_append_right _ h)) (by decide +kernel))
set_option maxRecDepth 20000 in
theorem gL_turn_X5_turn : GoodIn wsL_turn (wsV RL 34 RX5 yX5_turn wsX5_turn) := goodIn_app (goodIn_of _ (by decide +kernel)) ggL_turn_X5_turn
theorem dL_turn_0 : decode cL_turn 0 = .ok (.aload_n 2, 1) := by decide +kernel
theorem dL_turn_1 : decode cL_turn 1 = .ok (.iconst 0, 1) := by decide +kernel
theorem dL_turn_2 : decode cL_turn 2 = .ok (.aload_n 0, 1) := by decide +kernel
theorem dL_turn_3 : decode cL_turn 3 = .ok (.iload_n 1, 1) := by decide +kernel
theorem dL_turn_4 : decode cL_turn 4 = .ok (.invokevirtual 34, 3) := by decide +kernel
theorem dL_turn_7 : decode cL_turn 7 = .ok (.ifCond .eq 7, 3) := by decide +kernel
theorem dL_turn_10 : decode cL_turn 10 = .ok (.lconst 1, 1) := by decide +kernel
theorem dL_turn_11 : decode cL_turn 11 = .ok (.goto 4, 3) := by decide +kernel
theorem dL_turn_14 : decode cL_turn 14 = .ok (.lconst 0, 1) := by decide +kernel
theorem dL_turn_15 : decode cL_turn 15 = .ok (.lastore, 1) := by decide +kernel
theorem dL_turn_16 : decode cL_turn 16 = .ok (.goto 6, 3) := by decide +kernel
theorem dL_turn_19 : decode cL_turn 19 = .ok (.astore_n 3, 1) := by decide +kernel
theorem dL_turn_20 : decode cL_turn 20 = .ok (.iconst 1, 1) := by decide +kernel
theorem dL_turn_21 : decode cL_turn 21 = .ok (.ireturn, 1) := by decide +kernel
theorem dL_turn_22 : decode cL_turn 22 = .ok (.iconst 0, 1) := by decide +kernel
theorem dL_turn_23 : decode cL_turn 23 = .ok (.ireturn, 1) := by decide +kernel
set_option maxRecDepth 20000 in
theorem ggL_wipe_X5_wipe : GoodIn wsL_wipe wsX5_wipe := goodIn_ca (goodIn_r _ [6, 7, 8, 9, 10, 11, 12, 13, 5, 14, 15, 16, 17, 18, 19, 20, 21, 22, 23, 24, 25, 26, 27, 28, 29, 30, 31, 32, 33, 34, 35, 36, 37, 38, 39, 40, 41, 42, 43, 44, 45, 46, 47, 48, 49, 50] (by decide +kernel) (by decide +kernel)) (goodIn_sub (fun _ h => List.mem_cons_of_mem _ (List.mem_append_right _ h)) (by decide +kernel))
set_option maxRecDepth 20000 in
theorem gL_wipe_X5_wipe : GoodIn wsL_wipe (wsV RL 38 RX5 yX5_wipe wsX5_wipe) := goodIn_app (goodIn_of _ (by decide +kernel)) ggL_wipe_X5_wipe
theorem dL_wipe_0 : decode cL_wipe 0 = .ok (.aload_n 2, 1) := by decide +kernel
theorem dL_wipe_1 : decode cL_wipe 1 = .ok (.iconst 0, 1) := by decide +kernel
theorem dL_wipe_2 : decode cL_wipe 2 = .ok (.aload_n 0, 1) := by decide +kernel
theorem dL_wipe_3 : decode cL_wipe 3 = .ok (.iload_n 1, 1) := by decide +kernel
theorem dL_wipe_4 : decode cL_wipe 4 = .ok (.invokevirtual 38, 3) := by decide +kernel
theorem dL_wipe_7 : decode cL_wipe 7 = .ok (.i2l, 1) := by decide +kernel
theorem dL_wipe_8 : decode cL_wipe 8 = .ok (.lastore, 1) := by decide +kernel
theorem dL_wipe_9 : decode cL_wipe 9 = .ok (.goto 6, 3) := by decide +kernel
theorem dL_wipe_12 : decode cL_wipe 12 = .ok (.astore_n 3, 1) := by decide +kernel
theorem dL_wipe_13 : decode cL_wipe 13 = .ok (.iconst 1, 1) := by decide +kernel
theorem dL_wipe_14 : decode cL_wipe 14 = .ok (.ireturn, 1) := by decide +kernel
theorem dL_wipe_15 : decode cL_wipe 15 = .ok (.iconst 0, 1) := by decide +kernel
theorem dL_wipe_16 : decode cL_wipe 16 = .ok (.ireturn, 1) := by decide +kernel
set_option maxRecDepth 20000 in
theorem ggL_pass_X5_pass : GoodIn wsL_pass wsX5_pass := goodIn_ca (goodIn_r _ [6, 7, 8, 9, 10, 11, 12, 13, 14, 15, 16, 17, 18, 19, 20, 21, 22, 23, 24, 25, 26, 27, 28, 29, 30, 31, 32, 33, 34, 35, 36, 37, 38, 39, 40, 41, 42, 43, 44, 45, 46, 47, 48, 49, 50, 51, 52, 53, 54, 55, 56, 57, 58, 59, 60, 61, 62, 63, 64, 65, 66, 67, 68, 69, 70, 71, 72, 73, 74, 75, 76, 77, 78, 79, 80, 81, 82, 83, 84, 85, 86, 87, 88, 89, 90, 91, 92, 93, 94, 95, 96, 97, 98, 99, 100, 101, 102, 103, 104, 105, 106, 107, 108, 109, 110, 111, 112, 113, 114, 115, 116, 117, 118, 119, 120, 121, 122, 123, 124, 125, 126, 127, 128, 129, 130, 131, 132, 133, 134, 135, 136, 137] (by decide +kernel) (by decide +kernel)) (goodIn_sub (fun _ h => List.mem_cons_of_mem _ (List.mem_append_right _ h)) (by decide +kernel))
set_option maxRecDepth 20000 in
theorem gL_pass_X5_pass : GoodIn wsL_pass (wsV RL 41 RX5 yX5_pass wsX5_pass) := goodIn_app (goodIn_of _ (by decide +kernel)) ggL_pass_X5_pass
theorem dL_pass_0 : decode cL_pass 0 = .ok (.aload_n 2, 1) := by decide +kernel
theorem dL_pass_1 : decode cL_pass 1 = .ok (.iconst 0, 1) := by decide +kernel
theorem dL_pass_2 : decode cL_pass 2 = .ok (.aload_n 0, 1) := by decide +kernel
theorem dL_pass_3 : decode cL_pass 3 = .ok (.iload_n 1, 1) := by decide +kernel
theorem dL_pass_4 : decode cL_pass 4 = .ok (.invokevirtual 41, 3) := by decide +kernel
theorem dL_pass_7 : decode cL_pass 7 = .ok (.i2l, 1) := by decide +kernel
theorem dL_pass_8 : decode cL_pass 8 = .ok (.lastore, 1) := by decide +kernel
theorem dL_pass_9 : decode cL_pass 9 = .ok (.goto 6, 3) := by decide +kernel
theorem dL_pass_12 : decode cL_pass 12 = .ok (.astore_n 3, 1) := by decide +kernel
theorem dL_pass_13 : decode cL_pass 13 = .ok (.iconst 1, 1) := by decide +kernel
theorem dL_pass_14 : decode cL_pass 14 = .ok (.ireturn, 1) := by decide +kernel
theorem dL_pass_15 : decode cL_pass 15 = .ok (.iconst 0, 1) := by decide +kernel
theorem dL_pass_16 : decode cL_pass 16 = .ok (.ireturn, 1) := by decide +kernel
set_option maxRecDepth 20000 in
theorem ggL_soot_X5_soot : GoodIn wsL_soot wsX5_soot := goodIn_ca (goodIn_r _ [6, 7, 8, 9, 10, 11, 5, 12, 13, 14, 15, 16, 17, 18, 19, 20, 21, 22, 23, 24, 25, 26, 27, 28, 29] (by decide +kernel) (by decide +kernel)) (goodIn_sub (fun _ h => List.mem_cons_of_mem _ (List.mem_append_right _ h)) (by decide +kernel))
set_option maxRecDepth 20000 in
theorem gL_soot_X5_soot : GoodIn wsL_soot (wsV RL 44 RX5 yX5_soot wsX5_soot) := goodIn_app (goodIn_of _ (by decide +kernel)) ggL_soot_X5_soot
theorem dL_soot_0 : decode cL_soot 0 = .ok (.aload_n 3, 1) := by decide +kernel
theorem dL_soot_1 : decode cL_soot 1 = .ok (.iconst 0, 1) := by decide +kernel
theorem dL_soot_2 : decode cL_soot 2 = .ok (.aload_n 0, 1) := by decide +kernel
theorem dL_soot_3 : decode cL_soot 3 = .ok (.iload_n 1, 1) := by decide +kernel
theorem dL_soot_4 : decode cL_soot 4 = .ok (.iload_n 2, 1) := by decide +kernel
theorem dL_soot_5 : decode cL_soot 5 = .ok (.invokevirtual 44, 3) := by decide +kernel
theorem dL_soot_8 : decode cL_soot 8 = .ok (.i2l, 1) := by decide +kernel
theorem dL_soot_9 : decode cL_soot 9 = .ok (.lastore, 1) := by decide +kernel
theorem dL_soot_10 : decode cL_soot 10 = .ok (.goto 7, 3) := by decide +kernel
theorem dL_soot_13 : decode cL_soot 13 = .ok (.astore 4, 2) := by decide +kernel
theorem dL_soot_15 : decode cL_soot 15 = .ok (.iconst 1, 1) := by decide +kernel
theorem dL_soot_16 : decode cL_soot 16 = .ok (.ireturn, 1) := by decide +kernel
theorem dL_soot_17 : decode cL_soot 17 = .ok (.iconst 0, 1) := by decide +kernel
theorem dL_soot_18 : decode cL_soot 18 = .ok (.ireturn, 1) := by decide +kernel
set_option maxRecDepth 20000 in
theorem ggL_about_X5_about : GoodIn wsL_about wsX5_about := goodIn_ca (goodIn_r _ [6, 7, 8, 9, 10, 11, 12, 13, 5, 14, 15, 16, 17, 18, 19, 20, 21, 22, 23, 24, 25, 26, 27, 28, 29, 30, 31, 32, 33, 34, 35, 36, 37, 38, 39, 40, 41, 42, 43, 44, 45, 46, 47, 48, 49, 50, 51, 52, 53, 54, 55, 56, 57, 58, 59, 60, 61, 62, 63, 64, 65, 66, 67] (by decide +kernel) (by decide +kernel)) (goodIn_sub (fun _ h => List.mem_cons_of_mem _ (List.mem_append_right _ h)) (by decide +kernel))
set_option maxRecDepth 20000 in
theorem gL_about_X5_about : GoodIn wsL_about (wsV RL 47 RX5 yX5_about wsX5_about) := goodIn_app (goodIn_of _ (by decide +kernel)) ggL_about_X5_about
theorem dL_about_0 : decode cL_about 0 = .ok (.aload_n 3, 1) := by decide +kernel
theorem dL_about_1 : decode cL_about 1 = .ok (.iconst 0, 1) := by decide +kernel
theorem dL_about_2 : decode cL_about 2 = .ok (.aload_n 0, 1) := by decide +kernel
theorem dL_about_3 : decode cL_about 3 = .ok (.iload_n 1, 1) := by decide +kernel
theorem dL_about_4 : decode cL_about 4 = .ok (.iload_n 2, 1) := by decide +kernel
theorem dL_about_5 : decode cL_about 5 = .ok (.invokevirtual 47, 3) := by decide +kernel
theorem dL_about_8 : decode cL_about 8 = .ok (.i2l, 1) := by decide +kernel
theorem dL_about_9 : decode cL_about 9 = .ok (.lastore, 1) := by decide +kernel
theorem dL_about_10 : decode cL_about 10 = .ok (.goto 7, 3) := by decide +kernel
theorem dL_about_13 : decode cL_about 13 = .ok (.astore 4, 2) := by decide +kernel
theorem dL_about_15 : decode cL_about 15 = .ok (.iconst 1, 1) := by decide +kernel
theorem dL_about_16 : decode cL_about 16 = .ok (.ireturn, 1) := by decide +kernel
theorem dL_about_17 : decode cL_about 17 = .ok (.iconst 0, 1) := by decide +kernel
theorem dL_about_18 : decode cL_about 18 = .ok (.ireturn, 1) := by decide +kernel
set_option maxRecDepth 20000 in
theorem ggL_told_X5_told : GoodIn wsL_told wsX5_told := goodIn_ca (goodIn_r _ [6, 7, 8, 9, 10, 11, 12, 5, 13, 14, 15, 16, 17, 18, 19, 20, 21, 22, 23, 24, 25, 26, 27, 28, 29, 30, 31, 32, 33, 34, 35, 36, 37, 38, 39, 40, 41] (by decide +kernel) (by decide +kernel)) (goodIn_sub (fun _ h => List.mem_cons_of_mem _ (List.mem_append_right _ h)) (by decide +kernel))
set_option maxRecDepth 20000 in
theorem gL_told_X5_told : GoodIn wsL_told (wsV RL 50 RX5 yX5_told wsX5_told) := goodIn_app (goodIn_of _ (by decide +kernel)) ggL_told_X5_told
theorem dL_told_0 : decode cL_told 0 = .ok (.aload_n 3, 1) := by decide +kernel
theorem dL_told_1 : decode cL_told 1 = .ok (.iconst 0, 1) := by decide +kernel
theorem dL_told_2 : decode cL_told 2 = .ok (.aload_n 0, 1) := by decide +kernel
theorem dL_told_3 : decode cL_told 3 = .ok (.iload_n 1, 1) := by decide +kernel
theorem dL_told_4 : decode cL_told 4 = .ok (.iload_n 2, 1) := by decide +kernel
theorem dL_told_5 : decode cL_told 5 = .ok (.invokevirtual 50, 3) := by decide +kernel
theorem dL_told_8 : decode cL_told 8 = .ok (.i2l, 1) := by decide +kernel
theorem dL_told_9 : decode cL_told 9 = .ok (.lastore, 1) := by decide +kernel
theorem dL_told_10 : decode cL_told 10 = .ok (.goto 7, 3) := by decide +kernel
theorem dL_told_13 : decode cL_told 13 = .ok (.astore 4, 2) := by decide +kernel
theorem dL_told_15 : decode cL_told 15 = .ok (.iconst 1, 1) := by decide +kernel
theorem dL_told_16 : decode cL_told 16 = .ok (.ireturn, 1) := by decide +kernel
theorem dL_told_17 : decode cL_told 17 = .ok (.iconst 0, 1) := by decide +kernel
theorem dL_told_18 : decode cL_told 18 = .ok (.ireturn, 1) := by decide +kernel
set_option maxRecDepth 20000 in
theorem ggL_count_X5_count : GoodIn wsL_count wsX5_count := goodIn_ca (goodIn_r _ [6, 7, 8, 9, 10, 11, 5, 12, 13, 14, 15, 16, 17, 18, 19, 20, 21, 22, 23, 24, 25, 26, 27, 28, 29, 30, 31, 32, 33, 34, 35, 36, 37, 38, 39, 40, 41, 42, 43, 44, 45, 46, 47, 48, 49, 50, 51, 52, 53, 54, 55, 56, 57, 58, 59, 60, 61, 62, 63, 64, 65, 66, 67, 68, 69, 70, 71, 72, 73, 74, 75, 76, 77, 78, 79, 80, 81, 82, 83, 84, 85, 86, 87, 88, 89, 90] (by decide +kernel) (by decide +kernel)) (goodIn_sub (fun _ h => List.mem_cons_of_mem _ (List.mem_append_right _ h)) (by decide +kernel))
set_option maxRecDepth 20000 in
theorem gL_count_X5_count : GoodIn wsL_count (wsV RL 53 RX5 yX5_count wsX5_count) := goodIn_app (goodIn_of _ (by decide +kernel)) ggL_count_X5_count
theorem dL_count_0 : decode cL_count 0 = .ok (.aload_n 2, 1) := by decide +kernel
theorem dL_count_1 : decode cL_count 1 = .ok (.iconst 0, 1) := by decide +kernel
theorem dL_count_2 : decode cL_count 2 = .ok (.aload_n 0, 1) := by decide +kernel
theorem dL_count_3 : decode cL_count 3 = .ok (.iload_n 1, 1) := by decide +kernel
theorem dL_count_4 : decode cL_count 4 = .ok (.invokevirtual 53, 3) := by decide +kernel
theorem dL_count_7 : decode cL_count 7 = .ok (.i2l, 1) := by decide +kernel
theorem dL_count_8 : decode cL_count 8 = .ok (.lastore, 1) := by decide +kernel
theorem dL_count_9 : decode cL_count 9 = .ok (.goto 6, 3) := by decide +kernel
theorem dL_count_12 : decode cL_count 12 = .ok (.astore_n 3, 1) := by decide +kernel
theorem dL_count_13 : decode cL_count 13 = .ok (.iconst 1, 1) := by decide +kernel
theorem dL_count_14 : decode cL_count 14 = .ok (.ireturn, 1) := by decide +kernel
theorem dL_count_15 : decode cL_count 15 = .ok (.iconst 0, 1) := by decide +kernel
theorem dL_count_16 : decode cL_count 16 = .ok (.ireturn, 1) := by decide +kernel
set_option maxRecDepth 20000 in
theorem ggL_isFeast_X5_isFeast : GoodIn wsL_isFeast wsX5_isFeast := goodIn_ca (goodIn_r _ [6, 7, 8, 9, 10, 11, 12, 13, 14, 15, 16, 17, 18, 19, 20, 21, 22, 23, 24, 25, 26, 27, 28, 29, 30, 31] (by decide +kernel) (by decide +kernel)) (goodIn_sub (fun _ h => List.mem_cons_of_mem _ (List.mem_append_right _ h)) (by decide +kernel))
set_option maxRecDepth 20000 in
theorem gL_isFeast_X5_isFeast : GoodIn wsL_isFeast (wsV RL 56 RX5 yX5_isFeast wsX5_isFeast) := goodIn_app (goodIn_of _ (by decide +kernel)) ggL_isFeast_X5_isFeast
theorem dL_isFeast_0 : decode cL_isFeast 0 = .ok (.aload_n 2, 1) := by decide +kernel
theorem dL_isFeast_1 : decode cL_isFeast 1 = .ok (.iconst 0, 1) := by decide +kernel
theorem dL_isFeast_2 : decode cL_isFeast 2 = .ok (.aload_n 0, 1) := by decide +kernel
theorem dL_isFeast_3 : decode cL_isFeast 3 = .ok (.iload_n 1, 1) := by decide +kernel
theorem dL_isFeast_4 : decode cL_isFeast 4 = .ok (.invokevirtual 56, 3) := by decide +kernel
theorem dL_isFeast_7 : decode cL_isFeast 7 = .ok (.ifCond .eq 7, 3) := by decide +kernel
theorem dL_isFeast_10 : decode cL_isFeast 10 = .ok (.lconst 1, 1) := by decide +kernel
theorem dL_isFeast_11 : decode cL_isFeast 11 = .ok (.goto 4, 3) := by decide +kernel
theorem dL_isFeast_14 : decode cL_isFeast 14 = .ok (.lconst 0, 1) := by decide +kernel
theorem dL_isFeast_15 : decode cL_isFeast 15 = .ok (.lastore, 1) := by decide +kernel
theorem dL_isFeast_16 : decode cL_isFeast 16 = .ok (.goto 6, 3) := by decide +kernel
theorem dL_isFeast_19 : decode cL_isFeast 19 = .ok (.astore_n 3, 1) := by decide +kernel
theorem dL_isFeast_20 : decode cL_isFeast 20 = .ok (.iconst 1, 1) := by decide +kernel
theorem dL_isFeast_21 : decode cL_isFeast 21 = .ok (.ireturn, 1) := by decide +kernel
theorem dL_isFeast_22 : decode cL_isFeast 22 = .ok (.iconst 0, 1) := by decide +kernel
theorem dL_isFeast_23 : decode cL_isFeast 23 = .ok (.ireturn, 1) := by decide +kernel
set_option maxRecDepth 20000 in
theorem ggL_would_X5_would : GoodIn wsL_would wsX5_would := goodIn_ca (goodIn_ca (goodIn_r _ [7, 8, 9, 10, 11, 12, 13, 14, 15, 16, 17, 18, 19, 20, 21, 22, 23, 24, 25, 26, 27, 28, 29, 30, 31, 32, 33, 34, 35, 36, 37, 38, 39, 40, 41, 42, 43, 44, 45, 46, 47, 48, 49, 50, 51, 52, 53, 54, 55, 56, 57, 58, 59, 60, 61, 62, 63, 64, 65, 66, 67, 68, 69, 70, 71, 72, 73, 74, 75, 76, 77, 78, 79, 80, 81, 82, 83, 84, 85, 86, 87, 88, 89, 90, 91, 92, 93, 94, 95, 96, 97, 98, 99, 100, 101, 102, 103, 104, 105, 106, 107, 108, 109, 110, 111, 112, 113, 114, 115, 116, 117, 118, 119, 120, 121, 122, 123, 124, 125, 126, 127, 128, 129, 130, 131, 132, 133, 134, 135, 136, 137, 138, 139, 140, 141, 142, 143, 144, 145, 146, 147, 148, 149, 150, 151, 152, 153, 154, 155, 156, 157, 158, 159, 160, 161, 162, 163, 164, 165] (by decide +kernel) (by decide +kernel)) (goodIn_sub (fun _ h => List.mem_cons_of_mem _ (List.mem_append_left _ (List.mem_append_right _ h))) (by decide +kernel))) (goodIn_sub (fun _ h => List.mem_cons_of_mem _ (List.mem_append_right _ h)) (by decide +kernel))
set_option maxRecDepth 20000 in
theorem gL_would_X5_would : GoodIn wsL_would (wsV RL 59 RX5 yX5_would wsX5_would) := goodIn_app (goodIn_of _ (by decide +kernel)) ggL_would_X5_would
theorem dL_would_0 : decode cL_would 0 = .ok (.aload_n 3, 1) := by decide +kernel
theorem dL_would_1 : decode cL_would 1 = .ok (.iconst 0, 1) := by decide +kernel
theorem dL_would_2 : decode cL_would 2 = .ok (.aload_n 0, 1) := by decide +kernel
theorem dL_would_3 : decode cL_would 3 = .ok (.iload_n 1, 1) := by decide +kernel
theorem dL_would_4 : decode cL_would 4 = .ok (.iload_n 2, 1) := by decide +kernel
theorem dL_would_5 : decode cL_would 5 = .ok (.invokevirtual 59, 3) := by decide +kernel
theorem dL_would_8 : decode cL_would 8 = .ok (.i2l, 1) := by decide +kernel
theorem dL_would_9 : decode cL_would 9 = .ok (.lastore, 1) := by decide +kernel
theorem dL_would_10 : decode cL_would 10 = .ok (.goto 11, 3) := by decide +kernel
theorem dL_would_13 : decode cL_would 13 = .ok (.astore 4, 2) := by decide +kernel
theorem dL_would_15 : decode cL_would 15 = .ok (.iconst 1, 1) := by decide +kernel
theorem dL_would_16 : decode cL_would 16 = .ok (.ireturn, 1) := by decide +kernel
theorem dL_would_17 : decode cL_would 17 = .ok (.astore 4, 2) := by decide +kernel
theorem dL_would_19 : decode cL_would 19 = .ok (.iconst 2, 1) := by decide +kernel
theorem dL_would_20 : decode cL_would 20 = .ok (.ireturn, 1) := by decide +kernel
theorem dL_would_21 : decode cL_would 21 = .ok (.iconst 0, 1) := by decide +kernel
theorem dL_would_22 : decode cL_would 22 = .ok (.ireturn, 1) := by decide +kernel
set_option maxRecDepth 20000 in
theorem ggL_until_X5_until : GoodIn wsL_until wsX5_until := goodIn_ca (goodIn_r _ [6, 7, 8, 9, 10, 11, 12, 13, 14, 15, 5, 16, 17, 18, 19, 20, 21, 22, 23, 24, 25, 26, 27, 28, 29, 30, 31, 32, 33, 34, 35, 36, 37, 38, 39, 40, 41, 42, 43, 44, 45, 46, 47, 48, 49, 50, 51, 52, 53, 54, 55, 56, 57, 58, 59, 60, 61, 62, 63, 64, 65, 66, 67, 68, 69, 70, 71, 72, 73, 74, 75, 76, 77, 78, 79, 80, 81, 82, 83, 84, 85, 86, 87, 88, 89, 90, 91, 92, 93, 94, 95, 96, 97, 98, 99, 100, 101, 102, 103, 104, 105, 106, 107, 108, 109, 110, 111, 112, 113, 114, 115, 116, 117, 118, 119, 120, 121, 122, 123, 124, 125, 126, 127, 128, 129, 130, 131, 132, 133, 134, 135, 136, 137, 138, 139, 140, 141, 142, 143, 144, 145, 146, 147, 148, 149, 150, 151, 152, 153, 154, 155, 156, 157, 158] (by decide +kernel) (by decide +kernel)) (goodIn_sub (fun _ h => List.mem_cons_of_mem _ (List.mem_append_right _ h)) (by decide +kernel))
set_option maxRecDepth 20000 in
theorem gL_until_X5_until : GoodIn wsL_until (wsV RL 62 RX5 yX5_until wsX5_until) := goodIn_app (goodIn_of _ (by decide +kernel)) ggL_until_X5_until
theorem dL_until_0 : decode cL_until 0 = .ok (.aload_n 2, 1) := by decide +kernel
theorem dL_until_1 : decode cL_until 1 = .ok (.iconst 0, 1) := by decide +kernel
theorem dL_until_2 : decode cL_until 2 = .ok (.aload_n 0, 1) := by decide +kernel
theorem dL_until_3 : decode cL_until 3 = .ok (.iload_n 1, 1) := by decide +kernel
theorem dL_until_4 : decode cL_until 4 = .ok (.invokevirtual 62, 3) := by decide +kernel
theorem dL_until_7 : decode cL_until 7 = .ok (.i2l, 1) := by decide +kernel
theorem dL_until_8 : decode cL_until 8 = .ok (.lastore, 1) := by decide +kernel
theorem dL_until_9 : decode cL_until 9 = .ok (.goto 6, 3) := by decide +kernel
theorem dL_until_12 : decode cL_until 12 = .ok (.astore_n 3, 1) := by decide +kernel
theorem dL_until_13 : decode cL_until 13 = .ok (.iconst 1, 1) := by decide +kernel
theorem dL_until_14 : decode cL_until 14 = .ok (.ireturn, 1) := by decide +kernel
theorem dL_until_15 : decode cL_until 15 = .ok (.iconst 0, 1) := by decide +kernel
theorem dL_until_16 : decode cL_until 16 = .ok (.ireturn, 1) := by decide +kernel
set_option maxRecDepth 20000 in
theorem ggL_advise_X5_advise : GoodIn wsL_advise wsX5_advise := goodIn_ca (goodIn_ca (goodIn_r _ [7, 8, 9, 10, 11, 12, 13, 14, 15, 16, 6, 17, 18, 19, 20, 21, 22, 23, 24, 25, 26, 27, 28, 29, 30, 31, 32, 33, 34, 35, 36, 37, 38, 39, 40, 41, 42, 43, 44, 45, 46, 47, 48, 49, 50, 51, 52, 53, 54, 55, 56, 57, 58, 59, 60, 61, 62, 63, 64, 65, 66, 67, 68, 69, 70, 71, 72, 73, 74, 75, 76, 77, 78, 79, 80, 81, 82, 83, 84, 85, 86, 87, 88, 89, 90, 91, 92, 93, 94, 95, 96, 97, 98, 99, 100, 101, 102, 103, 104, 105, 106, 107, 108, 109, 110, 111, 112, 113, 114, 115, 116, 117, 118, 119, 120, 121, 122, 123, 124, 125, 126, 127, 128, 129, 130, 131, 132, 133, 134, 135, 136, 137, 138, 139, 140, 141, 142, 143, 144, 145, 146, 147, 148, 149, 150, 151, 152, 153, 154, 155, 156, 157, 158, 159, 160, 161, 162, 163, 164, 165, 166, 167, 168] (by decide +kernel) (by decide +kernel)) (goodIn_sub (fun _ h => List.mem_cons_of_mem _ (List.mem_append_left _ (List.mem_append_right _ h))) (by decide +kernel))) (goodIn_sub (fun _ h => List.mem_cons_of_mem _ (List.mem_append_right _ h)) (by decide +kernel))
set_option maxRecDepth 20000 in
theorem gL_advise_X5_advise : GoodIn wsL_advise (wsV RL 65 RX5 yX5_advise wsX5_advise) := goodIn_app (goodIn_of _ (by decide +kernel)) ggL_advise_X5_advise
theorem dL_advise_0 : decode cL_advise 0 = .ok (.aload_n 2, 1) := by decide +kernel
theorem dL_advise_1 : decode cL_advise 1 = .ok (.iconst 0, 1) := by decide +kernel
theorem dL_advise_2 : decode cL_advise 2 = .ok (.aload_n 0, 1) := by decide +kernel
theorem dL_advise_3 : decode cL_advise 3 = .ok (.iload_n 1, 1) := by decide +kernel
theorem dL_advise_4 : decode cL_advise 4 = .ok (.invokevirtual 65, 3) := by decide +kernel
theorem dL_advise_7 : decode cL_advise 7 = .ok (.i2l, 1) := by decide +kernel
theorem dL_advise_8 : decode cL_advise 8 = .ok (.lastore, 1) := by decide +kernel
theorem dL_advise_9 : decode cL_advise 9 = .ok (.goto 9, 3) := by decide +kernel
theorem dL_advise_12 : decode cL_advise 12 = .ok (.astore_n 3, 1) := by decide +kernel
theorem dL_advise_13 : decode cL_advise 13 = .ok (.iconst 1, 1) := by decide +kernel
theorem dL_advise_14 : decode cL_advise 14 = .ok (.ireturn, 1) := by decide +kernel
theorem dL_advise_15 : decode cL_advise 15 = .ok (.astore_n 3, 1) := by decide +kernel
theorem dL_advise_16 : decode cL_advise 16 = .ok (.iconst 2, 1) := by decide +kernel
theorem dL_advise_17 : decode cL_advise 17 = .ok (.ireturn, 1) := by decide +kernel
theorem dL_advise_18 : decode cL_advise 18 = .ok (.iconst 0, 1) := by decide +kernel
theorem dL_advise_19 : decode cL_advise 19 = .ok (.ireturn, 1) := by decide +kernel
set_option maxRecDepth 20000 in
theorem ggL_law_X5_init : GoodIn wsL_law wsX5_init := goodIn_r _ [9, 10, 11, 12, 13, 14, 15, 16, 17, 18, 19, 20, 21, 22, 23, 24, 25, 26, 27, 28, 29, 30, 31, 32, 33, 34, 35, 36, 37, 38, 39, 40, 41, 42, 43, 44, 45, 46, 47, 48, 49, 50, 51, 52, 53, 54, 55, 56, 57, 58, 59, 60, 61, 62, 63, 64, 65, 66, 67, 68, 69, 70, 71, 595, 596, 597, 598, 599, 600, 581, 582, 583, 584, 601, 602, 603, 604, 605, 606, 607, 608, 609, 610, 611, 612, 613, 614, 615, 616, 617] (by decide +kernel) (by decide +kernel)
set_option maxRecDepth 20000 in
theorem gL_law_X5_init : GoodIn wsL_law (wsX5_init) := ggL_law_X5_init
set_option maxRecDepth 20000 in
theorem ggL_law_X6_init : GoodIn wsL_law wsX6_init := goodIn_r _ [74, 75, 11, 12, 30, 76, 77, 78, 79, 80, 81, 585, 586, 587, 588, 589, 590, 591, 592, 593, 594] (by decide +kernel) (by decide +kernel)
set_option maxRecDepth 20000 in
theorem gL_law_X6_init : GoodIn wsL_law (wsX6_init) := ggL_law_X6_init
set_option maxRecDepth 20000 in
theorem ggL_law_L_window : GoodIn wsL_law wsL_window := goodIn_ca (goodIn_ca (goodIn_ca (goodIn_r _ [85, 86, 87, 88, 89, 90, 91, 2, 92, 93, 94, 95, 96, 97, 98, 16, 99, 100, 101, 15, 102, 31, 29, 32, 33, 34, 35, 581, 582, 583, 584, 595, 596, 597, 598, 599, 600] (by decide +kernel) (by decide +kernel)) (goodIn_sub (fun _ h => List.mem_append_left _ (List.mem_append_left _ (List.mem_append_right _ h))) (by decide +kernel))) (goodIn_sub (fun _ h => List.mem_append_left _ (List.mem_append_right _ h)) (by decide +kernel))) (goodIn_sub (fun _ h => List.mem_append_right _ h) (by decide +kernel))
set_option maxRecDepth 20000 in
theorem gL_law_L_window : GoodIn wsL_law (va_wsS RL 72 yL_window wsL_window) := goodIn_app (goodIn_of _ (by decide +kernel)) ggL_law_L_window
set_option maxRecDepth 20000 in
theorem ggL_law_X6_window : GoodIn wsL_law wsX6_window := goodIn_r _ [106, 107, 108, 30, 76, 109, 110, 111, 112, 113, 114, 5, 115, 116, 117, 118, 119, 585, 586, 587, 588, 589, 590, 591, 592, 593, 594] (by decide +kernel) (by decide +kernel)
set_option maxRecDepth 20000 in
theorem gL_law_X6_window : GoodIn wsL_law (wsV RL 77 RX6 yX6_window wsX6_window) := goodIn_app (goodIn_of _ (by decide +kernel)) ggL_law_X6_window
set_option maxRecDepth 20000 in
theorem ggL_law_X6_thrown : GoodIn wsL_law wsX6_thrown := goodIn_r _ [123, 107, 585, 586, 587, 588, 589, 590, 591, 592, 593, 594] (by decide +kernel) (by decide +kernel)
set_option maxRecDepth 20000 in
theorem gL_law_X6_thrown : GoodIn wsL_law (wsV RL 78 RX6 yX6_thrown wsX6_thrown) := goodIn_app (goodIn_of _ (by decide +kernel)) ggL_law_X6_thrown
set_option maxRecDepth 20000 in
theorem ggL_law_L_rope : GoodIn wsL_law wsL_rope := goodIn_ca (goodIn_ca (goodIn_ca (goodIn_r _ [126, 87, 86, 88, 127, 128, 129, 2, 130, 95, 96, 93, 94, 97, 98, 24, 131, 132, 133, 134, 135, 136, 51, 137, 64, 65, 138, 139, 140, 141, 67, 69, 581, 582, 583, 584, 604, 605, 606, 607, 608, 609, 611, 612, 613, 614, 615, 616, 617] (by decide +kernel) (by decide +kernel)) (goodIn_sub (fun _ h => List.mem_append_left _ (List.mem_append_right _ h)) (by decide +kernel))) (goodIn_sub (fun _ h => List.mem_append_left _ (List.mem_append_left _ (List.mem_append_right _ h))) (by decide +kernel))) (goodIn_sub (fun _ h => List.mem_append_right _ h) (by decide +kernel))
set_option maxRecDepth 20000 in
theorem gL_law_L_rope : GoodIn wsL_law (va_wsS RL 82 yL_rope wsL_rope) := goodIn_app (goodIn_of _ (by decide +kernel)) ggL_law_L_rope
set_option maxRecDepth 20000 in
theorem ggL_law_X6_rope : GoodIn wsL_law wsX6_rope := goodIn_r _ [145, 107, 146, 77, 113, 114, 5, 115, 116, 117, 118, 119, 147, 148, 149, 150, 151, 152, 153, 154, 80, 155, 156, 157, 158, 585, 586, 587, 588, 589, 590, 591, 592, 593, 594] (by decide +kernel) (by decide +kernel)
set_option maxRecDepth 20000 in
theorem gL_law_X6_rope : GoodIn wsL_law (wsV RL 85 RX6 yX6_rope wsX6_rope) := goodIn_app (goodIn_of _ (by decide +kernel)) ggL_law_X6_rope
set_option maxRecDepth 20000 in
theorem ggL_law_L_feast : GoodIn wsL_law wsL_feast := goodIn_ca (goodIn_ca (goodIn_r _ [161, 86, 88, 162, 163, 164, 2, 165, 93, 94, 97, 98, 20, 166, 167, 168, 19, 169, 40, 39, 41, 581, 582, 583, 584, 601, 602, 603] (by decide +kernel) (by decide +kernel)) (goodIn_sub (fun _ h => List.mem_append_left _ (List.mem_append_left _ (List.mem_append_right _ h))) (by decide +kernel))) (goodIn_sub (fun _ h => List.mem_append_right _ h) (by decide +kernel))
set_option maxRecDepth 20000 in
theorem gL_law_L_feast : GoodIn wsL_law (va_wsS RL 86 yL_feast wsL_feast) := goodIn_app (goodIn_of _ (by decide +kernel)) ggL_law_L_feast
set_option maxRecDepth 20000 in
theorem ggL_law_X6_feast : GoodIn wsL_law wsX6_feast := goodIn_r _ [173, 107, 174, 78, 79, 113, 114, 5, 115, 116, 117, 118, 119, 585, 586, 587, 588, 589, 590, 591, 592, 593, 594] (by decide +kernel) (by decide +kernel)
set_option maxRecDepth 20000 in
theorem gL_law_X6_feast : GoodIn wsL_law (wsV RL 89 RX6 yX6_feast wsX6_feast) := goodIn_app (goodIn_of _ (by decide +kernel)) ggL_law_X6_feast
set_option maxRecDepth 20000 in
theorem ggL_law_L_setWind : GoodIn wsL_law wsL_setWind := goodIn_ca (goodIn_r _ [177, 86, 178, 179, 180, 2, 181, 93, 94, 24, 581, 582, 583, 584, 604, 605, 606, 607, 608, 609] (by decide +kernel) (by decide +kernel)) (goodIn_sub (fun _ h => List.mem_append_left _ (List.mem_append_left _ (List.mem_append_right _ h))) (by decide +kernel))
set_option maxRecDepth 20000 in
theorem gL_law_L_setWind : GoodIn wsL_law (va_wsS RL 90 yL_setWind wsL_setWind) := goodIn_app (goodIn_of _ (by decide +kernel)) ggL_law_L_setWind
set_option maxRecDepth 20000 in
theorem ggL_law_X6_setWind : GoodIn wsL_law wsX6_setWind := goodIn_r _ [185, 107, 80, 113, 114, 5, 115, 116, 117, 118, 119, 585, 586, 587, 588, 589, 590, 591, 592, 593, 594] (by decide +kernel) (by decide +kernel)
set_option maxRecDepth 20000 in
theorem gL_law_X6_setWind : GoodIn wsL_law (wsV RL 93 RX6 yX6_setWind wsX6_setWind) := goodIn_app (goodIn_of _ (by decide +kernel)) ggL_law_X6_setWind
set_option maxRecDepth 20000 in
theorem ggL_law_L_move : GoodIn wsL_law wsL_move := goodIn_ca (goodIn_ca (goodIn_r _ [188, 87, 88, 189, 190, 191, 2, 192, 95, 96, 97, 98, 24, 193, 194, 195, 196, 131, 132, 133, 134, 135, 136, 51, 137, 64, 65, 197, 198, 199, 200, 66, 71, 581, 582, 583, 584, 604, 605, 606, 607, 608, 609, 611, 612, 613, 614, 615, 616, 617] (by decide +kernel) (by decide +kernel)) (goodIn_sub (fun _ h => List.mem_append_left _ (List.mem_append_right _ h)) (by decide +kernel))) (goodIn_sub (fun _ h => List.mem_append_right _ h) (by decide +kernel))
set_option maxRecDepth 20000 in
theorem gL_law_L_move : GoodIn wsL_law (va_wsS RL 94 yL_move wsL_move) := goodIn_app (goodIn_of _ (by decide +kernel)) ggL_law_L_move
set_option maxRecDepth 20000 in
theorem ggL_law_X6_move : GoodIn wsL_law wsX6_move := goodIn_r _ [204, 107, 205, 206, 207, 5, 208, 146, 113, 114, 115, 116, 117, 118, 119, 147, 148, 149, 150, 151, 152, 153, 154, 80, 209, 210, 211, 212, 155, 156, 157, 158, 585, 586, 587, 588, 589, 590, 591, 592, 593, 594] (by decide +kernel) (by decide +kernel)
set_option maxRecDepth 20000 in
theorem gL_law_X6_move : GoodIn wsL_law (wsV RL 96 RX6 yX6_move wsX6_move) := goodIn_app (goodIn_of _ (by decide +kernel)) ggL_law_X6_move
set_option maxRecDepth 20000 in
theorem ggL_law_L_turn : GoodIn wsL_law wsL_turn := goodIn_ca (goodIn_r _ [215, 87, 216, 217, 218, 2, 219, 95, 96, 24, 193, 194, 195, 196, 581, 582, 583, 584, 604, 605, 606, 607, 608, 609, 611, 612, 613, 614, 615, 616, 617] (by decide +kernel) (by decide +kernel)) (goodIn_sub (fun _ h => List.mem_append_left _ (List.mem_append_right _ h)) (by decide +kernel))
set_option maxRecDepth 20000 in
theorem gL_law_L_turn : GoodIn wsL_law (va_wsS RL 97 yL_turn wsL_turn) := goodIn_app (goodIn_of _ (by decide +kernel)) ggL_law_L_turn
set_option maxRecDepth 20000 in
theorem ggL_law_X6_turn : GoodIn wsL_law wsX6_turn := goodIn_r _ [223, 107, 205, 206, 207, 5, 208, 146, 113, 114, 115, 151, 152, 153, 154, 80, 155, 156, 157, 158, 585, 586, 587, 588, 589, 590, 591, 592, 593, 594] (by decide +kernel) (by decide +kernel)
set_option maxRecDepth 20000 in
theorem gL_law_X6_turn : GoodIn wsL_law (wsV RL 99 RX6 yX6_turn wsX6_turn) := goodIn_app (goodIn_of _ (by decide +kernel)) ggL_law_X6_turn
set_option maxRecDepth 20000 in
theorem ggL_law_L_wipe : GoodIn wsL_law wsL_wipe := goodIn_ca (goodIn_r _ [226, 87, 227, 228, 229, 2, 230, 95, 96, 16, 24, 231, 232, 233, 234, 235, 236, 237, 15, 238, 31, 33, 32, 34, 239, 240, 241, 47, 242, 60, 243, 244, 245, 246, 581, 582, 583, 584, 604, 605, 606, 607, 608, 609, 595, 596, 597, 598, 599, 600, 610] (by decide +kernel) (by decide +kernel)) (goodIn_sub (fun _ h => List.mem_append_left _ (List.mem_append_right _ h)) (by decide +kernel))
set_option maxRecDepth 20000 in
theorem gL_law_L_wipe : GoodIn wsL_law (va_wsS RL 100 yL_wipe wsL_wipe) := goodIn_app (goodIn_of _ (by decide +kernel)) ggL_law_L_wipe
set_option maxRecDepth 20000 in
theorem ggL_law_X6_wipe : GoodIn wsL_law wsX6_wipe := goodIn_r _ [250, 107, 80, 251, 252, 253, 5, 254, 108, 113, 114, 115, 116, 117, 118, 119, 255, 256, 257, 258, 76, 259, 260, 261, 585, 586, 587, 588, 589, 590, 591, 592, 593, 594] (by decide +kernel) (by decide +kernel)
set_option maxRecDepth 20000 in
theorem gL_law_X6_wipe : GoodIn wsL_law (wsV RL 102 RX6 yX6_wipe wsX6_wipe) := goodIn_app (goodIn_of _ (by decide +kernel)) ggL_law_X6_wipe
set_option maxRecDepth 20000 in
theorem ggL_law_L_pass : GoodIn wsL_law wsL_pass := goodIn_ca (goodIn_r _ [264, 86, 265, 266, 267, 2, 268, 93, 94, 24, 16, 20, 269, 270, 271, 23, 272, 273, 274, 275, 276, 48, 53, 54, 55, 56, 52, 277, 278, 279, 47, 280, 60, 243, 244, 245, 246, 281, 282, 283, 284, 285, 286, 287, 288, 289, 19, 290, 39, 40, 41, 291, 292, 293, 15, 294, 29, 295, 296, 297, 298, 35, 299, 300, 301, 302, 303, 33, 34, 304, 305, 306, 307, 31, 32, 308, 309, 310, 311, 312, 313, 314, 51, 315, 64, 316, 317, 318, 319, 67, 65, 66, 70, 320, 240, 241, 242, 321, 322, 323, 324, 69, 325, 135, 136, 137, 326, 198, 199, 200, 71, 581, 582, 583, 584, 604, 605, 606, 607, 608, 609, 610, 601, 602, 603, 595, 596, 597, 598, 599, 600, 611, 612, 613, 614, 615, 616, 617] (by decide +kernel) (by decide +kernel)) (goodIn_sub (fun _ h => List.mem_append_left _ (List.mem_append_left _ (List.mem_append_right _ h))) (by decide +kernel))
set_option maxRecDepth 20000 in
theorem gL_law_L_pass : GoodIn wsL_law (va_wsS RL 103 yL_pass wsL_pass) := goodIn_app (goodIn_of _ (by decide +kernel)) ggL_law_L_pass
set_option maxRecDepth 20000 in
theorem ggL_law_X6_pass : GoodIn wsL_law wsX6_pass := goodIn_r _ [330, 107, 80, 113, 114, 5, 115, 116, 117, 118, 119, 331, 332, 333, 334, 335, 336, 337, 338, 339, 244, 245, 246, 146, 340, 341, 342, 343, 344, 285, 286, 259, 260, 261, 345, 346, 347, 348, 174, 78, 79, 349, 350, 351, 352, 108, 353, 354, 355, 356, 255, 256, 257, 258, 76, 357, 358, 359, 360, 361, 362, 363, 364, 365, 366, 367, 368, 77, 151, 152, 153, 154, 155, 156, 157, 158, 369, 370, 371, 372, 147, 148, 149, 150, 209, 210, 211, 212, 585, 586, 587, 588, 589, 590, 591, 592, 593, 594] (by decide +kernel) (by decide +kernel)
set_option maxRecDepth 20000 in
theorem gL_law_X6_pass : GoodIn wsL_law (wsV RL 105 RX6 yX6_pass wsX6_pass) := goodIn_app (goodIn_of _ (by decide +kernel)) ggL_law_X6_pass
set_option maxRecDepth 20000 in
theorem ggL_law_L_soot : GoodIn wsL_law wsL_soot := goodIn_ca (goodIn_r _ [375, 87, 376, 377, 378, 2, 379, 95, 96, 24, 131, 132, 133, 380, 309, 310, 47, 311, 60, 581, 582, 583, 584, 604, 605, 606, 607, 608, 609, 610] (by decide +kernel) (by decide +kernel)) (goodIn_sub (fun _ h => List.mem_append_left _ (List.mem_append_right _ h)) (by decide +kernel))
set_option maxRecDepth 20000 in
theorem gL_law_L_soot : GoodIn wsL_law (va_wsS RL 106 yL_soot wsL_soot) := goodIn_app (goodIn_of _ (by decide +kernel)) ggL_law_L_soot
set_option maxRecDepth 20000 in
theorem ggL_law_X6_soot : GoodIn wsL_law wsX6_soot := goodIn_r _ [384, 107, 80, 113, 114, 5, 115, 259, 260, 261, 116, 117, 118, 119, 585, 586, 587, 588, 589, 590, 591, 592, 593, 594] (by decide +kernel) (by decide +kernel)
set_option maxRecDepth 20000 in
theorem gL_law_X6_soot : GoodIn wsL_law (wsV RL 108 RX6 yX6_soot wsX6_soot) := goodIn_app (goodIn_of _ (by decide +kernel)) ggL_law_X6_soot
set_option maxRecDepth 20000 in
theorem ggL_law_L_about : GoodIn wsL_law wsL_about := goodIn_ca (goodIn_r _ [387, 87, 388, 389, 390, 2, 391, 95, 96, 16, 24, 231, 232, 233, 234, 392, 393, 394, 15, 395, 31, 32, 33, 34, 35, 304, 305, 306, 307, 308, 309, 310, 47, 311, 60, 396, 397, 398, 399, 299, 285, 245, 286, 295, 296, 297, 298, 300, 301, 302, 303, 581, 582, 583, 584, 604, 605, 606, 607, 608, 609, 595, 596, 597, 598, 599, 600, 610] (by decide +kernel) (by decide +kernel)) (goodIn_sub (fun _ h => List.mem_append_left _ (List.mem_append_right _ h)) (by decide +kernel))
set_option maxRecDepth 20000 in
theorem gL_law_L_about : GoodIn wsL_law (va_wsS RL 109 yL_about wsL_about) := goodIn_app (goodIn_of _ (by decide +kernel)) ggL_law_L_about
set_option maxRecDepth 20000 in
theorem ggL_law_X6_about : GoodIn wsL_law wsX6_about := goodIn_r _ [403, 107, 251, 252, 253, 5, 254, 108, 113, 114, 115, 404, 405, 406, 407, 361, 362, 363, 364, 80, 344, 285, 245, 286, 255, 256, 257, 258, 76, 259, 260, 261, 353, 354, 355, 356, 357, 358, 359, 360, 116, 117, 118, 119, 585, 586, 587, 588, 589, 590, 591, 592, 593, 594] (by decide +kernel) (by decide +kernel)
set_option maxRecDepth 20000 in
theorem gL_law_X6_about : GoodIn wsL_law (wsV RL 111 RX6 yX6_about wsX6_about) := goodIn_app (goodIn_of _ (by decide +kernel)) ggL_law_X6_about
set_option maxRecDepth 20000 in
theorem ggL_law_L_told : GoodIn wsL_law wsL_told := goodIn_ca (goodIn_r _ [410, 87, 411, 412, 413, 2, 414, 95, 96, 24, 193, 194, 195, 196, 415, 416, 417, 51, 418, 65, 66, 67, 69, 70, 71, 581, 582, 583, 584, 604, 605, 606, 607, 608, 609, 611, 612, 613, 614, 615, 616, 617] (by decide +kernel) (by decide +kernel)) (goodIn_sub (fun _ h => List.mem_append_left _ (List.mem_append_right _ h)) (by decide +kernel))
set_option maxRecDepth 20000 in
theorem gL_law_L_told : GoodIn wsL_law (va_wsS RL 112 yL_told wsL_told) := goodIn_app (goodIn_of _ (by decide +kernel)) ggL_law_L_told
set_option maxRecDepth 20000 in
theorem ggL_law_X6_told : GoodIn wsL_law wsX6_told := goodIn_r _ [422, 107, 205, 206, 207, 5, 208, 146, 113, 114, 115, 423, 424, 425, 426, 77, 151, 152, 153, 154, 80, 116, 117, 118, 119, 585, 586, 587, 588, 589, 590, 591, 592, 593, 594] (by decide +kernel) (by decide +kernel)
set_option maxRecDepth 20000 in
theorem gL_law_X6_told : GoodIn wsL_law (wsV RL 114 RX6 yX6_told wsX6_told) := goodIn_app (goodIn_of _ (by decide +kernel)) ggL_law_X6_told
set_option maxRecDepth 20000 in
theorem ggL_law_L_count : GoodIn wsL_law wsL_count := goodIn_ca (goodIn_r _ [429, 87, 430, 431, 432, 2, 433, 95, 96, 434, 435, 436, 437, 24, 16, 20, 438, 439, 440, 47, 441, 60, 442, 443, 444, 445, 446, 447, 448, 51, 449, 64, 70, 450, 292, 293, 15, 294, 29, 295, 296, 297, 298, 35, 299, 285, 245, 286, 300, 301, 302, 303, 33, 34, 304, 305, 306, 307, 31, 32, 308, 309, 310, 311, 581, 582, 583, 584, 604, 605, 606, 607, 608, 609, 595, 596, 597, 598, 599, 600, 611, 612, 613, 614, 615, 616, 617, 601, 602, 603, 610] (by decide +kernel) (by decide +kernel)) (goodIn_sub (fun _ h => List.mem_append_left _ (List.mem_append_right _ h)) (by decide +kernel))
set_option maxRecDepth 20000 in
theorem gL_law_L_count : GoodIn wsL_law (va_wsS RL 115 yL_count wsL_count) := goodIn_app (goodIn_of _ (by decide +kernel)) ggL_law_L_count
set_option maxRecDepth 20000 in
theorem ggL_law_X6_count : GoodIn wsL_law wsX6_count := goodIn_r _ [454, 107, 113, 114, 5, 115, 455, 456, 457, 458, 80, 108, 146, 174, 459, 460, 461, 462, 463, 464, 465, 466, 151, 152, 153, 154, 349, 350, 351, 352, 353, 354, 355, 356, 344, 285, 245, 286, 255, 256, 257, 258, 76, 357, 358, 359, 360, 361, 362, 363, 364, 259, 260, 261, 116, 117, 118, 119, 585, 586, 587, 588, 589, 590, 591, 592, 593, 594] (by decide +kernel) (by decide +kernel)
set_option maxRecDepth 20000 in
theorem gL_law_X6_count : GoodIn wsL_law (wsV RL 117 RX6 yX6_count wsX6_count) := goodIn_app (goodIn_of _ (by decide +kernel)) ggL_law_X6_count
set_option maxRecDepth 20000 in
theorem ggL_law_L_isFeast : GoodIn wsL_law wsL_isFeast := goodIn_ca (goodIn_r _ [469, 86, 470, 471, 472, 2, 473, 93, 94, 20, 24, 474, 288, 289, 19, 290, 39, 40, 41, 581, 582, 583, 584, 604, 605, 606, 607, 608, 609, 601, 602, 603] (by decide +kernel) (by decide +kernel)) (goodIn_sub (fun _ h => List.mem_append_left _ (List.mem_append_left _ (List.mem_append_right _ h))) (by decide +kernel))
set_option maxRecDepth 20000 in
theorem gL_law_L_isFeast : GoodIn wsL_law (va_wsS RL 118 yL_isFeast wsL_isFeast) := goodIn_app (goodIn_of _ (by decide +kernel)) ggL_law_L_isFeast
set_option maxRecDepth 20000 in
theorem ggL_law_X6_isFeast : GoodIn wsL_law wsX6_isFeast := goodIn_r _ [478, 107, 80, 113, 114, 5, 115, 345, 346, 347, 348, 174, 78, 79, 585, 586, 587, 588, 589, 590, 591, 592, 593, 594] (by decide +kernel) (by decide +kernel)
set_option maxRecDepth 20000 in
theorem gL_law_X6_isFeast : GoodIn wsL_law (wsV RL 120 RX6 yX6_isFeast wsX6_isFeast) := goodIn_app (goodIn_of _ (by decide +kernel)) ggL_law_X6_isFeast
set_option maxRecDepth 20000 in
theorem ggL_law_X5_next : GoodIn wsL_law wsX5_next := goodIn_r _ [482, 20, 24, 483, 484, 485, 19, 486, 487, 288, 289, 290, 39, 40, 41, 581, 582, 583, 584, 604, 605, 606, 607, 608, 609, 601, 602, 603] (by decide +kernel) (by decide +kernel)
set_option maxRecDepth 20000 in
theorem gL_law_X5_next : GoodIn wsL_law (wsV RL 121 RX5 yX5_next wsX5_next) := goodIn_app (goodIn_of _ (by decide +kernel)) ggL_law_X5_next
set_option maxRecDepth 20000 in
theorem ggL_law_X6_next : GoodIn wsL_law wsX6_next := goodIn_r _ [491, 107, 492, 493, 494, 5, 495, 80, 345, 346, 347, 348, 174, 78, 79, 585, 586, 587, 588, 589, 590, 591, 592, 593, 594] (by decide +kernel) (by decide +kernel)
set_option maxRecDepth 20000 in
theorem gL_law_X6_next : GoodIn wsL_law (wsV RL 124 RX6 yX6_next wsX6_next) := goodIn_app (goodIn_of _ (by decide +kernel)) ggL_law_X6_next
set_option maxRecDepth 20000 in
theorem ggL_law_L_would : GoodIn wsL_law wsL_would := goodIn_ca (goodIn_ca (goodIn_r _ [498, 86, 87, 499, 500, 501, 2, 502, 93, 94, 95, 96, 25, 24, 16, 20, 503, 504, 505, 23, 506, 48, 52, 53, 54, 55, 56, 507, 508, 509, 47, 510, 60, 511, 110, 111, 112, 512, 513, 514, 51, 515, 64, 65, 66, 67, 69, 70, 71, 269, 270, 271, 272, 273, 274, 275, 276, 277, 278, 279, 280, 243, 244, 245, 246, 281, 282, 283, 284, 285, 286, 287, 288, 289, 19, 290, 39, 40, 41, 291, 292, 293, 15, 294, 29, 295, 296, 297, 298, 35, 299, 300, 301, 302, 303, 33, 34, 304, 305, 306, 307, 31, 32, 308, 309, 310, 311, 312, 313, 314, 315, 316, 317, 318, 319, 320, 240, 241, 242, 321, 322, 323, 324, 325, 135, 136, 137, 326, 198, 199, 200, 438, 439, 440, 441, 446, 447, 448, 449, 581, 582, 583, 584, 604, 605, 606, 607, 608, 609, 610, 611, 612, 613, 614, 615, 616, 617, 601, 602, 603, 595, 596, 597, 598, 599, 600] (by decide +kernel) (by decide +kernel)) (goodIn_sub (fun _ h => List.mem_append_left _ (List.mem_append_left _ (List.mem_append_right _ h))) (by decide +kernel))) (goodIn_sub (fun _ h => List.mem_append_left _ (List.mem_append_right _ h)) (by decide +kernel))
set_option maxRecDepth 20000 in
theorem gL_law_L_would : GoodIn wsL_law (va_wsS RL 125 yL_would wsL_would) := goodIn_app (goodIn_of _ (by decide +kernel)) ggL_law_L_would
set_option maxRecDepth 20000 in
theorem ggL_law_X6_would : GoodIn wsL_law wsX6_would := goodIn_r _ [519, 107, 80, 113, 114, 5, 115, 116, 117, 118, 119, 520, 521, 522, 523, 81, 109, 110, 111, 112, 331, 332, 333, 334, 335, 336, 337, 338, 339, 244, 245, 246, 146, 340, 341, 342, 343, 344, 285, 286, 259, 260, 261, 345, 346, 347, 348, 174, 78, 79, 349, 350, 351, 352, 108, 353, 354, 355, 356, 255, 256, 257, 258, 76, 357, 358, 359, 360, 361, 362, 363, 364, 365, 366, 367, 368, 77, 151, 152, 153, 154, 155, 156, 157, 158, 369, 370, 371, 372, 147, 148, 149, 150, 209, 210, 211, 212, 459, 460, 461, 462, 463, 464, 465, 466, 524, 525, 526, 527, 585, 586, 587, 588, 589, 590, 591, 592, 593, 594] (by decide +kernel) (by decide +kernel)
set_option maxRecDepth 20000 in
theorem gL_law_X6_would : GoodIn wsL_law (wsV RL 127 RX6 yX6_would wsX6_would) := goodIn_app (goodIn_of _ (by decide +kernel)) ggL_law_X6_would
set_option maxRecDepth 20000 in
theorem ggL_law_L_until : GoodIn wsL_law wsL_until := goodIn_ca (goodIn_r _ [530, 87, 531, 532, 533, 2, 534, 95, 96, 25, 24, 16, 20, 231, 232, 233, 234, 503, 504, 505, 23, 506, 48, 52, 53, 54, 55, 56, 507, 508, 509, 47, 510, 60, 511, 110, 111, 112, 512, 513, 514, 51, 515, 64, 65, 66, 67, 69, 70, 71, 535, 536, 537, 15, 538, 304, 305, 306, 307, 31, 33, 32, 34, 308, 309, 310, 311, 300, 301, 302, 303, 539, 274, 275, 276, 277, 278, 279, 280, 243, 244, 245, 246, 281, 282, 283, 284, 285, 286, 287, 288, 289, 19, 290, 39, 40, 41, 291, 292, 293, 294, 29, 295, 296, 297, 298, 35, 299, 312, 313, 314, 315, 316, 317, 318, 319, 320, 240, 241, 242, 321, 322, 323, 324, 325, 135, 136, 137, 326, 198, 199, 200, 581, 582, 583, 584, 604, 605, 606, 607, 608, 609, 595, 596, 597, 598, 599, 600, 610, 611, 612, 613, 614, 615, 616, 617, 601, 602, 603] (by decide +kernel) (by decide +kernel)) (goodIn_sub (fun _ h => List.mem_append_left _ (List.mem_append_right _ h)) (by decide +kernel))
set_option maxRecDepth 20000 in
theorem gL_law_L_until : GoodIn wsL_law (va_wsS RL 128 yL_until wsL_until) := goodIn_app (goodIn_of _ (by decide +kernel)) ggL_law_L_until
set_option maxRecDepth 20000 in
theorem ggL_law_X6_until : GoodIn wsL_law wsX6_until := goodIn_r _ [543, 107, 251, 252, 253, 5, 254, 108, 113, 114, 115, 116, 117, 118, 119, 520, 521, 522, 523, 80, 81, 109, 110, 111, 112, 361, 362, 363, 364, 344, 285, 245, 286, 255, 256, 257, 258, 76, 259, 260, 261, 357, 358, 359, 360, 335, 336, 337, 338, 339, 244, 246, 146, 340, 341, 342, 343, 345, 346, 347, 348, 174, 78, 79, 349, 350, 351, 352, 353, 354, 355, 356, 365, 366, 367, 368, 77, 151, 152, 153, 154, 155, 156, 157, 158, 369, 370, 371, 372, 147, 148, 149, 150, 209, 210, 211, 212, 524, 525, 526, 527, 585, 586, 587, 588, 589, 590, 591, 592, 593, 594] (by decide +kernel) (by decide +kernel)
set_option maxRecDepth 20000 in
theorem gL_law_X6_until : GoodIn wsL_law (wsV RL 130 RX6 yX6_until wsX6_until) := goodIn_app (goodIn_of _ (by decide +kernel)) ggL_law_X6_until
set_option maxRecDepth 20000 in
theorem ggL_law_L_advise : GoodIn wsL_law wsL_advise := goodIn_ca (goodIn_ca (goodIn_r _ [546, 87, 88, 547, 548, 549, 2, 550, 95, 96, 97, 98, 20, 24, 193, 194, 195, 196, 483, 484, 485, 19, 486, 487, 288, 289, 290, 39, 40, 41, 551, 552, 553, 554, 25, 16, 503, 504, 505, 23, 506, 48, 52, 53, 54, 55, 56, 507, 508, 509, 47, 510, 60, 511, 110, 111, 112, 512, 513, 514, 51, 515, 64, 65, 66, 67, 69, 70, 71, 197, 198, 199, 200, 539, 274, 275, 276, 277, 278, 279, 280, 243, 244, 245, 246, 281, 282, 283, 284, 285, 286, 287, 291, 292, 293, 15, 294, 29, 295, 296, 297, 298, 35, 299, 300, 301, 302, 303, 33, 34, 304, 305, 306, 307, 31, 32, 308, 309, 310, 311, 312, 313, 314, 315, 316, 317, 318, 319, 320, 240, 241, 242, 321, 322, 323, 324, 325, 135, 136, 137, 326, 134, 581, 582, 583, 584, 604, 605, 606, 607, 608, 609, 611, 612, 613, 614, 615, 616, 617, 601, 602, 603, 610, 595, 596, 597, 598, 599, 600] (by decide +kernel) (by decide +kernel)) (goodIn_sub (fun _ h => List.mem_append_left _ (List.mem_append_right _ h)) (by decide +kernel))) (goodIn_sub (fun _ h => List.mem_append_right _ h) (by decide +kernel))
set_option maxRecDepth 20000 in
theorem gL_law_L_advise : GoodIn wsL_law (va_wsS RL 131 yL_advise wsL_advise) := goodIn_app (goodIn_of _ (by decide +kernel)) ggL_law_L_advise
set_option maxRecDepth 20000 in
theorem ggL_law_X6_advise : GoodIn wsL_law wsX6_advise := goodIn_r _ [558, 107, 80, 205, 206, 207, 5, 208, 146, 113, 114, 115, 116, 117, 118, 119, 492, 493, 494, 495, 345, 346, 347, 348, 174, 78, 79, 520, 521, 522, 523, 81, 109, 110, 111, 112, 151, 152, 153, 154, 147, 148, 149, 150, 209, 210, 211, 212, 155, 156, 157, 158, 331, 332, 333, 334, 335, 336, 337, 338, 339, 244, 245, 246, 340, 341, 342, 343, 344, 285, 286, 259, 260, 261, 349, 350, 351, 352, 108, 353, 354, 355, 356, 255, 256, 257, 258, 76, 357, 358, 359, 360, 361, 362, 363, 364, 365, 366, 367, 368, 77, 369, 370, 371, 372, 524, 525, 526, 527, 585, 586, 587, 588, 589, 590, 591, 592, 593, 594] (by decide +kernel) (by decide +kernel)
set_option maxRecDepth 20000 in
theorem gL_law_X6_advise : GoodIn wsL_law (wsV RL 133 RX6 yX6_advise wsX6_advise) := goodIn_app (goodIn_of _ (by decide +kernel)) ggL_law_X6_advise
set_option maxRecDepth 20000 in
theorem ggL_law_X5_mean : GoodIn wsL_law wsX5_mean := goodIn_r _ [562, 24, 563, 438, 439, 440, 47, 441, 60, 581, 582, 583, 584, 604, 605, 606, 607, 608, 609, 610] (by decide +kernel) (by decide +kernel)
set_option maxRecDepth 20000 in
theorem gL_law_X5_mean : GoodIn wsL_law (wsV RL 134 RX5 yX5_mean wsX5_mean) := goodIn_app (goodIn_of _ (by decide +kernel)) ggL_law_X5_mean
set_option maxRecDepth 20000 in
theorem ggL_law_X6_mean : GoodIn wsL_law wsX6_mean := goodIn_r _ [567, 107, 568, 459, 460, 461, 5, 462, 80, 585, 586, 587, 588, 589, 590, 591, 592, 593, 594] (by decide +kernel) (by decide +kernel)
set_option maxRecDepth 20000 in
theorem gL_law_X6_mean : GoodIn wsL_law (wsV RL 138 RX6 yX6_mean wsX6_mean) := goodIn_app (goodIn_of _ (by decide +kernel)) ggL_law_X6_mean
set_option maxRecDepth 20000 in
theorem ggL_law_X5_digest : GoodIn wsL_law wsX5_digest := goodIn_r _ [572, 573, 574, 16, 24, 434, 435, 436, 2, 437, 20, 438, 439, 440, 47, 441, 60, 442, 443, 444, 445, 446, 447, 448, 51, 449, 64, 70, 450, 292, 293, 15, 294, 29, 295, 296, 297, 298, 35, 299, 285, 245, 286, 300, 301, 302, 303, 33, 34, 304, 305, 306, 307, 31, 32, 308, 309, 310, 311, 392, 393, 394, 395, 396, 397, 398, 399, 415, 416, 417, 418, 65, 66, 67, 69, 71, 380, 581, 582, 583, 584, 595, 596, 597, 598, 599, 600, 604, 605, 606, 607, 608, 609, 611, 612, 613, 614, 615, 616, 617, 601, 602, 603, 610] (by decide +kernel) (by decide +kernel)
set_option maxRecDepth 20000 in
theorem gL_law_X5_digest : GoodIn wsL_law (wsV RL 139 RX5 yX5_digest wsX5_digest) := goodIn_app (goodIn_of _ (by decide +kernel)) ggL_law_X5_digest
set_option maxRecDepth 20000 in
theorem ggL_law_X6_digest : GoodIn wsL_law wsX6_digest := goodIn_r _ [578, 107, 579, 580, 108, 146, 80, 455, 456, 457, 5, 458, 174, 459, 460, 461, 462, 463, 464, 465, 466, 151, 152, 153, 154, 349, 350, 351, 352, 353, 354, 355, 356, 344, 285, 245, 286, 255, 256, 257, 258, 76, 357, 358, 359, 360, 361, 362, 363, 364, 259, 260, 261, 404, 405, 406, 407, 423, 424, 425, 426, 77, 585, 586, 587, 588, 589, 590, 591, 592, 593, 594] (by decide +kernel) (by decide +kernel)
set_option maxRecDepth 20000 in
theorem gL_law_X6_digest : GoodIn wsL_law (wsV RL 143 RX6 yX6_digest wsX6_digest) := goodIn_app (goodIn_of _ (by decide +kernel)) ggL_law_X6_digest
theorem dL_law_0 : decode cL_law 0 = .ok (.new 8, 3) := by decide +kernel
theorem dL_law_3 : decode cL_law 3 = .ok (.dup, 1) := by decide +kernel
theorem dL_law_4 : decode cL_law 4 = .ok (.invokespecial 68, 3) := by decide +kernel
theorem dL_law_7 : decode cL_law 7 = .ok (.astore_n 1, 1) := by decide +kernel
theorem dL_law_8 : decode cL_law 8 = .ok (.new 69, 3) := by decide +kernel
theorem dL_law_11 : decode cL_law 11 = .ok (.dup, 1) := by decide +kernel
theorem dL_law_12 : decode cL_law 12 = .ok (.invokespecial 71, 3) := by decide +kernel
theorem dL_law_15 : decode cL_law 15 = .ok (.astore_n 2, 1) := by decide +kernel
theorem dL_law_16 : decode cL_law 16 = .ok (.iconst 1, 1) := by decide +kernel
theorem dL_law_17 : decode cL_law 17 = .ok (.newarray .long, 2) := by decide +kernel
theorem dL_law_19 : decode cL_law 19 = .ok (.astore_n 3, 1) := by decide +kernel
theorem dL_law_20 : decode cL_law 20 = .ok (.iconst 0, 1) := by decide +kernel
theorem dL_law_21 : decode cL_law 21 = .ok (.istore 4, 2) := by decide +kernel
theorem dL_law_23 : decode cL_law 23 = .ok (.iload 4, 2) := by decide +kernel
theorem dL_law_25 : decode cL_law 25 = .ok (.aload_n 0, 1) := by decide +kernel
theorem dL_law_26 : decode cL_law 26 = .ok (.arraylength, 1) := by decide +kernel
theorem dL_law_27 : decode cL_law 27 = .ok (.bipush 6, 2) := by decide +kernel
theorem dL_law_29 : decode cL_law 29 = .ok (.isub, 1) := by decide +kernel
theorem dL_law_30 : decode cL_law 30 = .ok (.if_icmp .gt 1246, 3) := by decide +kernel
theorem dL_law_33 : decode cL_law 33 = .ok (.aload_n 0, 1) := by decide +kernel
theorem dL_law_34 : decode cL_law 34 = .ok (.iload 4, 2) := by decide +kernel
theorem dL_law_36 : decode cL_law 36 = .ok (.iaload, 1) := by decide +kernel
theorem dL_law_37 : decode cL_law 37 = .ok (.bipush 31, 2) := by decide +kernel
theorem dL_law_39 : decode cL_law 39 = .ok (.iand, 1) := by decide +kernel
theorem dL_law_40 : decode cL_law 40 = .ok (.tableswitch 1230 0 18 #[92, 196, 292, 360, 416, 484, 547, 603, 659, 727, 795, 863, 919, 982, 995, 1063, 1119, 1175, 1216], 92) := by decide +kernel
theorem dL_law_132 : decode cL_law 132 = .ok (.aload_n 1, 1) := by decide +kernel
theorem dL_law_133 : decode cL_law 133 = .ok (.aload_n 0, 1) := by decide +kernel
theorem dL_law_134 : decode cL_law 134 = .ok (.iload 4, 2) := by decide +kernel
theorem dL_law_136 : decode cL_law 136 = .ok (.iconst 1, 1) := by decide +kernel
theorem dL_law_137 : decode cL_law 137 = .ok (.iadd, 1) := by decide +kernel
theorem dL_law_138 : decode cL_law 138 = .ok (.iaload, 1) := by decide +kernel
theorem dL_law_139 : decode cL_law 139 = .ok (.aload_n 0, 1) := by decide +kernel
theorem dL_law_140 : decode cL_law 140 = .ok (.iload 4, 2) := by decide +kernel
theorem dL_law_142 : decode cL_law 142 = .ok (.iconst 2, 1) := by decide +kernel
theorem dL_law_143 : decode cL_law 143 = .ok (.iadd, 1) := by decide +kernel
theorem dL_law_144 : decode cL_law 144 = .ok (.iaload, 1) := by decide +kernel
theorem dL_law_145 : decode cL_law 145 = .ok (.aload_n 0, 1) := by decide +kernel
theorem dL_law_146 : decode cL_law 146 = .ok (.iload 4, 2) := by decide +kernel
theorem dL_law_148 : decode cL_law 148 = .ok (.iconst 3, 1) := by decide +kernel
theorem dL_law_149 : decode cL_law 149 = .ok (.iadd, 1) := by decide +kernel
theorem dL_law_150 : decode cL_law 150 = .ok (.iaload, 1) := by decide +kernel
theorem dL_law_151 : decode cL_law 151 = .ok (.aload_n 0, 1) := by decide +kernel
theorem dL_law_152 : decode cL_law 152 = .ok (.iload 4, 2) := by decide +kernel
theorem dL_law_154 : decode cL_law 154 = .ok (.iconst 4, 1) := by decide +kernel
theorem dL_law_155 : decode cL_law 155 = .ok (.iadd, 1) := by decide +kernel
theorem dL_law_156 : decode cL_law 156 = .ok (.iaload, 1) := by decide +kernel
theorem dL_law_157 : decode cL_law 157 = .ok (.aload_n 0, 1) := by decide +kernel
theorem dL_law_158 : decode cL_law 158 = .ok (.iload 4, 2) := by decide +kernel
theorem dL_law_160 : decode cL_law 160 = .ok (.iconst 5, 1) := by decide +kernel
theorem dL_law_161 : decode cL_law 161 = .ok (.iadd, 1) := by decide +kernel
theorem dL_law_162 : decode cL_law 162 = .ok (.iaload, 1) := by decide +kernel
theorem dL_law_163 : decode cL_law 163 = .ok (.aload_n 3, 1) := by decide +kernel
theorem dL_law_164 : decode cL_law 164 = .ok (.invokestatic 72, 3) := by decide +kernel
theorem dL_law_167 : decode cL_law 167 = .ok (.istore 5, 2) := by decide +kernel
theorem dL_law_169 : decode cL_law 169 = .ok (.aload_n 2, 1) := by decide +kernel
theorem dL_law_170 : decode cL_law 170 = .ok (.aload_n 0, 1) := by decide +kernel
theorem dL_law_171 : decode cL_law 171 = .ok (.iload 4, 2) := by decide +kernel
theorem dL_law_173 : decode cL_law 173 = .ok (.iconst 1, 1) := by decide +kernel
theorem dL_law_174 : decode cL_law 174 = .ok (.iadd, 1) := by decide +kernel
theorem dL_law_175 : decode cL_law 175 = .ok (.iaload, 1) := by decide +kernel
theorem dL_law_176 : decode cL_law 176 = .ok (.aload_n 0, 1) := by decide +kernel
theorem dL_law_177 : decode cL_law 177 = .ok (.iload 4, 2) := by decide +kernel
theorem dL_law_179 : decode cL_law 179 = .ok (.iconst 2, 1) := by decide +kernel
theorem dL_law_180 : decode cL_law 180 = .ok (.iadd, 1) := by decide +kernel
theorem dL_law_181 : decode cL_law 181 = .ok (.iaload, 1) := by decide +kernel
theorem dL_law_182 : decode cL_law 182 = .ok (.aload_n 0, 1) := by decide +kernel
theorem dL_law_183 : decode cL_law 183 = .ok (.iload 4, 2) := by decide +kernel
theorem dL_law_185 : decode cL_law 185 = .ok (.iconst 3, 1) := by decide +kernel
theorem dL_law_186 : decode cL_law 186 = .ok (.iadd, 1) := by decide +kernel
theorem dL_law_187 : decode cL_law 187 = .ok (.iaload, 1) := by decide +kernel
theorem dL_law_188 : decode cL_law 188 = .ok (.aload_n 0, 1) := by decide +kernel
theorem dL_law_189 : decode cL_law 189 = .ok (.iload 4, 2) := by decide +kernel
theorem dL_law_191 : decode cL_law 191 = .ok (.iconst 4, 1) := by decide +kernel
theorem dL_law_192 : decode cL_law 192 = .ok (.iadd, 1) := by decide +kernel
theorem dL_law_193 : decode cL_law 193 = .ok (.iaload, 1) := by decide +kernel
theorem dL_law_194 : decode cL_law 194 = .ok (.aload_n 0, 1) := by decide +kernel
