theorem dX5_mean_15 : decode cX5_mean 15 = .ok (.dreturn, 1) := by decide +kernel
set_option maxRecDepth 20000 in
theorem ggX5_digest_X5_number : GoodIn wsX5_digest wsX5_number := goodIn_r _ [9, 4, 3, 10, 11, 12, 13, 14, 15, 16, 17, 18, 19, 20, 21, 22, 23, 24, 25, 26, 27, 28, 29, 30, 31, 32, 33, 34, 35, 36, 37, 38, 39, 40, 41, 42, 43, 44, 45, 46, 47, 48, 49, 50, 51, 52, 53, 54, 55, 56, 57, 58, 77, 78, 79, 80, 87, 88, 89, 90, 91, 92, 81, 82, 83, 84, 85, 86, 93, 94, 95, 96, 97, 98, 99, 100, 101, 102, 103] (by decide +kernel) (by decide +kernel)
set_option maxRecDepth 20000 in
theorem gX5_digest_X5_number : GoodIn wsX5_digest (wsV RX5 156 RX5 yX5_number wsX5_number) := goodIn_app (goodIn_of _ (by decide +kernel)) ggX5_digest_X5_number
set_option maxRecDepth 20000 in
theorem ggX5_digest_X4_number : GoodIn wsX5_digest wsX4_number := goodIn_r _ [62, 53, 54, 47, 48, 38, 49, 50, 51, 31, 52, 55, 56, 57, 14, 58, 16, 63, 64, 65, 66, 39, 40, 41, 42, 34, 35, 36, 37, 43, 44, 45, 46, 81, 82, 83, 84, 85, 86, 103] (by decide +kernel) (by decide +kernel)
set_option maxRecDepth 20000 in
theorem gX5_digest_X4_number : GoodIn wsX5_digest (wsV RX5 146 RX4 yX4_number wsX4_number) := goodIn_app (goodIn_of _ (by decide +kernel)) ggX5_digest_X4_number
set_option maxRecDepth 20000 in
theorem ggX5_digest_X3_number : GoodIn wsX5_digest wsX3_number := goodIn_r _ [70, 71, 72, 73, 74, 27, 75, 93, 94, 95, 96, 97, 98, 99] (by decide +kernel) (by decide +kernel)
set_option maxRecDepth 20000 in
theorem gX5_digest_X3_number : GoodIn wsX5_digest (wsV RX5 152 RX3 yX3_number wsX3_number) := goodIn_app (goodIn_of _ (by decide +kernel)) ggX5_digest_X3_number
set_option maxRecDepth 20000 in
theorem ggX5_digest_X2_at : GoodIn wsX5_digest wsX2_at := goodIn_r _ [58, 16, 103] (by decide +kernel) (by decide +kernel)
set_option maxRecDepth 20000 in
theorem gX5_digest_X2_at : GoodIn wsX5_digest (wsV RX5 139 RX2 yX2_at wsX2_at) := goodIn_app (goodIn_of _ (by decide +kernel)) ggX5_digest_X2_at
theorem dX5_digest_0 : decode cX5_digest 0 = .ok (.ldc2_w 195, 3) := by decide +kernel
theorem dX5_digest_3 : decode cX5_digest 3 = .ok (.lstore_n 1, 1) := by decide +kernel
theorem dX5_digest_4 : decode cX5_digest 4 = .ok (.iconst 0, 1) := by decide +kernel
theorem dX5_digest_5 : decode cX5_digest 5 = .ok (.istore_n 3, 1) := by decide +kernel
theorem dX5_digest_6 : decode cX5_digest 6 = .ok (.iload_n 3, 1) := by decide +kernel
theorem dX5_digest_7 : decode cX5_digest 7 = .ok (.bipush 11, 2) := by decide +kernel
theorem dX5_digest_9 : decode cX5_digest 9 = .ok (.if_icmp .ge 22, 3) := by decide +kernel
theorem dX5_digest_12 : decode cX5_digest 12 = .ok (.lload_n 1, 1) := by decide +kernel
theorem dX5_digest_13 : decode cX5_digest 13 = .ok (.ldc2_w 197, 3) := by decide +kernel
theorem dX5_digest_16 : decode cX5_digest 16 = .ok (.lmul, 1) := by decide +kernel
theorem dX5_digest_17 : decode cX5_digest 17 = .ok (.aload_n 0, 1) := by decide +kernel
theorem dX5_digest_18 : decode cX5_digest 18 = .ok (.iload_n 3, 1) := by decide +kernel
theorem dX5_digest_19 : decode cX5_digest 19 = .ok (.invokevirtual 156, 3) := by decide +kernel
theorem dX5_digest_22 : decode cX5_digest 22 = .ok (.i2l, 1) := by decide +kernel
theorem dX5_digest_23 : decode cX5_digest 23 = .ok (.ladd, 1) := by decide +kernel
theorem dX5_digest_24 : decode cX5_digest 24 = .ok (.lstore_n 1, 1) := by decide +kernel
theorem dX5_digest_25 : decode cX5_digest 25 = .ok (.iinc 3 1, 3) := by decide +kernel
theorem dX5_digest_28 : decode cX5_digest 28 = .ok (.goto (-22), 3) := by decide +kernel
theorem dX5_digest_31 : decode cX5_digest 31 = .ok (.iconst 0, 1) := by decide +kernel
theorem dX5_digest_32 : decode cX5_digest 32 = .ok (.istore_n 3, 1) := by decide +kernel
theorem dX5_digest_33 : decode cX5_digest 33 = .ok (.iload_n 3, 1) := by decide +kernel
theorem dX5_digest_34 : decode cX5_digest 34 = .ok (.aload_n 0, 1) := by decide +kernel
theorem dX5_digest_35 : decode cX5_digest 35 = .ok (.getfield 12, 3) := by decide +kernel
theorem dX5_digest_38 : decode cX5_digest 38 = .ok (.getfield 45, 3) := by decide +kernel
theorem dX5_digest_41 : decode cX5_digest 41 = .ok (.if_icmp .ge 50, 3) := by decide +kernel
theorem dX5_digest_44 : decode cX5_digest 44 = .ok (.iconst 0, 1) := by decide +kernel
theorem dX5_digest_45 : decode cX5_digest 45 = .ok (.istore 4, 2) := by decide +kernel
theorem dX5_digest_47 : decode cX5_digest 47 = .ok (.iload 4, 2) := by decide +kernel
theorem dX5_digest_49 : decode cX5_digest 49 = .ok (.bipush 8, 2) := by decide +kernel
theorem dX5_digest_51 : decode cX5_digest 51 = .ok (.if_icmp .ge 34, 3) := by decide +kernel
theorem dX5_digest_54 : decode cX5_digest 54 = .ok (.lload_n 1, 1) := by decide +kernel
theorem dX5_digest_55 : decode cX5_digest 55 = .ok (.ldc2_w 197, 3) := by decide +kernel
theorem dX5_digest_58 : decode cX5_digest 58 = .ok (.lmul, 1) := by decide +kernel
theorem dX5_digest_59 : decode cX5_digest 59 = .ok (.aload_n 0, 1) := by decide +kernel
theorem dX5_digest_60 : decode cX5_digest 60 = .ok (.getfield 12, 3) := by decide +kernel
theorem dX5_digest_63 : decode cX5_digest 63 = .ok (.iload_n 3, 1) := by decide +kernel
theorem dX5_digest_64 : decode cX5_digest 64 = .ok (.iload 4, 2) := by decide +kernel
theorem dX5_digest_66 : decode cX5_digest 66 = .ok (.aload_n 0, 1) := by decide +kernel
theorem dX5_digest_67 : decode cX5_digest 67 = .ok (.getfield 26, 3) := by decide +kernel
theorem dX5_digest_70 : decode cX5_digest 70 = .ok (.getfield 120, 3) := by decide +kernel
theorem dX5_digest_73 : decode cX5_digest 73 = .ok (.invokevirtual 146, 3) := by decide +kernel
theorem dX5_digest_76 : decode cX5_digest 76 = .ok (.i2l, 1) := by decide +kernel
theorem dX5_digest_77 : decode cX5_digest 77 = .ok (.ladd, 1) := by decide +kernel
theorem dX5_digest_78 : decode cX5_digest 78 = .ok (.lstore_n 1, 1) := by decide +kernel
theorem dX5_digest_79 : decode cX5_digest 79 = .ok (.iinc 4 1, 3) := by decide +kernel
theorem dX5_digest_82 : decode cX5_digest 82 = .ok (.goto (-35), 3) := by decide +kernel
theorem dX5_digest_85 : decode cX5_digest 85 = .ok (.iinc 3 1, 3) := by decide +kernel
theorem dX5_digest_88 : decode cX5_digest 88 = .ok (.goto (-55), 3) := by decide +kernel
theorem dX5_digest_91 : decode cX5_digest 91 = .ok (.iconst 0, 1) := by decide +kernel
theorem dX5_digest_92 : decode cX5_digest 92 = .ok (.istore_n 3, 1) := by decide +kernel
theorem dX5_digest_93 : decode cX5_digest 93 = .ok (.iload_n 3, 1) := by decide +kernel
theorem dX5_digest_94 : decode cX5_digest 94 = .ok (.aload_n 0, 1) := by decide +kernel
theorem dX5_digest_95 : decode cX5_digest 95 = .ok (.getfield 26, 3) := by decide +kernel
theorem dX5_digest_98 : decode cX5_digest 98 = .ok (.getfield 66, 3) := by decide +kernel
theorem dX5_digest_101 : decode cX5_digest 101 = .ok (.getfield 70, 3) := by decide +kernel
theorem dX5_digest_104 : decode cX5_digest 104 = .ok (.if_icmp .ge 46, 3) := by decide +kernel
theorem dX5_digest_107 : decode cX5_digest 107 = .ok (.iconst 0, 1) := by decide +kernel
theorem dX5_digest_108 : decode cX5_digest 108 = .ok (.istore 4, 2) := by decide +kernel
theorem dX5_digest_110 : decode cX5_digest 110 = .ok (.iload 4, 2) := by decide +kernel
theorem dX5_digest_112 : decode cX5_digest 112 = .ok (.bipush 6, 2) := by decide +kernel
theorem dX5_digest_114 : decode cX5_digest 114 = .ok (.if_icmp .ge 30, 3) := by decide +kernel
theorem dX5_digest_117 : decode cX5_digest 117 = .ok (.lload_n 1, 1) := by decide +kernel
theorem dX5_digest_118 : decode cX5_digest 118 = .ok (.ldc2_w 197, 3) := by decide +kernel
theorem dX5_digest_121 : decode cX5_digest 121 = .ok (.lmul, 1) := by decide +kernel
theorem dX5_digest_122 : decode cX5_digest 122 = .ok (.aload_n 0, 1) := by decide +kernel
theorem dX5_digest_123 : decode cX5_digest 123 = .ok (.getfield 26, 3) := by decide +kernel
theorem dX5_digest_126 : decode cX5_digest 126 = .ok (.getfield 66, 3) := by decide +kernel
theorem dX5_digest_129 : decode cX5_digest 129 = .ok (.iload_n 3, 1) := by decide +kernel
theorem dX5_digest_130 : decode cX5_digest 130 = .ok (.iload 4, 2) := by decide +kernel
theorem dX5_digest_132 : decode cX5_digest 132 = .ok (.invokevirtual 152, 3) := by decide +kernel
theorem dX5_digest_135 : decode cX5_digest 135 = .ok (.i2l, 1) := by decide +kernel
theorem dX5_digest_136 : decode cX5_digest 136 = .ok (.ladd, 1) := by decide +kernel
theorem dX5_digest_137 : decode cX5_digest 137 = .ok (.lstore_n 1, 1) := by decide +kernel
theorem dX5_digest_138 : decode cX5_digest 138 = .ok (.iinc 4 1, 3) := by decide +kernel
theorem dX5_digest_141 : decode cX5_digest 141 = .ok (.goto (-31), 3) := by decide +kernel
theorem dX5_digest_144 : decode cX5_digest 144 = .ok (.iinc 3 1, 3) := by decide +kernel
theorem dX5_digest_147 : decode cX5_digest 147 = .ok (.goto (-54), 3) := by decide +kernel
theorem dX5_digest_150 : decode cX5_digest 150 = .ok (.iconst 0, 1) := by decide +kernel
theorem dX5_digest_151 : decode cX5_digest 151 = .ok (.istore_n 3, 1) := by decide +kernel
theorem dX5_digest_152 : decode cX5_digest 152 = .ok (.iload_n 3, 1) := by decide +kernel
theorem dX5_digest_153 : decode cX5_digest 153 = .ok (.bipush 12, 2) := by decide +kernel
theorem dX5_digest_155 : decode cX5_digest 155 = .ok (.if_icmp .ge 46, 3) := by decide +kernel
theorem dX5_digest_158 : decode cX5_digest 158 = .ok (.iconst 0, 1) := by decide +kernel
theorem dX5_digest_159 : decode cX5_digest 159 = .ok (.istore 4, 2) := by decide +kernel
theorem dX5_digest_161 : decode cX5_digest 161 = .ok (.iload 4, 2) := by decide +kernel
theorem dX5_digest_163 : decode cX5_digest 163 = .ok (.bipush 8, 2) := by decide +kernel
theorem dX5_digest_165 : decode cX5_digest 165 = .ok (.if_icmp .ge 30, 3) := by decide +kernel
theorem dX5_digest_168 : decode cX5_digest 168 = .ok (.lload_n 1, 1) := by decide +kernel
theorem dX5_digest_169 : decode cX5_digest 169 = .ok (.ldc2_w 197, 3) := by decide +kernel
theorem dX5_digest_172 : decode cX5_digest 172 = .ok (.lmul, 1) := by decide +kernel
theorem dX5_digest_173 : decode cX5_digest 173 = .ok (.aload_n 0, 1) := by decide +kernel
theorem dX5_digest_174 : decode cX5_digest 174 = .ok (.getfield 26, 3) := by decide +kernel
theorem dX5_digest_177 : decode cX5_digest 177 = .ok (.getfield 120, 3) := by decide +kernel
theorem dX5_digest_180 : decode cX5_digest 180 = .ok (.iload_n 3, 1) := by decide +kernel
theorem dX5_digest_181 : decode cX5_digest 181 = .ok (.iload 4, 2) := by decide +kernel
theorem dX5_digest_183 : decode cX5_digest 183 = .ok (.invokevirtual 139, 3) := by decide +kernel
theorem dX5_digest_186 : decode cX5_digest 186 = .ok (.i2l, 1) := by decide +kernel
theorem dX5_digest_187 : decode cX5_digest 187 = .ok (.ladd, 1) := by decide +kernel
theorem dX5_digest_188 : decode cX5_digest 188 = .ok (.lstore_n 1, 1) := by decide +kernel
theorem dX5_digest_189 : decode cX5_digest 189 = .ok (.iinc 4 1, 3) := by decide +kernel
theorem dX5_digest_192 : decode cX5_digest 192 = .ok (.goto (-31), 3) := by decide +kernel
theorem dX5_digest_195 : decode cX5_digest 195 = .ok (.iinc 3 1, 3) := by decide +kernel
theorem dX5_digest_198 : decode cX5_digest 198 = .ok (.goto (-46), 3) := by decide +kernel
theorem dX5_digest_201 : decode cX5_digest 201 = .ok (.lload_n 1, 1) := by decide +kernel
theorem dX5_digest_202 : decode cX5_digest 202 = .ok (.lreturn, 1) := by decide +kernel
theorem dX5_isColumn_0 : decode cX5_isColumn 0 = .ok (.iload_n 0, 1) := by decide +kernel
theorem dX5_isColumn_1 : decode cX5_isColumn 1 = .ok (.ifCond .lt 13, 3) := by decide +kernel
theorem dX5_isColumn_4 : decode cX5_isColumn 4 = .ok (.iload_n 0, 1) := by decide +kernel
theorem dX5_isColumn_5 : decode cX5_isColumn 5 = .ok (.bipush 12, 2) := by decide +kernel
theorem dX5_isColumn_7 : decode cX5_isColumn 7 = .ok (.if_icmp .ge 7, 3) := by decide +kernel
theorem dX5_isColumn_10 : decode cX5_isColumn 10 = .ok (.iconst 1, 1) := by decide +kernel
theorem dX5_isColumn_11 : decode cX5_isColumn 11 = .ok (.goto 4, 3) := by decide +kernel
theorem dX5_isColumn_14 : decode cX5_isColumn 14 = .ok (.iconst 0, 1) := by decide +kernel
theorem dX5_isColumn_15 : decode cX5_isColumn 15 = .ok (.ireturn, 1) := by decide +kernel
theorem dX5_isWindow_0 : decode cX5_isWindow 0 = .ok (.iload_n 1, 1) := by decide +kernel
theorem dX5_isWindow_1 : decode cX5_isWindow 1 = .ok (.ifCond .lt 18, 3) := by decide +kernel
theorem dX5_isWindow_4 : decode cX5_isWindow 4 = .ok (.iload_n 1, 1) := by decide +kernel
theorem dX5_isWindow_5 : decode cX5_isWindow 5 = .ok (.aload_n 0, 1) := by decide +kernel
theorem dX5_isWindow_6 : decode cX5_isWindow 6 = .ok (.getfield 12, 3) := by decide +kernel
theorem dX5_isWindow_9 : decode cX5_isWindow 9 = .ok (.getfield 45, 3) := by decide +kernel
theorem dX5_isWindow_12 : decode cX5_isWindow 12 = .ok (.if_icmp .ge 7, 3) := by decide +kernel
theorem dX5_isWindow_15 : decode cX5_isWindow 15 = .ok (.iconst 1, 1) := by decide +kernel
theorem dX5_isWindow_16 : decode cX5_isWindow 16 = .ok (.goto 4, 3) := by decide +kernel
theorem dX5_isWindow_19 : decode cX5_isWindow 19 = .ok (.iconst 0, 1) := by decide +kernel
theorem dX5_isWindow_20 : decode cX5_isWindow 20 = .ok (.ireturn, 1) := by decide +kernel
theorem dX5_isRope_0 : decode cX5_isRope 0 = .ok (.iload_n 1, 1) := by decide +kernel
theorem dX5_isRope_1 : decode cX5_isRope 1 = .ok (.ifCond .lt 21, 3) := by decide +kernel
theorem dX5_isRope_4 : decode cX5_isRope 4 = .ok (.iload_n 1, 1) := by decide +kernel
theorem dX5_isRope_5 : decode cX5_isRope 5 = .ok (.aload_n 0, 1) := by decide +kernel
theorem dX5_isRope_6 : decode cX5_isRope 6 = .ok (.getfield 26, 3) := by decide +kernel
theorem dX5_isRope_9 : decode cX5_isRope 9 = .ok (.getfield 66, 3) := by decide +kernel
theorem dX5_isRope_12 : decode cX5_isRope 12 = .ok (.getfield 70, 3) := by decide +kernel
theorem dX5_isRope_15 : decode cX5_isRope 15 = .ok (.if_icmp .ge 7, 3) := by decide +kernel
theorem dX5_isRope_18 : decode cX5_isRope 18 = .ok (.iconst 1, 1) := by decide +kernel
theorem dX5_isRope_19 : decode cX5_isRope 19 = .ok (.goto 4, 3) := by decide +kernel
theorem dX5_isRope_22 : decode cX5_isRope 22 = .ok (.iconst 0, 1) := by decide +kernel
theorem dX5_isRope_23 : decode cX5_isRope 23 = .ok (.ireturn, 1) := by decide +kernel
set_option maxRecDepth 20000 in
theorem ggX5_number_X2_total : GoodIn wsX5_number wsX2_total := goodIn_r _ [8, 9, 78] (by decide +kernel) (by decide +kernel)
set_option maxRecDepth 20000 in
theorem gX5_number_X2_total : GoodIn wsX5_number (wsV RX5 172 RX2 yX2_total wsX2_total) := goodIn_app (goodIn_of _ (by decide +kernel)) ggX5_number_X2_total
set_option maxRecDepth 20000 in
theorem ggX5_number_X2_cleanPanes : GoodIn wsX5_number wsX2_cleanPanes := goodIn_r _ [13, 9, 78] (by decide +kernel) (by decide +kernel)
set_option maxRecDepth 20000 in
theorem gX5_number_X2_cleanPanes : GoodIn wsX5_number (wsV RX5 199 RX2 yX2_cleanPanes wsX2_cleanPanes) := goodIn_app (goodIn_of _ (by decide +kernel)) ggX5_number_X2_cleanPanes
set_option maxRecDepth 20000 in
theorem ggX5_number_X3_allCleaned : GoodIn wsX5_number wsX3_allCleaned := goodIn_r _ [18, 19, 20, 68, 69, 70, 71, 72, 73, 74] (by decide +kernel) (by decide +kernel)
set_option maxRecDepth 20000 in
theorem gX5_number_X3_allCleaned : GoodIn wsX5_number (wsV RX5 176 RX3 yX3_allCleaned wsX3_allCleaned) := goodIn_app (goodIn_of _ (by decide +kernel)) ggX5_number_X3_allCleaned
set_option maxRecDepth 20000 in
theorem ggX5_number_X4_allBring : GoodIn wsX5_number wsX4_allBring := goodIn_r _ [25, 26, 27, 28, 29, 24, 30, 31, 32, 33, 34, 35, 36, 37, 38, 39, 40, 41, 42, 43, 44, 45, 46, 47, 48, 49, 50, 7, 51, 9, 62, 63, 64, 65, 66, 67, 78] (by decide +kernel) (by decide +kernel)
set_option maxRecDepth 20000 in
theorem gX5_number_X4_allBring : GoodIn wsX5_number (wsV RX5 205 RX4 yX4_allBring wsX4_allBring) := goodIn_app (goodIn_of _ (by decide +kernel)) ggX5_number_X4_allBring
theorem dX5_number_0 : decode cX5_number 0 = .ok (.iload_n 1, 1) := by decide +kernel
theorem dX5_number_1 : decode cX5_number 1 = .ok (.tableswitch 147 0 9 #[55, 63, 71, 82, 90, 98, 109, 120, 131, 139], 55) := by decide +kernel
theorem dX5_number_56 : decode cX5_number 56 = .ok (.aload_n 0, 1) := by decide +kernel
theorem dX5_number_57 : decode cX5_number 57 = .ok (.getfield 26, 3) := by decide +kernel
theorem dX5_number_60 : decode cX5_number 60 = .ok (.getfield 159, 3) := by decide +kernel
theorem dX5_number_63 : decode cX5_number 63 = .ok (.ireturn, 1) := by decide +kernel
theorem dX5_number_64 : decode cX5_number 64 = .ok (.aload_n 0, 1) := by decide +kernel
theorem dX5_number_65 : decode cX5_number 65 = .ok (.getfield 12, 3) := by decide +kernel
theorem dX5_number_68 : decode cX5_number 68 = .ok (.getfield 45, 3) := by decide +kernel
theorem dX5_number_71 : decode cX5_number 71 = .ok (.ireturn, 1) := by decide +kernel
theorem dX5_number_72 : decode cX5_number 72 = .ok (.aload_n 0, 1) := by decide +kernel
theorem dX5_number_73 : decode cX5_number 73 = .ok (.getfield 26, 3) := by decide +kernel
theorem dX5_number_76 : decode cX5_number 76 = .ok (.getfield 66, 3) := by decide +kernel
theorem dX5_number_79 : decode cX5_number 79 = .ok (.getfield 70, 3) := by decide +kernel
theorem dX5_number_82 : decode cX5_number 82 = .ok (.ireturn, 1) := by decide +kernel
theorem dX5_number_83 : decode cX5_number 83 = .ok (.aload_n 0, 1) := by decide +kernel
theorem dX5_number_84 : decode cX5_number 84 = .ok (.getfield 19, 3) := by decide +kernel
theorem dX5_number_87 : decode cX5_number 87 = .ok (.getfield 83, 3) := by decide +kernel
theorem dX5_number_90 : decode cX5_number 90 = .ok (.ireturn, 1) := by decide +kernel
theorem dX5_number_91 : decode cX5_number 91 = .ok (.aload_n 0, 1) := by decide +kernel
theorem dX5_number_92 : decode cX5_number 92 = .ok (.getfield 26, 3) := by decide +kernel
theorem dX5_number_95 : decode cX5_number 95 = .ok (.getfield 91, 3) := by decide +kernel
theorem dX5_number_98 : decode cX5_number 98 = .ok (.ireturn, 1) := by decide +kernel
theorem dX5_number_99 : decode cX5_number 99 = .ok (.aload_n 0, 1) := by decide +kernel
theorem dX5_number_100 : decode cX5_number 100 = .ok (.getfield 26, 3) := by decide +kernel
theorem dX5_number_103 : decode cX5_number 103 = .ok (.getfield 120, 3) := by decide +kernel
theorem dX5_number_106 : decode cX5_number 106 = .ok (.invokevirtual 172, 3) := by decide +kernel
theorem dX5_number_109 : decode cX5_number 109 = .ok (.ireturn, 1) := by decide +kernel
theorem dX5_number_110 : decode cX5_number 110 = .ok (.aload_n 0, 1) := by decide +kernel
theorem dX5_number_111 : decode cX5_number 111 = .ok (.getfield 26, 3) := by decide +kernel
theorem dX5_number_114 : decode cX5_number 114 = .ok (.getfield 120, 3) := by decide +kernel
theorem dX5_number_117 : decode cX5_number 117 = .ok (.invokevirtual 199, 3) := by decide +kernel
theorem dX5_number_120 : decode cX5_number 120 = .ok (.ireturn, 1) := by decide +kernel
theorem dX5_number_121 : decode cX5_number 121 = .ok (.aload_n 0, 1) := by decide +kernel
theorem dX5_number_122 : decode cX5_number 122 = .ok (.getfield 26, 3) := by decide +kernel
theorem dX5_number_125 : decode cX5_number 125 = .ok (.getfield 66, 3) := by decide +kernel
theorem dX5_number_128 : decode cX5_number 128 = .ok (.invokevirtual 176, 3) := by decide +kernel
theorem dX5_number_131 : decode cX5_number 131 = .ok (.ireturn, 1) := by decide +kernel
theorem dX5_number_132 : decode cX5_number 132 = .ok (.aload_n 0, 1) := by decide +kernel
theorem dX5_number_133 : decode cX5_number 133 = .ok (.getfield 26, 3) := by decide +kernel
theorem dX5_number_136 : decode cX5_number 136 = .ok (.getfield 130, 3) := by decide +kernel
theorem dX5_number_139 : decode cX5_number 139 = .ok (.ireturn, 1) := by decide +kernel
theorem dX5_number_140 : decode cX5_number 140 = .ok (.aload_n 0, 1) := by decide +kernel
theorem dX5_number_141 : decode cX5_number 141 = .ok (.getfield 26, 3) := by decide +kernel
theorem dX5_number_144 : decode cX5_number 144 = .ok (.getfield 202, 3) := by decide +kernel
theorem dX5_number_147 : decode cX5_number 147 = .ok (.ireturn, 1) := by decide +kernel
theorem dX5_number_148 : decode cX5_number 148 = .ok (.aload_n 0, 1) := by decide +kernel
theorem dX5_number_149 : decode cX5_number 149 = .ok (.getfield 12, 3) := by decide +kernel
theorem dX5_number_152 : decode cX5_number 152 = .ok (.aload_n 0, 1) := by decide +kernel
theorem dX5_number_153 : decode cX5_number 153 = .ok (.getfield 26, 3) := by decide +kernel
theorem dX5_number_156 : decode cX5_number 156 = .ok (.getfield 120, 3) := by decide +kernel
theorem dX5_number_159 : decode cX5_number 159 = .ok (.invokevirtual 205, 3) := by decide +kernel
theorem dX5_number_162 : decode cX5_number 162 = .ok (.ireturn, 1) := by decide +kernel
set_option maxRecDepth 20000 in
theorem ggX5_coinsBehind_X0_copyFrom : GoodIn wsX5_coinsBehind wsX0_copyFrom := goodIn_r _ [9, 10, 11, 12, 13, 14, 15, 16, 17, 18, 19, 20, 21, 22, 23, 24, 25, 26, 27, 28, 29, 30, 31, 32, 33, 34, 35, 36, 37, 121, 122, 123, 124, 125, 126, 134, 127, 128, 129, 130, 131, 132, 133] (by decide +kernel) (by decide +kernel)
set_option maxRecDepth 20000 in
theorem gX5_coinsBehind_X0_copyFrom : GoodIn wsX5_coinsBehind (wsV RX5 168 RX0 yX0_copyFrom wsX0_copyFrom) := goodIn_app (goodIn_of _ (by decide +kernel)) ggX5_coinsBehind_X0_copyFrom
set_option maxRecDepth 20000 in
theorem ggX5_coinsBehind_X3_rehang : GoodIn wsX5_coinsBehind wsX3_rehang := goodIn_r _ [41, 32, 33, 37, 127, 128, 129, 130, 131, 132, 133] (by decide +kernel) (by decide +kernel)
set_option maxRecDepth 20000 in
theorem gX5_coinsBehind_X3_rehang : GoodIn wsX5_coinsBehind (wsV RX5 105 RX3 yX3_rehang wsX3_rehang) := goodIn_app (goodIn_of _ (by decide +kernel)) ggX5_coinsBehind_X3_rehang
set_option maxRecDepth 20000 in
theorem ggX5_coinsBehind_X0_goOneDay : GoodIn wsX5_coinsBehind wsX0_goOneDay := goodIn_r _ [45, 10, 12, 13, 14, 15, 11, 46, 47, 48, 19, 49, 21, 50, 51, 52, 53, 54, 55, 56, 57, 58, 59, 60, 61, 62, 63, 64, 65, 66, 67, 68, 69, 70, 71, 72, 73, 74, 75, 76, 77, 78, 79, 80, 81, 82, 83, 84, 85, 86, 87, 88, 89, 90, 91, 92, 93, 94, 95, 96, 97, 98, 29, 99, 31, 100, 101, 102, 103, 34, 32, 33, 36, 104, 105, 106, 107, 108, 109, 110, 111, 35, 112, 113, 114, 115, 116, 39, 40, 41, 37, 121, 122, 123, 124, 125, 126, 134, 135, 136, 137, 138, 139, 140, 141, 142, 143, 127, 128, 129, 130, 131, 132, 133] (by decide +kernel) (by decide +kernel)
set_option maxRecDepth 20000 in
theorem gX5_coinsBehind_X0_goOneDay : GoodIn wsX5_coinsBehind (wsV RX5 183 RX0 yX0_goOneDay wsX0_goOneDay) := goodIn_app (goodIn_of _ (by decide +kernel)) ggX5_coinsBehind_X0_goOneDay
theorem dX5_coinsBehind_0 : decode cX5_coinsBehind 0 = .ok (.aload_n 0, 1) := by decide +kernel
theorem dX5_coinsBehind_1 : decode cX5_coinsBehind 1 = .ok (.getfield 30, 3) := by decide +kernel
theorem dX5_coinsBehind_4 : decode cX5_coinsBehind 4 = .ok (.aload_n 0, 1) := by decide +kernel
theorem dX5_coinsBehind_5 : decode cX5_coinsBehind 5 = .ok (.getfield 26, 3) := by decide +kernel
theorem dX5_coinsBehind_8 : decode cX5_coinsBehind 8 = .ok (.invokevirtual 168, 3) := by decide +kernel
theorem dX5_coinsBehind_11 : decode cX5_coinsBehind 11 = .ok (.iload_n 3, 1) := by decide +kernel
theorem dX5_coinsBehind_12 : decode cX5_coinsBehind 12 = .ok (.aload_n 0, 1) := by decide +kernel
theorem dX5_coinsBehind_13 : decode cX5_coinsBehind 13 = .ok (.getfield 26, 3) := by decide +kernel
theorem dX5_coinsBehind_16 : decode cX5_coinsBehind 16 = .ok (.getfield 66, 3) := by decide +kernel
theorem dX5_coinsBehind_19 : decode cX5_coinsBehind 19 = .ok (.getfield 101, 3) := by decide +kernel
theorem dX5_coinsBehind_22 : decode cX5_coinsBehind 22 = .ok (.iload_n 2, 1) := by decide +kernel
theorem dX5_coinsBehind_23 : decode cX5_coinsBehind 23 = .ok (.iaload, 1) := by decide +kernel
theorem dX5_coinsBehind_24 : decode cX5_coinsBehind 24 = .ok (.if_icmp .eq 15, 3) := by decide +kernel
theorem dX5_coinsBehind_27 : decode cX5_coinsBehind 27 = .ok (.aload_n 0, 1) := by decide +kernel
theorem dX5_coinsBehind_28 : decode cX5_coinsBehind 28 = .ok (.getfield 30, 3) := by decide +kernel
theorem dX5_coinsBehind_31 : decode cX5_coinsBehind 31 = .ok (.getfield 66, 3) := by decide +kernel
theorem dX5_coinsBehind_34 : decode cX5_coinsBehind 34 = .ok (.iload_n 2, 1) := by decide +kernel
theorem dX5_coinsBehind_35 : decode cX5_coinsBehind 35 = .ok (.iload_n 3, 1) := by decide +kernel
theorem dX5_coinsBehind_36 : decode cX5_coinsBehind 36 = .ok (.invokevirtual 105, 3) := by decide +kernel
theorem dX5_coinsBehind_39 : decode cX5_coinsBehind 39 = .ok (.iconst 0, 1) := by decide +kernel
theorem dX5_coinsBehind_40 : decode cX5_coinsBehind 40 = .ok (.istore 4, 2) := by decide +kernel
theorem dX5_coinsBehind_42 : decode cX5_coinsBehind 42 = .ok (.iload 4, 2) := by decide +kernel
theorem dX5_coinsBehind_44 : decode cX5_coinsBehind 44 = .ok (.iload_n 1, 1) := by decide +kernel
theorem dX5_coinsBehind_45 : decode cX5_coinsBehind 45 = .ok (.if_icmp .ge 24, 3) := by decide +kernel
theorem dX5_coinsBehind_48 : decode cX5_coinsBehind 48 = .ok (.aload_n 0, 1) := by decide +kernel
theorem dX5_coinsBehind_49 : decode cX5_coinsBehind 49 = .ok (.getfield 30, 3) := by decide +kernel
theorem dX5_coinsBehind_52 : decode cX5_coinsBehind 52 = .ok (.aload_n 0, 1) := by decide +kernel
theorem dX5_coinsBehind_53 : decode cX5_coinsBehind 53 = .ok (.getfield 12, 3) := by decide +kernel
theorem dX5_coinsBehind_56 : decode cX5_coinsBehind 56 = .ok (.aload_n 0, 1) := by decide +kernel
theorem dX5_coinsBehind_57 : decode cX5_coinsBehind 57 = .ok (.getfield 19, 3) := by decide +kernel
theorem dX5_coinsBehind_60 : decode cX5_coinsBehind 60 = .ok (.invokevirtual 183, 3) := by decide +kernel
theorem dX5_coinsBehind_63 : decode cX5_coinsBehind 63 = .ok (.iinc 4 1, 3) := by decide +kernel
theorem dX5_coinsBehind_66 : decode cX5_coinsBehind 66 = .ok (.goto (-24), 3) := by decide +kernel
theorem dX5_coinsBehind_69 : decode cX5_coinsBehind 69 = .ok (.aload_n 0, 1) := by decide +kernel
theorem dX5_coinsBehind_70 : decode cX5_coinsBehind 70 = .ok (.getfield 30, 3) := by decide +kernel
theorem dX5_coinsBehind_73 : decode cX5_coinsBehind 73 = .ok (.getfield 130, 3) := by decide +kernel
theorem dX5_coinsBehind_76 : decode cX5_coinsBehind 76 = .ok (.ireturn, 1) := by decide +kernel
theorem dX6_init_0 : decode cX6_init 0 = .ok (.aload_n 0, 1) := by decide +kernel
theorem dX6_init_1 : decode cX6_init 1 = .ok (.invokespecial 1, 3) := by decide +kernel
theorem dX6_init_4 : decode cX6_init 4 = .ok (.aload_n 0, 1) := by decide +kernel
theorem dX6_init_5 : decode cX6_init 5 = .ok (.bipush 30, 2) := by decide +kernel
theorem dX6_init_7 : decode cX6_init 7 = .ok (.newarray .int, 2) := by decide +kernel
theorem dX6_init_9 : decode cX6_init 9 = .ok (.putfield 9, 3) := by decide +kernel
theorem dX6_init_12 : decode cX6_init 12 = .ok (.aload_n 0, 1) := by decide +kernel
theorem dX6_init_13 : decode cX6_init 13 = .ok (.bipush 6, 2) := by decide +kernel
theorem dX6_init_15 : decode cX6_init 15 = .ok (.newarray .int, 2) := by decide +kernel
theorem dX6_init_17 : decode cX6_init 17 = .ok (.putfield 13, 3) := by decide +kernel
theorem dX6_init_20 : decode cX6_init 20 = .ok (.aload_n 0, 1) := by decide +kernel
theorem dX6_init_21 : decode cX6_init 21 = .ok (.iconst 4, 1) := by decide +kernel
theorem dX6_init_22 : decode cX6_init 22 = .ok (.newarray .int, 2) := by decide +kernel
theorem dX6_init_24 : decode cX6_init 24 = .ok (.putfield 16, 3) := by decide +kernel
theorem dX6_init_27 : decode cX6_init 27 = .ok (.aload_n 0, 1) := by decide +kernel
theorem dX6_init_28 : decode cX6_init 28 = .ok (.iconst 4, 1) := by decide +kernel
theorem dX6_init_29 : decode cX6_init 29 = .ok (.newarray .int, 2) := by decide +kernel
theorem dX6_init_31 : decode cX6_init 31 = .ok (.putfield 19, 3) := by decide +kernel
theorem dX6_init_34 : decode cX6_init 34 = .ok (.aload_n 0, 1) := by decide +kernel
theorem dX6_init_35 : decode cX6_init 35 = .ok (.sipush 130, 3) := by decide +kernel
theorem dX6_init_38 : decode cX6_init 38 = .ok (.newarray .int, 2) := by decide +kernel
theorem dX6_init_40 : decode cX6_init 40 = .ok (.putfield 22, 3) := by decide +kernel
theorem dX6_init_43 : decode cX6_init 43 = .ok (.aload_n 0, 1) := by decide +kernel
theorem dX6_init_44 : decode cX6_init 44 = .ok (.sipush 130, 3) := by decide +kernel
theorem dX6_init_47 : decode cX6_init 47 = .ok (.newarray .int, 2) := by decide +kernel
theorem dX6_init_49 : decode cX6_init 49 = .ok (.putfield 25, 3) := by decide +kernel
theorem dX6_init_52 : decode cX6_init 52 = .ok (.return_, 1) := by decide +kernel
theorem dX6_thrown_0 : decode cX6_thrown 0 = .ok (.aload_n 0, 1) := by decide +kernel
theorem dX6_thrown_1 : decode cX6_thrown 1 = .ok (.getfield 28, 3) := by decide +kernel
theorem dX6_thrown_4 : decode cX6_thrown 4 = .ok (.ireturn, 1) := by decide +kernel
theorem dX6_fail_0 : decode cX6_fail 0 = .ok (.aload_n 0, 1) := by decide +kernel
theorem dX6_fail_1 : decode cX6_fail 1 = .ok (.iload_n 1, 1) := by decide +kernel
theorem dX6_fail_2 : decode cX6_fail 2 = .ok (.putfield 28, 3) := by decide +kernel
theorem dX6_fail_5 : decode cX6_fail 5 = .ok (.iconst 0, 1) := by decide +kernel
theorem dX6_fail_6 : decode cX6_fail 6 = .ok (.ireturn, 1) := by decide +kernel
theorem dX6_isIn_0 : decode cX6_isIn 0 = .ok (.iload_n 0, 1) := by decide +kernel
theorem dX6_isIn_1 : decode cX6_isIn 1 = .ok (.iload_n 1, 1) := by decide +kernel
theorem dX6_isIn_2 : decode cX6_isIn 2 = .ok (.if_icmp .lt 12, 3) := by decide +kernel
theorem dX6_isIn_5 : decode cX6_isIn 5 = .ok (.iload_n 0, 1) := by decide +kernel
theorem dX6_isIn_6 : decode cX6_isIn 6 = .ok (.iload_n 2, 1) := by decide +kernel
theorem dX6_isIn_7 : decode cX6_isIn 7 = .ok (.if_icmp .gt 7, 3) := by decide +kernel
theorem dX6_isIn_10 : decode cX6_isIn 10 = .ok (.iconst 1, 1) := by decide +kernel
theorem dX6_isIn_11 : decode cX6_isIn 11 = .ok (.goto 4, 3) := by decide +kernel
theorem dX6_isIn_14 : decode cX6_isIn 14 = .ok (.iconst 0, 1) := by decide +kernel
theorem dX6_isIn_15 : decode cX6_isIn 15 = .ok (.ireturn, 1) := by decide +kernel
set_option maxRecDepth 20000 in
theorem ggX6_isWindow_X6_isIn : GoodIn wsX6_isWindow wsX6_isIn := goodIn_r _ [5] (by decide +kernel) (by decide +kernel)
set_option maxRecDepth 20000 in
theorem gX6_isWindow_X6_isIn : GoodIn wsX6_isWindow (va_wsS RX6 35 yX6_isIn wsX6_isIn) := goodIn_app (goodIn_of _ (by decide +kernel)) ggX6_isWindow_X6_isIn
theorem dX6_isWindow_0 : decode cX6_isWindow 0 = .ok (.iload_n 1, 1) := by decide +kernel
theorem dX6_isWindow_1 : decode cX6_isWindow 1 = .ok (.iconst 0, 1) := by decide +kernel
theorem dX6_isWindow_2 : decode cX6_isWindow 2 = .ok (.aload_n 0, 1) := by decide +kernel
theorem dX6_isWindow_3 : decode cX6_isWindow 3 = .ok (.getfield 32, 3) := by decide +kernel
theorem dX6_isWindow_6 : decode cX6_isWindow 6 = .ok (.iconst 1, 1) := by decide +kernel
theorem dX6_isWindow_7 : decode cX6_isWindow 7 = .ok (.isub, 1) := by decide +kernel
theorem dX6_isWindow_8 : decode cX6_isWindow 8 = .ok (.invokestatic 35, 3) := by decide +kernel
theorem dX6_isWindow_11 : decode cX6_isWindow 11 = .ok (.ireturn, 1) := by decide +kernel
set_option maxRecDepth 20000 in
theorem ggX6_isRope_X6_isIn : GoodIn wsX6_isRope wsX6_isIn := goodIn_r _ [5] (by decide +kernel) (by decide +kernel)
set_option maxRecDepth 20000 in
theorem gX6_isRope_X6_isIn : GoodIn wsX6_isRope (va_wsS RX6 35 yX6_isIn wsX6_isIn) := goodIn_app (goodIn_of _ (by decide +kernel)) ggX6_isRope_X6_isIn
theorem dX6_isRope_0 : decode cX6_isRope 0 = .ok (.iload_n 1, 1) := by decide +kernel
theorem dX6_isRope_1 : decode cX6_isRope 1 = .ok (.iconst 0, 1) := by decide +kernel
theorem dX6_isRope_2 : decode cX6_isRope 2 = .ok (.aload_n 0, 1) := by decide +kernel
theorem dX6_isRope_3 : decode cX6_isRope 3 = .ok (.getfield 39, 3) := by decide +kernel
theorem dX6_isRope_6 : decode cX6_isRope 6 = .ok (.iconst 1, 1) := by decide +kernel
theorem dX6_isRope_7 : decode cX6_isRope 7 = .ok (.isub, 1) := by decide +kernel
theorem dX6_isRope_8 : decode cX6_isRope 8 = .ok (.invokestatic 35, 3) := by decide +kernel
theorem dX6_isRope_11 : decode cX6_isRope 11 = .ok (.ireturn, 1) := by decide +kernel
theorem dX6_wi_0 : decode cX6_wi 0 = .ok (.aload_n 0, 1) := by decide +kernel
theorem dX6_wi_1 : decode cX6_wi 1 = .ok (.getfield 9, 3) := by decide +kernel
theorem dX6_wi_4 : decode cX6_wi 4 = .ok (.iconst 5, 1) := by decide +kernel
theorem dX6_wi_5 : decode cX6_wi 5 = .ok (.iload_n 1, 1) := by decide +kernel
theorem dX6_wi_6 : decode cX6_wi 6 = .ok (.imul, 1) := by decide +kernel
theorem dX6_wi_7 : decode cX6_wi 7 = .ok (.iload_n 2, 1) := by decide +kernel
theorem dX6_wi_8 : decode cX6_wi 8 = .ok (.iadd, 1) := by decide +kernel
theorem dX6_wi_9 : decode cX6_wi 9 = .ok (.iaload, 1) := by decide +kernel
theorem dX6_wi_10 : decode cX6_wi 10 = .ok (.ireturn, 1) := by decide +kernel
theorem dX6_ro_0 : decode cX6_ro 0 = .ok (.aload_n 0, 1) := by decide +kernel
theorem dX6_ro_1 : decode cX6_ro 1 = .ok (.getfield 22, 3) := by decide +kernel
theorem dX6_ro_4 : decode cX6_ro 4 = .ok (.bipush 100, 2) := by decide +kernel
theorem dX6_ro_6 : decode cX6_ro 6 = .ok (.iconst 5, 1) := by decide +kernel
theorem dX6_ro_7 : decode cX6_ro 7 = .ok (.iload_n 1, 1) := by decide +kernel
theorem dX6_ro_8 : decode cX6_ro 8 = .ok (.imul, 1) := by decide +kernel
theorem dX6_ro_9 : decode cX6_ro 9 = .ok (.iadd, 1) := by decide +kernel
theorem dX6_ro_10 : decode cX6_ro 10 = .ok (.iload_n 2, 1) := by decide +kernel
theorem dX6_ro_11 : decode cX6_ro 11 = .ok (.iadd, 1) := by decide +kernel
theorem dX6_ro_12 : decode cX6_ro 12 = .ok (.iaload, 1) := by decide +kernel
theorem dX6_ro_13 : decode cX6_ro 13 = .ok (.ireturn, 1) := by decide +kernel
theorem dX6_let_0 : decode cX6_let 0 = .ok (.aload_n 0, 1) := by decide +kernel
theorem dX6_let_1 : decode cX6_let 1 = .ok (.getfield 22, 3) := by decide +kernel
theorem dX6_let_4 : decode cX6_let 4 = .ok (.bipush 100, 2) := by decide +kernel
theorem dX6_let_6 : decode cX6_let 6 = .ok (.iconst 5, 1) := by decide +kernel
theorem dX6_let_7 : decode cX6_let 7 = .ok (.iload_n 1, 1) := by decide +kernel
theorem dX6_let_8 : decode cX6_let 8 = .ok (.imul, 1) := by decide +kernel
theorem dX6_let_9 : decode cX6_let 9 = .ok (.iadd, 1) := by decide +kernel
theorem dX6_let_10 : decode cX6_let 10 = .ok (.iload_n 2, 1) := by decide +kernel
theorem dX6_let_11 : decode cX6_let 11 = .ok (.iadd, 1) := by decide +kernel
theorem dX6_let_12 : decode cX6_let 12 = .ok (.iload_n 3, 1) := by decide +kernel
theorem dX6_let_13 : decode cX6_let 13 = .ok (.iastore, 1) := by decide +kernel
theorem dX6_let_14 : decode cX6_let 14 = .ok (.return_, 1) := by decide +kernel
theorem dX6_pane_0 : decode cX6_pane 0 = .ok (.iconst 4, 1) := by decide +kernel
theorem dX6_pane_1 : decode cX6_pane 1 = .ok (.bipush 8, 2) := by decide +kernel
theorem dX6_pane_3 : decode cX6_pane 3 = .ok (.iload_n 0, 1) := by decide +kernel
theorem dX6_pane_4 : decode cX6_pane 4 = .ok (.imul, 1) := by decide +kernel
theorem dX6_pane_5 : decode cX6_pane 5 = .ok (.iadd, 1) := by decide +kernel
theorem dX6_pane_6 : decode cX6_pane 6 = .ok (.iload_n 1, 1) := by decide +kernel
theorem dX6_pane_7 : decode cX6_pane 7 = .ok (.iadd, 1) := by decide +kernel
theorem dX6_pane_8 : decode cX6_pane 8 = .ok (.ireturn, 1) := by decide +kernel
set_option maxRecDepth 20000 in
theorem ggX6_isHung_X6_ro : GoodIn wsX6_isHung wsX6_ro := goodIn_r _ [6, 7, 8, 9, 10, 11, 12, 13, 14, 15, 16, 17] (by decide +kernel) (by decide +kernel)
set_option maxRecDepth 20000 in
theorem gX6_isHung_X6_ro : GoodIn wsX6_isHung (wsV RX6 42 RX6 yX6_ro wsX6_ro) := goodIn_app (goodIn_of _ (by decide +kernel)) ggX6_isHung_X6_ro
theorem dX6_isHung_0 : decode cX6_isHung 0 = .ok (.iconst 0, 1) := by decide +kernel
theorem dX6_isHung_1 : decode cX6_isHung 1 = .ok (.istore_n 2, 1) := by decide +kernel
theorem dX6_isHung_2 : decode cX6_isHung 2 = .ok (.iload_n 2, 1) := by decide +kernel
theorem dX6_isHung_3 : decode cX6_isHung 3 = .ok (.aload_n 0, 1) := by decide +kernel
theorem dX6_isHung_4 : decode cX6_isHung 4 = .ok (.getfield 39, 3) := by decide +kernel
theorem dX6_isHung_7 : decode cX6_isHung 7 = .ok (.if_icmp .ge 21, 3) := by decide +kernel
theorem dX6_isHung_10 : decode cX6_isHung 10 = .ok (.aload_n 0, 1) := by decide +kernel
theorem dX6_isHung_11 : decode cX6_isHung 11 = .ok (.iload_n 2, 1) := by decide +kernel
theorem dX6_isHung_12 : decode cX6_isHung 12 = .ok (.iconst 0, 1) := by decide +kernel
theorem dX6_isHung_13 : decode cX6_isHung 13 = .ok (.invokevirtual 42, 3) := by decide +kernel
theorem dX6_isHung_16 : decode cX6_isHung 16 = .ok (.iload_n 1, 1) := by decide +kernel
theorem dX6_isHung_17 : decode cX6_isHung 17 = .ok (.if_icmp .ne 5, 3) := by decide +kernel
theorem dX6_isHung_20 : decode cX6_isHung 20 = .ok (.iconst 1, 1) := by decide +kernel
theorem dX6_isHung_21 : decode cX6_isHung 21 = .ok (.ireturn, 1) := by decide +kernel
theorem dX6_isHung_22 : decode cX6_isHung 22 = .ok (.iinc 2 1, 3) := by decide +kernel
theorem dX6_isHung_25 : decode cX6_isHung 25 = .ok (.goto (-23), 3) := by decide +kernel
theorem dX6_isHung_28 : decode cX6_isHung 28 = .ok (.iconst 0, 1) := by decide +kernel
theorem dX6_isHung_29 : decode cX6_isHung 29 = .ok (.ireturn, 1) := by decide +kernel
theorem dX6_isFeastOn_0 : decode cX6_isFeastOn 0 = .ok (.iconst 0, 1) := by decide +kernel
theorem dX6_isFeastOn_1 : decode cX6_isFeastOn 1 = .ok (.istore_n 2, 1) := by decide +kernel
theorem dX6_isFeastOn_2 : decode cX6_isFeastOn 2 = .ok (.iload_n 2, 1) := by decide +kernel
theorem dX6_isFeastOn_3 : decode cX6_isFeastOn 3 = .ok (.aload_n 0, 1) := by decide +kernel
theorem dX6_isFeastOn_4 : decode cX6_isFeastOn 4 = .ok (.getfield 46, 3) := by decide +kernel
theorem dX6_isFeastOn_7 : decode cX6_isFeastOn 7 = .ok (.if_icmp .ge 28, 3) := by decide +kernel
theorem dX6_isFeastOn_10 : decode cX6_isFeastOn 10 = .ok (.iload_n 1, 1) := by decide +kernel
theorem dX6_isFeastOn_11 : decode cX6_isFeastOn 11 = .ok (.aload_n 0, 1) := by decide +kernel
theorem dX6_isFeastOn_12 : decode cX6_isFeastOn 12 = .ok (.getfield 16, 3) := by decide +kernel
theorem dX6_isFeastOn_15 : decode cX6_isFeastOn 15 = .ok (.iload_n 2, 1) := by decide +kernel
theorem dX6_isFeastOn_16 : decode cX6_isFeastOn 16 = .ok (.iaload, 1) := by decide +kernel
theorem dX6_isFeastOn_17 : decode cX6_isFeastOn 17 = .ok (.irem, 1) := by decide +kernel
theorem dX6_isFeastOn_18 : decode cX6_isFeastOn 18 = .ok (.aload_n 0, 1) := by decide +kernel
theorem dX6_isFeastOn_19 : decode cX6_isFeastOn 19 = .ok (.getfield 19, 3) := by decide +kernel
theorem dX6_isFeastOn_22 : decode cX6_isFeastOn 22 = .ok (.iload_n 2, 1) := by decide +kernel
theorem dX6_isFeastOn_23 : decode cX6_isFeastOn 23 = .ok (.iaload, 1) := by decide +kernel
theorem dX6_isFeastOn_24 : decode cX6_isFeastOn 24 = .ok (.if_icmp .ne 5, 3) := by decide +kernel
theorem dX6_isFeastOn_27 : decode cX6_isFeastOn 27 = .ok (.iconst 1, 1) := by decide +kernel
theorem dX6_isFeastOn_28 : decode cX6_isFeastOn 28 = .ok (.ireturn, 1) := by decide +kernel
theorem dX6_isFeastOn_29 : decode cX6_isFeastOn 29 = .ok (.iinc 2 1, 3) := by decide +kernel
theorem dX6_isFeastOn_32 : decode cX6_isFeastOn 32 = .ok (.goto (-30), 3) := by decide +kernel
theorem dX6_isFeastOn_35 : decode cX6_isFeastOn 35 = .ok (.iconst 0, 1) := by decide +kernel
theorem dX6_isFeastOn_36 : decode cX6_isFeastOn 36 = .ok (.ireturn, 1) := by decide +kernel
theorem dX6_keep_0 : decode cX6_keep 0 = .ok (.aload_n 0, 1) := by decide +kernel
theorem dX6_keep_1 : decode cX6_keep 1 = .ok (.getfield 22, 3) := by decide +kernel
theorem dX6_keep_4 : decode cX6_keep 4 = .ok (.iconst 0, 1) := by decide +kernel
theorem dX6_keep_5 : decode cX6_keep 5 = .ok (.aload_n 0, 1) := by decide +kernel
theorem dX6_keep_6 : decode cX6_keep 6 = .ok (.getfield 25, 3) := by decide +kernel
theorem dX6_keep_9 : decode cX6_keep 9 = .ok (.iconst 0, 1) := by decide +kernel
theorem dX6_keep_10 : decode cX6_keep 10 = .ok (.sipush 130, 3) := by decide +kernel
theorem dX6_keep_13 : decode cX6_keep 13 = .ok (.invokestatic 49, 3) := by decide +kernel
theorem dX6_keep_16 : decode cX6_keep 16 = .ok (.return_, 1) := by decide +kernel
theorem dX6_bringBack_0 : decode cX6_bringBack 0 = .ok (.aload_n 0, 1) := by decide +kernel
theorem dX6_bringBack_1 : decode cX6_bringBack 1 = .ok (.getfield 25, 3) := by decide +kernel
theorem dX6_bringBack_4 : decode cX6_bringBack 4 = .ok (.iconst 0, 1) := by decide +kernel
theorem dX6_bringBack_5 : decode cX6_bringBack 5 = .ok (.aload_n 0, 1) := by decide +kernel
theorem dX6_bringBack_6 : decode cX6_bringBack 6 = .ok (.getfield 22, 3) := by decide +kernel
theorem dX6_bringBack_9 : decode cX6_bringBack 9 = .ok (.iconst 0, 1) := by decide +kernel
theorem dX6_bringBack_10 : decode cX6_bringBack 10 = .ok (.sipush 130, 3) := by decide +kernel
theorem dX6_bringBack_13 : decode cX6_bringBack 13 = .ok (.invokestatic 49, 3) := by decide +kernel
theorem dX6_bringBack_16 : decode cX6_bringBack 16 = .ok (.return_, 1) := by decide +kernel
set_option maxRecDepth 20000 in
theorem ggX6_window_X6_isIn : GoodIn wsX6_window wsX6_isIn := goodIn_r _ [12] (by decide +kernel) (by decide +kernel)
set_option maxRecDepth 20000 in
theorem gX6_window_X6_isIn : GoodIn wsX6_window (va_wsS RX6 35 yX6_isIn wsX6_isIn) := goodIn_app (goodIn_of _ (by decide +kernel)) ggX6_window_X6_isIn
set_option maxRecDepth 20000 in
theorem ggX6_window_X6_fail : GoodIn wsX6_window wsX6_fail := goodIn_r _ [16, 1, 17, 18, 19, 20, 21, 22, 23, 24, 25, 26] (by decide +kernel) (by decide +kernel)
set_option maxRecDepth 20000 in
theorem gX6_window_X6_fail : GoodIn wsX6_window (wsV RX6 55 RX6 yX6_fail wsX6_fail) := goodIn_app (goodIn_of _ (by decide +kernel)) ggX6_window_X6_fail
theorem dX6_window_0 : decode cX6_window 0 = .ok (.aload_n 0, 1) := by decide +kernel
theorem dX6_window_1 : decode cX6_window 1 = .ok (.iconst 0, 1) := by decide +kernel
theorem dX6_window_2 : decode cX6_window 2 = .ok (.putfield 28, 3) := by decide +kernel
theorem dX6_window_5 : decode cX6_window 5 = .ok (.iload_n 3, 1) := by decide +kernel
theorem dX6_window_6 : decode cX6_window 6 = .ok (.iconst 1, 1) := by decide +kernel
theorem dX6_window_7 : decode cX6_window 7 = .ok (.bipush 12, 2) := by decide +kernel
theorem dX6_window_9 : decode cX6_window 9 = .ok (.invokestatic 35, 3) := by decide +kernel
theorem dX6_window_12 : decode cX6_window 12 = .ok (.ifCond .eq 25, 3) := by decide +kernel
theorem dX6_window_15 : decode cX6_window 15 = .ok (.iload 4, 2) := by decide +kernel
theorem dX6_window_17 : decode cX6_window 17 = .ok (.iconst 1, 1) := by decide +kernel
theorem dX6_window_18 : decode cX6_window 18 = .ok (.bipush 8, 2) := by decide +kernel
theorem dX6_window_20 : decode cX6_window 20 = .ok (.invokestatic 35, 3) := by decide +kernel
theorem dX6_window_23 : decode cX6_window 23 = .ok (.ifCond .eq 14, 3) := by decide +kernel
theorem dX6_window_26 : decode cX6_window 26 = .ok (.iload 5, 2) := by decide +kernel
theorem dX6_window_28 : decode cX6_window 28 = .ok (.iconst 1, 1) := by decide +kernel
theorem dX6_window_29 : decode cX6_window 29 = .ok (.bipush 9, 2) := by decide +kernel
theorem dX6_window_31 : decode cX6_window 31 = .ok (.invokestatic 35, 3) := by decide +kernel
theorem dX6_window_34 : decode cX6_window 34 = .ok (.ifCond .ne 9, 3) := by decide +kernel
theorem dX6_window_37 : decode cX6_window 37 = .ok (.aload_n 0, 1) := by decide +kernel
theorem dX6_window_38 : decode cX6_window 38 = .ok (.iconst 1, 1) := by decide +kernel
theorem dX6_window_39 : decode cX6_window 39 = .ok (.invokevirtual 55, 3) := by decide +kernel
theorem dX6_window_42 : decode cX6_window 42 = .ok (.ireturn, 1) := by decide +kernel
theorem dX6_window_43 : decode cX6_window 43 = .ok (.iload_n 1, 1) := by decide +kernel
theorem dX6_window_44 : decode cX6_window 44 = .ok (.iconst 0, 1) := by decide +kernel
theorem dX6_window_45 : decode cX6_window 45 = .ok (.bipush 12, 2) := by decide +kernel
theorem dX6_window_47 : decode cX6_window 47 = .ok (.iload_n 3, 1) := by decide +kernel
theorem dX6_window_48 : decode cX6_window 48 = .ok (.isub, 1) := by decide +kernel
theorem dX6_window_49 : decode cX6_window 49 = .ok (.invokestatic 35, 3) := by decide +kernel
theorem dX6_window_52 : decode cX6_window 52 = .ok (.ifCond .eq 16, 3) := by decide +kernel
theorem dX6_window_55 : decode cX6_window 55 = .ok (.iload_n 2, 1) := by decide +kernel
theorem dX6_window_56 : decode cX6_window 56 = .ok (.iconst 0, 1) := by decide +kernel
theorem dX6_window_57 : decode cX6_window 57 = .ok (.bipush 8, 2) := by decide +kernel
theorem dX6_window_59 : decode cX6_window 59 = .ok (.iload 4, 2) := by decide +kernel
theorem dX6_window_61 : decode cX6_window 61 = .ok (.isub, 1) := by decide +kernel
theorem dX6_window_62 : decode cX6_window 62 = .ok (.invokestatic 35, 3) := by decide +kernel
theorem dX6_window_65 : decode cX6_window 65 = .ok (.ifCond .ne 9, 3) := by decide +kernel
theorem dX6_window_68 : decode cX6_window 68 = .ok (.aload_n 0, 1) := by decide +kernel
theorem dX6_window_69 : decode cX6_window 69 = .ok (.iconst 2, 1) := by decide +kernel
theorem dX6_window_70 : decode cX6_window 70 = .ok (.invokevirtual 55, 3) := by decide +kernel
theorem dX6_window_73 : decode cX6_window 73 = .ok (.ireturn, 1) := by decide +kernel
theorem dX6_window_74 : decode cX6_window 74 = .ok (.aload_n 0, 1) := by decide +kernel
theorem dX6_window_75 : decode cX6_window 75 = .ok (.getfield 32, 3) := by decide +kernel
theorem dX6_window_78 : decode cX6_window 78 = .ok (.bipush 6, 2) := by decide +kernel
theorem dX6_window_80 : decode cX6_window 80 = .ok (.if_icmp .ne 9, 3) := by decide +kernel
theorem dX6_window_83 : decode cX6_window 83 = .ok (.aload_n 0, 1) := by decide +kernel
theorem dX6_window_84 : decode cX6_window 84 = .ok (.iconst 3, 1) := by decide +kernel
theorem dX6_window_85 : decode cX6_window 85 = .ok (.invokevirtual 55, 3) := by decide +kernel
theorem dX6_window_88 : decode cX6_window 88 = .ok (.ireturn, 1) := by decide +kernel
theorem dX6_window_89 : decode cX6_window 89 = .ok (.iconst 5, 1) := by decide +kernel
theorem dX6_window_90 : decode cX6_window 90 = .ok (.newarray .int, 2) := by decide +kernel
theorem dX6_window_92 : decode cX6_window 92 = .ok (.dup, 1) := by decide +kernel
theorem dX6_window_93 : decode cX6_window 93 = .ok (.iconst 0, 1) := by decide +kernel
theorem dX6_window_94 : decode cX6_window 94 = .ok (.iload_n 1, 1) := by decide +kernel
theorem dX6_window_95 : decode cX6_window 95 = .ok (.iastore, 1) := by decide +kernel
theorem dX6_window_96 : decode cX6_window 96 = .ok (.dup, 1) := by decide +kernel
theorem dX6_window_97 : decode cX6_window 97 = .ok (.iconst 1, 1) := by decide +kernel
theorem dX6_window_98 : decode cX6_window 98 = .ok (.iload_n 2, 1) := by decide +kernel
theorem dX6_window_99 : decode cX6_window 99 = .ok (.iastore, 1) := by decide +kernel
theorem dX6_window_100 : decode cX6_window 100 = .ok (.dup, 1) := by decide +kernel
theorem dX6_window_101 : decode cX6_window 101 = .ok (.iconst 2, 1) := by decide +kernel
theorem dX6_window_102 : decode cX6_window 102 = .ok (.iload_n 3, 1) := by decide +kernel
theorem dX6_window_103 : decode cX6_window 103 = .ok (.iastore, 1) := by decide +kernel
theorem dX6_window_104 : decode cX6_window 104 = .ok (.dup, 1) := by decide +kernel
theorem dX6_window_105 : decode cX6_window 105 = .ok (.iconst 3, 1) := by decide +kernel
theorem dX6_window_106 : decode cX6_window 106 = .ok (.iload 4, 2) := by decide +kernel
theorem dX6_window_108 : decode cX6_window 108 = .ok (.iastore, 1) := by decide +kernel
theorem dX6_window_109 : decode cX6_window 109 = .ok (.dup, 1) := by decide +kernel
theorem dX6_window_110 : decode cX6_window 110 = .ok (.iconst 4, 1) := by decide +kernel
theorem dX6_window_111 : decode cX6_window 111 = .ok (.iload 5, 2) := by decide +kernel
theorem dX6_window_113 : decode cX6_window 113 = .ok (.iastore, 1) := by decide +kernel
theorem dX6_window_114 : decode cX6_window 114 = .ok (.astore 6, 2) := by decide +kernel
theorem dX6_window_116 : decode cX6_window 116 = .ok (.aload 6, 2) := by decide +kernel
theorem dX6_window_118 : decode cX6_window 118 = .ok (.iconst 0, 1) := by decide +kernel
theorem dX6_window_119 : decode cX6_window 119 = .ok (.aload_n 0, 1) := by decide +kernel
theorem dX6_window_120 : decode cX6_window 120 = .ok (.getfield 9, 3) := by decide +kernel
theorem dX6_window_123 : decode cX6_window 123 = .ok (.iconst 5, 1) := by decide +kernel
theorem dX6_window_124 : decode cX6_window 124 = .ok (.aload_n 0, 1) := by decide +kernel
theorem dX6_window_125 : decode cX6_window 125 = .ok (.getfield 32, 3) := by decide +kernel
theorem dX6_window_128 : decode cX6_window 128 = .ok (.imul, 1) := by decide +kernel
theorem dX6_window_129 : decode cX6_window 129 = .ok (.iconst 5, 1) := by decide +kernel
theorem dX6_window_130 : decode cX6_window 130 = .ok (.invokestatic 49, 3) := by decide +kernel
theorem dX6_window_133 : decode cX6_window 133 = .ok (.aload_n 0, 1) := by decide +kernel
theorem dX6_window_134 : decode cX6_window 134 = .ok (.dup, 1) := by decide +kernel
theorem dX6_window_135 : decode cX6_window 135 = .ok (.getfield 32, 3) := by decide +kernel
theorem dX6_window_138 : decode cX6_window 138 = .ok (.iconst 1, 1) := by decide +kernel
theorem dX6_window_139 : decode cX6_window 139 = .ok (.iadd, 1) := by decide +kernel
theorem dX6_window_140 : decode cX6_window 140 = .ok (.putfield 32, 3) := by decide +kernel
theorem dX6_window_143 : decode cX6_window 143 = .ok (.aload_n 0, 1) := by decide +kernel
theorem dX6_window_144 : decode cX6_window 144 = .ok (.getfield 32, 3) := by decide +kernel
theorem dX6_window_147 : decode cX6_window 147 = .ok (.iconst 1, 1) := by decide +kernel
theorem dX6_window_148 : decode cX6_window 148 = .ok (.isub, 1) := by decide +kernel
theorem dX6_window_149 : decode cX6_window 149 = .ok (.ireturn, 1) := by decide +kernel
set_option maxRecDepth 20000 in
theorem ggX6_rope_X6_isIn : GoodIn wsX6_rope wsX6_isIn := goodIn_r _ [7] (by decide +kernel) (by decide +kernel)
set_option maxRecDepth 20000 in
theorem gX6_rope_X6_isIn : GoodIn wsX6_rope (va_wsS RX6 35 yX6_isIn wsX6_isIn) := goodIn_app (goodIn_of _ (by decide +kernel)) ggX6_rope_X6_isIn
set_option maxRecDepth 20000 in
theorem ggX6_rope_X6_fail : GoodIn wsX6_rope wsX6_fail := goodIn_r _ [11, 1, 25, 26, 27, 28, 29, 30, 31, 32, 33, 34] (by decide +kernel) (by decide +kernel)
set_option maxRecDepth 20000 in
theorem gX6_rope_X6_fail : GoodIn wsX6_rope (wsV RX6 55 RX6 yX6_fail wsX6_fail) := goodIn_app (goodIn_of _ (by decide +kernel)) ggX6_rope_X6_fail
set_option maxRecDepth 20000 in
theorem ggX6_rope_X6_isHung : GoodIn wsX6_rope wsX6_isHung := goodIn_r _ [15, 2, 16, 17, 18, 6, 19, 20, 25, 26, 27, 28, 29, 30, 31, 32, 33, 34] (by decide +kernel) (by decide +kernel)
set_option maxRecDepth 20000 in
theorem gX6_rope_X6_isHung : GoodIn wsX6_rope (wsV RX6 59 RX6 yX6_isHung wsX6_isHung) := goodIn_app (goodIn_of _ (by decide +kernel)) ggX6_rope_X6_isHung
set_option maxRecDepth 20000 in
theorem ggX6_rope_X6_let : GoodIn wsX6_rope wsX6_let := goodIn_r _ [24, 20, 25, 26, 27, 28, 29, 30, 31, 32, 33, 34] (by decide +kernel) (by decide +kernel)
set_option maxRecDepth 20000 in
theorem gX6_rope_X6_let : GoodIn wsX6_rope (wsV RX6 63 RX6 yX6_let wsX6_let) := goodIn_app (goodIn_of _ (by decide +kernel)) ggX6_rope_X6_let
theorem dX6_rope_0 : decode cX6_rope 0 = .ok (.aload_n 0, 1) := by decide +kernel
theorem dX6_rope_1 : decode cX6_rope 1 = .ok (.iconst 0, 1) := by decide +kernel
theorem dX6_rope_2 : decode cX6_rope 2 = .ok (.putfield 28, 3) := by decide +kernel
theorem dX6_rope_5 : decode cX6_rope 5 = .ok (.iload_n 1, 1) := by decide +kernel
theorem dX6_rope_6 : decode cX6_rope 6 = .ok (.iconst 0, 1) := by decide +kernel
theorem dX6_rope_7 : decode cX6_rope 7 = .ok (.bipush 11, 2) := by decide +kernel
theorem dX6_rope_9 : decode cX6_rope 9 = .ok (.invokestatic 35, 3) := by decide +kernel
theorem dX6_rope_12 : decode cX6_rope 12 = .ok (.ifCond .ne 9, 3) := by decide +kernel
theorem dX6_rope_15 : decode cX6_rope 15 = .ok (.aload_n 0, 1) := by decide +kernel
theorem dX6_rope_16 : decode cX6_rope 16 = .ok (.iconst 1, 1) := by decide +kernel
theorem dX6_rope_17 : decode cX6_rope 17 = .ok (.invokevirtual 55, 3) := by decide +kernel
theorem dX6_rope_20 : decode cX6_rope 20 = .ok (.ireturn, 1) := by decide +kernel
theorem dX6_rope_21 : decode cX6_rope 21 = .ok (.iload_n 2, 1) := by decide +kernel
theorem dX6_rope_22 : decode cX6_rope 22 = .ok (.iconst 1, 1) := by decide +kernel
theorem dX6_rope_23 : decode cX6_rope 23 = .ok (.bipush 30, 2) := by decide +kernel
theorem dX6_rope_25 : decode cX6_rope 25 = .ok (.invokestatic 35, 3) := by decide +kernel
theorem dX6_rope_28 : decode cX6_rope 28 = .ok (.ifCond .ne 9, 3) := by decide +kernel
theorem dX6_rope_31 : decode cX6_rope 31 = .ok (.aload_n 0, 1) := by decide +kernel
theorem dX6_rope_32 : decode cX6_rope 32 = .ok (.iconst 2, 1) := by decide +kernel
theorem dX6_rope_33 : decode cX6_rope 33 = .ok (.invokevirtual 55, 3) := by decide +kernel
theorem dX6_rope_36 : decode cX6_rope 36 = .ok (.ireturn, 1) := by decide +kernel
theorem dX6_rope_37 : decode cX6_rope 37 = .ok (.aload_n 0, 1) := by decide +kernel
theorem dX6_rope_38 : decode cX6_rope 38 = .ok (.getfield 39, 3) := by decide +kernel
theorem dX6_rope_41 : decode cX6_rope 41 = .ok (.bipush 6, 2) := by decide +kernel
theorem dX6_rope_43 : decode cX6_rope 43 = .ok (.if_icmp .eq 11, 3) := by decide +kernel
theorem dX6_rope_46 : decode cX6_rope 46 = .ok (.aload_n 0, 1) := by decide +kernel
theorem dX6_rope_47 : decode cX6_rope 47 = .ok (.iload_n 1, 1) := by decide +kernel
theorem dX6_rope_48 : decode cX6_rope 48 = .ok (.invokevirtual 59, 3) := by decide +kernel
theorem dX6_rope_51 : decode cX6_rope 51 = .ok (.ifCond .eq 9, 3) := by decide +kernel
theorem dX6_rope_54 : decode cX6_rope 54 = .ok (.aload_n 0, 1) := by decide +kernel
theorem dX6_rope_55 : decode cX6_rope 55 = .ok (.iconst 3, 1) := by decide +kernel
theorem dX6_rope_56 : decode cX6_rope 56 = .ok (.invokevirtual 55, 3) := by decide +kernel
theorem dX6_rope_59 : decode cX6_rope 59 = .ok (.ireturn, 1) := by decide +kernel
theorem dX6_rope_60 : decode cX6_rope 60 = .ok (.aload_n 0, 1) := by decide +kernel
theorem dX6_rope_61 : decode cX6_rope 61 = .ok (.getfield 13, 3) := by decide +kernel
theorem dX6_rope_64 : decode cX6_rope 64 = .ok (.aload_n 0, 1) := by decide +kernel
theorem dX6_rope_65 : decode cX6_rope 65 = .ok (.getfield 39, 3) := by decide +kernel
theorem dX6_rope_68 : decode cX6_rope 68 = .ok (.iload_n 2, 1) := by decide +kernel
theorem dX6_rope_69 : decode cX6_rope 69 = .ok (.iastore, 1) := by decide +kernel
theorem dX6_rope_70 : decode cX6_rope 70 = .ok (.aload_n 0, 1) := by decide +kernel
theorem dX6_rope_71 : decode cX6_rope 71 = .ok (.aload_n 0, 1) := by decide +kernel
theorem dX6_rope_72 : decode cX6_rope 72 = .ok (.getfield 39, 3) := by decide +kernel
theorem dX6_rope_75 : decode cX6_rope 75 = .ok (.iconst 0, 1) := by decide +kernel
theorem dX6_rope_76 : decode cX6_rope 76 = .ok (.iload_n 1, 1) := by decide +kernel
theorem dX6_rope_77 : decode cX6_rope 77 = .ok (.invokevirtual 63, 3) := by decide +kernel
theorem dX6_rope_80 : decode cX6_rope 80 = .ok (.aload_n 0, 1) := by decide +kernel
theorem dX6_rope_81 : decode cX6_rope 81 = .ok (.aload_n 0, 1) := by decide +kernel
theorem dX6_rope_82 : decode cX6_rope 82 = .ok (.getfield 39, 3) := by decide +kernel
theorem dX6_rope_85 : decode cX6_rope 85 = .ok (.iconst 2, 1) := by decide +kernel
theorem dX6_rope_86 : decode cX6_rope 86 = .ok (.iload_n 3, 1) := by decide +kernel
theorem dX6_rope_87 : decode cX6_rope 87 = .ok (.ifCond .eq 7, 3) := by decide +kernel
theorem dX6_rope_90 : decode cX6_rope 90 = .ok (.iconst 0, 1) := by decide +kernel
theorem dX6_rope_91 : decode cX6_rope 91 = .ok (.goto 4, 3) := by decide +kernel
theorem dX6_rope_94 : decode cX6_rope 94 = .ok (.iconst 1, 1) := by decide +kernel
theorem dX6_rope_95 : decode cX6_rope 95 = .ok (.invokevirtual 63, 3) := by decide +kernel
theorem dX6_rope_98 : decode cX6_rope 98 = .ok (.aload_n 0, 1) := by decide +kernel
theorem dX6_rope_99 : decode cX6_rope 99 = .ok (.dup, 1) := by decide +kernel
theorem dX6_rope_100 : decode cX6_rope 100 = .ok (.getfield 39, 3) := by decide +kernel
theorem dX6_rope_103 : decode cX6_rope 103 = .ok (.iconst 1, 1) := by decide +kernel
theorem dX6_rope_104 : decode cX6_rope 104 = .ok (.iadd, 1) := by decide +kernel
theorem dX6_rope_105 : decode cX6_rope 105 = .ok (.putfield 39, 3) := by decide +kernel
theorem dX6_rope_108 : decode cX6_rope 108 = .ok (.aload_n 0, 1) := by decide +kernel
theorem dX6_rope_109 : decode cX6_rope 109 = .ok (.getfield 39, 3) := by decide +kernel
theorem dX6_rope_112 : decode cX6_rope 112 = .ok (.iconst 1, 1) := by decide +kernel
theorem dX6_rope_113 : decode cX6_rope 113 = .ok (.isub, 1) := by decide +kernel
theorem dX6_rope_114 : decode cX6_rope 114 = .ok (.ireturn, 1) := by decide +kernel
set_option maxRecDepth 20000 in
theorem ggX6_feast_X6_isIn : GoodIn wsX6_feast wsX6_isIn := goodIn_r _ [8] (by decide +kernel) (by decide +kernel)
set_option maxRecDepth 20000 in
theorem gX6_feast_X6_isIn : GoodIn wsX6_feast (va_wsS RX6 35 yX6_isIn wsX6_isIn) := goodIn_app (goodIn_of _ (by decide +kernel)) ggX6_feast_X6_isIn
set_option maxRecDepth 20000 in
theorem ggX6_feast_X6_fail : GoodIn wsX6_feast wsX6_fail := goodIn_r _ [12, 1, 13, 14, 15, 16, 17, 18, 19, 20, 21, 22] (by decide +kernel) (by decide +kernel)
set_option maxRecDepth 20000 in
theorem gX6_feast_X6_fail : GoodIn wsX6_feast (wsV RX6 55 RX6 yX6_fail wsX6_fail) := goodIn_app (goodIn_of _ (by decide +kernel)) ggX6_feast_X6_fail
theorem dX6_feast_0 : decode cX6_feast 0 = .ok (.aload_n 0, 1) := by decide +kernel
theorem dX6_feast_1 : decode cX6_feast 1 = .ok (.iconst 0, 1) := by decide +kernel
theorem dX6_feast_2 : decode cX6_feast 2 = .ok (.putfield 28, 3) := by decide +kernel
theorem dX6_feast_5 : decode cX6_feast 5 = .ok (.iload_n 1, 1) := by decide +kernel
theorem dX6_feast_6 : decode cX6_feast 6 = .ok (.iconst 2, 1) := by decide +kernel
theorem dX6_feast_7 : decode cX6_feast 7 = .ok (.bipush 30, 2) := by decide +kernel
theorem dX6_feast_9 : decode cX6_feast 9 = .ok (.invokestatic 35, 3) := by decide +kernel
theorem dX6_feast_12 : decode cX6_feast 12 = .ok (.ifCond .eq 14, 3) := by decide +kernel
theorem dX6_feast_15 : decode cX6_feast 15 = .ok (.iload_n 2, 1) := by decide +kernel
theorem dX6_feast_16 : decode cX6_feast 16 = .ok (.iconst 0, 1) := by decide +kernel
theorem dX6_feast_17 : decode cX6_feast 17 = .ok (.iload_n 1, 1) := by decide +kernel
theorem dX6_feast_18 : decode cX6_feast 18 = .ok (.iconst 1, 1) := by decide +kernel
theorem dX6_feast_19 : decode cX6_feast 19 = .ok (.isub, 1) := by decide +kernel
theorem dX6_feast_20 : decode cX6_feast 20 = .ok (.invokestatic 35, 3) := by decide +kernel
theorem dX6_feast_23 : decode cX6_feast 23 = .ok (.ifCond .ne 9, 3) := by decide +kernel
theorem dX6_feast_26 : decode cX6_feast 26 = .ok (.aload_n 0, 1) := by decide +kernel
theorem dX6_feast_27 : decode cX6_feast 27 = .ok (.iconst 1, 1) := by decide +kernel
theorem dX6_feast_28 : decode cX6_feast 28 = .ok (.invokevirtual 55, 3) := by decide +kernel
theorem dX6_feast_31 : decode cX6_feast 31 = .ok (.ireturn, 1) := by decide +kernel
theorem dX6_feast_32 : decode cX6_feast 32 = .ok (.aload_n 0, 1) := by decide +kernel
theorem dX6_feast_33 : decode cX6_feast 33 = .ok (.getfield 46, 3) := by decide +kernel
theorem dX6_feast_36 : decode cX6_feast 36 = .ok (.iconst 4, 1) := by decide +kernel
theorem dX6_feast_37 : decode cX6_feast 37 = .ok (.if_icmp .ne 9, 3) := by decide +kernel
theorem dX6_feast_40 : decode cX6_feast 40 = .ok (.aload_n 0, 1) := by decide +kernel
theorem dX6_feast_41 : decode cX6_feast 41 = .ok (.iconst 2, 1) := by decide +kernel
theorem dX6_feast_42 : decode cX6_feast 42 = .ok (.invokevirtual 55, 3) := by decide +kernel
theorem dX6_feast_45 : decode cX6_feast 45 = .ok (.ireturn, 1) := by decide +kernel
theorem dX6_feast_46 : decode cX6_feast 46 = .ok (.aload_n 0, 1) := by decide +kernel
theorem dX6_feast_47 : decode cX6_feast 47 = .ok (.getfield 16, 3) := by decide +kernel
theorem dX6_feast_50 : decode cX6_feast 50 = .ok (.aload_n 0, 1) := by decide +kernel
theorem dX6_feast_51 : decode cX6_feast 51 = .ok (.getfield 46, 3) := by decide +kernel
theorem dX6_feast_54 : decode cX6_feast 54 = .ok (.iload_n 1, 1) := by decide +kernel
theorem dX6_feast_55 : decode cX6_feast 55 = .ok (.iastore, 1) := by decide +kernel
theorem dX6_feast_56 : decode cX6_feast 56 = .ok (.aload_n 0, 1) := by decide +kernel
theorem dX6_feast_57 : decode cX6_feast 57 = .ok (.getfield 19, 3) := by decide +kernel
theorem dX6_feast_60 : decode cX6_feast 60 = .ok (.aload_n 0, 1) := by decide +kernel
theorem dX6_feast_61 : decode cX6_feast 61 = .ok (.getfield 46, 3) := by decide +kernel
theorem dX6_feast_64 : decode cX6_feast 64 = .ok (.iload_n 2, 1) := by decide +kernel
theorem dX6_feast_65 : decode cX6_feast 65 = .ok (.iastore, 1) := by decide +kernel
theorem dX6_feast_66 : decode cX6_feast 66 = .ok (.aload_n 0, 1) := by decide +kernel
theorem dX6_feast_67 : decode cX6_feast 67 = .ok (.dup, 1) := by decide +kernel
theorem dX6_feast_68 : decode cX6_feast 68 = .ok (.getfield 46, 3) := by decide +kernel
theorem dX6_feast_71 : decode cX6_feast 71 = .ok (.iconst 1, 1) := by decide +kernel
theorem dX6_feast_72 : decode cX6_feast 72 = .ok (.iadd, 1) := by decide +kernel
theorem dX6_feast_73 : decode cX6_feast 73 = .ok (.putfield 46, 3) := by decide +kernel
theorem dX6_feast_76 : decode cX6_feast 76 = .ok (.aload_n 0, 1) := by decide +kernel
theorem dX6_feast_77 : decode cX6_feast 77 = .ok (.getfield 46, 3) := by decide +kernel
theorem dX6_feast_80 : decode cX6_feast 80 = .ok (.iconst 1, 1) := by decide +kernel
theorem dX6_feast_81 : decode cX6_feast 81 = .ok (.isub, 1) := by decide +kernel
theorem dX6_feast_82 : decode cX6_feast 82 = .ok (.ireturn, 1) := by decide +kernel
set_option maxRecDepth 20000 in
theorem ggX6_setWind_X6_isIn : GoodIn wsX6_setWind wsX6_isIn := goodIn_r _ [6] (by decide +kernel) (by decide +kernel)
set_option maxRecDepth 20000 in
theorem gX6_setWind_X6_isIn : GoodIn wsX6_setWind (va_wsS RX6 35 yX6_isIn wsX6_isIn) := goodIn_app (goodIn_of _ (by decide +kernel)) ggX6_setWind_X6_isIn
set_option maxRecDepth 20000 in
theorem ggX6_setWind_X6_fail : GoodIn wsX6_setWind wsX6_fail := goodIn_r _ [10, 1, 11, 12, 13, 14, 15, 16, 17, 18, 19, 20] (by decide +kernel) (by decide +kernel)
set_option maxRecDepth 20000 in
theorem gX6_setWind_X6_fail : GoodIn wsX6_setWind (wsV RX6 55 RX6 yX6_fail wsX6_fail) := goodIn_app (goodIn_of _ (by decide +kernel)) ggX6_setWind_X6_fail
theorem dX6_setWind_0 : decode cX6_setWind 0 = .ok (.aload_n 0, 1) := by decide +kernel
theorem dX6_setWind_1 : decode cX6_setWind 1 = .ok (.iconst 0, 1) := by decide +kernel
theorem dX6_setWind_2 : decode cX6_setWind 2 = .ok (.putfield 28, 3) := by decide +kernel
theorem dX6_setWind_5 : decode cX6_setWind 5 = .ok (.iload_n 1, 1) := by decide +kernel
theorem dX6_setWind_6 : decode cX6_setWind 6 = .ok (.bipush (-5), 2) := by decide +kernel
theorem dX6_setWind_8 : decode cX6_setWind 8 = .ok (.iconst 5, 1) := by decide +kernel
theorem dX6_setWind_9 : decode cX6_setWind 9 = .ok (.invokestatic 35, 3) := by decide +kernel
theorem dX6_setWind_12 : decode cX6_setWind 12 = .ok (.ifCond .ne 9, 3) := by decide +kernel
theorem dX6_setWind_15 : decode cX6_setWind 15 = .ok (.aload_n 0, 1) := by decide +kernel
theorem dX6_setWind_16 : decode cX6_setWind 16 = .ok (.iconst 1, 1) := by decide +kernel
theorem dX6_setWind_17 : decode cX6_setWind 17 = .ok (.invokevirtual 55, 3) := by decide +kernel
theorem dX6_setWind_20 : decode cX6_setWind 20 = .ok (.ireturn, 1) := by decide +kernel
theorem dX6_setWind_21 : decode cX6_setWind 21 = .ok (.aload_n 0, 1) := by decide +kernel
theorem dX6_setWind_22 : decode cX6_setWind 22 = .ok (.getfield 22, 3) := by decide +kernel
theorem dX6_setWind_25 : decode cX6_setWind 25 = .ok (.iconst 1, 1) := by decide +kernel
theorem dX6_setWind_26 : decode cX6_setWind 26 = .ok (.iaload, 1) := by decide +kernel
theorem dX6_setWind_27 : decode cX6_setWind 27 = .ok (.istore_n 2, 1) := by decide +kernel
theorem dX6_setWind_28 : decode cX6_setWind 28 = .ok (.aload_n 0, 1) := by decide +kernel
theorem dX6_setWind_29 : decode cX6_setWind 29 = .ok (.getfield 22, 3) := by decide +kernel
theorem dX6_setWind_32 : decode cX6_setWind 32 = .ok (.iconst 1, 1) := by decide +kernel
theorem dX6_setWind_33 : decode cX6_setWind 33 = .ok (.iload_n 1, 1) := by decide +kernel
theorem dX6_setWind_34 : decode cX6_setWind 34 = .ok (.iastore, 1) := by decide +kernel
theorem dX6_setWind_35 : decode cX6_setWind 35 = .ok (.iload_n 2, 1) := by decide +kernel
theorem dX6_setWind_36 : decode cX6_setWind 36 = .ok (.ireturn, 1) := by decide +kernel
set_option maxRecDepth 20000 in
theorem ggX6_hang_X6_let : GoodIn wsX6_hang wsX6_let := goodIn_r _ [5, 6, 11, 12, 13, 14, 15, 16, 17, 18, 19, 20] (by decide +kernel) (by decide +kernel)
set_option maxRecDepth 20000 in
theorem gX6_hang_X6_let : GoodIn wsX6_hang (wsV RX6 63 RX6 yX6_let wsX6_let) := goodIn_app (goodIn_of _ (by decide +kernel)) ggX6_hang_X6_let
set_option maxRecDepth 20000 in
theorem ggX6_hang_X6_ro : GoodIn wsX6_hang wsX6_ro := goodIn_r _ [10, 6, 11, 12, 13, 14, 15, 16, 17, 18, 19, 20] (by decide +kernel) (by decide +kernel)
set_option maxRecDepth 20000 in
theorem gX6_hang_X6_ro : GoodIn wsX6_hang (wsV RX6 42 RX6 yX6_ro wsX6_ro) := goodIn_app (goodIn_of _ (by decide +kernel)) ggX6_hang_X6_ro
theorem dX6_hang_0 : decode cX6_hang 0 = .ok (.aload_n 0, 1) := by decide +kernel
theorem dX6_hang_1 : decode cX6_hang 1 = .ok (.iload_n 1, 1) := by decide +kernel
theorem dX6_hang_2 : decode cX6_hang 2 = .ok (.iconst 0, 1) := by decide +kernel
theorem dX6_hang_3 : decode cX6_hang 3 = .ok (.iload_n 2, 1) := by decide +kernel
theorem dX6_hang_4 : decode cX6_hang 4 = .ok (.invokevirtual 63, 3) := by decide +kernel
theorem dX6_hang_7 : decode cX6_hang 7 = .ok (.aload_n 0, 1) := by decide +kernel
theorem dX6_hang_8 : decode cX6_hang 8 = .ok (.iload_n 1, 1) := by decide +kernel
theorem dX6_hang_9 : decode cX6_hang 9 = .ok (.iconst 1, 1) := by decide +kernel
theorem dX6_hang_10 : decode cX6_hang 10 = .ok (.iconst 0, 1) := by decide +kernel
theorem dX6_hang_11 : decode cX6_hang 11 = .ok (.invokevirtual 63, 3) := by decide +kernel
theorem dX6_hang_14 : decode cX6_hang 14 = .ok (.aload_n 0, 1) := by decide +kernel
theorem dX6_hang_15 : decode cX6_hang 15 = .ok (.iload_n 1, 1) := by decide +kernel
theorem dX6_hang_16 : decode cX6_hang 16 = .ok (.iconst 4, 1) := by decide +kernel
theorem dX6_hang_17 : decode cX6_hang 17 = .ok (.aload_n 0, 1) := by decide +kernel
theorem dX6_hang_18 : decode cX6_hang 18 = .ok (.iload_n 1, 1) := by decide +kernel
theorem dX6_hang_19 : decode cX6_hang 19 = .ok (.iconst 4, 1) := by decide +kernel
theorem dX6_hang_20 : decode cX6_hang 20 = .ok (.invokevirtual 42, 3) := by decide +kernel
theorem dX6_hang_23 : decode cX6_hang 23 = .ok (.iconst 1, 1) := by decide +kernel
theorem dX6_hang_24 : decode cX6_hang 24 = .ok (.iadd, 1) := by decide +kernel
theorem dX6_hang_25 : decode cX6_hang 25 = .ok (.invokevirtual 63, 3) := by decide +kernel
theorem dX6_hang_28 : decode cX6_hang 28 = .ok (.return_, 1) := by decide +kernel
set_option maxRecDepth 20000 in
theorem ggX6_move_X6_isRope : GoodIn wsX6_move wsX6_isRope := goodIn_r _ [6, 7, 8, 9, 5, 10, 32, 33, 34, 35, 36, 37, 38, 39, 40, 41] (by decide +kernel) (by decide +kernel)
set_option maxRecDepth 20000 in
theorem gX6_move_X6_isRope : GoodIn wsX6_move (wsV RX6 67 RX6 yX6_isRope wsX6_isRope) := goodIn_app (goodIn_of _ (by decide +kernel)) ggX6_move_X6_isRope
set_option maxRecDepth 20000 in
theorem ggX6_move_X6_isIn : GoodIn wsX6_move wsX6_isIn := goodIn_r _ [10] (by decide +kernel) (by decide +kernel)
set_option maxRecDepth 20000 in
theorem gX6_move_X6_isIn : GoodIn wsX6_move (va_wsS RX6 35 yX6_isIn wsX6_isIn) := goodIn_app (goodIn_of _ (by decide +kernel)) ggX6_move_X6_isIn
set_option maxRecDepth 20000 in
theorem ggX6_move_X6_fail : GoodIn wsX6_move wsX6_fail := goodIn_r _ [14, 1, 32, 33, 34, 35, 36, 37, 38, 39, 40, 41] (by decide +kernel) (by decide +kernel)
set_option maxRecDepth 20000 in
theorem gX6_move_X6_fail : GoodIn wsX6_move (wsV RX6 55 RX6 yX6_fail wsX6_fail) := goodIn_app (goodIn_of _ (by decide +kernel)) ggX6_move_X6_fail
set_option maxRecDepth 20000 in
theorem ggX6_move_X6_isHung : GoodIn wsX6_move wsX6_isHung := goodIn_r _ [18, 7, 19, 20, 21, 5, 22, 23, 32, 33, 34, 35, 36, 37, 38, 39, 40, 41] (by decide +kernel) (by decide +kernel)
set_option maxRecDepth 20000 in
theorem gX6_move_X6_isHung : GoodIn wsX6_move (wsV RX6 59 RX6 yX6_isHung wsX6_isHung) := goodIn_app (goodIn_of _ (by decide +kernel)) ggX6_move_X6_isHung
set_option maxRecDepth 20000 in
theorem ggX6_move_X6_ro : GoodIn wsX6_move wsX6_ro := goodIn_r _ [22, 23, 32, 33, 34, 35, 36, 37, 38, 39, 40, 41] (by decide +kernel) (by decide +kernel)
set_option maxRecDepth 20000 in
theorem gX6_move_X6_ro : GoodIn wsX6_move (wsV RX6 42 RX6 yX6_ro wsX6_ro) := goodIn_app (goodIn_of _ (by decide +kernel)) ggX6_move_X6_ro
set_option maxRecDepth 20000 in
theorem ggX6_move_X6_hang : GoodIn wsX6_move wsX6_hang := goodIn_r _ [27, 28, 29, 30, 5, 31, 23, 19, 20, 21, 22, 32, 33, 34, 35, 36, 37, 38, 39, 40, 41] (by decide +kernel) (by decide +kernel)
set_option maxRecDepth 20000 in
theorem gX6_move_X6_hang : GoodIn wsX6_move (wsV RX6 70 RX6 yX6_hang wsX6_hang) := goodIn_app (goodIn_of _ (by decide +kernel)) ggX6_move_X6_hang
theorem dX6_move_0 : decode cX6_move 0 = .ok (.aload_n 0, 1) := by decide +kernel
theorem dX6_move_1 : decode cX6_move 1 = .ok (.iconst 0, 1) := by decide +kernel
theorem dX6_move_2 : decode cX6_move 2 = .ok (.putfield 28, 3) := by decide +kernel
theorem dX6_move_5 : decode cX6_move 5 = .ok (.aload_n 0, 1) := by decide +kernel
theorem dX6_move_6 : decode cX6_move 6 = .ok (.iload_n 1, 1) := by decide +kernel
theorem dX6_move_7 : decode cX6_move 7 = .ok (.invokevirtual 67, 3) := by decide +kernel
theorem dX6_move_10 : decode cX6_move 10 = .ok (.ifCond .eq 13, 3) := by decide +kernel
theorem dX6_move_13 : decode cX6_move 13 = .ok (.iload_n 2, 1) := by decide +kernel
theorem dX6_move_14 : decode cX6_move 14 = .ok (.iconst 0, 1) := by decide +kernel
theorem dX6_move_15 : decode cX6_move 15 = .ok (.bipush 11, 2) := by decide +kernel
theorem dX6_move_17 : decode cX6_move 17 = .ok (.invokestatic 35, 3) := by decide +kernel
theorem dX6_move_20 : decode cX6_move 20 = .ok (.ifCond .ne 9, 3) := by decide +kernel
theorem dX6_move_23 : decode cX6_move 23 = .ok (.aload_n 0, 1) := by decide +kernel
theorem dX6_move_24 : decode cX6_move 24 = .ok (.iconst 1, 1) := by decide +kernel
theorem dX6_move_25 : decode cX6_move 25 = .ok (.invokevirtual 55, 3) := by decide +kernel
theorem dX6_move_28 : decode cX6_move 28 = .ok (.ireturn, 1) := by decide +kernel
theorem dX6_move_29 : decode cX6_move 29 = .ok (.aload_n 0, 1) := by decide +kernel
theorem dX6_move_30 : decode cX6_move 30 = .ok (.iload_n 2, 1) := by decide +kernel
theorem dX6_move_31 : decode cX6_move 31 = .ok (.invokevirtual 59, 3) := by decide +kernel
theorem dX6_move_34 : decode cX6_move 34 = .ok (.ifCond .eq 9, 3) := by decide +kernel
theorem dX6_move_37 : decode cX6_move 37 = .ok (.aload_n 0, 1) := by decide +kernel
theorem dX6_move_38 : decode cX6_move 38 = .ok (.iconst 2, 1) := by decide +kernel
theorem dX6_move_39 : decode cX6_move 39 = .ok (.invokevirtual 55, 3) := by decide +kernel
theorem dX6_move_42 : decode cX6_move 42 = .ok (.ireturn, 1) := by decide +kernel
theorem dX6_move_43 : decode cX6_move 43 = .ok (.aload_n 0, 1) := by decide +kernel
theorem dX6_move_44 : decode cX6_move 44 = .ok (.iload_n 1, 1) := by decide +kernel
theorem dX6_move_45 : decode cX6_move 45 = .ok (.iconst 0, 1) := by decide +kernel
theorem dX6_move_46 : decode cX6_move 46 = .ok (.invokevirtual 42, 3) := by decide +kernel
theorem dX6_move_49 : decode cX6_move 49 = .ok (.istore_n 3, 1) := by decide +kernel
theorem dX6_move_50 : decode cX6_move 50 = .ok (.aload_n 0, 1) := by decide +kernel
theorem dX6_move_51 : decode cX6_move 51 = .ok (.iload_n 1, 1) := by decide +kernel
theorem dX6_move_52 : decode cX6_move 52 = .ok (.iload_n 2, 1) := by decide +kernel
theorem dX6_move_53 : decode cX6_move 53 = .ok (.invokevirtual 70, 3) := by decide +kernel
theorem dX6_move_56 : decode cX6_move 56 = .ok (.iload_n 3, 1) := by decide +kernel
theorem dX6_move_57 : decode cX6_move 57 = .ok (.ireturn, 1) := by decide +kernel
set_option maxRecDepth 20000 in
theorem ggX6_turn_X6_isRope : GoodIn wsX6_turn wsX6_isRope := goodIn_r _ [6, 7, 8, 9, 5, 10, 20, 21, 22, 23, 24, 25, 26, 27, 28, 29] (by decide +kernel) (by decide +kernel)
set_option maxRecDepth 20000 in
theorem gX6_turn_X6_isRope : GoodIn wsX6_turn (wsV RX6 67 RX6 yX6_isRope wsX6_isRope) := goodIn_app (goodIn_of _ (by decide +kernel)) ggX6_turn_X6_isRope
set_option maxRecDepth 20000 in
theorem ggX6_turn_X6_ro : GoodIn wsX6_turn wsX6_ro := goodIn_r _ [14, 15, 20, 21, 22, 23, 24, 25, 26, 27, 28, 29] (by decide +kernel) (by decide +kernel)
set_option maxRecDepth 20000 in
theorem gX6_turn_X6_ro : GoodIn wsX6_turn (wsV RX6 42 RX6 yX6_ro wsX6_ro) := goodIn_app (goodIn_of _ (by decide +kernel)) ggX6_turn_X6_ro
set_option maxRecDepth 20000 in
theorem ggX6_turn_X6_let : GoodIn wsX6_turn wsX6_let := goodIn_r _ [19, 15, 20, 21, 22, 23, 24, 25, 26, 27, 28, 29] (by decide +kernel) (by decide +kernel)
set_option maxRecDepth 20000 in
theorem gX6_turn_X6_let : GoodIn wsX6_turn (wsV RX6 63 RX6 yX6_let wsX6_let) := goodIn_app (goodIn_of _ (by decide +kernel)) ggX6_turn_X6_let
theorem dX6_turn_0 : decode cX6_turn 0 = .ok (.aload_n 0, 1) := by decide +kernel
theorem dX6_turn_1 : decode cX6_turn 1 = .ok (.aload_n 0, 1) := by decide +kernel
theorem dX6_turn_2 : decode cX6_turn 2 = .ok (.iload_n 1, 1) := by decide +kernel
theorem dX6_turn_3 : decode cX6_turn 3 = .ok (.invokevirtual 67, 3) := by decide +kernel
theorem dX6_turn_6 : decode cX6_turn 6 = .ok (.ifCond .eq 7, 3) := by decide +kernel
theorem dX6_turn_9 : decode cX6_turn 9 = .ok (.iconst 0, 1) := by decide +kernel
theorem dX6_turn_10 : decode cX6_turn 10 = .ok (.goto 4, 3) := by decide +kernel
theorem dX6_turn_13 : decode cX6_turn 13 = .ok (.iconst 1, 1) := by decide +kernel
theorem dX6_turn_14 : decode cX6_turn 14 = .ok (.putfield 28, 3) := by decide +kernel
theorem dX6_turn_17 : decode cX6_turn 17 = .ok (.aload_n 0, 1) := by decide +kernel
theorem dX6_turn_18 : decode cX6_turn 18 = .ok (.getfield 28, 3) := by decide +kernel
theorem dX6_turn_21 : decode cX6_turn 21 = .ok (.ifCond .eq 5, 3) := by decide +kernel
theorem dX6_turn_24 : decode cX6_turn 24 = .ok (.iconst 0, 1) := by decide +kernel
theorem dX6_turn_25 : decode cX6_turn 25 = .ok (.ireturn, 1) := by decide +kernel
theorem dX6_turn_26 : decode cX6_turn 26 = .ok (.aload_n 0, 1) := by decide +kernel
theorem dX6_turn_27 : decode cX6_turn 27 = .ok (.iload_n 1, 1) := by decide +kernel
theorem dX6_turn_28 : decode cX6_turn 28 = .ok (.iconst 2, 1) := by decide +kernel
theorem dX6_turn_29 : decode cX6_turn 29 = .ok (.iconst 1, 1) := by decide +kernel
theorem dX6_turn_30 : decode cX6_turn 30 = .ok (.aload_n 0, 1) := by decide +kernel
theorem dX6_turn_31 : decode cX6_turn 31 = .ok (.iload_n 1, 1) := by decide +kernel
theorem dX6_turn_32 : decode cX6_turn 32 = .ok (.iconst 2, 1) := by decide +kernel
theorem dX6_turn_33 : decode cX6_turn 33 = .ok (.invokevirtual 42, 3) := by decide +kernel
theorem dX6_turn_36 : decode cX6_turn 36 = .ok (.isub, 1) := by decide +kernel
theorem dX6_turn_37 : decode cX6_turn 37 = .ok (.invokevirtual 63, 3) := by decide +kernel
theorem dX6_turn_40 : decode cX6_turn 40 = .ok (.aload_n 0, 1) := by decide +kernel
theorem dX6_turn_41 : decode cX6_turn 41 = .ok (.iload_n 1, 1) := by decide +kernel
theorem dX6_turn_42 : decode cX6_turn 42 = .ok (.iconst 2, 1) := by decide +kernel
theorem dX6_turn_43 : decode cX6_turn 43 = .ok (.invokevirtual 42, 3) := by decide +kernel
theorem dX6_turn_46 : decode cX6_turn 46 = .ok (.ifCond .ne 7, 3) := by decide +kernel
theorem dX6_turn_49 : decode cX6_turn 49 = .ok (.iconst 1, 1) := by decide +kernel
theorem dX6_turn_50 : decode cX6_turn 50 = .ok (.goto 4, 3) := by decide +kernel
theorem dX6_turn_53 : decode cX6_turn 53 = .ok (.iconst 0, 1) := by decide +kernel
theorem dX6_turn_54 : decode cX6_turn 54 = .ok (.ireturn, 1) := by decide +kernel
set_option maxRecDepth 20000 in
theorem ggX6_wipe_X6_isWindow : GoodIn wsX6_wipe wsX6_isWindow := goodIn_r _ [7, 8, 9, 10, 6, 11, 24, 25, 26, 27, 28, 29, 30, 31, 32, 33] (by decide +kernel) (by decide +kernel)
set_option maxRecDepth 20000 in
theorem gX6_wipe_X6_isWindow : GoodIn wsX6_wipe (wsV RX6 74 RX6 yX6_isWindow wsX6_isWindow) := goodIn_app (goodIn_of _ (by decide +kernel)) ggX6_wipe_X6_isWindow
set_option maxRecDepth 20000 in
theorem ggX6_wipe_X6_fail : GoodIn wsX6_wipe wsX6_fail := goodIn_r _ [15, 1, 24, 25, 26, 27, 28, 29, 30, 31, 32, 33] (by decide +kernel) (by decide +kernel)
set_option maxRecDepth 20000 in
theorem gX6_wipe_X6_fail : GoodIn wsX6_wipe (wsV RX6 55 RX6 yX6_fail wsX6_fail) := goodIn_app (goodIn_of _ (by decide +kernel)) ggX6_wipe_X6_fail
set_option maxRecDepth 20000 in
theorem ggX6_wipe_X6_wi : GoodIn wsX6_wipe wsX6_wi := goodIn_r _ [19, 20, 24, 25, 26, 27, 28, 29, 30, 31, 32, 33] (by decide +kernel) (by decide +kernel)
set_option maxRecDepth 20000 in
theorem gX6_wipe_X6_wi : GoodIn wsX6_wipe (wsV RX6 77 RX6 yX6_wi wsX6_wi) := goodIn_app (goodIn_of _ (by decide +kernel)) ggX6_wipe_X6_wi
set_option maxRecDepth 20000 in
theorem ggX6_wipe_X6_pane : GoodIn wsX6_wipe wsX6_pane := goodIn_r _ [23] (by decide +kernel) (by decide +kernel)
set_option maxRecDepth 20000 in
theorem gX6_wipe_X6_pane : GoodIn wsX6_wipe (va_wsS RX6 80 yX6_pane wsX6_pane) := goodIn_app (goodIn_of _ (by decide +kernel)) ggX6_wipe_X6_pane
theorem dX6_wipe_0 : decode cX6_wipe 0 = .ok (.aload_n 0, 1) := by decide +kernel
theorem dX6_wipe_1 : decode cX6_wipe 1 = .ok (.iconst 0, 1) := by decide +kernel
theorem dX6_wipe_2 : decode cX6_wipe 2 = .ok (.putfield 28, 3) := by decide +kernel
theorem dX6_wipe_5 : decode cX6_wipe 5 = .ok (.aload_n 0, 1) := by decide +kernel
theorem dX6_wipe_6 : decode cX6_wipe 6 = .ok (.iload_n 1, 1) := by decide +kernel
theorem dX6_wipe_7 : decode cX6_wipe 7 = .ok (.invokevirtual 74, 3) := by decide +kernel
theorem dX6_wipe_10 : decode cX6_wipe 10 = .ok (.ifCond .ne 9, 3) := by decide +kernel
theorem dX6_wipe_13 : decode cX6_wipe 13 = .ok (.aload_n 0, 1) := by decide +kernel
theorem dX6_wipe_14 : decode cX6_wipe 14 = .ok (.iconst 1, 1) := by decide +kernel
theorem dX6_wipe_15 : decode cX6_wipe 15 = .ok (.invokevirtual 55, 3) := by decide +kernel
theorem dX6_wipe_18 : decode cX6_wipe 18 = .ok (.ireturn, 1) := by decide +kernel
theorem dX6_wipe_19 : decode cX6_wipe 19 = .ok (.iconst 0, 1) := by decide +kernel
theorem dX6_wipe_20 : decode cX6_wipe 20 = .ok (.istore_n 2, 1) := by decide +kernel
theorem dX6_wipe_21 : decode cX6_wipe 21 = .ok (.aload_n 0, 1) := by decide +kernel
theorem dX6_wipe_22 : decode cX6_wipe 22 = .ok (.iload_n 1, 1) := by decide +kernel
theorem dX6_wipe_23 : decode cX6_wipe 23 = .ok (.iconst 0, 1) := by decide +kernel
theorem dX6_wipe_24 : decode cX6_wipe 24 = .ok (.invokevirtual 77, 3) := by decide +kernel
theorem dX6_wipe_27 : decode cX6_wipe 27 = .ok (.istore_n 3, 1) := by decide +kernel
theorem dX6_wipe_28 : decode cX6_wipe 28 = .ok (.iload_n 3, 1) := by decide +kernel
theorem dX6_wipe_29 : decode cX6_wipe 29 = .ok (.aload_n 0, 1) := by decide +kernel
theorem dX6_wipe_30 : decode cX6_wipe 30 = .ok (.iload_n 1, 1) := by decide +kernel
theorem dX6_wipe_31 : decode cX6_wipe 31 = .ok (.iconst 0, 1) := by decide +kernel
theorem dX6_wipe_32 : decode cX6_wipe 32 = .ok (.invokevirtual 77, 3) := by decide +kernel
theorem dX6_wipe_35 : decode cX6_wipe 35 = .ok (.aload_n 0, 1) := by decide +kernel
theorem dX6_wipe_36 : decode cX6_wipe 36 = .ok (.iload_n 1, 1) := by decide +kernel
theorem dX6_wipe_37 : decode cX6_wipe 37 = .ok (.iconst 2, 1) := by decide +kernel
theorem dX6_wipe_38 : decode cX6_wipe 38 = .ok (.invokevirtual 77, 3) := by decide +kernel
theorem dX6_wipe_41 : decode cX6_wipe 41 = .ok (.iadd, 1) := by decide +kernel
theorem dX6_wipe_42 : decode cX6_wipe 42 = .ok (.if_icmp .ge 67, 3) := by decide +kernel
theorem dX6_wipe_45 : decode cX6_wipe 45 = .ok (.aload_n 0, 1) := by decide +kernel
theorem dX6_wipe_46 : decode cX6_wipe 46 = .ok (.iload_n 1, 1) := by decide +kernel
theorem dX6_wipe_47 : decode cX6_wipe 47 = .ok (.iconst 1, 1) := by decide +kernel
theorem dX6_wipe_48 : decode cX6_wipe 48 = .ok (.invokevirtual 77, 3) := by decide +kernel
theorem dX6_wipe_51 : decode cX6_wipe 51 = .ok (.istore 4, 2) := by decide +kernel
theorem dX6_wipe_53 : decode cX6_wipe 53 = .ok (.iload 4, 2) := by decide +kernel
