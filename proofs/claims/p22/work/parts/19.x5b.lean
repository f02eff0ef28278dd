/-! THE CLASS, ON -/

abbrev rm_X5_number : Room := { frames := 4, cells := 0, slots := 0, locals := 92 }
set_option maxHeartbeats 4000000 in
set_option maxRecDepth 100000 in
/-- what count() tells -/
theorem m_X5_number (l : Launch) (D : va_G) (cI cZ cJ : ClassId) (gr v f k ak : Nat) (g a b b0 b1 b2 b3 b4 b5 nr : Nat) (S st : Nat → Nat) (z0 z1 z2 z3 z4 nw : Nat) (T : Nat → Nat) (f0 f1 nf : Nat) (fe fo : Nat → Nat) (wh : Nat) (hg : Gd S nr) (hs : stOk T st fe fo nw nr nf) (hw : wh < 11) : MIN l yX5_number wsX5_number rm_X5_number D (gT cI cZ cJ) [(gr, .inr (5, [.ref v, .ref f, .ref k, .ref ak])), (v, .inr (4, [.int (nI nw), .ref z0, .ref z1, .ref z2, .ref z3, .ref z4])), (z0, .inl (cI, 6, .inl (vt 0 T))), (z1, .inl (cI, 6, .inl (vt 1 T))), (z2, .inl (cI, 6, .inl (vt 2 T))), (z3, .inl (cI, 6, .inl (vt 3 T))), (z4, .inl (cI, 6, .inl (vt 4 T))), (f, .inr (1, [.int (nI nf), .ref f0, .ref f1])), (f0, .inl (cI, 4, .inl (v4 fe))), (f1, .inl (cI, 4, .inl (v4 fo))), (k, .inr (0, [.ref g, .ref b, .int (nI (S 1)), .int (nI (S 0)), .int (nI (S 2)), .int (nI (S 3))])), (g, .inr (2, [.ref a])), (a, .inl (cI, 96, .inl (vs S))), (b, .inr (3, [.int (nI nr), .ref b0, .ref b1, .ref b2, .ref b3, .ref b4, .ref b5])), (b0, .inl (cI, 6, .inl (vr 0 S))), (b1, .inl (cI, 6, .inl (vr 1 S))), (b2, .inl (cI, 6, .inl (v6 st))), (b3, .inl (cZ, 6, .inl (vw nr S))), (b4, .inl (cI, 6, .inl (vr 3 S))), (b5, .inl (cI, 6, .inl (vr 4 S)))] [.ref gr, .int (nI wh)] (fun r9 u9 => r9 = nI (cnt S T nw nr nf wh) ∧ u9 = [(gr, .inr (5, [.ref v, .ref f, .ref k, .ref ak])), (v, .inr (4, [.int (nI nw), .ref z0, .ref z1, .ref z2, .ref z3, .ref z4])), (z0, .inl (cI, 6, .inl (vt 0 T))), (z1, .inl (cI, 6, .inl (vt 1 T))), (z2, .inl (cI, 6, .inl (vt 2 T))), (z3, .inl (cI, 6, .inl (vt 3 T))), (z4, .inl (cI, 6, .inl (vt 4 T))), (f, .inr (1, [.int (nI nf), .ref f0, .ref f1])), (f0, .inl (cI, 4, .inl (v4 fe))), (f1, .inl (cI, 4, .inl (v4 fo))), (k, .inr (0, [.ref g, .ref b, .int (nI (S 1)), .int (nI (S 0)), .int (nI (S 2)), .int (nI (S 3))])), (g, .inr (2, [.ref a])), (a, .inl (cI, 96, .inl (vs S))), (b, .inr (3, [.int (nI nr), .ref b0, .ref b1, .ref b2, .ref b3, .ref b4, .ref b5])), (b0, .inl (cI, 6, .inl (vr 0 S))), (b1, .inl (cI, 6, .inl (vr 1 S))), (b2, .inl (cI, 6, .inl (v6 st))), (b3, .inl (cZ, 6, .inl (vw nr S))), (b4, .inl (cI, 6, .inl (vr 3 S))), (b5, .inl (cI, 6, .inl (vr 4 S)))]) := by
  refine MIN_of [(0, .ref gr), (1, .int (nI wh))] (by decide) rfl (Nat.le_of_ble_eq_true rfl) rfl ?_
  intro p e s m args below meth c A Q X hN ret
  have hiX0 : ∀ w ∈ wsX00, w ∈ wsX5_number := (fun _ h => List.mem_cons_of_mem _ (List.mem_append_left _ (List.mem_append_left _ (List.mem_append_left _ (List.mem_append_left _ (List.mem_append_right _ h))))))
  have hiX1 : ∀ w ∈ wsX10, w ∈ wsX5_number := (fun _ h => List.mem_cons_of_mem _ (List.mem_append_left _ (List.mem_append_right _ h)))
  have hiX3 : ∀ w ∈ wsX30, w ∈ wsX5_number := (fun _ h => List.mem_cons_of_mem _ (List.mem_append_left _ (List.mem_append_left _ (List.mem_append_right _ h))))
  have hiX4 : ∀ w ∈ wsX40, w ∈ wsX5_number := (fun _ h => List.mem_cons_of_mem _ (List.mem_append_left _ (List.mem_append_left _ (List.mem_append_left _ (List.mem_append_right _ h)))))
  have hiX5 : ∀ w ∈ wsX50, w ∈ wsX5_number := (fun _ h => List.mem_cons_of_mem _ (List.mem_append_left _ (List.mem_append_left _ (List.mem_append_left _ (List.mem_append_left _ (List.mem_append_left _ (List.mem_append_right _ h)))))))
  refine g_iload_n X 1 1 dX5_number_0 rfl rfl rfl ?_
  rcases (show wh = 0 ∨ wh = 1 ∨ wh = 2 ∨ wh = 3 ∨ wh = 4 ∨ wh = 5 ∨ wh = 6 ∨ wh = 7 ∨ wh = 8 ∨ wh = 9 ∨ wh = 10 by omega) with rfl | rfl | rfl | rfl | rfl | rfl | rfl | rfl | rfl | rfl | rfl
  · refine g_tableIn X 56 dX5_number_1 0 (by decide +kernel) (by decide) (by decide) rfl (by decide) ?_
    refine g_aload_n X 0 57 dX5_number_56 rfl rfl rfl ?_
    refine g_get X hiX5 0 2 60 rfl rfl (by decide) (List.mem_of_getElem? (i := 1) rfl) rfl dX5_number_57 rfl ?_
    refine g_getN X hN hiX0 10 3 63 rfl rfl (by decide) (by decide +kernel) rfl dX5_number_60 rfl ?_
    exact ret _ _ _ _ dX5_number_63 rfl ⟨rfl, rfl⟩
  · refine g_tableIn X 64 dX5_number_1 1 (by decide +kernel) (by decide) (by decide) rfl (by decide) ?_
    refine g_aload_n X 0 65 dX5_number_64 rfl rfl rfl ?_
    refine g_get X hiX5 0 0 68 rfl rfl (by decide) (List.mem_of_getElem? (i := 2) rfl) rfl dX5_number_65 rfl ?_
    refine g_getN X hN hiX4 1 0 71 rfl rfl (by decide) (by decide +kernel) rfl dX5_number_68 rfl ?_
    exact ret _ _ _ _ dX5_number_71 rfl ⟨rfl, rfl⟩
  · refine g_tableIn X 72 dX5_number_1 2 (by decide +kernel) (by decide) (by decide) rfl (by decide) ?_
    refine g_aload_n X 0 73 dX5_number_72 rfl rfl rfl ?_
    refine g_get X hiX5 0 2 76 rfl rfl (by decide) (List.mem_of_getElem? (i := 1) rfl) rfl dX5_number_73 rfl ?_
    refine g_getN X hN hiX0 10 1 79 rfl rfl (by decide) (by decide +kernel) rfl dX5_number_76 rfl ?_
    refine g_getN X hN hiX3 13 0 82 rfl rfl (by decide) (by decide +kernel) rfl dX5_number_79 rfl ?_
    exact ret _ _ _ _ dX5_number_82 rfl ⟨rfl, rfl⟩
  · refine g_tableIn X 83 dX5_number_1 3 (by decide +kernel) (by decide) (by decide) rfl (by decide) ?_
    refine g_aload_n X 0 84 dX5_number_83 rfl rfl rfl ?_
    refine g_get X hiX5 0 1 87 rfl rfl (by decide) (List.mem_of_getElem? (i := 3) rfl) rfl dX5_number_84 rfl ?_
    refine g_getN X hN hiX1 7 0 90 rfl rfl (by decide) (by decide +kernel) rfl dX5_number_87 rfl ?_
    exact ret _ _ _ _ dX5_number_90 rfl ⟨rfl, rfl⟩
  · refine g_tableIn X 91 dX5_number_1 4 (by decide +kernel) (by decide) (by decide) rfl (by decide) ?_
    refine g_aload_n X 0 92 dX5_number_91 rfl rfl rfl ?_
    refine g_get X hiX5 0 2 95 rfl rfl (by decide) (List.mem_of_getElem? (i := 1) rfl) rfl dX5_number_92 rfl ?_
    refine g_getN X hN hiX0 10 2 98 rfl rfl (by decide) (by decide +kernel) rfl dX5_number_95 rfl ?_
    exact ret _ _ _ _ dX5_number_98 rfl ⟨rfl, rfl⟩
  · refine g_tableIn X 99 dX5_number_1 5 (by decide +kernel) (by decide) (by decide) rfl (by decide) ?_
    refine g_aload_n X 0 100 dX5_number_99 rfl rfl rfl ?_
    refine g_get X hiX5 0 2 103 rfl rfl (by decide) (List.mem_of_getElem? (i := 1) rfl) rfl dX5_number_100 rfl ?_
    refine g_getN X hN hiX0 10 0 106 rfl rfl (by decide) (by decide +kernel) rfl dX5_number_103 rfl ?_
    refine g_callVi (ws' := [(gr, .inr (5, [.ref v, .ref f, .ref k, .ref ak])), (v, .inr (4, [.int (nI nw), .ref z0, .ref z1, .ref z2, .ref z3, .ref z4])), (z0, .inl (cI, 6, .inl (vt 0 T))), (z1, .inl (cI, 6, .inl (vt 1 T))), (z2, .inl (cI, 6, .inl (vt 2 T))), (z3, .inl (cI, 6, .inl (vt 3 T))), (z4, .inl (cI, 6, .inl (vt 4 T))), (f, .inr (1, [.int (nI nf), .ref f0, .ref f1])), (f0, .inl (cI, 4, .inl (v4 fe))), (f1, .inl (cI, 4, .inl (v4 fo))), (k, .inr (0, [.ref g, .ref b, .int (nI (S 1)), .int (nI (S 0)), .int (nI (S 2)), .int (nI (S 3))])), (g, .inr (2, [.ref a])), (a, .inl (cI, 96, .inl (vs S))), (b, .inr (3, [.int (nI nr), .ref b0, .ref b1, .ref b2, .ref b3, .ref b4, .ref b5])), (b0, .inl (cI, 6, .inl (vr 0 S))), (b1, .inl (cI, 6, .inl (vr 1 S))), (b2, .inl (cI, 6, .inl (v6 st))), (b3, .inl (cZ, 6, .inl (vw nr S))), (b4, .inl (cI, 6, .inl (vr 3 S))), (b5, .inl (cI, 6, .inl (vr 4 S)))]) X (m_X2_total l D cI cZ cJ g a S) 109 [11, 12] gX5_number_X2_total (n := 0) rfl (by decide +kernel) rfl ⟨Nat.le_of_ble_eq_true rfl, Nat.le_of_ble_eq_true rfl⟩ (ci := 2) (q0 := 0) rfl rfl rfl (Nat.le_of_ble_eq_true rfl) rfl (by decide +kernel) rfl rfl dX5_number_106 rfl ⟨Nat.le_of_ble_eq_true rfl, Nat.le_of_ble_eq_true rfl⟩ ?_
    exact ret _ _ _ _ dX5_number_109 rfl ⟨rfl, rfl⟩
  · refine g_tableIn X 110 dX5_number_1 6 (by decide +kernel) (by decide) (by decide) rfl (by decide) ?_
    refine g_aload_n X 0 111 dX5_number_110 rfl rfl rfl ?_
    refine g_get X hiX5 0 2 114 rfl rfl (by decide) (List.mem_of_getElem? (i := 1) rfl) rfl dX5_number_111 rfl ?_
    refine g_getN X hN hiX0 10 0 117 rfl rfl (by decide) (by decide +kernel) rfl dX5_number_114 rfl ?_
    refine g_callVi (ws' := [(gr, .inr (5, [.ref v, .ref f, .ref k, .ref ak])), (v, .inr (4, [.int (nI nw), .ref z0, .ref z1, .ref z2, .ref z3, .ref z4])), (z0, .inl (cI, 6, .inl (vt 0 T))), (z1, .inl (cI, 6, .inl (vt 1 T))), (z2, .inl (cI, 6, .inl (vt 2 T))), (z3, .inl (cI, 6, .inl (vt 3 T))), (z4, .inl (cI, 6, .inl (vt 4 T))), (f, .inr (1, [.int (nI nf), .ref f0, .ref f1])), (f0, .inl (cI, 4, .inl (v4 fe))), (f1, .inl (cI, 4, .inl (v4 fo))), (k, .inr (0, [.ref g, .ref b, .int (nI (S 1)), .int (nI (S 0)), .int (nI (S 2)), .int (nI (S 3))])), (g, .inr (2, [.ref a])), (a, .inl (cI, 96, .inl (vs S))), (b, .inr (3, [.int (nI nr), .ref b0, .ref b1, .ref b2, .ref b3, .ref b4, .ref b5])), (b0, .inl (cI, 6, .inl (vr 0 S))), (b1, .inl (cI, 6, .inl (vr 1 S))), (b2, .inl (cI, 6, .inl (v6 st))), (b3, .inl (cZ, 6, .inl (vw nr S))), (b4, .inl (cI, 6, .inl (vr 3 S))), (b5, .inl (cI, 6, .inl (vr 4 S)))]) X (m_X2_cleanPanes l D cI cZ cJ g a S hg.1.2.1) 120 [11, 12] gX5_number_X2_cleanPanes (n := 0) rfl (by decide +kernel) rfl ⟨Nat.le_of_ble_eq_true rfl, Nat.le_of_ble_eq_true rfl⟩ (ci := 2) (q0 := 0) rfl rfl rfl (Nat.le_of_ble_eq_true rfl) rfl (by decide +kernel) rfl rfl dX5_number_117 rfl ⟨Nat.le_of_ble_eq_true rfl, Nat.le_of_ble_eq_true rfl⟩ ?_
    exact ret _ _ _ _ dX5_number_120 rfl ⟨rfl, rfl⟩
  · refine g_tableIn X 121 dX5_number_1 7 (by decide +kernel) (by decide) (by decide) rfl (by decide) ?_
    refine g_aload_n X 0 122 dX5_number_121 rfl rfl rfl ?_
    refine g_get X hiX5 0 2 125 rfl rfl (by decide) (List.mem_of_getElem? (i := 1) rfl) rfl dX5_number_122 rfl ?_
    refine g_getN X hN hiX0 10 1 128 rfl rfl (by decide) (by decide +kernel) rfl dX5_number_125 rfl ?_
    refine g_callVi (ws' := [(gr, .inr (5, [.ref v, .ref f, .ref k, .ref ak])), (v, .inr (4, [.int (nI nw), .ref z0, .ref z1, .ref z2, .ref z3, .ref z4])), (z0, .inl (cI, 6, .inl (vt 0 T))), (z1, .inl (cI, 6, .inl (vt 1 T))), (z2, .inl (cI, 6, .inl (vt 2 T))), (z3, .inl (cI, 6, .inl (vt 3 T))), (z4, .inl (cI, 6, .inl (vt 4 T))), (f, .inr (1, [.int (nI nf), .ref f0, .ref f1])), (f0, .inl (cI, 4, .inl (v4 fe))), (f1, .inl (cI, 4, .inl (v4 fo))), (k, .inr (0, [.ref g, .ref b, .int (nI (S 1)), .int (nI (S 0)), .int (nI (S 2)), .int (nI (S 3))])), (g, .inr (2, [.ref a])), (a, .inl (cI, 96, .inl (vs S))), (b, .inr (3, [.int (nI nr), .ref b0, .ref b1, .ref b2, .ref b3, .ref b4, .ref b5])), (b0, .inl (cI, 6, .inl (vr 0 S))), (b1, .inl (cI, 6, .inl (vr 1 S))), (b2, .inl (cI, 6, .inl (v6 st))), (b3, .inl (cZ, 6, .inl (vw nr S))), (b4, .inl (cI, 6, .inl (vr 3 S))), (b5, .inl (cI, 6, .inl (vr 4 S)))]) X (m_X3_allCleaned l D cI cZ cJ b b0 b1 b2 b3 b4 b5 nr S st hg.1.1) 131 [13, 14, 15, 16, 17, 18, 19] gX5_number_X3_allCleaned (n := 0) rfl (by decide +kernel) rfl ⟨Nat.le_of_ble_eq_true rfl, Nat.le_of_ble_eq_true rfl⟩ (ci := 3) (q0 := 0) rfl rfl rfl (Nat.le_of_ble_eq_true rfl) rfl (by decide +kernel) rfl (putB_id rfl) dX5_number_128 rfl ⟨Nat.le_of_ble_eq_true rfl, Nat.le_of_ble_eq_true rfl⟩ ?_
    exact ret _ _ _ _ dX5_number_131 rfl ⟨rfl, rfl⟩
  · refine g_tableIn X 132 dX5_number_1 8 (by decide +kernel) (by decide) (by decide) rfl (by decide) ?_
    refine g_aload_n X 0 133 dX5_number_132 rfl rfl rfl ?_
    refine g_get X hiX5 0 2 136 rfl rfl (by decide) (List.mem_of_getElem? (i := 1) rfl) rfl dX5_number_133 rfl ?_
    refine g_getN X hN hiX0 10 4 139 rfl rfl (by decide) (by decide +kernel) rfl dX5_number_136 rfl ?_
    exact ret _ _ _ _ dX5_number_139 rfl ⟨rfl, rfl⟩
  · refine g_tableIn X 140 dX5_number_1 9 (by decide +kernel) (by decide) (by decide) rfl (by decide) ?_
    refine g_aload_n X 0 141 dX5_number_140 rfl rfl rfl ?_
    refine g_get X hiX5 0 2 144 rfl rfl (by decide) (List.mem_of_getElem? (i := 1) rfl) rfl dX5_number_141 rfl ?_
    refine g_getN X hN hiX0 10 5 147 rfl rfl (by decide) (by decide +kernel) rfl dX5_number_144 rfl ?_
    exact ret _ _ _ _ dX5_number_147 rfl ⟨rfl, rfl⟩
  · refine g_tableOut X 148 dX5_number_1 (by decide +kernel) (by decide) ?_
    refine g_aload_n X 0 149 dX5_number_148 rfl rfl rfl ?_
    refine g_get X hiX5 0 0 152 rfl rfl (by decide) (List.mem_of_getElem? (i := 2) rfl) rfl dX5_number_149 rfl ?_
    refine g_aload_n X 0 153 dX5_number_152 rfl rfl rfl ?_
    refine g_get X hiX5 0 2 156 rfl rfl (by decide) (List.mem_of_getElem? (i := 1) rfl) rfl dX5_number_153 rfl ?_
    refine g_getN X hN hiX0 10 0 159 rfl rfl (by decide) (by decide +kernel) rfl dX5_number_156 rfl ?_
    refine g_callVi (ws' := [(gr, .inr (5, [.ref v, .ref f, .ref k, .ref ak])), (v, .inr (4, [.int (nI nw), .ref z0, .ref z1, .ref z2, .ref z3, .ref z4])), (z0, .inl (cI, 6, .inl (vt 0 T))), (z1, .inl (cI, 6, .inl (vt 1 T))), (z2, .inl (cI, 6, .inl (vt 2 T))), (z3, .inl (cI, 6, .inl (vt 3 T))), (z4, .inl (cI, 6, .inl (vt 4 T))), (f, .inr (1, [.int (nI nf), .ref f0, .ref f1])), (f0, .inl (cI, 4, .inl (v4 fe))), (f1, .inl (cI, 4, .inl (v4 fo))), (k, .inr (0, [.ref g, .ref b, .int (nI (S 1)), .int (nI (S 0)), .int (nI (S 2)), .int (nI (S 3))])), (g, .inr (2, [.ref a])), (a, .inl (cI, 96, .inl (vs S))), (b, .inr (3, [.int (nI nr), .ref b0, .ref b1, .ref b2, .ref b3, .ref b4, .ref b5])), (b0, .inl (cI, 6, .inl (vr 0 S))), (b1, .inl (cI, 6, .inl (vr 1 S))), (b2, .inl (cI, 6, .inl (v6 st))), (b3, .inl (cZ, 6, .inl (vw nr S))), (b4, .inl (cI, 6, .inl (vr 3 S))), (b5, .inl (cI, 6, .inl (vr 4 S)))]) X (m_X4_allBring l D cI cZ cJ v z0 z1 z2 z3 z4 nw T g a S hg.1.2.1 hs.1 hs.2.1) 162 [1, 2, 3, 4, 5, 6, 11, 12] gX5_number_X4_allBring (n := 1) rfl (by decide +kernel) rfl ⟨Nat.le_of_ble_eq_true rfl, Nat.le_of_ble_eq_true rfl⟩ (ci := 4) (q0 := 0) rfl rfl rfl (Nat.le_of_ble_eq_true rfl) rfl (by decide +kernel) rfl (putB_id rfl) dX5_number_159 rfl ⟨Nat.le_of_ble_eq_true rfl, Nat.le_of_ble_eq_true rfl⟩ ?_
    exact ret _ _ _ _ dX5_number_162 rfl ⟨rfl, rfl⟩

abbrev rm_X5_count : Room := { frames := 6, cells := 1, slots := 6, locals := 113 }
set_option maxHeartbeats 4000000 in
set_option maxRecDepth 100000 in
/-- count -/
theorem m_X5_count (l : Launch) (hfl : l.stackTraces = false) (D : va_G) (cI cZ cJ : ClassId) (gr v f k ak : Nat) (g a b b0 b1 b2 b3 b4 b5 nr : Nat) (S st : Nat → Nat) (z0 z1 z2 z3 z4 nw : Nat) (T : Nat → Nat) (f0 f1 nf : Nat) (fe fo : Nat → Nat) (wh : Int32) (hg : Gd S nr) (hs : stOk T st fe fo nw nr nf) : MX l yX5_count wsX5_count rm_X5_count D (gT cI cZ cJ) [(gr, .inr (5, [.ref v, .ref f, .ref k, .ref ak])), (v, .inr (4, [.int (nI nw), .ref z0, .ref z1, .ref z2, .ref z3, .ref z4])), (z0, .inl (cI, 6, .inl (vt 0 T))), (z1, .inl (cI, 6, .inl (vt 1 T))), (z2, .inl (cI, 6, .inl (vt 2 T))), (z3, .inl (cI, 6, .inl (vt 3 T))), (z4, .inl (cI, 6, .inl (vt 4 T))), (f, .inr (1, [.int (nI nf), .ref f0, .ref f1])), (f0, .inl (cI, 4, .inl (v4 fe))), (f1, .inl (cI, 4, .inl (v4 fo))), (k, .inr (0, [.ref g, .ref b, .int (nI (S 1)), .int (nI (S 0)), .int (nI (S 2)), .int (nI (S 3))])), (g, .inr (2, [.ref a])), (a, .inl (cI, 96, .inl (vs S))), (b, .inr (3, [.int (nI nr), .ref b0, .ref b1, .ref b2, .ref b3, .ref b4, .ref b5])), (b0, .inl (cI, 6, .inl (vr 0 S))), (b1, .inl (cI, 6, .inl (vr 1 S))), (b2, .inl (cI, 6, .inl (v6 st))), (b3, .inl (cZ, 6, .inl (vw nr S))), (b4, .inl (cI, 6, .inl (vr 3 S))), (b5, .inl (cI, 6, .inl (vr 4 S)))] [.ref gr, .int wh] (fun r9 u9 => oneE 11 wh = 0 ∧ r9 = nI (cnt S T nw nr nf (tn wh)) ∧ u9 = [(gr, .inr (5, [.ref v, .ref f, .ref k, .ref ak])), (v, .inr (4, [.int (nI nw), .ref z0, .ref z1, .ref z2, .ref z3, .ref z4])), (z0, .inl (cI, 6, .inl (vt 0 T))), (z1, .inl (cI, 6, .inl (vt 1 T))), (z2, .inl (cI, 6, .inl (vt 2 T))), (z3, .inl (cI, 6, .inl (vt 3 T))), (z4, .inl (cI, 6, .inl (vt 4 T))), (f, .inr (1, [.int (nI nf), .ref f0, .ref f1])), (f0, .inl (cI, 4, .inl (v4 fe))), (f1, .inl (cI, 4, .inl (v4 fo))), (k, .inr (0, [.ref g, .ref b, .int (nI (S 1)), .int (nI (S 0)), .int (nI (S 2)), .int (nI (S 3))])), (g, .inr (2, [.ref a])), (a, .inl (cI, 96, .inl (vs S))), (b, .inr (3, [.int (nI nr), .ref b0, .ref b1, .ref b2, .ref b3, .ref b4, .ref b5])), (b0, .inl (cI, 6, .inl (vr 0 S))), (b1, .inl (cI, 6, .inl (vr 1 S))), (b2, .inl (cI, 6, .inl (v6 st))), (b3, .inl (cZ, 6, .inl (vw nr S))), (b4, .inl (cI, 6, .inl (vr 3 S))), (b5, .inl (cI, 6, .inl (vr 4 S)))]) (fun E => (E = xI ∧ oneE 11 wh = 1)) := by
  refine MX_of hfl [(0, .ref gr), (1, .int wh)] (by decide) rfl (Nat.le_of_ble_eq_true rfl) rfl ?_
  intro p e s m args below meth c A Q X hN ret thr
  refine g_iload_n X 1 1 dX5_count_0 rfl rfl rfl ?_
  refine g_if_lt X 4 10 dX5_count_1 rfl (by decide) (z_ltr _) (fun h1 => ?_) (fun h1 => ?_)
  · exact thr _ _ _ _ xI "no such number" 40 154 44 thI_f (List.mem_of_getElem? (i := 1) rfl) (List.mem_of_getElem? (i := 2) rfl) (by decide +kernel) thI_e (fun _ h => List.mem_cons_of_mem _ (List.mem_append_right _ h)) thI_n thI_g dX5_count_10 dX5_count_13 dX5_count_14 dX5_count_16 dX5_count_19 rfl (by decide) (by decide) (by decide) (by decide) (⟨rfl, if_pos (fun z => ln z.1 h1)⟩)
  · refine g_iload_n X 1 5 dX5_count_4 rfl rfl rfl ?_
    refine g_bipush X (nI 11) 7 dX5_count_5 rfl (by decide +kernel) ?_
    refine g_icmp_lt X 10 20 dX5_count_7 rfl (by decide) Iff.rfl (fun h7 => ?_) (fun h7 => ?_)
    · have hA : isR 11 wh := ⟨nl h1, h7⟩
      have hE : oneE 11 wh = 0 := if_neg (fun z => z hA)
      obtain ⟨ih, hh1, rfl⟩ := isR_nat hA (by decide)
      rw [tn_nI (show ih < 2 ^ 31 by omega)] at ret
      refine g_aload_n X 0 21 dX5_count_20 rfl rfl rfl ?_
      refine g_iload_n X 1 22 dX5_count_21 rfl rfl rfl ?_
      refine g_callVNi (ws' := [(gr, .inr (5, [.ref v, .ref f, .ref k, .ref ak])), (v, .inr (4, [.int (nI nw), .ref z0, .ref z1, .ref z2, .ref z3, .ref z4])), (z0, .inl (cI, 6, .inl (vt 0 T))), (z1, .inl (cI, 6, .inl (vt 1 T))), (z2, .inl (cI, 6, .inl (vt 2 T))), (z3, .inl (cI, 6, .inl (vt 3 T))), (z4, .inl (cI, 6, .inl (vt 4 T))), (f, .inr (1, [.int (nI nf), .ref f0, .ref f1])), (f0, .inl (cI, 4, .inl (v4 fe))), (f1, .inl (cI, 4, .inl (v4 fo))), (k, .inr (0, [.ref g, .ref b, .int (nI (S 1)), .int (nI (S 0)), .int (nI (S 2)), .int (nI (S 3))])), (g, .inr (2, [.ref a])), (a, .inl (cI, 96, .inl (vs S))), (b, .inr (3, [.int (nI nr), .ref b0, .ref b1, .ref b2, .ref b3, .ref b4, .ref b5])), (b0, .inl (cI, 6, .inl (vr 0 S))), (b1, .inl (cI, 6, .inl (vr 1 S))), (b2, .inl (cI, 6, .inl (v6 st))), (b3, .inl (cZ, 6, .inl (vw nr S))), (b4, .inl (cI, 6, .inl (vr 3 S))), (b5, .inl (cI, 6, .inl (vr 4 S)))]) X hN (m_X5_number l D cI cZ cJ gr v f k ak g a b b0 b1 b2 b3 b4 b5 nr S st z0 z1 z2 z3 z4 nw T f0 f1 nf fe fo ih hg hs hh1) 25 [0, 1, 2, 3, 4, 5, 6, 7, 8, 9, 10, 11, 12, 13, 14, 15, 16, 17, 18, 19] gX5_count_X5_number (n := 1) rfl (by decide +kernel) rfl ⟨Nat.le_of_ble_eq_true rfl, Nat.le_of_ble_eq_true rfl⟩ (ci := 5) (q0 := 0) rfl rfl rfl (Nat.le_of_ble_eq_true rfl) rfl (by decide +kernel) rfl (putB_id rfl) dX5_count_22 rfl ⟨Nat.le_of_ble_eq_true rfl, Nat.le_of_ble_eq_true rfl⟩ ?_
      refine g_w (kc' := rm_X5_count.cells) (ks' := rm_X5_count.slots) (by first | decide | omega) (by first | decide | omega) ?_
      exact ret _ _ _ _ dX5_count_25 rfl ⟨hE, rfl, rfl⟩
    · exact thr _ _ _ _ xI "no such number" 40 154 44 thI_f (List.mem_of_getElem? (i := 1) rfl) (List.mem_of_getElem? (i := 2) rfl) (by decide +kernel) thI_e (fun _ h => List.mem_cons_of_mem _ (List.mem_append_right _ h)) thI_n thI_g dX5_count_10 dX5_count_13 dX5_count_14 dX5_count_16 dX5_count_19 rfl (by decide) (by decide) (by decide) (by decide) (⟨rfl, if_pos (fun z => h7 z.2)⟩)

abbrev rm_X5_isFeast : Room := { frames := 6, cells := 1, slots := 6, locals := 100 }
set_option maxHeartbeats 4000000 in
set_option maxRecDepth 100000 in
/-- isFeast -/
theorem m_X5_isFeast (l : Launch) (hfl : l.stackTraces = false) (D : va_G) (cI cZ cJ : ClassId) (gr v f k ak : Nat) (f0 f1 nf : Nat) (fe fo : Nat → Nat) (g b : Nat) (S : Nat → Nat) (d : Int32) (hf : feOk fe nf) (ho : ∀ j : Nat, j < nf → fo j < 2 ^ 30) (hd : S 0 < 2 ^ 28) : MX l yX5_isFeast wsX5_isFeast rm_X5_isFeast D (gT cI cZ cJ) [(gr, .inr (5, [.ref v, .ref f, .ref k, .ref ak])), (f, .inr (1, [.int (nI nf), .ref f0, .ref f1])), (f0, .inl (cI, 4, .inl (v4 fe))), (f1, .inl (cI, 4, .inl (v4 fo))), (k, .inr (0, [.ref g, .ref b, .int (nI (S 1)), .int (nI (S 0)), .int (nI (S 2)), .int (nI (S 3))]))] [.ref gr, .int d] (fun r9 u9 => isfE d = 0 ∧ r9 = nI (bn (feastOn fe fo nf (S 0 + tn d))) ∧ u9 = [(gr, .inr (5, [.ref v, .ref f, .ref k, .ref ak])), (f, .inr (1, [.int (nI nf), .ref f0, .ref f1])), (f0, .inl (cI, 4, .inl (v4 fe))), (f1, .inl (cI, 4, .inl (v4 fo))), (k, .inr (0, [.ref g, .ref b, .int (nI (S 1)), .int (nI (S 0)), .int (nI (S 2)), .int (nI (S 3))]))]) (fun E => (E = xA ∧ isfE d = 1)) := by
  refine MX_of hfl [(0, .ref gr), (1, .int d)] (by decide) rfl (Nat.le_of_ble_eq_true rfl) rfl ?_
  intro p e s m args below meth c A Q X hN ret thr
  have hiX0 : ∀ w ∈ wsX00, w ∈ wsX5_isFeast := (fun _ h => List.mem_cons_of_mem _ (List.mem_append_left _ (List.mem_append_left _ (List.mem_append_right _ h))))
  have hiX5 : ∀ w ∈ wsX50, w ∈ wsX5_isFeast := (fun _ h => List.mem_cons_of_mem _ (List.mem_append_left _ (List.mem_append_left _ (List.mem_append_left _ (List.mem_append_right _ h)))))
  refine g_iload_n X 1 1 dX5_isFeast_0 rfl rfl rfl ?_
  refine g_if_lt X 4 10 dX5_isFeast_1 rfl (by decide) (z_ltr _) (fun h1 => ?_) (fun h1 => ?_)
  · exact thr _ _ _ _ xA "days is out of its range" 33 128 37 thA_f (List.mem_of_getElem? (i := 1) rfl) (List.mem_of_getElem? (i := 2) rfl) (by decide +kernel) thA_e (fun _ h => List.mem_cons_of_mem _ (List.mem_append_right _ h)) thA_n thA_g dX5_isFeast_10 dX5_isFeast_13 dX5_isFeast_14 dX5_isFeast_16 dX5_isFeast_19 rfl (by decide) (by decide) (by decide) (by decide) (⟨rfl, if_pos (fun z => ln z.1 h1)⟩)
  · refine g_iload_n X 1 5 dX5_isFeast_4 rfl rfl rfl ?_
    refine g_bipush X (nI 60) 7 dX5_isFeast_5 rfl (by decide +kernel) ?_
    refine g_icmp_le X 10 20 dX5_isFeast_7 rfl (by decide) Iff.rfl (fun h7 => ?_) (fun h7 => ?_)
    · have hA : inR d (nI 0) (nI 60) := ⟨nl h1, h7⟩
      have hE : isfE d = 0 := if_neg (fun z => z hA)
      obtain ⟨id9, hd1, hd2, rfl⟩ := inR_nat hA (by decide) (by decide)
      rw [tn_nI (show id9 < 2 ^ 31 by omega)] at ret
      refine g_aload_n X 0 21 dX5_isFeast_20 rfl rfl rfl ?_
      refine g_get X hiX5 0 1 24 rfl rfl (by decide) (List.mem_of_getElem? (i := 3) rfl) rfl dX5_isFeast_21 rfl ?_
      refine g_aload_n X 0 25 dX5_isFeast_24 rfl rfl rfl ?_
      refine g_get X hiX5 0 2 28 rfl rfl (by decide) (List.mem_of_getElem? (i := 4) rfl) rfl dX5_isFeast_25 rfl ?_
      refine g_getN X hN hiX0 4 3 31 rfl rfl (by decide) (by decide +kernel) rfl dX5_isFeast_28 rfl ?_
      refine g_iload_n X 1 32 dX5_isFeast_31 rfl rfl rfl ?_
      refine g_iadd X (nI ((S 0) + id9)) 33 dX5_isFeast_32 rfl (nI_add _ _) ?_
      refine g_callVi (ws' := [(gr, .inr (5, [.ref v, .ref f, .ref k, .ref ak])), (f, .inr (1, [.int (nI nf), .ref f0, .ref f1])), (f0, .inl (cI, 4, .inl (v4 fe))), (f1, .inl (cI, 4, .inl (v4 fo))), (k, .inr (0, [.ref g, .ref b, .int (nI (S 1)), .int (nI (S 0)), .int (nI (S 2)), .int (nI (S 3))]))]) X (m_X1_areOn l D cI cZ cJ f f0 f1 nf fe fo (S 0 + id9) hf (by omega) ho) 36 [1, 2, 3] gX5_isFeast_X1_areOn (n := 1) rfl (by decide +kernel) rfl ⟨Nat.le_of_ble_eq_true rfl, Nat.le_of_ble_eq_true rfl⟩ (ci := 1) (q0 := 0) rfl rfl rfl (Nat.le_of_ble_eq_true rfl) rfl (by decide +kernel) rfl rfl dX5_isFeast_33 rfl ⟨Nat.le_of_ble_eq_true rfl, Nat.le_of_ble_eq_true rfl⟩ ?_
      refine g_w (kc' := rm_X5_isFeast.cells) (ks' := rm_X5_isFeast.slots) (by first | decide | omega) (by first | decide | omega) ?_
      exact ret _ _ _ _ dX5_isFeast_36 (bn_nar _) ⟨hE, rfl, rfl⟩
    · exact thr _ _ _ _ xA "days is out of its range" 33 128 37 thA_f (List.mem_of_getElem? (i := 1) rfl) (List.mem_of_getElem? (i := 2) rfl) (by decide +kernel) thA_e (fun _ h => List.mem_cons_of_mem _ (List.mem_append_right _ h)) thA_n thA_g dX5_isFeast_10 dX5_isFeast_13 dX5_isFeast_14 dX5_isFeast_16 dX5_isFeast_19 rfl (by decide) (by decide) (by decide) (by decide) (⟨rfl, if_pos (fun z => h7 z.2)⟩)

abbrev rm_X5_next : Room := { frames := 2, cells := 0, slots := 0, locals := 45 }
set_option maxHeartbeats 4000000 in
set_option maxRecDepth 100000 in
/-- next -/
theorem m_X5_next (l : Launch) (D : va_G) (cI cZ cJ : ClassId) (gr v f k ak : Nat) (f0 f1 nf : Nat) (fe fo : Nat → Nat) (g b : Nat) (S : Nat → Nat) (hf : feOk fe nf) (ho : ∀ j : Nat, j < nf → fo j < 2 ^ 30) (hd : S 0 < 2 ^ 28) : MIN l yX5_next wsX5_next rm_X5_next D (gT cI cZ cJ) [(gr, .inr (5, [.ref v, .ref f, .ref k, .ref ak])), (f, .inr (1, [.int (nI nf), .ref f0, .ref f1])), (f0, .inl (cI, 4, .inl (v4 fe))), (f1, .inl (cI, 4, .inl (v4 fo))), (k, .inr (0, [.ref g, .ref b, .int (nI (S 1)), .int (nI (S 0)), .int (nI (S 2)), .int (nI (S 3))]))] [.ref gr] (fun r9 u9 => r9 = nxF fe fo nf (S 0) ∧ u9 = [(gr, .inr (5, [.ref v, .ref f, .ref k, .ref ak])), (f, .inr (1, [.int (nI nf), .ref f0, .ref f1])), (f0, .inl (cI, 4, .inl (v4 fe))), (f1, .inl (cI, 4, .inl (v4 fo))), (k, .inr (0, [.ref g, .ref b, .int (nI (S 1)), .int (nI (S 0)), .int (nI (S 2)), .int (nI (S 3))]))]) := by
  refine MIN_of [(0, .ref gr)] (by decide) rfl (Nat.le_of_ble_eq_true rfl) rfl ?_
  intro p e s m args below meth c A Q X hN ret
  have hiX0 : ∀ w ∈ wsX00, w ∈ wsX5_next := (fun _ h => List.mem_cons_of_mem _ (List.mem_append_left _ (List.mem_append_right _ h)))
  have hiX5 : ∀ w ∈ wsX50, w ∈ wsX5_next := (fun _ h => List.mem_cons_of_mem _ (List.mem_append_left _ (List.mem_append_left _ (List.mem_append_right _ h))))
  refine g_aload_n X 0 1 dX5_next_0 rfl rfl rfl ?_
  refine g_get X hiX5 0 1 4 rfl rfl (by decide) (List.mem_of_getElem? (i := 1) rfl) rfl dX5_next_1 rfl ?_
  refine g_aload_n X 0 5 dX5_next_4 rfl rfl rfl ?_
  refine g_get X hiX5 0 2 8 rfl rfl (by decide) (List.mem_of_getElem? (i := 2) rfl) rfl dX5_next_5 rfl ?_
  refine g_getN X hN hiX0 4 3 11 rfl rfl (by decide) (by decide +kernel) rfl dX5_next_8 rfl ?_
  refine g_callVi (ws' := [(gr, .inr (5, [.ref v, .ref f, .ref k, .ref ak])), (f, .inr (1, [.int (nI nf), .ref f0, .ref f1])), (f0, .inl (cI, 4, .inl (v4 fe))), (f1, .inl (cI, 4, .inl (v4 fo))), (k, .inr (0, [.ref g, .ref b, .int (nI (S 1)), .int (nI (S 0)), .int (nI (S 2)), .int (nI (S 3))]))]) X (m_X1_daysUntil l D cI cZ cJ f f0 f1 nf fe fo (S 0) hf (by omega) ho) 14 [1, 2, 3] gX5_next_X1_daysUntil (n := 1) rfl (by decide +kernel) rfl ⟨Nat.le_of_ble_eq_true rfl, Nat.le_of_ble_eq_true rfl⟩ (ci := 1) (q0 := 0) rfl rfl rfl (Nat.le_of_ble_eq_true rfl) rfl (by decide +kernel) rfl rfl dX5_next_11 rfl ⟨Nat.le_of_ble_eq_true rfl, Nat.le_of_ble_eq_true rfl⟩ ?_
  exact ret _ _ _ _ dX5_next_14 rfl ⟨rfl, rfl⟩
