/-! THE CLASS -/

abbrev rm_X5_isColumn : Room := { frames := 0, cells := 0, slots := 0, locals := 0 }
set_option maxHeartbeats 4000000 in
set_option maxRecDepth 100000 in
/-- is it a column -/
theorem m_X5_isColumn (l : Launch) (D : va_G) (cI cZ cJ : ClassId) (x : Int32)  : MI l yX5_isColumn wsX5_isColumn rm_X5_isColumn D (gT cI cZ cJ) [] [.int x] (fun r u => r = nI (bn (decide (isR 12 x))) ∧ u = []) := by
  refine MI_of [(0, .int x)] (by decide) rfl (Nat.le_of_ble_eq_true rfl) rfl ?_
  intro p e s m args below meth c A Q X ret
  refine g_iload_n X 0 1 dX5_isColumn_0 rfl rfl rfl ?_
  refine g_if_lt X 4 14 dX5_isColumn_1 rfl (by decide) (z_ltr _) (fun h0 => ?_) (fun h0 => ?_)
  · refine g_iconst X (nI 0) 15 dX5_isColumn_14 rfl (by decide +kernel) ?_
    refine g_eqi (y := nI (bn (decide (isR 12 x)))) (by rw [decide_eq_false (fun z => ln z.1 h0)]; rfl) ?_
    exact ret _ _ _ _ dX5_isColumn_15 (bn_nar _) ⟨rfl, rfl⟩
  · refine g_iload_n X 0 5 dX5_isColumn_4 rfl rfl rfl ?_
    refine g_bipush X (nI 12) 7 dX5_isColumn_5 rfl (by decide +kernel) ?_
    refine g_icmp_ge X 10 14 dX5_isColumn_7 rfl (by decide) Iff.rfl (fun h1 => ?_) (fun h1 => ?_)
    · refine g_iconst X (nI 0) 15 dX5_isColumn_14 rfl (by decide +kernel) ?_
      refine g_eqi (y := nI (bn (decide (isR 12 x)))) (by rw [decide_eq_false (fun z => ltn z.2 h1)]; rfl) ?_
      exact ret _ _ _ _ dX5_isColumn_15 (bn_nar _) ⟨rfl, rfl⟩
    · refine g_iconst X (nI 1) 11 dX5_isColumn_10 rfl (by decide +kernel) ?_
      refine g_goto X 15 dX5_isColumn_11 (by decide) ?_
      refine g_eqi (y := nI (bn (decide (isR 12 x)))) (by rw [decide_eq_true ⟨nl h0, nle h1⟩]; rfl) ?_
      exact ret _ _ _ _ dX5_isColumn_15 (bn_nar _) ⟨rfl, rfl⟩

abbrev rm_X5_isWindow : Room := { frames := 0, cells := 0, slots := 0, locals := 0 }
set_option maxHeartbeats 4000000 in
set_option maxRecDepth 100000 in
theorem m_X5_isWindow (l : Launch) (D : va_G) (cI cZ cJ : ClassId) (gr v f k ak : Nat) (z0 z1 z2 z3 z4 nw : Nat) (T : Nat → Nat) (x : Int32)  : MIN l yX5_isWindow wsX5_isWindow rm_X5_isWindow D (gT cI cZ cJ) [(gr, .inr (5, [.ref v, .ref f, .ref k, .ref ak])), (v, .inr (4, [.int (nI nw), .ref z0, .ref z1, .ref z2, .ref z3, .ref z4])), (z0, .inl (cI, 6, .inl (vt 0 T))), (z1, .inl (cI, 6, .inl (vt 1 T))), (z2, .inl (cI, 6, .inl (vt 2 T))), (z3, .inl (cI, 6, .inl (vt 3 T))), (z4, .inl (cI, 6, .inl (vt 4 T)))] [.ref gr, .int x] (fun r9 u9 => r9 = nI (bn (decide (isR nw x))) ∧ u9 = [(gr, .inr (5, [.ref v, .ref f, .ref k, .ref ak])), (v, .inr (4, [.int (nI nw), .ref z0, .ref z1, .ref z2, .ref z3, .ref z4])), (z0, .inl (cI, 6, .inl (vt 0 T))), (z1, .inl (cI, 6, .inl (vt 1 T))), (z2, .inl (cI, 6, .inl (vt 2 T))), (z3, .inl (cI, 6, .inl (vt 3 T))), (z4, .inl (cI, 6, .inl (vt 4 T)))]) := by
  refine MIN_of [(0, .ref gr), (1, .int x)] (by decide) rfl (Nat.le_of_ble_eq_true rfl) rfl ?_
  intro p e s m args below meth c A Q X hN ret
  have hiX4 : ∀ w ∈ wsX40, w ∈ wsX5_isWindow := (fun _ h => List.mem_cons_of_mem _ (List.mem_append_right _ h))
  have hiX5 : ∀ w ∈ wsX50, w ∈ wsX5_isWindow := (fun _ h => List.mem_cons_of_mem _ (List.mem_append_left _ (List.mem_append_right _ h)))
  refine g_iload_n X 1 1 dX5_isWindow_0 rfl rfl rfl ?_
  refine g_if_lt X 4 19 dX5_isWindow_1 rfl (by decide) (z_ltr _) (fun h0 => ?_) (fun h0 => ?_)
  · refine g_iconst X (nI 0) 20 dX5_isWindow_19 rfl (by decide +kernel) ?_
    refine g_eqi (y := nI (bn (decide (isR nw x)))) (by rw [decide_eq_false (fun z => ln z.1 h0)]; rfl) ?_
    exact ret _ _ _ _ dX5_isWindow_20 (bn_nar _) ⟨rfl, rfl⟩
  · refine g_iload_n X 1 5 dX5_isWindow_4 rfl rfl rfl ?_
    refine g_aload_n X 0 6 dX5_isWindow_5 rfl rfl rfl ?_
    refine g_get X hiX5 0 0 9 rfl rfl (by decide) (List.mem_of_getElem? (i := 1) rfl) rfl dX5_isWindow_6 rfl ?_
    refine g_getN X hN hiX4 1 0 12 rfl rfl (by decide) (by decide +kernel) rfl dX5_isWindow_9 rfl ?_
    refine g_icmp_ge X 15 19 dX5_isWindow_12 rfl (by decide) Iff.rfl (fun h1 => ?_) (fun h1 => ?_)
    · refine g_iconst X (nI 0) 20 dX5_isWindow_19 rfl (by decide +kernel) ?_
      refine g_eqi (y := nI (bn (decide (isR nw x)))) (by rw [decide_eq_false (fun z => ltn z.2 h1)]; rfl) ?_
      exact ret _ _ _ _ dX5_isWindow_20 (bn_nar _) ⟨rfl, rfl⟩
    · refine g_iconst X (nI 1) 16 dX5_isWindow_15 rfl (by decide +kernel) ?_
      refine g_goto X 20 dX5_isWindow_16 (by decide) ?_
      refine g_eqi (y := nI (bn (decide (isR nw x)))) (by rw [decide_eq_true ⟨nl h0, nle h1⟩]; rfl) ?_
      exact ret _ _ _ _ dX5_isWindow_20 (bn_nar _) ⟨rfl, rfl⟩

abbrev rm_X5_isRope : Room := { frames := 0, cells := 0, slots := 0, locals := 0 }
set_option maxHeartbeats 4000000 in
set_option maxRecDepth 100000 in
theorem m_X5_isRope (l : Launch) (D : va_G) (cI cZ cJ : ClassId) (gr v f k ak : Nat) (g b b0 b1 b2 b3 b4 b5 nr : Nat) (S st : Nat → Nat) (x : Int32)  : MIN l yX5_isRope wsX5_isRope rm_X5_isRope D (gT cI cZ cJ) [(gr, .inr (5, [.ref v, .ref f, .ref k, .ref ak])), (k, .inr (0, [.ref g, .ref b, .int (nI (S 1)), .int (nI (S 0)), .int (nI (S 2)), .int (nI (S 3))])), (b, .inr (3, [.int (nI nr), .ref b0, .ref b1, .ref b2, .ref b3, .ref b4, .ref b5])), (b0, .inl (cI, 6, .inl (vr 0 S))), (b1, .inl (cI, 6, .inl (vr 1 S))), (b2, .inl (cI, 6, .inl (v6 st))), (b3, .inl (cZ, 6, .inl (vw nr S))), (b4, .inl (cI, 6, .inl (vr 3 S))), (b5, .inl (cI, 6, .inl (vr 4 S)))] [.ref gr, .int x] (fun r9 u9 => r9 = nI (bn (decide (isR nr x))) ∧ u9 = [(gr, .inr (5, [.ref v, .ref f, .ref k, .ref ak])), (k, .inr (0, [.ref g, .ref b, .int (nI (S 1)), .int (nI (S 0)), .int (nI (S 2)), .int (nI (S 3))])), (b, .inr (3, [.int (nI nr), .ref b0, .ref b1, .ref b2, .ref b3, .ref b4, .ref b5])), (b0, .inl (cI, 6, .inl (vr 0 S))), (b1, .inl (cI, 6, .inl (vr 1 S))), (b2, .inl (cI, 6, .inl (v6 st))), (b3, .inl (cZ, 6, .inl (vw nr S))), (b4, .inl (cI, 6, .inl (vr 3 S))), (b5, .inl (cI, 6, .inl (vr 4 S)))]) := by
  refine MIN_of [(0, .ref gr), (1, .int x)] (by decide) rfl (Nat.le_of_ble_eq_true rfl) rfl ?_
  intro p e s m args below meth c A Q X hN ret
  have hiX0 : ∀ w ∈ wsX00, w ∈ wsX5_isRope := (fun _ h => List.mem_cons_of_mem _ (List.mem_append_left _ (List.mem_append_right _ h)))
  have hiX3 : ∀ w ∈ wsX30, w ∈ wsX5_isRope := (fun _ h => List.mem_cons_of_mem _ (List.mem_append_right _ h))
  have hiX5 : ∀ w ∈ wsX50, w ∈ wsX5_isRope := (fun _ h => List.mem_cons_of_mem _ (List.mem_append_left _ (List.mem_append_left _ (List.mem_append_right _ h))))
  refine g_iload_n X 1 1 dX5_isRope_0 rfl rfl rfl ?_
  refine g_if_lt X 4 22 dX5_isRope_1 rfl (by decide) (z_ltr _) (fun h0 => ?_) (fun h0 => ?_)
  · refine g_iconst X (nI 0) 23 dX5_isRope_22 rfl (by decide +kernel) ?_
    refine g_eqi (y := nI (bn (decide (isR nr x)))) (by rw [decide_eq_false (fun z => ln z.1 h0)]; rfl) ?_
    exact ret _ _ _ _ dX5_isRope_23 (bn_nar _) ⟨rfl, rfl⟩
  · refine g_iload_n X 1 5 dX5_isRope_4 rfl rfl rfl ?_
    refine g_aload_n X 0 6 dX5_isRope_5 rfl rfl rfl ?_
    refine g_get X hiX5 0 2 9 rfl rfl (by decide) (List.mem_of_getElem? (i := 1) rfl) rfl dX5_isRope_6 rfl ?_
    refine g_getN X hN hiX0 1 1 12 rfl rfl (by decide) (by decide +kernel) rfl dX5_isRope_9 rfl ?_
    refine g_getN X hN hiX3 2 0 15 rfl rfl (by decide) (by decide +kernel) rfl dX5_isRope_12 rfl ?_
    refine g_icmp_ge X 18 22 dX5_isRope_15 rfl (by decide) Iff.rfl (fun h1 => ?_) (fun h1 => ?_)
    · refine g_iconst X (nI 0) 23 dX5_isRope_22 rfl (by decide +kernel) ?_
      refine g_eqi (y := nI (bn (decide (isR nr x)))) (by rw [decide_eq_false (fun z => ltn z.2 h1)]; rfl) ?_
      exact ret _ _ _ _ dX5_isRope_23 (bn_nar _) ⟨rfl, rfl⟩
    · refine g_iconst X (nI 1) 19 dX5_isRope_18 rfl (by decide +kernel) ?_
      refine g_goto X 23 dX5_isRope_19 (by decide) ?_
      refine g_eqi (y := nI (bn (decide (isR nr x)))) (by rw [decide_eq_true ⟨nl h0, nle h1⟩]; rfl) ?_
      exact ret _ _ _ _ dX5_isRope_23 (bn_nar _) ⟨rfl, rfl⟩

abbrev rm_X5_window : Room := { frames := 6, cells := 1, slots := 6, locals := 100 }
set_option maxHeartbeats 4000000 in
set_option maxRecDepth 100000 in
/-- window -/
theorem m_X5_window (l : Launch) (hfl : l.stackTraces = false) (D : va_G) (cI cZ cJ : ClassId) (gr v f k ak : Nat) (z0 z1 z2 z3 z4 nw : Nat) (T : Nat → Nat) (x y w h o : Int32) (hn : nw ≤ 6) : MX l yX5_window wsX5_window rm_X5_window D (gT cI cZ cJ) [(gr, .inr (5, [.ref v, .ref f, .ref k, .ref ak])), (v, .inr (4, [.int (nI nw), .ref z0, .ref z1, .ref z2, .ref z3, .ref z4])), (z0, .inl (cI, 6, .inl (vt 0 T))), (z1, .inl (cI, 6, .inl (vt 1 T))), (z2, .inl (cI, 6, .inl (vt 2 T))), (z3, .inl (cI, 6, .inl (vt 3 T))), (z4, .inl (cI, 6, .inl (vt 4 T)))] [.ref gr, .int x, .int y, .int w, .int h, .int o] (fun r9 u9 => winE nw x y w h o = 0 ∧ r9 = nI nw ∧ u9 = [(gr, .inr (5, [.ref v, .ref f, .ref k, .ref ak])), (v, .inr (4, [.int (nI (nw + 1)), .ref z0, .ref z1, .ref z2, .ref z3, .ref z4])), (z0, .inl (cI, 6, .inl (vt 0 (ptT T nw (tn x) (tn y) (tn w) (tn h) (tn o))))), (z1, .inl (cI, 6, .inl (vt 1 (ptT T nw (tn x) (tn y) (tn w) (tn h) (tn o))))), (z2, .inl (cI, 6, .inl (vt 2 (ptT T nw (tn x) (tn y) (tn w) (tn h) (tn o))))), (z3, .inl (cI, 6, .inl (vt 3 (ptT T nw (tn x) (tn y) (tn w) (tn h) (tn o))))), (z4, .inl (cI, 6, .inl (vt 4 (ptT T nw (tn x) (tn y) (tn w) (tn h) (tn o)))))]) (fun E => (E = xA ∧ winE nw x y w h o = 1) ∨ (E = xI ∧ winE nw x y w h o = 2) ∨ (E = xS ∧ winE nw x y w h o = 3)) := by
  refine MX_of hfl [(0, .ref gr), (1, .int x), (2, .int y), (3, .int w), (4, .int h), (5, .int o)] (by decide) rfl (Nat.le_of_ble_eq_true rfl) rfl ?_
  intro p e s m args below meth c A Q X hN ret thr
  have hiX4 : ∀ w ∈ wsX40, w ∈ wsX5_window := (fun _ h => List.mem_cons_of_mem _ (List.mem_append_left _ (List.mem_append_left _ (List.mem_append_left _ (List.mem_append_right _ h)))))
  have hiX5 : ∀ w ∈ wsX50, w ∈ wsX5_window := (fun _ h => List.mem_cons_of_mem _ (List.mem_append_left _ (List.mem_append_left _ (List.mem_append_left _ (List.mem_append_left _ (List.mem_append_right _ h))))))
  refine g_iload_n X 3 1 dX5_window_0 rfl rfl rfl ?_
  refine g_iconst X (nI 1) 2 dX5_window_1 rfl (by decide +kernel) ?_
  refine g_icmp_lt X 5 37 dX5_window_2 rfl (by decide) Iff.rfl (fun h2 => ?_) (fun h2 => ?_)
  · exact thr _ _ _ _ xA "w, h or worth is out of its range" 33 35 37 thA_f (List.mem_of_getElem? (i := 1) rfl) (List.mem_of_getElem? (i := 2) rfl) (by decide +kernel) thA_e (fun _ h => List.mem_cons_of_mem _ (List.mem_append_left _ (List.mem_append_left _ (List.mem_append_right _ h)))) thA_n thA_g dX5_window_37 dX5_window_40 dX5_window_41 dX5_window_43 dX5_window_46 rfl (by decide) (by decide) (by decide) (by decide) (Or.inl ⟨rfl, if_pos (fun z => ln z.1.1 h2)⟩)
  · refine g_iload_n X 3 6 dX5_window_5 rfl rfl rfl ?_
    refine g_bipush X (nI 12) 8 dX5_window_6 rfl (by decide +kernel) ?_
    refine g_icmp_gt X 11 37 dX5_window_8 rfl (by decide) Iff.rfl (fun h8 => ?_) (fun h8 => ?_)
    · exact thr _ _ _ _ xA "w, h or worth is out of its range" 33 35 37 thA_f (List.mem_of_getElem? (i := 1) rfl) (List.mem_of_getElem? (i := 2) rfl) (by decide +kernel) thA_e (fun _ h => List.mem_cons_of_mem _ (List.mem_append_left _ (List.mem_append_left _ (List.mem_append_right _ h)))) thA_n thA_g dX5_window_37 dX5_window_40 dX5_window_41 dX5_window_43 dX5_window_46 rfl (by decide) (by decide) (by decide) (by decide) (Or.inl ⟨rfl, if_pos (fun z => ln z.1.2 h8)⟩)
    · refine g_iload X 4 13 dX5_window_11 rfl rfl ?_
      refine g_iconst X (nI 1) 14 dX5_window_13 rfl (by decide +kernel) ?_
      refine g_icmp_lt X 17 37 dX5_window_14 rfl (by decide) Iff.rfl (fun h14 => ?_) (fun h14 => ?_)
      · exact thr _ _ _ _ xA "w, h or worth is out of its range" 33 35 37 thA_f (List.mem_of_getElem? (i := 1) rfl) (List.mem_of_getElem? (i := 2) rfl) (by decide +kernel) thA_e (fun _ h => List.mem_cons_of_mem _ (List.mem_append_left _ (List.mem_append_left _ (List.mem_append_right _ h)))) thA_n thA_g dX5_window_37 dX5_window_40 dX5_window_41 dX5_window_43 dX5_window_46 rfl (by decide) (by decide) (by decide) (by decide) (Or.inl ⟨rfl, if_pos (fun z => ln z.2.1.1 h14)⟩)
      · refine g_iload X 4 19 dX5_window_17 rfl rfl ?_
        refine g_bipush X (nI 8) 21 dX5_window_19 rfl (by decide +kernel) ?_
        refine g_icmp_gt X 24 37 dX5_window_21 rfl (by decide) Iff.rfl (fun h21 => ?_) (fun h21 => ?_)
        · exact thr _ _ _ _ xA "w, h or worth is out of its range" 33 35 37 thA_f (List.mem_of_getElem? (i := 1) rfl) (List.mem_of_getElem? (i := 2) rfl) (by decide +kernel) thA_e (fun _ h => List.mem_cons_of_mem _ (List.mem_append_left _ (List.mem_append_left _ (List.mem_append_right _ h)))) thA_n thA_g dX5_window_37 dX5_window_40 dX5_window_41 dX5_window_43 dX5_window_46 rfl (by decide) (by decide) (by decide) (by decide) (Or.inl ⟨rfl, if_pos (fun z => ln z.2.1.2 h21)⟩)
        · refine g_iload X 5 26 dX5_window_24 rfl rfl ?_
          refine g_iconst X (nI 1) 27 dX5_window_26 rfl (by decide +kernel) ?_
          refine g_icmp_lt X 30 37 dX5_window_27 rfl (by decide) Iff.rfl (fun h27 => ?_) (fun h27 => ?_)
          · exact thr _ _ _ _ xA "w, h or worth is out of its range" 33 35 37 thA_f (List.mem_of_getElem? (i := 1) rfl) (List.mem_of_getElem? (i := 2) rfl) (by decide +kernel) thA_e (fun _ h => List.mem_cons_of_mem _ (List.mem_append_left _ (List.mem_append_left _ (List.mem_append_right _ h)))) thA_n thA_g dX5_window_37 dX5_window_40 dX5_window_41 dX5_window_43 dX5_window_46 rfl (by decide) (by decide) (by decide) (by decide) (Or.inl ⟨rfl, if_pos (fun z => ln z.2.2.1 h27)⟩)
          · refine g_iload X 5 32 dX5_window_30 rfl rfl ?_
            refine g_bipush X (nI 9) 34 dX5_window_32 rfl (by decide +kernel) ?_
            refine g_icmp_le X 37 47 dX5_window_34 rfl (by decide) Iff.rfl (fun h34 => ?_) (fun h34 => ?_)
            · have hA : inR w (nI 1) (nI 12) ∧ inR h (nI 1) (nI 8) ∧ inR o (nI 1) (nI 9) := ⟨⟨nl h2, nl h8⟩, ⟨nl h14, nl h21⟩, ⟨nl h27, h34⟩⟩
              refine g_iload_n X 1 48 dX5_window_47 rfl rfl rfl ?_
              refine g_if_lt X 51 72 dX5_window_48 rfl (by decide) (z_ltr _) (fun h48 => ?_) (fun h48 => ?_)
              · exact thr _ _ _ _ xI "some pane of the window is not there" 40 42 44 thI_f (List.mem_of_getElem? (i := 3) rfl) (List.mem_of_getElem? (i := 4) rfl) (by decide +kernel) thI_e (fun _ h => List.mem_cons_of_mem _ (List.mem_append_left _ (List.mem_append_right _ h))) thI_n thI_g dX5_window_72 dX5_window_75 dX5_window_76 dX5_window_78 dX5_window_81 rfl (by decide) (by decide) (by decide) (by decide) (Or.inr (Or.inl ⟨rfl, (if_neg (fun z => z hA)).trans (if_pos (fun z => ln z.1.1 h48))⟩))
              · refine g_iload_n X 1 52 dX5_window_51 rfl rfl rfl ?_
                refine g_bipush X (nI 12) 54 dX5_window_52 rfl (by decide +kernel) ?_
                refine g_iload_n X 3 55 dX5_window_54 rfl rfl rfl ?_
                refine g_isub X ((nI 12) - w) 56 dX5_window_55 rfl rfl ?_
                refine g_icmp_gt X 59 72 dX5_window_56 rfl (by decide) Iff.rfl (fun h56 => ?_) (fun h56 => ?_)
                · exact thr _ _ _ _ xI "some pane of the window is not there" 40 42 44 thI_f (List.mem_of_getElem? (i := 3) rfl) (List.mem_of_getElem? (i := 4) rfl) (by decide +kernel) thI_e (fun _ h => List.mem_cons_of_mem _ (List.mem_append_left _ (List.mem_append_right _ h))) thI_n thI_g dX5_window_72 dX5_window_75 dX5_window_76 dX5_window_78 dX5_window_81 rfl (by decide) (by decide) (by decide) (by decide) (Or.inr (Or.inl ⟨rfl, (if_neg (fun z => z hA)).trans (if_pos (fun z => ln z.1.2 h56))⟩))
                · refine g_iload_n X 2 60 dX5_window_59 rfl rfl rfl ?_
                  refine g_if_lt X 63 72 dX5_window_60 rfl (by decide) (z_ltr _) (fun h60 => ?_) (fun h60 => ?_)
                  · exact thr _ _ _ _ xI "some pane of the window is not there" 40 42 44 thI_f (List.mem_of_getElem? (i := 3) rfl) (List.mem_of_getElem? (i := 4) rfl) (by decide +kernel) thI_e (fun _ h => List.mem_cons_of_mem _ (List.mem_append_left _ (List.mem_append_right _ h))) thI_n thI_g dX5_window_72 dX5_window_75 dX5_window_76 dX5_window_78 dX5_window_81 rfl (by decide) (by decide) (by decide) (by decide) (Or.inr (Or.inl ⟨rfl, (if_neg (fun z => z hA)).trans (if_pos (fun z => ln z.2.1 h60))⟩))
                  · refine g_iload_n X 2 64 dX5_window_63 rfl rfl rfl ?_
                    refine g_bipush X (nI 8) 66 dX5_window_64 rfl (by decide +kernel) ?_
                    refine g_iload X 4 68 dX5_window_66 rfl rfl ?_
                    refine g_isub X ((nI 8) - h) 69 dX5_window_68 rfl rfl ?_
                    refine g_icmp_le X 72 82 dX5_window_69 rfl (by decide) Iff.rfl (fun h69 => ?_) (fun h69 => ?_)
                    · have hB : inR x (nI 0) (nI 12 - w) ∧ inR y (nI 0) (nI 8 - h) := ⟨⟨nl h48, nl h56⟩, ⟨nl h60, h69⟩⟩
                      refine g_aload_n X 0 83 dX5_window_82 rfl rfl rfl ?_
                      refine g_get X hiX5 0 0 86 rfl rfl (by decide) (List.mem_of_getElem? (i := 7) rfl) rfl dX5_window_83 rfl ?_
                      refine g_getN X hN hiX4 1 0 89 rfl rfl (by decide) (by decide +kernel) rfl dX5_window_86 rfl ?_
                      refine g_bipush X (nI 6) 91 dX5_window_89 rfl (by decide +kernel) ?_
                      refine g_icmp_lt X 94 104 dX5_window_91 rfl (by decide) (nI_ltI (by omega) (by omega)) (fun h91 => ?_) (fun h91 => ?_)
                      · have hE : winE nw x y w h o = 0 := (if_neg (fun z => z hA)).trans ((if_neg (fun z => z hB)).trans (if_neg (by omega)))
                        obtain ⟨iw, hw1, hw2, rfl⟩ := inR_nat hA.1 (by decide) (by decide)
                        obtain ⟨ih, hh1, hh2, rfl⟩ := inR_nat hA.2.1 (by decide) (by decide)
                        obtain ⟨io, ho1, ho2, rfl⟩ := inR_nat hA.2.2 (by decide) (by decide)
                        rw [pk_sub (show iw ≤ 12 by omega), pk_sub (show ih ≤ 8 by omega)] at hB
                        obtain ⟨ix, hx1, hx2, rfl⟩ := inR_nat hB.1 (by omega) (by decide)
                        obtain ⟨iy, hy1, hy2, rfl⟩ := inR_nat hB.2 (by omega) (by decide)
                        rw [tn_nI (show iw < 2 ^ 31 by omega), tn_nI (show ih < 2 ^ 31 by omega), tn_nI (show io < 2 ^ 31 by omega), tn_nI (show ix < 2 ^ 31 by omega), tn_nI (show iy < 2 ^ 31 by omega)] at ret
                        refine g_aload_n X 0 105 dX5_window_104 rfl rfl rfl ?_
                        refine g_get X hiX5 0 0 108 rfl rfl (by decide) (List.mem_of_getElem? (i := 7) rfl) rfl dX5_window_105 rfl ?_
                        refine g_iload_n X 1 109 dX5_window_108 rfl rfl rfl ?_
                        refine g_iload_n X 2 110 dX5_window_109 rfl rfl rfl ?_
                        refine g_iload_n X 3 111 dX5_window_110 rfl rfl rfl ?_
                        refine g_iload X 4 113 dX5_window_111 rfl rfl ?_
                        refine g_iload X 5 115 dX5_window_113 rfl rfl ?_
                        refine g_callVi (ws' := [(gr, .inr (5, [.ref v, .ref f, .ref k, .ref ak])), (v, .inr (4, [.int (nI (nw + 1)), .ref z0, .ref z1, .ref z2, .ref z3, .ref z4])), (z0, .inl (cI, 6, .inl (vt 0 (ptT T nw ix iy iw ih io)))), (z1, .inl (cI, 6, .inl (vt 1 (ptT T nw ix iy iw ih io)))), (z2, .inl (cI, 6, .inl (vt 2 (ptT T nw ix iy iw ih io)))), (z3, .inl (cI, 6, .inl (vt 3 (ptT T nw ix iy iw ih io)))), (z4, .inl (cI, 6, .inl (vt 4 (ptT T nw ix iy iw ih io))))]) X (m_X4_put l D cI cZ cJ v z0 z1 z2 z3 z4 nw T ix iy iw ih io (by omega)) 118 [1, 2, 3, 4, 5, 6] gX5_window_X4_put (n := 5) rfl (by decide +kernel) rfl ⟨Nat.le_of_ble_eq_true rfl, Nat.le_of_ble_eq_true rfl⟩ (ci := 4) (q0 := 0) rfl rfl rfl (Nat.le_of_ble_eq_true rfl) rfl (by decide +kernel) rfl ((putB_mg [none, some (v, .inr (4, [.int (nI (nw + 1)), .ref z0, .ref z1, .ref z2, .ref z3, .ref z4])), some (z0, .inl (cI, 6, .inl (vt 0 (ptT T nw ix iy iw ih io)))), some (z1, .inl (cI, 6, .inl (vt 1 (ptT T nw ix iy iw ih io)))), some (z2, .inl (cI, 6, .inl (vt 2 (ptT T nw ix iy iw ih io)))), some (z3, .inl (cI, 6, .inl (vt 3 (ptT T nw ix iy iw ih io)))), some (z4, .inl (cI, 6, .inl (vt 4 (ptT T nw ix iy iw ih io))))] [false, true, true, true, true, true, true] rfl (by decide +kernel) rfl rfl rfl (by decide +kernel)).trans rfl) dX5_window_115 rfl ⟨Nat.le_of_ble_eq_true rfl, Nat.le_of_ble_eq_true rfl⟩ ?_
                        refine g_w (kc' := rm_X5_window.cells) (ks' := rm_X5_window.slots) (by first | decide | omega) (by first | decide | omega) ?_
                        exact ret _ _ _ _ dX5_window_118 rfl ⟨hE, rfl, rfl⟩
                      · exact thr _ _ _ _ xS "there are as many windows as can be" 49 51 53 thS_f (List.mem_of_getElem? (i := 5) rfl) (List.mem_of_getElem? (i := 6) rfl) (by decide +kernel) thS_e (fun _ h => List.mem_cons_of_mem _ (List.mem_append_right _ h)) thS_n thS_g dX5_window_94 dX5_window_97 dX5_window_98 dX5_window_100 dX5_window_103 rfl (by decide) (by decide) (by decide) (by decide) (Or.inr (Or.inr ⟨rfl, (if_neg (fun z => z hA)).trans ((if_neg (fun z => z hB)).trans (if_pos (by omega)))⟩))
                    · exact thr _ _ _ _ xI "some pane of the window is not there" 40 42 44 thI_f (List.mem_of_getElem? (i := 3) rfl) (List.mem_of_getElem? (i := 4) rfl) (by decide +kernel) thI_e (fun _ h => List.mem_cons_of_mem _ (List.mem_append_left _ (List.mem_append_right _ h))) thI_n thI_g dX5_window_72 dX5_window_75 dX5_window_76 dX5_window_78 dX5_window_81 rfl (by decide) (by decide) (by decide) (by decide) (Or.inr (Or.inl ⟨rfl, (if_neg (fun z => z hA)).trans (if_pos (fun z => h69 z.2.2))⟩))
            · exact thr _ _ _ _ xA "w, h or worth is out of its range" 33 35 37 thA_f (List.mem_of_getElem? (i := 1) rfl) (List.mem_of_getElem? (i := 2) rfl) (by decide +kernel) thA_e (fun _ h => List.mem_cons_of_mem _ (List.mem_append_left _ (List.mem_append_left _ (List.mem_append_right _ h)))) thA_n thA_g dX5_window_37 dX5_window_40 dX5_window_41 dX5_window_43 dX5_window_46 rfl (by decide) (by decide) (by decide) (by decide) (Or.inl ⟨rfl, if_pos (fun z => h34 z.2.2.2)⟩)

abbrev rm_X5_rope : Room := { frames := 6, cells := 1, slots := 6, locals := 100 }
set_option maxHeartbeats 4000000 in
set_option maxRecDepth 100000 in
/-- rope -/
theorem m_X5_rope (l : Launch) (hfl : l.stackTraces = false) (D : va_G) (cI cZ cJ : ClassId) (gr v f k ak : Nat) (g b b0 b1 b2 b3 b4 b5 nr : Nat) (S st : Nat → Nat) (x t : Int32) (wy : Nat) (hg : Gw S nr) (hw : wy ≤ 1) : MX l yX5_rope wsX5_rope rm_X5_rope D (gT cI cZ cJ) [(gr, .inr (5, [.ref v, .ref f, .ref k, .ref ak])), (k, .inr (0, [.ref g, .ref b, .int (nI (S 1)), .int (nI (S 0)), .int (nI (S 2)), .int (nI (S 3))])), (b, .inr (3, [.int (nI nr), .ref b0, .ref b1, .ref b2, .ref b3, .ref b4, .ref b5])), (b0, .inl (cI, 6, .inl (vr 0 S))), (b1, .inl (cI, 6, .inl (vr 1 S))), (b2, .inl (cI, 6, .inl (v6 st))), (b3, .inl (cZ, 6, .inl (vw nr S))), (b4, .inl (cI, 6, .inl (vr 3 S))), (b5, .inl (cI, 6, .inl (vr 4 S)))] [.ref gr, .int x, .int t, .int (nI (1 - wy))] (fun r9 u9 => ropE S nr x t = 0 ∧ r9 = nI nr ∧ u9 = [(gr, .inr (5, [.ref v, .ref f, .ref k, .ref ak])), (k, .inr (0, [.ref g, .ref b, .int (nI ((ptR S nr (tn x) wy) 1)), .int (nI ((ptR S nr (tn x) wy) 0)), .int (nI ((ptR S nr (tn x) wy) 2)), .int (nI ((ptR S nr (tn x) wy) 3))])), (b, .inr (3, [.int (nI (nr + 1)), .ref b0, .ref b1, .ref b2, .ref b3, .ref b4, .ref b5])), (b0, .inl (cI, 6, .inl (vr 0 (ptR S nr (tn x) wy)))), (b1, .inl (cI, 6, .inl (vr 1 (ptR S nr (tn x) wy)))), (b2, .inl (cI, 6, .inl (v6 (up st nr (tn t))))), (b3, .inl (cZ, 6, .inl (vw (nr + 1) (ptR S nr (tn x) wy)))), (b4, .inl (cI, 6, .inl (vr 3 (ptR S nr (tn x) wy)))), (b5, .inl (cI, 6, .inl (vr 4 (ptR S nr (tn x) wy))))]) (fun E => (E = xI ∧ ropE S nr x t = 1) ∨ (E = xA ∧ ropE S nr x t = 2) ∨ (E = xS ∧ ropE S nr x t = 3)) := by
  refine MX_of hfl [(0, .ref gr), (1, .int x), (2, .int t), (3, .int (nI (1 - wy)))] (by decide) rfl (Nat.le_of_ble_eq_true rfl) rfl ?_
  intro p e s m args below meth c A Q X hN ret thr
  have hiX0 : ∀ w ∈ wsX00, w ∈ wsX5_rope := (fun _ h => List.mem_cons_of_mem _ (List.mem_append_left _ (List.mem_append_left _ (List.mem_append_left _ (List.mem_append_left _ (List.mem_append_right _ h))))))
  have hiX3 : ∀ w ∈ wsX30, w ∈ wsX5_rope := (fun _ h => List.mem_cons_of_mem _ (List.mem_append_left _ (List.mem_append_left _ (List.mem_append_left _ (List.mem_append_right _ h)))))
  have hiX5 : ∀ w ∈ wsX50, w ∈ wsX5_rope := (fun _ h => List.mem_cons_of_mem _ (List.mem_append_left _ (List.mem_append_left _ (List.mem_append_left _ (List.mem_append_left _ (List.mem_append_left _ (List.mem_append_right _ h)))))))
  have hn : nr ≤ 6 := hg.1
  refine g_iload_n X 1 1 dX5_rope_0 rfl rfl rfl ?_
  refine g_callSi (ws' := [(gr, .inr (5, [.ref v, .ref f, .ref k, .ref ak])), (k, .inr (0, [.ref g, .ref b, .int (nI (S 1)), .int (nI (S 0)), .int (nI (S 2)), .int (nI (S 3))])), (b, .inr (3, [.int (nI nr), .ref b0, .ref b1, .ref b2, .ref b3, .ref b4, .ref b5])), (b0, .inl (cI, 6, .inl (vr 0 S))), (b1, .inl (cI, 6, .inl (vr 1 S))), (b2, .inl (cI, 6, .inl (v6 st))), (b3, .inl (cZ, 6, .inl (vw nr S))), (b4, .inl (cI, 6, .inl (vr 3 S))), (b5, .inl (cI, 6, .inl (vr 4 S)))]) X (m_X5_isColumn l D cI cZ cJ x) 4 [] gX5_rope_X5_isColumn (n := 1) rfl (by decide +kernel) rfl ⟨Nat.le_of_ble_eq_true rfl, Nat.le_of_ble_eq_true rfl⟩ rfl (Nat.le_of_ble_eq_true rfl) rfl (by decide +kernel) rfl rfl dX5_rope_1 rfl ⟨Nat.le_of_ble_eq_true rfl, Nat.le_of_ble_eq_true rfl⟩ ?_
  refine g_if_ne X 7 17 dX5_rope_4 rfl (by decide) (bn_dec decide_eq_true_iff) (fun h4 => ?_) (fun h4 => ?_)
  · have hA : isR 12 x := Classical.not_not.mp h4
    refine g_iload_n X 2 18 dX5_rope_17 rfl rfl rfl ?_
    refine g_iconst X (nI 1) 19 dX5_rope_18 rfl (by decide +kernel) ?_
    refine g_icmp_lt X 22 28 dX5_rope_19 rfl (by decide) Iff.rfl (fun h19 => ?_) (fun h19 => ?_)
    · exact thr _ _ _ _ xA "strength is out of its range" 33 64 37 thA_f (List.mem_of_getElem? (i := 3) rfl) (List.mem_of_getElem? (i := 4) rfl) (by decide +kernel) thA_e (fun _ h => List.mem_cons_of_mem _ (List.mem_append_left _ (List.mem_append_right _ h))) thA_n thA_g dX5_rope_28 dX5_rope_31 dX5_rope_32 dX5_rope_34 dX5_rope_37 rfl (by decide) (by decide) (by decide) (by decide) (Or.inr (Or.inl ⟨rfl, (if_neg (fun z => z hA)).trans (if_pos (fun z => ln z.1 h19))⟩))
    · refine g_iload_n X 2 23 dX5_rope_22 rfl rfl rfl ?_
      refine g_bipush X (nI 30) 25 dX5_rope_23 rfl (by decide +kernel) ?_
      refine g_icmp_le X 28 38 dX5_rope_25 rfl (by decide) Iff.rfl (fun h25 => ?_) (fun h25 => ?_)
      · have hB : inR t (nI 1) (nI 30) := ⟨nl h19, h25⟩
        refine g_aload_n X 0 39 dX5_rope_38 rfl rfl rfl ?_
        refine g_get X hiX5 0 2 42 rfl rfl (by decide) (List.mem_of_getElem? (i := 7) rfl) rfl dX5_rope_39 rfl ?_
        refine g_getN X hN hiX0 1 1 45 rfl rfl (by decide) (by decide +kernel) rfl dX5_rope_42 rfl ?_
        refine g_getN X hN hiX3 2 0 48 rfl rfl (by decide) (by decide +kernel) rfl dX5_rope_45 rfl ?_
        refine g_bipush X (nI 6) 50 dX5_rope_48 rfl (by decide +kernel) ?_
        refine g_icmp_ge X 53 67 dX5_rope_50 rfl (by decide) (nI_leI (by omega) (by omega)) (fun h50 => ?_) (fun h50 => ?_)
        · exact thr _ _ _ _ xS "no rope can be hung there" 49 76 53 thS_f (List.mem_of_getElem? (i := 5) rfl) (List.mem_of_getElem? (i := 6) rfl) (by decide +kernel) thS_e (fun _ h => List.mem_cons_of_mem _ (List.mem_append_right _ h)) thS_n thS_g dX5_rope_67 dX5_rope_70 dX5_rope_71 dX5_rope_73 dX5_rope_76 rfl (by decide) (by decide) (by decide) (by decide) (Or.inr (Or.inr ⟨rfl, (if_neg (fun z => z hA)).trans ((if_neg (fun z => z hB)).trans (if_pos (Or.inl (by omega))))⟩))
        · obtain ⟨ix, hx1, rfl⟩ := isR_nat hA (by decide)
          refine g_aload_n X 0 54 dX5_rope_53 rfl rfl rfl ?_
          refine g_get X hiX5 0 2 57 rfl rfl (by decide) (List.mem_of_getElem? (i := 7) rfl) rfl dX5_rope_54 rfl ?_
          refine g_getN X hN hiX0 1 1 60 rfl rfl (by decide) (by decide +kernel) rfl dX5_rope_57 rfl ?_
          refine g_iload_n X 1 61 dX5_rope_60 rfl rfl rfl ?_
          refine g_callVi (ws' := [(gr, .inr (5, [.ref v, .ref f, .ref k, .ref ak])), (k, .inr (0, [.ref g, .ref b, .int (nI (S 1)), .int (nI (S 0)), .int (nI (S 2)), .int (nI (S 3))])), (b, .inr (3, [.int (nI nr), .ref b0, .ref b1, .ref b2, .ref b3, .ref b4, .ref b5])), (b0, .inl (cI, 6, .inl (vr 0 S))), (b1, .inl (cI, 6, .inl (vr 1 S))), (b2, .inl (cI, 6, .inl (v6 st))), (b3, .inl (cZ, 6, .inl (vw nr S))), (b4, .inl (cI, 6, .inl (vr 3 S))), (b5, .inl (cI, 6, .inl (vr 4 S)))]) X (m_X3_hangAt l D cI cZ cJ b b0 b1 b2 b3 b4 b5 nr S st ix hn (fun r hr => (hg.2.2 r hr).1) hx1) 64 [2, 3, 4, 5, 6, 7, 8] gX5_rope_X3_hangAt (n := 1) rfl (by decide +kernel) rfl ⟨Nat.le_of_ble_eq_true rfl, Nat.le_of_ble_eq_true rfl⟩ (ci := 3) (q0 := 0) rfl rfl rfl (Nat.le_of_ble_eq_true rfl) rfl (by decide +kernel) rfl (putB_id rfl) dX5_rope_61 rfl ⟨Nat.le_of_ble_eq_true rfl, Nat.le_of_ble_eq_true rfl⟩ ?_
          refine g_if_eq X 67 77 dX5_rope_64 rfl (by decide) (bn_eq0 _) (fun h64 => ?_) (fun h64 => ?_)
          · have hE : ropE S nr (nI ix) t = 0 := (if_neg (fun z => z hA)).trans ((if_neg (fun z => z hB)).trans (if_neg (fun z => z.elim (fun z => by omega) (fun z => by rw [tn_nI (by omega), h64] at z; cases z))))
            obtain ⟨it, ht1, ht2, rfl⟩ := inR_nat hB (by decide) (by decide)
            rw [tn_nI (show ix < 2 ^ 31 by omega), tn_nI (show it < 2 ^ 31 by omega)] at ret
            refine g_aload_n X 0 78 dX5_rope_77 rfl rfl rfl ?_
            refine g_get X hiX5 0 2 81 rfl rfl (by decide) (List.mem_of_getElem? (i := 7) rfl) rfl dX5_rope_78 rfl ?_
            refine g_getN X hN hiX0 1 1 84 rfl rfl (by decide) (by decide +kernel) rfl dX5_rope_81 rfl ?_
            refine g_iload_n X 1 85 dX5_rope_84 rfl rfl rfl ?_
            refine g_iload_n X 2 86 dX5_rope_85 rfl rfl rfl ?_
            refine g_iload_n X 3 87 dX5_rope_86 rfl rfl rfl ?_
            refine g_callVi (ws' := [(gr, .inr (5, [.ref v, .ref f, .ref k, .ref ak])), (k, .inr (0, [.ref g, .ref b, .int (nI (S 1)), .int (nI (S 0)), .int (nI (S 2)), .int (nI (S 3))])), (b, .inr (3, [.int (nI (nr + 1)), .ref b0, .ref b1, .ref b2, .ref b3, .ref b4, .ref b5])), (b0, .inl (cI, 6, .inl (vr 0 (ptR S nr ix wy)))), (b1, .inl (cI, 6, .inl (vr 1 (ptR S nr ix wy)))), (b2, .inl (cI, 6, .inl (v6 (up st nr it)))), (b3, .inl (cZ, 6, .inl (vw (nr + 1) (ptR S nr ix wy)))), (b4, .inl (cI, 6, .inl (vr 3 (ptR S nr ix wy)))), (b5, .inl (cI, 6, .inl (vr 4 (ptR S nr ix wy))))]) X (m_X3_put l D cI cZ cJ b b0 b1 b2 b3 b4 b5 nr S st ix it wy (by omega) hw) 90 [2, 3, 4, 5, 6, 7, 8] gX5_rope_X3_put (n := 3) rfl (by decide +kernel) rfl ⟨Nat.le_of_ble_eq_true rfl, Nat.le_of_ble_eq_true rfl⟩ (ci := 3) (q0 := 0) rfl rfl rfl (Nat.le_of_ble_eq_true rfl) rfl (by decide +kernel) rfl ((putB_mg [none, none, some (b, .inr (3, [.int (nI (nr + 1)), .ref b0, .ref b1, .ref b2, .ref b3, .ref b4, .ref b5])), some (b0, .inl (cI, 6, .inl (vr 0 (ptR S nr ix wy)))), some (b1, .inl (cI, 6, .inl (vr 1 (ptR S nr ix wy)))), some (b2, .inl (cI, 6, .inl (v6 (up st nr it)))), some (b3, .inl (cZ, 6, .inl (vw (nr + 1) (ptR S nr ix wy)))), some (b4, .inl (cI, 6, .inl (vr 3 (ptR S nr ix wy)))), some (b5, .inl (cI, 6, .inl (vr 4 (ptR S nr ix wy))))] [false, false, true, true, true, true, true, true, true] rfl (by decide +kernel) rfl rfl rfl (by decide +kernel)).trans rfl) dX5_rope_87 rfl ⟨Nat.le_of_ble_eq_true rfl, Nat.le_of_ble_eq_true rfl⟩ ?_
            refine g_w (kc' := rm_X5_rope.cells) (ks' := rm_X5_rope.slots) (by first | decide | omega) (by first | decide | omega) ?_
            exact ret _ _ _ _ dX5_rope_90 rfl ⟨hE, rfl, by rw [ptR_lo (k := 0) (by decide), ptR_lo (k := 1) (by decide), ptR_lo (k := 2) (by decide), ptR_lo (k := 3) (by decide)]⟩
          · exact thr _ _ _ _ xS "no rope can be hung there" 49 76 53 thS_f (List.mem_of_getElem? (i := 5) rfl) (List.mem_of_getElem? (i := 6) rfl) (by decide +kernel) thS_e (fun _ h => List.mem_cons_of_mem _ (List.mem_append_right _ h)) thS_n thS_g dX5_rope_67 dX5_rope_70 dX5_rope_71 dX5_rope_73 dX5_rope_76 rfl (by decide) (by decide) (by decide) (by decide) (Or.inr (Or.inr ⟨rfl, (if_neg (fun z => z hA)).trans ((if_neg (fun z => z hB)).trans (if_pos (Or.inr (by rw [tn_nI (by omega)]; simpa using h64))))⟩))
      · exact thr _ _ _ _ xA "strength is out of its range" 33 64 37 thA_f (List.mem_of_getElem? (i := 3) rfl) (List.mem_of_getElem? (i := 4) rfl) (by decide +kernel) thA_e (fun _ h => List.mem_cons_of_mem _ (List.mem_append_left _ (List.mem_append_right _ h))) thA_n thA_g dX5_rope_28 dX5_rope_31 dX5_rope_32 dX5_rope_34 dX5_rope_37 rfl (by decide) (by decide) (by decide) (by decide) (Or.inr (Or.inl ⟨rfl, (if_neg (fun z => z hA)).trans (if_pos (fun z => h25 z.2))⟩))
  · exact thr _ _ _ _ xI "no such column" 40 62 44 thI_f (List.mem_of_getElem? (i := 1) rfl) (List.mem_of_getElem? (i := 2) rfl) (by decide +kernel) thI_e (fun _ h => List.mem_cons_of_mem _ (List.mem_append_left _ (List.mem_append_left _ (List.mem_append_right _ h)))) thI_n thI_g dX5_rope_7 dX5_rope_10 dX5_rope_11 dX5_rope_13 dX5_rope_16 rfl (by decide) (by decide) (by decide) (by decide) (Or.inl ⟨rfl, if_pos (h4)⟩)

abbrev rm_X5_feast : Room := { frames := 6, cells := 1, slots := 6, locals := 100 }
set_option maxHeartbeats 4000000 in
set_option maxRecDepth 100000 in
/-- feast -/
theorem m_X5_feast (l : Launch) (hfl : l.stackTraces = false) (D : va_G) (cI cZ cJ : ClassId) (gr v f k ak : Nat) (f0 f1 nf : Nat) (fe fo : Nat → Nat) (ev on : Int32) (hn : nf ≤ 4) : MX l yX5_feast wsX5_feast rm_X5_feast D (gT cI cZ cJ) [(gr, .inr (5, [.ref v, .ref f, .ref k, .ref ak])), (f, .inr (1, [.int (nI nf), .ref f0, .ref f1])), (f0, .inl (cI, 4, .inl (v4 fe))), (f1, .inl (cI, 4, .inl (v4 fo)))] [.ref gr, .int ev, .int on] (fun r9 u9 => feaE nf ev on = 0 ∧ r9 = nI nf ∧ u9 = [(gr, .inr (5, [.ref v, .ref f, .ref k, .ref ak])), (f, .inr (1, [.int (nI (nf + 1)), .ref f0, .ref f1])), (f0, .inl (cI, 4, .inl (v4 (up fe nf (tn ev))))), (f1, .inl (cI, 4, .inl (v4 (up fo nf (tn on)))))]) (fun E => (E = xA ∧ feaE nf ev on = 1) ∨ (E = xS ∧ feaE nf ev on = 2)) := by
  refine MX_of hfl [(0, .ref gr), (1, .int ev), (2, .int on)] (by decide) rfl (Nat.le_of_ble_eq_true rfl) rfl ?_
  intro p e s m args below meth c A Q X hN ret thr
  have hiX1 : ∀ w ∈ wsX10, w ∈ wsX5_feast := (fun _ h => List.mem_cons_of_mem _ (List.mem_append_left _ (List.mem_append_left _ (List.mem_append_right _ h))))
  have hiX5 : ∀ w ∈ wsX50, w ∈ wsX5_feast := (fun _ h => List.mem_cons_of_mem _ (List.mem_append_left _ (List.mem_append_left _ (List.mem_append_left _ (List.mem_append_right _ h)))))
  refine g_iload_n X 1 1 dX5_feast_0 rfl rfl rfl ?_
  refine g_iconst X (nI 2) 2 dX5_feast_1 rfl (by decide +kernel) ?_
  refine g_icmp_lt X 5 20 dX5_feast_2 rfl (by decide) Iff.rfl (fun h2 => ?_) (fun h2 => ?_)
  · exact thr _ _ _ _ xA "every or on is out of its range" 33 81 37 thA_f (List.mem_of_getElem? (i := 1) rfl) (List.mem_of_getElem? (i := 2) rfl) (by decide +kernel) thA_e (fun _ h => List.mem_cons_of_mem _ (List.mem_append_left _ (List.mem_append_right _ h))) thA_n thA_g dX5_feast_20 dX5_feast_23 dX5_feast_24 dX5_feast_26 dX5_feast_29 rfl (by decide) (by decide) (by decide) (by decide) (Or.inl ⟨rfl, if_pos (fun z => ln z.1.1 h2)⟩)
  · refine g_iload_n X 1 6 dX5_feast_5 rfl rfl rfl ?_
    refine g_bipush X (nI 30) 8 dX5_feast_6 rfl (by decide +kernel) ?_
    refine g_icmp_gt X 11 20 dX5_feast_8 rfl (by decide) Iff.rfl (fun h8 => ?_) (fun h8 => ?_)
    · exact thr _ _ _ _ xA "every or on is out of its range" 33 81 37 thA_f (List.mem_of_getElem? (i := 1) rfl) (List.mem_of_getElem? (i := 2) rfl) (by decide +kernel) thA_e (fun _ h => List.mem_cons_of_mem _ (List.mem_append_left _ (List.mem_append_right _ h))) thA_n thA_g dX5_feast_20 dX5_feast_23 dX5_feast_24 dX5_feast_26 dX5_feast_29 rfl (by decide) (by decide) (by decide) (by decide) (Or.inl ⟨rfl, if_pos (fun z => ln z.1.2 h8)⟩)
    · refine g_iload_n X 2 12 dX5_feast_11 rfl rfl rfl ?_
      refine g_if_lt X 15 20 dX5_feast_12 rfl (by decide) (z_ltr _) (fun h12 => ?_) (fun h12 => ?_)
      · exact thr _ _ _ _ xA "every or on is out of its range" 33 81 37 thA_f (List.mem_of_getElem? (i := 1) rfl) (List.mem_of_getElem? (i := 2) rfl) (by decide +kernel) thA_e (fun _ h => List.mem_cons_of_mem _ (List.mem_append_left _ (List.mem_append_right _ h))) thA_n thA_g dX5_feast_20 dX5_feast_23 dX5_feast_24 dX5_feast_26 dX5_feast_29 rfl (by decide) (by decide) (by decide) (by decide) (Or.inl ⟨rfl, if_pos (fun z => ln z.2.1 h12)⟩)
      · refine g_iload_n X 2 16 dX5_feast_15 rfl rfl rfl ?_
        refine g_iload_n X 1 17 dX5_feast_16 rfl rfl rfl ?_
        refine g_icmp_lt X 20 30 dX5_feast_17 rfl (by decide) Iff.rfl (fun h17 => ?_) (fun h17 => ?_)
        · have hA : inR ev (nI 2) (nI 30) ∧ (nI 0 ≤ on ∧ on < ev) := ⟨⟨nl h2, nl h8⟩, nl h12, h17⟩
          refine g_aload_n X 0 31 dX5_feast_30 rfl rfl rfl ?_
          refine g_get X hiX5 0 1 34 rfl rfl (by decide) (List.mem_of_getElem? (i := 5) rfl) rfl dX5_feast_31 rfl ?_
          refine g_getN X hN hiX1 1 0 37 rfl rfl (by decide) (by decide +kernel) rfl dX5_feast_34 rfl ?_
          refine g_iconst X (nI 4) 38 dX5_feast_37 rfl (by decide +kernel) ?_
          refine g_icmp_lt X 41 51 dX5_feast_38 rfl (by decide) (nI_ltI (by omega) (by omega)) (fun h38 => ?_) (fun h38 => ?_)
          · have hE : feaE nf ev on = 0 := (if_neg (fun z => z hA)).trans (if_neg (by omega))
            obtain ⟨iv, hv1, hv2, rfl⟩ := inR_nat hA.1 (by decide) (by decide)
            obtain ⟨io, ho1, rfl⟩ := isR_nat (n := iv) hA.2 (by omega)
            rw [tn_nI (show iv < 2 ^ 31 by omega), tn_nI (show io < 2 ^ 31 by omega)] at ret
            refine g_aload_n X 0 52 dX5_feast_51 rfl rfl rfl ?_
            refine g_get X hiX5 0 1 55 rfl rfl (by decide) (List.mem_of_getElem? (i := 5) rfl) rfl dX5_feast_52 rfl ?_
            refine g_iload_n X 1 56 dX5_feast_55 rfl rfl rfl ?_
            refine g_iload_n X 2 57 dX5_feast_56 rfl rfl rfl ?_
            refine g_callVi (ws' := [(gr, .inr (5, [.ref v, .ref f, .ref k, .ref ak])), (f, .inr (1, [.int (nI (nf + 1)), .ref f0, .ref f1])), (f0, .inl (cI, 4, .inl (v4 (up fe nf iv)))), (f1, .inl (cI, 4, .inl (v4 (up fo nf io))))]) X (m_X1_put l D cI cZ cJ f f0 f1 nf fe fo iv io h38) 60 [1, 2, 3] gX5_feast_X1_put (n := 2) rfl (by decide +kernel) rfl ⟨Nat.le_of_ble_eq_true rfl, Nat.le_of_ble_eq_true rfl⟩ (ci := 1) (q0 := 0) rfl rfl rfl (Nat.le_of_ble_eq_true rfl) rfl (by decide +kernel) rfl rfl dX5_feast_57 rfl ⟨Nat.le_of_ble_eq_true rfl, Nat.le_of_ble_eq_true rfl⟩ ?_
            refine g_w (kc' := rm_X5_feast.cells) (ks' := rm_X5_feast.slots) (by first | decide | omega) (by first | decide | omega) ?_
            exact ret _ _ _ _ dX5_feast_60 rfl ⟨hE, rfl, rfl⟩
          · exact thr _ _ _ _ xS "there are as many feasts as can be" 49 84 53 thS_f (List.mem_of_getElem? (i := 3) rfl) (List.mem_of_getElem? (i := 4) rfl) (by decide +kernel) thS_e (fun _ h => List.mem_cons_of_mem _ (List.mem_append_right _ h)) thS_n thS_g dX5_feast_41 dX5_feast_44 dX5_feast_45 dX5_feast_47 dX5_feast_50 rfl (by decide) (by decide) (by decide) (by decide) (Or.inr ⟨rfl, (if_neg (fun z => z hA)).trans (if_pos (by omega))⟩)
        · exact thr _ _ _ _ xA "every or on is out of its range" 33 81 37 thA_f (List.mem_of_getElem? (i := 1) rfl) (List.mem_of_getElem? (i := 2) rfl) (by decide +kernel) thA_e (fun _ h => List.mem_cons_of_mem _ (List.mem_append_left _ (List.mem_append_right _ h))) thA_n thA_g dX5_feast_20 dX5_feast_23 dX5_feast_24 dX5_feast_26 dX5_feast_29 rfl (by decide) (by decide) (by decide) (by decide) (Or.inl ⟨rfl, if_pos (fun z => h17 z.2.2)⟩)

abbrev rm_X5_setWind : Room := { frames := 6, cells := 1, slots := 6, locals := 100 }
set_option maxHeartbeats 4000000 in
set_option maxRecDepth 100000 in
/-- setWind -/
theorem m_X5_setWind (l : Launch) (hfl : l.stackTraces = false) (D : va_G) (cI cZ cJ : ClassId) (gr v f k ak : Nat) (g b : Nat) (S : Nat → Nat) (w : Int32)  : MX l yX5_setWind wsX5_setWind rm_X5_setWind D (gT cI cZ cJ) [(gr, .inr (5, [.ref v, .ref f, .ref k, .ref ak])), (k, .inr (0, [.ref g, .ref b, .int (nI (S 1)), .int (nI (S 0)), .int (nI (S 2)), .int (nI (S 3))]))] [.ref gr, .int w] (fun r9 u9 => setE w = 0 ∧ r9 = nI (S 1) ∧ u9 = [(gr, .inr (5, [.ref v, .ref f, .ref k, .ref ak])), (k, .inr (0, [.ref g, .ref b, .int (nI ((up S 1 (wdN w)) 1)), .int (nI ((up S 1 (wdN w)) 0)), .int (nI ((up S 1 (wdN w)) 2)), .int (nI ((up S 1 (wdN w)) 3))]))]) (fun E => (E = xA ∧ setE w = 1)) := by
  refine MX_of hfl [(0, .ref gr), (1, .int w)] (by decide) rfl (Nat.le_of_ble_eq_true rfl) rfl ?_
  intro p e s m args below meth c A Q X hN ret thr
  have hiX0 : ∀ w ∈ wsX00, w ∈ wsX5_setWind := (fun _ h => List.mem_cons_of_mem _ (List.mem_append_left _ (List.mem_append_right _ h)))
  have hiX5 : ∀ w ∈ wsX50, w ∈ wsX5_setWind := (fun _ h => List.mem_cons_of_mem _ (List.mem_append_left _ (List.mem_append_left _ (List.mem_append_right _ h))))
  refine g_iload_n X 1 1 dX5_setWind_0 rfl rfl rfl ?_
  refine g_bipush X (nIm 5) 3 dX5_setWind_1 rfl (by decide +kernel) ?_
  refine g_icmp_lt X 6 11 dX5_setWind_3 rfl (by decide) Iff.rfl (fun h3 => ?_) (fun h3 => ?_)
  · exact thr _ _ _ _ xA "wind is out of its range" 33 89 37 thA_f (List.mem_of_getElem? (i := 1) rfl) (List.mem_of_getElem? (i := 2) rfl) (by decide +kernel) thA_e (fun _ h => List.mem_cons_of_mem _ (List.mem_append_right _ h)) thA_n thA_g dX5_setWind_11 dX5_setWind_14 dX5_setWind_15 dX5_setWind_17 dX5_setWind_20 rfl (by decide) (by decide) (by decide) (by decide) (⟨rfl, if_pos (fun z => ln z.1 h3)⟩)
  · refine g_iload_n X 1 7 dX5_setWind_6 rfl rfl rfl ?_
    refine g_iconst X (nI 5) 8 dX5_setWind_7 rfl (by decide +kernel) ?_
    refine g_icmp_le X 11 21 dX5_setWind_8 rfl (by decide) Iff.rfl (fun h8 => ?_) (fun h8 => ?_)
    · have hE : setE w = 0 := if_neg (fun z => z ⟨nl h3, h8⟩)
      refine g_aload_n X 0 22 dX5_setWind_21 rfl rfl rfl ?_
      refine g_get X hiX5 0 2 25 rfl rfl (by decide) (List.mem_of_getElem? (i := 3) rfl) rfl dX5_setWind_22 rfl ?_
      refine g_getN X hN hiX0 1 2 28 rfl rfl (by decide) (by decide +kernel) rfl dX5_setWind_25 rfl ?_
      refine g_istore_n X [(2, .int (nI (S 1))), (0, .ref gr), (1, .int w)] 29 dX5_setWind_28 rfl rfl (by decide) rfl ?_
      refine g_aload_n X 1 30 dX5_setWind_29 rfl rfl rfl ?_
      refine g_get X hiX5 0 2 33 rfl rfl (by decide) (List.mem_of_getElem? (i := 3) rfl) rfl dX5_setWind_30 rfl ?_
      refine g_iload_n X 2 34 dX5_setWind_33 rfl rfl rfl ?_
      refine g_putN (ws' := [(gr, .inr (5, [.ref v, .ref f, .ref k, .ref ak])), (k, .inr (0, [.ref g, .ref b, .int w, .int (nI (S 0)), .int (nI (S 2)), .int (nI (S 3))]))]) X hN hiX0 tyX0 tyX0_ok nmX0 1 2 37 rfl rfl (by decide) (by decide +kernel) rfl (ty := .int) (by decide +kernel) rfl rfl (Nat.le_of_ble_eq_true rfl) dX5_setWind_34 rfl rfl ?_
      refine g_iload_n X 0 38 dX5_setWind_37 rfl rfl rfl ?_
      refine g_w (kc' := rm_X5_setWind.cells) (ks' := rm_X5_setWind.slots) (by first | decide | omega) (by first | decide | omega) ?_
      exact ret _ _ _ _ dX5_setWind_38 rfl ⟨hE, rfl, by rw [up_s, wdN_nI, up_n (j := 0) (by decide), up_n (j := 2) (by decide), up_n (j := 3) (by decide)]⟩
    · exact thr _ _ _ _ xA "wind is out of its range" 33 89 37 thA_f (List.mem_of_getElem? (i := 1) rfl) (List.mem_of_getElem? (i := 2) rfl) (by decide +kernel) thA_e (fun _ h => List.mem_cons_of_mem _ (List.mem_append_right _ h)) thA_n thA_g dX5_setWind_11 dX5_setWind_14 dX5_setWind_15 dX5_setWind_17 dX5_setWind_20 rfl (by decide) (by decide) (by decide) (by decide) (⟨rfl, if_pos (fun z => h8 z.2)⟩)

abbrev rm_X5_move : Room := { frames := 6, cells := 1, slots := 6, locals := 100 }
set_option maxHeartbeats 4000000 in
set_option maxRecDepth 100000 in
/-- move -/
theorem m_X5_move (l : Launch) (hfl : l.stackTraces = false) (D : va_G) (cI cZ cJ : ClassId) (gr v f k ak : Nat) (g b b0 b1 b2 b3 b4 b5 nr : Nat) (S st : Nat → Nat) (r x : Int32) (hg : Gw S nr) : MX l yX5_move wsX5_move rm_X5_move D (gT cI cZ cJ) [(gr, .inr (5, [.ref v, .ref f, .ref k, .ref ak])), (k, .inr (0, [.ref g, .ref b, .int (nI (S 1)), .int (nI (S 0)), .int (nI (S 2)), .int (nI (S 3))])), (b, .inr (3, [.int (nI nr), .ref b0, .ref b1, .ref b2, .ref b3, .ref b4, .ref b5])), (b0, .inl (cI, 6, .inl (vr 0 S))), (b1, .inl (cI, 6, .inl (vr 1 S))), (b2, .inl (cI, 6, .inl (v6 st))), (b3, .inl (cZ, 6, .inl (vw nr S))), (b4, .inl (cI, 6, .inl (vr 3 S))), (b5, .inl (cI, 6, .inl (vr 4 S)))] [.ref gr, .int r, .int x] (fun r9 u9 => movE S nr r x = 0 ∧ r9 = nI (S (100 + 5 * tn r)) ∧ u9 = [(gr, .inr (5, [.ref v, .ref f, .ref k, .ref ak])), (k, .inr (0, [.ref g, .ref b, .int (nI ((reh S (tn r) (tn x)) 1)), .int (nI ((reh S (tn r) (tn x)) 0)), .int (nI ((reh S (tn r) (tn x)) 2)), .int (nI ((reh S (tn r) (tn x)) 3))])), (b, .inr (3, [.int (nI nr), .ref b0, .ref b1, .ref b2, .ref b3, .ref b4, .ref b5])), (b0, .inl (cI, 6, .inl (vr 0 (reh S (tn r) (tn x))))), (b1, .inl (cI, 6, .inl (vr 1 (reh S (tn r) (tn x))))), (b2, .inl (cI, 6, .inl (v6 st))), (b3, .inl (cZ, 6, .inl (vw nr (reh S (tn r) (tn x))))), (b4, .inl (cI, 6, .inl (vr 3 (reh S (tn r) (tn x))))), (b5, .inl (cI, 6, .inl (vr 4 (reh S (tn r) (tn x)))))]) (fun E => (E = xI ∧ movE S nr r x = 1) ∨ (E = xS ∧ movE S nr r x = 2)) := by
  refine MX_of hfl [(0, .ref gr), (1, .int r), (2, .int x)] (by decide) rfl (Nat.le_of_ble_eq_true rfl) rfl ?_
  intro p e s m args below meth c A Q X hN ret thr
  have hiX0 : ∀ w ∈ wsX00, w ∈ wsX5_move := (fun _ h => List.mem_cons_of_mem _ (List.mem_append_left _ (List.mem_append_left _ (List.mem_append_left _ (List.mem_append_right _ h)))))
  have hiX3 : ∀ w ∈ wsX30, w ∈ wsX5_move := (fun _ h => List.mem_cons_of_mem _ (List.mem_append_left _ (List.mem_append_left _ (List.mem_append_right _ h))))
  have hiX5 : ∀ w ∈ wsX50, w ∈ wsX5_move := (fun _ h => List.mem_cons_of_mem _ (List.mem_append_left _ (List.mem_append_left _ (List.mem_append_left _ (List.mem_append_left _ (List.mem_append_right _ h))))))
  have hn : nr ≤ 6 := hg.1
  refine g_aload_n X 0 1 dX5_move_0 rfl rfl rfl ?_
  refine g_iload_n X 1 2 dX5_move_1 rfl rfl rfl ?_
  refine g_callVNi (ws' := [(gr, .inr (5, [.ref v, .ref f, .ref k, .ref ak])), (k, .inr (0, [.ref g, .ref b, .int (nI (S 1)), .int (nI (S 0)), .int (nI (S 2)), .int (nI (S 3))])), (b, .inr (3, [.int (nI nr), .ref b0, .ref b1, .ref b2, .ref b3, .ref b4, .ref b5])), (b0, .inl (cI, 6, .inl (vr 0 S))), (b1, .inl (cI, 6, .inl (vr 1 S))), (b2, .inl (cI, 6, .inl (v6 st))), (b3, .inl (cZ, 6, .inl (vw nr S))), (b4, .inl (cI, 6, .inl (vr 3 S))), (b5, .inl (cI, 6, .inl (vr 4 S)))]) X hN (m_X5_isRope l D cI cZ cJ gr v f k ak g b b0 b1 b2 b3 b4 b5 nr S st r) 5 [0, 1, 2, 3, 4, 5, 6, 7, 8] gX5_move_X5_isRope (n := 1) rfl (by decide +kernel) rfl ⟨Nat.le_of_ble_eq_true rfl, Nat.le_of_ble_eq_true rfl⟩ (ci := 5) (q0 := 0) rfl rfl rfl (Nat.le_of_ble_eq_true rfl) rfl (by decide +kernel) rfl (putB_id rfl) dX5_move_2 rfl ⟨Nat.le_of_ble_eq_true rfl, Nat.le_of_ble_eq_true rfl⟩ ?_
  refine g_if_eq X 8 15 dX5_move_5 rfl (by decide) (bn_dec decide_eq_true_iff) (fun h5 => ?_) (fun h5 => ?_)
  · exact thr _ _ _ _ xI "no such rope or column" 40 97 44 thI_f (List.mem_of_getElem? (i := 1) rfl) (List.mem_of_getElem? (i := 2) rfl) (by decide +kernel) thI_e (fun _ h => List.mem_cons_of_mem _ (List.mem_append_left _ (List.mem_append_right _ h))) thI_n thI_g dX5_move_15 dX5_move_18 dX5_move_19 dX5_move_21 dX5_move_24 rfl (by decide) (by decide) (by decide) (by decide) (Or.inl ⟨rfl, if_pos (fun z => h5 z.1)⟩)
  · have hA1 : isR nr r := Classical.not_not.mp h5
    refine g_iload_n X 2 9 dX5_move_8 rfl rfl rfl ?_
    refine g_callSi (ws' := [(gr, .inr (5, [.ref v, .ref f, .ref k, .ref ak])), (k, .inr (0, [.ref g, .ref b, .int (nI (S 1)), .int (nI (S 0)), .int (nI (S 2)), .int (nI (S 3))])), (b, .inr (3, [.int (nI nr), .ref b0, .ref b1, .ref b2, .ref b3, .ref b4, .ref b5])), (b0, .inl (cI, 6, .inl (vr 0 S))), (b1, .inl (cI, 6, .inl (vr 1 S))), (b2, .inl (cI, 6, .inl (v6 st))), (b3, .inl (cZ, 6, .inl (vw nr S))), (b4, .inl (cI, 6, .inl (vr 3 S))), (b5, .inl (cI, 6, .inl (vr 4 S)))]) X (m_X5_isColumn l D cI cZ cJ x) 12 [] gX5_move_X5_isColumn (n := 1) rfl (by decide +kernel) rfl ⟨Nat.le_of_ble_eq_true rfl, Nat.le_of_ble_eq_true rfl⟩ rfl (Nat.le_of_ble_eq_true rfl) rfl (by decide +kernel) rfl rfl dX5_move_9 rfl ⟨Nat.le_of_ble_eq_true rfl, Nat.le_of_ble_eq_true rfl⟩ ?_
    refine g_if_ne X 15 25 dX5_move_12 rfl (by decide) (bn_dec decide_eq_true_iff) (fun h12 => ?_) (fun h12 => ?_)
    · have hA : isR nr r ∧ isR 12 x := ⟨hA1, Classical.not_not.mp h12⟩
      obtain ⟨ir, hr1, rfl⟩ := isR_nat hA.1 (by omega)
      obtain ⟨ix, hx1, rfl⟩ := isR_nat hA.2 (by decide)
      refine g_aload_n X 0 26 dX5_move_25 rfl rfl rfl ?_
      refine g_get X hiX5 0 2 29 rfl rfl (by decide) (List.mem_of_getElem? (i := 5) rfl) rfl dX5_move_26 rfl ?_
      refine g_getN X hN hiX0 1 1 32 rfl rfl (by decide) (by decide +kernel) rfl dX5_move_29 rfl ?_
      refine g_iload_n X 2 33 dX5_move_32 rfl rfl rfl ?_
      refine g_callVi (ws' := [(gr, .inr (5, [.ref v, .ref f, .ref k, .ref ak])), (k, .inr (0, [.ref g, .ref b, .int (nI (S 1)), .int (nI (S 0)), .int (nI (S 2)), .int (nI (S 3))])), (b, .inr (3, [.int (nI nr), .ref b0, .ref b1, .ref b2, .ref b3, .ref b4, .ref b5])), (b0, .inl (cI, 6, .inl (vr 0 S))), (b1, .inl (cI, 6, .inl (vr 1 S))), (b2, .inl (cI, 6, .inl (v6 st))), (b3, .inl (cZ, 6, .inl (vw nr S))), (b4, .inl (cI, 6, .inl (vr 3 S))), (b5, .inl (cI, 6, .inl (vr 4 S)))]) X (m_X3_hangAt l D cI cZ cJ b b0 b1 b2 b3 b4 b5 nr S st ix hn (fun r hr => (hg.2.2 r hr).1) hx1) 36 [2, 3, 4, 5, 6, 7, 8] gX5_move_X3_hangAt (n := 1) rfl (by decide +kernel) rfl ⟨Nat.le_of_ble_eq_true rfl, Nat.le_of_ble_eq_true rfl⟩ (ci := 3) (q0 := 0) rfl rfl rfl (Nat.le_of_ble_eq_true rfl) rfl (by decide +kernel) rfl (putB_id rfl) dX5_move_33 rfl ⟨Nat.le_of_ble_eq_true rfl, Nat.le_of_ble_eq_true rfl⟩ ?_
      refine g_if_eq X 39 49 dX5_move_36 rfl (by decide) (bn_eq0 _) (fun h36 => ?_) (fun h36 => ?_)
      · have hE : movE S nr (nI ir) (nI ix) = 0 := (if_neg (fun z => z hA)).trans (if_neg (fun z => by rw [tn_nI (by omega), h36] at z; cases z))
        rw [tn_nI (show ir < 2 ^ 31 by omega), tn_nI (show ix < 2 ^ 31 by omega)] at ret
        refine g_aload_n X 0 50 dX5_move_49 rfl rfl rfl ?_
        refine g_get X hiX5 0 2 53 rfl rfl (by decide) (List.mem_of_getElem? (i := 5) rfl) rfl dX5_move_50 rfl ?_
        refine g_getN X hN hiX0 1 1 56 rfl rfl (by decide) (by decide +kernel) rfl dX5_move_53 rfl ?_
        refine g_getN X hN hiX3 2 1 59 rfl rfl (by decide) (by decide +kernel) rfl dX5_move_56 rfl ?_
        refine g_iload_n X 1 60 dX5_move_59 rfl rfl rfl ?_
        refine g_iald X 3 0 (ir) (nI (S (100 + 5 * ir))) 61 rfl rfl (by omega) (by decide) (vr_at (by omega)) dX5_move_60 rfl ?_
        refine g_istore_n X [(3, .int (nI (S (100 + 5 * ir)))), (0, .ref gr), (1, .int (nI ir)), (2, .int (nI ix))] 62 dX5_move_61 rfl rfl (by decide) rfl ?_
        refine g_aload_n X 1 63 dX5_move_62 rfl rfl rfl ?_
        refine g_get X hiX5 0 2 66 rfl rfl (by decide) (List.mem_of_getElem? (i := 5) rfl) rfl dX5_move_63 rfl ?_
        refine g_getN X hN hiX0 1 1 69 rfl rfl (by decide) (by decide +kernel) rfl dX5_move_66 rfl ?_
        refine g_iload_n X 2 70 dX5_move_69 rfl rfl rfl ?_
        refine g_iload_n X 3 71 dX5_move_70 rfl rfl rfl ?_
        refine g_callVv (ws' := [(gr, .inr (5, [.ref v, .ref f, .ref k, .ref ak])), (k, .inr (0, [.ref g, .ref b, .int (nI (S 1)), .int (nI (S 0)), .int (nI (S 2)), .int (nI (S 3))])), (b, .inr (3, [.int (nI nr), .ref b0, .ref b1, .ref b2, .ref b3, .ref b4, .ref b5])), (b0, .inl (cI, 6, .inl (vr 0 (reh S ir ix)))), (b1, .inl (cI, 6, .inl (vr 1 (reh S ir ix)))), (b2, .inl (cI, 6, .inl (v6 st))), (b3, .inl (cZ, 6, .inl (vw nr (reh S ir ix)))), (b4, .inl (cI, 6, .inl (vr 3 (reh S ir ix)))), (b5, .inl (cI, 6, .inl (vr 4 (reh S ir ix))))]) X (m_X3_rehang l D cI cZ cJ b b0 b1 b2 b3 b4 b5 nr S st ir ix (by omega)) 74 [2, 3, 4, 5, 6, 7, 8] gX5_move_X3_rehang (n := 2) rfl (by decide +kernel) rfl ⟨Nat.le_of_ble_eq_true rfl, Nat.le_of_ble_eq_true rfl⟩ (ci := 3) (q0 := 0) rfl rfl rfl (Nat.le_of_ble_eq_true rfl) rfl (by decide +kernel) rfl ((putB_mg [none, none, some (b, .inr (3, [.int (nI nr), .ref b0, .ref b1, .ref b2, .ref b3, .ref b4, .ref b5])), some (b0, .inl (cI, 6, .inl (vr 0 (reh S ir ix)))), some (b1, .inl (cI, 6, .inl (vr 1 (reh S ir ix)))), some (b2, .inl (cI, 6, .inl (v6 st))), some (b3, .inl (cZ, 6, .inl (vw nr (reh S ir ix)))), some (b4, .inl (cI, 6, .inl (vr 3 (reh S ir ix)))), some (b5, .inl (cI, 6, .inl (vr 4 (reh S ir ix))))] [false, false, true, true, true, true, true, true, true] rfl (by decide +kernel) rfl rfl rfl (by decide +kernel)).trans rfl) dX5_move_71 rfl ⟨Nat.le_of_ble_eq_true rfl, Nat.le_of_ble_eq_true rfl⟩ ?_
        refine g_iload_n X 0 75 dX5_move_74 rfl rfl rfl ?_
        refine g_w (kc' := rm_X5_move.cells) (ks' := rm_X5_move.slots) (by first | decide | omega) (by first | decide | omega) ?_
        exact ret _ _ _ _ dX5_move_75 rfl ⟨hE, rfl, by rw [reh_lo (k := 0) (by decide), reh_lo (k := 1) (by decide), reh_lo (k := 2) (by decide), reh_lo (k := 3) (by decide)]⟩
      · exact thr _ _ _ _ xS "a rope hangs there" 49 99 53 thS_f (List.mem_of_getElem? (i := 3) rfl) (List.mem_of_getElem? (i := 4) rfl) (by decide +kernel) thS_e (fun _ h => List.mem_cons_of_mem _ (List.mem_append_right _ h)) thS_n thS_g dX5_move_39 dX5_move_42 dX5_move_43 dX5_move_45 dX5_move_48 rfl (by decide) (by decide) (by decide) (by decide) (Or.inr ⟨rfl, (if_neg (fun z => z hA)).trans (if_pos (by rw [tn_nI (by omega)]; simpa using h36))⟩)
    · exact thr _ _ _ _ xI "no such rope or column" 40 97 44 thI_f (List.mem_of_getElem? (i := 1) rfl) (List.mem_of_getElem? (i := 2) rfl) (by decide +kernel) thI_e (fun _ h => List.mem_cons_of_mem _ (List.mem_append_left _ (List.mem_append_right _ h))) thI_n thI_g dX5_move_15 dX5_move_18 dX5_move_19 dX5_move_21 dX5_move_24 rfl (by decide) (by decide) (by decide) (by decide) (Or.inl ⟨rfl, if_pos (fun z => h12 z.2)⟩)

abbrev rm_X5_turn : Room := { frames := 6, cells := 1, slots := 6, locals := 100 }
set_option maxHeartbeats 4000000 in
set_option maxRecDepth 100000 in
/-- turn -/
theorem m_X5_turn (l : Launch) (hfl : l.stackTraces = false) (D : va_G) (cI cZ cJ : ClassId) (gr v f k ak : Nat) (g b b0 b1 b2 b3 b4 b5 nr : Nat) (S st : Nat → Nat) (r : Int32) (hg : Gw S nr) : MX l yX5_turn wsX5_turn rm_X5_turn D (gT cI cZ cJ) [(gr, .inr (5, [.ref v, .ref f, .ref k, .ref ak])), (k, .inr (0, [.ref g, .ref b, .int (nI (S 1)), .int (nI (S 0)), .int (nI (S 2)), .int (nI (S 3))])), (b, .inr (3, [.int (nI nr), .ref b0, .ref b1, .ref b2, .ref b3, .ref b4, .ref b5])), (b0, .inl (cI, 6, .inl (vr 0 S))), (b1, .inl (cI, 6, .inl (vr 1 S))), (b2, .inl (cI, 6, .inl (v6 st))), (b3, .inl (cZ, 6, .inl (vw nr S))), (b4, .inl (cI, 6, .inl (vr 3 S))), (b5, .inl (cI, 6, .inl (vr 4 S)))] [.ref gr, .int r] (fun r9 u9 => oneE nr r = 0 ∧ r9 = nI (S (100 + 5 * tn r + 2)) ∧ u9 = [(gr, .inr (5, [.ref v, .ref f, .ref k, .ref ak])), (k, .inr (0, [.ref g, .ref b, .int (nI ((up S (100 + 5 * tn r + 2) (1 - S (100 + 5 * tn r + 2))) 1)), .int (nI ((up S (100 + 5 * tn r + 2) (1 - S (100 + 5 * tn r + 2))) 0)), .int (nI ((up S (100 + 5 * tn r + 2) (1 - S (100 + 5 * tn r + 2))) 2)), .int (nI ((up S (100 + 5 * tn r + 2) (1 - S (100 + 5 * tn r + 2))) 3))])), (b, .inr (3, [.int (nI nr), .ref b0, .ref b1, .ref b2, .ref b3, .ref b4, .ref b5])), (b0, .inl (cI, 6, .inl (vr 0 (up S (100 + 5 * tn r + 2) (1 - S (100 + 5 * tn r + 2)))))), (b1, .inl (cI, 6, .inl (vr 1 (up S (100 + 5 * tn r + 2) (1 - S (100 + 5 * tn r + 2)))))), (b2, .inl (cI, 6, .inl (v6 st))), (b3, .inl (cZ, 6, .inl (vw nr (up S (100 + 5 * tn r + 2) (1 - S (100 + 5 * tn r + 2)))))), (b4, .inl (cI, 6, .inl (vr 3 (up S (100 + 5 * tn r + 2) (1 - S (100 + 5 * tn r + 2)))))), (b5, .inl (cI, 6, .inl (vr 4 (up S (100 + 5 * tn r + 2) (1 - S (100 + 5 * tn r + 2))))))]) (fun E => (E = xI ∧ oneE nr r = 1)) := by
  refine MX_of hfl [(0, .ref gr), (1, .int r)] (by decide) rfl (Nat.le_of_ble_eq_true rfl) rfl ?_
  intro p e s m args below meth c A Q X hN ret thr
  have hiX0 : ∀ w ∈ wsX00, w ∈ wsX5_turn := (fun _ h => List.mem_cons_of_mem _ (List.mem_append_left _ (List.mem_append_left _ (List.mem_append_right _ h))))
  have hiX3 : ∀ w ∈ wsX30, w ∈ wsX5_turn := (fun _ h => List.mem_cons_of_mem _ (List.mem_append_left _ (List.mem_append_right _ h)))
  have hiX5 : ∀ w ∈ wsX50, w ∈ wsX5_turn := (fun _ h => List.mem_cons_of_mem _ (List.mem_append_left _ (List.mem_append_left _ (List.mem_append_left _ (List.mem_append_right _ h)))))
  have hn : nr ≤ 6 := hg.1
  refine g_aload_n X 0 1 dX5_turn_0 rfl rfl rfl ?_
  refine g_iload_n X 1 2 dX5_turn_1 rfl rfl rfl ?_
  refine g_callVNi (ws' := [(gr, .inr (5, [.ref v, .ref f, .ref k, .ref ak])), (k, .inr (0, [.ref g, .ref b, .int (nI (S 1)), .int (nI (S 0)), .int (nI (S 2)), .int (nI (S 3))])), (b, .inr (3, [.int (nI nr), .ref b0, .ref b1, .ref b2, .ref b3, .ref b4, .ref b5])), (b0, .inl (cI, 6, .inl (vr 0 S))), (b1, .inl (cI, 6, .inl (vr 1 S))), (b2, .inl (cI, 6, .inl (v6 st))), (b3, .inl (cZ, 6, .inl (vw nr S))), (b4, .inl (cI, 6, .inl (vr 3 S))), (b5, .inl (cI, 6, .inl (vr 4 S)))]) X hN (m_X5_isRope l D cI cZ cJ gr v f k ak g b b0 b1 b2 b3 b4 b5 nr S st r) 5 [0, 1, 2, 3, 4, 5, 6, 7, 8] gX5_turn_X5_isRope (n := 1) rfl (by decide +kernel) rfl ⟨Nat.le_of_ble_eq_true rfl, Nat.le_of_ble_eq_true rfl⟩ (ci := 5) (q0 := 0) rfl rfl rfl (Nat.le_of_ble_eq_true rfl) rfl (by decide +kernel) rfl (putB_id rfl) dX5_turn_2 rfl ⟨Nat.le_of_ble_eq_true rfl, Nat.le_of_ble_eq_true rfl⟩ ?_
  refine g_if_ne X 8 18 dX5_turn_5 rfl (by decide) (bn_dec decide_eq_true_iff) (fun h5 => ?_) (fun h5 => ?_)
  · have hA : isR nr r := Classical.not_not.mp h5
    have hE : oneE nr r = 0 := if_neg (fun z => z hA)
    obtain ⟨ir, hr1, rfl⟩ := isR_nat hA (by omega)
    rw [tn_nI (show ir < 2 ^ 31 by omega)] at ret
    have h3 := hg.2.2 ir hr1
    refine g_aload_n X 0 19 dX5_turn_18 rfl rfl rfl ?_
    refine g_get X hiX5 0 2 22 rfl rfl (by decide) (List.mem_of_getElem? (i := 3) rfl) rfl dX5_turn_19 rfl ?_
    refine g_getN X hN hiX0 1 1 25 rfl rfl (by decide) (by decide +kernel) rfl dX5_turn_22 rfl ?_
    refine g_getN X hN hiX3 2 4 28 rfl rfl (by decide) (by decide +kernel) rfl dX5_turn_25 rfl ?_
    refine g_iload_n X 1 29 dX5_turn_28 rfl rfl rfl ?_
    refine g_aload_n X 0 30 dX5_turn_29 rfl rfl rfl ?_
    refine g_get X hiX5 0 2 33 rfl rfl (by decide) (List.mem_of_getElem? (i := 3) rfl) rfl dX5_turn_30 rfl ?_
    refine g_getN X hN hiX0 1 1 36 rfl rfl (by decide) (by decide +kernel) rfl dX5_turn_33 rfl ?_
    refine g_getN X hN hiX3 2 4 39 rfl rfl (by decide) (by decide +kernel) rfl dX5_turn_36 rfl ?_
    refine g_iload_n X 1 40 dX5_turn_39 rfl rfl rfl ?_
    refine g_zald X 6 1 (ir) (nI (1 - S (100 + 5 * ir + 2))) 41 rfl rfl (by omega) (by decide) (vw_at hr1) dX5_turn_40 rfl ?_
    refine g_if_ne X 44 48 dX5_turn_41 rfl (by decide) (nz_eq (by omega)) (fun h41 => ?_) (fun h41 => ?_)
    · refine g_iconst X (nI 0) 49 dX5_turn_48 rfl (by decide +kernel) ?_
      refine g_zast (ws' := [(gr, .inr (5, [.ref v, .ref f, .ref k, .ref ak])), (k, .inr (0, [.ref g, .ref b, .int (nI (S 1)), .int (nI (S 0)), .int (nI (S 2)), .int (nI (S 3))])), (b, .inr (3, [.int (nI nr), .ref b0, .ref b1, .ref b2, .ref b3, .ref b4, .ref b5])), (b0, .inl (cI, 6, .inl (vr 0 S))), (b1, .inl (cI, 6, .inl (vr 1 S))), (b2, .inl (cI, 6, .inl (v6 st))), (b3, .inl (cZ, 6, .inl (vw nr (up S (100 + 5 * ir + 2) (1 - S (100 + 5 * ir + 2)))))), (b4, .inl (cI, 6, .inl (vr 3 S))), (b5, .inl (cI, 6, .inl (vr 4 S)))]) X 6 1 (ir) (vw nr (up S (100 + 5 * ir + 2) (1 - S (100 + 5 * ir + 2)))) 50 rfl rfl (by omega) (by decide) (vw_tu hr1 (by omega) h3.2.2) dX5_turn_49 rfl rfl ?_
      refine g_aload_n X 0 51 dX5_turn_50 rfl rfl rfl ?_
      refine g_get X hiX5 0 2 54 rfl rfl (by decide) (List.mem_of_getElem? (i := 3) rfl) rfl dX5_turn_51 rfl ?_
      refine g_getN X hN hiX0 1 1 57 rfl rfl (by decide) (by decide +kernel) rfl dX5_turn_54 rfl ?_
      refine g_getN X hN hiX3 2 4 60 rfl rfl (by decide) (by decide +kernel) rfl dX5_turn_57 rfl ?_
      refine g_iload_n X 1 61 dX5_turn_60 rfl rfl rfl ?_
      refine g_zald X 6 1 (ir) (nI (S (100 + 5 * ir + 2))) 62 rfl rfl (by omega) (by decide) ((vw_at hr1).trans (congrArg nI (by rw [up_s]; omega))) dX5_turn_61 rfl ?_
      refine g_w (kc' := rm_X5_turn.cells) (ks' := rm_X5_turn.slots) (by first | decide | omega) (by first | decide | omega) ?_
      exact ret _ _ _ _ dX5_turn_62 (bn_1 _ (by omega)) ⟨hE, rfl, by rw [vr_q (q := 0) (q' := 2) (by decide) (by decide) (by decide), vr_q (q := 1) (q' := 2) (by decide) (by decide) (by decide), vr_q (q := 3) (q' := 2) (by decide) (by decide) (by decide), vr_q (q := 4) (q' := 2) (by decide) (by decide) (by decide), up_n (j := 0) (by omega), up_n (j := 1) (by omega), up_n (j := 2) (by omega), up_n (j := 3) (by omega)]⟩
    · refine g_iconst X (nI 1) 45 dX5_turn_44 rfl (by decide +kernel) ?_
      refine g_goto X 49 dX5_turn_45 (by decide) ?_
      refine g_zast (ws' := [(gr, .inr (5, [.ref v, .ref f, .ref k, .ref ak])), (k, .inr (0, [.ref g, .ref b, .int (nI (S 1)), .int (nI (S 0)), .int (nI (S 2)), .int (nI (S 3))])), (b, .inr (3, [.int (nI nr), .ref b0, .ref b1, .ref b2, .ref b3, .ref b4, .ref b5])), (b0, .inl (cI, 6, .inl (vr 0 S))), (b1, .inl (cI, 6, .inl (vr 1 S))), (b2, .inl (cI, 6, .inl (v6 st))), (b3, .inl (cZ, 6, .inl (vw nr (up S (100 + 5 * ir + 2) (1 - S (100 + 5 * ir + 2)))))), (b4, .inl (cI, 6, .inl (vr 3 S))), (b5, .inl (cI, 6, .inl (vr 4 S)))]) X 6 1 (ir) (vw nr (up S (100 + 5 * ir + 2) (1 - S (100 + 5 * ir + 2)))) 50 rfl rfl (by omega) (by decide) (vw_tu hr1 (by omega) h3.2.2) dX5_turn_49 rfl rfl ?_
      refine g_aload_n X 0 51 dX5_turn_50 rfl rfl rfl ?_
      refine g_get X hiX5 0 2 54 rfl rfl (by decide) (List.mem_of_getElem? (i := 3) rfl) rfl dX5_turn_51 rfl ?_
      refine g_getN X hN hiX0 1 1 57 rfl rfl (by decide) (by decide +kernel) rfl dX5_turn_54 rfl ?_
      refine g_getN X hN hiX3 2 4 60 rfl rfl (by decide) (by decide +kernel) rfl dX5_turn_57 rfl ?_
      refine g_iload_n X 1 61 dX5_turn_60 rfl rfl rfl ?_
      refine g_zald X 6 1 (ir) (nI (S (100 + 5 * ir + 2))) 62 rfl rfl (by omega) (by decide) ((vw_at hr1).trans (congrArg nI (by rw [up_s]; omega))) dX5_turn_61 rfl ?_
      refine g_w (kc' := rm_X5_turn.cells) (ks' := rm_X5_turn.slots) (by first | decide | omega) (by first | decide | omega) ?_
      exact ret _ _ _ _ dX5_turn_62 (bn_1 _ (by omega)) ⟨hE, rfl, by rw [vr_q (q := 0) (q' := 2) (by decide) (by decide) (by decide), vr_q (q := 1) (q' := 2) (by decide) (by decide) (by decide), vr_q (q := 3) (q' := 2) (by decide) (by decide) (by decide), vr_q (q := 4) (q' := 2) (by decide) (by decide) (by decide), up_n (j := 0) (by omega), up_n (j := 1) (by omega), up_n (j := 2) (by omega), up_n (j := 3) (by omega)]⟩
  · exact thr _ _ _ _ xI "no such rope" 40 109 44 thI_f (List.mem_of_getElem? (i := 1) rfl) (List.mem_of_getElem? (i := 2) rfl) (by decide +kernel) thI_e (fun _ h => List.mem_cons_of_mem _ (List.mem_append_right _ h)) thI_n thI_g dX5_turn_8 dX5_turn_11 dX5_turn_12 dX5_turn_14 dX5_turn_17 rfl (by decide) (by decide) (by decide) (by decide) (⟨rfl, if_pos (h5)⟩)

abbrev rm_X5_wipe : Room := { frames := 6, cells := 1, slots := 6, locals := 100 }
set_option maxHeartbeats 4000000 in
set_option maxRecDepth 100000 in
/-- wipe -/
theorem m_X5_wipe (l : Launch) (hfl : l.stackTraces = false) (D : va_G) (cI cZ cJ : ClassId) (gr v f k ak : Nat) (z0 z1 z2 z3 z4 nw : Nat) (T : Nat → Nat) (g a b : Nat) (S : Nat → Nat) (w : Int32) (hs : sootOk S) (hn : nw ≤ 6) (hT : ∀ k : Nat, k < nw → winOk T k) : MX l yX5_wipe wsX5_wipe rm_X5_wipe D (gT cI cZ cJ) [(gr, .inr (5, [.ref v, .ref f, .ref k, .ref ak])), (v, .inr (4, [.int (nI nw), .ref z0, .ref z1, .ref z2, .ref z3, .ref z4])), (z0, .inl (cI, 6, .inl (vt 0 T))), (z1, .inl (cI, 6, .inl (vt 1 T))), (z2, .inl (cI, 6, .inl (vt 2 T))), (z3, .inl (cI, 6, .inl (vt 3 T))), (z4, .inl (cI, 6, .inl (vt 4 T))), (k, .inr (0, [.ref g, .ref b, .int (nI (S 1)), .int (nI (S 0)), .int (nI (S 2)), .int (nI (S 3))])), (g, .inr (2, [.ref a])), (a, .inl (cI, 96, .inl (vs S)))] [.ref gr, .int w] (fun r9 u9 => oneE nw w = 0 ∧ r9 = nI (addW S T (tn w)) ∧ u9 = [(gr, .inr (5, [.ref v, .ref f, .ref k, .ref ak])), (v, .inr (4, [.int (nI nw), .ref z0, .ref z1, .ref z2, .ref z3, .ref z4])), (z0, .inl (cI, 6, .inl (vt 0 T))), (z1, .inl (cI, 6, .inl (vt 1 T))), (z2, .inl (cI, 6, .inl (vt 2 T))), (z3, .inl (cI, 6, .inl (vt 3 T))), (z4, .inl (cI, 6, .inl (vt 4 T))), (k, .inr (0, [.ref g, .ref b, .int (nI ((wp S T (tn w)) 1)), .int (nI ((wp S T (tn w)) 0)), .int (nI ((wp S T (tn w)) 2)), .int (nI ((wp S T (tn w)) 3))])), (g, .inr (2, [.ref a])), (a, .inl (cI, 96, .inl (vs (wp S T (tn w)))))]) (fun E => (E = xI ∧ oneE nw w = 1)) := by
  refine MX_of hfl [(0, .ref gr), (1, .int w)] (by decide) rfl (Nat.le_of_ble_eq_true rfl) rfl ?_
  intro p e s m args below meth c A Q X hN ret thr
  have hiX0 : ∀ w ∈ wsX00, w ∈ wsX5_wipe := (fun _ h => List.mem_cons_of_mem _ (List.mem_append_left _ (List.mem_append_left _ (List.mem_append_left _ (List.mem_append_right _ h)))))
  have hiX5 : ∀ w ∈ wsX50, w ∈ wsX5_wipe := (fun _ h => List.mem_cons_of_mem _ (List.mem_append_left _ (List.mem_append_left _ (List.mem_append_left _ (List.mem_append_left _ (List.mem_append_right _ h))))))
  refine g_aload_n X 0 1 dX5_wipe_0 rfl rfl rfl ?_
  refine g_iload_n X 1 2 dX5_wipe_1 rfl rfl rfl ?_
  refine g_callVNi (ws' := [(gr, .inr (5, [.ref v, .ref f, .ref k, .ref ak])), (v, .inr (4, [.int (nI nw), .ref z0, .ref z1, .ref z2, .ref z3, .ref z4])), (z0, .inl (cI, 6, .inl (vt 0 T))), (z1, .inl (cI, 6, .inl (vt 1 T))), (z2, .inl (cI, 6, .inl (vt 2 T))), (z3, .inl (cI, 6, .inl (vt 3 T))), (z4, .inl (cI, 6, .inl (vt 4 T))), (k, .inr (0, [.ref g, .ref b, .int (nI (S 1)), .int (nI (S 0)), .int (nI (S 2)), .int (nI (S 3))])), (g, .inr (2, [.ref a])), (a, .inl (cI, 96, .inl (vs S)))]) X hN (m_X5_isWindow l D cI cZ cJ gr v f k ak z0 z1 z2 z3 z4 nw T w) 5 [0, 1, 2, 3, 4, 5, 6] gX5_wipe_X5_isWindow (n := 1) rfl (by decide +kernel) rfl ⟨Nat.le_of_ble_eq_true rfl, Nat.le_of_ble_eq_true rfl⟩ (ci := 5) (q0 := 0) rfl rfl rfl (Nat.le_of_ble_eq_true rfl) rfl (by decide +kernel) rfl (putB_id rfl) dX5_wipe_2 rfl ⟨Nat.le_of_ble_eq_true rfl, Nat.le_of_ble_eq_true rfl⟩ ?_
  refine g_if_ne X 8 18 dX5_wipe_5 rfl (by decide) (bn_dec decide_eq_true_iff) (fun h5 => ?_) (fun h5 => ?_)
  · have hA : isR nw w := Classical.not_not.mp h5
    have hE : oneE nw w = 0 := if_neg (fun z => z hA)
    obtain ⟨iw, hw1, rfl⟩ := isR_nat hA (by omega)
    rw [tn_nI (show iw < 2 ^ 31 by omega)] at ret
    refine g_aload_n X 0 19 dX5_wipe_18 rfl rfl rfl ?_
    refine g_get X hiX5 0 0 22 rfl rfl (by decide) (List.mem_of_getElem? (i := 3) rfl) rfl dX5_wipe_19 rfl ?_
    refine g_iload_n X 1 23 dX5_wipe_22 rfl rfl rfl ?_
    refine g_aload_n X 0 24 dX5_wipe_23 rfl rfl rfl ?_
    refine g_get X hiX5 0 2 27 rfl rfl (by decide) (List.mem_of_getElem? (i := 4) rfl) rfl dX5_wipe_24 rfl ?_
    refine g_getN X hN hiX0 7 0 30 rfl rfl (by decide) (by decide +kernel) rfl dX5_wipe_27 rfl ?_
    refine g_callVi (ws' := [(gr, .inr (5, [.ref v, .ref f, .ref k, .ref ak])), (v, .inr (4, [.int (nI nw), .ref z0, .ref z1, .ref z2, .ref z3, .ref z4])), (z0, .inl (cI, 6, .inl (vt 0 T))), (z1, .inl (cI, 6, .inl (vt 1 T))), (z2, .inl (cI, 6, .inl (vt 2 T))), (z3, .inl (cI, 6, .inl (vt 3 T))), (z4, .inl (cI, 6, .inl (vt 4 T))), (k, .inr (0, [.ref g, .ref b, .int (nI (S 1)), .int (nI (S 0)), .int (nI (S 2)), .int (nI (S 3))])), (g, .inr (2, [.ref a])), (a, .inl (cI, 96, .inl (vs (wp S T iw))))]) X (m_X4_wipeOff l D cI cZ cJ v z0 z1 z2 z3 z4 nw T g a S iw hs (hT iw hw1) (by omega)) 33 [1, 2, 3, 4, 5, 6, 8, 9] gX5_wipe_X4_wipeOff (n := 2) rfl (by decide +kernel) rfl ⟨Nat.le_of_ble_eq_true rfl, Nat.le_of_ble_eq_true rfl⟩ (ci := 4) (q0 := 0) rfl rfl rfl (Nat.le_of_ble_eq_true rfl) rfl (by decide +kernel) rfl ((putB_mg [none, some (v, .inr (4, [.int (nI nw), .ref z0, .ref z1, .ref z2, .ref z3, .ref z4])), some (z0, .inl (cI, 6, .inl (vt 0 T))), some (z1, .inl (cI, 6, .inl (vt 1 T))), some (z2, .inl (cI, 6, .inl (vt 2 T))), some (z3, .inl (cI, 6, .inl (vt 3 T))), some (z4, .inl (cI, 6, .inl (vt 4 T))), none, some (g, .inr (2, [.ref a])), some (a, .inl (cI, 96, .inl (vs (wp S T iw))))] [false, true, true, true, true, true, true, false, true, true] rfl (by decide +kernel) rfl rfl rfl (by decide +kernel)).trans rfl) dX5_wipe_30 rfl ⟨Nat.le_of_ble_eq_true rfl, Nat.le_of_ble_eq_true rfl⟩ ?_
    refine g_w (kc' := rm_X5_wipe.cells) (ks' := rm_X5_wipe.slots) (by first | decide | omega) (by first | decide | omega) ?_
    exact ret _ _ _ _ dX5_wipe_33 rfl ⟨hE, rfl, by unfold wp; rw [wpU_lo (k := 0) (by decide), wpU_lo (k := 1) (by decide), wpU_lo (k := 2) (by decide), wpU_lo (k := 3) (by decide)]⟩
  · exact thr _ _ _ _ xI "no such window" 40 118 44 thI_f (List.mem_of_getElem? (i := 1) rfl) (List.mem_of_getElem? (i := 2) rfl) (by decide +kernel) thI_e (fun _ h => List.mem_cons_of_mem _ (List.mem_append_right _ h)) thI_n thI_g dX5_wipe_8 dX5_wipe_11 dX5_wipe_12 dX5_wipe_14 dX5_wipe_17 rfl (by decide) (by decide) (by decide) (by decide) (⟨rfl, if_pos (h5)⟩)

abbrev rm_X5_pass : Room := { frames := 6, cells := 1, slots := 6, locals := 139 }
set_option maxHeartbeats 4000000 in
set_option maxRecDepth 100000 in
/-- pass -/
theorem m_X5_pass (l : Launch) (hfl : l.stackTraces = false) (D : va_G) (cI cZ cJ : ClassId) (gr v f k ak : Nat) (g a b b0 b1 b2 b3 b4 b5 nr : Nat) (S st : Nat → Nat) (z0 z1 z2 z3 z4 nw : Nat) (T : Nat → Nat) (f0 f1 nf : Nat) (fe fo : Nat → Nat) (d : Int32) (hg : Gd S nr) (hs : stOk T st fe fo nw nr nf) (hd : S 0 < 2 ^ 28) : MX l yX5_pass wsX5_pass rm_X5_pass D (gT cI cZ cJ) [(gr, .inr (5, [.ref v, .ref f, .ref k, .ref ak])), (k, .inr (0, [.ref g, .ref b, .int (nI (S 1)), .int (nI (S 0)), .int (nI (S 2)), .int (nI (S 3))])), (g, .inr (2, [.ref a])), (a, .inl (cI, 96, .inl (vs S))), (b, .inr (3, [.int (nI nr), .ref b0, .ref b1, .ref b2, .ref b3, .ref b4, .ref b5])), (b0, .inl (cI, 6, .inl (vr 0 S))), (b1, .inl (cI, 6, .inl (vr 1 S))), (b2, .inl (cI, 6, .inl (v6 st))), (b3, .inl (cZ, 6, .inl (vw nr S))), (b4, .inl (cI, 6, .inl (vr 3 S))), (b5, .inl (cI, 6, .inl (vr 4 S))), (v, .inr (4, [.int (nI nw), .ref z0, .ref z1, .ref z2, .ref z3, .ref z4])), (z0, .inl (cI, 6, .inl (vt 0 T))), (z1, .inl (cI, 6, .inl (vt 1 T))), (z2, .inl (cI, 6, .inl (vt 2 T))), (z3, .inl (cI, 6, .inl (vt 3 T))), (z4, .inl (cI, 6, .inl (vt 4 T))), (f, .inr (1, [.int (nI nf), .ref f0, .ref f1])), (f0, .inl (cI, 4, .inl (v4 fe))), (f1, .inl (cI, 4, .inl (v4 fo)))] [.ref gr, .int d] (fun r9 u9 => pasE d = 0 ∧ r9 = nI (daysS T st fe fo nw nr nf S (tn d) 2) - nI (S 2) ∧ u9 = [(gr, .inr (5, [.ref v, .ref f, .ref k, .ref ak])), (k, .inr (0, [.ref g, .ref b, .int (nI ((daysS T st fe fo nw nr nf S (tn d)) 1)), .int (nI ((daysS T st fe fo nw nr nf S (tn d)) 0)), .int (nI ((daysS T st fe fo nw nr nf S (tn d)) 2)), .int (nI ((daysS T st fe fo nw nr nf S (tn d)) 3))])), (g, .inr (2, [.ref a])), (a, .inl (cI, 96, .inl (vs (daysS T st fe fo nw nr nf S (tn d))))), (b, .inr (3, [.int (nI nr), .ref b0, .ref b1, .ref b2, .ref b3, .ref b4, .ref b5])), (b0, .inl (cI, 6, .inl (vr 0 (daysS T st fe fo nw nr nf S (tn d))))), (b1, .inl (cI, 6, .inl (vr 1 (daysS T st fe fo nw nr nf S (tn d))))), (b2, .inl (cI, 6, .inl (v6 st))), (b3, .inl (cZ, 6, .inl (vw nr (daysS T st fe fo nw nr nf S (tn d))))), (b4, .inl (cI, 6, .inl (vr 3 (daysS T st fe fo nw nr nf S (tn d))))), (b5, .inl (cI, 6, .inl (vr 4 (daysS T st fe fo nw nr nf S (tn d))))), (v, .inr (4, [.int (nI nw), .ref z0, .ref z1, .ref z2, .ref z3, .ref z4])), (z0, .inl (cI, 6, .inl (vt 0 T))), (z1, .inl (cI, 6, .inl (vt 1 T))), (z2, .inl (cI, 6, .inl (vt 2 T))), (z3, .inl (cI, 6, .inl (vt 3 T))), (z4, .inl (cI, 6, .inl (vt 4 T))), (f, .inr (1, [.int (nI nf), .ref f0, .ref f1])), (f0, .inl (cI, 4, .inl (v4 fe))), (f1, .inl (cI, 4, .inl (v4 fo)))]) (fun E => (E = xA ∧ pasE d = 1)) := by
  refine MX_of hfl [(0, .ref gr), (1, .int d)] (by decide) rfl (Nat.le_of_ble_eq_true rfl) rfl ?_
  intro p e s m args below meth c A Q X hN ret thr
  have hiX0 : ∀ w ∈ wsX00, w ∈ wsX5_pass := (fun _ h => List.mem_cons_of_mem _ (List.mem_append_left _ (List.mem_append_left _ (List.mem_append_left _ (List.mem_append_left _ (List.mem_append_left _ (List.mem_append_right _ h)))))))
  have hiX5 : ∀ w ∈ wsX50, w ∈ wsX5_pass := (fun _ h => List.mem_cons_of_mem _ (List.mem_append_left _ (List.mem_append_left _ (List.mem_append_left _ (List.mem_append_left _ (List.mem_append_left _ (List.mem_append_left _ (List.mem_append_right _ h))))))))
  refine g_iload_n X 1 1 dX5_pass_0 rfl rfl rfl ?_
  refine g_iconst X (nI 1) 2 dX5_pass_1 rfl (by decide +kernel) ?_
  refine g_icmp_lt X 5 11 dX5_pass_2 rfl (by decide) Iff.rfl (fun h2 => ?_) (fun h2 => ?_)
  · exact thr _ _ _ _ xA "days is out of its range" 33 128 37 thA_f (List.mem_of_getElem? (i := 1) rfl) (List.mem_of_getElem? (i := 2) rfl) (by decide +kernel) thA_e (fun _ h => List.mem_cons_of_mem _ (List.mem_append_right _ h)) thA_n thA_g dX5_pass_11 dX5_pass_14 dX5_pass_15 dX5_pass_17 dX5_pass_20 rfl (by decide) (by decide) (by decide) (by decide) (⟨rfl, if_pos (fun z => ln z.1 h2)⟩)
  · refine g_iload_n X 1 6 dX5_pass_5 rfl rfl rfl ?_
    refine g_bipush X (nI 40) 8 dX5_pass_6 rfl (by decide +kernel) ?_
    refine g_icmp_le X 11 21 dX5_pass_8 rfl (by decide) Iff.rfl (fun h8 => ?_) (fun h8 => ?_)
    · have hA : inR d (nI 1) (nI 40) := ⟨nl h2, h8⟩
      have hE : pasE d = 0 := if_neg (fun z => z hA)
      obtain ⟨id9, hd1, hd2, rfl⟩ := inR_nat hA (by decide) (by decide)
      rw [tn_nI (show id9 < 2 ^ 31 by omega)] at ret
      refine g_aload_n X 0 22 dX5_pass_21 rfl rfl rfl ?_
      refine g_get X hiX5 0 2 25 rfl rfl (by decide) (List.mem_of_getElem? (i := 3) rfl) rfl dX5_pass_22 rfl ?_
      refine g_getN X hN hiX0 1 4 28 rfl rfl (by decide) (by decide +kernel) rfl dX5_pass_25 rfl ?_
      refine g_istore_n X [(2, .int (nI (S 2))), (0, .ref gr), (1, .int (nI id9))] 29 dX5_pass_28 rfl rfl (by decide) rfl ?_
      refine g_aload_n X 1 30 dX5_pass_29 rfl rfl rfl ?_
      refine g_get X hiX5 0 2 33 rfl rfl (by decide) (List.mem_of_getElem? (i := 3) rfl) rfl dX5_pass_30 rfl ?_
      refine g_iload_n X 2 34 dX5_pass_33 rfl rfl rfl ?_
      refine g_aload_n X 1 35 dX5_pass_34 rfl rfl rfl ?_
      refine g_get X hiX5 0 0 38 rfl rfl (by decide) (List.mem_of_getElem? (i := 4) rfl) rfl dX5_pass_35 rfl ?_
      refine g_aload_n X 1 39 dX5_pass_38 rfl rfl rfl ?_
      refine g_get X hiX5 0 1 42 rfl rfl (by decide) (List.mem_of_getElem? (i := 5) rfl) rfl dX5_pass_39 rfl ?_
      refine g_callVv (ws' := [(gr, .inr (5, [.ref v, .ref f, .ref k, .ref ak])), (k, .inr (0, [.ref g, .ref b, .int (nI ((daysS T st fe fo nw nr nf S id9) 1)), .int (nI ((daysS T st fe fo nw nr nf S id9) 0)), .int (nI ((daysS T st fe fo nw nr nf S id9) 2)), .int (nI ((daysS T st fe fo nw nr nf S id9) 3))])), (g, .inr (2, [.ref a])), (a, .inl (cI, 96, .inl (vs (daysS T st fe fo nw nr nf S id9)))), (b, .inr (3, [.int (nI nr), .ref b0, .ref b1, .ref b2, .ref b3, .ref b4, .ref b5])), (b0, .inl (cI, 6, .inl (vr 0 (daysS T st fe fo nw nr nf S id9)))), (b1, .inl (cI, 6, .inl (vr 1 (daysS T st fe fo nw nr nf S id9)))), (b2, .inl (cI, 6, .inl (v6 st))), (b3, .inl (cZ, 6, .inl (vw nr (daysS T st fe fo nw nr nf S id9)))), (b4, .inl (cI, 6, .inl (vr 3 (daysS T st fe fo nw nr nf S id9)))), (b5, .inl (cI, 6, .inl (vr 4 (daysS T st fe fo nw nr nf S id9)))), (v, .inr (4, [.int (nI nw), .ref z0, .ref z1, .ref z2, .ref z3, .ref z4])), (z0, .inl (cI, 6, .inl (vt 0 T))), (z1, .inl (cI, 6, .inl (vt 1 T))), (z2, .inl (cI, 6, .inl (vt 2 T))), (z3, .inl (cI, 6, .inl (vt 3 T))), (z4, .inl (cI, 6, .inl (vt 4 T))), (f, .inr (1, [.int (nI nf), .ref f0, .ref f1])), (f0, .inl (cI, 4, .inl (v4 fe))), (f1, .inl (cI, 4, .inl (v4 fo)))]) X (m_X0_goOn l D cI cZ cJ k g a b b0 b1 b2 b3 b4 b5 nr S st v z0 z1 z2 z3 z4 nw T f f0 f1 nf fe fo id9 hg hs hd (by omega)) 45 [1, 2, 3, 4, 5, 6, 7, 8, 9, 10, 11, 12, 13, 14, 15, 16, 17, 18, 19] gX5_pass_X0_goOn (n := 3) rfl (by decide +kernel) rfl ⟨Nat.le_of_ble_eq_true rfl, Nat.le_of_ble_eq_true rfl⟩ (ci := 0) (q0 := 0) rfl rfl rfl (Nat.le_of_ble_eq_true rfl) rfl (by decide +kernel) rfl ((putB_mg [none, some (k, .inr (0, [.ref g, .ref b, .int (nI ((daysS T st fe fo nw nr nf S id9) 1)), .int (nI ((daysS T st fe fo nw nr nf S id9) 0)), .int (nI ((daysS T st fe fo nw nr nf S id9) 2)), .int (nI ((daysS T st fe fo nw nr nf S id9) 3))])), some (g, .inr (2, [.ref a])), some (a, .inl (cI, 96, .inl (vs (daysS T st fe fo nw nr nf S id9)))), some (b, .inr (3, [.int (nI nr), .ref b0, .ref b1, .ref b2, .ref b3, .ref b4, .ref b5])), some (b0, .inl (cI, 6, .inl (vr 0 (daysS T st fe fo nw nr nf S id9)))), some (b1, .inl (cI, 6, .inl (vr 1 (daysS T st fe fo nw nr nf S id9)))), some (b2, .inl (cI, 6, .inl (v6 st))), some (b3, .inl (cZ, 6, .inl (vw nr (daysS T st fe fo nw nr nf S id9)))), some (b4, .inl (cI, 6, .inl (vr 3 (daysS T st fe fo nw nr nf S id9)))), some (b5, .inl (cI, 6, .inl (vr 4 (daysS T st fe fo nw nr nf S id9)))), some (v, .inr (4, [.int (nI nw), .ref z0, .ref z1, .ref z2, .ref z3, .ref z4])), some (z0, .inl (cI, 6, .inl (vt 0 T))), some (z1, .inl (cI, 6, .inl (vt 1 T))), some (z2, .inl (cI, 6, .inl (vt 2 T))), some (z3, .inl (cI, 6, .inl (vt 3 T))), some (z4, .inl (cI, 6, .inl (vt 4 T))), some (f, .inr (1, [.int (nI nf), .ref f0, .ref f1])), some (f0, .inl (cI, 4, .inl (v4 fe))), some (f1, .inl (cI, 4, .inl (v4 fo)))] [false, true, true, true, true, true, true, true, true, true, true, true, true, true, true, true, true, true, true, true] rfl (by decide +kernel) rfl rfl rfl (by decide +kernel)).trans rfl) dX5_pass_42 rfl ⟨Nat.le_of_ble_eq_true rfl, Nat.le_of_ble_eq_true rfl⟩ ?_
      refine g_aload_n X 1 46 dX5_pass_45 rfl rfl rfl ?_
      refine g_get X hiX5 0 2 49 rfl rfl (by decide) (List.mem_of_getElem? (i := 3) rfl) rfl dX5_pass_46 rfl ?_
      refine g_getN X hN hiX0 1 4 52 rfl rfl (by decide) (by decide +kernel) rfl dX5_pass_49 rfl ?_
      refine g_iload_n X 0 53 dX5_pass_52 rfl rfl rfl ?_
      refine g_isub X ((nI ((daysS T st fe fo nw nr nf S id9) 2)) - (nI (S 2))) 54 dX5_pass_53 rfl rfl ?_
      refine g_w (kc' := rm_X5_pass.cells) (ks' := rm_X5_pass.slots) (by first | decide | omega) (by first | decide | omega) ?_
      exact ret _ _ _ _ dX5_pass_54 rfl ⟨hE, rfl, rfl⟩
    · exact thr _ _ _ _ xA "days is out of its range" 33 128 37 thA_f (List.mem_of_getElem? (i := 1) rfl) (List.mem_of_getElem? (i := 2) rfl) (by decide +kernel) thA_e (fun _ h => List.mem_cons_of_mem _ (List.mem_append_right _ h)) thA_n thA_g dX5_pass_11 dX5_pass_14 dX5_pass_15 dX5_pass_17 dX5_pass_20 rfl (by decide) (by decide) (by decide) (by decide) (⟨rfl, if_pos (fun z => h8 z.2)⟩)

abbrev rm_X5_soot : Room := { frames := 6, cells := 1, slots := 6, locals := 100 }
set_option maxHeartbeats 4000000 in
set_option maxRecDepth 100000 in
/-- soot -/
theorem m_X5_soot (l : Launch) (hfl : l.stackTraces = false) (D : va_G) (cI cZ cJ : ClassId) (gr v f k ak : Nat) (g a b : Nat) (S : Nat → Nat) (x r : Int32)  : MX l yX5_soot wsX5_soot rm_X5_soot D (gT cI cZ cJ) [(gr, .inr (5, [.ref v, .ref f, .ref k, .ref ak])), (k, .inr (0, [.ref g, .ref b, .int (nI (S 1)), .int (nI (S 0)), .int (nI (S 2)), .int (nI (S 3))])), (g, .inr (2, [.ref a])), (a, .inl (cI, 96, .inl (vs S)))] [.ref gr, .int x, .int r] (fun r9 u9 => twoE 12 8 x r = 0 ∧ r9 = nI (S (4 + (tn x * 8 + tn r))) ∧ u9 = [(gr, .inr (5, [.ref v, .ref f, .ref k, .ref ak])), (k, .inr (0, [.ref g, .ref b, .int (nI (S 1)), .int (nI (S 0)), .int (nI (S 2)), .int (nI (S 3))])), (g, .inr (2, [.ref a])), (a, .inl (cI, 96, .inl (vs S)))]) (fun E => (E = xI ∧ twoE 12 8 x r = 1)) := by
  refine MX_of hfl [(0, .ref gr), (1, .int x), (2, .int r)] (by decide) rfl (Nat.le_of_ble_eq_true rfl) rfl ?_
  intro p e s m args below meth c A Q X hN ret thr
  have hiX0 : ∀ w ∈ wsX00, w ∈ wsX5_soot := (fun _ h => List.mem_cons_of_mem _ (List.mem_append_left _ (List.mem_append_left _ (List.mem_append_right _ h))))
  have hiX5 : ∀ w ∈ wsX50, w ∈ wsX5_soot := (fun _ h => List.mem_cons_of_mem _ (List.mem_append_left _ (List.mem_append_left _ (List.mem_append_left _ (List.mem_append_right _ h)))))
  refine g_iload_n X 1 1 dX5_soot_0 rfl rfl rfl ?_
  refine g_callSi (ws' := [(gr, .inr (5, [.ref v, .ref f, .ref k, .ref ak])), (k, .inr (0, [.ref g, .ref b, .int (nI (S 1)), .int (nI (S 0)), .int (nI (S 2)), .int (nI (S 3))])), (g, .inr (2, [.ref a])), (a, .inl (cI, 96, .inl (vs S)))]) X (m_X5_isColumn l D cI cZ cJ x) 4 [] gX5_soot_X5_isColumn (n := 1) rfl (by decide +kernel) rfl ⟨Nat.le_of_ble_eq_true rfl, Nat.le_of_ble_eq_true rfl⟩ rfl (Nat.le_of_ble_eq_true rfl) rfl (by decide +kernel) rfl rfl dX5_soot_1 rfl ⟨Nat.le_of_ble_eq_true rfl, Nat.le_of_ble_eq_true rfl⟩ ?_
  refine g_if_eq X 7 17 dX5_soot_4 rfl (by decide) (bn_dec decide_eq_true_iff) (fun h4 => ?_) (fun h4 => ?_)
  · exact thr _ _ _ _ xI "no such pane" 40 137 44 thI_f (List.mem_of_getElem? (i := 1) rfl) (List.mem_of_getElem? (i := 2) rfl) (by decide +kernel) thI_e (fun _ h => List.mem_cons_of_mem _ (List.mem_append_right _ h)) thI_n thI_g dX5_soot_17 dX5_soot_20 dX5_soot_21 dX5_soot_23 dX5_soot_26 rfl (by decide) (by decide) (by decide) (by decide) (⟨rfl, if_pos (fun z => h4 z.1)⟩)
  · refine g_iload_n X 2 8 dX5_soot_7 rfl rfl rfl ?_
    refine g_if_lt X 11 17 dX5_soot_8 rfl (by decide) (z_ltr _) (fun h8 => ?_) (fun h8 => ?_)
    · exact thr _ _ _ _ xI "no such pane" 40 137 44 thI_f (List.mem_of_getElem? (i := 1) rfl) (List.mem_of_getElem? (i := 2) rfl) (by decide +kernel) thI_e (fun _ h => List.mem_cons_of_mem _ (List.mem_append_right _ h)) thI_n thI_g dX5_soot_17 dX5_soot_20 dX5_soot_21 dX5_soot_23 dX5_soot_26 rfl (by decide) (by decide) (by decide) (by decide) (⟨rfl, if_pos (fun z => ln z.2.1 h8)⟩)
    · refine g_iload_n X 2 12 dX5_soot_11 rfl rfl rfl ?_
      refine g_bipush X (nI 8) 14 dX5_soot_12 rfl (by decide +kernel) ?_
      refine g_icmp_lt X 17 27 dX5_soot_14 rfl (by decide) Iff.rfl (fun h14 => ?_) (fun h14 => ?_)
      · have hA : isR 12 x ∧ isR 8 r := ⟨Classical.not_not.mp h4, nl h8, h14⟩
        have hE : twoE 12 8 x r = 0 := if_neg (fun z => z hA)
        obtain ⟨ix, hx1, rfl⟩ := isR_nat hA.1 (by decide)
        obtain ⟨ir, hr1, rfl⟩ := isR_nat hA.2 (by decide)
        rw [tn_nI (show ix < 2 ^ 31 by omega), tn_nI (show ir < 2 ^ 31 by omega)] at ret
        refine g_aload_n X 0 28 dX5_soot_27 rfl rfl rfl ?_
        refine g_get X hiX5 0 2 31 rfl rfl (by decide) (List.mem_of_getElem? (i := 3) rfl) rfl dX5_soot_28 rfl ?_
        refine g_getN X hN hiX0 1 0 34 rfl rfl (by decide) (by decide +kernel) rfl dX5_soot_31 rfl ?_
        refine g_iload_n X 1 35 dX5_soot_34 rfl rfl rfl ?_
        refine g_iload_n X 2 36 dX5_soot_35 rfl rfl rfl ?_
        refine g_callVi (ws' := [(gr, .inr (5, [.ref v, .ref f, .ref k, .ref ak])), (k, .inr (0, [.ref g, .ref b, .int (nI (S 1)), .int (nI (S 0)), .int (nI (S 2)), .int (nI (S 3))])), (g, .inr (2, [.ref a])), (a, .inl (cI, 96, .inl (vs S)))]) X (m_X2_at l D cI cZ cJ g a ix ir S hx1 hr1) 39 [2, 3] gX5_soot_X2_at (n := 2) rfl (by decide +kernel) rfl ⟨Nat.le_of_ble_eq_true rfl, Nat.le_of_ble_eq_true rfl⟩ (ci := 2) (q0 := 0) rfl rfl rfl (Nat.le_of_ble_eq_true rfl) rfl (by decide +kernel) rfl rfl dX5_soot_36 rfl ⟨Nat.le_of_ble_eq_true rfl, Nat.le_of_ble_eq_true rfl⟩ ?_
        refine g_w (kc' := rm_X5_soot.cells) (ks' := rm_X5_soot.slots) (by first | decide | omega) (by first | decide | omega) ?_
        exact ret _ _ _ _ dX5_soot_39 rfl ⟨hE, rfl, rfl⟩
      · exact thr _ _ _ _ xI "no such pane" 40 137 44 thI_f (List.mem_of_getElem? (i := 1) rfl) (List.mem_of_getElem? (i := 2) rfl) (by decide +kernel) thI_e (fun _ h => List.mem_cons_of_mem _ (List.mem_append_right _ h)) thI_n thI_g dX5_soot_17 dX5_soot_20 dX5_soot_21 dX5_soot_23 dX5_soot_26 rfl (by decide) (by decide) (by decide) (by decide) (⟨rfl, if_pos (fun z => h14 z.2.2)⟩)

abbrev rm_X5_about : Room := { frames := 6, cells := 1, slots := 6, locals := 100 }
set_option maxHeartbeats 4000000 in
set_option maxRecDepth 100000 in
/-- about -/
theorem m_X5_about (l : Launch) (hfl : l.stackTraces = false) (D : va_G) (cI cZ cJ : ClassId) (gr v f k ak : Nat) (z0 z1 z2 z3 z4 nw : Nat) (T : Nat → Nat) (g a b : Nat) (S : Nat → Nat) (w wh : Int32) (hs : sootOk S) (hn : nw ≤ 6) (hT : ∀ k : Nat, k < nw → winOk T k) : MX l yX5_about wsX5_about rm_X5_about D (gT cI cZ cJ) [(gr, .inr (5, [.ref v, .ref f, .ref k, .ref ak])), (v, .inr (4, [.int (nI nw), .ref z0, .ref z1, .ref z2, .ref z3, .ref z4])), (z0, .inl (cI, 6, .inl (vt 0 T))), (z1, .inl (cI, 6, .inl (vt 1 T))), (z2, .inl (cI, 6, .inl (vt 2 T))), (z3, .inl (cI, 6, .inl (vt 3 T))), (z4, .inl (cI, 6, .inl (vt 4 T))), (k, .inr (0, [.ref g, .ref b, .int (nI (S 1)), .int (nI (S 0)), .int (nI (S 2)), .int (nI (S 3))])), (g, .inr (2, [.ref a])), (a, .inl (cI, 96, .inl (vs S)))] [.ref gr, .int w, .int wh] (fun r9 u9 => twoE nw 8 w wh = 0 ∧ r9 = nI (abt S T (tn w) (tn wh)) ∧ u9 = [(gr, .inr (5, [.ref v, .ref f, .ref k, .ref ak])), (v, .inr (4, [.int (nI nw), .ref z0, .ref z1, .ref z2, .ref z3, .ref z4])), (z0, .inl (cI, 6, .inl (vt 0 T))), (z1, .inl (cI, 6, .inl (vt 1 T))), (z2, .inl (cI, 6, .inl (vt 2 T))), (z3, .inl (cI, 6, .inl (vt 3 T))), (z4, .inl (cI, 6, .inl (vt 4 T))), (k, .inr (0, [.ref g, .ref b, .int (nI (S 1)), .int (nI (S 0)), .int (nI (S 2)), .int (nI (S 3))])), (g, .inr (2, [.ref a])), (a, .inl (cI, 96, .inl (vs S)))]) (fun E => (E = xI ∧ twoE nw 8 w wh = 1)) := by
  refine MX_of hfl [(0, .ref gr), (1, .int w), (2, .int wh)] (by decide) rfl (Nat.le_of_ble_eq_true rfl) rfl ?_
  intro p e s m args below meth c A Q X hN ret thr
  have hiX0 : ∀ w ∈ wsX00, w ∈ wsX5_about := (fun _ h => List.mem_cons_of_mem _ (List.mem_append_left _ (List.mem_append_left _ (List.mem_append_left _ (List.mem_append_right _ h)))))
  have hiX5 : ∀ w ∈ wsX50, w ∈ wsX5_about := (fun _ h => List.mem_cons_of_mem _ (List.mem_append_left _ (List.mem_append_left _ (List.mem_append_left _ (List.mem_append_left _ (List.mem_append_right _ h))))))
  refine g_aload_n X 0 1 dX5_about_0 rfl rfl rfl ?_
  refine g_iload_n X 1 2 dX5_about_1 rfl rfl rfl ?_
  refine g_callVNi (ws' := [(gr, .inr (5, [.ref v, .ref f, .ref k, .ref ak])), (v, .inr (4, [.int (nI nw), .ref z0, .ref z1, .ref z2, .ref z3, .ref z4])), (z0, .inl (cI, 6, .inl (vt 0 T))), (z1, .inl (cI, 6, .inl (vt 1 T))), (z2, .inl (cI, 6, .inl (vt 2 T))), (z3, .inl (cI, 6, .inl (vt 3 T))), (z4, .inl (cI, 6, .inl (vt 4 T))), (k, .inr (0, [.ref g, .ref b, .int (nI (S 1)), .int (nI (S 0)), .int (nI (S 2)), .int (nI (S 3))])), (g, .inr (2, [.ref a])), (a, .inl (cI, 96, .inl (vs S)))]) X hN (m_X5_isWindow l D cI cZ cJ gr v f k ak z0 z1 z2 z3 z4 nw T w) 5 [0, 1, 2, 3, 4, 5, 6] gX5_about_X5_isWindow (n := 1) rfl (by decide +kernel) rfl ⟨Nat.le_of_ble_eq_true rfl, Nat.le_of_ble_eq_true rfl⟩ (ci := 5) (q0 := 0) rfl rfl rfl (Nat.le_of_ble_eq_true rfl) rfl (by decide +kernel) rfl (putB_id rfl) dX5_about_2 rfl ⟨Nat.le_of_ble_eq_true rfl, Nat.le_of_ble_eq_true rfl⟩ ?_
  refine g_if_eq X 8 18 dX5_about_5 rfl (by decide) (bn_dec decide_eq_true_iff) (fun h5 => ?_) (fun h5 => ?_)
  · exact thr _ _ _ _ xI "no such window or number" 40 144 44 thI_f (List.mem_of_getElem? (i := 1) rfl) (List.mem_of_getElem? (i := 2) rfl) (by decide +kernel) thI_e (fun _ h => List.mem_cons_of_mem _ (List.mem_append_right _ h)) thI_n thI_g dX5_about_18 dX5_about_21 dX5_about_22 dX5_about_24 dX5_about_27 rfl (by decide) (by decide) (by decide) (by decide) (⟨rfl, if_pos (fun z => h5 z.1)⟩)
  · refine g_iload_n X 2 9 dX5_about_8 rfl rfl rfl ?_
    refine g_if_lt X 12 18 dX5_about_9 rfl (by decide) (z_ltr _) (fun h9 => ?_) (fun h9 => ?_)
    · exact thr _ _ _ _ xI "no such window or number" 40 144 44 thI_f (List.mem_of_getElem? (i := 1) rfl) (List.mem_of_getElem? (i := 2) rfl) (by decide +kernel) thI_e (fun _ h => List.mem_cons_of_mem _ (List.mem_append_right _ h)) thI_n thI_g dX5_about_18 dX5_about_21 dX5_about_22 dX5_about_24 dX5_about_27 rfl (by decide) (by decide) (by decide) (by decide) (⟨rfl, if_pos (fun z => ln z.2.1 h9)⟩)
    · refine g_iload_n X 2 13 dX5_about_12 rfl rfl rfl ?_
      refine g_bipush X (nI 8) 15 dX5_about_13 rfl (by decide +kernel) ?_
      refine g_icmp_lt X 18 28 dX5_about_15 rfl (by decide) Iff.rfl (fun h15 => ?_) (fun h15 => ?_)
      · have hA : isR nw w ∧ isR 8 wh := ⟨Classical.not_not.mp h5, nl h9, h15⟩
        have hE : twoE nw 8 w wh = 0 := if_neg (fun z => z hA)
        obtain ⟨iw, hw1, rfl⟩ := isR_nat hA.1 (by omega)
        obtain ⟨ih, hh1, rfl⟩ := isR_nat hA.2 (by decide)
        rw [tn_nI (show iw < 2 ^ 31 by omega), tn_nI (show ih < 2 ^ 31 by omega)] at ret
        refine g_aload_n X 0 29 dX5_about_28 rfl rfl rfl ?_
        refine g_get X hiX5 0 0 32 rfl rfl (by decide) (List.mem_of_getElem? (i := 3) rfl) rfl dX5_about_29 rfl ?_
        refine g_iload_n X 1 33 dX5_about_32 rfl rfl rfl ?_
        refine g_iload_n X 2 34 dX5_about_33 rfl rfl rfl ?_
        refine g_aload_n X 0 35 dX5_about_34 rfl rfl rfl ?_
        refine g_get X hiX5 0 2 38 rfl rfl (by decide) (List.mem_of_getElem? (i := 4) rfl) rfl dX5_about_35 rfl ?_
        refine g_getN X hN hiX0 7 0 41 rfl rfl (by decide) (by decide +kernel) rfl dX5_about_38 rfl ?_
        refine g_callVi (ws' := [(gr, .inr (5, [.ref v, .ref f, .ref k, .ref ak])), (v, .inr (4, [.int (nI nw), .ref z0, .ref z1, .ref z2, .ref z3, .ref z4])), (z0, .inl (cI, 6, .inl (vt 0 T))), (z1, .inl (cI, 6, .inl (vt 1 T))), (z2, .inl (cI, 6, .inl (vt 2 T))), (z3, .inl (cI, 6, .inl (vt 3 T))), (z4, .inl (cI, 6, .inl (vt 4 T))), (k, .inr (0, [.ref g, .ref b, .int (nI (S 1)), .int (nI (S 0)), .int (nI (S 2)), .int (nI (S 3))])), (g, .inr (2, [.ref a])), (a, .inl (cI, 96, .inl (vs S)))]) X (m_X4_number l D cI cZ cJ v z0 z1 z2 z3 z4 nw T g a S iw ih hs (hT iw hw1) (by omega) hh1) 44 [1, 2, 3, 4, 5, 6, 8, 9] gX5_about_X4_number (n := 3) rfl (by decide +kernel) rfl ⟨Nat.le_of_ble_eq_true rfl, Nat.le_of_ble_eq_true rfl⟩ (ci := 4) (q0 := 0) rfl rfl rfl (Nat.le_of_ble_eq_true rfl) rfl (by decide +kernel) rfl (putB_id rfl) dX5_about_41 rfl ⟨Nat.le_of_ble_eq_true rfl, Nat.le_of_ble_eq_true rfl⟩ ?_
        refine g_w (kc' := rm_X5_about.cells) (ks' := rm_X5_about.slots) (by first | decide | omega) (by first | decide | omega) ?_
        exact ret _ _ _ _ dX5_about_44 rfl ⟨hE, rfl, rfl⟩
      · exact thr _ _ _ _ xI "no such window or number" 40 144 44 thI_f (List.mem_of_getElem? (i := 1) rfl) (List.mem_of_getElem? (i := 2) rfl) (by decide +kernel) thI_e (fun _ h => List.mem_cons_of_mem _ (List.mem_append_right _ h)) thI_n thI_g dX5_about_18 dX5_about_21 dX5_about_22 dX5_about_24 dX5_about_27 rfl (by decide) (by decide) (by decide) (by decide) (⟨rfl, if_pos (fun z => h15 z.2.2)⟩)

abbrev rm_X5_told : Room := { frames := 6, cells := 1, slots := 6, locals := 100 }
set_option maxHeartbeats 4000000 in
set_option maxRecDepth 100000 in
/-- told -/
theorem m_X5_told (l : Launch) (hfl : l.stackTraces = false) (D : va_G) (cI cZ cJ : ClassId) (gr v f k ak : Nat) (g b b0 b1 b2 b3 b4 b5 nr : Nat) (S st : Nat → Nat) (r wh : Int32) (hg : Gw S nr) : MX l yX5_told wsX5_told rm_X5_told D (gT cI cZ cJ) [(gr, .inr (5, [.ref v, .ref f, .ref k, .ref ak])), (k, .inr (0, [.ref g, .ref b, .int (nI (S 1)), .int (nI (S 0)), .int (nI (S 2)), .int (nI (S 3))])), (b, .inr (3, [.int (nI nr), .ref b0, .ref b1, .ref b2, .ref b3, .ref b4, .ref b5])), (b0, .inl (cI, 6, .inl (vr 0 S))), (b1, .inl (cI, 6, .inl (vr 1 S))), (b2, .inl (cI, 6, .inl (v6 st))), (b3, .inl (cZ, 6, .inl (vw nr S))), (b4, .inl (cI, 6, .inl (vr 3 S))), (b5, .inl (cI, 6, .inl (vr 4 S)))] [.ref gr, .int r, .int wh] (fun r9 u9 => twoE nr 6 r wh = 0 ∧ r9 = nI (tld S st (tn r) (tn wh)) ∧ u9 = [(gr, .inr (5, [.ref v, .ref f, .ref k, .ref ak])), (k, .inr (0, [.ref g, .ref b, .int (nI (S 1)), .int (nI (S 0)), .int (nI (S 2)), .int (nI (S 3))])), (b, .inr (3, [.int (nI nr), .ref b0, .ref b1, .ref b2, .ref b3, .ref b4, .ref b5])), (b0, .inl (cI, 6, .inl (vr 0 S))), (b1, .inl (cI, 6, .inl (vr 1 S))), (b2, .inl (cI, 6, .inl (v6 st))), (b3, .inl (cZ, 6, .inl (vw nr S))), (b4, .inl (cI, 6, .inl (vr 3 S))), (b5, .inl (cI, 6, .inl (vr 4 S)))]) (fun E => (E = xI ∧ twoE nr 6 r wh = 1)) := by
  refine MX_of hfl [(0, .ref gr), (1, .int r), (2, .int wh)] (by decide) rfl (Nat.le_of_ble_eq_true rfl) rfl ?_
  intro p e s m args below meth c A Q X hN ret thr
  have hiX0 : ∀ w ∈ wsX00, w ∈ wsX5_told := (fun _ h => List.mem_cons_of_mem _ (List.mem_append_left _ (List.mem_append_left _ (List.mem_append_right _ h))))
  have hiX5 : ∀ w ∈ wsX50, w ∈ wsX5_told := (fun _ h => List.mem_cons_of_mem _ (List.mem_append_left _ (List.mem_append_left _ (List.mem_append_left _ (List.mem_append_right _ h)))))
  have hn : nr ≤ 6 := hg.1
  refine g_aload_n X 0 1 dX5_told_0 rfl rfl rfl ?_
  refine g_iload_n X 1 2 dX5_told_1 rfl rfl rfl ?_
  refine g_callVNi (ws' := [(gr, .inr (5, [.ref v, .ref f, .ref k, .ref ak])), (k, .inr (0, [.ref g, .ref b, .int (nI (S 1)), .int (nI (S 0)), .int (nI (S 2)), .int (nI (S 3))])), (b, .inr (3, [.int (nI nr), .ref b0, .ref b1, .ref b2, .ref b3, .ref b4, .ref b5])), (b0, .inl (cI, 6, .inl (vr 0 S))), (b1, .inl (cI, 6, .inl (vr 1 S))), (b2, .inl (cI, 6, .inl (v6 st))), (b3, .inl (cZ, 6, .inl (vw nr S))), (b4, .inl (cI, 6, .inl (vr 3 S))), (b5, .inl (cI, 6, .inl (vr 4 S)))]) X hN (m_X5_isRope l D cI cZ cJ gr v f k ak g b b0 b1 b2 b3 b4 b5 nr S st r) 5 [0, 1, 2, 3, 4, 5, 6, 7, 8] gX5_told_X5_isRope (n := 1) rfl (by decide +kernel) rfl ⟨Nat.le_of_ble_eq_true rfl, Nat.le_of_ble_eq_true rfl⟩ (ci := 5) (q0 := 0) rfl rfl rfl (Nat.le_of_ble_eq_true rfl) rfl (by decide +kernel) rfl (putB_id rfl) dX5_told_2 rfl ⟨Nat.le_of_ble_eq_true rfl, Nat.le_of_ble_eq_true rfl⟩ ?_
  refine g_if_eq X 8 18 dX5_told_5 rfl (by decide) (bn_dec decide_eq_true_iff) (fun h5 => ?_) (fun h5 => ?_)
  · exact thr _ _ _ _ xI "no such rope or number" 40 150 44 thI_f (List.mem_of_getElem? (i := 1) rfl) (List.mem_of_getElem? (i := 2) rfl) (by decide +kernel) thI_e (fun _ h => List.mem_cons_of_mem _ (List.mem_append_right _ h)) thI_n thI_g dX5_told_18 dX5_told_21 dX5_told_22 dX5_told_24 dX5_told_27 rfl (by decide) (by decide) (by decide) (by decide) (⟨rfl, if_pos (fun z => h5 z.1)⟩)
  · refine g_iload_n X 2 9 dX5_told_8 rfl rfl rfl ?_
    refine g_if_lt X 12 18 dX5_told_9 rfl (by decide) (z_ltr _) (fun h9 => ?_) (fun h9 => ?_)
    · exact thr _ _ _ _ xI "no such rope or number" 40 150 44 thI_f (List.mem_of_getElem? (i := 1) rfl) (List.mem_of_getElem? (i := 2) rfl) (by decide +kernel) thI_e (fun _ h => List.mem_cons_of_mem _ (List.mem_append_right _ h)) thI_n thI_g dX5_told_18 dX5_told_21 dX5_told_22 dX5_told_24 dX5_told_27 rfl (by decide) (by decide) (by decide) (by decide) (⟨rfl, if_pos (fun z => ln z.2.1 h9)⟩)
    · refine g_iload_n X 2 13 dX5_told_12 rfl rfl rfl ?_
      refine g_bipush X (nI 6) 15 dX5_told_13 rfl (by decide +kernel) ?_
      refine g_icmp_lt X 18 28 dX5_told_15 rfl (by decide) Iff.rfl (fun h15 => ?_) (fun h15 => ?_)
      · have hA : isR nr r ∧ isR 6 wh := ⟨Classical.not_not.mp h5, nl h9, h15⟩
        have hE : twoE nr 6 r wh = 0 := if_neg (fun z => z hA)
        obtain ⟨ir, hr1, rfl⟩ := isR_nat hA.1 (by omega)
        obtain ⟨ih, hh1, rfl⟩ := isR_nat hA.2 (by decide)
        rw [tn_nI (show ir < 2 ^ 31 by omega), tn_nI (show ih < 2 ^ 31 by omega)] at ret
        refine g_aload_n X 0 29 dX5_told_28 rfl rfl rfl ?_
        refine g_get X hiX5 0 2 32 rfl rfl (by decide) (List.mem_of_getElem? (i := 3) rfl) rfl dX5_told_29 rfl ?_
        refine g_getN X hN hiX0 1 1 35 rfl rfl (by decide) (by decide +kernel) rfl dX5_told_32 rfl ?_
        refine g_iload_n X 1 36 dX5_told_35 rfl rfl rfl ?_
        refine g_iload_n X 2 37 dX5_told_36 rfl rfl rfl ?_
        refine g_callVi (ws' := [(gr, .inr (5, [.ref v, .ref f, .ref k, .ref ak])), (k, .inr (0, [.ref g, .ref b, .int (nI (S 1)), .int (nI (S 0)), .int (nI (S 2)), .int (nI (S 3))])), (b, .inr (3, [.int (nI nr), .ref b0, .ref b1, .ref b2, .ref b3, .ref b4, .ref b5])), (b0, .inl (cI, 6, .inl (vr 0 S))), (b1, .inl (cI, 6, .inl (vr 1 S))), (b2, .inl (cI, 6, .inl (v6 st))), (b3, .inl (cZ, 6, .inl (vw nr S))), (b4, .inl (cI, 6, .inl (vr 3 S))), (b5, .inl (cI, 6, .inl (vr 4 S)))]) X (m_X3_number l D cI cZ cJ b b0 b1 b2 b3 b4 b5 nr S st ir ih hn hr1 ((hg.2.2 ir hr1).2.2) hh1) 40 [2, 3, 4, 5, 6, 7, 8] gX5_told_X3_number (n := 2) rfl (by decide +kernel) rfl ⟨Nat.le_of_ble_eq_true rfl, Nat.le_of_ble_eq_true rfl⟩ (ci := 3) (q0 := 0) rfl rfl rfl (Nat.le_of_ble_eq_true rfl) rfl (by decide +kernel) rfl (putB_id rfl) dX5_told_37 rfl ⟨Nat.le_of_ble_eq_true rfl, Nat.le_of_ble_eq_true rfl⟩ ?_
        refine g_w (kc' := rm_X5_told.cells) (ks' := rm_X5_told.slots) (by first | decide | omega) (by first | decide | omega) ?_
        exact ret _ _ _ _ dX5_told_40 rfl ⟨hE, rfl, rfl⟩
      · exact thr _ _ _ _ xI "no such rope or number" 40 150 44 thI_f (List.mem_of_getElem? (i := 1) rfl) (List.mem_of_getElem? (i := 2) rfl) (by decide +kernel) thI_e (fun _ h => List.mem_cons_of_mem _ (List.mem_append_right _ h)) thI_n thI_g dX5_told_18 dX5_told_21 dX5_told_22 dX5_told_24 dX5_told_27 rfl (by decide) (by decide) (by decide) (by decide) (⟨rfl, if_pos (fun z => h15 z.2.2)⟩)
