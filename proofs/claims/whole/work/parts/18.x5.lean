/-! THE CLASS -/

abbrev rm_X5_isColumn : Room := { frames := 0, cells := 0, slots := 0, locals := 0 }
set_option maxHeartbeats 4000000 in
set_option maxRecDepth 100000 in
/-- is it a column -/
theorem m_X5_isColumn (l : Launch) (D : va_G) (cI cZ cJ : ClassId) (x : Int32)  : MI l yX5_isColumn wsX5_isColumn rm_X5_isColumn D (gT cI cZ cJ) [] [.int x] (fun r u => r = nI (bn (decide (isR 12 x))) ∧ u = []) := by
  refine MI_of [(0, .int x)] (by decide) rfl (Nat.le_of_ble_eq_true rfl) rfl ?_
  intro p e s m args below meth c A Q X ret
  refine g_iload_n X 0 1 dX5_isColumn_0 rfl rfl rfl ?_
  refine g_if_lt X 4 14 dX5_isColumn_1 rfl (by decide) (z_ltr _) (fun h0 => ?_) (fun h0 => ?_)
  · refine g_iconst X (nI 0) 15 dX5_isColumn_14 rfl (by decide +kernel) ?_
    refine g_eqi (y := nI (bn (decide (isR 12 x)))) (by rw [decide_eq_false (fun z => ln z.1 h0)]; rfl) ?_
    exact ret _ _ _ _ dX5_isColumn_15 (bn_nar _) ⟨rfl, rfl⟩
  · refine g_iload_n X 0 5 dX5_isColumn_4 rfl rfl rfl ?_
    refine g_bipush X (nI 12) 7 dX5_isColumn_5 rfl (by decide +kernel) ?_
    refine g_icmp_ge X 10 14 dX5_isColumn_7 rfl (by decide) Iff.rfl (fun h1 => ?_) (fun h1 => ?_)
    · refine g_iconst X (nI 0) 15 dX5_isColumn_14 rfl (by decide +kernel) ?_
      refine g_eqi (y := nI (bn (decide (isR 12 x)))) (by rw [decide_eq_false (fun z => ltn z.2 h1)]; rfl) ?_
      exact ret _ _ _ _ dX5_isColumn_15 (bn_nar _) ⟨rfl, rfl⟩
    · refine g_iconst X (nI 1) 11 dX5_isColumn_10 rfl (by decide +kernel) ?_
      refine g_goto X 15 dX5_isColumn_11 (by decide) ?_
      refine g_eqi (y := nI (bn (decide (isR 12 x)))) (by rw [decide_eq_true ⟨nl h0, nle h1⟩]; rfl) ?_
      exact ret _ _ _ _ dX5_isColumn_15 (bn_nar _) ⟨rfl, rfl⟩

abbrev rm_X5_isWindow : Room := { frames := 0, cells := 0, slots := 0, locals := 0 }
set_option maxHeartbeats 4000000 in
set_option maxRecDepth 100000 in
theorem m_X5_isWindow (l : Launch) (D : va_G) (cI cZ cJ : ClassId) (gr v f k ak : Nat) (z0 z1 z2 z3 z4 nw : Nat) (T : Nat → Nat) (x : Int32)  : MIN l yX5_isWindow wsX5_isWindow rm_X5_isWindow D (gT cI cZ cJ) [(gr, .inr (5, [.ref v, .ref f, .ref k, .ref ak])), (v, .inr (4, [.int (nI nw), .ref z0, .ref z1, .ref z2, .ref z3, .ref z4])), (z0, .inl (cI, 6, .inl (vt 0 T))), (z1, .inl (cI, 6, .inl (vt 1 T))), (z2, .inl (cI, 6, .inl (vt 2 T))), (z3, .inl (cI, 6, .inl (vt 3 T))), (z4, .inl (cI, 6, .inl (vt 4 T)))] [.ref gr, .int x] (fun r u => r = nI (bn (decide (isR nw x))) ∧ u = [(gr, .inr (5, [.ref v, .ref f, .ref k, .ref ak])), (v, .inr (4, [.int (nI nw), .ref z0, .ref z1, .ref z2, .ref z3, .ref z4])), (z0, .inl (cI, 6, .inl (vt 0 T))), (z1, .inl (cI, 6, .inl (vt 1 T))), (z2, .inl (cI, 6, .inl (vt 2 T))), (z3, .inl (cI, 6, .inl (vt 3 T))), (z4, .inl (cI, 6, .inl (vt 4 T)))]) := by
  refine MIN_of [(0, .ref gr), (1, .int x)] (by decide) rfl (Nat.le_of_ble_eq_true rfl) rfl ?_
  intro p e s m args below meth c A Q X hN ret
  have hiX4 : ∀ w ∈ wsX40, w ∈ wsX5_isWindow := by decide +kernel
  have hiX5 : ∀ w ∈ wsX50, w ∈ wsX5_isWindow := by decide +kernel
  refine g_iload_n X 1 1 dX5_isWindow_0 rfl rfl rfl ?_
  refine g_if_lt X 4 19 dX5_isWindow_1 rfl (by decide) (z_ltr _) (fun h0 => ?_) (fun h0 => ?_)
  · refine g_iconst X (nI 0) 20 dX5_isWindow_19 rfl (by decide +kernel) ?_
    refine g_eqi (y := nI (bn (decide (isR nw x)))) (by rw [decide_eq_false (fun z => ln z.1 h0)]; rfl) ?_
    exact ret _ _ _ _ dX5_isWindow_20 (bn_nar _) ⟨rfl, rfl⟩
  · refine g_iload_n X 1 5 dX5_isWindow_4 rfl rfl rfl ?_
    refine g_aload_n X 0 6 dX5_isWindow_5 rfl rfl rfl ?_
    refine g_get X hiX5 0 0 9 rfl rfl (by decide) (List.mem_of_getElem? (i := 1) rfl) rfl dX5_isWindow_6 rfl ?_
    refine g_getN X hN hiX4 1 0 12 rfl rfl (by decide) (by decide +kernel) rfl dX5_isWindow_9 rfl ?_
    refine g_icmp_ge X 15 19 dX5_isWindow_12 rfl (by decide) Iff.rfl (fun h1 => ?_) (fun h1 => ?_)
    · refine g_iconst X (nI 0) 20 dX5_isWindow_19 rfl (by decide +kernel) ?_
      refine g_eqi (y := nI (bn (decide (isR nw x)))) (by rw [decide_eq_false (fun z => ltn z.2 h1)]; rfl) ?_
      exact ret _ _ _ _ dX5_isWindow_20 (bn_nar _) ⟨rfl, rfl⟩
    · refine g_iconst X (nI 1) 16 dX5_isWindow_15 rfl (by decide +kernel) ?_
      refine g_goto X 20 dX5_isWindow_16 (by decide) ?_
      refine g_eqi (y := nI (bn (decide (isR nw x)))) (by rw [decide_eq_true ⟨nl h0, nle h1⟩]; rfl) ?_
      exact ret _ _ _ _ dX5_isWindow_20 (bn_nar _) ⟨rfl, rfl⟩

abbrev rm_X5_isRope : Room := { frames := 0, cells := 0, slots := 0, locals := 0 }
set_option maxHeartbeats 4000000 in
set_option maxRecDepth 100000 in
theorem m_X5_isRope (l : Launch) (D : va_G) (cI cZ cJ : ClassId) (gr v f k ak : Nat) (g b b0 b1 b2 b3 b4 b5 nr : Nat) (S st : Nat → Nat) (x : Int32)  : MIN l yX5_isRope wsX5_isRope rm_X5_isRope D (gT cI cZ cJ) [(gr, .inr (5, [.ref v, .ref f, .ref k, .ref ak])), (k, .inr (0, [.ref g, .ref b, .int (nI (S 1)), .int (nI (S 0)), .int (nI (S 2)), .int (nI (S 3))])), (b, .inr (3, [.int (nI nr), .ref b0, .ref b1, .ref b2, .ref b3, .ref b4, .ref b5])), (b0, .inl (cI, 6, .inl (vr 0 S))), (b1, .inl (cI, 6, .inl (vr 1 S))), (b2, .inl (cI, 6, .inl (v6 st))), (b3, .inl (cZ, 6, .inl (vw nr S))), (b4, .inl (cI, 6, .inl (vr 3 S))), (b5, .inl (cI, 6, .inl (vr 4 S)))] [.ref gr, .int x] (fun r u => r = nI (bn (decide (isR nr x))) ∧ u = [(gr, .inr (5, [.ref v, .ref f, .ref k, .ref ak])), (k, .inr (0, [.ref g, .ref b, .int (nI (S 1)), .int (nI (S 0)), .int (nI (S 2)), .int (nI (S 3))])), (b, .inr (3, [.int (nI nr), .ref b0, .ref b1, .ref b2, .ref b3, .ref b4, .ref b5])), (b0, .inl (cI, 6, .inl (vr 0 S))), (b1, .inl (cI, 6, .inl (vr 1 S))), (b2, .inl (cI, 6, .inl (v6 st))), (b3, .inl (cZ, 6, .inl (vw nr S))), (b4, .inl (cI, 6, .inl (vr 3 S))), (b5, .inl (cI, 6, .inl (vr 4 S)))]) := by
  refine MIN_of [(0, .ref gr), (1, .int x)] (by decide) rfl (Nat.le_of_ble_eq_true rfl) rfl ?_
  intro p e s m args below meth c A Q X hN ret
  have hiX0 : ∀ w ∈ wsX00, w ∈ wsX5_isRope := by decide +kernel
  have hiX3 : ∀ w ∈ wsX30, w ∈ wsX5_isRope := by decide +kernel
  have hiX5 : ∀ w ∈ wsX50, w ∈ wsX5_isRope := by decide +kernel
  refine g_iload_n X 1 1 dX5_isRope_0 rfl rfl rfl ?_
  refine g_if_lt X 4 22 dX5_isRope_1 rfl (by decide) (z_ltr _) (fun h0 => ?_) (fun h0 => ?_)
  · refine g_iconst X (nI 0) 23 dX5_isRope_22 rfl (by decide +kernel) ?_
    refine g_eqi (y := nI (bn (decide (isR nr x)))) (by rw [decide_eq_false (fun z => ln z.1 h0)]; rfl) ?_
    exact ret _ _ _ _ dX5_isRope_23 (bn_nar _) ⟨rfl, rfl⟩
  · refine g_iload_n X 1 5 dX5_isRope_4 rfl rfl rfl ?_
    refine g_aload_n X 0 6 dX5_isRope_5 rfl rfl rfl ?_
    refine g_get X hiX5 0 2 9 rfl rfl (by decide) (List.mem_of_getElem? (i := 1) rfl) rfl dX5_isRope_6 rfl ?_
    refine g_getN X hN hiX0 1 1 12 rfl rfl (by decide) (by decide +kernel) rfl dX5_isRope_9 rfl ?_
    refine g_getN X hN hiX3 2 0 15 rfl rfl (by decide) (by decide +kernel) rfl dX5_isRope_12 rfl ?_
    refine g_icmp_ge X 18 22 dX5_isRope_15 rfl (by decide) Iff.rfl (fun h1 => ?_) (fun h1 => ?_)
    · refine g_iconst X (nI 0) 23 dX5_isRope_22 rfl (by decide +kernel) ?_
      refine g_eqi (y := nI (bn (decide (isR nr x)))) (by rw [decide_eq_false (fun z => ltn z.2 h1)]; rfl) ?_
      exact ret _ _ _ _ dX5_isRope_23 (bn_nar _) ⟨rfl, rfl⟩
    · refine g_iconst X (nI 1) 19 dX5_isRope_18 rfl (by decide +kernel) ?_
      refine g_goto X 23 dX5_isRope_19 (by decide) ?_
      refine g_eqi (y := nI (bn (decide (isR nr x)))) (by rw [decide_eq_true ⟨nl h0, nle h1⟩]; rfl) ?_
      exact ret _ _ _ _ dX5_isRope_23 (bn_nar _) ⟨rfl, rfl⟩

abbrev rm_X5_window : Room := { frames := 6, cells := 1, slots := 6, locals := 100 }
set_option maxHeartbeats 4000000 in
set_option maxRecDepth 100000 in
/-- window -/
theorem m_X5_window (l : Launch) (hfl : l.stackTraces = false) (D : va_G) (cI cZ cJ : ClassId) (gr v f k ak : Nat) (z0 z1 z2 z3 z4 nw : Nat) (T : Nat → Nat) (x y w h o : Int32) (hn : nw ≤ 6) : MX l yX5_window wsX5_window rm_X5_window D (gT cI cZ cJ) [(gr, .inr (5, [.ref v, .ref f, .ref k, .ref ak])), (v, .inr (4, [.int (nI nw), .ref z0, .ref z1, .ref z2, .ref z3, .ref z4])), (z0, .inl (cI, 6, .inl (vt 0 T))), (z1, .inl (cI, 6, .inl (vt 1 T))), (z2, .inl (cI, 6, .inl (vt 2 T))), (z3, .inl (cI, 6, .inl (vt 3 T))), (z4, .inl (cI, 6, .inl (vt 4 T)))] [.ref gr, .int x, .int y, .int w, .int h, .int o] (fun r u => winE nw x y w h o = 0 ∧ r = nI nw ∧ u = [(gr, .inr (5, [.ref v, .ref f, .ref k, .ref ak])), (v, .inr (4, [.int (nI (nw + 1)), .ref z0, .ref z1, .ref z2, .ref z3, .ref z4])), (z0, .inl (cI, 6, .inl (vt 0 (ptT T nw (tn x) (tn y) (tn w) (tn h) (tn o))))), (z1, .inl (cI, 6, .inl (vt 1 (ptT T nw (tn x) (tn y) (tn w) (tn h) (tn o))))), (z2, .inl (cI, 6, .inl (vt 2 (ptT T nw (tn x) (tn y) (tn w) (tn h) (tn o))))), (z3, .inl (cI, 6, .inl (vt 3 (ptT T nw (tn x) (tn y) (tn w) (tn h) (tn o))))), (z4, .inl (cI, 6, .inl (vt 4 (ptT T nw (tn x) (tn y) (tn w) (tn h) (tn o)))))]) (fun E => (E = xA ∧ winE nw x y w h o = 1) ∨ (E = xI ∧ winE nw x y w h o = 2) ∨ (E = xS ∧ winE nw x y w h o = 3)) := by
  refine MX_of hfl [(0, .ref gr), (1, .int x), (2, .int y), (3, .int w), (4, .int h), (5, .int o)] (by decide) rfl (Nat.le_of_ble_eq_true rfl) rfl ?_
  intro p e s m args below meth c A Q X hN ret thr
  have hiX4 : ∀ w ∈ wsX40, w ∈ wsX5_window := by decide +kernel
  have hiX5 : ∀ w ∈ wsX50, w ∈ wsX5_window := by decide +kernel
  refine g_iload_n X 3 1 dX5_window_0 rfl rfl rfl ?_
  refine g_iconst X (nI 1) 2 dX5_window_1 rfl (by decide +kernel) ?_
  refine g_icmp_lt X 5 37 dX5_window_2 rfl (by decide) Iff.rfl (fun h2 => ?_) (fun h2 => ?_)
  · exact thr _ _ _ _ xA "w, h or worth is out of its range" 33 35 37 thA_f (List.mem_of_getElem? (i := 1) rfl) (List.mem_of_getElem? (i := 2) rfl) (by decide +kernel) thA_e (fun _ h => List.mem_cons_of_mem _ (List.mem_append_left _ (List.mem_append_left _ (List.mem_append_right _ h)))) thA_n thA_g dX5_window_37 dX5_window_40 dX5_window_41 dX5_window_43 dX5_window_46 rfl (by decide) (by decide) (by decide) (by decide) (Or.inl ⟨rfl, if_pos (fun z => ln z.1.1 h2)⟩)
  · refine g_iload_n X 3 6 dX5_window_5 rfl rfl rfl ?_
    refine g_bipush X (nI 12) 8 dX5_window_6 rfl (by decide +kernel) ?_
    refine g_icmp_gt X 11 37 dX5_window_8 rfl (by decide) Iff.rfl (fun h8 => ?_) (fun h8 => ?_)
    · exact thr _ _ _ _ xA "w, h or worth is out of its range" 33 35 37 thA_f (List.mem_of_getElem? (i := 1) rfl) (List.mem_of_getElem? (i := 2) rfl) (by decide +kernel) thA_e (fun _ h => List.mem_cons_of_mem _ (List.mem_append_left _ (List.mem_append_left _ (List.mem_append_right _ h)))) thA_n thA_g dX5_window_37 dX5_window_40 dX5_window_41 dX5_window_43 dX5_window_46 rfl (by decide) (by decide) (by decide) (by decide) (Or.inl ⟨rfl, if_pos (fun z => ln z.1.2 h8)⟩)
    · refine g_iload X 4 13 dX5_window_11 rfl rfl ?_
      refine g_iconst X (nI 1) 14 dX5_window_13 rfl (by decide +kernel) ?_
      refine g_icmp_lt X 17 37 dX5_window_14 rfl (by decide) Iff.rfl (fun h14 => ?_) (fun h14 => ?_)
      · exact thr _ _ _ _ xA "w, h or worth is out of its range" 33 35 37 thA_f (List.mem_of_getElem? (i := 1) rfl) (List.mem_of_getElem? (i := 2) rfl) (by decide +kernel) thA_e (fun _ h => List.mem_cons_of_mem _ (List.mem_append_left _ (List.mem_append_left _ (List.mem_append_right _ h)))) thA_n thA_g dX5_window_37 dX5_window_40 dX5_window_41 dX5_window_43 dX5_window_46 rfl (by decide) (by decide) (by decide) (by decide) (Or.inl ⟨rfl, if_pos (fun z => ln z.2.1.1 h14)⟩)
      · refine g_iload X 4 19 dX5_window_17 rfl rfl ?_
        refine g_bipush X (nI 8) 21 dX5_window_19 rfl (by decide +kernel) ?_
        refine g_icmp_gt X 24 37 dX5_window_21 rfl (by decide) Iff.rfl (fun h21 => ?_) (fun h21 => ?_)
        · exact thr _ _ _ _ xA "w, h or worth is out of its range" 33 35 37 thA_f (List.mem_of_getElem? (i := 1) rfl) (List.mem_of_getElem? (i := 2) rfl) (by decide +kernel) thA_e (fun _ h => List.mem_cons_of_mem _ (List.mem_append_left _ (List.mem_append_left _ (List.mem_append_right _ h)))) thA_n thA_g dX5_window_37 dX5_window_40 dX5_window_41 dX5_window_43 dX5_window_46 rfl (by decide) (by decide) (by decide) (by decide) (Or.inl ⟨rfl, if_pos (fun z => ln z.2.1.2 h21)⟩)
        · refine g_iload X 5 26 dX5_window_24 rfl rfl ?_
          refine g_iconst X (nI 1) 27 dX5_window_26 rfl (by decide +kernel) ?_
          refine g_icmp_lt X 30 37 dX5_window_27 rfl (by decide) Iff.rfl (fun h27 => ?_) (fun h27 => ?_)
          · exact thr _ _ _ _ xA "w, h or worth is out of its range" 33 35 37 thA_f (List.mem_of_getElem? (i := 1) rfl) (List.mem_of_getElem? (i := 2) rfl) (by decide +kernel) thA_e (fun _ h => List.mem_cons_of_mem _ (List.mem_append_left _ (List.mem_append_left _ (List.mem_append_right _ h)))) thA_n thA_g dX5_window_37 dX5_window_40 dX5_window_41 dX5_window_43 dX5_window_46 rfl (by decide) (by decide) (by decide) (by decide) (Or.inl ⟨rfl, if_pos (fun z => ln z.2.2.1 h27)⟩)
          · refine g_iload X 5 32 dX5_window_30 rfl rfl ?_
            refine g_bipush X (nI 9) 34 dX5_window_32 rfl (by decide +kernel) ?_
            refine g_icmp_le X 37 47 dX5_window_34 rfl (by decide) Iff.rfl (fun h34 => ?_) (fun h34 => ?_)
            · have hA : inR w (nI 1) (nI 12) ∧ inR h (nI 1) (nI 8) ∧ inR o (nI 1) (nI 9) := ⟨⟨nl h2, nl h8⟩, ⟨nl h14, nl h21⟩, ⟨nl h27, h34⟩⟩
              refine g_iload_n X 1 48 dX5_window_47 rfl rfl rfl ?_
              refine g_if_lt X 51 72 dX5_window_48 rfl (by decide) (z_ltr _) (fun h48 => ?_) (fun h48 => ?_)
              · exact thr _ _ _ _ xI "some pane of the window is not there" 40 42 44 thI_f (List.mem_of_getElem? (i := 3) rfl) (List.mem_of_getElem? (i := 4) rfl) (by decide +kernel) thI_e (fun _ h => List.mem_cons_of_mem _ (List.mem_append_left _ (List.mem_append_right _ h))) thI_n thI_g dX5_window_72 dX5_window_75 dX5_window_76 dX5_window_78 dX5_window_81 rfl (by decide) (by decide) (by decide) (by decide) (Or.inr (Or.inl ⟨rfl, (if_neg (fun z => z hA)).trans (if_pos (fun z => ln z.1.1 h48))⟩))
              · refine g_iload_n X 1 52 dX5_window_51 rfl rfl rfl ?_
                refine g_bipush X (nI 12) 54 dX5_window_52 rfl (by decide +kernel) ?_
                refine g_iload_n X 3 55 dX5_window_54 rfl rfl rfl ?_
                refine g_isub X ((nI 12) - w) 56 dX5_window_55 rfl rfl ?_
                refine g_icmp_gt X 59 72 dX5_window_56 rfl (by decide) Iff.rfl (fun h56 => ?_) (fun h56 => ?_)
                · exact thr _ _ _ _ xI "some pane of the window is not there" 40 42 44 thI_f (List.mem_of_getElem? (i := 3) rfl) (List.mem_of_getElem? (i := 4) rfl) (by decide +kernel) thI_e (fun _ h => List.mem_cons_of_mem _ (List.mem_append_left _ (List.mem_append_right _ h))) thI_n thI_g dX5_window_72 dX5_window_75 dX5_window_76 dX5_window_78 dX5_window_81 rfl (by decide) (by decide) (by decide) (by decide) (Or.inr (Or.inl ⟨rfl, (if_neg (fun z => z hA)).trans (if_pos (fun z => ln z.1.2 h56))⟩))
                · refine g_iload_n X 2 60 dX5_window_59 rfl rfl rfl ?_
                  refine g_if_lt X 63 72 dX5_window_60 rfl (by decide) (z_ltr _) (fun h60 => ?_) (fun h60 => ?_)
                  · exact thr _ _ _ _ xI "some pane of the window is not there" 40 42 44 thI_f (List.mem_of_getElem? (i := 3) rfl) (List.mem_of_getElem? (i := 4) rfl) (by decide +kernel) thI_e (fun _ h => List.mem_cons_of_mem _ (List.mem_append_left _ (List.mem_append_right _ h))) thI_n thI_g dX5_window_72 dX5_window_75 dX5_window_76 dX5_window_78 dX5_window_81 rfl (by decide) (by decide) (by decide) (by decide) (Or.inr (Or.inl ⟨rfl, (if_neg (fun z => z hA)).trans (if_pos (fun z => ln z.2.1 h60))⟩))
                  · refine g_iload_n X 2 64 dX5_window_63 rfl rfl rfl ?_
                    refine g_bipush X (nI 8) 66 dX5_window_64 rfl (by decide +kernel) ?_
                    refine g_iload X 4 68 dX5_window_66 rfl rfl ?_
                    refine g_isub X ((nI 8) - h) 69 dX5_window_68 rfl rfl ?_
                    refine g_icmp_le X 72 82 dX5_window_69 rfl (by decide) Iff.rfl (fun h69 => ?_) (fun h69 => ?_)
                    · have hB : inR x (nI 0) (nI 12 - w) ∧ inR y (nI 0) (nI 8 - h) := ⟨⟨nl h48, nl h56⟩, ⟨nl h60, h69⟩⟩
                      refine g_aload_n X 0 83 dX5_window_82 rfl rfl rfl ?_
                      refine g_get X hiX5 0 0 86 rfl rfl (by decide) (List.mem_of_getElem? (i := 7) rfl) rfl dX5_window_83 rfl ?_
                      refine g_getN X hN hiX4 1 0 89 rfl rfl (by decide) (by decide +kernel) rfl dX5_window_86 rfl ?_
                      refine g_bipush X (nI 6) 91 dX5_window_89 rfl (by decide +kernel) ?_
                      refine g_icmp_lt X 94 104 dX5_window_91 rfl (by decide) (nI_ltI (by omega) (by omega)) (fun h91 => ?_) (fun h91 => ?_)
                      · have hE : winE nw x y w h o = 0 := (if_neg (fun z => z hA)).trans ((if_neg (fun z => z hB)).trans (if_neg (by omega)))
                        obtain ⟨iw, hw1, hw2, rfl⟩ := inR_nat hA.1 (by decide) (by decide)
                        obtain ⟨ih, hh1, hh2, rfl⟩ := inR_nat hA.2.1 (by decide) (by decide)
                        obtain ⟨io, ho1, ho2, rfl⟩ := inR_nat hA.2.2 (by decide) (by decide)
                        rw [pk_sub (show iw ≤ 12 by omega), pk_sub (show ih ≤ 8 by omega)] at hB
                        obtain ⟨ix, hx1, hx2, rfl⟩ := inR_nat hB.1 (by omega) (by decide)
                        obtain ⟨iy, hy1, hy2, rfl⟩ := inR_nat hB.2 (by omega) (by decide)
                        rw [tn_nI (show iw < 2 ^ 31 by omega), tn_nI (show ih < 2 ^ 31 by omega), tn_nI (show io < 2 ^ 31 by omega), tn_nI (show ix < 2 ^ 31 by omega), tn_nI (show iy < 2 ^ 31 by omega)] at ret
                        refine g_aload_n X 0 105 dX5_window_104 rfl rfl rfl ?_
                        refine g_get X hiX5 0 0 108 rfl rfl (by decide) (List.mem_of_getElem? (i := 7) rfl) rfl dX5_window_105 rfl ?_
                        refine g_iload_n X 1 109 dX5_window_108 rfl rfl rfl ?_
                        refine g_iload_n X 2 110 dX5_window_109 rfl rfl rfl ?_
                        refine g_iload_n X 3 111 dX5_window_110 rfl rfl rfl ?_
                        refine g_iload X 4 113 dX5_window_111 rfl rfl ?_
                        refine g_iload X 5 115 dX5_window_113 rfl rfl ?_
                        refine g_callVi (ws' := [(gr, .inr (5, [.ref v, .ref f, .ref k, .ref ak])), (v, .inr (4, [.int (nI (nw + 1)), .ref z0, .ref z1, .ref z2, .ref z3, .ref z4])), (z0, .inl (cI, 6, .inl (vt 0 (ptT T nw ix iy iw ih io)))), (z1, .inl (cI, 6, .inl (vt 1 (ptT T nw ix iy iw ih io)))), (z2, .inl (cI, 6, .inl (vt 2 (ptT T nw ix iy iw ih io)))), (z3, .inl (cI, 6, .inl (vt 3 (ptT T nw ix iy iw ih io)))), (z4, .inl (cI, 6, .inl (vt 4 (ptT T nw ix iy iw ih io))))]) X (m_X4_put l D cI cZ cJ v z0 z1 z2 z3 z4 nw T ix iy iw ih io (by omega)) 118 [1, 2, 3, 4, 5, 6] gX5_window_X4_put (n := 5) rfl (by decide +kernel) rfl ⟨Nat.le_of_ble_eq_true rfl, Nat.le_of_ble_eq_true rfl⟩ (ci := 4) (q0 := 0) rfl rfl rfl (Nat.le_of_ble_eq_true rfl) rfl rfl rfl rfl dX5_window_115 rfl ⟨Nat.le_of_ble_eq_true rfl, Nat.le_of_ble_eq_true rfl⟩ ?_
                        refine g_w (kc' := rm_X5_window.cells) (ks' := rm_X5_window.slots) (by first | decide | omega) (by first | decide | omega) ?_
                        exact ret _ _ _ _ dX5_window_118 rfl ⟨hE, rfl, rfl⟩
                      · exact thr _ _ _ _ xS "there are as many windows as can be" 49 51 53 thS_f (List.mem_of_getElem? (i := 5) rfl) (List.mem_of_getElem? (i := 6) rfl) (by decide +kernel) thS_e (fun _ h => List.mem_cons_of_mem _ (List.mem_append_right _ h)) thS_n thS_g dX5_window_94 dX5_window_97 dX5_window_98 dX5_window_100 dX5_window_103 rfl (by decide) (by decide) (by decide) (by decide) (Or.inr (Or.inr ⟨rfl, (if_neg (fun z => z hA)).trans ((if_neg (fun z => z hB)).trans (if_pos (by omega)))⟩))
                    · exact thr _ _ _ _ xI "some pane of the window is not there" 40 42 44 thI_f (List.mem_of_getElem? (i := 3) rfl) (List.mem_of_getElem? (i := 4) rfl) (by decide +kernel) thI_e (fun _ h => List.mem_cons_of_mem _ (List.mem_append_left _ (List.mem_append_right _ h))) thI_n thI_g dX5_window_72 dX5_window_75 dX5_window_76 dX5_window_78 dX5_window_81 rfl (by decide) (by decide) (by decide) (by decide) (Or.inr (Or.inl ⟨rfl, (if_neg (fun z => z hA)).trans (if_pos (fun z => h69 z.2.2))⟩))
            · exact thr _ _ _ _ xA "w, h or worth is out of its range" 33 35 37 thA_f (List.mem_of_getElem? (i := 1) rfl) (List.mem_of_getElem? (i := 2) rfl) (by decide +kernel) thA_e (fun _ h => List.mem_cons_of_mem _ (List.mem_append_left _ (List.mem_append_left _ (List.mem_append_right _ h)))) thA_n thA_g dX5_window_37 dX5_window_40 dX5_window_41 dX5_window_43 dX5_window_46 rfl (by decide) (by decide) (by decide) (by decide) (Or.inl ⟨rfl, if_pos (fun z => h34 z.2.2.2)⟩)
