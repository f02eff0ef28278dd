/-! THE REFERENCE'S CALLS -/

abbrev rm_X6_pass : Room := { frames := 6, cells := 0, slots := 0, locals := 136 }
set_option maxHeartbeats 4000000 in
set_option maxRecDepth 100000 in
theorem m_X6_pass (l : Launch) (D : va_G) (cI cZ cJ : ClassId) (m6 th nw nr nf q1 q2 q3 q4 q5 q6 : Nat) (d : Int32) (T st fe fo S : Nat → Nat) (hg : Gd S nr) (hs : stOk T st fe fo nw nr nf) (hd : S 0 < 2 ^ 28) : MI l yX6_pass wsX6_pass rm_X6_pass D (gT cI cZ cJ) [(m6, .inr (6, [.int (nI th), .int (nI nw), .int (nI nr), .int (nI nf), .ref q1, .ref q2, .ref q3, .ref q4, .ref q5, .ref q6])), (q1, .inl (cI, 30, .inl (v30 T))), (q2, .inl (cI, 6, .inl (v6 st))), (q3, .inl (cI, 4, .inl (v4 fe))), (q4, .inl (cI, 4, .inl (v4 fo))), (q5, .inl (cI, 130, .inl (vn S)))] [.ref m6, .int d] (fun r9 u9 => (pasE d = 0 → r9 = nI (daysS T st fe fo nw nr nf S (tn d) 2) - nI (S 2) ∧ u9 = [(m6, .inr (6, [.int (nI 0), .int (nI nw), .int (nI nr), .int (nI nf), .ref q1, .ref q2, .ref q3, .ref q4, .ref q5, .ref q6])), (q1, .inl (cI, 30, .inl (v30 T))), (q2, .inl (cI, 6, .inl (v6 st))), (q3, .inl (cI, 4, .inl (v4 fe))), (q4, .inl (cI, 4, .inl (v4 fo))), (q5, .inl (cI, 130, .inl (vn (daysS T st fe fo nw nr nf S (tn d)))))]) ∧ (¬ pasE d = 0 → r9 = nI 0 ∧ u9 = [(m6, .inr (6, [.int (nI (pasE d)), .int (nI nw), .int (nI nr), .int (nI nf), .ref q1, .ref q2, .ref q3, .ref q4, .ref q5, .ref q6])), (q1, .inl (cI, 30, .inl (v30 T))), (q2, .inl (cI, 6, .inl (v6 st))), (q3, .inl (cI, 4, .inl (v4 fe))), (q4, .inl (cI, 4, .inl (v4 fo))), (q5, .inl (cI, 130, .inl (vn S)))])) := by
  refine MI_of [(0, .ref m6), (1, .int d)] (by decide) rfl (Nat.le_of_ble_eq_true rfl) rfl ?_
  intro p e s m args below meth c A Q X ret
  have hiX6 : ∀ w ∈ wsX60, w ∈ wsX6_pass := (fun _ h => List.mem_cons_of_mem _ (List.mem_append_right _ h))
  refine g_aload_n X 0 1 dX6_pass_0 rfl rfl rfl ?_
  refine g_iconst X (nI 0) 2 dX6_pass_1 rfl (by decide +kernel) ?_
  refine g_put (ws' := [(m6, .inr (6, [.int (nI 0), .int (nI nw), .int (nI nr), .int (nI nf), .ref q1, .ref q2, .ref q3, .ref q4, .ref q5, .ref q6])), (q1, .inl (cI, 30, .inl (v30 T))), (q2, .inl (cI, 6, .inl (v6 st))), (q3, .inl (cI, 4, .inl (v4 fe))), (q4, .inl (cI, 4, .inl (v4 fo))), (q5, .inl (cI, 130, .inl (vn S)))]) X hiX6 tyX6 tyX6_ok nmX6 0 0 5 rfl rfl (by decide) (List.mem_of_getElem? (i := 1) rfl) rfl (ty := .int) (by decide +kernel) rfl rfl (Nat.le_of_ble_eq_true rfl) dX6_pass_2 rfl rfl ?_
  refine g_iload_n X 1 6 dX6_pass_5 rfl rfl rfl ?_
  refine g_iconst X (nI 1) 7 dX6_pass_6 rfl (by decide +kernel) ?_
  refine g_bipush X (nI 40) 9 dX6_pass_7 rfl (by decide +kernel) ?_
  refine g_callSi (ws' := [(m6, .inr (6, [.int (nI 0), .int (nI nw), .int (nI nr), .int (nI nf), .ref q1, .ref q2, .ref q3, .ref q4, .ref q5, .ref q6])), (q1, .inl (cI, 30, .inl (v30 T))), (q2, .inl (cI, 6, .inl (v6 st))), (q3, .inl (cI, 4, .inl (v4 fe))), (q4, .inl (cI, 4, .inl (v4 fo))), (q5, .inl (cI, 130, .inl (vn S)))]) X (m_X6_isIn l D cI cZ cJ d (nI 1) (nI 40)) 12 [] gX6_pass_X6_isIn (n := 3) rfl (by decide +kernel) rfl ⟨Nat.le_of_ble_eq_true rfl, Nat.le_of_ble_eq_true rfl⟩ rfl (Nat.le_of_ble_eq_true rfl) rfl (by decide +kernel) rfl rfl dX6_pass_9 rfl ⟨Nat.le_of_ble_eq_true rfl, Nat.le_of_ble_eq_true rfl⟩ ?_
  refine g_if_ne X 15 21 dX6_pass_12 rfl (by decide) (bn_dec decide_eq_true_iff) (fun h12 => ?_) (fun h12 => ?_)
  · have hA : inR d (nI 1) (nI 40) := Classical.not_not.mp h12
    have hE : pasE d = 0 := if_neg h12
    obtain ⟨dn, hd1, hd2, rfl⟩ := inR_nat hA (by decide) (by decide)
    rw [tn_nI (show dn < 2 ^ 31 by omega)] at ret
    refine g_aload_n X 0 22 dX6_pass_21 rfl rfl rfl ?_
    refine g_get X hiX6 0 8 25 rfl rfl (by decide) (List.mem_of_getElem? (i := 2) rfl) rfl dX6_pass_22 rfl ?_
    refine g_iconst X (nI 2) 26 dX6_pass_25 rfl (by decide +kernel) ?_
    refine g_iald X 5 0 (2) (nI (S 2)) 27 rfl rfl (by omega) (by decide) (vn_at (by decide)) dX6_pass_26 rfl ?_
    refine g_istore_n X [(2, .int (nI (S 2))), (0, .ref m6), (1, .int (nI dn))] 28 dX6_pass_27 rfl rfl (by decide) rfl ?_
    refine g_aload_n X 1 29 dX6_pass_28 rfl rfl rfl ?_
    refine g_iload_n X 2 30 dX6_pass_29 rfl rfl rfl ?_
    refine g_callVv (ws' := [(m6, .inr (6, [.int (nI 0), .int (nI nw), .int (nI nr), .int (nI nf), .ref q1, .ref q2, .ref q3, .ref q4, .ref q5, .ref q6])), (q1, .inl (cI, 30, .inl (v30 T))), (q2, .inl (cI, 6, .inl (v6 st))), (q3, .inl (cI, 4, .inl (v4 fe))), (q4, .inl (cI, 4, .inl (v4 fo))), (q5, .inl (cI, 130, .inl (vn (daysS T st fe fo nw nr nf S dn))))]) X (m_X6_daysOn l D cI cZ cJ m6 0 nw nr nf q1 q2 q3 q4 q5 q6 dn T st fe fo S hg hs hd (by omega)) 33 [0, 1, 2, 3, 4, 5] gX6_pass_X6_daysOn (n := 1) rfl (by decide +kernel) rfl ⟨Nat.le_of_ble_eq_true rfl, Nat.le_of_ble_eq_true rfl⟩ (ci := 6) (q0 := 0) rfl rfl rfl (Nat.le_of_ble_eq_true rfl) rfl (by decide +kernel) rfl ((putB_mg [some (m6, .inr (6, [.int (nI 0), .int (nI nw), .int (nI nr), .int (nI nf), .ref q1, .ref q2, .ref q3, .ref q4, .ref q5, .ref q6])), some (q1, .inl (cI, 30, .inl (v30 T))), some (q2, .inl (cI, 6, .inl (v6 st))), some (q3, .inl (cI, 4, .inl (v4 fe))), some (q4, .inl (cI, 4, .inl (v4 fo))), some (q5, .inl (cI, 130, .inl (vn (daysS T st fe fo nw nr nf S dn))))] [true, true, true, true, true, true] rfl (by decide +kernel) rfl rfl rfl (by decide +kernel)).trans rfl) dX6_pass_30 rfl ⟨Nat.le_of_ble_eq_true rfl, Nat.le_of_ble_eq_true rfl⟩ ?_
    refine g_aload_n X 1 34 dX6_pass_33 rfl rfl rfl ?_
    refine g_get X hiX6 0 8 37 rfl rfl (by decide) (List.mem_of_getElem? (i := 2) rfl) rfl dX6_pass_34 rfl ?_
    refine g_iconst X (nI 2) 38 dX6_pass_37 rfl (by decide +kernel) ?_
    refine g_iald X 5 0 (2) (nI (daysS T st fe fo nw nr nf S dn 2)) 39 rfl rfl (by omega) (by decide) (vn_at (by decide)) dX6_pass_38 rfl ?_
    refine g_iload_n X 0 40 dX6_pass_39 rfl rfl rfl ?_
    refine g_isub X ((nI (daysS T st fe fo nw nr nf S dn 2)) - (nI (S 2))) 41 dX6_pass_40 rfl rfl ?_
    exact ret _ _ _ _ dX6_pass_41 rfl ⟨fun _ => ⟨rfl, rfl⟩, fun z => absurd hE z⟩
  · refine g_aload_n X 0 16 dX6_pass_15 rfl rfl rfl ?_
    refine g_iconst X (nI 1) 17 dX6_pass_16 rfl (by decide +kernel) ?_
    refine g_callVi (ws' := [(m6, .inr (6, [.int (nI 1), .int (nI nw), .int (nI nr), .int (nI nf), .ref q1, .ref q2, .ref q3, .ref q4, .ref q5, .ref q6])), (q1, .inl (cI, 30, .inl (v30 T))), (q2, .inl (cI, 6, .inl (v6 st))), (q3, .inl (cI, 4, .inl (v4 fe))), (q4, .inl (cI, 4, .inl (v4 fo))), (q5, .inl (cI, 130, .inl (vn S)))]) X (m_X6_fail l D cI cZ cJ m6 0 nw nr nf q1 q2 q3 q4 q5 q6 1) 20 [0] gX6_pass_X6_fail (n := 1) rfl (by decide +kernel) rfl ⟨Nat.le_of_ble_eq_true rfl, Nat.le_of_ble_eq_true rfl⟩ (ci := 6) (q0 := 0) rfl rfl rfl (Nat.le_of_ble_eq_true rfl) rfl (by decide +kernel) rfl rfl dX6_pass_17 rfl ⟨Nat.le_of_ble_eq_true rfl, Nat.le_of_ble_eq_true rfl⟩ ?_
    have hE := (show pasE d = 1 from if_pos h12)
    exact ret _ _ _ _ dX6_pass_20 rfl ⟨fun z => absurd (hE.symm.trans z) (by decide), fun _ => ⟨rfl, by rw [hE]⟩⟩

abbrev rm_X6_soot : Room := { frames := 1, cells := 0, slots := 0, locals := 22 }
set_option maxHeartbeats 4000000 in
set_option maxRecDepth 100000 in
theorem m_X6_soot (l : Launch) (D : va_G) (cI cZ cJ : ClassId) (m6 th nw nr nf q1 q2 q3 q4 q5 q6 : Nat) (x y : Int32) (S : Nat → Nat)  : MI l yX6_soot wsX6_soot rm_X6_soot D (gT cI cZ cJ) [(m6, .inr (6, [.int (nI th), .int (nI nw), .int (nI nr), .int (nI nf), .ref q1, .ref q2, .ref q3, .ref q4, .ref q5, .ref q6])), (q5, .inl (cI, 130, .inl (vn S)))] [.ref m6, .int x, .int y] (fun r9 u9 => (twoE 12 8 x y = 0 → r9 = nI (S (4 + (tn x * 8 + tn y))) ∧ u9 = [(m6, .inr (6, [.int (nI 0), .int (nI nw), .int (nI nr), .int (nI nf), .ref q1, .ref q2, .ref q3, .ref q4, .ref q5, .ref q6])), (q5, .inl (cI, 130, .inl (vn S)))]) ∧ (¬ twoE 12 8 x y = 0 → r9 = nI 0 ∧ u9 = [(m6, .inr (6, [.int (nI (twoE 12 8 x y)), .int (nI nw), .int (nI nr), .int (nI nf), .ref q1, .ref q2, .ref q3, .ref q4, .ref q5, .ref q6])), (q5, .inl (cI, 130, .inl (vn S)))])) := by
  refine MI_of [(0, .ref m6), (1, .int x), (2, .int y)] (by decide) rfl (Nat.le_of_ble_eq_true rfl) rfl ?_
  intro p e s m args below meth c A Q X ret
  have hiX6 : ∀ w ∈ wsX60, w ∈ wsX6_soot := (fun _ h => List.mem_cons_of_mem _ (List.mem_append_right _ h))
  refine g_aload_n X 0 1 dX6_soot_0 rfl rfl rfl ?_
  refine g_iconst X (nI 0) 2 dX6_soot_1 rfl (by decide +kernel) ?_
  refine g_put (ws' := [(m6, .inr (6, [.int (nI 0), .int (nI nw), .int (nI nr), .int (nI nf), .ref q1, .ref q2, .ref q3, .ref q4, .ref q5, .ref q6])), (q5, .inl (cI, 130, .inl (vn S)))]) X hiX6 tyX6 tyX6_ok nmX6 0 0 5 rfl rfl (by decide) (List.mem_of_getElem? (i := 1) rfl) rfl (ty := .int) (by decide +kernel) rfl rfl (Nat.le_of_ble_eq_true rfl) dX6_soot_2 rfl rfl ?_
  refine g_iload_n X 1 6 dX6_soot_5 rfl rfl rfl ?_
  refine g_iconst X (nI 0) 7 dX6_soot_6 rfl (by decide +kernel) ?_
  refine g_bipush X (nI 11) 9 dX6_soot_7 rfl (by decide +kernel) ?_
  refine g_callSi (ws' := [(m6, .inr (6, [.int (nI 0), .int (nI nw), .int (nI nr), .int (nI nf), .ref q1, .ref q2, .ref q3, .ref q4, .ref q5, .ref q6])), (q5, .inl (cI, 130, .inl (vn S)))]) X (m_X6_isIn l D cI cZ cJ x (nI 0) (nI 11)) 12 [] gX6_soot_X6_isIn (n := 3) rfl (by decide +kernel) rfl ⟨Nat.le_of_ble_eq_true rfl, Nat.le_of_ble_eq_true rfl⟩ rfl (Nat.le_of_ble_eq_true rfl) rfl (by decide +kernel) rfl rfl dX6_soot_9 rfl ⟨Nat.le_of_ble_eq_true rfl, Nat.le_of_ble_eq_true rfl⟩ ?_
  refine g_eqi (y := nI (bn (decide (isR 12 x)))) (bn_is rfl (by decide)) ?_
  refine g_if_eq X 15 38 dX6_soot_12 rfl (by decide) (bn_dec decide_eq_true_iff) (fun h12 => ?_) (fun h12 => ?_)
  · refine g_aload_n X 0 39 dX6_soot_38 rfl rfl rfl ?_
    refine g_iconst X (nI 1) 40 dX6_soot_39 rfl (by decide +kernel) ?_
    refine g_callVi (ws' := [(m6, .inr (6, [.int (nI 1), .int (nI nw), .int (nI nr), .int (nI nf), .ref q1, .ref q2, .ref q3, .ref q4, .ref q5, .ref q6])), (q5, .inl (cI, 130, .inl (vn S)))]) X (m_X6_fail l D cI cZ cJ m6 0 nw nr nf q1 q2 q3 q4 q5 q6 1) 43 [0] gX6_soot_X6_fail (n := 1) rfl (by decide +kernel) rfl ⟨Nat.le_of_ble_eq_true rfl, Nat.le_of_ble_eq_true rfl⟩ (ci := 6) (q0 := 0) rfl rfl rfl (Nat.le_of_ble_eq_true rfl) rfl (by decide +kernel) rfl rfl dX6_soot_40 rfl ⟨Nat.le_of_ble_eq_true rfl, Nat.le_of_ble_eq_true rfl⟩ ?_
    have hE := (show twoE 12 8 x y = 1 from if_pos (fun z => h12 z.1))
    exact ret _ _ _ _ dX6_soot_43 rfl ⟨fun z => absurd (hE.symm.trans z) (by decide), fun _ => ⟨rfl, by rw [hE]⟩⟩
  · refine g_iload_n X 2 16 dX6_soot_15 rfl rfl rfl ?_
    refine g_iconst X (nI 0) 17 dX6_soot_16 rfl (by decide +kernel) ?_
    refine g_bipush X (nI 7) 19 dX6_soot_17 rfl (by decide +kernel) ?_
    refine g_callSi (ws' := [(m6, .inr (6, [.int (nI 0), .int (nI nw), .int (nI nr), .int (nI nf), .ref q1, .ref q2, .ref q3, .ref q4, .ref q5, .ref q6])), (q5, .inl (cI, 130, .inl (vn S)))]) X (m_X6_isIn l D cI cZ cJ y (nI 0) (nI 7)) 22 [] gX6_soot_X6_isIn (n := 3) rfl (by decide +kernel) rfl ⟨Nat.le_of_ble_eq_true rfl, Nat.le_of_ble_eq_true rfl⟩ rfl (Nat.le_of_ble_eq_true rfl) rfl (by decide +kernel) rfl rfl dX6_soot_19 rfl ⟨Nat.le_of_ble_eq_true rfl, Nat.le_of_ble_eq_true rfl⟩ ?_
    refine g_eqi (y := nI (bn (decide (isR 8 y)))) (bn_is rfl (by decide)) ?_
    refine g_if_eq X 25 38 dX6_soot_22 rfl (by decide) (bn_dec decide_eq_true_iff) (fun h22 => ?_) (fun h22 => ?_)
    · refine g_aload_n X 0 39 dX6_soot_38 rfl rfl rfl ?_
      refine g_iconst X (nI 1) 40 dX6_soot_39 rfl (by decide +kernel) ?_
      refine g_callVi (ws' := [(m6, .inr (6, [.int (nI 1), .int (nI nw), .int (nI nr), .int (nI nf), .ref q1, .ref q2, .ref q3, .ref q4, .ref q5, .ref q6])), (q5, .inl (cI, 130, .inl (vn S)))]) X (m_X6_fail l D cI cZ cJ m6 0 nw nr nf q1 q2 q3 q4 q5 q6 1) 43 [0] gX6_soot_X6_fail (n := 1) rfl (by decide +kernel) rfl ⟨Nat.le_of_ble_eq_true rfl, Nat.le_of_ble_eq_true rfl⟩ (ci := 6) (q0 := 0) rfl rfl rfl (Nat.le_of_ble_eq_true rfl) rfl (by decide +kernel) rfl rfl dX6_soot_40 rfl ⟨Nat.le_of_ble_eq_true rfl, Nat.le_of_ble_eq_true rfl⟩ ?_
      have hE := (show twoE 12 8 x y = 1 from if_pos (fun z => h22 z.2))
      exact ret _ _ _ _ dX6_soot_43 rfl ⟨fun z => absurd (hE.symm.trans z) (by decide), fun _ => ⟨rfl, by rw [hE]⟩⟩
    · have hA : isR 12 x ∧ isR 8 y := ⟨Classical.not_not.mp h12, Classical.not_not.mp h22⟩
      have hE : twoE 12 8 x y = 0 := if_neg (fun z => z hA)
      obtain ⟨ix, hx1, rfl⟩ := isR_nat hA.1 (by decide)
      obtain ⟨iy, hy1, rfl⟩ := isR_nat hA.2 (by decide)
      rw [tn_nI (show ix < 2 ^ 31 by omega), tn_nI (show iy < 2 ^ 31 by omega)] at ret
      refine g_aload_n X 0 26 dX6_soot_25 rfl rfl rfl ?_
      refine g_get X hiX6 0 8 29 rfl rfl (by decide) (List.mem_of_getElem? (i := 2) rfl) rfl dX6_soot_26 rfl ?_
      refine g_iload_n X 1 30 dX6_soot_29 rfl rfl rfl ?_
      refine g_iload_n X 2 31 dX6_soot_30 rfl rfl rfl ?_
      refine g_callSi (ws' := [(m6, .inr (6, [.int (nI 0), .int (nI nw), .int (nI nr), .int (nI nf), .ref q1, .ref q2, .ref q3, .ref q4, .ref q5, .ref q6])), (q5, .inl (cI, 130, .inl (vn S)))]) X (m_X6_pane l D cI cZ cJ ix iy) 34 [] gX6_soot_X6_pane (n := 2) rfl (by decide +kernel) rfl ⟨Nat.le_of_ble_eq_true rfl, Nat.le_of_ble_eq_true rfl⟩ rfl (Nat.le_of_ble_eq_true rfl) rfl (by decide +kernel) rfl rfl dX6_soot_31 rfl ⟨Nat.le_of_ble_eq_true rfl, Nat.le_of_ble_eq_true rfl⟩ ?_
      refine g_iald X 1 0 (4 + (ix * 8 + iy)) (nI (S (4 + (ix * 8 + iy)))) 35 rfl rfl (by omega) (by decide) (vn_at (by omega)) dX6_soot_34 rfl ?_
      refine g_goto X 43 dX6_soot_35 (by decide) ?_
      exact ret _ _ _ _ dX6_soot_43 rfl ⟨fun _ => ⟨rfl, rfl⟩, fun z => absurd hE z⟩

abbrev rm_X6_windowTold : Room := { frames := 3, cells := 0, slots := 0, locals := 69 }
set_option maxHeartbeats 4000000 in
set_option maxRecDepth 100000 in
theorem m_X6_windowTold (l : Launch) (D : va_G) (cI cZ cJ : ClassId) (m6 th nw nr nf q1 q2 q3 q4 q5 q6 : Nat) (w wh : Nat) (T S : Nat → Nat) (hs : sootOk S) (hT : winOk T w) (hk : w < 6) (hw : wh < 8) : MI l yX6_windowTold wsX6_windowTold rm_X6_windowTold D (gT cI cZ cJ) [(m6, .inr (6, [.int (nI th), .int (nI nw), .int (nI nr), .int (nI nf), .ref q1, .ref q2, .ref q3, .ref q4, .ref q5, .ref q6])), (q1, .inl (cI, 30, .inl (v30 T))), (q5, .inl (cI, 130, .inl (vn S)))] [.ref m6, .int (nI w), .int (nI wh)] (fun r u => r = nI (abt S T w wh) ∧ u = [(m6, .inr (6, [.int (nI th), .int (nI nw), .int (nI nr), .int (nI nf), .ref q1, .ref q2, .ref q3, .ref q4, .ref q5, .ref q6])), (q1, .inl (cI, 30, .inl (v30 T))), (q5, .inl (cI, 130, .inl (vn S)))]) := by
  refine MI_of [(0, .ref m6), (1, .int (nI w)), (2, .int (nI wh))] (by decide) rfl (Nat.le_of_ble_eq_true rfl) rfl ?_
  intro p e s m args below meth c A Q X ret
  refine g_iload_n X 2 1 dX6_windowTold_0 rfl rfl rfl ?_
  rcases (show wh = 0 ∨ wh = 1 ∨ wh = 2 ∨ wh = 3 ∨ wh = 4 ∨ wh = 5 ∨ wh = 6 ∨ wh = 7 by omega) with rfl | rfl | rfl | rfl | rfl | rfl | rfl | rfl
  · refine g_tableOut X 48 dX6_windowTold_1 (by decide +kernel) (by decide) ?_
    refine g_aload_n X 0 49 dX6_windowTold_48 rfl rfl rfl ?_
    refine g_iload_n X 1 50 dX6_windowTold_49 rfl rfl rfl ?_
    refine g_iload_n X 2 51 dX6_windowTold_50 rfl rfl rfl ?_
    refine g_callVi (ws' := [(m6, .inr (6, [.int (nI th), .int (nI nw), .int (nI nr), .int (nI nf), .ref q1, .ref q2, .ref q3, .ref q4, .ref q5, .ref q6])), (q1, .inl (cI, 30, .inl (v30 T))), (q5, .inl (cI, 130, .inl (vn S)))]) X (m_X6_wi l D cI cZ cJ m6 th nw nr nf q1 q2 q3 q4 q5 q6 w 0 T (by omega)) 54 [0, 1] gX6_windowTold_X6_wi (n := 2) rfl (by decide +kernel) rfl ⟨Nat.le_of_ble_eq_true rfl, Nat.le_of_ble_eq_true rfl⟩ (ci := 6) (q0 := 0) rfl rfl rfl (Nat.le_of_ble_eq_true rfl) rfl (by decide +kernel) rfl rfl dX6_windowTold_51 rfl ⟨Nat.le_of_ble_eq_true rfl, Nat.le_of_ble_eq_true rfl⟩ ?_
    exact ret _ _ _ _ dX6_windowTold_54 rfl ⟨rfl, rfl⟩
  · refine g_tableOut X 48 dX6_windowTold_1 (by decide +kernel) (by decide) ?_
    refine g_aload_n X 0 49 dX6_windowTold_48 rfl rfl rfl ?_
    refine g_iload_n X 1 50 dX6_windowTold_49 rfl rfl rfl ?_
    refine g_iload_n X 2 51 dX6_windowTold_50 rfl rfl rfl ?_
    refine g_callVi (ws' := [(m6, .inr (6, [.int (nI th), .int (nI nw), .int (nI nr), .int (nI nf), .ref q1, .ref q2, .ref q3, .ref q4, .ref q5, .ref q6])), (q1, .inl (cI, 30, .inl (v30 T))), (q5, .inl (cI, 130, .inl (vn S)))]) X (m_X6_wi l D cI cZ cJ m6 th nw nr nf q1 q2 q3 q4 q5 q6 w 1 T (by omega)) 54 [0, 1] gX6_windowTold_X6_wi (n := 2) rfl (by decide +kernel) rfl ⟨Nat.le_of_ble_eq_true rfl, Nat.le_of_ble_eq_true rfl⟩ (ci := 6) (q0 := 0) rfl rfl rfl (Nat.le_of_ble_eq_true rfl) rfl (by decide +kernel) rfl rfl dX6_windowTold_51 rfl ⟨Nat.le_of_ble_eq_true rfl, Nat.le_of_ble_eq_true rfl⟩ ?_
    exact ret _ _ _ _ dX6_windowTold_54 rfl ⟨rfl, rfl⟩
  · refine g_tableOut X 48 dX6_windowTold_1 (by decide +kernel) (by decide) ?_
    refine g_aload_n X 0 49 dX6_windowTold_48 rfl rfl rfl ?_
    refine g_iload_n X 1 50 dX6_windowTold_49 rfl rfl rfl ?_
    refine g_iload_n X 2 51 dX6_windowTold_50 rfl rfl rfl ?_
    refine g_callVi (ws' := [(m6, .inr (6, [.int (nI th), .int (nI nw), .int (nI nr), .int (nI nf), .ref q1, .ref q2, .ref q3, .ref q4, .ref q5, .ref q6])), (q1, .inl (cI, 30, .inl (v30 T))), (q5, .inl (cI, 130, .inl (vn S)))]) X (m_X6_wi l D cI cZ cJ m6 th nw nr nf q1 q2 q3 q4 q5 q6 w 2 T (by omega)) 54 [0, 1] gX6_windowTold_X6_wi (n := 2) rfl (by decide +kernel) rfl ⟨Nat.le_of_ble_eq_true rfl, Nat.le_of_ble_eq_true rfl⟩ (ci := 6) (q0 := 0) rfl rfl rfl (Nat.le_of_ble_eq_true rfl) rfl (by decide +kernel) rfl rfl dX6_windowTold_51 rfl ⟨Nat.le_of_ble_eq_true rfl, Nat.le_of_ble_eq_true rfl⟩ ?_
    exact ret _ _ _ _ dX6_windowTold_54 rfl ⟨rfl, rfl⟩
  · refine g_tableOut X 48 dX6_windowTold_1 (by decide +kernel) (by decide) ?_
    refine g_aload_n X 0 49 dX6_windowTold_48 rfl rfl rfl ?_
    refine g_iload_n X 1 50 dX6_windowTold_49 rfl rfl rfl ?_
    refine g_iload_n X 2 51 dX6_windowTold_50 rfl rfl rfl ?_
    refine g_callVi (ws' := [(m6, .inr (6, [.int (nI th), .int (nI nw), .int (nI nr), .int (nI nf), .ref q1, .ref q2, .ref q3, .ref q4, .ref q5, .ref q6])), (q1, .inl (cI, 30, .inl (v30 T))), (q5, .inl (cI, 130, .inl (vn S)))]) X (m_X6_wi l D cI cZ cJ m6 th nw nr nf q1 q2 q3 q4 q5 q6 w 3 T (by omega)) 54 [0, 1] gX6_windowTold_X6_wi (n := 2) rfl (by decide +kernel) rfl ⟨Nat.le_of_ble_eq_true rfl, Nat.le_of_ble_eq_true rfl⟩ (ci := 6) (q0 := 0) rfl rfl rfl (Nat.le_of_ble_eq_true rfl) rfl (by decide +kernel) rfl rfl dX6_windowTold_51 rfl ⟨Nat.le_of_ble_eq_true rfl, Nat.le_of_ble_eq_true rfl⟩ ?_
    exact ret _ _ _ _ dX6_windowTold_54 rfl ⟨rfl, rfl⟩
  · refine g_tableOut X 48 dX6_windowTold_1 (by decide +kernel) (by decide) ?_
    refine g_aload_n X 0 49 dX6_windowTold_48 rfl rfl rfl ?_
    refine g_iload_n X 1 50 dX6_windowTold_49 rfl rfl rfl ?_
    refine g_iload_n X 2 51 dX6_windowTold_50 rfl rfl rfl ?_
    refine g_callVi (ws' := [(m6, .inr (6, [.int (nI th), .int (nI nw), .int (nI nr), .int (nI nf), .ref q1, .ref q2, .ref q3, .ref q4, .ref q5, .ref q6])), (q1, .inl (cI, 30, .inl (v30 T))), (q5, .inl (cI, 130, .inl (vn S)))]) X (m_X6_wi l D cI cZ cJ m6 th nw nr nf q1 q2 q3 q4 q5 q6 w 4 T (by omega)) 54 [0, 1] gX6_windowTold_X6_wi (n := 2) rfl (by decide +kernel) rfl ⟨Nat.le_of_ble_eq_true rfl, Nat.le_of_ble_eq_true rfl⟩ (ci := 6) (q0 := 0) rfl rfl rfl (Nat.le_of_ble_eq_true rfl) rfl (by decide +kernel) rfl rfl dX6_windowTold_51 rfl ⟨Nat.le_of_ble_eq_true rfl, Nat.le_of_ble_eq_true rfl⟩ ?_
    exact ret _ _ _ _ dX6_windowTold_54 rfl ⟨rfl, rfl⟩
  · refine g_tableIn X 28 dX6_windowTold_1 5 (by decide +kernel) (by decide) (by decide) rfl (by decide) ?_
    refine g_aload_n X 0 29 dX6_windowTold_28 rfl rfl rfl ?_
    refine g_iload_n X 1 30 dX6_windowTold_29 rfl rfl rfl ?_
    refine g_iconst X (nI 0) 31 dX6_windowTold_30 rfl (by decide +kernel) ?_
    refine g_callVi (ws' := [(m6, .inr (6, [.int (nI th), .int (nI nw), .int (nI nr), .int (nI nf), .ref q1, .ref q2, .ref q3, .ref q4, .ref q5, .ref q6])), (q1, .inl (cI, 30, .inl (v30 T))), (q5, .inl (cI, 130, .inl (vn S)))]) X (m_X6_sootOf l D cI cZ cJ m6 th nw nr nf q1 q2 q3 q4 q5 q6 w 0 T S hs hT hk (by decide)) 34 [0, 1, 2] gX6_windowTold_X6_sootOf (n := 2) rfl (by decide +kernel) rfl ⟨Nat.le_of_ble_eq_true rfl, Nat.le_of_ble_eq_true rfl⟩ (ci := 6) (q0 := 0) rfl rfl rfl (Nat.le_of_ble_eq_true rfl) rfl (by decide +kernel) rfl rfl dX6_windowTold_31 rfl ⟨Nat.le_of_ble_eq_true rfl, Nat.le_of_ble_eq_true rfl⟩ ?_
    exact ret _ _ _ _ dX6_windowTold_34 rfl ⟨rfl, rfl⟩
  · refine g_tableIn X 35 dX6_windowTold_1 6 (by decide +kernel) (by decide) (by decide) rfl (by decide) ?_
    refine g_aload_n X 0 36 dX6_windowTold_35 rfl rfl rfl ?_
    refine g_iload_n X 1 37 dX6_windowTold_36 rfl rfl rfl ?_
    refine g_iconst X (nI 1) 38 dX6_windowTold_37 rfl (by decide +kernel) ?_
    refine g_callVi (ws' := [(m6, .inr (6, [.int (nI th), .int (nI nw), .int (nI nr), .int (nI nf), .ref q1, .ref q2, .ref q3, .ref q4, .ref q5, .ref q6])), (q1, .inl (cI, 30, .inl (v30 T))), (q5, .inl (cI, 130, .inl (vn S)))]) X (m_X6_sootOf l D cI cZ cJ m6 th nw nr nf q1 q2 q3 q4 q5 q6 w 1 T S hs hT hk (by decide)) 41 [0, 1, 2] gX6_windowTold_X6_sootOf (n := 2) rfl (by decide +kernel) rfl ⟨Nat.le_of_ble_eq_true rfl, Nat.le_of_ble_eq_true rfl⟩ (ci := 6) (q0 := 0) rfl rfl rfl (Nat.le_of_ble_eq_true rfl) rfl (by decide +kernel) rfl rfl dX6_windowTold_38 rfl ⟨Nat.le_of_ble_eq_true rfl, Nat.le_of_ble_eq_true rfl⟩ ?_
    exact ret _ _ _ _ dX6_windowTold_41 rfl ⟨rfl, rfl⟩
  · refine g_tableIn X 42 dX6_windowTold_1 7 (by decide +kernel) (by decide) (by decide) rfl (by decide) ?_
    refine g_aload_n X 0 43 dX6_windowTold_42 rfl rfl rfl ?_
    refine g_iload_n X 1 44 dX6_windowTold_43 rfl rfl rfl ?_
    refine g_callVi (ws' := [(m6, .inr (6, [.int (nI th), .int (nI nw), .int (nI nr), .int (nI nf), .ref q1, .ref q2, .ref q3, .ref q4, .ref q5, .ref q6])), (q1, .inl (cI, 30, .inl (v30 T))), (q5, .inl (cI, 130, .inl (vn S)))]) X (m_X6_brings l D cI cZ cJ m6 th nw nr nf q1 q2 q3 q4 q5 q6 w T S hs hT hk) 47 [0, 1, 2] gX6_windowTold_X6_brings (n := 1) rfl (by decide +kernel) rfl ⟨Nat.le_of_ble_eq_true rfl, Nat.le_of_ble_eq_true rfl⟩ (ci := 6) (q0 := 0) rfl rfl rfl (Nat.le_of_ble_eq_true rfl) rfl (by decide +kernel) rfl rfl dX6_windowTold_44 rfl ⟨Nat.le_of_ble_eq_true rfl, Nat.le_of_ble_eq_true rfl⟩ ?_
    exact ret _ _ _ _ dX6_windowTold_47 rfl ⟨rfl, rfl⟩

abbrev rm_X6_about : Room := { frames := 4, cells := 0, slots := 0, locals := 91 }
set_option maxHeartbeats 4000000 in
set_option maxRecDepth 100000 in
theorem m_X6_about (l : Launch) (D : va_G) (cI cZ cJ : ClassId) (m6 th nw nr nf q1 q2 q3 q4 q5 q6 : Nat) (w wh : Int32) (T S : Nat → Nat) (hs : sootOk S) (hn : nw ≤ 6) (hT : ∀ k : Nat, k < nw → winOk T k) : MI l yX6_about wsX6_about rm_X6_about D (gT cI cZ cJ) [(m6, .inr (6, [.int (nI th), .int (nI nw), .int (nI nr), .int (nI nf), .ref q1, .ref q2, .ref q3, .ref q4, .ref q5, .ref q6])), (q1, .inl (cI, 30, .inl (v30 T))), (q5, .inl (cI, 130, .inl (vn S)))] [.ref m6, .int w, .int wh] (fun r9 u9 => (twoE nw 8 w wh = 0 → r9 = nI (abt S T (tn w) (tn wh)) ∧ u9 = [(m6, .inr (6, [.int (nI 0), .int (nI nw), .int (nI nr), .int (nI nf), .ref q1, .ref q2, .ref q3, .ref q4, .ref q5, .ref q6])), (q1, .inl (cI, 30, .inl (v30 T))), (q5, .inl (cI, 130, .inl (vn S)))]) ∧ (¬ twoE nw 8 w wh = 0 → r9 = nI 0 ∧ u9 = [(m6, .inr (6, [.int (nI (twoE nw 8 w wh)), .int (nI nw), .int (nI nr), .int (nI nf), .ref q1, .ref q2, .ref q3, .ref q4, .ref q5, .ref q6])), (q1, .inl (cI, 30, .inl (v30 T))), (q5, .inl (cI, 130, .inl (vn S)))])) := by
  refine MI_of [(0, .ref m6), (1, .int w), (2, .int wh)] (by decide) rfl (Nat.le_of_ble_eq_true rfl) rfl ?_
  intro p e s m args below meth c A Q X ret
  have hiX6 : ∀ w ∈ wsX60, w ∈ wsX6_about := (fun _ h => List.mem_cons_of_mem _ (List.mem_append_right _ h))
  refine g_aload_n X 0 1 dX6_about_0 rfl rfl rfl ?_
  refine g_iconst X (nI 0) 2 dX6_about_1 rfl (by decide +kernel) ?_
  refine g_put (ws' := [(m6, .inr (6, [.int (nI 0), .int (nI nw), .int (nI nr), .int (nI nf), .ref q1, .ref q2, .ref q3, .ref q4, .ref q5, .ref q6])), (q1, .inl (cI, 30, .inl (v30 T))), (q5, .inl (cI, 130, .inl (vn S)))]) X hiX6 tyX6 tyX6_ok nmX6 0 0 5 rfl rfl (by decide) (List.mem_of_getElem? (i := 1) rfl) rfl (ty := .int) (by decide +kernel) rfl rfl (Nat.le_of_ble_eq_true rfl) dX6_about_2 rfl rfl ?_
  refine g_aload_n X 0 6 dX6_about_5 rfl rfl rfl ?_
  refine g_iload_n X 1 7 dX6_about_6 rfl rfl rfl ?_
  refine g_callVi (ws' := [(m6, .inr (6, [.int (nI 0), .int (nI nw), .int (nI nr), .int (nI nf), .ref q1, .ref q2, .ref q3, .ref q4, .ref q5, .ref q6])), (q1, .inl (cI, 30, .inl (v30 T))), (q5, .inl (cI, 130, .inl (vn S)))]) X (m_X6_isWindow l D cI cZ cJ m6 0 nw nr nf q1 q2 q3 q4 q5 q6 w (by omega)) 10 [0] gX6_about_X6_isWindow (n := 1) rfl (by decide +kernel) rfl ⟨Nat.le_of_ble_eq_true rfl, Nat.le_of_ble_eq_true rfl⟩ (ci := 6) (q0 := 0) rfl rfl rfl (Nat.le_of_ble_eq_true rfl) rfl (by decide +kernel) rfl rfl dX6_about_7 rfl ⟨Nat.le_of_ble_eq_true rfl, Nat.le_of_ble_eq_true rfl⟩ ?_
  refine g_if_eq X 13 32 dX6_about_10 rfl (by decide) (bn_dec decide_eq_true_iff) (fun h10 => ?_) (fun h10 => ?_)
  · refine g_aload_n X 0 33 dX6_about_32 rfl rfl rfl ?_
    refine g_iconst X (nI 1) 34 dX6_about_33 rfl (by decide +kernel) ?_
    refine g_callVi (ws' := [(m6, .inr (6, [.int (nI 1), .int (nI nw), .int (nI nr), .int (nI nf), .ref q1, .ref q2, .ref q3, .ref q4, .ref q5, .ref q6])), (q1, .inl (cI, 30, .inl (v30 T))), (q5, .inl (cI, 130, .inl (vn S)))]) X (m_X6_fail l D cI cZ cJ m6 0 nw nr nf q1 q2 q3 q4 q5 q6 1) 37 [0] gX6_about_X6_fail (n := 1) rfl (by decide +kernel) rfl ⟨Nat.le_of_ble_eq_true rfl, Nat.le_of_ble_eq_true rfl⟩ (ci := 6) (q0 := 0) rfl rfl rfl (Nat.le_of_ble_eq_true rfl) rfl (by decide +kernel) rfl rfl dX6_about_34 rfl ⟨Nat.le_of_ble_eq_true rfl, Nat.le_of_ble_eq_true rfl⟩ ?_
    have hE := (show twoE nw 8 w wh = 1 from if_pos (fun z => h10 z.1))
    exact ret _ _ _ _ dX6_about_37 rfl ⟨fun z => absurd (hE.symm.trans z) (by decide), fun _ => ⟨rfl, by rw [hE]⟩⟩
  · refine g_iload_n X 2 14 dX6_about_13 rfl rfl rfl ?_
    refine g_iconst X (nI 0) 15 dX6_about_14 rfl (by decide +kernel) ?_
    refine g_bipush X (nI 7) 17 dX6_about_15 rfl (by decide +kernel) ?_
    refine g_callSi (ws' := [(m6, .inr (6, [.int (nI 0), .int (nI nw), .int (nI nr), .int (nI nf), .ref q1, .ref q2, .ref q3, .ref q4, .ref q5, .ref q6])), (q1, .inl (cI, 30, .inl (v30 T))), (q5, .inl (cI, 130, .inl (vn S)))]) X (m_X6_isIn l D cI cZ cJ wh (nI 0) (nI 7)) 20 [] gX6_about_X6_isIn (n := 3) rfl (by decide +kernel) rfl ⟨Nat.le_of_ble_eq_true rfl, Nat.le_of_ble_eq_true rfl⟩ rfl (Nat.le_of_ble_eq_true rfl) rfl (by decide +kernel) rfl rfl dX6_about_17 rfl ⟨Nat.le_of_ble_eq_true rfl, Nat.le_of_ble_eq_true rfl⟩ ?_
    refine g_eqi (y := nI (bn (decide (isR 8 wh)))) (bn_is rfl (by decide)) ?_
    refine g_if_eq X 23 32 dX6_about_20 rfl (by decide) (bn_dec decide_eq_true_iff) (fun h20 => ?_) (fun h20 => ?_)
    · refine g_aload_n X 0 33 dX6_about_32 rfl rfl rfl ?_
      refine g_iconst X (nI 1) 34 dX6_about_33 rfl (by decide +kernel) ?_
      refine g_callVi (ws' := [(m6, .inr (6, [.int (nI 1), .int (nI nw), .int (nI nr), .int (nI nf), .ref q1, .ref q2, .ref q3, .ref q4, .ref q5, .ref q6])), (q1, .inl (cI, 30, .inl (v30 T))), (q5, .inl (cI, 130, .inl (vn S)))]) X (m_X6_fail l D cI cZ cJ m6 0 nw nr nf q1 q2 q3 q4 q5 q6 1) 37 [0] gX6_about_X6_fail (n := 1) rfl (by decide +kernel) rfl ⟨Nat.le_of_ble_eq_true rfl, Nat.le_of_ble_eq_true rfl⟩ (ci := 6) (q0 := 0) rfl rfl rfl (Nat.le_of_ble_eq_true rfl) rfl (by decide +kernel) rfl rfl dX6_about_34 rfl ⟨Nat.le_of_ble_eq_true rfl, Nat.le_of_ble_eq_true rfl⟩ ?_
      have hE := (show twoE nw 8 w wh = 1 from if_pos (fun z => h20 z.2))
      exact ret _ _ _ _ dX6_about_37 rfl ⟨fun z => absurd (hE.symm.trans z) (by decide), fun _ => ⟨rfl, by rw [hE]⟩⟩
    · have hA : isR nw w ∧ isR 8 wh := ⟨Classical.not_not.mp h10, Classical.not_not.mp h20⟩
      have hE : twoE nw 8 w wh = 0 := if_neg (fun z => z hA)
      obtain ⟨iw, hw1, rfl⟩ := isR_nat hA.1 (by omega)
      obtain ⟨ih, hh1, rfl⟩ := isR_nat hA.2 (by decide)
      rw [tn_nI (show iw < 2 ^ 31 by omega), tn_nI (show ih < 2 ^ 31 by omega)] at ret
      refine g_aload_n X 0 24 dX6_about_23 rfl rfl rfl ?_
      refine g_iload_n X 1 25 dX6_about_24 rfl rfl rfl ?_
      refine g_iload_n X 2 26 dX6_about_25 rfl rfl rfl ?_
      refine g_callVi (ws' := [(m6, .inr (6, [.int (nI 0), .int (nI nw), .int (nI nr), .int (nI nf), .ref q1, .ref q2, .ref q3, .ref q4, .ref q5, .ref q6])), (q1, .inl (cI, 30, .inl (v30 T))), (q5, .inl (cI, 130, .inl (vn S)))]) X (m_X6_windowTold l D cI cZ cJ m6 0 nw nr nf q1 q2 q3 q4 q5 q6 iw ih T S hs (hT iw hw1) (by omega) hh1) 29 [0, 1, 2] gX6_about_X6_windowTold (n := 2) rfl (by decide +kernel) rfl ⟨Nat.le_of_ble_eq_true rfl, Nat.le_of_ble_eq_true rfl⟩ (ci := 6) (q0 := 0) rfl rfl rfl (Nat.le_of_ble_eq_true rfl) rfl (by decide +kernel) rfl rfl dX6_about_26 rfl ⟨Nat.le_of_ble_eq_true rfl, Nat.le_of_ble_eq_true rfl⟩ ?_
      refine g_goto X 37 dX6_about_29 (by decide) ?_
      exact ret _ _ _ _ dX6_about_37 rfl ⟨fun _ => ⟨rfl, rfl⟩, fun z => absurd hE z⟩

abbrev rm_X6_ropeTold : Room := { frames := 1, cells := 0, slots := 0, locals := 22 }
set_option maxHeartbeats 4000000 in
set_option maxRecDepth 100000 in
theorem m_X6_ropeTold (l : Launch) (D : va_G) (cI cZ cJ : ClassId) (m6 th nw nr nf q1 q2 q3 q4 q5 q6 : Nat) (rr wh : Nat) (st S : Nat → Nat) (hk : rr < 6) (hw : wh < 6) : MI l yX6_ropeTold wsX6_ropeTold rm_X6_ropeTold D (gT cI cZ cJ) [(m6, .inr (6, [.int (nI th), .int (nI nw), .int (nI nr), .int (nI nf), .ref q1, .ref q2, .ref q3, .ref q4, .ref q5, .ref q6])), (q2, .inl (cI, 6, .inl (v6 st))), (q5, .inl (cI, 130, .inl (vn S)))] [.ref m6, .int (nI rr), .int (nI wh)] (fun r u => r = nI (tld S st rr wh) ∧ u = [(m6, .inr (6, [.int (nI th), .int (nI nw), .int (nI nr), .int (nI nf), .ref q1, .ref q2, .ref q3, .ref q4, .ref q5, .ref q6])), (q2, .inl (cI, 6, .inl (v6 st))), (q5, .inl (cI, 130, .inl (vn S)))]) := by
  refine MI_of [(0, .ref m6), (1, .int (nI rr)), (2, .int (nI wh))] (by decide) rfl (Nat.le_of_ble_eq_true rfl) rfl ?_
  intro p e s m args below meth c A Q X ret
  have hiX6 : ∀ w ∈ wsX60, w ∈ wsX6_ropeTold := (fun _ h => List.mem_cons_of_mem _ (List.mem_append_right _ h))
  refine g_iload_n X 2 1 dX6_ropeTold_0 rfl rfl rfl ?_
  refine g_iconst X (nI 2) 2 dX6_ropeTold_1 rfl (by decide +kernel) ?_
  refine g_icmp_ge X 5 14 dX6_ropeTold_2 rfl (by decide) (nI_leI (by omega) (by omega)) (fun h2 => ?_) (fun h2 => ?_)
  · refine g_iload_n X 2 15 dX6_ropeTold_14 rfl rfl rfl ?_
    refine g_iconst X (nI 2) 16 dX6_ropeTold_15 rfl (by decide +kernel) ?_
    refine g_icmp_ne X 19 28 dX6_ropeTold_16 rfl (by decide) (nI_eq (by omega) (by omega)) (fun h16 => ?_) (fun h16 => ?_)
    · refine g_aload_n X 0 29 dX6_ropeTold_28 rfl rfl rfl ?_
      refine g_iload_n X 1 30 dX6_ropeTold_29 rfl rfl rfl ?_
      refine g_iload_n X 2 31 dX6_ropeTold_30 rfl rfl rfl ?_
      refine g_iconst X (nI 1) 32 dX6_ropeTold_31 rfl (by decide +kernel) ?_
      refine g_isub X (nI (wh - 1)) 33 dX6_ropeTold_32 rfl (pk_sub (by omega)) ?_
      refine g_callVi (ws' := [(m6, .inr (6, [.int (nI th), .int (nI nw), .int (nI nr), .int (nI nf), .ref q1, .ref q2, .ref q3, .ref q4, .ref q5, .ref q6])), (q2, .inl (cI, 6, .inl (v6 st))), (q5, .inl (cI, 130, .inl (vn S)))]) X (m_X6_ro l D cI cZ cJ m6 th nw nr nf q1 q2 q3 q4 q5 q6 rr (wh - 1) S (by omega)) 36 [0, 2] gX6_ropeTold_X6_ro (n := 2) rfl (by decide +kernel) rfl ⟨Nat.le_of_ble_eq_true rfl, Nat.le_of_ble_eq_true rfl⟩ (ci := 6) (q0 := 0) rfl rfl rfl (Nat.le_of_ble_eq_true rfl) rfl (by decide +kernel) rfl rfl dX6_ropeTold_33 rfl ⟨Nat.le_of_ble_eq_true rfl, Nat.le_of_ble_eq_true rfl⟩ ?_
      refine g_eqi (y := nI (tld S st rr wh)) (congrArg nI (by rcases (show wh = 3 ∨ wh = 4 ∨ wh = 5 by omega) with rfl | rfl | rfl <;> rfl)) ?_
      exact ret _ _ _ _ dX6_ropeTold_36 rfl ⟨rfl, rfl⟩
    · refine g_aload_n X 0 20 dX6_ropeTold_19 rfl rfl rfl ?_
      refine g_get X hiX6 0 5 23 rfl rfl (by decide) (List.mem_of_getElem? (i := 1) rfl) rfl dX6_ropeTold_20 rfl ?_
      refine g_iload_n X 1 24 dX6_ropeTold_23 rfl rfl rfl ?_
      refine g_iald X 1 0 (rr) (nI (st rr)) 25 rfl rfl (by omega) (by decide) (v6_at hk) dX6_ropeTold_24 rfl ?_
      refine g_eqi (y := nI (tld S st rr wh)) (congrArg nI (by rw [h16]; rfl)) ?_
      refine g_goto X 36 dX6_ropeTold_25 (by decide) ?_
      exact ret _ _ _ _ dX6_ropeTold_36 rfl ⟨rfl, rfl⟩
  · refine g_aload_n X 0 6 dX6_ropeTold_5 rfl rfl rfl ?_
    refine g_iload_n X 1 7 dX6_ropeTold_6 rfl rfl rfl ?_
    refine g_iload_n X 2 8 dX6_ropeTold_7 rfl rfl rfl ?_
    refine g_callVi (ws' := [(m6, .inr (6, [.int (nI th), .int (nI nw), .int (nI nr), .int (nI nf), .ref q1, .ref q2, .ref q3, .ref q4, .ref q5, .ref q6])), (q2, .inl (cI, 6, .inl (v6 st))), (q5, .inl (cI, 130, .inl (vn S)))]) X (m_X6_ro l D cI cZ cJ m6 th nw nr nf q1 q2 q3 q4 q5 q6 rr wh S (by omega)) 11 [0, 2] gX6_ropeTold_X6_ro (n := 2) rfl (by decide +kernel) rfl ⟨Nat.le_of_ble_eq_true rfl, Nat.le_of_ble_eq_true rfl⟩ (ci := 6) (q0 := 0) rfl rfl rfl (Nat.le_of_ble_eq_true rfl) rfl (by decide +kernel) rfl rfl dX6_ropeTold_8 rfl ⟨Nat.le_of_ble_eq_true rfl, Nat.le_of_ble_eq_true rfl⟩ ?_
    refine g_eqi (y := nI (tld S st rr wh)) (congrArg nI (by rcases (show wh = 0 ∨ wh = 1 by omega) with rfl | rfl <;> rfl)) ?_
    refine g_goto X 36 dX6_ropeTold_11 (by decide) ?_
    exact ret _ _ _ _ dX6_ropeTold_36 rfl ⟨rfl, rfl⟩

abbrev rm_X6_told : Room := { frames := 2, cells := 0, slots := 0, locals := 44 }
set_option maxHeartbeats 4000000 in
set_option maxRecDepth 100000 in
theorem m_X6_told (l : Launch) (D : va_G) (cI cZ cJ : ClassId) (m6 th nw nr nf q1 q2 q3 q4 q5 q6 : Nat) (r wh : Int32) (st S : Nat → Nat) (hn : nr ≤ 6) : MI l yX6_told wsX6_told rm_X6_told D (gT cI cZ cJ) [(m6, .inr (6, [.int (nI th), .int (nI nw), .int (nI nr), .int (nI nf), .ref q1, .ref q2, .ref q3, .ref q4, .ref q5, .ref q6])), (q2, .inl (cI, 6, .inl (v6 st))), (q5, .inl (cI, 130, .inl (vn S)))] [.ref m6, .int r, .int wh] (fun r9 u9 => (twoE nr 6 r wh = 0 → r9 = nI (tld S st (tn r) (tn wh)) ∧ u9 = [(m6, .inr (6, [.int (nI 0), .int (nI nw), .int (nI nr), .int (nI nf), .ref q1, .ref q2, .ref q3, .ref q4, .ref q5, .ref q6])), (q2, .inl (cI, 6, .inl (v6 st))), (q5, .inl (cI, 130, .inl (vn S)))]) ∧ (¬ twoE nr 6 r wh = 0 → r9 = nI 0 ∧ u9 = [(m6, .inr (6, [.int (nI (twoE nr 6 r wh)), .int (nI nw), .int (nI nr), .int (nI nf), .ref q1, .ref q2, .ref q3, .ref q4, .ref q5, .ref q6])), (q2, .inl (cI, 6, .inl (v6 st))), (q5, .inl (cI, 130, .inl (vn S)))])) := by
  refine MI_of [(0, .ref m6), (1, .int r), (2, .int wh)] (by decide) rfl (Nat.le_of_ble_eq_true rfl) rfl ?_
  intro p e s m args below meth c A Q X ret
  have hiX6 : ∀ w ∈ wsX60, w ∈ wsX6_told := (fun _ h => List.mem_cons_of_mem _ (List.mem_append_right _ h))
  refine g_aload_n X 0 1 dX6_told_0 rfl rfl rfl ?_
  refine g_iconst X (nI 0) 2 dX6_told_1 rfl (by decide +kernel) ?_
  refine g_put (ws' := [(m6, .inr (6, [.int (nI 0), .int (nI nw), .int (nI nr), .int (nI nf), .ref q1, .ref q2, .ref q3, .ref q4, .ref q5, .ref q6])), (q2, .inl (cI, 6, .inl (v6 st))), (q5, .inl (cI, 130, .inl (vn S)))]) X hiX6 tyX6 tyX6_ok nmX6 0 0 5 rfl rfl (by decide) (List.mem_of_getElem? (i := 1) rfl) rfl (ty := .int) (by decide +kernel) rfl rfl (Nat.le_of_ble_eq_true rfl) dX6_told_2 rfl rfl ?_
  refine g_aload_n X 0 6 dX6_told_5 rfl rfl rfl ?_
  refine g_iload_n X 1 7 dX6_told_6 rfl rfl rfl ?_
  refine g_callVi (ws' := [(m6, .inr (6, [.int (nI 0), .int (nI nw), .int (nI nr), .int (nI nf), .ref q1, .ref q2, .ref q3, .ref q4, .ref q5, .ref q6])), (q2, .inl (cI, 6, .inl (v6 st))), (q5, .inl (cI, 130, .inl (vn S)))]) X (m_X6_isRope l D cI cZ cJ m6 0 nw nr nf q1 q2 q3 q4 q5 q6 r (by omega)) 10 [0] gX6_told_X6_isRope (n := 1) rfl (by decide +kernel) rfl ⟨Nat.le_of_ble_eq_true rfl, Nat.le_of_ble_eq_true rfl⟩ (ci := 6) (q0 := 0) rfl rfl rfl (Nat.le_of_ble_eq_true rfl) rfl (by decide +kernel) rfl rfl dX6_told_7 rfl ⟨Nat.le_of_ble_eq_true rfl, Nat.le_of_ble_eq_true rfl⟩ ?_
  refine g_if_eq X 13 31 dX6_told_10 rfl (by decide) (bn_dec decide_eq_true_iff) (fun h10 => ?_) (fun h10 => ?_)
  · refine g_aload_n X 0 32 dX6_told_31 rfl rfl rfl ?_
    refine g_iconst X (nI 1) 33 dX6_told_32 rfl (by decide +kernel) ?_
    refine g_callVi (ws' := [(m6, .inr (6, [.int (nI 1), .int (nI nw), .int (nI nr), .int (nI nf), .ref q1, .ref q2, .ref q3, .ref q4, .ref q5, .ref q6])), (q2, .inl (cI, 6, .inl (v6 st))), (q5, .inl (cI, 130, .inl (vn S)))]) X (m_X6_fail l D cI cZ cJ m6 0 nw nr nf q1 q2 q3 q4 q5 q6 1) 36 [0] gX6_told_X6_fail (n := 1) rfl (by decide +kernel) rfl ⟨Nat.le_of_ble_eq_true rfl, Nat.le_of_ble_eq_true rfl⟩ (ci := 6) (q0 := 0) rfl rfl rfl (Nat.le_of_ble_eq_true rfl) rfl (by decide +kernel) rfl rfl dX6_told_33 rfl ⟨Nat.le_of_ble_eq_true rfl, Nat.le_of_ble_eq_true rfl⟩ ?_
    have hE := (show twoE nr 6 r wh = 1 from if_pos (fun z => h10 z.1))
    exact ret _ _ _ _ dX6_told_36 rfl ⟨fun z => absurd (hE.symm.trans z) (by decide), fun _ => ⟨rfl, by rw [hE]⟩⟩
  · refine g_iload_n X 2 14 dX6_told_13 rfl rfl rfl ?_
    refine g_iconst X (nI 0) 15 dX6_told_14 rfl (by decide +kernel) ?_
    refine g_iconst X (nI 5) 16 dX6_told_15 rfl (by decide +kernel) ?_
    refine g_callSi (ws' := [(m6, .inr (6, [.int (nI 0), .int (nI nw), .int (nI nr), .int (nI nf), .ref q1, .ref q2, .ref q3, .ref q4, .ref q5, .ref q6])), (q2, .inl (cI, 6, .inl (v6 st))), (q5, .inl (cI, 130, .inl (vn S)))]) X (m_X6_isIn l D cI cZ cJ wh (nI 0) (nI 5)) 19 [] gX6_told_X6_isIn (n := 3) rfl (by decide +kernel) rfl ⟨Nat.le_of_ble_eq_true rfl, Nat.le_of_ble_eq_true rfl⟩ rfl (Nat.le_of_ble_eq_true rfl) rfl (by decide +kernel) rfl rfl dX6_told_16 rfl ⟨Nat.le_of_ble_eq_true rfl, Nat.le_of_ble_eq_true rfl⟩ ?_
    refine g_eqi (y := nI (bn (decide (isR 6 wh)))) (bn_is rfl (by decide)) ?_
    refine g_if_eq X 22 31 dX6_told_19 rfl (by decide) (bn_dec decide_eq_true_iff) (fun h19 => ?_) (fun h19 => ?_)
    · refine g_aload_n X 0 32 dX6_told_31 rfl rfl rfl ?_
      refine g_iconst X (nI 1) 33 dX6_told_32 rfl (by decide +kernel) ?_
      refine g_callVi (ws' := [(m6, .inr (6, [.int (nI 1), .int (nI nw), .int (nI nr), .int (nI nf), .ref q1, .ref q2, .ref q3, .ref q4, .ref q5, .ref q6])), (q2, .inl (cI, 6, .inl (v6 st))), (q5, .inl (cI, 130, .inl (vn S)))]) X (m_X6_fail l D cI cZ cJ m6 0 nw nr nf q1 q2 q3 q4 q5 q6 1) 36 [0] gX6_told_X6_fail (n := 1) rfl (by decide +kernel) rfl ⟨Nat.le_of_ble_eq_true rfl, Nat.le_of_ble_eq_true rfl⟩ (ci := 6) (q0 := 0) rfl rfl rfl (Nat.le_of_ble_eq_true rfl) rfl (by decide +kernel) rfl rfl dX6_told_33 rfl ⟨Nat.le_of_ble_eq_true rfl, Nat.le_of_ble_eq_true rfl⟩ ?_
      have hE := (show twoE nr 6 r wh = 1 from if_pos (fun z => h19 z.2))
      exact ret _ _ _ _ dX6_told_36 rfl ⟨fun z => absurd (hE.symm.trans z) (by decide), fun _ => ⟨rfl, by rw [hE]⟩⟩
    · have hA : isR nr r ∧ isR 6 wh := ⟨Classical.not_not.mp h10, Classical.not_not.mp h19⟩
      have hE : twoE nr 6 r wh = 0 := if_neg (fun z => z hA)
      obtain ⟨ir, hr1, rfl⟩ := isR_nat hA.1 (by omega)
      obtain ⟨ih, hh1, rfl⟩ := isR_nat hA.2 (by decide)
      rw [tn_nI (show ir < 2 ^ 31 by omega), tn_nI (show ih < 2 ^ 31 by omega)] at ret
      refine g_aload_n X 0 23 dX6_told_22 rfl rfl rfl ?_
      refine g_iload_n X 1 24 dX6_told_23 rfl rfl rfl ?_
      refine g_iload_n X 2 25 dX6_told_24 rfl rfl rfl ?_
      refine g_callVi (ws' := [(m6, .inr (6, [.int (nI 0), .int (nI nw), .int (nI nr), .int (nI nf), .ref q1, .ref q2, .ref q3, .ref q4, .ref q5, .ref q6])), (q2, .inl (cI, 6, .inl (v6 st))), (q5, .inl (cI, 130, .inl (vn S)))]) X (m_X6_ropeTold l D cI cZ cJ m6 0 nw nr nf q1 q2 q3 q4 q5 q6 ir ih st S (by omega) hh1) 28 [0, 1, 2] gX6_told_X6_ropeTold (n := 2) rfl (by decide +kernel) rfl ⟨Nat.le_of_ble_eq_true rfl, Nat.le_of_ble_eq_true rfl⟩ (ci := 6) (q0 := 0) rfl rfl rfl (Nat.le_of_ble_eq_true rfl) rfl (by decide +kernel) rfl rfl dX6_told_25 rfl ⟨Nat.le_of_ble_eq_true rfl, Nat.le_of_ble_eq_true rfl⟩ ?_
      refine g_goto X 36 dX6_told_28 (by decide) ?_
      exact ret _ _ _ _ dX6_told_36 rfl ⟨fun _ => ⟨rfl, rfl⟩, fun z => absurd hE z⟩

abbrev rm_X6_allSoot : Room := { frames := 0, cells := 0, slots := 0, locals := 0 }
set_option maxHeartbeats 4000000 in
set_option maxRecDepth 100000 in
theorem m_X6_allSoot (l : Launch) (D : va_G) (cI cZ cJ : ClassId) (m6 th nw nr nf q1 q2 q3 q4 q5 q6 : Nat) (S : Nat → Nat)  : MI l yX6_allSoot wsX6_allSoot rm_X6_allSoot D (gT cI cZ cJ) [(m6, .inr (6, [.int (nI th), .int (nI nw), .int (nI nr), .int (nI nf), .ref q1, .ref q2, .ref q3, .ref q4, .ref q5, .ref q6])), (q5, .inl (cI, 130, .inl (vn S)))] [.ref m6] (fun r u => r = nI (allS S) ∧ u = [(m6, .inr (6, [.int (nI th), .int (nI nw), .int (nI nr), .int (nI nf), .ref q1, .ref q2, .ref q3, .ref q4, .ref q5, .ref q6])), (q5, .inl (cI, 130, .inl (vn S)))]) := by
  refine MI_of [(0, .ref m6)] (by decide) rfl (Nat.le_of_ble_eq_true rfl) rfl ?_
  intro p e s m args below meth c A Q X ret
  have hiX6 : ∀ w ∈ wsX60, w ∈ wsX6_allSoot := (fun _ h => List.mem_cons_of_mem _ (List.mem_append_right _ h))
  refine g_iconst X (nI 0) 1 dX6_allSoot_0 rfl (by decide +kernel) ?_
  refine g_istore_n X [(1, .int (nI 0)), (0, .ref m6)] 2 dX6_allSoot_1 rfl rfl (by decide) rfl ?_
  refine g_iconst X (nI 0) 3 dX6_allSoot_2 rfl (by decide +kernel) ?_
  refine g_istore_n X [(2, .int (nI 0)), (1, .int (nI 0)), (0, .ref m6)] 4 dX6_allSoot_3 rfl rfl (by decide) rfl ?_
  have L : ∀ j : Nat, j ≤ 96 → G p l e rm_X6_allSoot s m args below meth c Q D A 3 0 0 [(m6, .inr (6, [.int (nI th), .int (nI nw), .int (nI nr), .int (nI nf), .ref q1, .ref q2, .ref q3, .ref q4, .ref q5, .ref q6])), (q5, .inl (cI, 130, .inl (vn S)))] [(2, .int (nI j)), (1, .int (nI (sm (fun k => S (4 + k)) j))), (0, .ref m6)] 4 [] := by
    refine g_down _ ?_ ?_
    · refine g_iload_n X 0 5 dX6_allSoot_4 rfl rfl rfl ?_
      refine g_bipush X (nI 96) 7 dX6_allSoot_5 rfl (by decide +kernel) ?_
      refine g_icmp_ge X 10 27 dX6_allSoot_7 rfl (by decide) (nI_leI (by omega) (by omega)) (fun h7 => ?_) (fun h7 => absurd (Nat.le_refl _) h7)
      refine g_iload_n X 1 28 dX6_allSoot_27 rfl rfl rfl ?_
      exact ret _ _ _ _ dX6_allSoot_28 rfl ⟨rfl, rfl⟩
    · intro j hj ih_j 
      refine g_iload_n X 0 5 dX6_allSoot_4 rfl rfl rfl ?_
      refine g_bipush X (nI 96) 7 dX6_allSoot_5 rfl (by decide +kernel) ?_
      refine g_icmp_ge X 10 27 dX6_allSoot_7 rfl (by decide) (nI_leI (by omega) (by omega)) (fun h7 => absurd h7 (by omega)) (fun h7 => ?_)
      refine g_iload_n X 1 11 dX6_allSoot_10 rfl rfl rfl ?_
      refine g_aload_n X 2 12 dX6_allSoot_11 rfl rfl rfl ?_
      refine g_get X hiX6 0 8 15 rfl rfl (by decide) (List.mem_of_getElem? (i := 1) rfl) rfl dX6_allSoot_12 rfl ?_
      refine g_iconst X (nI 4) 16 dX6_allSoot_15 rfl (by decide +kernel) ?_
      refine g_iload_n X 0 17 dX6_allSoot_16 rfl rfl rfl ?_
      refine g_iadd X (nI (4 + j)) 18 dX6_allSoot_17 rfl (nI_add _ _) ?_
      refine g_iald X 1 0 (4 + j) (nI (S (4 + j))) 19 rfl rfl (by omega) (by decide) (vn_at (by omega)) dX6_allSoot_18 rfl ?_
      refine g_iadd X (nI ((sm (fun k => S (4 + k)) j) + (S (4 + j)))) 20 dX6_allSoot_19 rfl (nI_add _ _) ?_
      refine g_istore_n X [(1, .int (nI ((sm (fun k => S (4 + k)) j) + (S (4 + j))))), (2, .int (nI j)), (0, .ref m6)] 21 dX6_allSoot_20 rfl rfl (by decide) rfl ?_
      refine g_iinc X 1 (nI (j + 1)) [(2, .int (nI (j + 1))), (1, .int (nI ((sm (fun k => S (4 + k)) j) + (S (4 + j))))), (0, .ref m6)] 24 dX6_allSoot_21 rfl rfl (nI_inc _) (by decide) rfl ?_
      refine g_goto X 4 dX6_allSoot_24 (by decide) ?_
      exact ih_j
  exact L 0 (Nat.zero_le _)

abbrev rm_X6_cleaned : Room := { frames := 1, cells := 0, slots := 0, locals := 22 }
set_option maxHeartbeats 4000000 in
set_option maxRecDepth 100000 in
theorem m_X6_cleaned (l : Launch) (D : va_G) (cI cZ cJ : ClassId) (m6 th nw nr nf q1 q2 q3 q4 q5 q6 : Nat) (S : Nat → Nat) (hn : nr ≤ 6) : MI l yX6_cleaned wsX6_cleaned rm_X6_cleaned D (gT cI cZ cJ) [(m6, .inr (6, [.int (nI th), .int (nI nw), .int (nI nr), .int (nI nf), .ref q1, .ref q2, .ref q3, .ref q4, .ref q5, .ref q6])), (q5, .inl (cI, 130, .inl (vn S)))] [.ref m6] (fun r u => r = nI (cldS S nr) ∧ u = [(m6, .inr (6, [.int (nI th), .int (nI nw), .int (nI nr), .int (nI nf), .ref q1, .ref q2, .ref q3, .ref q4, .ref q5, .ref q6])), (q5, .inl (cI, 130, .inl (vn S)))]) := by
  refine MI_of [(0, .ref m6)] (by decide) rfl (Nat.le_of_ble_eq_true rfl) rfl ?_
  intro p e s m args below meth c A Q X ret
  have hiX6 : ∀ w ∈ wsX60, w ∈ wsX6_cleaned := (fun _ h => List.mem_cons_of_mem _ (List.mem_append_right _ h))
  refine g_iconst X (nI 0) 1 dX6_cleaned_0 rfl (by decide +kernel) ?_
  refine g_istore_n X [(1, .int (nI 0)), (0, .ref m6)] 2 dX6_cleaned_1 rfl rfl (by decide) rfl ?_
  refine g_iconst X (nI 0) 3 dX6_cleaned_2 rfl (by decide +kernel) ?_
  refine g_istore_n X [(2, .int (nI 0)), (1, .int (nI 0)), (0, .ref m6)] 4 dX6_cleaned_3 rfl rfl (by decide) rfl ?_
  have L : ∀ j : Nat, j ≤ nr → G p l e rm_X6_cleaned s m args below meth c Q D A 3 0 0 [(m6, .inr (6, [.int (nI th), .int (nI nw), .int (nI nr), .int (nI nf), .ref q1, .ref q2, .ref q3, .ref q4, .ref q5, .ref q6])), (q5, .inl (cI, 130, .inl (vn S)))] [(2, .int (nI j)), (1, .int (nI (sm (fun r => S (100 + 5 * r + 3)) j))), (0, .ref m6)] 4 [] := by
    refine g_down _ ?_ ?_
    · refine g_iload_n X 0 5 dX6_cleaned_4 rfl rfl rfl ?_
      refine g_aload_n X 2 6 dX6_cleaned_5 rfl rfl rfl ?_
      refine g_get X hiX6 0 2 9 rfl rfl (by decide) (List.mem_of_getElem? (i := 1) rfl) rfl dX6_cleaned_6 rfl ?_
      refine g_icmp_ge X 12 27 dX6_cleaned_9 rfl (by decide) (nI_leI (by omega) (by omega)) (fun h9 => ?_) (fun h9 => absurd (Nat.le_refl _) h9)
      refine g_iload_n X 1 28 dX6_cleaned_27 rfl rfl rfl ?_
      exact ret _ _ _ _ dX6_cleaned_28 rfl ⟨rfl, rfl⟩
    · intro j hj ih_j 
      refine g_iload_n X 0 5 dX6_cleaned_4 rfl rfl rfl ?_
      refine g_aload_n X 2 6 dX6_cleaned_5 rfl rfl rfl ?_
      refine g_get X hiX6 0 2 9 rfl rfl (by decide) (List.mem_of_getElem? (i := 1) rfl) rfl dX6_cleaned_6 rfl ?_
      refine g_icmp_ge X 12 27 dX6_cleaned_9 rfl (by decide) (nI_leI (by omega) (by omega)) (fun h9 => absurd h9 (by omega)) (fun h9 => ?_)
      refine g_iload_n X 1 13 dX6_cleaned_12 rfl rfl rfl ?_
      refine g_aload_n X 2 14 dX6_cleaned_13 rfl rfl rfl ?_
      refine g_iload_n X 0 15 dX6_cleaned_14 rfl rfl rfl ?_
      refine g_iconst X (nI 3) 16 dX6_cleaned_15 rfl (by decide +kernel) ?_
      refine g_callVi (ws' := [(m6, .inr (6, [.int (nI th), .int (nI nw), .int (nI nr), .int (nI nf), .ref q1, .ref q2, .ref q3, .ref q4, .ref q5, .ref q6])), (q5, .inl (cI, 130, .inl (vn S)))]) X (m_X6_ro l D cI cZ cJ m6 th nw nr nf q1 q2 q3 q4 q5 q6 j 3 S (by omega)) 19 [0, 1] gX6_cleaned_X6_ro (n := 2) rfl (by decide +kernel) rfl ⟨Nat.le_of_ble_eq_true rfl, Nat.le_of_ble_eq_true rfl⟩ (ci := 6) (q0 := 0) rfl rfl rfl (Nat.le_of_ble_eq_true rfl) rfl (by decide +kernel) rfl rfl dX6_cleaned_16 rfl ⟨Nat.le_of_ble_eq_true rfl, Nat.le_of_ble_eq_true rfl⟩ ?_
      refine g_iadd X (nI ((sm (fun r => S (100 + 5 * r + 3)) j) + (S (100 + 5 * j + 3)))) 20 dX6_cleaned_19 rfl (nI_add _ _) ?_
      refine g_istore_n X [(1, .int (nI ((sm (fun r => S (100 + 5 * r + 3)) j) + (S (100 + 5 * j + 3))))), (2, .int (nI j)), (0, .ref m6)] 21 dX6_cleaned_20 rfl rfl (by decide) rfl ?_
      refine g_iinc X 1 (nI (j + 1)) [(2, .int (nI (j + 1))), (1, .int (nI ((sm (fun r => S (100 + 5 * r + 3)) j) + (S (100 + 5 * j + 3))))), (0, .ref m6)] 24 dX6_cleaned_21 rfl rfl (nI_inc _) (by decide) rfl ?_
      refine g_goto X 4 dX6_cleaned_24 (by decide) ?_
      exact ih_j
  exact L 0 (Nat.zero_le _)

abbrev rm_X6_counted : Room := { frames := 4, cells := 0, slots := 0, locals := 91 }
set_option maxHeartbeats 4000000 in
set_option maxRecDepth 100000 in
theorem m_X6_counted (l : Launch) (D : va_G) (cI cZ cJ : ClassId) (m6 th nw nr nf q1 q2 q3 q4 q5 q6 : Nat) (wh : Nat) (T S : Nat → Nat) (hs : sootOk S) (hn : nw ≤ 6) (hn2 : nr ≤ 6) (hT : ∀ k : Nat, k < nw → winOk T k) (hw : wh < 11) : MI l yX6_counted wsX6_counted rm_X6_counted D (gT cI cZ cJ) [(m6, .inr (6, [.int (nI th), .int (nI nw), .int (nI nr), .int (nI nf), .ref q1, .ref q2, .ref q3, .ref q4, .ref q5, .ref q6])), (q1, .inl (cI, 30, .inl (v30 T))), (q5, .inl (cI, 130, .inl (vn S)))] [.ref m6, .int (nI wh)] (fun r u => r = nI (cnt S T nw nr nf wh) ∧ u = [(m6, .inr (6, [.int (nI th), .int (nI nw), .int (nI nr), .int (nI nf), .ref q1, .ref q2, .ref q3, .ref q4, .ref q5, .ref q6])), (q1, .inl (cI, 30, .inl (v30 T))), (q5, .inl (cI, 130, .inl (vn S)))]) := by
  refine MI_of [(0, .ref m6), (1, .int (nI wh))] (by decide) rfl (Nat.le_of_ble_eq_true rfl) rfl ?_
  intro p e s m args below meth c A Q X ret
  have hiX6 : ∀ w ∈ wsX60, w ∈ wsX6_counted := (fun _ h => List.mem_cons_of_mem _ (List.mem_append_right _ h))
  refine g_iconst X (nI 0) 1 dX6_counted_0 rfl (by decide +kernel) ?_
  refine g_istore_n X [(2, .int (nI 0)), (0, .ref m6), (1, .int (nI wh))] 2 dX6_counted_1 rfl rfl (by decide) rfl ?_
  refine g_iload_n X 2 3 dX6_counted_2 rfl rfl rfl ?_
  rcases (show wh = 0 ∨ wh = 1 ∨ wh = 2 ∨ wh = 3 ∨ wh = 4 ∨ wh = 5 ∨ wh = 6 ∨ wh = 7 ∨ wh = 8 ∨ wh = 9 ∨ wh = 10 by omega) with rfl | rfl | rfl | rfl | rfl | rfl | rfl | rfl | rfl | rfl | rfl
  · refine g_tableIn X 56 dX6_counted_3 0 (by decide +kernel) (by decide) (by decide) rfl (by decide) ?_
    refine g_aload_n X 1 57 dX6_counted_56 rfl rfl rfl ?_
    refine g_get X hiX6 0 8 60 rfl rfl (by decide) (List.mem_of_getElem? (i := 1) rfl) rfl dX6_counted_57 rfl ?_
    refine g_iconst X (nI 0) 61 dX6_counted_60 rfl (by decide +kernel) ?_
    refine g_iald X 2 0 (0) (nI (S 0)) 62 rfl rfl (by omega) (by decide) (vn_at (by decide)) dX6_counted_61 rfl ?_
    exact ret _ _ _ _ dX6_counted_62 rfl ⟨rfl, rfl⟩
  · refine g_tableIn X 63 dX6_counted_3 1 (by decide +kernel) (by decide) (by decide) rfl (by decide) ?_
    refine g_aload_n X 1 64 dX6_counted_63 rfl rfl rfl ?_
    refine g_get X hiX6 0 1 67 rfl rfl (by decide) (List.mem_of_getElem? (i := 2) rfl) rfl dX6_counted_64 rfl ?_
    exact ret _ _ _ _ dX6_counted_67 rfl ⟨rfl, rfl⟩
  · refine g_tableIn X 68 dX6_counted_3 2 (by decide +kernel) (by decide) (by decide) rfl (by decide) ?_
    refine g_aload_n X 1 69 dX6_counted_68 rfl rfl rfl ?_
    refine g_get X hiX6 0 2 72 rfl rfl (by decide) (List.mem_of_getElem? (i := 3) rfl) rfl dX6_counted_69 rfl ?_
    exact ret _ _ _ _ dX6_counted_72 rfl ⟨rfl, rfl⟩
  · refine g_tableIn X 73 dX6_counted_3 3 (by decide +kernel) (by decide) (by decide) rfl (by decide) ?_
    refine g_aload_n X 1 74 dX6_counted_73 rfl rfl rfl ?_
    refine g_get X hiX6 0 3 77 rfl rfl (by decide) (List.mem_of_getElem? (i := 4) rfl) rfl dX6_counted_74 rfl ?_
    exact ret _ _ _ _ dX6_counted_77 rfl ⟨rfl, rfl⟩
  · refine g_tableIn X 78 dX6_counted_3 4 (by decide +kernel) (by decide) (by decide) rfl (by decide) ?_
    refine g_aload_n X 1 79 dX6_counted_78 rfl rfl rfl ?_
    refine g_get X hiX6 0 8 82 rfl rfl (by decide) (List.mem_of_getElem? (i := 1) rfl) rfl dX6_counted_79 rfl ?_
    refine g_iconst X (nI 1) 83 dX6_counted_82 rfl (by decide +kernel) ?_
    refine g_iald X 2 0 (1) (nI (S 1)) 84 rfl rfl (by omega) (by decide) (vn_at (by decide)) dX6_counted_83 rfl ?_
    exact ret _ _ _ _ dX6_counted_84 rfl ⟨rfl, rfl⟩
  · refine g_tableIn X 85 dX6_counted_3 5 (by decide +kernel) (by decide) (by decide) rfl (by decide) ?_
    refine g_aload_n X 1 86 dX6_counted_85 rfl rfl rfl ?_
    refine g_callVi (ws' := [(m6, .inr (6, [.int (nI th), .int (nI nw), .int (nI nr), .int (nI nf), .ref q1, .ref q2, .ref q3, .ref q4, .ref q5, .ref q6])), (q1, .inl (cI, 30, .inl (v30 T))), (q5, .inl (cI, 130, .inl (vn S)))]) X (m_X6_allSoot l D cI cZ cJ m6 th nw nr nf q1 q2 q3 q4 q5 q6 S) 89 [0, 2] gX6_counted_X6_allSoot (n := 0) rfl (by decide +kernel) rfl ⟨Nat.le_of_ble_eq_true rfl, Nat.le_of_ble_eq_true rfl⟩ (ci := 6) (q0 := 0) rfl rfl rfl (Nat.le_of_ble_eq_true rfl) rfl (by decide +kernel) rfl rfl dX6_counted_86 rfl ⟨Nat.le_of_ble_eq_true rfl, Nat.le_of_ble_eq_true rfl⟩ ?_
    exact ret _ _ _ _ dX6_counted_89 rfl ⟨rfl, rfl⟩
  · refine g_tableIn X 90 dX6_counted_3 6 (by decide +kernel) (by decide) (by decide) rfl (by decide) ?_
    refine g_iconst X (nI 0) 91 dX6_counted_90 rfl (by decide +kernel) ?_
    refine g_istore_n X [(3, .int (nI 0)), (2, .int (nI 0)), (0, .ref m6), (1, .int (nI 6))] 92 dX6_counted_91 rfl rfl (by decide) rfl ?_
    have L : ∀ j : Nat, j ≤ 96 → G p l e rm_X6_counted s m args below meth c Q D A 4 0 0 [(m6, .inr (6, [.int (nI th), .int (nI nw), .int (nI nr), .int (nI nf), .ref q1, .ref q2, .ref q3, .ref q4, .ref q5, .ref q6])), (q1, .inl (cI, 30, .inl (v30 T))), (q5, .inl (cI, 130, .inl (vn S)))] [(3, .int (nI j)), (2, .int (nI (sm (fun k => if S (4 + k) = 0 then 1 else 0) j))), (0, .ref m6), (1, .int (nI 6))] 92 [] := by
      refine g_down _ ?_ ?_
      · refine g_iload_n X 0 93 dX6_counted_92 rfl rfl rfl ?_
        refine g_bipush X (nI 96) 95 dX6_counted_93 rfl (by decide +kernel) ?_
        refine g_icmp_ge X 98 123 dX6_counted_95 rfl (by decide) (nI_leI (by omega) (by omega)) (fun h95 => ?_) (fun h95 => absurd (Nat.le_refl _) h95)
        refine g_iload_n X 1 124 dX6_counted_123 rfl rfl rfl ?_
        exact ret _ _ _ _ dX6_counted_124 rfl ⟨rfl, rfl⟩
      · intro j hj ih_j 
        refine g_iload_n X 0 93 dX6_counted_92 rfl rfl rfl ?_
        refine g_bipush X (nI 96) 95 dX6_counted_93 rfl (by decide +kernel) ?_
        refine g_icmp_ge X 98 123 dX6_counted_95 rfl (by decide) (nI_leI (by omega) (by omega)) (fun h95 => absurd h95 (by omega)) (fun h95 => ?_)
        have h20 := hs j hj
        refine g_iload_n X 1 99 dX6_counted_98 rfl rfl rfl ?_
        refine g_aload_n X 2 100 dX6_counted_99 rfl rfl rfl ?_
        refine g_get X hiX6 0 8 103 rfl rfl (by decide) (List.mem_of_getElem? (i := 1) rfl) rfl dX6_counted_100 rfl ?_
        refine g_iconst X (nI 4) 104 dX6_counted_103 rfl (by decide +kernel) ?_
        refine g_iload_n X 0 105 dX6_counted_104 rfl rfl rfl ?_
        refine g_iadd X (nI (4 + j)) 106 dX6_counted_105 rfl (nI_add _ _) ?_
        refine g_iald X 2 0 (4 + j) (nI (S (4 + j))) 107 rfl rfl (by omega) (by decide) (vn_at (by omega)) dX6_counted_106 rfl ?_
        refine g_if_ne X 110 114 dX6_counted_107 rfl (by decide) (nz_eq (by omega)) (fun hz => ?_) (fun hz => ?_)
        · refine g_iconst X (nI 0) 115 dX6_counted_114 rfl (by decide +kernel) ?_
          refine g_iadd X (nI ((sm (fun k => if S (4 + k) = 0 then 1 else 0) j) + 0)) 116 dX6_counted_115 rfl (nI_add _ _) ?_
          refine g_istore_n X [(2, .int (nI ((sm (fun k => if S (4 + k) = 0 then 1 else 0) j) + 0))), (3, .int (nI j)), (0, .ref m6), (1, .int (nI 6))] 117 dX6_counted_116 rfl rfl (by decide) rfl ?_
          refine g_iinc X 1 (nI (j + 1)) [(3, .int (nI (j + 1))), (2, .int (nI ((sm (fun k => if S (4 + k) = 0 then 1 else 0) j) + 0))), (0, .ref m6), (1, .int (nI 6))] 120 dX6_counted_117 rfl rfl (nI_inc _) (by decide) rfl ?_
          refine g_goto X 92 dX6_counted_120 (by decide) ?_
          exact (by rw [show sm (fun k => if S (4 + k) = 0 then 1 else 0) (j + 1) = sm (fun k => if S (4 + k) = 0 then 1 else 0) j + 0 from (sm_s _ _).trans (congrArg (fun x9 => sm (fun k => if S (4 + k) = 0 then 1 else 0) j + x9) (if_neg hz))] at ih_j; exact ih_j)
        · refine g_iconst X (nI 1) 111 dX6_counted_110 rfl (by decide +kernel) ?_
          refine g_goto X 115 dX6_counted_111 (by decide) ?_
          refine g_iadd X (nI ((sm (fun k => if S (4 + k) = 0 then 1 else 0) j) + 1)) 116 dX6_counted_115 rfl (nI_add _ _) ?_
          refine g_istore_n X [(2, .int (nI ((sm (fun k => if S (4 + k) = 0 then 1 else 0) j) + 1))), (3, .int (nI j)), (0, .ref m6), (1, .int (nI 6))] 117 dX6_counted_116 rfl rfl (by decide) rfl ?_
          refine g_iinc X 1 (nI (j + 1)) [(3, .int (nI (j + 1))), (2, .int (nI ((sm (fun k => if S (4 + k) = 0 then 1 else 0) j) + 1))), (0, .ref m6), (1, .int (nI 6))] 120 dX6_counted_117 rfl rfl (nI_inc _) (by decide) rfl ?_
          refine g_goto X 92 dX6_counted_120 (by decide) ?_
          exact (by rw [show sm (fun k => if S (4 + k) = 0 then 1 else 0) (j + 1) = sm (fun k => if S (4 + k) = 0 then 1 else 0) j + 1 from (sm_s _ _).trans (congrArg (fun x9 => sm (fun k => if S (4 + k) = 0 then 1 else 0) j + x9) (if_pos hz))] at ih_j; exact ih_j)
    exact L 0 (Nat.zero_le _)
  · refine g_tableIn X 125 dX6_counted_3 7 (by decide +kernel) (by decide) (by decide) rfl (by decide) ?_
    refine g_aload_n X 1 126 dX6_counted_125 rfl rfl rfl ?_
    refine g_callVi (ws' := [(m6, .inr (6, [.int (nI th), .int (nI nw), .int (nI nr), .int (nI nf), .ref q1, .ref q2, .ref q3, .ref q4, .ref q5, .ref q6])), (q1, .inl (cI, 30, .inl (v30 T))), (q5, .inl (cI, 130, .inl (vn S)))]) X (m_X6_cleaned l D cI cZ cJ m6 th nw nr nf q1 q2 q3 q4 q5 q6 S hn2) 129 [0, 2] gX6_counted_X6_cleaned (n := 0) rfl (by decide +kernel) rfl ⟨Nat.le_of_ble_eq_true rfl, Nat.le_of_ble_eq_true rfl⟩ (ci := 6) (q0 := 0) rfl rfl rfl (Nat.le_of_ble_eq_true rfl) rfl (by decide +kernel) rfl rfl dX6_counted_126 rfl ⟨Nat.le_of_ble_eq_true rfl, Nat.le_of_ble_eq_true rfl⟩ ?_
    exact ret _ _ _ _ dX6_counted_129 rfl ⟨rfl, rfl⟩
  · refine g_tableIn X 130 dX6_counted_3 8 (by decide +kernel) (by decide) (by decide) rfl (by decide) ?_
    refine g_aload_n X 1 131 dX6_counted_130 rfl rfl rfl ?_
    refine g_get X hiX6 0 8 134 rfl rfl (by decide) (List.mem_of_getElem? (i := 1) rfl) rfl dX6_counted_131 rfl ?_
    refine g_iconst X (nI 2) 135 dX6_counted_134 rfl (by decide +kernel) ?_
    refine g_iald X 2 0 (2) (nI (S 2)) 136 rfl rfl (by omega) (by decide) (vn_at (by decide)) dX6_counted_135 rfl ?_
    exact ret _ _ _ _ dX6_counted_136 rfl ⟨rfl, rfl⟩
  · refine g_tableIn X 137 dX6_counted_3 9 (by decide +kernel) (by decide) (by decide) rfl (by decide) ?_
    refine g_aload_n X 1 138 dX6_counted_137 rfl rfl rfl ?_
    refine g_get X hiX6 0 8 141 rfl rfl (by decide) (List.mem_of_getElem? (i := 1) rfl) rfl dX6_counted_138 rfl ?_
    refine g_iconst X (nI 3) 142 dX6_counted_141 rfl (by decide +kernel) ?_
    refine g_iald X 2 0 (3) (nI (S 3)) 143 rfl rfl (by omega) (by decide) (vn_at (by decide)) dX6_counted_142 rfl ?_
    exact ret _ _ _ _ dX6_counted_143 rfl ⟨rfl, rfl⟩
  · refine g_tableOut X 144 dX6_counted_3 (by decide +kernel) (by decide) ?_
    refine g_aload_n X 1 145 dX6_counted_144 rfl rfl rfl ?_
    refine g_callVi (ws' := [(m6, .inr (6, [.int (nI th), .int (nI nw), .int (nI nr), .int (nI nf), .ref q1, .ref q2, .ref q3, .ref q4, .ref q5, .ref q6])), (q1, .inl (cI, 30, .inl (v30 T))), (q5, .inl (cI, 130, .inl (vn S)))]) X (m_X6_allBring l D cI cZ cJ m6 th nw nr nf q1 q2 q3 q4 q5 q6 T S hs hn hT) 148 [0, 1, 2] gX6_counted_X6_allBring (n := 0) rfl (by decide +kernel) rfl ⟨Nat.le_of_ble_eq_true rfl, Nat.le_of_ble_eq_true rfl⟩ (ci := 6) (q0 := 0) rfl rfl rfl (Nat.le_of_ble_eq_true rfl) rfl (by decide +kernel) rfl rfl dX6_counted_145 rfl ⟨Nat.le_of_ble_eq_true rfl, Nat.le_of_ble_eq_true rfl⟩ ?_
    exact ret _ _ _ _ dX6_counted_148 rfl ⟨rfl, rfl⟩

abbrev rm_X6_count : Room := { frames := 5, cells := 0, slots := 0, locals := 114 }
set_option maxHeartbeats 4000000 in
set_option maxRecDepth 100000 in
theorem m_X6_count (l : Launch) (D : va_G) (cI cZ cJ : ClassId) (m6 th nw nr nf q1 q2 q3 q4 q5 q6 : Nat) (wh : Int32) (T S : Nat → Nat) (hs : sootOk S) (hn : nw ≤ 6) (hn2 : nr ≤ 6) (hT : ∀ k : Nat, k < nw → winOk T k) : MI l yX6_count wsX6_count rm_X6_count D (gT cI cZ cJ) [(m6, .inr (6, [.int (nI th), .int (nI nw), .int (nI nr), .int (nI nf), .ref q1, .ref q2, .ref q3, .ref q4, .ref q5, .ref q6])), (q1, .inl (cI, 30, .inl (v30 T))), (q5, .inl (cI, 130, .inl (vn S)))] [.ref m6, .int wh] (fun r9 u9 => (oneE 11 wh = 0 → r9 = nI (cnt S T nw nr nf (tn wh)) ∧ u9 = [(m6, .inr (6, [.int (nI 0), .int (nI nw), .int (nI nr), .int (nI nf), .ref q1, .ref q2, .ref q3, .ref q4, .ref q5, .ref q6])), (q1, .inl (cI, 30, .inl (v30 T))), (q5, .inl (cI, 130, .inl (vn S)))]) ∧ (¬ oneE 11 wh = 0 → r9 = nI 0 ∧ u9 = [(m6, .inr (6, [.int (nI (oneE 11 wh)), .int (nI nw), .int (nI nr), .int (nI nf), .ref q1, .ref q2, .ref q3, .ref q4, .ref q5, .ref q6])), (q1, .inl (cI, 30, .inl (v30 T))), (q5, .inl (cI, 130, .inl (vn S)))])) := by
  refine MI_of [(0, .ref m6), (1, .int wh)] (by decide) rfl (Nat.le_of_ble_eq_true rfl) rfl ?_
  intro p e s m args below meth c A Q X ret
  have hiX6 : ∀ w ∈ wsX60, w ∈ wsX6_count := (fun _ h => List.mem_cons_of_mem _ (List.mem_append_right _ h))
  refine g_aload_n X 0 1 dX6_count_0 rfl rfl rfl ?_
  refine g_iconst X (nI 0) 2 dX6_count_1 rfl (by decide +kernel) ?_
  refine g_put (ws' := [(m6, .inr (6, [.int (nI 0), .int (nI nw), .int (nI nr), .int (nI nf), .ref q1, .ref q2, .ref q3, .ref q4, .ref q5, .ref q6])), (q1, .inl (cI, 30, .inl (v30 T))), (q5, .inl (cI, 130, .inl (vn S)))]) X hiX6 tyX6 tyX6_ok nmX6 0 0 5 rfl rfl (by decide) (List.mem_of_getElem? (i := 1) rfl) rfl (ty := .int) (by decide +kernel) rfl rfl (Nat.le_of_ble_eq_true rfl) dX6_count_2 rfl rfl ?_
  refine g_iload_n X 1 6 dX6_count_5 rfl rfl rfl ?_
  refine g_iconst X (nI 0) 7 dX6_count_6 rfl (by decide +kernel) ?_
  refine g_bipush X (nI 10) 9 dX6_count_7 rfl (by decide +kernel) ?_
  refine g_callSi (ws' := [(m6, .inr (6, [.int (nI 0), .int (nI nw), .int (nI nr), .int (nI nf), .ref q1, .ref q2, .ref q3, .ref q4, .ref q5, .ref q6])), (q1, .inl (cI, 30, .inl (v30 T))), (q5, .inl (cI, 130, .inl (vn S)))]) X (m_X6_isIn l D cI cZ cJ wh (nI 0) (nI 10)) 12 [] gX6_count_X6_isIn (n := 3) rfl (by decide +kernel) rfl ⟨Nat.le_of_ble_eq_true rfl, Nat.le_of_ble_eq_true rfl⟩ rfl (Nat.le_of_ble_eq_true rfl) rfl (by decide +kernel) rfl rfl dX6_count_9 rfl ⟨Nat.le_of_ble_eq_true rfl, Nat.le_of_ble_eq_true rfl⟩ ?_
  refine g_eqi (y := nI (bn (decide (isR 11 wh)))) (bn_is rfl (by decide)) ?_
  refine g_if_eq X 15 23 dX6_count_12 rfl (by decide) (bn_dec decide_eq_true_iff) (fun h12 => ?_) (fun h12 => ?_)
  · refine g_aload_n X 0 24 dX6_count_23 rfl rfl rfl ?_
    refine g_iconst X (nI 1) 25 dX6_count_24 rfl (by decide +kernel) ?_
    refine g_callVi (ws' := [(m6, .inr (6, [.int (nI 1), .int (nI nw), .int (nI nr), .int (nI nf), .ref q1, .ref q2, .ref q3, .ref q4, .ref q5, .ref q6])), (q1, .inl (cI, 30, .inl (v30 T))), (q5, .inl (cI, 130, .inl (vn S)))]) X (m_X6_fail l D cI cZ cJ m6 0 nw nr nf q1 q2 q3 q4 q5 q6 1) 28 [0] gX6_count_X6_fail (n := 1) rfl (by decide +kernel) rfl ⟨Nat.le_of_ble_eq_true rfl, Nat.le_of_ble_eq_true rfl⟩ (ci := 6) (q0 := 0) rfl rfl rfl (Nat.le_of_ble_eq_true rfl) rfl (by decide +kernel) rfl rfl dX6_count_25 rfl ⟨Nat.le_of_ble_eq_true rfl, Nat.le_of_ble_eq_true rfl⟩ ?_
    have hE := (show oneE 11 wh = 1 from if_pos h12)
    exact ret _ _ _ _ dX6_count_28 rfl ⟨fun z => absurd (hE.symm.trans z) (by decide), fun _ => ⟨rfl, by rw [hE]⟩⟩
  · have hA : isR 11 wh := Classical.not_not.mp h12
    have hE : oneE 11 wh = 0 := if_neg h12
    obtain ⟨ih, hh1, rfl⟩ := isR_nat hA (by decide)
    rw [tn_nI (show ih < 2 ^ 31 by omega)] at ret
    refine g_aload_n X 0 16 dX6_count_15 rfl rfl rfl ?_
    refine g_iload_n X 1 17 dX6_count_16 rfl rfl rfl ?_
    refine g_callVi (ws' := [(m6, .inr (6, [.int (nI 0), .int (nI nw), .int (nI nr), .int (nI nf), .ref q1, .ref q2, .ref q3, .ref q4, .ref q5, .ref q6])), (q1, .inl (cI, 30, .inl (v30 T))), (q5, .inl (cI, 130, .inl (vn S)))]) X (m_X6_counted l D cI cZ cJ m6 0 nw nr nf q1 q2 q3 q4 q5 q6 ih T S hs hn hn2 hT hh1) 20 [0, 1, 2] gX6_count_X6_counted (n := 1) rfl (by decide +kernel) rfl ⟨Nat.le_of_ble_eq_true rfl, Nat.le_of_ble_eq_true rfl⟩ (ci := 6) (q0 := 0) rfl rfl rfl (Nat.le_of_ble_eq_true rfl) rfl (by decide +kernel) rfl rfl dX6_count_17 rfl ⟨Nat.le_of_ble_eq_true rfl, Nat.le_of_ble_eq_true rfl⟩ ?_
    refine g_goto X 28 dX6_count_20 (by decide) ?_
    exact ret _ _ _ _ dX6_count_28 rfl ⟨fun _ => ⟨rfl, rfl⟩, fun z => absurd hE z⟩

abbrev rm_X6_isFeast : Room := { frames := 1, cells := 0, slots := 0, locals := 22 }
set_option maxHeartbeats 4000000 in
set_option maxRecDepth 100000 in
theorem m_X6_isFeast (l : Launch) (D : va_G) (cI cZ cJ : ClassId) (m6 th nw nr nf q1 q2 q3 q4 q5 q6 : Nat) (d : Int32) (fe fo S : Nat → Nat) (hf : feOk fe nf) (ho : ∀ j : Nat, j < nf → fo j < 2 ^ 30) (hd : S 0 < 2 ^ 28) : MI l yX6_isFeast wsX6_isFeast rm_X6_isFeast D (gT cI cZ cJ) [(m6, .inr (6, [.int (nI th), .int (nI nw), .int (nI nr), .int (nI nf), .ref q1, .ref q2, .ref q3, .ref q4, .ref q5, .ref q6])), (q3, .inl (cI, 4, .inl (v4 fe))), (q4, .inl (cI, 4, .inl (v4 fo))), (q5, .inl (cI, 130, .inl (vn S)))] [.ref m6, .int d] (fun r9 u9 => (isfE d = 0 → r9 = nI (bn (feastOn fe fo nf (S 0 + tn d))) ∧ u9 = [(m6, .inr (6, [.int (nI 0), .int (nI nw), .int (nI nr), .int (nI nf), .ref q1, .ref q2, .ref q3, .ref q4, .ref q5, .ref q6])), (q3, .inl (cI, 4, .inl (v4 fe))), (q4, .inl (cI, 4, .inl (v4 fo))), (q5, .inl (cI, 130, .inl (vn S)))]) ∧ (¬ isfE d = 0 → r9 = nI 0 ∧ u9 = [(m6, .inr (6, [.int (nI (isfE d)), .int (nI nw), .int (nI nr), .int (nI nf), .ref q1, .ref q2, .ref q3, .ref q4, .ref q5, .ref q6])), (q3, .inl (cI, 4, .inl (v4 fe))), (q4, .inl (cI, 4, .inl (v4 fo))), (q5, .inl (cI, 130, .inl (vn S)))])) := by
  refine MI_of [(0, .ref m6), (1, .int d)] (by decide) rfl (Nat.le_of_ble_eq_true rfl) rfl ?_
  intro p e s m args below meth c A Q X ret
  have hiX6 : ∀ w ∈ wsX60, w ∈ wsX6_isFeast := (fun _ h => List.mem_cons_of_mem _ (List.mem_append_right _ h))
  refine g_aload_n X 0 1 dX6_isFeast_0 rfl rfl rfl ?_
  refine g_iload_n X 1 2 dX6_isFeast_1 rfl rfl rfl ?_
  refine g_iconst X (nI 0) 3 dX6_isFeast_2 rfl (by decide +kernel) ?_
  refine g_bipush X (nI 60) 5 dX6_isFeast_3 rfl (by decide +kernel) ?_
  refine g_callSi (ws' := [(m6, .inr (6, [.int (nI th), .int (nI nw), .int (nI nr), .int (nI nf), .ref q1, .ref q2, .ref q3, .ref q4, .ref q5, .ref q6])), (q3, .inl (cI, 4, .inl (v4 fe))), (q4, .inl (cI, 4, .inl (v4 fo))), (q5, .inl (cI, 130, .inl (vn S)))]) X (m_X6_isIn l D cI cZ cJ d (nI 0) (nI 60)) 8 [] gX6_isFeast_X6_isIn (n := 3) rfl (by decide +kernel) rfl ⟨Nat.le_of_ble_eq_true rfl, Nat.le_of_ble_eq_true rfl⟩ rfl (Nat.le_of_ble_eq_true rfl) rfl (by decide +kernel) rfl rfl dX6_isFeast_5 rfl ⟨Nat.le_of_ble_eq_true rfl, Nat.le_of_ble_eq_true rfl⟩ ?_
  refine g_if_eq X 11 15 dX6_isFeast_8 rfl (by decide) (bn_dec decide_eq_true_iff) (fun h8 => ?_) (fun h8 => ?_)
  · refine g_iconst X (nI 1) 16 dX6_isFeast_15 rfl (by decide +kernel) ?_
    refine g_put (ws' := [(m6, .inr (6, [.int (nI 1), .int (nI nw), .int (nI nr), .int (nI nf), .ref q1, .ref q2, .ref q3, .ref q4, .ref q5, .ref q6])), (q3, .inl (cI, 4, .inl (v4 fe))), (q4, .inl (cI, 4, .inl (v4 fo))), (q5, .inl (cI, 130, .inl (vn S)))]) X hiX6 tyX6 tyX6_ok nmX6 0 0 19 rfl rfl (by decide) (List.mem_of_getElem? (i := 1) rfl) rfl (ty := .int) (by decide +kernel) rfl rfl (Nat.le_of_ble_eq_true rfl) dX6_isFeast_16 rfl rfl ?_
    refine g_aload_n X 0 20 dX6_isFeast_19 rfl rfl rfl ?_
    refine g_get X hiX6 0 0 23 rfl rfl (by decide) (List.mem_of_getElem? (i := 1) rfl) rfl dX6_isFeast_20 rfl ?_
    refine g_if_ne X 26 45 dX6_isFeast_23 rfl (by decide) (nz_eq (by omega)) (fun h23 => ?_) (fun h23 => absurd h23 (by decide))
    refine g_iconst X (nI 0) 46 dX6_isFeast_45 rfl (by decide +kernel) ?_
    have hE := (show isfE d = 1 from if_pos h8)
    exact ret _ _ _ _ dX6_isFeast_46 rfl ⟨fun z => absurd (hE.symm.trans z) (by decide), fun _ => ⟨rfl, by rw [hE]⟩⟩
  · refine g_iconst X (nI 0) 12 dX6_isFeast_11 rfl (by decide +kernel) ?_
    refine g_goto X 16 dX6_isFeast_12 (by decide) ?_
    refine g_put (ws' := [(m6, .inr (6, [.int (nI 0), .int (nI nw), .int (nI nr), .int (nI nf), .ref q1, .ref q2, .ref q3, .ref q4, .ref q5, .ref q6])), (q3, .inl (cI, 4, .inl (v4 fe))), (q4, .inl (cI, 4, .inl (v4 fo))), (q5, .inl (cI, 130, .inl (vn S)))]) X hiX6 tyX6 tyX6_ok nmX6 0 0 19 rfl rfl (by decide) (List.mem_of_getElem? (i := 1) rfl) rfl (ty := .int) (by decide +kernel) rfl rfl (Nat.le_of_ble_eq_true rfl) dX6_isFeast_16 rfl rfl ?_
    refine g_aload_n X 0 20 dX6_isFeast_19 rfl rfl rfl ?_
    refine g_get X hiX6 0 0 23 rfl rfl (by decide) (List.mem_of_getElem? (i := 1) rfl) rfl dX6_isFeast_20 rfl ?_
    refine g_if_ne X 26 45 dX6_isFeast_23 rfl (by decide) (nz_eq (by omega)) (fun h23 => absurd rfl h23) (fun h23 => ?_)
    have hA : inR d (nI 0) (nI 60) := Classical.not_not.mp h8
    have hE : isfE d = 0 := if_neg h8
    obtain ⟨dn, hd1, hd2, rfl⟩ := inR_nat hA (by decide) (by decide)
    rw [tn_nI (show dn < 2 ^ 31 by omega)] at ret
    refine g_aload_n X 0 27 dX6_isFeast_26 rfl rfl rfl ?_
    refine g_aload_n X 0 28 dX6_isFeast_27 rfl rfl rfl ?_
    refine g_get X hiX6 0 8 31 rfl rfl (by decide) (List.mem_of_getElem? (i := 2) rfl) rfl dX6_isFeast_28 rfl ?_
    refine g_iconst X (nI 0) 32 dX6_isFeast_31 rfl (by decide +kernel) ?_
    refine g_iald X 3 0 (0) (nI (S 0)) 33 rfl rfl (by omega) (by decide) (vn_at (by decide)) dX6_isFeast_32 rfl ?_
    refine g_iload_n X 1 34 dX6_isFeast_33 rfl rfl rfl ?_
    refine g_iadd X (nI ((S 0) + dn)) 35 dX6_isFeast_34 rfl (nI_add _ _) ?_
    refine g_callVi (ws' := [(m6, .inr (6, [.int (nI 0), .int (nI nw), .int (nI nr), .int (nI nf), .ref q1, .ref q2, .ref q3, .ref q4, .ref q5, .ref q6])), (q3, .inl (cI, 4, .inl (v4 fe))), (q4, .inl (cI, 4, .inl (v4 fo))), (q5, .inl (cI, 130, .inl (vn S)))]) X (m_X6_isFeastOn l D cI cZ cJ m6 0 nw nr nf q1 q2 q3 q4 q5 q6 (S 0 + dn) fe fo hf (by omega) ho) 38 [0, 1, 2] gX6_isFeast_X6_isFeastOn (n := 1) rfl (by decide +kernel) rfl ⟨Nat.le_of_ble_eq_true rfl, Nat.le_of_ble_eq_true rfl⟩ (ci := 6) (q0 := 0) rfl rfl rfl (Nat.le_of_ble_eq_true rfl) rfl (by decide +kernel) rfl rfl dX6_isFeast_35 rfl ⟨Nat.le_of_ble_eq_true rfl, Nat.le_of_ble_eq_true rfl⟩ ?_
    refine g_if_eq X 41 45 dX6_isFeast_38 rfl (by decide) (bn_eq0 _) (fun hq => ?_) (fun hq => ?_)
    · refine g_iconst X (nI 0) 46 dX6_isFeast_45 rfl (by decide +kernel) ?_
      refine g_eqi (y := nI (bn (feastOn fe fo nf (S 0 + dn)))) (by rw [hq]; rfl) ?_
      exact ret _ _ _ _ dX6_isFeast_46 (bn_nar _) ⟨fun _ => ⟨rfl, rfl⟩, fun z => absurd hE z⟩
    · refine g_iconst X (nI 1) 42 dX6_isFeast_41 rfl (by decide +kernel) ?_
      refine g_goto X 46 dX6_isFeast_42 (by decide) ?_
      refine g_eqi (y := nI (bn (feastOn fe fo nf (S 0 + dn)))) (by rw [show feastOn fe fo nf (S 0 + dn) = true by simpa using hq]; rfl) ?_
      exact ret _ _ _ _ dX6_isFeast_46 (bn_nar _) ⟨fun _ => ⟨rfl, rfl⟩, fun z => absurd hE z⟩

abbrev rm_X6_nextFeast : Room := { frames := 1, cells := 0, slots := 0, locals := 22 }
set_option maxHeartbeats 4000000 in
set_option maxRecDepth 100000 in
theorem m_X6_nextFeast (l : Launch) (D : va_G) (cI cZ cJ : ClassId) (m6 th nw nr nf q1 q2 q3 q4 q5 q6 : Nat) (fe fo S : Nat → Nat) (hf : feOk fe nf) (ho : ∀ j : Nat, j < nf → fo j < 2 ^ 30) (hd : S 0 < 2 ^ 28) : MI l yX6_nextFeast wsX6_nextFeast rm_X6_nextFeast D (gT cI cZ cJ) [(m6, .inr (6, [.int (nI th), .int (nI nw), .int (nI nr), .int (nI nf), .ref q1, .ref q2, .ref q3, .ref q4, .ref q5, .ref q6])), (q3, .inl (cI, 4, .inl (v4 fe))), (q4, .inl (cI, 4, .inl (v4 fo))), (q5, .inl (cI, 130, .inl (vn S)))] [.ref m6] (fun r u => r = nxF fe fo nf (S 0) ∧ u = [(m6, .inr (6, [.int (nI th), .int (nI nw), .int (nI nr), .int (nI nf), .ref q1, .ref q2, .ref q3, .ref q4, .ref q5, .ref q6])), (q3, .inl (cI, 4, .inl (v4 fe))), (q4, .inl (cI, 4, .inl (v4 fo))), (q5, .inl (cI, 130, .inl (vn S)))]) := by
  refine MI_of [(0, .ref m6)] (by decide) rfl (Nat.le_of_ble_eq_true rfl) rfl ?_
  intro p e s m args below meth c A Q X ret
  have hiX6 : ∀ w ∈ wsX60, w ∈ wsX6_nextFeast := (fun _ h => List.mem_cons_of_mem _ (List.mem_append_right _ h))
  refine g_iconst X (nI 0) 1 dX6_nextFeast_0 rfl (by decide +kernel) ?_
  refine g_istore_n X [(1, .int (nI 0)), (0, .ref m6)] 2 dX6_nextFeast_1 rfl rfl (by decide) rfl ?_
  have L : ∀ j : Nat, j ≤ 61 → nxF fe fo nf (S 0) = nxR fe fo nf (S 0) (61 - j) j → G p l e rm_X6_nextFeast s m args below meth c Q D A 2 0 0 [(m6, .inr (6, [.int (nI th), .int (nI nw), .int (nI nr), .int (nI nf), .ref q1, .ref q2, .ref q3, .ref q4, .ref q5, .ref q6])), (q3, .inl (cI, 4, .inl (v4 fe))), (q4, .inl (cI, 4, .inl (v4 fo))), (q5, .inl (cI, 130, .inl (vn S)))] [(1, .int (nI j)), (0, .ref m6)] 2 [] := by
    refine g_down _ ?_ ?_
    · intro hnx
      refine g_iload_n X 0 3 dX6_nextFeast_2 rfl rfl rfl ?_
      refine g_bipush X (nI 60) 5 dX6_nextFeast_3 rfl (by decide +kernel) ?_
      refine g_icmp_gt X 8 31 dX6_nextFeast_5 rfl (by decide) (nI_ltI (by omega) (by omega)) (fun h5 => ?_) (fun h5 => absurd (by decide) h5)
      refine g_iconst X (nIm 1) 32 dX6_nextFeast_31 rfl (by decide +kernel) ?_
      refine g_eqi (y := nxF fe fo nf (S 0)) (by rw [hnx]; rfl) ?_
      exact ret _ _ _ _ dX6_nextFeast_32 rfl ⟨rfl, rfl⟩
    · intro j hj ih_j hnx
      refine g_iload_n X 0 3 dX6_nextFeast_2 rfl rfl rfl ?_
      refine g_bipush X (nI 60) 5 dX6_nextFeast_3 rfl (by decide +kernel) ?_
      refine g_icmp_gt X 8 31 dX6_nextFeast_5 rfl (by decide) (nI_ltI (by omega) (by omega)) (fun h5 => absurd h5 (by omega)) (fun h5 => ?_)
      refine g_aload_n X 1 9 dX6_nextFeast_8 rfl rfl rfl ?_
      refine g_aload_n X 1 10 dX6_nextFeast_9 rfl rfl rfl ?_
      refine g_get X hiX6 0 8 13 rfl rfl (by decide) (List.mem_of_getElem? (i := 1) rfl) rfl dX6_nextFeast_10 rfl ?_
      refine g_iconst X (nI 0) 14 dX6_nextFeast_13 rfl (by decide +kernel) ?_
      refine g_iald X 3 0 (0) (nI (S 0)) 15 rfl rfl (by omega) (by decide) (vn_at (by decide)) dX6_nextFeast_14 rfl ?_
      refine g_iload_n X 0 16 dX6_nextFeast_15 rfl rfl rfl ?_
      refine g_iadd X (nI ((S 0) + j)) 17 dX6_nextFeast_16 rfl (nI_add _ _) ?_
      rw [show 61 - j = (61 - (j + 1)) + 1 by omega] at hnx
      refine g_callVi (ws' := [(m6, .inr (6, [.int (nI th), .int (nI nw), .int (nI nr), .int (nI nf), .ref q1, .ref q2, .ref q3, .ref q4, .ref q5, .ref q6])), (q3, .inl (cI, 4, .inl (v4 fe))), (q4, .inl (cI, 4, .inl (v4 fo))), (q5, .inl (cI, 130, .inl (vn S)))]) X (m_X6_isFeastOn l D cI cZ cJ m6 th nw nr nf q1 q2 q3 q4 q5 q6 (S 0 + j) fe fo hf (by omega) ho) 20 [0, 1, 2] gX6_nextFeast_X6_isFeastOn (n := 1) rfl (by decide +kernel) rfl ⟨Nat.le_of_ble_eq_true rfl, Nat.le_of_ble_eq_true rfl⟩ (ci := 6) (q0 := 0) rfl rfl rfl (Nat.le_of_ble_eq_true rfl) rfl (by decide +kernel) rfl rfl dX6_nextFeast_17 rfl ⟨Nat.le_of_ble_eq_true rfl, Nat.le_of_ble_eq_true rfl⟩ ?_
      refine g_if_eq X 23 25 dX6_nextFeast_20 rfl (by decide) (bn_eq0 _) (fun hq => ?_) (fun hq => ?_)
      · refine g_iinc X 0 (nI (j + 1)) [(1, .int (nI (j + 1))), (0, .ref m6)] 28 dX6_nextFeast_25 rfl rfl (nI_inc _) (by decide) rfl ?_
        refine g_goto X 2 dX6_nextFeast_28 (by decide) ?_
        exact ih_j (by rw [hnx, nxR_f hq])
      · refine g_iload_n X 0 24 dX6_nextFeast_23 rfl rfl rfl ?_
        refine g_eqi (y := nxF fe fo nf (S 0)) (by rw [hnx, nxR_t (by simpa using hq)]) ?_
        exact ret _ _ _ _ dX6_nextFeast_24 rfl ⟨rfl, rfl⟩
  exact L 0 (Nat.zero_le _) rfl

abbrev rm_X6_next : Room := { frames := 2, cells := 0, slots := 0, locals := 43 }
set_option maxHeartbeats 4000000 in
set_option maxRecDepth 100000 in
theorem m_X6_next (l : Launch) (D : va_G) (cI cZ cJ : ClassId) (m6 th nw nr nf q1 q2 q3 q4 q5 q6 : Nat) (fe fo S : Nat → Nat) (hf : feOk fe nf) (ho : ∀ j : Nat, j < nf → fo j < 2 ^ 30) (hd : S 0 < 2 ^ 28) : MI l yX6_next wsX6_next rm_X6_next D (gT cI cZ cJ) [(m6, .inr (6, [.int (nI th), .int (nI nw), .int (nI nr), .int (nI nf), .ref q1, .ref q2, .ref q3, .ref q4, .ref q5, .ref q6])), (q3, .inl (cI, 4, .inl (v4 fe))), (q4, .inl (cI, 4, .inl (v4 fo))), (q5, .inl (cI, 130, .inl (vn S)))] [.ref m6] (fun r u => r = nxF fe fo nf (S 0) ∧ u = [(m6, .inr (6, [.int (nI 0), .int (nI nw), .int (nI nr), .int (nI nf), .ref q1, .ref q2, .ref q3, .ref q4, .ref q5, .ref q6])), (q3, .inl (cI, 4, .inl (v4 fe))), (q4, .inl (cI, 4, .inl (v4 fo))), (q5, .inl (cI, 130, .inl (vn S)))]) := by
  refine MI_of [(0, .ref m6)] (by decide) rfl (Nat.le_of_ble_eq_true rfl) rfl ?_
  intro p e s m args below meth c A Q X ret
  have hiX6 : ∀ w ∈ wsX60, w ∈ wsX6_next := (fun _ h => List.mem_cons_of_mem _ (List.mem_append_right _ h))
  refine g_aload_n X 0 1 dX6_next_0 rfl rfl rfl ?_
  refine g_iconst X (nI 0) 2 dX6_next_1 rfl (by decide +kernel) ?_
  refine g_put (ws' := [(m6, .inr (6, [.int (nI 0), .int (nI nw), .int (nI nr), .int (nI nf), .ref q1, .ref q2, .ref q3, .ref q4, .ref q5, .ref q6])), (q3, .inl (cI, 4, .inl (v4 fe))), (q4, .inl (cI, 4, .inl (v4 fo))), (q5, .inl (cI, 130, .inl (vn S)))]) X hiX6 tyX6 tyX6_ok nmX6 0 0 5 rfl rfl (by decide) (List.mem_of_getElem? (i := 1) rfl) rfl (ty := .int) (by decide +kernel) rfl rfl (Nat.le_of_ble_eq_true rfl) dX6_next_2 rfl rfl ?_
  refine g_aload_n X 0 6 dX6_next_5 rfl rfl rfl ?_
  refine g_callVi (ws' := [(m6, .inr (6, [.int (nI 0), .int (nI nw), .int (nI nr), .int (nI nf), .ref q1, .ref q2, .ref q3, .ref q4, .ref q5, .ref q6])), (q3, .inl (cI, 4, .inl (v4 fe))), (q4, .inl (cI, 4, .inl (v4 fo))), (q5, .inl (cI, 130, .inl (vn S)))]) X (m_X6_nextFeast l D cI cZ cJ m6 0 nw nr nf q1 q2 q3 q4 q5 q6 fe fo S hf ho hd) 9 [0, 1, 2, 3] gX6_next_X6_nextFeast (n := 0) rfl (by decide +kernel) rfl ⟨Nat.le_of_ble_eq_true rfl, Nat.le_of_ble_eq_true rfl⟩ (ci := 6) (q0 := 0) rfl rfl rfl (Nat.le_of_ble_eq_true rfl) rfl (by decide +kernel) rfl (putB_id rfl) dX6_next_6 rfl ⟨Nat.le_of_ble_eq_true rfl, Nat.le_of_ble_eq_true rfl⟩ ?_
  exact ret _ _ _ _ dX6_next_9 rfl ⟨rfl, rfl⟩

abbrev rm_X6_would : Room := { frames := 6, cells := 0, slots := 0, locals := 136 }
set_option maxHeartbeats 4000000 in
set_option maxRecDepth 100000 in
theorem m_X6_would (l : Launch) (D : va_G) (cI cZ cJ : ClassId) (m6 th nw nr nf q1 q2 q3 q4 q5 q6 : Nat) (d wh : Int32) (T st fe fo S : Nat → Nat) (K : Nat → Nat) (hg : Gd S nr) (hs : stOk T st fe fo nw nr nf) (hd : S 0 < 2 ^ 28) : MI l yX6_would wsX6_would rm_X6_would D (gT cI cZ cJ) [(m6, .inr (6, [.int (nI th), .int (nI nw), .int (nI nr), .int (nI nf), .ref q1, .ref q2, .ref q3, .ref q4, .ref q5, .ref q6])), (q1, .inl (cI, 30, .inl (v30 T))), (q2, .inl (cI, 6, .inl (v6 st))), (q3, .inl (cI, 4, .inl (v4 fe))), (q4, .inl (cI, 4, .inl (v4 fo))), (q5, .inl (cI, 130, .inl (vn S))), (q6, .inl (cI, 130, .inl (vn K)))] [.ref m6, .int d, .int wh] (fun r9 u9 => (wouE d wh = 0 → r9 = nI (wouV (daysS T st fe fo nw nr nf S (tn d)) nr (tn wh)) ∧ u9 = [(m6, .inr (6, [.int (nI 0), .int (nI nw), .int (nI nr), .int (nI nf), .ref q1, .ref q2, .ref q3, .ref q4, .ref q5, .ref q6])), (q1, .inl (cI, 30, .inl (v30 T))), (q2, .inl (cI, 6, .inl (v6 st))), (q3, .inl (cI, 4, .inl (v4 fe))), (q4, .inl (cI, 4, .inl (v4 fo))), (q5, .inl (cI, 130, .inl (vn S))), (q6, .inl (cI, 130, .inl (vn S)))]) ∧ (¬ wouE d wh = 0 → r9 = nI 0 ∧ u9 = [(m6, .inr (6, [.int (nI (wouE d wh)), .int (nI nw), .int (nI nr), .int (nI nf), .ref q1, .ref q2, .ref q3, .ref q4, .ref q5, .ref q6])), (q1, .inl (cI, 30, .inl (v30 T))), (q2, .inl (cI, 6, .inl (v6 st))), (q3, .inl (cI, 4, .inl (v4 fe))), (q4, .inl (cI, 4, .inl (v4 fo))), (q5, .inl (cI, 130, .inl (vn S))), (q6, .inl (cI, 130, .inl (vn K)))])) := by
  refine MI_of [(0, .ref m6), (1, .int d), (2, .int wh)] (by decide) rfl (Nat.le_of_ble_eq_true rfl) rfl ?_
  intro p e s m args below meth c A Q X ret
  have hiX6 : ∀ w ∈ wsX60, w ∈ wsX6_would := (fun _ h => List.mem_cons_of_mem _ (List.mem_append_right _ h))
  refine g_aload_n X 0 1 dX6_would_0 rfl rfl rfl ?_
  refine g_iconst X (nI 0) 2 dX6_would_1 rfl (by decide +kernel) ?_
  refine g_put (ws' := [(m6, .inr (6, [.int (nI 0), .int (nI nw), .int (nI nr), .int (nI nf), .ref q1, .ref q2, .ref q3, .ref q4, .ref q5, .ref q6])), (q1, .inl (cI, 30, .inl (v30 T))), (q2, .inl (cI, 6, .inl (v6 st))), (q3, .inl (cI, 4, .inl (v4 fe))), (q4, .inl (cI, 4, .inl (v4 fo))), (q5, .inl (cI, 130, .inl (vn S))), (q6, .inl (cI, 130, .inl (vn K)))]) X hiX6 tyX6 tyX6_ok nmX6 0 0 5 rfl rfl (by decide) (List.mem_of_getElem? (i := 1) rfl) rfl (ty := .int) (by decide +kernel) rfl rfl (Nat.le_of_ble_eq_true rfl) dX6_would_2 rfl rfl ?_
  refine g_iload_n X 1 6 dX6_would_5 rfl rfl rfl ?_
  refine g_iconst X (nI 1) 7 dX6_would_6 rfl (by decide +kernel) ?_
  refine g_bipush X (nI 40) 9 dX6_would_7 rfl (by decide +kernel) ?_
  refine g_callSi (ws' := [(m6, .inr (6, [.int (nI 0), .int (nI nw), .int (nI nr), .int (nI nf), .ref q1, .ref q2, .ref q3, .ref q4, .ref q5, .ref q6])), (q1, .inl (cI, 30, .inl (v30 T))), (q2, .inl (cI, 6, .inl (v6 st))), (q3, .inl (cI, 4, .inl (v4 fe))), (q4, .inl (cI, 4, .inl (v4 fo))), (q5, .inl (cI, 130, .inl (vn S))), (q6, .inl (cI, 130, .inl (vn K)))]) X (m_X6_isIn l D cI cZ cJ d (nI 1) (nI 40)) 12 [] gX6_would_X6_isIn (n := 3) rfl (by decide +kernel) rfl ⟨Nat.le_of_ble_eq_true rfl, Nat.le_of_ble_eq_true rfl⟩ rfl (Nat.le_of_ble_eq_true rfl) rfl (by decide +kernel) rfl rfl dX6_would_9 rfl ⟨Nat.le_of_ble_eq_true rfl, Nat.le_of_ble_eq_true rfl⟩ ?_
  refine g_if_ne X 15 21 dX6_would_12 rfl (by decide) (bn_dec decide_eq_true_iff) (fun h12 => ?_) (fun h12 => ?_)
  · refine g_iload_n X 2 22 dX6_would_21 rfl rfl rfl ?_
    refine g_iconst X (nI 0) 23 dX6_would_22 rfl (by decide +kernel) ?_
    refine g_iconst X (nI 2) 24 dX6_would_23 rfl (by decide +kernel) ?_
    refine g_callSi (ws' := [(m6, .inr (6, [.int (nI 0), .int (nI nw), .int (nI nr), .int (nI nf), .ref q1, .ref q2, .ref q3, .ref q4, .ref q5, .ref q6])), (q1, .inl (cI, 30, .inl (v30 T))), (q2, .inl (cI, 6, .inl (v6 st))), (q3, .inl (cI, 4, .inl (v4 fe))), (q4, .inl (cI, 4, .inl (v4 fo))), (q5, .inl (cI, 130, .inl (vn S))), (q6, .inl (cI, 130, .inl (vn K)))]) X (m_X6_isIn l D cI cZ cJ wh (nI 0) (nI 2)) 27 [] gX6_would_X6_isIn (n := 3) rfl (by decide +kernel) rfl ⟨Nat.le_of_ble_eq_true rfl, Nat.le_of_ble_eq_true rfl⟩ rfl (Nat.le_of_ble_eq_true rfl) rfl (by decide +kernel) rfl rfl dX6_would_24 rfl ⟨Nat.le_of_ble_eq_true rfl, Nat.le_of_ble_eq_true rfl⟩ ?_
    refine g_eqi (y := nI (bn (decide (isR 3 wh)))) (bn_is rfl (by decide)) ?_
    refine g_if_ne X 30 36 dX6_would_27 rfl (by decide) (bn_dec decide_eq_true_iff) (fun h27 => ?_) (fun h27 => ?_)
    · have hA : inR d (nI 1) (nI 40) := Classical.not_not.mp h12
      have hB : isR 3 wh := Classical.not_not.mp h27
      have hE : wouE d wh = 0 := (if_neg h12).trans (if_neg h27)
      obtain ⟨dn, hd1, hd2, rfl⟩ := inR_nat hA (by decide) (by decide)
      obtain ⟨ih, hh1, rfl⟩ := isR_nat hB (by decide)
      rw [tn_nI (show dn < 2 ^ 31 by omega), tn_nI (show ih < 2 ^ 31 by omega)] at ret
      refine g_aload_n X 0 37 dX6_would_36 rfl rfl rfl ?_
      refine g_callVv (ws' := [(m6, .inr (6, [.int (nI 0), .int (nI nw), .int (nI nr), .int (nI nf), .ref q1, .ref q2, .ref q3, .ref q4, .ref q5, .ref q6])), (q1, .inl (cI, 30, .inl (v30 T))), (q2, .inl (cI, 6, .inl (v6 st))), (q3, .inl (cI, 4, .inl (v4 fe))), (q4, .inl (cI, 4, .inl (v4 fo))), (q5, .inl (cI, 130, .inl (vn S))), (q6, .inl (cI, 130, .inl (vn S)))]) X (m_X6_keep l D cI cZ cJ m6 0 nw nr nf q1 q2 q3 q4 q5 q6 S K) 40 [0, 5, 6] gX6_would_X6_keep (n := 0) rfl (by decide +kernel) rfl ⟨Nat.le_of_ble_eq_true rfl, Nat.le_of_ble_eq_true rfl⟩ (ci := 6) (q0 := 0) rfl rfl rfl (Nat.le_of_ble_eq_true rfl) rfl (by decide +kernel) rfl rfl dX6_would_37 rfl ⟨Nat.le_of_ble_eq_true rfl, Nat.le_of_ble_eq_true rfl⟩ ?_
      refine g_aload_n X 0 41 dX6_would_40 rfl rfl rfl ?_
      refine g_iload_n X 1 42 dX6_would_41 rfl rfl rfl ?_
      refine g_callVv (ws' := [(m6, .inr (6, [.int (nI 0), .int (nI nw), .int (nI nr), .int (nI nf), .ref q1, .ref q2, .ref q3, .ref q4, .ref q5, .ref q6])), (q1, .inl (cI, 30, .inl (v30 T))), (q2, .inl (cI, 6, .inl (v6 st))), (q3, .inl (cI, 4, .inl (v4 fe))), (q4, .inl (cI, 4, .inl (v4 fo))), (q5, .inl (cI, 130, .inl (vn (daysS T st fe fo nw nr nf S dn)))), (q6, .inl (cI, 130, .inl (vn S)))]) X (m_X6_daysOn l D cI cZ cJ m6 0 nw nr nf q1 q2 q3 q4 q5 q6 dn T st fe fo S hg hs hd (by omega)) 45 [0, 1, 2, 3, 4, 5] gX6_would_X6_daysOn (n := 1) rfl (by decide +kernel) rfl ⟨Nat.le_of_ble_eq_true rfl, Nat.le_of_ble_eq_true rfl⟩ (ci := 6) (q0 := 0) rfl rfl rfl (Nat.le_of_ble_eq_true rfl) rfl (by decide +kernel) rfl ((putB_mg [some (m6, .inr (6, [.int (nI 0), .int (nI nw), .int (nI nr), .int (nI nf), .ref q1, .ref q2, .ref q3, .ref q4, .ref q5, .ref q6])), some (q1, .inl (cI, 30, .inl (v30 T))), some (q2, .inl (cI, 6, .inl (v6 st))), some (q3, .inl (cI, 4, .inl (v4 fe))), some (q4, .inl (cI, 4, .inl (v4 fo))), some (q5, .inl (cI, 130, .inl (vn (daysS T st fe fo nw nr nf S dn)))), none] [true, true, true, true, true, true, false] rfl (by decide +kernel) rfl rfl rfl (by decide +kernel)).trans rfl) dX6_would_42 rfl ⟨Nat.le_of_ble_eq_true rfl, Nat.le_of_ble_eq_true rfl⟩ ?_
      refine g_iload_n X 2 46 dX6_would_45 rfl rfl rfl ?_
      refine g_if_ne X 49 56 dX6_would_46 rfl (by decide) (nz_eq (by omega)) (fun h46 => ?_) (fun h46 => ?_)
      · refine g_iload_n X 2 57 dX6_would_56 rfl rfl rfl ?_
        refine g_iconst X (nI 1) 58 dX6_would_57 rfl (by decide +kernel) ?_
        refine g_icmp_ne X 61 70 dX6_would_58 rfl (by decide) (nI_eq (by omega) (by omega)) (fun h58 => ?_) (fun h58 => ?_)
        · refine g_aload_n X 0 71 dX6_would_70 rfl rfl rfl ?_
          refine g_callVi (ws' := [(m6, .inr (6, [.int (nI 0), .int (nI nw), .int (nI nr), .int (nI nf), .ref q1, .ref q2, .ref q3, .ref q4, .ref q5, .ref q6])), (q1, .inl (cI, 30, .inl (v30 T))), (q2, .inl (cI, 6, .inl (v6 st))), (q3, .inl (cI, 4, .inl (v4 fe))), (q4, .inl (cI, 4, .inl (v4 fo))), (q5, .inl (cI, 130, .inl (vn (daysS T st fe fo nw nr nf S dn)))), (q6, .inl (cI, 130, .inl (vn S)))]) X (m_X6_cleaned l D cI cZ cJ m6 0 nw nr nf q1 q2 q3 q4 q5 q6 (daysS T st fe fo nw nr nf S dn) hg.1.1) 74 [0, 5] gX6_would_X6_cleaned (n := 0) rfl (by decide +kernel) rfl ⟨Nat.le_of_ble_eq_true rfl, Nat.le_of_ble_eq_true rfl⟩ (ci := 6) (q0 := 0) rfl rfl rfl (Nat.le_of_ble_eq_true rfl) rfl (by decide +kernel) rfl rfl dX6_would_71 rfl ⟨Nat.le_of_ble_eq_true rfl, Nat.le_of_ble_eq_true rfl⟩ ?_
          refine g_eqi (y := nI (wouV (daysS T st fe fo nw nr nf S dn) nr ih)) (congrArg nI (by unfold wouV; rw [if_neg h46, if_neg h58])) ?_
          refine g_istore_n X [(3, .int (nI (wouV (daysS T st fe fo nw nr nf S dn) nr ih))), (0, .ref m6), (1, .int (nI dn)), (2, .int (nI ih))] 75 dX6_would_74 rfl rfl (by decide) rfl ?_
          refine g_aload_n X 1 76 dX6_would_75 rfl rfl rfl ?_
          refine g_callVv (ws' := [(m6, .inr (6, [.int (nI 0), .int (nI nw), .int (nI nr), .int (nI nf), .ref q1, .ref q2, .ref q3, .ref q4, .ref q5, .ref q6])), (q1, .inl (cI, 30, .inl (v30 T))), (q2, .inl (cI, 6, .inl (v6 st))), (q3, .inl (cI, 4, .inl (v4 fe))), (q4, .inl (cI, 4, .inl (v4 fo))), (q5, .inl (cI, 130, .inl (vn S))), (q6, .inl (cI, 130, .inl (vn S)))]) X (m_X6_bringBack l D cI cZ cJ m6 0 nw nr nf q1 q2 q3 q4 q5 q6 (daysS T st fe fo nw nr nf S dn) S) 79 [0, 5, 6] gX6_would_X6_bringBack (n := 0) rfl (by decide +kernel) rfl ⟨Nat.le_of_ble_eq_true rfl, Nat.le_of_ble_eq_true rfl⟩ (ci := 6) (q0 := 0) rfl rfl rfl (Nat.le_of_ble_eq_true rfl) rfl (by decide +kernel) rfl rfl dX6_would_76 rfl ⟨Nat.le_of_ble_eq_true rfl, Nat.le_of_ble_eq_true rfl⟩ ?_
          refine g_iload_n X 0 80 dX6_would_79 rfl rfl rfl ?_
          exact ret _ _ _ _ dX6_would_80 rfl ⟨fun _ => ⟨rfl, rfl⟩, fun z => absurd hE z⟩
        · refine g_aload_n X 0 62 dX6_would_61 rfl rfl rfl ?_
          refine g_get X hiX6 0 8 65 rfl rfl (by decide) (List.mem_of_getElem? (i := 2) rfl) rfl dX6_would_62 rfl ?_
          refine g_iconst X (nI 2) 66 dX6_would_65 rfl (by decide +kernel) ?_
          refine g_iald X 5 0 (2) (nI (daysS T st fe fo nw nr nf S dn 2)) 67 rfl rfl (by omega) (by decide) (vn_at (by decide)) dX6_would_66 rfl ?_
          refine g_eqi (y := nI (wouV (daysS T st fe fo nw nr nf S dn) nr ih)) (congrArg nI (by unfold wouV; rw [if_neg h46, if_pos h58])) ?_
          refine g_goto X 74 dX6_would_67 (by decide) ?_
          refine g_istore_n X [(3, .int (nI (wouV (daysS T st fe fo nw nr nf S dn) nr ih))), (0, .ref m6), (1, .int (nI dn)), (2, .int (nI ih))] 75 dX6_would_74 rfl rfl (by decide) rfl ?_
          refine g_aload_n X 1 76 dX6_would_75 rfl rfl rfl ?_
          refine g_callVv (ws' := [(m6, .inr (6, [.int (nI 0), .int (nI nw), .int (nI nr), .int (nI nf), .ref q1, .ref q2, .ref q3, .ref q4, .ref q5, .ref q6])), (q1, .inl (cI, 30, .inl (v30 T))), (q2, .inl (cI, 6, .inl (v6 st))), (q3, .inl (cI, 4, .inl (v4 fe))), (q4, .inl (cI, 4, .inl (v4 fo))), (q5, .inl (cI, 130, .inl (vn S))), (q6, .inl (cI, 130, .inl (vn S)))]) X (m_X6_bringBack l D cI cZ cJ m6 0 nw nr nf q1 q2 q3 q4 q5 q6 (daysS T st fe fo nw nr nf S dn) S) 79 [0, 5, 6] gX6_would_X6_bringBack (n := 0) rfl (by decide +kernel) rfl ⟨Nat.le_of_ble_eq_true rfl, Nat.le_of_ble_eq_true rfl⟩ (ci := 6) (q0 := 0) rfl rfl rfl (Nat.le_of_ble_eq_true rfl) rfl (by decide +kernel) rfl rfl dX6_would_76 rfl ⟨Nat.le_of_ble_eq_true rfl, Nat.le_of_ble_eq_true rfl⟩ ?_
          refine g_iload_n X 0 80 dX6_would_79 rfl rfl rfl ?_
          exact ret _ _ _ _ dX6_would_80 rfl ⟨fun _ => ⟨rfl, rfl⟩, fun z => absurd hE z⟩
      · refine g_aload_n X 0 50 dX6_would_49 rfl rfl rfl ?_
        refine g_callVi (ws' := [(m6, .inr (6, [.int (nI 0), .int (nI nw), .int (nI nr), .int (nI nf), .ref q1, .ref q2, .ref q3, .ref q4, .ref q5, .ref q6])), (q1, .inl (cI, 30, .inl (v30 T))), (q2, .inl (cI, 6, .inl (v6 st))), (q3, .inl (cI, 4, .inl (v4 fe))), (q4, .inl (cI, 4, .inl (v4 fo))), (q5, .inl (cI, 130, .inl (vn (daysS T st fe fo nw nr nf S dn)))), (q6, .inl (cI, 130, .inl (vn S)))]) X (m_X6_allSoot l D cI cZ cJ m6 0 nw nr nf q1 q2 q3 q4 q5 q6 (daysS T st fe fo nw nr nf S dn)) 53 [0, 5] gX6_would_X6_allSoot (n := 0) rfl (by decide +kernel) rfl ⟨Nat.le_of_ble_eq_true rfl, Nat.le_of_ble_eq_true rfl⟩ (ci := 6) (q0 := 0) rfl rfl rfl (Nat.le_of_ble_eq_true rfl) rfl (by decide +kernel) rfl rfl dX6_would_50 rfl ⟨Nat.le_of_ble_eq_true rfl, Nat.le_of_ble_eq_true rfl⟩ ?_
        refine g_eqi (y := nI (wouV (daysS T st fe fo nw nr nf S dn) nr ih)) (congrArg nI (by unfold wouV; rw [if_pos h46])) ?_
        refine g_goto X 74 dX6_would_53 (by decide) ?_
        refine g_istore_n X [(3, .int (nI (wouV (daysS T st fe fo nw nr nf S dn) nr ih))), (0, .ref m6), (1, .int (nI dn)), (2, .int (nI ih))] 75 dX6_would_74 rfl rfl (by decide) rfl ?_
        refine g_aload_n X 1 76 dX6_would_75 rfl rfl rfl ?_
        refine g_callVv (ws' := [(m6, .inr (6, [.int (nI 0), .int (nI nw), .int (nI nr), .int (nI nf), .ref q1, .ref q2, .ref q3, .ref q4, .ref q5, .ref q6])), (q1, .inl (cI, 30, .inl (v30 T))), (q2, .inl (cI, 6, .inl (v6 st))), (q3, .inl (cI, 4, .inl (v4 fe))), (q4, .inl (cI, 4, .inl (v4 fo))), (q5, .inl (cI, 130, .inl (vn S))), (q6, .inl (cI, 130, .inl (vn S)))]) X (m_X6_bringBack l D cI cZ cJ m6 0 nw nr nf q1 q2 q3 q4 q5 q6 (daysS T st fe fo nw nr nf S dn) S) 79 [0, 5, 6] gX6_would_X6_bringBack (n := 0) rfl (by decide +kernel) rfl ⟨Nat.le_of_ble_eq_true rfl, Nat.le_of_ble_eq_true rfl⟩ (ci := 6) (q0 := 0) rfl rfl rfl (Nat.le_of_ble_eq_true rfl) rfl (by decide +kernel) rfl rfl dX6_would_76 rfl ⟨Nat.le_of_ble_eq_true rfl, Nat.le_of_ble_eq_true rfl⟩ ?_
        refine g_iload_n X 0 80 dX6_would_79 rfl rfl rfl ?_
        exact ret _ _ _ _ dX6_would_80 rfl ⟨fun _ => ⟨rfl, rfl⟩, fun z => absurd hE z⟩
    · refine g_aload_n X 0 31 dX6_would_30 rfl rfl rfl ?_
      refine g_iconst X (nI 2) 32 dX6_would_31 rfl (by decide +kernel) ?_
      refine g_callVi (ws' := [(m6, .inr (6, [.int (nI 2), .int (nI nw), .int (nI nr), .int (nI nf), .ref q1, .ref q2, .ref q3, .ref q4, .ref q5, .ref q6])), (q1, .inl (cI, 30, .inl (v30 T))), (q2, .inl (cI, 6, .inl (v6 st))), (q3, .inl (cI, 4, .inl (v4 fe))), (q4, .inl (cI, 4, .inl (v4 fo))), (q5, .inl (cI, 130, .inl (vn S))), (q6, .inl (cI, 130, .inl (vn K)))]) X (m_X6_fail l D cI cZ cJ m6 0 nw nr nf q1 q2 q3 q4 q5 q6 2) 35 [0] gX6_would_X6_fail (n := 1) rfl (by decide +kernel) rfl ⟨Nat.le_of_ble_eq_true rfl, Nat.le_of_ble_eq_true rfl⟩ (ci := 6) (q0 := 0) rfl rfl rfl (Nat.le_of_ble_eq_true rfl) rfl (by decide +kernel) rfl rfl dX6_would_32 rfl ⟨Nat.le_of_ble_eq_true rfl, Nat.le_of_ble_eq_true rfl⟩ ?_
      have hE := (show wouE d wh = 2 from (if_neg h12).trans (if_pos h27))
      exact ret _ _ _ _ dX6_would_35 rfl ⟨fun z => absurd (hE.symm.trans z) (by decide), fun _ => ⟨rfl, by rw [hE]⟩⟩
  · refine g_aload_n X 0 16 dX6_would_15 rfl rfl rfl ?_
    refine g_iconst X (nI 1) 17 dX6_would_16 rfl (by decide +kernel) ?_
    refine g_callVi (ws' := [(m6, .inr (6, [.int (nI 1), .int (nI nw), .int (nI nr), .int (nI nf), .ref q1, .ref q2, .ref q3, .ref q4, .ref q5, .ref q6])), (q1, .inl (cI, 30, .inl (v30 T))), (q2, .inl (cI, 6, .inl (v6 st))), (q3, .inl (cI, 4, .inl (v4 fe))), (q4, .inl (cI, 4, .inl (v4 fo))), (q5, .inl (cI, 130, .inl (vn S))), (q6, .inl (cI, 130, .inl (vn K)))]) X (m_X6_fail l D cI cZ cJ m6 0 nw nr nf q1 q2 q3 q4 q5 q6 1) 20 [0] gX6_would_X6_fail (n := 1) rfl (by decide +kernel) rfl ⟨Nat.le_of_ble_eq_true rfl, Nat.le_of_ble_eq_true rfl⟩ (ci := 6) (q0 := 0) rfl rfl rfl (Nat.le_of_ble_eq_true rfl) rfl (by decide +kernel) rfl rfl dX6_would_17 rfl ⟨Nat.le_of_ble_eq_true rfl, Nat.le_of_ble_eq_true rfl⟩ ?_
    have hE := (show wouE d wh = 1 from if_pos h12)
    exact ret _ _ _ _ dX6_would_20 rfl ⟨fun z => absurd (hE.symm.trans z) (by decide), fun _ => ⟨rfl, by rw [hE]⟩⟩

abbrev rm_X6_until : Room := { frames := 5, cells := 0, slots := 0, locals := 114 }
set_option maxHeartbeats 4000000 in
set_option maxRecDepth 100000 in
theorem m_X6_until (l : Launch) (D : va_G) (cI cZ cJ : ClassId) (m6 th nw nr nf q1 q2 q3 q4 q5 q6 : Nat) (w : Int32) (T st fe fo S : Nat → Nat) (K : Nat → Nat) (hg : Gd S nr) (hs : stOk T st fe fo nw nr nf) (hd : S 0 < 2 ^ 28) : MI l yX6_until wsX6_until rm_X6_until D (gT cI cZ cJ) [(m6, .inr (6, [.int (nI th), .int (nI nw), .int (nI nr), .int (nI nf), .ref q1, .ref q2, .ref q3, .ref q4, .ref q5, .ref q6])), (q1, .inl (cI, 30, .inl (v30 T))), (q2, .inl (cI, 6, .inl (v6 st))), (q3, .inl (cI, 4, .inl (v4 fe))), (q4, .inl (cI, 4, .inl (v4 fo))), (q5, .inl (cI, 130, .inl (vn S))), (q6, .inl (cI, 130, .inl (vn K)))] [.ref m6, .int w] (fun r9 u9 => (oneE nw w = 0 → r9 = utV (utK T st fe fo nw nr nf S (tn w)) ∧ u9 = [(m6, .inr (6, [.int (nI 0), .int (nI nw), .int (nI nr), .int (nI nf), .ref q1, .ref q2, .ref q3, .ref q4, .ref q5, .ref q6])), (q1, .inl (cI, 30, .inl (v30 T))), (q2, .inl (cI, 6, .inl (v6 st))), (q3, .inl (cI, 4, .inl (v4 fe))), (q4, .inl (cI, 4, .inl (v4 fo))), (q5, .inl (cI, 130, .inl (vn S))), (q6, .inl (cI, 130, .inl (vn S)))]) ∧ (¬ oneE nw w = 0 → r9 = nI 0 ∧ u9 = [(m6, .inr (6, [.int (nI (oneE nw w)), .int (nI nw), .int (nI nr), .int (nI nf), .ref q1, .ref q2, .ref q3, .ref q4, .ref q5, .ref q6])), (q1, .inl (cI, 30, .inl (v30 T))), (q2, .inl (cI, 6, .inl (v6 st))), (q3, .inl (cI, 4, .inl (v4 fe))), (q4, .inl (cI, 4, .inl (v4 fo))), (q5, .inl (cI, 130, .inl (vn S))), (q6, .inl (cI, 130, .inl (vn K)))])) := by
  refine MI_of [(0, .ref m6), (1, .int w)] (by decide) rfl (Nat.le_of_ble_eq_true rfl) rfl ?_
  intro p e s m args below meth c A Q X ret
  have hiX6 : ∀ w ∈ wsX60, w ∈ wsX6_until := (fun _ h => List.mem_cons_of_mem _ (List.mem_append_right _ h))
  have hn : nw ≤ 6 := hs.1
  refine g_aload_n X 0 1 dX6_until_0 rfl rfl rfl ?_
  refine g_iconst X (nI 0) 2 dX6_until_1 rfl (by decide +kernel) ?_
  refine g_put (ws' := [(m6, .inr (6, [.int (nI 0), .int (nI nw), .int (nI nr), .int (nI nf), .ref q1, .ref q2, .ref q3, .ref q4, .ref q5, .ref q6])), (q1, .inl (cI, 30, .inl (v30 T))), (q2, .inl (cI, 6, .inl (v6 st))), (q3, .inl (cI, 4, .inl (v4 fe))), (q4, .inl (cI, 4, .inl (v4 fo))), (q5, .inl (cI, 130, .inl (vn S))), (q6, .inl (cI, 130, .inl (vn K)))]) X hiX6 tyX6 tyX6_ok nmX6 0 0 5 rfl rfl (by decide) (List.mem_of_getElem? (i := 1) rfl) rfl (ty := .int) (by decide +kernel) rfl rfl (Nat.le_of_ble_eq_true rfl) dX6_until_2 rfl rfl ?_
  refine g_aload_n X 0 6 dX6_until_5 rfl rfl rfl ?_
  refine g_iload_n X 1 7 dX6_until_6 rfl rfl rfl ?_
  refine g_callVi (ws' := [(m6, .inr (6, [.int (nI 0), .int (nI nw), .int (nI nr), .int (nI nf), .ref q1, .ref q2, .ref q3, .ref q4, .ref q5, .ref q6])), (q1, .inl (cI, 30, .inl (v30 T))), (q2, .inl (cI, 6, .inl (v6 st))), (q3, .inl (cI, 4, .inl (v4 fe))), (q4, .inl (cI, 4, .inl (v4 fo))), (q5, .inl (cI, 130, .inl (vn S))), (q6, .inl (cI, 130, .inl (vn K)))]) X (m_X6_isWindow l D cI cZ cJ m6 0 nw nr nf q1 q2 q3 q4 q5 q6 w (by omega)) 10 [0] gX6_until_X6_isWindow (n := 1) rfl (by decide +kernel) rfl ⟨Nat.le_of_ble_eq_true rfl, Nat.le_of_ble_eq_true rfl⟩ (ci := 6) (q0 := 0) rfl rfl rfl (Nat.le_of_ble_eq_true rfl) rfl (by decide +kernel) rfl rfl dX6_until_7 rfl ⟨Nat.le_of_ble_eq_true rfl, Nat.le_of_ble_eq_true rfl⟩ ?_
  refine g_if_ne X 13 19 dX6_until_10 rfl (by decide) (bn_dec decide_eq_true_iff) (fun h10 => ?_) (fun h10 => ?_)
  · have hA : isR nw w := Classical.not_not.mp h10
    have hE : oneE nw w = 0 := if_neg h10
    obtain ⟨iw, hw1, rfl⟩ := isR_nat hA (by omega)
    rw [tn_nI (show iw < 2 ^ 31 by omega)] at ret
    refine g_aload_n X 0 20 dX6_until_19 rfl rfl rfl ?_
    refine g_callVv (ws' := [(m6, .inr (6, [.int (nI 0), .int (nI nw), .int (nI nr), .int (nI nf), .ref q1, .ref q2, .ref q3, .ref q4, .ref q5, .ref q6])), (q1, .inl (cI, 30, .inl (v30 T))), (q2, .inl (cI, 6, .inl (v6 st))), (q3, .inl (cI, 4, .inl (v4 fe))), (q4, .inl (cI, 4, .inl (v4 fo))), (q5, .inl (cI, 130, .inl (vn S))), (q6, .inl (cI, 130, .inl (vn S)))]) X (m_X6_keep l D cI cZ cJ m6 0 nw nr nf q1 q2 q3 q4 q5 q6 S K) 23 [0, 5, 6] gX6_until_X6_keep (n := 0) rfl (by decide +kernel) rfl ⟨Nat.le_of_ble_eq_true rfl, Nat.le_of_ble_eq_true rfl⟩ (ci := 6) (q0 := 0) rfl rfl rfl (Nat.le_of_ble_eq_true rfl) rfl (by decide +kernel) rfl rfl dX6_until_20 rfl ⟨Nat.le_of_ble_eq_true rfl, Nat.le_of_ble_eq_true rfl⟩ ?_
    refine g_iconst X (nI 0) 24 dX6_until_23 rfl (by decide +kernel) ?_
    refine g_istore_n X [(2, .int (nI 0)), (0, .ref m6), (1, .int (nI iw))] 25 dX6_until_24 rfl rfl (by decide) rfl ?_
    have L : ∀ j : Nat, j ≤ 61 → utK T st fe fo nw nr nf S iw = utR T st fe fo nw nr nf S iw (61 - j) j → G p l e rm_X6_until s m args below meth c Q D A 3 0 0 [(m6, .inr (6, [.int (nI 0), .int (nI nw), .int (nI nr), .int (nI nf), .ref q1, .ref q2, .ref q3, .ref q4, .ref q5, .ref q6])), (q1, .inl (cI, 30, .inl (v30 T))), (q2, .inl (cI, 6, .inl (v6 st))), (q3, .inl (cI, 4, .inl (v4 fe))), (q4, .inl (cI, 4, .inl (v4 fo))), (q5, .inl (cI, 130, .inl (vn (daysS T st fe fo nw nr nf S j)))), (q6, .inl (cI, 130, .inl (vn S)))] [(2, .int (nI j)), (0, .ref m6), (1, .int (nI iw))] 25 [] := by
      refine g_down _ ?_ ?_
      · intro hq
        refine g_iload_n X 0 26 dX6_until_25 rfl rfl rfl ?_
        refine g_bipush X (nI 60) 28 dX6_until_26 rfl (by decide +kernel) ?_
        refine g_icmp_gt X 31 55 dX6_until_28 rfl (by decide) (nI_ltI (by omega) (by omega)) (fun h28 => ?_) (fun h28 => absurd (by decide) h28)
        have hq2 : utK T st fe fo nw nr nf S iw = 61 := hq
        refine g_aload_n X 1 56 dX6_until_55 rfl rfl rfl ?_
        refine g_callVv (ws' := [(m6, .inr (6, [.int (nI 0), .int (nI nw), .int (nI nr), .int (nI nf), .ref q1, .ref q2, .ref q3, .ref q4, .ref q5, .ref q6])), (q1, .inl (cI, 30, .inl (v30 T))), (q2, .inl (cI, 6, .inl (v6 st))), (q3, .inl (cI, 4, .inl (v4 fe))), (q4, .inl (cI, 4, .inl (v4 fo))), (q5, .inl (cI, 130, .inl (vn S))), (q6, .inl (cI, 130, .inl (vn S)))]) X (m_X6_bringBack l D cI cZ cJ m6 0 nw nr nf q1 q2 q3 q4 q5 q6 (daysS T st fe fo nw nr nf S 61) S) 59 [0, 5, 6] gX6_until_X6_bringBack (n := 0) rfl (by decide +kernel) rfl ⟨Nat.le_of_ble_eq_true rfl, Nat.le_of_ble_eq_true rfl⟩ (ci := 6) (q0 := 0) rfl rfl rfl (Nat.le_of_ble_eq_true rfl) rfl (by decide +kernel) rfl rfl dX6_until_56 rfl ⟨Nat.le_of_ble_eq_true rfl, Nat.le_of_ble_eq_true rfl⟩ ?_
        refine g_iload_n X 0 60 dX6_until_59 rfl rfl rfl ?_
        refine g_bipush X (nI 60) 62 dX6_until_60 rfl (by decide +kernel) ?_
        refine g_icmp_le X 65 69 dX6_until_62 rfl (by decide) (nI_leI (by omega) (by omega)) (fun h62 => absurd h62 (by decide)) (fun h62 => ?_)
        refine g_iconst X (nIm 1) 66 dX6_until_65 rfl (by decide +kernel) ?_
        refine g_goto X 70 dX6_until_66 (by decide) ?_
        refine g_eqi (y := utV (utK T st fe fo nw nr nf S iw)) (by rw [hq2]; rfl) ?_
        exact ret _ _ _ _ dX6_until_70 rfl ⟨fun _ => ⟨rfl, rfl⟩, fun z => absurd hE z⟩
      · intro j hj ih_j hq
        refine g_iload_n X 0 26 dX6_until_25 rfl rfl rfl ?_
        refine g_bipush X (nI 60) 28 dX6_until_26 rfl (by decide +kernel) ?_
        refine g_icmp_gt X 31 55 dX6_until_28 rfl (by decide) (nI_ltI (by omega) (by omega)) (fun h28 => absurd h28 (by omega)) (fun h28 => ?_)
        rw [show 61 - j = (61 - (j + 1)) + 1 by omega] at hq
        have hsj := (daysS_gd (T := T) (st := st) (fe := fe) (fo := fo) (nw := nw) (nf := nf) hg j).1.2.1
        have hTw := hs.2.1 iw hw1
        have b1 := addW_le hsj hTw
        have b2 := pnW_le hTw
        refine g_aload_n X 1 32 dX6_until_31 rfl rfl rfl ?_
        refine g_iload_n X 2 33 dX6_until_32 rfl rfl rfl ?_
        refine g_iconst X (nI 0) 34 dX6_until_33 rfl (by decide +kernel) ?_
        refine g_callVi (ws' := [(m6, .inr (6, [.int (nI 0), .int (nI nw), .int (nI nr), .int (nI nf), .ref q1, .ref q2, .ref q3, .ref q4, .ref q5, .ref q6])), (q1, .inl (cI, 30, .inl (v30 T))), (q2, .inl (cI, 6, .inl (v6 st))), (q3, .inl (cI, 4, .inl (v4 fe))), (q4, .inl (cI, 4, .inl (v4 fo))), (q5, .inl (cI, 130, .inl (vn (daysS T st fe fo nw nr nf S j)))), (q6, .inl (cI, 130, .inl (vn S)))]) X (m_X6_sootOf l D cI cZ cJ m6 0 nw nr nf q1 q2 q3 q4 q5 q6 iw 0 T (daysS T st fe fo nw nr nf S j) hsj hTw (by omega) (by decide)) 37 [0, 1, 5] gX6_until_X6_sootOf (n := 2) rfl (by decide +kernel) rfl ⟨Nat.le_of_ble_eq_true rfl, Nat.le_of_ble_eq_true rfl⟩ (ci := 6) (q0 := 0) rfl rfl rfl (Nat.le_of_ble_eq_true rfl) rfl (by decide +kernel) rfl rfl dX6_until_34 rfl ⟨Nat.le_of_ble_eq_true rfl, Nat.le_of_ble_eq_true rfl⟩ ?_
        refine g_eqi (y := nI (addW (daysS T st fe fo nw nr nf S j) T iw)) rfl ?_
        refine g_aload_n X 1 38 dX6_until_37 rfl rfl rfl ?_
        refine g_iload_n X 2 39 dX6_until_38 rfl rfl rfl ?_
        refine g_callVi (ws' := [(m6, .inr (6, [.int (nI 0), .int (nI nw), .int (nI nr), .int (nI nf), .ref q1, .ref q2, .ref q3, .ref q4, .ref q5, .ref q6])), (q1, .inl (cI, 30, .inl (v30 T))), (q2, .inl (cI, 6, .inl (v6 st))), (q3, .inl (cI, 4, .inl (v4 fe))), (q4, .inl (cI, 4, .inl (v4 fo))), (q5, .inl (cI, 130, .inl (vn (daysS T st fe fo nw nr nf S j)))), (q6, .inl (cI, 130, .inl (vn S)))]) X (m_X6_panes l D cI cZ cJ m6 0 nw nr nf q1 q2 q3 q4 q5 q6 iw T (by omega)) 42 [0, 1] gX6_until_X6_panes (n := 1) rfl (by decide +kernel) rfl ⟨Nat.le_of_ble_eq_true rfl, Nat.le_of_ble_eq_true rfl⟩ (ci := 6) (q0 := 0) rfl rfl rfl (Nat.le_of_ble_eq_true rfl) rfl (by decide +kernel) rfl rfl dX6_until_39 rfl ⟨Nat.le_of_ble_eq_true rfl, Nat.le_of_ble_eq_true rfl⟩ ?_
        refine g_icmp_le X 45 55 dX6_until_42 rfl (by decide) (nI_leI (by omega) (by omega)) (fun hc => ?_) (fun hc => ?_)
        · have hq2 : utK T st fe fo nw nr nf S iw = j := by rw [hq, utR_t hc]
          refine g_aload_n X 1 56 dX6_until_55 rfl rfl rfl ?_
          refine g_callVv (ws' := [(m6, .inr (6, [.int (nI 0), .int (nI nw), .int (nI nr), .int (nI nf), .ref q1, .ref q2, .ref q3, .ref q4, .ref q5, .ref q6])), (q1, .inl (cI, 30, .inl (v30 T))), (q2, .inl (cI, 6, .inl (v6 st))), (q3, .inl (cI, 4, .inl (v4 fe))), (q4, .inl (cI, 4, .inl (v4 fo))), (q5, .inl (cI, 130, .inl (vn S))), (q6, .inl (cI, 130, .inl (vn S)))]) X (m_X6_bringBack l D cI cZ cJ m6 0 nw nr nf q1 q2 q3 q4 q5 q6 (daysS T st fe fo nw nr nf S j) S) 59 [0, 5, 6] gX6_until_X6_bringBack (n := 0) rfl (by decide +kernel) rfl ⟨Nat.le_of_ble_eq_true rfl, Nat.le_of_ble_eq_true rfl⟩ (ci := 6) (q0 := 0) rfl rfl rfl (Nat.le_of_ble_eq_true rfl) rfl (by decide +kernel) rfl rfl dX6_until_56 rfl ⟨Nat.le_of_ble_eq_true rfl, Nat.le_of_ble_eq_true rfl⟩ ?_
          refine g_iload_n X 0 60 dX6_until_59 rfl rfl rfl ?_
          refine g_bipush X (nI 60) 62 dX6_until_60 rfl (by decide +kernel) ?_
          refine g_icmp_le X 65 69 dX6_until_62 rfl (by decide) (nI_leI (by omega) (by omega)) (fun h62 => ?_) (fun h62 => absurd (by omega) h62)
          refine g_iload_n X 0 70 dX6_until_69 rfl rfl rfl ?_
          refine g_eqi (y := utV (utK T st fe fo nw nr nf S iw)) (by rw [hq2]; unfold utV; rw [if_pos (by omega)]) ?_
          exact ret _ _ _ _ dX6_until_70 rfl ⟨fun _ => ⟨rfl, rfl⟩, fun z => absurd hE z⟩
        · refine g_aload_n X 1 46 dX6_until_45 rfl rfl rfl ?_
          refine g_callVv (ws' := [(m6, .inr (6, [.int (nI 0), .int (nI nw), .int (nI nr), .int (nI nf), .ref q1, .ref q2, .ref q3, .ref q4, .ref q5, .ref q6])), (q1, .inl (cI, 30, .inl (v30 T))), (q2, .inl (cI, 6, .inl (v6 st))), (q3, .inl (cI, 4, .inl (v4 fe))), (q4, .inl (cI, 4, .inl (v4 fo))), (q5, .inl (cI, 130, .inl (vn (dayS T st fe fo nw nr nf (daysS T st fe fo nw nr nf S j))))), (q6, .inl (cI, 130, .inl (vn S)))]) X (m_X6_dayOn l D cI cZ cJ m6 0 nw nr nf q1 q2 q3 q4 q5 q6 T st fe fo (daysS T st fe fo nw nr nf S j) (daysS_gd hg j) hs (by rw [daysS_0 hg]; omega)) 49 [0, 1, 2, 3, 4, 5] gX6_until_X6_dayOn (n := 0) rfl (by decide +kernel) rfl ⟨Nat.le_of_ble_eq_true rfl, Nat.le_of_ble_eq_true rfl⟩ (ci := 6) (q0 := 0) rfl rfl rfl (Nat.le_of_ble_eq_true rfl) rfl (by decide +kernel) rfl ((putB_mg [some (m6, .inr (6, [.int (nI 0), .int (nI nw), .int (nI nr), .int (nI nf), .ref q1, .ref q2, .ref q3, .ref q4, .ref q5, .ref q6])), some (q1, .inl (cI, 30, .inl (v30 T))), some (q2, .inl (cI, 6, .inl (v6 st))), some (q3, .inl (cI, 4, .inl (v4 fe))), some (q4, .inl (cI, 4, .inl (v4 fo))), some (q5, .inl (cI, 130, .inl (vn (dayS T st fe fo nw nr nf (daysS T st fe fo nw nr nf S j))))), none] [true, true, true, true, true, true, false] rfl (by decide +kernel) rfl rfl rfl (by decide +kernel)).trans rfl) dX6_until_46 rfl ⟨Nat.le_of_ble_eq_true rfl, Nat.le_of_ble_eq_true rfl⟩ ?_
          refine g_iinc X 0 (nI (j + 1)) [(2, .int (nI (j + 1))), (0, .ref m6), (1, .int (nI iw))] 52 dX6_until_49 rfl rfl (nI_inc _) (by decide) rfl ?_
          refine g_goto X 25 dX6_until_52 (by decide) ?_
          exact ih_j (by rw [hq, utR_f hc])
    exact L 0 (Nat.zero_le _) rfl
  · refine g_aload_n X 0 14 dX6_until_13 rfl rfl rfl ?_
    refine g_iconst X (nI 1) 15 dX6_until_14 rfl (by decide +kernel) ?_
    refine g_callVi (ws' := [(m6, .inr (6, [.int (nI 1), .int (nI nw), .int (nI nr), .int (nI nf), .ref q1, .ref q2, .ref q3, .ref q4, .ref q5, .ref q6])), (q1, .inl (cI, 30, .inl (v30 T))), (q2, .inl (cI, 6, .inl (v6 st))), (q3, .inl (cI, 4, .inl (v4 fe))), (q4, .inl (cI, 4, .inl (v4 fo))), (q5, .inl (cI, 130, .inl (vn S))), (q6, .inl (cI, 130, .inl (vn K)))]) X (m_X6_fail l D cI cZ cJ m6 0 nw nr nf q1 q2 q3 q4 q5 q6 1) 18 [0] gX6_until_X6_fail (n := 1) rfl (by decide +kernel) rfl ⟨Nat.le_of_ble_eq_true rfl, Nat.le_of_ble_eq_true rfl⟩ (ci := 6) (q0 := 0) rfl rfl rfl (Nat.le_of_ble_eq_true rfl) rfl (by decide +kernel) rfl rfl dX6_until_15 rfl ⟨Nat.le_of_ble_eq_true rfl, Nat.le_of_ble_eq_true rfl⟩ ?_
    have hE := (show oneE nw w = 1 from if_pos h10)
    exact ret _ _ _ _ dX6_until_18 rfl ⟨fun z => absurd (hE.symm.trans z) (by decide), fun _ => ⟨rfl, by rw [hE]⟩⟩

abbrev rm_X6_mean : Room := { frames := 1, cells := 0, slots := 0, locals := 22 }
set_option maxHeartbeats 4000000 in
set_option maxRecDepth 100000 in
theorem m_X6_mean (l : Launch) (D : va_G) (cI cZ cJ : ClassId) (m6 th nw nr nf q1 q2 q3 q4 q5 q6 : Nat) (S : Nat → Nat)  : MDb l yX6_mean wsX6_mean rm_X6_mean D (gT cI cZ cJ) [(m6, .inr (6, [.int (nI th), .int (nI nw), .int (nI nr), .int (nI nf), .ref q1, .ref q2, .ref q3, .ref q4, .ref q5, .ref q6])), (q5, .inl (cI, 130, .inl (vn S)))] [.ref m6] (fun r u => r = FP.ddiv (FP.i2d (nI (allS S))) 4636455816377925632 ∧ u = [(m6, .inr (6, [.int (nI 0), .int (nI nw), .int (nI nr), .int (nI nf), .ref q1, .ref q2, .ref q3, .ref q4, .ref q5, .ref q6])), (q5, .inl (cI, 130, .inl (vn S)))]) := by
  refine MDb_of [(0, .ref m6)] (by decide) rfl (Nat.le_of_ble_eq_true rfl) rfl ?_
  intro p e s m args below meth c A Q X ret
  have hiX6 : ∀ w ∈ wsX60, w ∈ wsX6_mean := (fun _ h => List.mem_cons_of_mem _ (List.mem_append_right _ h))
  refine g_aload_n X 0 1 dX6_mean_0 rfl rfl rfl ?_
  refine g_iconst X (nI 0) 2 dX6_mean_1 rfl (by decide +kernel) ?_
  refine g_put (ws' := [(m6, .inr (6, [.int (nI 0), .int (nI nw), .int (nI nr), .int (nI nf), .ref q1, .ref q2, .ref q3, .ref q4, .ref q5, .ref q6])), (q5, .inl (cI, 130, .inl (vn S)))]) X hiX6 tyX6 tyX6_ok nmX6 0 0 5 rfl rfl (by decide) (List.mem_of_getElem? (i := 1) rfl) rfl (ty := .int) (by decide +kernel) rfl rfl (Nat.le_of_ble_eq_true rfl) dX6_mean_2 rfl rfl ?_
  refine g_aload_n X 0 6 dX6_mean_5 rfl rfl rfl ?_
  refine g_callVi (ws' := [(m6, .inr (6, [.int (nI 0), .int (nI nw), .int (nI nr), .int (nI nf), .ref q1, .ref q2, .ref q3, .ref q4, .ref q5, .ref q6])), (q5, .inl (cI, 130, .inl (vn S)))]) X (m_X6_allSoot l D cI cZ cJ m6 0 nw nr nf q1 q2 q3 q4 q5 q6 S) 9 [0, 1] gX6_mean_X6_allSoot (n := 0) rfl (by decide +kernel) rfl ⟨Nat.le_of_ble_eq_true rfl, Nat.le_of_ble_eq_true rfl⟩ (ci := 6) (q0 := 0) rfl rfl rfl (Nat.le_of_ble_eq_true rfl) rfl (by decide +kernel) rfl rfl dX6_mean_6 rfl ⟨Nat.le_of_ble_eq_true rfl, Nat.le_of_ble_eq_true rfl⟩ ?_
  refine g_i2d X 10 dX6_mean_9 rfl ?_
  refine g_ldc2d X 4636455816377925632 13 (List.mem_of_getElem? (i := 2) rfl) dX6_mean_10 rfl ?_
  refine g_ddiv X 14 dX6_mean_13 rfl (mean_n _) ?_
  exact ret _ _ _ _ dX6_mean_14 ⟨rfl, rfl⟩

abbrev rm_X6_digest : Room := { frames := 5, cells := 0, slots := 0, locals := 114 }
set_option maxHeartbeats 4000000 in
set_option maxRecDepth 100000 in
theorem m_X6_digest (l : Launch) (D : va_G) (cI cZ cJ : ClassId) (m6 th nw nr nf q1 q2 q3 q4 q5 q6 : Nat) (T st fe fo S : Nat → Nat) (hg : Gd S nr) (hs : stOk T st fe fo nw nr nf) : ML l yX6_digest wsX6_digest rm_X6_digest D (gT cI cZ cJ) [(m6, .inr (6, [.int (nI th), .int (nI nw), .int (nI nr), .int (nI nf), .ref q1, .ref q2, .ref q3, .ref q4, .ref q5, .ref q6])), (q1, .inl (cI, 30, .inl (v30 T))), (q2, .inl (cI, 6, .inl (v6 st))), (q3, .inl (cI, 4, .inl (v4 fe))), (q4, .inl (cI, 4, .inl (v4 fo))), (q5, .inl (cI, 130, .inl (vn S)))] [.ref m6] (fun r u => r = dig S T st nw nr nf ∧ u = [(m6, .inr (6, [.int (nI 0), .int (nI nw), .int (nI nr), .int (nI nf), .ref q1, .ref q2, .ref q3, .ref q4, .ref q5, .ref q6])), (q1, .inl (cI, 30, .inl (v30 T))), (q2, .inl (cI, 6, .inl (v6 st))), (q3, .inl (cI, 4, .inl (v4 fe))), (q4, .inl (cI, 4, .inl (v4 fo))), (q5, .inl (cI, 130, .inl (vn S)))]) := by
  refine ML_of [(0, .ref m6)] (by decide) rfl (Nat.le_of_ble_eq_true rfl) rfl ?_
  intro p e s m args below meth c A Q X ret
  have hiX6 : ∀ w ∈ wsX60, w ∈ wsX6_digest := (fun _ h => List.mem_cons_of_mem _ (List.mem_append_right _ h))
  have hn2 : nr ≤ 6 := hg.1.1
  have hn : nw ≤ 6 := hs.1
  refine g_aload_n X 0 1 dX6_digest_0 rfl rfl rfl ?_
  refine g_iconst X (nI 0) 2 dX6_digest_1 rfl (by decide +kernel) ?_
  refine g_put (ws' := [(m6, .inr (6, [.int (nI 0), .int (nI nw), .int (nI nr), .int (nI nf), .ref q1, .ref q2, .ref q3, .ref q4, .ref q5, .ref q6])), (q1, .inl (cI, 30, .inl (v30 T))), (q2, .inl (cI, 6, .inl (v6 st))), (q3, .inl (cI, 4, .inl (v4 fe))), (q4, .inl (cI, 4, .inl (v4 fo))), (q5, .inl (cI, 130, .inl (vn S)))]) X hiX6 tyX6 tyX6_ok nmX6 0 0 5 rfl rfl (by decide) (List.mem_of_getElem? (i := 1) rfl) rfl (ty := .int) (by decide +kernel) rfl rfl (Nat.le_of_ble_eq_true rfl) dX6_digest_2 rfl rfl ?_
  refine g_ldc2 X (1823) 8 (List.mem_of_getElem? (i := 2) rfl) dX6_digest_5 rfl ?_
  refine g_lstore_n X [(1, .long (1823 : Int64)), (0, .ref m6)] 9 dX6_digest_8 rfl rfl (by decide) rfl ?_
  refine g_iconst X (nI 0) 10 dX6_digest_9 rfl (by decide +kernel) ?_
  refine g_istore_n X [(3, .int (nI 0)), (1, .long (1823 : Int64)), (0, .ref m6)] 11 dX6_digest_10 rfl rfl (by decide) rfl ?_
  have L : ∀ j : Nat, j ≤ 11 → G p l e rm_X6_digest s m args below meth c Q D A 5 0 0 [(m6, .inr (6, [.int (nI 0), .int (nI nw), .int (nI nr), .int (nI nf), .ref q1, .ref q2, .ref q3, .ref q4, .ref q5, .ref q6])), (q1, .inl (cI, 30, .inl (v30 T))), (q2, .inl (cI, 6, .inl (v6 st))), (q3, .inl (cI, 4, .inl (v4 fe))), (q4, .inl (cI, 4, .inl (v4 fo))), (q5, .inl (cI, 130, .inl (vn S)))] [(3, .int (nI j)), (1, .long (dgl (cnt S T nw nr nf) j 1823)), (0, .ref m6)] 11 [] := by
    refine g_down _ ?_ ?_
    · refine g_iload_n X 0 12 dX6_digest_11 rfl rfl rfl ?_
      refine g_bipush X (nI 11) 14 dX6_digest_12 rfl (by decide +kernel) ?_
      refine g_icmp_ge X 17 36 dX6_digest_14 rfl (by decide) (nI_leI (by omega) (by omega)) (fun h14 => ?_) (fun h14 => absurd (Nat.le_refl _) h14)
      refine g_iconst X (nI 0) 37 dX6_digest_36 rfl (by decide +kernel) ?_
      refine g_istore_n X [(3, .int (nI 0)), (1, .long (dgl (cnt S T nw nr nf) 11 1823)), (0, .ref m6)] 38 dX6_digest_37 rfl rfl (by decide) rfl ?_
      have L1 : ∀ w : Nat, w ≤ nw → G p l e rm_X6_digest s m args below meth c Q D A 5 0 0 [(m6, .inr (6, [.int (nI 0), .int (nI nw), .int (nI nr), .int (nI nf), .ref q1, .ref q2, .ref q3, .ref q4, .ref q5, .ref q6])), (q1, .inl (cI, 30, .inl (v30 T))), (q2, .inl (cI, 6, .inl (v6 st))), (q3, .inl (cI, 4, .inl (v4 fe))), (q4, .inl (cI, 4, .inl (v4 fo))), (q5, .inl (cI, 130, .inl (vn S)))] [(3, .int (nI w)), (1, .long (dgw S T w (dgl (cnt S T nw nr nf) 11 1823))), (0, .ref m6)] 38 [] := by
        refine g_down _ ?_ ?_
        · refine g_iload_n X 0 39 dX6_digest_38 rfl rfl rfl ?_
          refine g_aload_n X 2 40 dX6_digest_39 rfl rfl rfl ?_
          refine g_get X hiX6 0 1 43 rfl rfl (by decide) (List.mem_of_getElem? (i := 4) rfl) rfl dX6_digest_40 rfl ?_
          refine g_icmp_ge X 46 83 dX6_digest_43 rfl (by decide) (nI_leI (by omega) (by omega)) (fun h43 => ?_) (fun h43 => absurd (Nat.le_refl _) h43)
          refine g_iconst X (nI 0) 84 dX6_digest_83 rfl (by decide +kernel) ?_
          refine g_istore_n X [(3, .int (nI 0)), (1, .long (dgw S T nw (dgl (cnt S T nw nr nf) 11 1823))), (0, .ref m6)] 85 dX6_digest_84 rfl rfl (by decide) rfl ?_
          have L2 : ∀ q : Nat, q ≤ nr → G p l e rm_X6_digest s m args below meth c Q D A 5 0 0 [(m6, .inr (6, [.int (nI 0), .int (nI nw), .int (nI nr), .int (nI nf), .ref q1, .ref q2, .ref q3, .ref q4, .ref q5, .ref q6])), (q1, .inl (cI, 30, .inl (v30 T))), (q2, .inl (cI, 6, .inl (v6 st))), (q3, .inl (cI, 4, .inl (v4 fe))), (q4, .inl (cI, 4, .inl (v4 fo))), (q5, .inl (cI, 130, .inl (vn S)))] [(3, .int (nI q)), (1, .long (dgq S st q (dgw S T nw (dgl (cnt S T nw nr nf) 11 1823)))), (0, .ref m6)] 85 [] := by
            refine g_down _ ?_ ?_
            · refine g_iload_n X 0 86 dX6_digest_85 rfl rfl rfl ?_
              refine g_aload_n X 2 87 dX6_digest_86 rfl rfl rfl ?_
              refine g_get X hiX6 0 2 90 rfl rfl (by decide) (List.mem_of_getElem? (i := 5) rfl) rfl dX6_digest_87 rfl ?_
              refine g_icmp_ge X 93 130 dX6_digest_90 rfl (by decide) (nI_leI (by omega) (by omega)) (fun h90 => ?_) (fun h90 => absurd (Nat.le_refl _) h90)
              refine g_iconst X (nI 0) 131 dX6_digest_130 rfl (by decide +kernel) ?_
              refine g_istore_n X [(3, .int (nI 0)), (1, .long (dgq S st nr (dgw S T nw (dgl (cnt S T nw nr nf) 11 1823)))), (0, .ref m6)] 132 dX6_digest_131 rfl rfl (by decide) rfl ?_
              have L3 : ∀ i : Nat, i ≤ 96 → G p l e rm_X6_digest s m args below meth c Q D A 5 0 0 [(m6, .inr (6, [.int (nI 0), .int (nI nw), .int (nI nr), .int (nI nf), .ref q1, .ref q2, .ref q3, .ref q4, .ref q5, .ref q6])), (q1, .inl (cI, 30, .inl (v30 T))), (q2, .inl (cI, 6, .inl (v6 st))), (q3, .inl (cI, 4, .inl (v4 fe))), (q4, .inl (cI, 4, .inl (v4 fo))), (q5, .inl (cI, 130, .inl (vn S)))] [(3, .int (nI i)), (1, .long (dgl (fun x9 => S (4 + x9)) i (dgq S st nr (dgw S T nw (dgl (cnt S T nw nr nf) 11 1823))))), (0, .ref m6)] 132 [] := by
                refine g_down _ ?_ ?_
                · refine g_iload_n X 0 133 dX6_digest_132 rfl rfl rfl ?_
                  refine g_bipush X (nI 96) 135 dX6_digest_133 rfl (by decide +kernel) ?_
                  refine g_icmp_ge X 138 160 dX6_digest_135 rfl (by decide) (nI_leI (by omega) (by omega)) (fun h135 => ?_) (fun h135 => absurd (Nat.le_refl _) h135)
                  refine g_lload_n X 1 161 dX6_digest_160 rfl rfl rfl ?_
                  exact ret _ _ _ _ dX6_digest_161 ⟨rfl, rfl⟩
                · intro i hi ih_i 
                  refine g_iload_n X 0 133 dX6_digest_132 rfl rfl rfl ?_
                  refine g_bipush X (nI 96) 135 dX6_digest_133 rfl (by decide +kernel) ?_
                  refine g_icmp_ge X 138 160 dX6_digest_135 rfl (by decide) (nI_leI (by omega) (by omega)) (fun h135 => absurd h135 (by omega)) (fun h135 => ?_)
                  refine g_lload_n X 1 139 dX6_digest_138 rfl rfl rfl ?_
                  refine g_ldc2 X (31) 142 (List.mem_of_getElem? (i := 3) rfl) dX6_digest_139 rfl ?_
                  refine g_lmul X 143 dX6_digest_142 rfl ?_
                  refine g_aload_n X 2 144 dX6_digest_143 rfl rfl rfl ?_
                  refine g_get X hiX6 0 8 147 rfl rfl (by decide) (List.mem_of_getElem? (i := 6) rfl) rfl dX6_digest_144 rfl ?_
                  refine g_iconst X (nI 4) 148 dX6_digest_147 rfl (by decide +kernel) ?_
                  refine g_iload_n X 0 149 dX6_digest_148 rfl rfl rfl ?_
                  refine g_iadd X (nI (4 + i)) 150 dX6_digest_149 rfl (nI_add _ _) ?_
                  refine g_iald X 5 0 (4 + i) (nI (S (4 + i))) 151 rfl rfl (by omega) (by decide) (vn_at (by omega)) dX6_digest_150 rfl ?_
                  refine g_i2l X 152 dX6_digest_151 rfl ?_
                  refine g_ladd X 153 dX6_digest_152 rfl ?_
                  refine g_lstore_n X [(1, .long (((dgl (fun x9 => S (4 + x9)) i (dgq S st nr (dgw S T nw (dgl (cnt S T nw nr nf) 11 1823)))) * (31 : Int64)) + ((nI (S (4 + i))).toInt64))), (3, .int (nI i)), (0, .ref m6)] 154 dX6_digest_153 rfl rfl (by decide) rfl ?_
                  refine g_iinc X 1 (nI (i + 1)) [(3, .int (nI (i + 1))), (1, .long (((dgl (fun x9 => S (4 + x9)) i (dgq S st nr (dgw S T nw (dgl (cnt S T nw nr nf) 11 1823)))) * (31 : Int64)) + ((nI (S (4 + i))).toInt64))), (0, .ref m6)] 157 dX6_digest_154 rfl rfl (nI_inc _) (by decide) rfl ?_
                  refine g_goto X 132 dX6_digest_157 (by decide) ?_
                  exact ih_i
              exact L3 0 (Nat.zero_le _)
            · intro q hq ih_q 
              refine g_iload_n X 0 86 dX6_digest_85 rfl rfl rfl ?_
              refine g_aload_n X 2 87 dX6_digest_86 rfl rfl rfl ?_
              refine g_get X hiX6 0 2 90 rfl rfl (by decide) (List.mem_of_getElem? (i := 5) rfl) rfl dX6_digest_87 rfl ?_
              refine g_icmp_ge X 93 130 dX6_digest_90 rfl (by decide) (nI_leI (by omega) (by omega)) (fun h90 => absurd h90 (by omega)) (fun h90 => ?_)
              refine g_iconst X (nI 0) 94 dX6_digest_93 rfl (by decide +kernel) ?_
              refine g_istore X [(4, .int (nI 0)), (3, .int (nI q)), (1, .long (dgq S st q (dgw S T nw (dgl (cnt S T nw nr nf) 11 1823)))), (0, .ref m6)] 96 dX6_digest_94 rfl (by decide) rfl ?_
              have M2 : ∀ j : Nat, j ≤ 6 → G p l e rm_X6_digest s m args below meth c Q D A 5 0 0 [(m6, .inr (6, [.int (nI 0), .int (nI nw), .int (nI nr), .int (nI nf), .ref q1, .ref q2, .ref q3, .ref q4, .ref q5, .ref q6])), (q1, .inl (cI, 30, .inl (v30 T))), (q2, .inl (cI, 6, .inl (v6 st))), (q3, .inl (cI, 4, .inl (v4 fe))), (q4, .inl (cI, 4, .inl (v4 fo))), (q5, .inl (cI, 130, .inl (vn S)))] [(4, .int (nI j)), (3, .int (nI q)), (1, .long (dgl (tld S st q) j (dgq S st q (dgw S T nw (dgl (cnt S T nw nr nf) 11 1823))))), (0, .ref m6)] 96 [] := by
                refine g_down _ ?_ ?_
                · refine g_iload X 0 98 dX6_digest_96 rfl rfl ?_
                  refine g_bipush X (nI 6) 100 dX6_digest_98 rfl (by decide +kernel) ?_
                  refine g_icmp_ge X 103 124 dX6_digest_100 rfl (by decide) (nI_leI (by omega) (by omega)) (fun h100 => ?_) (fun h100 => absurd (Nat.le_refl _) h100)
                  refine g_iinc X 1 (nI (q + 1)) [(3, .int (nI (q + 1))), (4, .int (nI 6)), (1, .long (dgl (tld S st q) 6 (dgq S st q (dgw S T nw (dgl (cnt S T nw nr nf) 11 1823))))), (0, .ref m6)] 127 dX6_digest_124 rfl rfl (nI_inc _) (by decide) rfl ?_
                  refine g_goto X 85 dX6_digest_127 (by decide) ?_
                  refine g_lv (lv' := [(3, .int (nI (q + 1))), (1, .long (dgl (tld S st q) 6 (dgq S st q (dgw S T nw (dgl (cnt S T nw nr nf) 11 1823))))), (0, .ref m6)]) [0, 2, 3] rfl ?_
                  exact ih_q
                · intro j hj ih_j 
                  refine g_iload X 0 98 dX6_digest_96 rfl rfl ?_
                  refine g_bipush X (nI 6) 100 dX6_digest_98 rfl (by decide +kernel) ?_
                  refine g_icmp_ge X 103 124 dX6_digest_100 rfl (by decide) (nI_leI (by omega) (by omega)) (fun h100 => absurd h100 (by omega)) (fun h100 => ?_)
                  refine g_lload_n X 2 104 dX6_digest_103 rfl rfl rfl ?_
                  refine g_ldc2 X (31) 107 (List.mem_of_getElem? (i := 3) rfl) dX6_digest_104 rfl ?_
                  refine g_lmul X 108 dX6_digest_107 rfl ?_
                  refine g_aload_n X 3 109 dX6_digest_108 rfl rfl rfl ?_
                  refine g_iload_n X 1 110 dX6_digest_109 rfl rfl rfl ?_
                  refine g_iload X 0 112 dX6_digest_110 rfl rfl ?_
                  refine g_callVi (ws' := [(m6, .inr (6, [.int (nI 0), .int (nI nw), .int (nI nr), .int (nI nf), .ref q1, .ref q2, .ref q3, .ref q4, .ref q5, .ref q6])), (q1, .inl (cI, 30, .inl (v30 T))), (q2, .inl (cI, 6, .inl (v6 st))), (q3, .inl (cI, 4, .inl (v4 fe))), (q4, .inl (cI, 4, .inl (v4 fo))), (q5, .inl (cI, 130, .inl (vn S)))]) X (m_X6_ropeTold l D cI cZ cJ m6 0 nw nr nf q1 q2 q3 q4 q5 q6 q j st S (by omega) hj) 115 [0, 2, 5] gX6_digest_X6_ropeTold (n := 2) rfl (by decide +kernel) rfl ⟨Nat.le_of_ble_eq_true rfl, Nat.le_of_ble_eq_true rfl⟩ (ci := 6) (q0 := 0) rfl rfl rfl (Nat.le_of_ble_eq_true rfl) rfl (by decide +kernel) rfl rfl dX6_digest_112 rfl ⟨Nat.le_of_ble_eq_true rfl, Nat.le_of_ble_eq_true rfl⟩ ?_
                  refine g_i2l X 116 dX6_digest_115 rfl ?_
                  refine g_ladd X 117 dX6_digest_116 rfl ?_
                  refine g_lstore_n X [(1, .long (((dgl (tld S st q) j (dgq S st q (dgw S T nw (dgl (cnt S T nw nr nf) 11 1823)))) * (31 : Int64)) + ((nI (tld S st q j)).toInt64))), (4, .int (nI j)), (3, .int (nI q)), (0, .ref m6)] 118 dX6_digest_117 rfl rfl (by decide) rfl ?_
                  refine g_iinc X 1 (nI (j + 1)) [(4, .int (nI (j + 1))), (1, .long (((dgl (tld S st q) j (dgq S st q (dgw S T nw (dgl (cnt S T nw nr nf) 11 1823)))) * (31 : Int64)) + ((nI (tld S st q j)).toInt64))), (3, .int (nI q)), (0, .ref m6)] 121 dX6_digest_118 rfl rfl (nI_inc _) (by decide) rfl ?_
                  refine g_goto X 96 dX6_digest_121 (by decide) ?_
                  refine g_lv (lv' := [(4, .int (nI (j + 1))), (3, .int (nI q)), (1, .long (((dgl (tld S st q) j (dgq S st q (dgw S T nw (dgl (cnt S T nw nr nf) 11 1823)))) * (31 : Int64)) + ((nI (tld S st q j)).toInt64))), (0, .ref m6)]) [0, 2, 1, 3] rfl ?_
                  exact ih_j
              exact M2 0 (Nat.zero_le _)
          exact L2 0 (Nat.zero_le _)
        · intro w hw ih_w 
          refine g_iload_n X 0 39 dX6_digest_38 rfl rfl rfl ?_
          refine g_aload_n X 2 40 dX6_digest_39 rfl rfl rfl ?_
          refine g_get X hiX6 0 1 43 rfl rfl (by decide) (List.mem_of_getElem? (i := 4) rfl) rfl dX6_digest_40 rfl ?_
          refine g_icmp_ge X 46 83 dX6_digest_43 rfl (by decide) (nI_leI (by omega) (by omega)) (fun h43 => absurd h43 (by omega)) (fun h43 => ?_)
          refine g_iconst X (nI 0) 47 dX6_digest_46 rfl (by decide +kernel) ?_
          refine g_istore X [(4, .int (nI 0)), (3, .int (nI w)), (1, .long (dgw S T w (dgl (cnt S T nw nr nf) 11 1823))), (0, .ref m6)] 49 dX6_digest_47 rfl (by decide) rfl ?_
          have M1 : ∀ j : Nat, j ≤ 8 → G p l e rm_X6_digest s m args below meth c Q D A 5 0 0 [(m6, .inr (6, [.int (nI 0), .int (nI nw), .int (nI nr), .int (nI nf), .ref q1, .ref q2, .ref q3, .ref q4, .ref q5, .ref q6])), (q1, .inl (cI, 30, .inl (v30 T))), (q2, .inl (cI, 6, .inl (v6 st))), (q3, .inl (cI, 4, .inl (v4 fe))), (q4, .inl (cI, 4, .inl (v4 fo))), (q5, .inl (cI, 130, .inl (vn S)))] [(4, .int (nI j)), (3, .int (nI w)), (1, .long (dgl (abt S T w) j (dgw S T w (dgl (cnt S T nw nr nf) 11 1823)))), (0, .ref m6)] 49 [] := by
            refine g_down _ ?_ ?_
            · refine g_iload X 0 51 dX6_digest_49 rfl rfl ?_
              refine g_bipush X (nI 8) 53 dX6_digest_51 rfl (by decide +kernel) ?_
              refine g_icmp_ge X 56 77 dX6_digest_53 rfl (by decide) (nI_leI (by omega) (by omega)) (fun h53 => ?_) (fun h53 => absurd (Nat.le_refl _) h53)
              refine g_iinc X 1 (nI (w + 1)) [(3, .int (nI (w + 1))), (4, .int (nI 8)), (1, .long (dgl (abt S T w) 8 (dgw S T w (dgl (cnt S T nw nr nf) 11 1823)))), (0, .ref m6)] 80 dX6_digest_77 rfl rfl (nI_inc _) (by decide) rfl ?_
              refine g_goto X 38 dX6_digest_80 (by decide) ?_
              refine g_lv (lv' := [(3, .int (nI (w + 1))), (1, .long (dgl (abt S T w) 8 (dgw S T w (dgl (cnt S T nw nr nf) 11 1823)))), (0, .ref m6)]) [0, 2, 3] rfl ?_
              exact ih_w
            · intro j hj ih_j 
              refine g_iload X 0 51 dX6_digest_49 rfl rfl ?_
              refine g_bipush X (nI 8) 53 dX6_digest_51 rfl (by decide +kernel) ?_
              refine g_icmp_ge X 56 77 dX6_digest_53 rfl (by decide) (nI_leI (by omega) (by omega)) (fun h53 => absurd h53 (by omega)) (fun h53 => ?_)
              refine g_lload_n X 2 57 dX6_digest_56 rfl rfl rfl ?_
              refine g_ldc2 X (31) 60 (List.mem_of_getElem? (i := 3) rfl) dX6_digest_57 rfl ?_
              refine g_lmul X 61 dX6_digest_60 rfl ?_
              refine g_aload_n X 3 62 dX6_digest_61 rfl rfl rfl ?_
              refine g_iload_n X 1 63 dX6_digest_62 rfl rfl rfl ?_
              refine g_iload X 0 65 dX6_digest_63 rfl rfl ?_
              refine g_callVi (ws' := [(m6, .inr (6, [.int (nI 0), .int (nI nw), .int (nI nr), .int (nI nf), .ref q1, .ref q2, .ref q3, .ref q4, .ref q5, .ref q6])), (q1, .inl (cI, 30, .inl (v30 T))), (q2, .inl (cI, 6, .inl (v6 st))), (q3, .inl (cI, 4, .inl (v4 fe))), (q4, .inl (cI, 4, .inl (v4 fo))), (q5, .inl (cI, 130, .inl (vn S)))]) X (m_X6_windowTold l D cI cZ cJ m6 0 nw nr nf q1 q2 q3 q4 q5 q6 w j T S hg.1.2.1 (hs.2.1 w hw) (by omega) hj) 68 [0, 1, 5] gX6_digest_X6_windowTold (n := 2) rfl (by decide +kernel) rfl ⟨Nat.le_of_ble_eq_true rfl, Nat.le_of_ble_eq_true rfl⟩ (ci := 6) (q0 := 0) rfl rfl rfl (Nat.le_of_ble_eq_true rfl) rfl (by decide +kernel) rfl rfl dX6_digest_65 rfl ⟨Nat.le_of_ble_eq_true rfl, Nat.le_of_ble_eq_true rfl⟩ ?_
              refine g_i2l X 69 dX6_digest_68 rfl ?_
              refine g_ladd X 70 dX6_digest_69 rfl ?_
              refine g_lstore_n X [(1, .long (((dgl (abt S T w) j (dgw S T w (dgl (cnt S T nw nr nf) 11 1823))) * (31 : Int64)) + ((nI (abt S T w j)).toInt64))), (4, .int (nI j)), (3, .int (nI w)), (0, .ref m6)] 71 dX6_digest_70 rfl rfl (by decide) rfl ?_
              refine g_iinc X 1 (nI (j + 1)) [(4, .int (nI (j + 1))), (1, .long (((dgl (abt S T w) j (dgw S T w (dgl (cnt S T nw nr nf) 11 1823))) * (31 : Int64)) + ((nI (abt S T w j)).toInt64))), (3, .int (nI w)), (0, .ref m6)] 74 dX6_digest_71 rfl rfl (nI_inc _) (by decide) rfl ?_
              refine g_goto X 49 dX6_digest_74 (by decide) ?_
              refine g_lv (lv' := [(4, .int (nI (j + 1))), (3, .int (nI w)), (1, .long (((dgl (abt S T w) j (dgw S T w (dgl (cnt S T nw nr nf) 11 1823))) * (31 : Int64)) + ((nI (abt S T w j)).toInt64))), (0, .ref m6)]) [0, 2, 1, 3] rfl ?_
              exact ih_j
          exact M1 0 (Nat.zero_le _)
      exact L1 0 (Nat.zero_le _)
    · intro j hj ih_j 
      refine g_iload_n X 0 12 dX6_digest_11 rfl rfl rfl ?_
      refine g_bipush X (nI 11) 14 dX6_digest_12 rfl (by decide +kernel) ?_
      refine g_icmp_ge X 17 36 dX6_digest_14 rfl (by decide) (nI_leI (by omega) (by omega)) (fun h14 => absurd h14 (by omega)) (fun h14 => ?_)
      refine g_lload_n X 1 18 dX6_digest_17 rfl rfl rfl ?_
      refine g_ldc2 X (31) 21 (List.mem_of_getElem? (i := 3) rfl) dX6_digest_18 rfl ?_
      refine g_lmul X 22 dX6_digest_21 rfl ?_
      refine g_aload_n X 2 23 dX6_digest_22 rfl rfl rfl ?_
      refine g_iload_n X 0 24 dX6_digest_23 rfl rfl rfl ?_
      refine g_callVi (ws' := [(m6, .inr (6, [.int (nI 0), .int (nI nw), .int (nI nr), .int (nI nf), .ref q1, .ref q2, .ref q3, .ref q4, .ref q5, .ref q6])), (q1, .inl (cI, 30, .inl (v30 T))), (q2, .inl (cI, 6, .inl (v6 st))), (q3, .inl (cI, 4, .inl (v4 fe))), (q4, .inl (cI, 4, .inl (v4 fo))), (q5, .inl (cI, 130, .inl (vn S)))]) X (m_X6_counted l D cI cZ cJ m6 0 nw nr nf q1 q2 q3 q4 q5 q6 j T S hg.1.2.1 hn hn2 hs.2.1 hj) 27 [0, 1, 5] gX6_digest_X6_counted (n := 1) rfl (by decide +kernel) rfl ⟨Nat.le_of_ble_eq_true rfl, Nat.le_of_ble_eq_true rfl⟩ (ci := 6) (q0 := 0) rfl rfl rfl (Nat.le_of_ble_eq_true rfl) rfl (by decide +kernel) rfl rfl dX6_digest_24 rfl ⟨Nat.le_of_ble_eq_true rfl, Nat.le_of_ble_eq_true rfl⟩ ?_
      refine g_i2l X 28 dX6_digest_27 rfl ?_
      refine g_ladd X 29 dX6_digest_28 rfl ?_
      refine g_lstore_n X [(1, .long (((dgl (cnt S T nw nr nf) j 1823) * (31 : Int64)) + ((nI (cnt S T nw nr nf j)).toInt64))), (3, .int (nI j)), (0, .ref m6)] 30 dX6_digest_29 rfl rfl (by decide) rfl ?_
      refine g_iinc X 1 (nI (j + 1)) [(3, .int (nI (j + 1))), (1, .long (((dgl (cnt S T nw nr nf) j 1823) * (31 : Int64)) + ((nI (cnt S T nw nr nf j)).toInt64))), (0, .ref m6)] 33 dX6_digest_30 rfl rfl (nI_inc _) (by decide) rfl ?_
      refine g_goto X 11 dX6_digest_33 (by decide) ?_
      exact ih_j
  exact L 0 (Nat.zero_le _)
