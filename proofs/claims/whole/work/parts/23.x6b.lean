/-! THE REFERENCE'S DAYS -/
theorem pig : ∀ (n m : Nat) (f : Nat → Nat), (∀ c : Nat, c < m → ∃ r : Nat, r < n ∧ f r = c) → m ≤ n
  | 0, m, f, h => by
    rcases Nat.eq_zero_or_pos m with h0 | h0
    · omega
    · obtain ⟨r, hr, _⟩ := h 0 h0
      omega
  | n + 1, m, f, h => by
    by_cases hm : m = 0
    · omega
    · have ih := pig n (m - 1) (fun r => if f r = m - 1 then f n else f r) (fun c hc => by
        by_cases hcv : f n = c
        · obtain ⟨r, hr, h1⟩ := h (m - 1) (by omega)
          have : r ≠ n := fun z => by subst z; omega
          exact ⟨r, by omega, by simp [h1, hcv]⟩
        · obtain ⟨r, hr, h1⟩ := h c (by omega)
          have : r ≠ n := fun z => hcv (by rw [← z]; exact h1)
          refine ⟨r, by omega, ?_⟩
          have h2 : ¬ f r = m - 1 := by omega
          simp only [if_neg h2]
          exact h1)
      omega
theorem cyc_eq {S : Nat → Nat} {r : Nat} (h : S (100 + 5 * r) < 12) : ∀ k : Nat, cyc S r k = (S (100 + 5 * r) + k * wyS S r) % 12
  | 0 => by
    show S (100 + 5 * r) = _
    rw [Nat.zero_mul]
    exact (Nat.mod_eq_of_lt h).symm
  | k + 1 => by
    show (cyc S r k + wyS S r) % 12 = _
    rw [cyc_eq h k, Nat.mod_add_mod, Nat.add_mul k 1, Nat.one_mul, Nat.add_assoc]
theorem cyc_all {S : Nat → Nat} {n r : Nat} (hn : n ≤ 6) (h : S (100 + 5 * r) < 12) (ha : ∀ i : Nat, i ≤ 11 → hung S n (cyc S r i) = true) : False := by
  have hc : ∀ c : Nat, c < 12 → ∃ i : Nat, i ≤ 11 ∧ cyc S r i = c := by
    intro c hc
    have hw : wyS S r = 1 ∨ wyS S r = 11 := by unfold wyS; split <;> simp
    rcases hw with hw | hw
    · exact ⟨(c + 12 - S (100 + 5 * r)) % 12, by omega, by rw [cyc_eq h, hw]; omega⟩
    · exact ⟨(S (100 + 5 * r) + 12 - c) % 12, by omega, by rw [cyc_eq h, hw]; omega⟩
  have := pig n 12 (fun q => S (100 + 5 * q)) (fun c h1 => by
    obtain ⟨i, hi, rfl⟩ := hc c h1
    obtain ⟨q, hq, h2⟩ := hung_of (ha i hi)
    exact ⟨q, hq, h2⟩)
  omega
def sof (S T : Nat → Nat) (w k : Nat) : Nat := if k = 0 then addW S T w else mxW S T w
theorem mxW_le {S T : Nat → Nat} {w : Nat} (hS : sootOk S) (hT : winOk T w) : mxW S T w ≤ 20 := mx_le _ (fun c hc => mx_le _ (fun j hj => col_le hS hT hc hj))
theorem sof_le {S T : Nat → Nat} {w k : Nat} (hS : sootOk S) (hT : winOk T w) : sof S T w k ≤ 1920 := by
  have := mxW_le hS hT
  have := addW_le hS hT
  unfold sof
  split <;> omega
theorem pnR_20 {S : Nat → Nat} {n r : Nat} (h : Gw S n) (hr : r < n) : S (pnR S r) ≤ 20 := by
  have h1 := pnR_lt h hr
  have := h.2.1 (pnR S r - 4) (by omega)
  rwa [show 4 + (pnR S r - 4) = pnR S r by omega] at this

abbrev rm_X6_blown : Room := { frames := 1, cells := 0, slots := 0, locals := 21 }
set_option maxHeartbeats 4000000 in
set_option maxRecDepth 100000 in
theorem m_X6_blown (l : Launch) (D : va_G) (cI cZ cJ : ClassId) (m6 th nw nr nf q1 q2 q3 q4 q5 q6 : Nat) (co : Nat) (S : Nat → Nat) (hc : co < 12) (hw : windOk (S 1)) : MI l yX6_blown wsX6_blown rm_X6_blown D (gT cI cZ cJ) [(m6, .inr (6, [.int (nI th), .int (nI nw), .int (nI nr), .int (nI nf), .ref q1, .ref q2, .ref q3, .ref q4, .ref q5, .ref q6])), (q5, .inl (cI, 130, .inl (vn S)))] [.ref m6, .int (nI co)] (fun r u => r = nI (bl (S 1) co) ∧ u = [(m6, .inr (6, [.int (nI th), .int (nI nw), .int (nI nr), .int (nI nf), .ref q1, .ref q2, .ref q3, .ref q4, .ref q5, .ref q6])), (q5, .inl (cI, 130, .inl (vn S)))]) := by
  refine MI_of [(0, .ref m6), (1, .int (nI co))] (by decide) rfl (Nat.le_of_ble_eq_true rfl) rfl ?_
  intro p e s m args below meth c A Q X ret
  have hiX6 : ∀ w ∈ wsX60, w ∈ wsX6_blown := (fun _ h => List.mem_cons_of_mem _ (List.mem_append_right _ h))
  refine g_iconst X (nI 0) 1 dX6_blown_0 rfl (by decide +kernel) ?_
  refine g_aload_n X 0 2 dX6_blown_1 rfl rfl rfl ?_
  refine g_get X hiX6 0 8 5 rfl rfl (by decide) (List.mem_of_getElem? (i := 1) rfl) rfl dX6_blown_2 rfl ?_
  refine g_iconst X (nI 1) 6 dX6_blown_5 rfl (by decide +kernel) ?_
  refine g_iald X 1 0 (1) (nI (S 1)) 7 rfl rfl (by omega) (by decide) (vn_at (by decide)) dX6_blown_6 rfl ?_
  refine g_if_lt X 10 23 dX6_blown_7 rfl (by decide) (wd_lt hw) (fun h => ?_) (fun h => ?_)
  · refine g_aload_n X 0 24 dX6_blown_23 rfl rfl rfl ?_
    refine g_get X hiX6 0 8 27 rfl rfl (by decide) (List.mem_of_getElem? (i := 1) rfl) rfl dX6_blown_24 rfl ?_
    refine g_iconst X (nI 1) 28 dX6_blown_27 rfl (by decide +kernel) ?_
    refine g_iald X 1 0 (1) (nI (S 1)) 29 rfl rfl (by omega) (by decide) (vn_at (by decide)) dX6_blown_28 rfl ?_
    refine g_ineg X 30 dX6_blown_29 rfl ?_
    refine g_eqi (y := nI (2 ^ 32 - S 1)) (nI_neg (by unfold windOk at hw; omega)) ?_
    refine g_bipush X (nI 11) 32 dX6_blown_30 rfl (by decide +kernel) ?_
    refine g_iload_n X 1 33 dX6_blown_32 rfl rfl rfl ?_
    refine g_isub X (nI (11 - co)) 34 dX6_blown_33 rfl (pk_sub (by omega)) ?_
    refine g_iconst X (nI 2) 35 dX6_blown_34 rfl (by decide +kernel) ?_
    refine g_idiv X (nI ((11 - co) / 2)) 36 dX6_blown_35 rfl (nI_ne0 (by omega) (by omega)) (pk_div (by omega) (by omega) (by omega)) ?_
    refine g_isub X ((nI (2 ^ 32 - S 1)) - (nI ((11 - co) / 2))) 37 dX6_blown_36 rfl rfl ?_
    refine g_max X (nI (bl (S 1) co)) 40 (List.mem_of_getElem? (i := 2) rfl) (List.mem_of_getElem? (i := 3) rfl) (List.mem_of_getElem? (i := 4) rfl) (List.mem_of_getElem? (i := 5) rfl) (Nat.le_of_ble_eq_true rfl) (Nat.le_of_ble_eq_true rfl) (Nat.zero_le _) (Nat.zero_le _) (by rw [bl, if_neg h]; exact nI_max0 (by unfold windOk at hw; omega) (by omega)) dX6_blown_37 rfl ?_
    exact ret _ _ _ _ dX6_blown_40 rfl ⟨rfl, rfl⟩
  · have h9 : S 1 ≤ 5 := by omega
    refine g_aload_n X 0 11 dX6_blown_10 rfl rfl rfl ?_
    refine g_get X hiX6 0 8 14 rfl rfl (by decide) (List.mem_of_getElem? (i := 1) rfl) rfl dX6_blown_11 rfl ?_
    refine g_iconst X (nI 1) 15 dX6_blown_14 rfl (by decide +kernel) ?_
    refine g_iald X 1 0 (1) (nI (S 1)) 16 rfl rfl (by omega) (by decide) (vn_at (by decide)) dX6_blown_15 rfl ?_
    refine g_iload_n X 1 17 dX6_blown_16 rfl rfl rfl ?_
    refine g_iconst X (nI 2) 18 dX6_blown_17 rfl (by decide +kernel) ?_
    refine g_idiv X (nI (co / 2)) 19 dX6_blown_18 rfl (nI_ne0 (by omega) (by omega)) (pk_div (by omega) (by omega) (by omega)) ?_
    refine g_isub X ((nI (S 1)) - (nI (co / 2))) 20 dX6_blown_19 rfl rfl ?_
    refine g_goto X 37 dX6_blown_20 (by decide) ?_
    refine g_max X (nI (bl (S 1) co)) 40 (List.mem_of_getElem? (i := 2) rfl) (List.mem_of_getElem? (i := 3) rfl) (List.mem_of_getElem? (i := 4) rfl) (List.mem_of_getElem? (i := 5) rfl) (Nat.le_of_ble_eq_true rfl) (Nat.le_of_ble_eq_true rfl) (Nat.zero_le _) (Nat.zero_le _) (by rw [bl, if_pos h9]; exact nI_max0 (by omega) (by omega)) dX6_blown_37 rfl ?_
    exact ret _ _ _ _ dX6_blown_40 rfl ⟨rfl, rfl⟩

abbrev rm_X6_panes : Room := { frames := 1, cells := 0, slots := 0, locals := 22 }
set_option maxHeartbeats 4000000 in
set_option maxRecDepth 100000 in
theorem m_X6_panes (l : Launch) (D : va_G) (cI cZ cJ : ClassId) (m6 th nw nr nf q1 q2 q3 q4 q5 q6 : Nat) (w : Nat) (T : Nat → Nat) (hk : w < 6) : MI l yX6_panes wsX6_panes rm_X6_panes D (gT cI cZ cJ) [(m6, .inr (6, [.int (nI th), .int (nI nw), .int (nI nr), .int (nI nf), .ref q1, .ref q2, .ref q3, .ref q4, .ref q5, .ref q6])), (q1, .inl (cI, 30, .inl (v30 T)))] [.ref m6, .int (nI w)] (fun r u => r = nI (pnW T w) ∧ u = [(m6, .inr (6, [.int (nI th), .int (nI nw), .int (nI nr), .int (nI nf), .ref q1, .ref q2, .ref q3, .ref q4, .ref q5, .ref q6])), (q1, .inl (cI, 30, .inl (v30 T)))]) := by
  refine MI_of [(0, .ref m6), (1, .int (nI w))] (by decide) rfl (Nat.le_of_ble_eq_true rfl) rfl ?_
  intro p e s m args below meth c A Q X ret
  refine g_aload_n X 0 1 dX6_panes_0 rfl rfl rfl ?_
  refine g_iload_n X 1 2 dX6_panes_1 rfl rfl rfl ?_
  refine g_iconst X (nI 2) 3 dX6_panes_2 rfl (by decide +kernel) ?_
  refine g_callVi (ws' := [(m6, .inr (6, [.int (nI th), .int (nI nw), .int (nI nr), .int (nI nf), .ref q1, .ref q2, .ref q3, .ref q4, .ref q5, .ref q6])), (q1, .inl (cI, 30, .inl (v30 T)))]) X (m_X6_wi l D cI cZ cJ m6 th nw nr nf q1 q2 q3 q4 q5 q6 w 2 T (by omega)) 6 [0, 1] gX6_panes_X6_wi (n := 2) rfl (by decide +kernel) rfl ⟨Nat.le_of_ble_eq_true rfl, Nat.le_of_ble_eq_true rfl⟩ (ci := 6) (q0 := 0) rfl rfl rfl (Nat.le_of_ble_eq_true rfl) rfl (by decide +kernel) rfl rfl dX6_panes_3 rfl ⟨Nat.le_of_ble_eq_true rfl, Nat.le_of_ble_eq_true rfl⟩ ?_
  refine g_aload_n X 0 7 dX6_panes_6 rfl rfl rfl ?_
  refine g_iload_n X 1 8 dX6_panes_7 rfl rfl rfl ?_
  refine g_iconst X (nI 3) 9 dX6_panes_8 rfl (by decide +kernel) ?_
  refine g_callVi (ws' := [(m6, .inr (6, [.int (nI th), .int (nI nw), .int (nI nr), .int (nI nf), .ref q1, .ref q2, .ref q3, .ref q4, .ref q5, .ref q6])), (q1, .inl (cI, 30, .inl (v30 T)))]) X (m_X6_wi l D cI cZ cJ m6 th nw nr nf q1 q2 q3 q4 q5 q6 w 3 T (by omega)) 12 [0, 1] gX6_panes_X6_wi (n := 2) rfl (by decide +kernel) rfl ⟨Nat.le_of_ble_eq_true rfl, Nat.le_of_ble_eq_true rfl⟩ (ci := 6) (q0 := 0) rfl rfl rfl (Nat.le_of_ble_eq_true rfl) rfl (by decide +kernel) rfl rfl dX6_panes_9 rfl ⟨Nat.le_of_ble_eq_true rfl, Nat.le_of_ble_eq_true rfl⟩ ?_
  refine g_imul X (nI ((T (5 * w + 2)) * (T (5 * w + 3)))) 13 dX6_panes_12 rfl (pk_mul _ _) ?_
  exact ret _ _ _ _ dX6_panes_13 rfl ⟨rfl, rfl⟩

abbrev rm_X6_sootOf : Room := { frames := 1, cells := 0, slots := 0, locals := 22 }
set_option maxHeartbeats 4000000 in
set_option maxRecDepth 100000 in
theorem m_X6_sootOf (l : Launch) (D : va_G) (cI cZ cJ : ClassId) (m6 th nw nr nf q1 q2 q3 q4 q5 q6 : Nat) (w k : Nat) (T S : Nat → Nat) (hs : sootOk S) (hT : winOk T w) (hk : w < 6) (hk2 : k < 2) : MI l yX6_sootOf wsX6_sootOf rm_X6_sootOf D (gT cI cZ cJ) [(m6, .inr (6, [.int (nI th), .int (nI nw), .int (nI nr), .int (nI nf), .ref q1, .ref q2, .ref q3, .ref q4, .ref q5, .ref q6])), (q1, .inl (cI, 30, .inl (v30 T))), (q5, .inl (cI, 130, .inl (vn S)))] [.ref m6, .int (nI w), .int (nI k)] (fun r u => r = nI (sof S T w k) ∧ u = [(m6, .inr (6, [.int (nI th), .int (nI nw), .int (nI nr), .int (nI nf), .ref q1, .ref q2, .ref q3, .ref q4, .ref q5, .ref q6])), (q1, .inl (cI, 30, .inl (v30 T))), (q5, .inl (cI, 130, .inl (vn S)))]) := by
  refine MI_of [(0, .ref m6), (1, .int (nI w)), (2, .int (nI k))] (by decide) rfl (Nat.le_of_ble_eq_true rfl) rfl ?_
  intro p e s m args below meth c A Q X ret
  have hiX6 : ∀ w ∈ wsX60, w ∈ wsX6_sootOf := (fun _ h => List.mem_cons_of_mem _ (List.mem_append_right _ h))
  have hT9 := hT
  unfold winOk at hT9
  refine g_iconst X (nI 0) 1 dX6_sootOf_0 rfl (by decide +kernel) ?_
  refine g_istore_n X [(3, .int (nI 0)), (0, .ref m6), (1, .int (nI w)), (2, .int (nI k))] 2 dX6_sootOf_1 rfl rfl (by decide) rfl ?_
  refine g_iconst X (nI 0) 3 dX6_sootOf_2 rfl (by decide +kernel) ?_
  refine g_istore X [(4, .int (nI 0)), (3, .int (nI 0)), (0, .ref m6), (1, .int (nI w)), (2, .int (nI k))] 5 dX6_sootOf_3 rfl (by decide) rfl ?_
  refine g_aload_n X 2 6 dX6_sootOf_5 rfl rfl rfl ?_
  refine g_iload_n X 3 7 dX6_sootOf_6 rfl rfl rfl ?_
  refine g_iconst X (nI 0) 8 dX6_sootOf_7 rfl (by decide +kernel) ?_
  refine g_callVi (ws' := [(m6, .inr (6, [.int (nI th), .int (nI nw), .int (nI nr), .int (nI nf), .ref q1, .ref q2, .ref q3, .ref q4, .ref q5, .ref q6])), (q1, .inl (cI, 30, .inl (v30 T))), (q5, .inl (cI, 130, .inl (vn S)))]) X (m_X6_wi l D cI cZ cJ m6 th nw nr nf q1 q2 q3 q4 q5 q6 w 0 T (by omega)) 11 [0, 1] gX6_sootOf_X6_wi (n := 2) rfl (by decide +kernel) rfl ⟨Nat.le_of_ble_eq_true rfl, Nat.le_of_ble_eq_true rfl⟩ (ci := 6) (q0 := 0) rfl rfl rfl (Nat.le_of_ble_eq_true rfl) rfl (by decide +kernel) rfl rfl dX6_sootOf_8 rfl ⟨Nat.le_of_ble_eq_true rfl, Nat.le_of_ble_eq_true rfl⟩ ?_
  refine g_eqi (y := nI (T (5 * w))) rfl ?_
  refine g_istore X [(5, .int (nI (T (5 * w)))), (4, .int (nI 0)), (3, .int (nI 0)), (0, .ref m6), (1, .int (nI w)), (2, .int (nI k))] 13 dX6_sootOf_11 rfl (by decide) rfl ?_
  have L : ∀ i : Nat, i ≤ T (5 * w + 2) → G p l e rm_X6_sootOf s m args below meth c Q D A 7 0 0 [(m6, .inr (6, [.int (nI th), .int (nI nw), .int (nI nr), .int (nI nf), .ref q1, .ref q2, .ref q3, .ref q4, .ref q5, .ref q6])), (q1, .inl (cI, 30, .inl (v30 T))), (q5, .inl (cI, 130, .inl (vn S)))] [(5, .int (nI (T (5 * w) + i))), (4, .int (nI (mx (fun c1 => mx (colS S T w c1) (T (5 * w + 3))) i))), (3, .int (nI (sm (fun c1 => sm (colS S T w c1) (T (5 * w + 3))) i))), (0, .ref m6), (1, .int (nI w)), (2, .int (nI k))] 13 [] := by
    refine g_down _ ?_ ?_
    · refine g_iload X 0 15 dX6_sootOf_13 rfl rfl ?_
      refine g_aload_n X 3 16 dX6_sootOf_15 rfl rfl rfl ?_
      refine g_iload_n X 4 17 dX6_sootOf_16 rfl rfl rfl ?_
      refine g_iconst X (nI 0) 18 dX6_sootOf_17 rfl (by decide +kernel) ?_
      refine g_callVi (ws' := [(m6, .inr (6, [.int (nI th), .int (nI nw), .int (nI nr), .int (nI nf), .ref q1, .ref q2, .ref q3, .ref q4, .ref q5, .ref q6])), (q1, .inl (cI, 30, .inl (v30 T))), (q5, .inl (cI, 130, .inl (vn S)))]) X (m_X6_wi l D cI cZ cJ m6 th nw nr nf q1 q2 q3 q4 q5 q6 w 0 T (by omega)) 21 [0, 1] gX6_sootOf_X6_wi (n := 2) rfl (by decide +kernel) rfl ⟨Nat.le_of_ble_eq_true rfl, Nat.le_of_ble_eq_true rfl⟩ (ci := 6) (q0 := 0) rfl rfl rfl (Nat.le_of_ble_eq_true rfl) rfl (by decide +kernel) rfl rfl dX6_sootOf_18 rfl ⟨Nat.le_of_ble_eq_true rfl, Nat.le_of_ble_eq_true rfl⟩ ?_
      refine g_eqi (y := nI (T (5 * w))) rfl ?_
      refine g_aload_n X 3 22 dX6_sootOf_21 rfl rfl rfl ?_
      refine g_iload_n X 4 23 dX6_sootOf_22 rfl rfl rfl ?_
      refine g_iconst X (nI 2) 24 dX6_sootOf_23 rfl (by decide +kernel) ?_
      refine g_callVi (ws' := [(m6, .inr (6, [.int (nI th), .int (nI nw), .int (nI nr), .int (nI nf), .ref q1, .ref q2, .ref q3, .ref q4, .ref q5, .ref q6])), (q1, .inl (cI, 30, .inl (v30 T))), (q5, .inl (cI, 130, .inl (vn S)))]) X (m_X6_wi l D cI cZ cJ m6 th nw nr nf q1 q2 q3 q4 q5 q6 w 2 T (by omega)) 27 [0, 1] gX6_sootOf_X6_wi (n := 2) rfl (by decide +kernel) rfl ⟨Nat.le_of_ble_eq_true rfl, Nat.le_of_ble_eq_true rfl⟩ (ci := 6) (q0 := 0) rfl rfl rfl (Nat.le_of_ble_eq_true rfl) rfl (by decide +kernel) rfl rfl dX6_sootOf_24 rfl ⟨Nat.le_of_ble_eq_true rfl, Nat.le_of_ble_eq_true rfl⟩ ?_
      refine g_iadd X (nI ((T (5 * w)) + (T (5 * w + 2)))) 28 dX6_sootOf_27 rfl (nI_add _ _) ?_
      refine g_icmp_ge X 31 103 dX6_sootOf_28 rfl (by decide) (nI_leI (by omega) (by omega)) (fun h28 => ?_) (fun h28 => absurd (Nat.le_refl _) h28)
      refine g_iload_n X 5 104 dX6_sootOf_103 rfl rfl rfl ?_
      refine g_if_eq X 107 112 dX6_sootOf_104 rfl (by decide) (nz_eq (by omega)) (fun hz => ?_) (fun hz => ?_)
      · refine g_iload_n X 2 113 dX6_sootOf_112 rfl rfl rfl ?_
        refine g_eqi (y := nI (sof S T w k)) (by unfold sof; rw [if_pos hz]; rfl) ?_
        exact ret _ _ _ _ dX6_sootOf_113 rfl ⟨rfl, rfl⟩
      · refine g_iload X 1 109 dX6_sootOf_107 rfl rfl ?_
        refine g_goto X 113 dX6_sootOf_109 (by decide) ?_
        refine g_eqi (y := nI (sof S T w k)) (by unfold sof; rw [if_neg hz]; rfl) ?_
        exact ret _ _ _ _ dX6_sootOf_113 rfl ⟨rfl, rfl⟩
    · intro i hi ih_i 
      refine g_iload X 0 15 dX6_sootOf_13 rfl rfl ?_
      refine g_aload_n X 3 16 dX6_sootOf_15 rfl rfl rfl ?_
      refine g_iload_n X 4 17 dX6_sootOf_16 rfl rfl rfl ?_
      refine g_iconst X (nI 0) 18 dX6_sootOf_17 rfl (by decide +kernel) ?_
      refine g_callVi (ws' := [(m6, .inr (6, [.int (nI th), .int (nI nw), .int (nI nr), .int (nI nf), .ref q1, .ref q2, .ref q3, .ref q4, .ref q5, .ref q6])), (q1, .inl (cI, 30, .inl (v30 T))), (q5, .inl (cI, 130, .inl (vn S)))]) X (m_X6_wi l D cI cZ cJ m6 th nw nr nf q1 q2 q3 q4 q5 q6 w 0 T (by omega)) 21 [0, 1] gX6_sootOf_X6_wi (n := 2) rfl (by decide +kernel) rfl ⟨Nat.le_of_ble_eq_true rfl, Nat.le_of_ble_eq_true rfl⟩ (ci := 6) (q0 := 0) rfl rfl rfl (Nat.le_of_ble_eq_true rfl) rfl (by decide +kernel) rfl rfl dX6_sootOf_18 rfl ⟨Nat.le_of_ble_eq_true rfl, Nat.le_of_ble_eq_true rfl⟩ ?_
      refine g_eqi (y := nI (T (5 * w))) rfl ?_
      refine g_aload_n X 3 22 dX6_sootOf_21 rfl rfl rfl ?_
      refine g_iload_n X 4 23 dX6_sootOf_22 rfl rfl rfl ?_
      refine g_iconst X (nI 2) 24 dX6_sootOf_23 rfl (by decide +kernel) ?_
      refine g_callVi (ws' := [(m6, .inr (6, [.int (nI th), .int (nI nw), .int (nI nr), .int (nI nf), .ref q1, .ref q2, .ref q3, .ref q4, .ref q5, .ref q6])), (q1, .inl (cI, 30, .inl (v30 T))), (q5, .inl (cI, 130, .inl (vn S)))]) X (m_X6_wi l D cI cZ cJ m6 th nw nr nf q1 q2 q3 q4 q5 q6 w 2 T (by omega)) 27 [0, 1] gX6_sootOf_X6_wi (n := 2) rfl (by decide +kernel) rfl ⟨Nat.le_of_ble_eq_true rfl, Nat.le_of_ble_eq_true rfl⟩ (ci := 6) (q0 := 0) rfl rfl rfl (Nat.le_of_ble_eq_true rfl) rfl (by decide +kernel) rfl rfl dX6_sootOf_24 rfl ⟨Nat.le_of_ble_eq_true rfl, Nat.le_of_ble_eq_true rfl⟩ ?_
      refine g_iadd X (nI ((T (5 * w)) + (T (5 * w + 2)))) 28 dX6_sootOf_27 rfl (nI_add _ _) ?_
      refine g_icmp_ge X 31 103 dX6_sootOf_28 rfl (by decide) (nI_leI (by omega) (by omega)) (fun h28 => absurd h28 (by omega)) (fun h28 => ?_)
      refine g_aload_n X 3 32 dX6_sootOf_31 rfl rfl rfl ?_
      refine g_iload_n X 4 33 dX6_sootOf_32 rfl rfl rfl ?_
      refine g_iconst X (nI 1) 34 dX6_sootOf_33 rfl (by decide +kernel) ?_
      refine g_callVi (ws' := [(m6, .inr (6, [.int (nI th), .int (nI nw), .int (nI nr), .int (nI nf), .ref q1, .ref q2, .ref q3, .ref q4, .ref q5, .ref q6])), (q1, .inl (cI, 30, .inl (v30 T))), (q5, .inl (cI, 130, .inl (vn S)))]) X (m_X6_wi l D cI cZ cJ m6 th nw nr nf q1 q2 q3 q4 q5 q6 w 1 T (by omega)) 37 [0, 1] gX6_sootOf_X6_wi (n := 2) rfl (by decide +kernel) rfl ⟨Nat.le_of_ble_eq_true rfl, Nat.le_of_ble_eq_true rfl⟩ (ci := 6) (q0 := 0) rfl rfl rfl (Nat.le_of_ble_eq_true rfl) rfl (by decide +kernel) rfl rfl dX6_sootOf_34 rfl ⟨Nat.le_of_ble_eq_true rfl, Nat.le_of_ble_eq_true rfl⟩ ?_
      refine g_istore X [(6, .int (nI (T (5 * w + 1)))), (5, .int (nI (T (5 * w) + i))), (4, .int (nI (mx (fun c1 => mx (colS S T w c1) (T (5 * w + 3))) i))), (3, .int (nI (sm (fun c1 => sm (colS S T w c1) (T (5 * w + 3))) i))), (0, .ref m6), (1, .int (nI w)), (2, .int (nI k))] 39 dX6_sootOf_37 rfl (by decide) rfl ?_
      have M : ∀ j : Nat, j ≤ T (5 * w + 3) → G p l e rm_X6_sootOf s m args below meth c Q D A 7 0 0 [(m6, .inr (6, [.int (nI th), .int (nI nw), .int (nI nr), .int (nI nf), .ref q1, .ref q2, .ref q3, .ref q4, .ref q5, .ref q6])), (q1, .inl (cI, 30, .inl (v30 T))), (q5, .inl (cI, 130, .inl (vn S)))] [(6, .int (nI (T (5 * w + 1) + j))), (5, .int (nI (T (5 * w) + i))), (4, .int (nI (max (mx (fun c1 => mx (colS S T w c1) (T (5 * w + 3))) i) (mx (colS S T w i) j)))), (3, .int (nI (sm (fun c1 => sm (colS S T w c1) (T (5 * w + 3))) i + sm (colS S T w i) j))), (0, .ref m6), (1, .int (nI w)), (2, .int (nI k))] 39 [] := by
        refine g_down _ ?_ ?_
        · refine g_iload X 0 41 dX6_sootOf_39 rfl rfl ?_
          refine g_aload_n X 4 42 dX6_sootOf_41 rfl rfl rfl ?_
          refine g_iload_n X 5 43 dX6_sootOf_42 rfl rfl rfl ?_
          refine g_iconst X (nI 1) 44 dX6_sootOf_43 rfl (by decide +kernel) ?_
          refine g_callVi (ws' := [(m6, .inr (6, [.int (nI th), .int (nI nw), .int (nI nr), .int (nI nf), .ref q1, .ref q2, .ref q3, .ref q4, .ref q5, .ref q6])), (q1, .inl (cI, 30, .inl (v30 T))), (q5, .inl (cI, 130, .inl (vn S)))]) X (m_X6_wi l D cI cZ cJ m6 th nw nr nf q1 q2 q3 q4 q5 q6 w 1 T (by omega)) 47 [0, 1] gX6_sootOf_X6_wi (n := 2) rfl (by decide +kernel) rfl ⟨Nat.le_of_ble_eq_true rfl, Nat.le_of_ble_eq_true rfl⟩ (ci := 6) (q0 := 0) rfl rfl rfl (Nat.le_of_ble_eq_true rfl) rfl (by decide +kernel) rfl rfl dX6_sootOf_44 rfl ⟨Nat.le_of_ble_eq_true rfl, Nat.le_of_ble_eq_true rfl⟩ ?_
          refine g_aload_n X 4 48 dX6_sootOf_47 rfl rfl rfl ?_
          refine g_iload_n X 5 49 dX6_sootOf_48 rfl rfl rfl ?_
          refine g_iconst X (nI 3) 50 dX6_sootOf_49 rfl (by decide +kernel) ?_
          refine g_callVi (ws' := [(m6, .inr (6, [.int (nI th), .int (nI nw), .int (nI nr), .int (nI nf), .ref q1, .ref q2, .ref q3, .ref q4, .ref q5, .ref q6])), (q1, .inl (cI, 30, .inl (v30 T))), (q5, .inl (cI, 130, .inl (vn S)))]) X (m_X6_wi l D cI cZ cJ m6 th nw nr nf q1 q2 q3 q4 q5 q6 w 3 T (by omega)) 53 [0, 1] gX6_sootOf_X6_wi (n := 2) rfl (by decide +kernel) rfl ⟨Nat.le_of_ble_eq_true rfl, Nat.le_of_ble_eq_true rfl⟩ (ci := 6) (q0 := 0) rfl rfl rfl (Nat.le_of_ble_eq_true rfl) rfl (by decide +kernel) rfl rfl dX6_sootOf_50 rfl ⟨Nat.le_of_ble_eq_true rfl, Nat.le_of_ble_eq_true rfl⟩ ?_
          refine g_iadd X (nI ((T (5 * w + 1)) + (T (5 * w + 3)))) 54 dX6_sootOf_53 rfl (nI_add _ _) ?_
          refine g_icmp_ge X 57 97 dX6_sootOf_54 rfl (by decide) (nI_leI (by omega) (by omega)) (fun h54 => ?_) (fun h54 => absurd (Nat.le_refl _) h54)
          refine g_iinc X 1 (nI (T (5 * w) + i + 1)) [(5, .int (nI (T (5 * w) + i + 1))), (6, .int (nI (T (5 * w + 1) + (T (5 * w + 3))))), (4, .int (nI (max (mx (fun c1 => mx (colS S T w c1) (T (5 * w + 3))) i) (mx (colS S T w i) (T (5 * w + 3)))))), (3, .int (nI (sm (fun c1 => sm (colS S T w c1) (T (5 * w + 3))) i + sm (colS S T w i) (T (5 * w + 3))))), (0, .ref m6), (1, .int (nI w)), (2, .int (nI k))] 100 dX6_sootOf_97 rfl rfl (nI_inc _) (by decide) rfl ?_
          refine g_goto X 13 dX6_sootOf_100 (by decide) ?_
          refine g_lv (lv' := [(5, .int (nI (T (5 * w) + i + 1))), (4, .int (nI (max (mx (fun c1 => mx (colS S T w c1) (T (5 * w + 3))) i) (mx (colS S T w i) (T (5 * w + 3)))))), (3, .int (nI (sm (fun c1 => sm (colS S T w c1) (T (5 * w + 3))) i + sm (colS S T w i) (T (5 * w + 3))))), (0, .ref m6), (1, .int (nI w)), (2, .int (nI k))]) [0, 2, 3, 4, 5, 6] rfl ?_
          exact ih_i
        · intro j hj ih_j 
          refine g_iload X 0 41 dX6_sootOf_39 rfl rfl ?_
          refine g_aload_n X 4 42 dX6_sootOf_41 rfl rfl rfl ?_
          refine g_iload_n X 5 43 dX6_sootOf_42 rfl rfl rfl ?_
          refine g_iconst X (nI 1) 44 dX6_sootOf_43 rfl (by decide +kernel) ?_
          refine g_callVi (ws' := [(m6, .inr (6, [.int (nI th), .int (nI nw), .int (nI nr), .int (nI nf), .ref q1, .ref q2, .ref q3, .ref q4, .ref q5, .ref q6])), (q1, .inl (cI, 30, .inl (v30 T))), (q5, .inl (cI, 130, .inl (vn S)))]) X (m_X6_wi l D cI cZ cJ m6 th nw nr nf q1 q2 q3 q4 q5 q6 w 1 T (by omega)) 47 [0, 1] gX6_sootOf_X6_wi (n := 2) rfl (by decide +kernel) rfl ⟨Nat.le_of_ble_eq_true rfl, Nat.le_of_ble_eq_true rfl⟩ (ci := 6) (q0 := 0) rfl rfl rfl (Nat.le_of_ble_eq_true rfl) rfl (by decide +kernel) rfl rfl dX6_sootOf_44 rfl ⟨Nat.le_of_ble_eq_true rfl, Nat.le_of_ble_eq_true rfl⟩ ?_
          refine g_aload_n X 4 48 dX6_sootOf_47 rfl rfl rfl ?_
          refine g_iload_n X 5 49 dX6_sootOf_48 rfl rfl rfl ?_
          refine g_iconst X (nI 3) 50 dX6_sootOf_49 rfl (by decide +kernel) ?_
          refine g_callVi (ws' := [(m6, .inr (6, [.int (nI th), .int (nI nw), .int (nI nr), .int (nI nf), .ref q1, .ref q2, .ref q3, .ref q4, .ref q5, .ref q6])), (q1, .inl (cI, 30, .inl (v30 T))), (q5, .inl (cI, 130, .inl (vn S)))]) X (m_X6_wi l D cI cZ cJ m6 th nw nr nf q1 q2 q3 q4 q5 q6 w 3 T (by omega)) 53 [0, 1] gX6_sootOf_X6_wi (n := 2) rfl (by decide +kernel) rfl ⟨Nat.le_of_ble_eq_true rfl, Nat.le_of_ble_eq_true rfl⟩ (ci := 6) (q0 := 0) rfl rfl rfl (Nat.le_of_ble_eq_true rfl) rfl (by decide +kernel) rfl rfl dX6_sootOf_50 rfl ⟨Nat.le_of_ble_eq_true rfl, Nat.le_of_ble_eq_true rfl⟩ ?_
          refine g_iadd X (nI ((T (5 * w + 1)) + (T (5 * w + 3)))) 54 dX6_sootOf_53 rfl (nI_add _ _) ?_
          refine g_icmp_ge X 57 97 dX6_sootOf_54 rfl (by decide) (nI_leI (by omega) (by omega)) (fun h54 => absurd h54 (by omega)) (fun h54 => ?_)
          have hm1 : mx (fun c1 => mx (colS S T w c1) (T (5 * w + 3))) i ≤ 20 := mx_le i (fun c1 hc1 => mx_le _ (fun j1 hj1 => col_le hs hT (by omega) hj1))
          have hm2 : mx (colS S T w i) j ≤ 20 := mx_le j (fun j1 hj1 => col_le hs hT hi (by omega))
          have hm3 : S (4 + ((T (5 * w) + i) * 8 + (T (5 * w + 1) + j))) ≤ 20 := col_le hs hT hi hj
          refine g_iload_n X 3 58 dX6_sootOf_57 rfl rfl rfl ?_
          refine g_aload_n X 4 59 dX6_sootOf_58 rfl rfl rfl ?_
          refine g_get X hiX6 0 8 62 rfl rfl (by decide) (List.mem_of_getElem? (i := 1) rfl) rfl dX6_sootOf_59 rfl ?_
          refine g_iload X 1 64 dX6_sootOf_62 rfl rfl ?_
          refine g_iload X 0 66 dX6_sootOf_64 rfl rfl ?_
          refine g_callSi (ws' := [(m6, .inr (6, [.int (nI th), .int (nI nw), .int (nI nr), .int (nI nf), .ref q1, .ref q2, .ref q3, .ref q4, .ref q5, .ref q6])), (q1, .inl (cI, 30, .inl (v30 T))), (q5, .inl (cI, 130, .inl (vn S)))]) X (m_X6_pane l D cI cZ cJ (T (5 * w) + i) (T (5 * w + 1) + j)) 69 [] gX6_sootOf_X6_pane (n := 2) rfl (by decide +kernel) rfl ⟨Nat.le_of_ble_eq_true rfl, Nat.le_of_ble_eq_true rfl⟩ rfl (Nat.le_of_ble_eq_true rfl) rfl (by decide +kernel) rfl rfl dX6_sootOf_66 rfl ⟨Nat.le_of_ble_eq_true rfl, Nat.le_of_ble_eq_true rfl⟩ ?_
          refine g_iald X 2 0 (4 + ((T (5 * w) + i) * 8 + (T (5 * w + 1) + j))) (nI (S (4 + ((T (5 * w) + i) * 8 + (T (5 * w + 1) + j))))) 70 rfl rfl (by omega) (by decide) (vn_at (by omega)) dX6_sootOf_69 rfl ?_
          refine g_iadd X (nI ((sm (fun c1 => sm (colS S T w c1) (T (5 * w + 3))) i + sm (colS S T w i) j) + (S (4 + ((T (5 * w) + i) * 8 + (T (5 * w + 1) + j)))))) 71 dX6_sootOf_70 rfl (nI_add _ _) ?_
          refine g_eqi (y := nI (sm (fun c1 => sm (colS S T w c1) (T (5 * w + 3))) i + sm (colS S T w i) (j + 1))) (by rw [Nat.add_assoc]; rfl) ?_
          refine g_istore_n X [(3, .int (nI (sm (fun c1 => sm (colS S T w c1) (T (5 * w + 3))) i + sm (colS S T w i) (j + 1)))), (6, .int (nI (T (5 * w + 1) + j))), (5, .int (nI (T (5 * w) + i))), (4, .int (nI (max (mx (fun c1 => mx (colS S T w c1) (T (5 * w + 3))) i) (mx (colS S T w i) j)))), (0, .ref m6), (1, .int (nI w)), (2, .int (nI k))] 72 dX6_sootOf_71 rfl rfl (by decide) rfl ?_
          refine g_iload X 3 74 dX6_sootOf_72 rfl rfl ?_
          refine g_aload_n X 4 75 dX6_sootOf_74 rfl rfl rfl ?_
          refine g_get X hiX6 0 8 78 rfl rfl (by decide) (List.mem_of_getElem? (i := 1) rfl) rfl dX6_sootOf_75 rfl ?_
          refine g_iload X 2 80 dX6_sootOf_78 rfl rfl ?_
          refine g_iload X 1 82 dX6_sootOf_80 rfl rfl ?_
          refine g_callSi (ws' := [(m6, .inr (6, [.int (nI th), .int (nI nw), .int (nI nr), .int (nI nf), .ref q1, .ref q2, .ref q3, .ref q4, .ref q5, .ref q6])), (q1, .inl (cI, 30, .inl (v30 T))), (q5, .inl (cI, 130, .inl (vn S)))]) X (m_X6_pane l D cI cZ cJ (T (5 * w) + i) (T (5 * w + 1) + j)) 85 [] gX6_sootOf_X6_pane (n := 2) rfl (by decide +kernel) rfl ⟨Nat.le_of_ble_eq_true rfl, Nat.le_of_ble_eq_true rfl⟩ rfl (Nat.le_of_ble_eq_true rfl) rfl (by decide +kernel) rfl rfl dX6_sootOf_82 rfl ⟨Nat.le_of_ble_eq_true rfl, Nat.le_of_ble_eq_true rfl⟩ ?_
          refine g_iald X 2 0 (4 + ((T (5 * w) + i) * 8 + (T (5 * w + 1) + j))) (nI (S (4 + ((T (5 * w) + i) * 8 + (T (5 * w + 1) + j))))) 86 rfl rfl (by omega) (by decide) (vn_at (by omega)) dX6_sootOf_85 rfl ?_
          refine g_max X (nI (max (max (mx (fun c1 => mx (colS S T w c1) (T (5 * w + 3))) i) (mx (colS S T w i) j)) (S (4 + ((T (5 * w) + i) * 8 + (T (5 * w + 1) + j)))))) 89 (List.mem_of_getElem? (i := 2) rfl) (List.mem_of_getElem? (i := 3) rfl) (List.mem_of_getElem? (i := 4) rfl) (List.mem_of_getElem? (i := 5) rfl) (Nat.le_of_ble_eq_true rfl) (Nat.le_of_ble_eq_true rfl) (Nat.zero_le _) (Nat.zero_le _) (nI_max (by omega) (by omega)) dX6_sootOf_86 rfl ?_
          refine g_eqi (y := nI (max (mx (fun c1 => mx (colS S T w c1) (T (5 * w + 3))) i) (mx (colS S T w i) (j + 1)))) (by rw [Nat.max_assoc]; rfl) ?_
          refine g_istore X [(4, .int (nI (max (mx (fun c1 => mx (colS S T w c1) (T (5 * w + 3))) i) (mx (colS S T w i) (j + 1))))), (3, .int (nI (sm (fun c1 => sm (colS S T w c1) (T (5 * w + 3))) i + sm (colS S T w i) (j + 1)))), (6, .int (nI (T (5 * w + 1) + j))), (5, .int (nI (T (5 * w) + i))), (0, .ref m6), (1, .int (nI w)), (2, .int (nI k))] 91 dX6_sootOf_89 rfl (by decide) rfl ?_
          refine g_iinc X 2 (nI (T (5 * w + 1) + j + 1)) [(6, .int (nI (T (5 * w + 1) + j + 1))), (4, .int (nI (max (mx (fun c1 => mx (colS S T w c1) (T (5 * w + 3))) i) (mx (colS S T w i) (j + 1))))), (3, .int (nI (sm (fun c1 => sm (colS S T w c1) (T (5 * w + 3))) i + sm (colS S T w i) (j + 1)))), (5, .int (nI (T (5 * w) + i))), (0, .ref m6), (1, .int (nI w)), (2, .int (nI k))] 94 dX6_sootOf_91 rfl rfl (nI_inc _) (by decide) rfl ?_
          refine g_goto X 39 dX6_sootOf_94 (by decide) ?_
          refine g_lv (lv' := [(6, .int (nI (T (5 * w + 1) + j + 1))), (5, .int (nI (T (5 * w) + i))), (4, .int (nI (max (mx (fun c1 => mx (colS S T w c1) (T (5 * w + 3))) i) (mx (colS S T w i) (j + 1))))), (3, .int (nI (sm (fun c1 => sm (colS S T w c1) (T (5 * w + 3))) i + sm (colS S T w i) (j + 1)))), (0, .ref m6), (1, .int (nI w)), (2, .int (nI k))]) [0, 3, 1, 2, 4, 5, 6] rfl ?_
          exact ih_j
      have M0 := M 0 (Nat.zero_le _)
      rw [show max (mx (fun c1 => mx (colS S T w c1) (T (5 * w + 3))) i) (mx (colS S T w i) 0) = mx (fun c1 => mx (colS S T w c1) (T (5 * w + 3))) i from Nat.max_eq_left (Nat.zero_le _)] at M0
      exact M0
  exact L 0 (Nat.zero_le _)

abbrev rm_X6_wipe : Room := { frames := 2, cells := 0, slots := 0, locals := 43 }
set_option maxHeartbeats 4000000 in
set_option maxRecDepth 100000 in
theorem m_X6_wipe (l : Launch) (D : va_G) (cI cZ cJ : ClassId) (m6 th nw nr nf q1 q2 q3 q4 q5 q6 : Nat) (w9 : Int32) (T S : Nat → Nat) (hs : sootOk S) (hn : nw ≤ 6) (hT9 : ∀ k : Nat, k < nw → winOk T k) : MI l yX6_wipe wsX6_wipe rm_X6_wipe D (gT cI cZ cJ) [(m6, .inr (6, [.int (nI th), .int (nI nw), .int (nI nr), .int (nI nf), .ref q1, .ref q2, .ref q3, .ref q4, .ref q5, .ref q6])), (q1, .inl (cI, 30, .inl (v30 T))), (q5, .inl (cI, 130, .inl (vn S)))] [.ref m6, .int w9] (fun r9 u9 => (oneE nw w9 = 0 → r9 = nI (addW S T (tn w9)) ∧ u9 = [(m6, .inr (6, [.int (nI 0), .int (nI nw), .int (nI nr), .int (nI nf), .ref q1, .ref q2, .ref q3, .ref q4, .ref q5, .ref q6])), (q1, .inl (cI, 30, .inl (v30 T))), (q5, .inl (cI, 130, .inl (vn (wp S T (tn w9)))))]) ∧ (¬ oneE nw w9 = 0 → r9 = nI 0 ∧ u9 = [(m6, .inr (6, [.int (nI (oneE nw w9)), .int (nI nw), .int (nI nr), .int (nI nf), .ref q1, .ref q2, .ref q3, .ref q4, .ref q5, .ref q6])), (q1, .inl (cI, 30, .inl (v30 T))), (q5, .inl (cI, 130, .inl (vn S)))])) := by
  refine MI_of [(0, .ref m6), (1, .int w9)] (by decide) rfl (Nat.le_of_ble_eq_true rfl) rfl ?_
  intro p e s m args below meth c A Q X ret
  have hiX6 : ∀ w ∈ wsX60, w ∈ wsX6_wipe := (fun _ h => List.mem_cons_of_mem _ (List.mem_append_right _ h))
  refine g_aload_n X 0 1 dX6_wipe_0 rfl rfl rfl ?_
  refine g_iconst X (nI 0) 2 dX6_wipe_1 rfl (by decide +kernel) ?_
  refine g_put (ws' := [(m6, .inr (6, [.int (nI 0), .int (nI nw), .int (nI nr), .int (nI nf), .ref q1, .ref q2, .ref q3, .ref q4, .ref q5, .ref q6])), (q1, .inl (cI, 30, .inl (v30 T))), (q5, .inl (cI, 130, .inl (vn S)))]) X hiX6 tyX6 tyX6_ok nmX6 0 0 5 rfl rfl (by decide) (List.mem_of_getElem? (i := 1) rfl) rfl (ty := .int) (by decide +kernel) rfl rfl (Nat.le_of_ble_eq_true rfl) dX6_wipe_2 rfl rfl ?_
  refine g_aload_n X 0 6 dX6_wipe_5 rfl rfl rfl ?_
  refine g_iload_n X 1 7 dX6_wipe_6 rfl rfl rfl ?_
  refine g_callVi (ws' := [(m6, .inr (6, [.int (nI 0), .int (nI nw), .int (nI nr), .int (nI nf), .ref q1, .ref q2, .ref q3, .ref q4, .ref q5, .ref q6])), (q1, .inl (cI, 30, .inl (v30 T))), (q5, .inl (cI, 130, .inl (vn S)))]) X (m_X6_isWindow l D cI cZ cJ m6 0 nw nr nf q1 q2 q3 q4 q5 q6 w9 (by omega)) 10 [0] gX6_wipe_X6_isWindow (n := 1) rfl (by decide +kernel) rfl ⟨Nat.le_of_ble_eq_true rfl, Nat.le_of_ble_eq_true rfl⟩ (ci := 6) (q0 := 0) rfl rfl rfl (Nat.le_of_ble_eq_true rfl) rfl (by decide +kernel) rfl rfl dX6_wipe_7 rfl ⟨Nat.le_of_ble_eq_true rfl, Nat.le_of_ble_eq_true rfl⟩ ?_
  refine g_if_ne X 13 19 dX6_wipe_10 rfl (by decide) (bn_dec decide_eq_true_iff) (fun h10 => ?_) (fun h10 => ?_)
  · have hA : isR nw w9 := Classical.not_not.mp h10
    have hE : oneE nw w9 = 0 := if_neg (fun z => z hA)
    obtain ⟨w, hw1, rfl⟩ := isR_nat hA (by omega)
    rw [tn_nI (show w < 2 ^ 31 by omega)] at ret
    have hT := hT9 w hw1
    have hT8 := hT
    unfold winOk at hT8
    refine g_iconst X (nI 0) 20 dX6_wipe_19 rfl (by decide +kernel) ?_
    refine g_istore_n X [(2, .int (nI 0)), (0, .ref m6), (1, .int (nI w))] 21 dX6_wipe_20 rfl rfl (by decide) rfl ?_
    refine g_aload_n X 1 22 dX6_wipe_21 rfl rfl rfl ?_
    refine g_iload_n X 2 23 dX6_wipe_22 rfl rfl rfl ?_
    refine g_iconst X (nI 0) 24 dX6_wipe_23 rfl (by decide +kernel) ?_
    refine g_callVi (ws' := [(m6, .inr (6, [.int (nI 0), .int (nI nw), .int (nI nr), .int (nI nf), .ref q1, .ref q2, .ref q3, .ref q4, .ref q5, .ref q6])), (q1, .inl (cI, 30, .inl (v30 T))), (q5, .inl (cI, 130, .inl (vn S)))]) X (m_X6_wi l D cI cZ cJ m6 0 nw nr nf q1 q2 q3 q4 q5 q6 w 0 T (by omega)) 27 [0, 1] gX6_wipe_X6_wi (n := 2) rfl (by decide +kernel) rfl ⟨Nat.le_of_ble_eq_true rfl, Nat.le_of_ble_eq_true rfl⟩ (ci := 6) (q0 := 0) rfl rfl rfl (Nat.le_of_ble_eq_true rfl) rfl (by decide +kernel) rfl rfl dX6_wipe_24 rfl ⟨Nat.le_of_ble_eq_true rfl, Nat.le_of_ble_eq_true rfl⟩ ?_
    refine g_eqi (y := nI (T (5 * w))) rfl ?_
    refine g_istore_n X [(3, .int (nI (T (5 * w)))), (2, .int (nI 0)), (0, .ref m6), (1, .int (nI w))] 28 dX6_wipe_27 rfl rfl (by decide) rfl ?_
    have L : ∀ i : Nat, i ≤ T (5 * w + 2) → G p l e rm_X6_wipe s m args below meth c Q D A 5 0 0 [(m6, .inr (6, [.int (nI 0), .int (nI nw), .int (nI nr), .int (nI nf), .ref q1, .ref q2, .ref q3, .ref q4, .ref q5, .ref q6])), (q1, .inl (cI, 30, .inl (v30 T))), (q5, .inl (cI, 130, .inl (vn (wpU T w i 0 S))))] [(3, .int (nI (T (5 * w) + i))), (2, .int (nI (sm (fun c1 => sm (colS S T w c1) (T (5 * w + 3))) i))), (0, .ref m6), (1, .int (nI w))] 28 [] := by
      refine g_down _ ?_ ?_
      · refine g_iload_n X 0 29 dX6_wipe_28 rfl rfl rfl ?_
        refine g_aload_n X 2 30 dX6_wipe_29 rfl rfl rfl ?_
        refine g_iload_n X 3 31 dX6_wipe_30 rfl rfl rfl ?_
        refine g_iconst X (nI 0) 32 dX6_wipe_31 rfl (by decide +kernel) ?_
        refine g_callVi (ws' := [(m6, .inr (6, [.int (nI 0), .int (nI nw), .int (nI nr), .int (nI nf), .ref q1, .ref q2, .ref q3, .ref q4, .ref q5, .ref q6])), (q1, .inl (cI, 30, .inl (v30 T))), (q5, .inl (cI, 130, .inl (vn (wpU T w (T (5 * w + 2)) 0 S))))]) X (m_X6_wi l D cI cZ cJ m6 0 nw nr nf q1 q2 q3 q4 q5 q6 w 0 T (by omega)) 35 [0, 1] gX6_wipe_X6_wi (n := 2) rfl (by decide +kernel) rfl ⟨Nat.le_of_ble_eq_true rfl, Nat.le_of_ble_eq_true rfl⟩ (ci := 6) (q0 := 0) rfl rfl rfl (Nat.le_of_ble_eq_true rfl) rfl (by decide +kernel) rfl rfl dX6_wipe_32 rfl ⟨Nat.le_of_ble_eq_true rfl, Nat.le_of_ble_eq_true rfl⟩ ?_
        refine g_eqi (y := nI (T (5 * w))) rfl ?_
        refine g_aload_n X 2 36 dX6_wipe_35 rfl rfl rfl ?_
        refine g_iload_n X 3 37 dX6_wipe_36 rfl rfl rfl ?_
        refine g_iconst X (nI 2) 38 dX6_wipe_37 rfl (by decide +kernel) ?_
        refine g_callVi (ws' := [(m6, .inr (6, [.int (nI 0), .int (nI nw), .int (nI nr), .int (nI nf), .ref q1, .ref q2, .ref q3, .ref q4, .ref q5, .ref q6])), (q1, .inl (cI, 30, .inl (v30 T))), (q5, .inl (cI, 130, .inl (vn (wpU T w (T (5 * w + 2)) 0 S))))]) X (m_X6_wi l D cI cZ cJ m6 0 nw nr nf q1 q2 q3 q4 q5 q6 w 2 T (by omega)) 41 [0, 1] gX6_wipe_X6_wi (n := 2) rfl (by decide +kernel) rfl ⟨Nat.le_of_ble_eq_true rfl, Nat.le_of_ble_eq_true rfl⟩ (ci := 6) (q0 := 0) rfl rfl rfl (Nat.le_of_ble_eq_true rfl) rfl (by decide +kernel) rfl rfl dX6_wipe_38 rfl ⟨Nat.le_of_ble_eq_true rfl, Nat.le_of_ble_eq_true rfl⟩ ?_
        refine g_iadd X (nI ((T (5 * w)) + (T (5 * w + 2)))) 42 dX6_wipe_41 rfl (nI_add _ _) ?_
        refine g_icmp_ge X 45 109 dX6_wipe_42 rfl (by decide) (nI_leI (by omega) (by omega)) (fun h42 => ?_) (fun h42 => absurd (Nat.le_refl _) h42)
        refine g_iload_n X 1 110 dX6_wipe_109 rfl rfl rfl ?_
        exact ret _ _ _ _ dX6_wipe_110 rfl ⟨fun _ => ⟨rfl, rfl⟩, fun z => absurd hE z⟩
      · intro i hi ih_i 
        refine g_iload_n X 0 29 dX6_wipe_28 rfl rfl rfl ?_
        refine g_aload_n X 2 30 dX6_wipe_29 rfl rfl rfl ?_
        refine g_iload_n X 3 31 dX6_wipe_30 rfl rfl rfl ?_
        refine g_iconst X (nI 0) 32 dX6_wipe_31 rfl (by decide +kernel) ?_
        refine g_callVi (ws' := [(m6, .inr (6, [.int (nI 0), .int (nI nw), .int (nI nr), .int (nI nf), .ref q1, .ref q2, .ref q3, .ref q4, .ref q5, .ref q6])), (q1, .inl (cI, 30, .inl (v30 T))), (q5, .inl (cI, 130, .inl (vn (wpU T w i 0 S))))]) X (m_X6_wi l D cI cZ cJ m6 0 nw nr nf q1 q2 q3 q4 q5 q6 w 0 T (by omega)) 35 [0, 1] gX6_wipe_X6_wi (n := 2) rfl (by decide +kernel) rfl ⟨Nat.le_of_ble_eq_true rfl, Nat.le_of_ble_eq_true rfl⟩ (ci := 6) (q0 := 0) rfl rfl rfl (Nat.le_of_ble_eq_true rfl) rfl (by decide +kernel) rfl rfl dX6_wipe_32 rfl ⟨Nat.le_of_ble_eq_true rfl, Nat.le_of_ble_eq_true rfl⟩ ?_
        refine g_eqi (y := nI (T (5 * w))) rfl ?_
        refine g_aload_n X 2 36 dX6_wipe_35 rfl rfl rfl ?_
        refine g_iload_n X 3 37 dX6_wipe_36 rfl rfl rfl ?_
        refine g_iconst X (nI 2) 38 dX6_wipe_37 rfl (by decide +kernel) ?_
        refine g_callVi (ws' := [(m6, .inr (6, [.int (nI 0), .int (nI nw), .int (nI nr), .int (nI nf), .ref q1, .ref q2, .ref q3, .ref q4, .ref q5, .ref q6])), (q1, .inl (cI, 30, .inl (v30 T))), (q5, .inl (cI, 130, .inl (vn (wpU T w i 0 S))))]) X (m_X6_wi l D cI cZ cJ m6 0 nw nr nf q1 q2 q3 q4 q5 q6 w 2 T (by omega)) 41 [0, 1] gX6_wipe_X6_wi (n := 2) rfl (by decide +kernel) rfl ⟨Nat.le_of_ble_eq_true rfl, Nat.le_of_ble_eq_true rfl⟩ (ci := 6) (q0 := 0) rfl rfl rfl (Nat.le_of_ble_eq_true rfl) rfl (by decide +kernel) rfl rfl dX6_wipe_38 rfl ⟨Nat.le_of_ble_eq_true rfl, Nat.le_of_ble_eq_true rfl⟩ ?_
        refine g_iadd X (nI ((T (5 * w)) + (T (5 * w + 2)))) 42 dX6_wipe_41 rfl (nI_add _ _) ?_
        refine g_icmp_ge X 45 109 dX6_wipe_42 rfl (by decide) (nI_leI (by omega) (by omega)) (fun h42 => absurd h42 (by omega)) (fun h42 => ?_)
        refine g_aload_n X 2 46 dX6_wipe_45 rfl rfl rfl ?_
        refine g_iload_n X 3 47 dX6_wipe_46 rfl rfl rfl ?_
        refine g_iconst X (nI 1) 48 dX6_wipe_47 rfl (by decide +kernel) ?_
        refine g_callVi (ws' := [(m6, .inr (6, [.int (nI 0), .int (nI nw), .int (nI nr), .int (nI nf), .ref q1, .ref q2, .ref q3, .ref q4, .ref q5, .ref q6])), (q1, .inl (cI, 30, .inl (v30 T))), (q5, .inl (cI, 130, .inl (vn (wpU T w i 0 S))))]) X (m_X6_wi l D cI cZ cJ m6 0 nw nr nf q1 q2 q3 q4 q5 q6 w 1 T (by omega)) 51 [0, 1] gX6_wipe_X6_wi (n := 2) rfl (by decide +kernel) rfl ⟨Nat.le_of_ble_eq_true rfl, Nat.le_of_ble_eq_true rfl⟩ (ci := 6) (q0 := 0) rfl rfl rfl (Nat.le_of_ble_eq_true rfl) rfl (by decide +kernel) rfl rfl dX6_wipe_48 rfl ⟨Nat.le_of_ble_eq_true rfl, Nat.le_of_ble_eq_true rfl⟩ ?_
        refine g_istore X [(4, .int (nI (T (5 * w + 1)))), (3, .int (nI (T (5 * w) + i))), (2, .int (nI (sm (fun c1 => sm (colS S T w c1) (T (5 * w + 3))) i))), (0, .ref m6), (1, .int (nI w))] 53 dX6_wipe_51 rfl (by decide) rfl ?_
        have M : ∀ j : Nat, j ≤ T (5 * w + 3) → G p l e rm_X6_wipe s m args below meth c Q D A 5 0 0 [(m6, .inr (6, [.int (nI 0), .int (nI nw), .int (nI nr), .int (nI nf), .ref q1, .ref q2, .ref q3, .ref q4, .ref q5, .ref q6])), (q1, .inl (cI, 30, .inl (v30 T))), (q5, .inl (cI, 130, .inl (vn (wpU T w i j S))))] [(4, .int (nI (T (5 * w + 1) + j))), (3, .int (nI (T (5 * w) + i))), (2, .int (nI (sm (fun c1 => sm (colS S T w c1) (T (5 * w + 3))) i + sm (colS S T w i) j))), (0, .ref m6), (1, .int (nI w))] 53 [] := by
          refine g_down _ ?_ ?_
          · refine g_iload X 0 55 dX6_wipe_53 rfl rfl ?_
            refine g_aload_n X 3 56 dX6_wipe_55 rfl rfl rfl ?_
            refine g_iload_n X 4 57 dX6_wipe_56 rfl rfl rfl ?_
            refine g_iconst X (nI 1) 58 dX6_wipe_57 rfl (by decide +kernel) ?_
            refine g_callVi (ws' := [(m6, .inr (6, [.int (nI 0), .int (nI nw), .int (nI nr), .int (nI nf), .ref q1, .ref q2, .ref q3, .ref q4, .ref q5, .ref q6])), (q1, .inl (cI, 30, .inl (v30 T))), (q5, .inl (cI, 130, .inl (vn (wpU T w i (T (5 * w + 3)) S))))]) X (m_X6_wi l D cI cZ cJ m6 0 nw nr nf q1 q2 q3 q4 q5 q6 w 1 T (by omega)) 61 [0, 1] gX6_wipe_X6_wi (n := 2) rfl (by decide +kernel) rfl ⟨Nat.le_of_ble_eq_true rfl, Nat.le_of_ble_eq_true rfl⟩ (ci := 6) (q0 := 0) rfl rfl rfl (Nat.le_of_ble_eq_true rfl) rfl (by decide +kernel) rfl rfl dX6_wipe_58 rfl ⟨Nat.le_of_ble_eq_true rfl, Nat.le_of_ble_eq_true rfl⟩ ?_
            refine g_aload_n X 3 62 dX6_wipe_61 rfl rfl rfl ?_
            refine g_iload_n X 4 63 dX6_wipe_62 rfl rfl rfl ?_
            refine g_iconst X (nI 3) 64 dX6_wipe_63 rfl (by decide +kernel) ?_
            refine g_callVi (ws' := [(m6, .inr (6, [.int (nI 0), .int (nI nw), .int (nI nr), .int (nI nf), .ref q1, .ref q2, .ref q3, .ref q4, .ref q5, .ref q6])), (q1, .inl (cI, 30, .inl (v30 T))), (q5, .inl (cI, 130, .inl (vn (wpU T w i (T (5 * w + 3)) S))))]) X (m_X6_wi l D cI cZ cJ m6 0 nw nr nf q1 q2 q3 q4 q5 q6 w 3 T (by omega)) 67 [0, 1] gX6_wipe_X6_wi (n := 2) rfl (by decide +kernel) rfl ⟨Nat.le_of_ble_eq_true rfl, Nat.le_of_ble_eq_true rfl⟩ (ci := 6) (q0 := 0) rfl rfl rfl (Nat.le_of_ble_eq_true rfl) rfl (by decide +kernel) rfl rfl dX6_wipe_64 rfl ⟨Nat.le_of_ble_eq_true rfl, Nat.le_of_ble_eq_true rfl⟩ ?_
            refine g_iadd X (nI ((T (5 * w + 1)) + (T (5 * w + 3)))) 68 dX6_wipe_67 rfl (nI_add _ _) ?_
            refine g_icmp_ge X 71 103 dX6_wipe_68 rfl (by decide) (nI_leI (by omega) (by omega)) (fun h68 => ?_) (fun h68 => absurd (Nat.le_refl _) h68)
            refine g_iinc X 1 (nI (T (5 * w) + i + 1)) [(3, .int (nI (T (5 * w) + i + 1))), (4, .int (nI (T (5 * w + 1) + (T (5 * w + 3))))), (2, .int (nI (sm (fun c1 => sm (colS S T w c1) (T (5 * w + 3))) i + sm (colS S T w i) (T (5 * w + 3))))), (0, .ref m6), (1, .int (nI w))] 106 dX6_wipe_103 rfl rfl (nI_inc _) (by decide) rfl ?_
            refine g_goto X 28 dX6_wipe_106 (by decide) ?_
            refine g_lv (lv' := [(3, .int (nI (T (5 * w) + i + 1))), (2, .int (nI (sm (fun c1 => sm (colS S T w c1) (T (5 * w + 3))) i + sm (colS S T w i) (T (5 * w + 3))))), (0, .ref m6), (1, .int (nI w))]) [0, 2, 3, 4] rfl ?_
            exact (by rw [wpU_r]; exact ih_i)
          · intro j hj ih_j 
            refine g_iload X 0 55 dX6_wipe_53 rfl rfl ?_
            refine g_aload_n X 3 56 dX6_wipe_55 rfl rfl rfl ?_
            refine g_iload_n X 4 57 dX6_wipe_56 rfl rfl rfl ?_
            refine g_iconst X (nI 1) 58 dX6_wipe_57 rfl (by decide +kernel) ?_
            refine g_callVi (ws' := [(m6, .inr (6, [.int (nI 0), .int (nI nw), .int (nI nr), .int (nI nf), .ref q1, .ref q2, .ref q3, .ref q4, .ref q5, .ref q6])), (q1, .inl (cI, 30, .inl (v30 T))), (q5, .inl (cI, 130, .inl (vn (wpU T w i j S))))]) X (m_X6_wi l D cI cZ cJ m6 0 nw nr nf q1 q2 q3 q4 q5 q6 w 1 T (by omega)) 61 [0, 1] gX6_wipe_X6_wi (n := 2) rfl (by decide +kernel) rfl ⟨Nat.le_of_ble_eq_true rfl, Nat.le_of_ble_eq_true rfl⟩ (ci := 6) (q0 := 0) rfl rfl rfl (Nat.le_of_ble_eq_true rfl) rfl (by decide +kernel) rfl rfl dX6_wipe_58 rfl ⟨Nat.le_of_ble_eq_true rfl, Nat.le_of_ble_eq_true rfl⟩ ?_
            refine g_aload_n X 3 62 dX6_wipe_61 rfl rfl rfl ?_
            refine g_iload_n X 4 63 dX6_wipe_62 rfl rfl rfl ?_
            refine g_iconst X (nI 3) 64 dX6_wipe_63 rfl (by decide +kernel) ?_
            refine g_callVi (ws' := [(m6, .inr (6, [.int (nI 0), .int (nI nw), .int (nI nr), .int (nI nf), .ref q1, .ref q2, .ref q3, .ref q4, .ref q5, .ref q6])), (q1, .inl (cI, 30, .inl (v30 T))), (q5, .inl (cI, 130, .inl (vn (wpU T w i j S))))]) X (m_X6_wi l D cI cZ cJ m6 0 nw nr nf q1 q2 q3 q4 q5 q6 w 3 T (by omega)) 67 [0, 1] gX6_wipe_X6_wi (n := 2) rfl (by decide +kernel) rfl ⟨Nat.le_of_ble_eq_true rfl, Nat.le_of_ble_eq_true rfl⟩ (ci := 6) (q0 := 0) rfl rfl rfl (Nat.le_of_ble_eq_true rfl) rfl (by decide +kernel) rfl rfl dX6_wipe_64 rfl ⟨Nat.le_of_ble_eq_true rfl, Nat.le_of_ble_eq_true rfl⟩ ?_
            refine g_iadd X (nI ((T (5 * w + 1)) + (T (5 * w + 3)))) 68 dX6_wipe_67 rfl (nI_add _ _) ?_
            refine g_icmp_ge X 71 103 dX6_wipe_68 rfl (by decide) (nI_leI (by omega) (by omega)) (fun h68 => absurd h68 (by omega)) (fun h68 => ?_)
            refine g_iload_n X 2 72 dX6_wipe_71 rfl rfl rfl ?_
            refine g_aload_n X 3 73 dX6_wipe_72 rfl rfl rfl ?_
            refine g_get X hiX6 0 8 76 rfl rfl (by decide) (List.mem_of_getElem? (i := 2) rfl) rfl dX6_wipe_73 rfl ?_
            refine g_iload_n X 1 77 dX6_wipe_76 rfl rfl rfl ?_
            refine g_iload X 0 79 dX6_wipe_77 rfl rfl ?_
            refine g_callSi (ws' := [(m6, .inr (6, [.int (nI 0), .int (nI nw), .int (nI nr), .int (nI nf), .ref q1, .ref q2, .ref q3, .ref q4, .ref q5, .ref q6])), (q1, .inl (cI, 30, .inl (v30 T))), (q5, .inl (cI, 130, .inl (vn (wpU T w i j S))))]) X (m_X6_pane l D cI cZ cJ (T (5 * w) + i) (T (5 * w + 1) + j)) 82 [] gX6_wipe_X6_pane (n := 2) rfl (by decide +kernel) rfl ⟨Nat.le_of_ble_eq_true rfl, Nat.le_of_ble_eq_true rfl⟩ rfl (Nat.le_of_ble_eq_true rfl) rfl (by decide +kernel) rfl rfl dX6_wipe_79 rfl ⟨Nat.le_of_ble_eq_true rfl, Nat.le_of_ble_eq_true rfl⟩ ?_
            refine g_iald X 2 0 (4 + ((T (5 * w) + i) * 8 + (T (5 * w + 1) + j))) (nI (colS S T w i j)) 83 rfl rfl (by omega) (by decide) ((vn_at (by omega)).trans (congrArg nI (wpU_at hT hi hj))) dX6_wipe_82 rfl ?_
            refine g_iadd X (nI ((sm (fun c1 => sm (colS S T w c1) (T (5 * w + 3))) i + sm (colS S T w i) j) + (colS S T w i j))) 84 dX6_wipe_83 rfl (nI_add _ _) ?_
            refine g_eqi (y := nI (sm (fun c1 => sm (colS S T w c1) (T (5 * w + 3))) i + sm (colS S T w i) (j + 1))) (by rw [Nat.add_assoc]; rfl) ?_
            refine g_istore_n X [(2, .int (nI (sm (fun c1 => sm (colS S T w c1) (T (5 * w + 3))) i + sm (colS S T w i) (j + 1)))), (4, .int (nI (T (5 * w + 1) + j))), (3, .int (nI (T (5 * w) + i))), (0, .ref m6), (1, .int (nI w))] 85 dX6_wipe_84 rfl rfl (by decide) rfl ?_
            refine g_aload_n X 3 86 dX6_wipe_85 rfl rfl rfl ?_
            refine g_get X hiX6 0 8 89 rfl rfl (by decide) (List.mem_of_getElem? (i := 2) rfl) rfl dX6_wipe_86 rfl ?_
            refine g_iload_n X 2 90 dX6_wipe_89 rfl rfl rfl ?_
            refine g_iload X 1 92 dX6_wipe_90 rfl rfl ?_
            refine g_callSi (ws' := [(m6, .inr (6, [.int (nI 0), .int (nI nw), .int (nI nr), .int (nI nf), .ref q1, .ref q2, .ref q3, .ref q4, .ref q5, .ref q6])), (q1, .inl (cI, 30, .inl (v30 T))), (q5, .inl (cI, 130, .inl (vn (wpU T w i j S))))]) X (m_X6_pane l D cI cZ cJ (T (5 * w) + i) (T (5 * w + 1) + j)) 95 [] gX6_wipe_X6_pane (n := 2) rfl (by decide +kernel) rfl ⟨Nat.le_of_ble_eq_true rfl, Nat.le_of_ble_eq_true rfl⟩ rfl (Nat.le_of_ble_eq_true rfl) rfl (by decide +kernel) rfl rfl dX6_wipe_92 rfl ⟨Nat.le_of_ble_eq_true rfl, Nat.le_of_ble_eq_true rfl⟩ ?_
            refine g_iconst X (nI 0) 96 dX6_wipe_95 rfl (by decide +kernel) ?_
            refine g_iast (ws' := [(m6, .inr (6, [.int (nI 0), .int (nI nw), .int (nI nr), .int (nI nf), .ref q1, .ref q2, .ref q3, .ref q4, .ref q5, .ref q6])), (q1, .inl (cI, 30, .inl (v30 T))), (q5, .inl (cI, 130, .inl (vn (wpU T w i (j + 1) S))))]) X 2 0 (4 + ((T (5 * w) + i) * 8 + (T (5 * w + 1) + j))) (vn (wpU T w i (j + 1) S)) 97 rfl rfl (by omega) (by decide) ((vn_up (by omega)).trans (congrArg vn (wpU_s hT hi hj rfl))) dX6_wipe_96 rfl rfl ?_
            refine g_iinc X 1 (nI (T (5 * w + 1) + j + 1)) [(4, .int (nI (T (5 * w + 1) + j + 1))), (2, .int (nI (sm (fun c1 => sm (colS S T w c1) (T (5 * w + 3))) i + sm (colS S T w i) (j + 1)))), (3, .int (nI (T (5 * w) + i))), (0, .ref m6), (1, .int (nI w))] 100 dX6_wipe_97 rfl rfl (nI_inc _) (by decide) rfl ?_
            refine g_goto X 53 dX6_wipe_100 (by decide) ?_
            refine g_lv (lv' := [(4, .int (nI (T (5 * w + 1) + j + 1))), (3, .int (nI (T (5 * w) + i))), (2, .int (nI (sm (fun c1 => sm (colS S T w c1) (T (5 * w + 3))) i + sm (colS S T w i) (j + 1)))), (0, .ref m6), (1, .int (nI w))]) [0, 2, 1, 3, 4] rfl ?_
            exact ih_j
        exact M 0 (Nat.zero_le _)
    have L0 := L 0 (Nat.zero_le _)
    rw [wpU_0] at L0
    exact L0
  · refine g_aload_n X 0 14 dX6_wipe_13 rfl rfl rfl ?_
    refine g_iconst X (nI 1) 15 dX6_wipe_14 rfl (by decide +kernel) ?_
    refine g_callVi (ws' := [(m6, .inr (6, [.int (nI 1), .int (nI nw), .int (nI nr), .int (nI nf), .ref q1, .ref q2, .ref q3, .ref q4, .ref q5, .ref q6])), (q1, .inl (cI, 30, .inl (v30 T))), (q5, .inl (cI, 130, .inl (vn S)))]) X (m_X6_fail l D cI cZ cJ m6 0 nw nr nf q1 q2 q3 q4 q5 q6 1) 18 [0] gX6_wipe_X6_fail (n := 1) rfl (by decide +kernel) rfl ⟨Nat.le_of_ble_eq_true rfl, Nat.le_of_ble_eq_true rfl⟩ (ci := 6) (q0 := 0) rfl rfl rfl (Nat.le_of_ble_eq_true rfl) rfl (by decide +kernel) rfl rfl dX6_wipe_15 rfl ⟨Nat.le_of_ble_eq_true rfl, Nat.le_of_ble_eq_true rfl⟩ ?_
    have hE := (show oneE nw w9 = 1 from if_pos h10)
    exact ret _ _ _ _ dX6_wipe_18 rfl ⟨fun z => absurd (hE.symm.trans z) (by decide), fun _ => ⟨rfl, by rw [hE]⟩⟩

abbrev rm_X6_brings : Room := { frames := 2, cells := 0, slots := 0, locals := 48 }
set_option maxHeartbeats 4000000 in
set_option maxRecDepth 100000 in
theorem m_X6_brings (l : Launch) (D : va_G) (cI cZ cJ : ClassId) (m6 th nw nr nf q1 q2 q3 q4 q5 q6 : Nat) (w : Nat) (T S : Nat → Nat) (hs : sootOk S) (hT : winOk T w) (hk : w < 6) : MI l yX6_brings wsX6_brings rm_X6_brings D (gT cI cZ cJ) [(m6, .inr (6, [.int (nI th), .int (nI nw), .int (nI nr), .int (nI nf), .ref q1, .ref q2, .ref q3, .ref q4, .ref q5, .ref q6])), (q1, .inl (cI, 30, .inl (v30 T))), (q5, .inl (cI, 130, .inl (vn S)))] [.ref m6, .int (nI w)] (fun r u => r = nI (brW S T w) ∧ u = [(m6, .inr (6, [.int (nI th), .int (nI nw), .int (nI nr), .int (nI nf), .ref q1, .ref q2, .ref q3, .ref q4, .ref q5, .ref q6])), (q1, .inl (cI, 30, .inl (v30 T))), (q5, .inl (cI, 130, .inl (vn S)))]) := by
  refine MI_of [(0, .ref m6), (1, .int (nI w))] (by decide) rfl (Nat.le_of_ble_eq_true rfl) rfl ?_
  intro p e s m args below meth c A Q X ret
  have h1 := addW_le hs hT
  have h2 := pnW_le hT
  have h3 : T (5 * w + 4) * pnW T w ≤ 9 * 96 := Nat.mul_le_mul hT.2.2.2.2.2 h2
  refine g_iconst X (nI 0) 1 dX6_brings_0 rfl (by decide +kernel) ?_
  refine g_aload_n X 0 2 dX6_brings_1 rfl rfl rfl ?_
  refine g_iload_n X 1 3 dX6_brings_2 rfl rfl rfl ?_
  refine g_iconst X (nI 4) 4 dX6_brings_3 rfl (by decide +kernel) ?_
  refine g_callVi (ws' := [(m6, .inr (6, [.int (nI th), .int (nI nw), .int (nI nr), .int (nI nf), .ref q1, .ref q2, .ref q3, .ref q4, .ref q5, .ref q6])), (q1, .inl (cI, 30, .inl (v30 T))), (q5, .inl (cI, 130, .inl (vn S)))]) X (m_X6_wi l D cI cZ cJ m6 th nw nr nf q1 q2 q3 q4 q5 q6 w 4 T (by omega)) 7 [0, 1] gX6_brings_X6_wi (n := 2) rfl (by decide +kernel) rfl ⟨Nat.le_of_ble_eq_true rfl, Nat.le_of_ble_eq_true rfl⟩ (ci := 6) (q0 := 0) rfl rfl rfl (Nat.le_of_ble_eq_true rfl) rfl (by decide +kernel) rfl rfl dX6_brings_4 rfl ⟨Nat.le_of_ble_eq_true rfl, Nat.le_of_ble_eq_true rfl⟩ ?_
  refine g_aload_n X 0 8 dX6_brings_7 rfl rfl rfl ?_
  refine g_iload_n X 1 9 dX6_brings_8 rfl rfl rfl ?_
  refine g_callVi (ws' := [(m6, .inr (6, [.int (nI th), .int (nI nw), .int (nI nr), .int (nI nf), .ref q1, .ref q2, .ref q3, .ref q4, .ref q5, .ref q6])), (q1, .inl (cI, 30, .inl (v30 T))), (q5, .inl (cI, 130, .inl (vn S)))]) X (m_X6_panes l D cI cZ cJ m6 th nw nr nf q1 q2 q3 q4 q5 q6 w T hk) 12 [0, 1] gX6_brings_X6_panes (n := 1) rfl (by decide +kernel) rfl ⟨Nat.le_of_ble_eq_true rfl, Nat.le_of_ble_eq_true rfl⟩ (ci := 6) (q0 := 0) rfl rfl rfl (Nat.le_of_ble_eq_true rfl) rfl (by decide +kernel) rfl rfl dX6_brings_9 rfl ⟨Nat.le_of_ble_eq_true rfl, Nat.le_of_ble_eq_true rfl⟩ ?_
  refine g_imul X (nI ((T (5 * w + 4)) * (pnW T w))) 13 dX6_brings_12 rfl (pk_mul _ _) ?_
  refine g_aload_n X 0 14 dX6_brings_13 rfl rfl rfl ?_
  refine g_iload_n X 1 15 dX6_brings_14 rfl rfl rfl ?_
  refine g_iconst X (nI 0) 16 dX6_brings_15 rfl (by decide +kernel) ?_
  refine g_callVi (ws' := [(m6, .inr (6, [.int (nI th), .int (nI nw), .int (nI nr), .int (nI nf), .ref q1, .ref q2, .ref q3, .ref q4, .ref q5, .ref q6])), (q1, .inl (cI, 30, .inl (v30 T))), (q5, .inl (cI, 130, .inl (vn S)))]) X (m_X6_sootOf l D cI cZ cJ m6 th nw nr nf q1 q2 q3 q4 q5 q6 w 0 T S hs hT hk (by decide)) 19 [0, 1, 2] gX6_brings_X6_sootOf (n := 2) rfl (by decide +kernel) rfl ⟨Nat.le_of_ble_eq_true rfl, Nat.le_of_ble_eq_true rfl⟩ (ci := 6) (q0 := 0) rfl rfl rfl (Nat.le_of_ble_eq_true rfl) rfl (by decide +kernel) rfl rfl dX6_brings_16 rfl ⟨Nat.le_of_ble_eq_true rfl, Nat.le_of_ble_eq_true rfl⟩ ?_
  refine g_eqi (y := nI (addW S T w)) rfl ?_
  refine g_isub X ((nI ((T (5 * w + 4)) * (pnW T w))) - (nI (addW S T w))) 20 dX6_brings_19 rfl rfl ?_
  refine g_max X (nI (brW S T w)) 23 (List.mem_of_getElem? (i := 1) rfl) (List.mem_of_getElem? (i := 2) rfl) (List.mem_of_getElem? (i := 3) rfl) (List.mem_of_getElem? (i := 4) rfl) (Nat.le_of_ble_eq_true rfl) (Nat.le_of_ble_eq_true rfl) (Nat.zero_le _) (Nat.zero_le _) (nI_max0 (by omega) (by omega)) dX6_brings_20 rfl ?_
  exact ret _ _ _ _ dX6_brings_23 rfl ⟨rfl, rfl⟩

abbrev rm_X6_allBring : Room := { frames := 3, cells := 0, slots := 0, locals := 69 }
set_option maxHeartbeats 4000000 in
set_option maxRecDepth 100000 in
theorem m_X6_allBring (l : Launch) (D : va_G) (cI cZ cJ : ClassId) (m6 th nw nr nf q1 q2 q3 q4 q5 q6 : Nat) (T S : Nat → Nat) (hs : sootOk S) (hn : nw ≤ 6) (hT : ∀ k : Nat, k < nw → winOk T k) : MI l yX6_allBring wsX6_allBring rm_X6_allBring D (gT cI cZ cJ) [(m6, .inr (6, [.int (nI th), .int (nI nw), .int (nI nr), .int (nI nf), .ref q1, .ref q2, .ref q3, .ref q4, .ref q5, .ref q6])), (q1, .inl (cI, 30, .inl (v30 T))), (q5, .inl (cI, 130, .inl (vn S)))] [.ref m6] (fun r u => r = nI (allB S T nw) ∧ u = [(m6, .inr (6, [.int (nI th), .int (nI nw), .int (nI nr), .int (nI nf), .ref q1, .ref q2, .ref q3, .ref q4, .ref q5, .ref q6])), (q1, .inl (cI, 30, .inl (v30 T))), (q5, .inl (cI, 130, .inl (vn S)))]) := by
  refine MI_of [(0, .ref m6)] (by decide) rfl (Nat.le_of_ble_eq_true rfl) rfl ?_
  intro p e s m args below meth c A Q X ret
  have hiX6 : ∀ w ∈ wsX60, w ∈ wsX6_allBring := (fun _ h => List.mem_cons_of_mem _ (List.mem_append_right _ h))
  refine g_iconst X (nI 0) 1 dX6_allBring_0 rfl (by decide +kernel) ?_
  refine g_istore_n X [(1, .int (nI 0)), (0, .ref m6)] 2 dX6_allBring_1 rfl rfl (by decide) rfl ?_
  refine g_iconst X (nI 0) 3 dX6_allBring_2 rfl (by decide +kernel) ?_
  refine g_istore_n X [(2, .int (nI 0)), (1, .int (nI 0)), (0, .ref m6)] 4 dX6_allBring_3 rfl rfl (by decide) rfl ?_
  have L : ∀ j : Nat, j ≤ nw → G p l e rm_X6_allBring s m args below meth c Q D A 3 0 0 [(m6, .inr (6, [.int (nI th), .int (nI nw), .int (nI nr), .int (nI nf), .ref q1, .ref q2, .ref q3, .ref q4, .ref q5, .ref q6])), (q1, .inl (cI, 30, .inl (v30 T))), (q5, .inl (cI, 130, .inl (vn S)))] [(2, .int (nI j)), (1, .int (nI (sm (brW S T) j))), (0, .ref m6)] 4 [] := by
    refine g_down _ ?_ ?_
    · refine g_iload_n X 0 5 dX6_allBring_4 rfl rfl rfl ?_
      refine g_aload_n X 2 6 dX6_allBring_5 rfl rfl rfl ?_
      refine g_get X hiX6 0 1 9 rfl rfl (by decide) (List.mem_of_getElem? (i := 1) rfl) rfl dX6_allBring_6 rfl ?_
      refine g_icmp_ge X 12 26 dX6_allBring_9 rfl (by decide) (nI_leI (by omega) (by omega)) (fun h9 => ?_) (fun h9 => absurd (Nat.le_refl _) h9)
      refine g_iload_n X 1 27 dX6_allBring_26 rfl rfl rfl ?_
      exact ret _ _ _ _ dX6_allBring_27 rfl ⟨rfl, rfl⟩
    · intro j hj ih_j 
      refine g_iload_n X 0 5 dX6_allBring_4 rfl rfl rfl ?_
      refine g_aload_n X 2 6 dX6_allBring_5 rfl rfl rfl ?_
      refine g_get X hiX6 0 1 9 rfl rfl (by decide) (List.mem_of_getElem? (i := 1) rfl) rfl dX6_allBring_6 rfl ?_
      refine g_icmp_ge X 12 26 dX6_allBring_9 rfl (by decide) (nI_leI (by omega) (by omega)) (fun h9 => absurd h9 (by omega)) (fun h9 => ?_)
      refine g_iload_n X 1 13 dX6_allBring_12 rfl rfl rfl ?_
      refine g_aload_n X 2 14 dX6_allBring_13 rfl rfl rfl ?_
      refine g_iload_n X 0 15 dX6_allBring_14 rfl rfl rfl ?_
      refine g_callVi (ws' := [(m6, .inr (6, [.int (nI th), .int (nI nw), .int (nI nr), .int (nI nf), .ref q1, .ref q2, .ref q3, .ref q4, .ref q5, .ref q6])), (q1, .inl (cI, 30, .inl (v30 T))), (q5, .inl (cI, 130, .inl (vn S)))]) X (m_X6_brings l D cI cZ cJ m6 th nw nr nf q1 q2 q3 q4 q5 q6 j T S hs (hT j hj) (by omega)) 18 [0, 1, 2] gX6_allBring_X6_brings (n := 1) rfl (by decide +kernel) rfl ⟨Nat.le_of_ble_eq_true rfl, Nat.le_of_ble_eq_true rfl⟩ (ci := 6) (q0 := 0) rfl rfl rfl (Nat.le_of_ble_eq_true rfl) rfl (by decide +kernel) rfl rfl dX6_allBring_15 rfl ⟨Nat.le_of_ble_eq_true rfl, Nat.le_of_ble_eq_true rfl⟩ ?_
      refine g_iadd X (nI ((sm (brW S T) j) + (brW S T j))) 19 dX6_allBring_18 rfl (nI_add _ _) ?_
      refine g_istore_n X [(1, .int (nI ((sm (brW S T) j) + (brW S T j)))), (2, .int (nI j)), (0, .ref m6)] 20 dX6_allBring_19 rfl rfl (by decide) rfl ?_
      refine g_iinc X 1 (nI (j + 1)) [(2, .int (nI (j + 1))), (1, .int (nI ((sm (brW S T) j) + (brW S T j)))), (0, .ref m6)] 23 dX6_allBring_20 rfl rfl (nI_inc _) (by decide) rfl ?_
      refine g_goto X 4 dX6_allBring_23 (by decide) ?_
      exact ih_j
  exact L 0 (Nat.zero_le _)

abbrev rm_X6_moveOn : Room := { frames := 2, cells := 0, slots := 0, locals := 45 }
set_option maxHeartbeats 4000000 in
set_option maxRecDepth 100000 in
theorem m_X6_moveOn (l : Launch) (D : va_G) (cI cZ cJ : ClassId) (m6 th nw nr nf q1 q2 q3 q4 q5 q6 : Nat) (r : Nat) (S : Nat → Nat) (hg : Gw S nr) (hk : r < nr) : MV l yX6_moveOn wsX6_moveOn rm_X6_moveOn D (gT cI cZ cJ) [(m6, .inr (6, [.int (nI th), .int (nI nw), .int (nI nr), .int (nI nf), .ref q1, .ref q2, .ref q3, .ref q4, .ref q5, .ref q6])), (q5, .inl (cI, 130, .inl (vn S)))] [.ref m6, .int (nI r)] (fun u => u = [(m6, .inr (6, [.int (nI th), .int (nI nw), .int (nI nr), .int (nI nf), .ref q1, .ref q2, .ref q3, .ref q4, .ref q5, .ref q6])), (q5, .inl (cI, 130, .inl (vn (reh S r (nfc S nr r)))))]) := by
  refine MV_of [(0, .ref m6), (1, .int (nI r))] (by decide) rfl (Nat.le_of_ble_eq_true rfl) rfl ?_
  intro p e s m args below meth c A Q X ret
  have hn : nr ≤ 6 := hg.1
  have h3 := hg.2.2 r hk
  have hwy := wyS_le S r
  refine g_aload_n X 0 1 dX6_moveOn_0 rfl rfl rfl ?_
  refine g_iload_n X 1 2 dX6_moveOn_1 rfl rfl rfl ?_
  refine g_iconst X (nI 0) 3 dX6_moveOn_2 rfl (by decide +kernel) ?_
  refine g_callVi (ws' := [(m6, .inr (6, [.int (nI th), .int (nI nw), .int (nI nr), .int (nI nf), .ref q1, .ref q2, .ref q3, .ref q4, .ref q5, .ref q6])), (q5, .inl (cI, 130, .inl (vn S)))]) X (m_X6_ro l D cI cZ cJ m6 th nw nr nf q1 q2 q3 q4 q5 q6 r 0 S (by omega)) 6 [0, 1] gX6_moveOn_X6_ro (n := 2) rfl (by decide +kernel) rfl ⟨Nat.le_of_ble_eq_true rfl, Nat.le_of_ble_eq_true rfl⟩ (ci := 6) (q0 := 0) rfl rfl rfl (Nat.le_of_ble_eq_true rfl) rfl (by decide +kernel) rfl rfl dX6_moveOn_3 rfl ⟨Nat.le_of_ble_eq_true rfl, Nat.le_of_ble_eq_true rfl⟩ ?_
  refine g_eqi (y := nI (cyc S r 0)) rfl ?_
  refine g_istore_n X [(2, .int (nI (cyc S r 0))), (0, .ref m6), (1, .int (nI r))] 7 dX6_moveOn_6 rfl rfl (by decide) rfl ?_
  have L : ∀ j : Nat, j ≤ 11 → (∀ i : Nat, i ≤ j → hung S nr (cyc S r i) = true) → nfc S nr r = nfR S nr r (11 - j) (cyc S r j) → G p l e rm_X6_moveOn s m args below meth c Q D A 3 0 0 [(m6, .inr (6, [.int (nI th), .int (nI nw), .int (nI nr), .int (nI nf), .ref q1, .ref q2, .ref q3, .ref q4, .ref q5, .ref q6])), (q5, .inl (cI, 130, .inl (vn S)))] [(2, .int (nI (cyc S r j))), (0, .ref m6), (1, .int (nI r))] 7 [] := by
    refine g_down _ ?_ ?_
    · intro hall hnx
      exact absurd (cyc_all hn h3.1 hall) id
    · intro j hj ih_j hall hnx
      have hcy := cyc_lt h3.1 j
      refine g_iload_n X 0 8 dX6_moveOn_7 rfl rfl rfl ?_
      refine g_aload_n X 1 9 dX6_moveOn_8 rfl rfl rfl ?_
      refine g_iload_n X 2 10 dX6_moveOn_9 rfl rfl rfl ?_
      refine g_iconst X (nI 2) 11 dX6_moveOn_10 rfl (by decide +kernel) ?_
      refine g_callVi (ws' := [(m6, .inr (6, [.int (nI th), .int (nI nw), .int (nI nr), .int (nI nf), .ref q1, .ref q2, .ref q3, .ref q4, .ref q5, .ref q6])), (q5, .inl (cI, 130, .inl (vn S)))]) X (m_X6_ro l D cI cZ cJ m6 th nw nr nf q1 q2 q3 q4 q5 q6 r 2 S (by omega)) 14 [0, 1] gX6_moveOn_X6_ro (n := 2) rfl (by decide +kernel) rfl ⟨Nat.le_of_ble_eq_true rfl, Nat.le_of_ble_eq_true rfl⟩ (ci := 6) (q0 := 0) rfl rfl rfl (Nat.le_of_ble_eq_true rfl) rfl (by decide +kernel) rfl rfl dX6_moveOn_11 rfl ⟨Nat.le_of_ble_eq_true rfl, Nat.le_of_ble_eq_true rfl⟩ ?_
      refine g_if_ne X 17 21 dX6_moveOn_14 rfl (by decide) (nz_eq (by omega)) (fun hq => ?_) (fun hq => ?_)
      · refine g_bipush X (nI 11) 23 dX6_moveOn_21 rfl (by decide +kernel) ?_
        refine g_eqi (y := nI (wyS S r)) (by unfold wyS; rw [if_neg hq]) ?_
        rw [show 11 - j = (11 - (j + 1)) + 1 by omega] at hnx
        refine g_iadd X (nI ((cyc S r j) + (wyS S r))) 24 dX6_moveOn_23 rfl (nI_add _ _) ?_
        refine g_bipush X (nI 12) 26 dX6_moveOn_24 rfl (by decide +kernel) ?_
        refine g_irem X (nI (((cyc S r j) + (wyS S r)) % 12)) 27 dX6_moveOn_26 rfl (nI_ne0 (by omega) (by omega)) (pk_rem (by omega) (by omega) (by omega)) ?_
        refine g_istore_n X [(2, .int (nI (((cyc S r j) + (wyS S r)) % 12))), (0, .ref m6), (1, .int (nI r))] 28 dX6_moveOn_27 rfl rfl (by decide) rfl ?_
        refine g_aload_n X 1 29 dX6_moveOn_28 rfl rfl rfl ?_
        refine g_iload_n X 0 30 dX6_moveOn_29 rfl rfl rfl ?_
        refine g_callVi (ws' := [(m6, .inr (6, [.int (nI th), .int (nI nw), .int (nI nr), .int (nI nf), .ref q1, .ref q2, .ref q3, .ref q4, .ref q5, .ref q6])), (q5, .inl (cI, 130, .inl (vn S)))]) X (m_X6_isHung l D cI cZ cJ m6 th nw nr nf q1 q2 q3 q4 q5 q6 ((cyc S r j + wyS S r) % 12) S hn (fun r hr => (hg.2.2 r hr).1) (Nat.mod_lt _ (by decide))) 33 [0, 1] gX6_moveOn_X6_isHung (n := 1) rfl (by decide +kernel) rfl ⟨Nat.le_of_ble_eq_true rfl, Nat.le_of_ble_eq_true rfl⟩ (ci := 6) (q0 := 0) rfl rfl rfl (Nat.le_of_ble_eq_true rfl) rfl (by decide +kernel) rfl rfl dX6_moveOn_30 rfl ⟨Nat.le_of_ble_eq_true rfl, Nat.le_of_ble_eq_true rfl⟩ ?_
        refine g_if_ne X 36 7 dX6_moveOn_33 rfl (by decide) (bn_eq0 _) (fun hh => ?_) (fun hh => ?_)
        · exact ih_j (fun i hi => if h : i ≤ j then hall i h else by rw [show i = j + 1 by omega]; have h9 : hung S nr ((cyc S r j + wyS S r) % 12) = true := (by simpa using hh); exact h9) (by rw [hnx, nfR_t (by simpa using hh)]; rfl)
        · refine g_aload_n X 1 37 dX6_moveOn_36 rfl rfl rfl ?_
          refine g_iload_n X 2 38 dX6_moveOn_37 rfl rfl rfl ?_
          refine g_iload_n X 0 39 dX6_moveOn_38 rfl rfl rfl ?_
          rw [nfR_f (by simpa using hh)] at hnx
          refine g_callVv (ws' := [(m6, .inr (6, [.int (nI th), .int (nI nw), .int (nI nr), .int (nI nf), .ref q1, .ref q2, .ref q3, .ref q4, .ref q5, .ref q6])), (q5, .inl (cI, 130, .inl (vn (reh S r ((cyc S r j + wyS S r) % 12)))))]) X (m_X6_hang l D cI cZ cJ m6 th nw nr nf q1 q2 q3 q4 q5 q6 r ((cyc S r j + wyS S r) % 12) S (by omega)) 42 [0, 1] gX6_moveOn_X6_hang (n := 2) rfl (by decide +kernel) rfl ⟨Nat.le_of_ble_eq_true rfl, Nat.le_of_ble_eq_true rfl⟩ (ci := 6) (q0 := 0) rfl rfl rfl (Nat.le_of_ble_eq_true rfl) rfl (by decide +kernel) rfl rfl dX6_moveOn_39 rfl ⟨Nat.le_of_ble_eq_true rfl, Nat.le_of_ble_eq_true rfl⟩ ?_
          exact ret _ _ _ dX6_moveOn_42 (by rw [hnx])
      · refine g_iconst X (nI 1) 18 dX6_moveOn_17 rfl (by decide +kernel) ?_
        refine g_goto X 23 dX6_moveOn_18 (by decide) ?_
        refine g_eqi (y := nI (wyS S r)) (by unfold wyS; rw [if_pos hq]) ?_
        rw [show 11 - j = (11 - (j + 1)) + 1 by omega] at hnx
        refine g_iadd X (nI ((cyc S r j) + (wyS S r))) 24 dX6_moveOn_23 rfl (nI_add _ _) ?_
        refine g_bipush X (nI 12) 26 dX6_moveOn_24 rfl (by decide +kernel) ?_
        refine g_irem X (nI (((cyc S r j) + (wyS S r)) % 12)) 27 dX6_moveOn_26 rfl (nI_ne0 (by omega) (by omega)) (pk_rem (by omega) (by omega) (by omega)) ?_
        refine g_istore_n X [(2, .int (nI (((cyc S r j) + (wyS S r)) % 12))), (0, .ref m6), (1, .int (nI r))] 28 dX6_moveOn_27 rfl rfl (by decide) rfl ?_
        refine g_aload_n X 1 29 dX6_moveOn_28 rfl rfl rfl ?_
        refine g_iload_n X 0 30 dX6_moveOn_29 rfl rfl rfl ?_
        refine g_callVi (ws' := [(m6, .inr (6, [.int (nI th), .int (nI nw), .int (nI nr), .int (nI nf), .ref q1, .ref q2, .ref q3, .ref q4, .ref q5, .ref q6])), (q5, .inl (cI, 130, .inl (vn S)))]) X (m_X6_isHung l D cI cZ cJ m6 th nw nr nf q1 q2 q3 q4 q5 q6 ((cyc S r j + wyS S r) % 12) S hn (fun r hr => (hg.2.2 r hr).1) (Nat.mod_lt _ (by decide))) 33 [0, 1] gX6_moveOn_X6_isHung (n := 1) rfl (by decide +kernel) rfl ⟨Nat.le_of_ble_eq_true rfl, Nat.le_of_ble_eq_true rfl⟩ (ci := 6) (q0 := 0) rfl rfl rfl (Nat.le_of_ble_eq_true rfl) rfl (by decide +kernel) rfl rfl dX6_moveOn_30 rfl ⟨Nat.le_of_ble_eq_true rfl, Nat.le_of_ble_eq_true rfl⟩ ?_
        refine g_if_ne X 36 7 dX6_moveOn_33 rfl (by decide) (bn_eq0 _) (fun hh => ?_) (fun hh => ?_)
        · exact ih_j (fun i hi => if h : i ≤ j then hall i h else by rw [show i = j + 1 by omega]; have h9 : hung S nr ((cyc S r j + wyS S r) % 12) = true := (by simpa using hh); exact h9) (by rw [hnx, nfR_t (by simpa using hh)]; rfl)
        · refine g_aload_n X 1 37 dX6_moveOn_36 rfl rfl rfl ?_
          refine g_iload_n X 2 38 dX6_moveOn_37 rfl rfl rfl ?_
          refine g_iload_n X 0 39 dX6_moveOn_38 rfl rfl rfl ?_
          rw [nfR_f (by simpa using hh)] at hnx
          refine g_callVv (ws' := [(m6, .inr (6, [.int (nI th), .int (nI nw), .int (nI nr), .int (nI nf), .ref q1, .ref q2, .ref q3, .ref q4, .ref q5, .ref q6])), (q5, .inl (cI, 130, .inl (vn (reh S r ((cyc S r j + wyS S r) % 12)))))]) X (m_X6_hang l D cI cZ cJ m6 th nw nr nf q1 q2 q3 q4 q5 q6 r ((cyc S r j + wyS S r) % 12) S (by omega)) 42 [0, 1] gX6_moveOn_X6_hang (n := 2) rfl (by decide +kernel) rfl ⟨Nat.le_of_ble_eq_true rfl, Nat.le_of_ble_eq_true rfl⟩ (ci := 6) (q0 := 0) rfl rfl rfl (Nat.le_of_ble_eq_true rfl) rfl (by decide +kernel) rfl rfl dX6_moveOn_39 rfl ⟨Nat.le_of_ble_eq_true rfl, Nat.le_of_ble_eq_true rfl⟩ ?_
          exact ret _ _ _ dX6_moveOn_42 (by rw [hnx])
  exact L 0 (Nat.zero_le _) (fun i hi => hung_t hk (by rw [show i = 0 by omega]; rfl)) rfl

abbrev rm_X6_work : Room := { frames := 3, cells := 0, slots := 0, locals := 67 }
set_option maxHeartbeats 4000000 in
set_option maxRecDepth 100000 in
theorem m_X6_work (l : Launch) (D : va_G) (cI cZ cJ : ClassId) (m6 th nw nr nf q1 q2 q3 q4 q5 q6 : Nat) (r : Nat) (st S : Nat → Nat) (hg : Gw S nr) (hk : r < nr) (hst : st r ≤ 30) : MV l yX6_work wsX6_work rm_X6_work D (gT cI cZ cJ) [(m6, .inr (6, [.int (nI th), .int (nI nw), .int (nI nr), .int (nI nf), .ref q1, .ref q2, .ref q3, .ref q4, .ref q5, .ref q6])), (q2, .inl (cI, 6, .inl (v6 st))), (q5, .inl (cI, 130, .inl (vn S)))] [.ref m6, .int (nI r)] (fun u => u = [(m6, .inr (6, [.int (nI th), .int (nI nw), .int (nI nr), .int (nI nf), .ref q1, .ref q2, .ref q3, .ref q4, .ref q5, .ref q6])), (q2, .inl (cI, 6, .inl (v6 st))), (q5, .inl (cI, 130, .inl (vn (wk nr r 31 (st r) S))))]) := by
  refine MV_of [(0, .ref m6), (1, .int (nI r))] (by decide) rfl (Nat.le_of_ble_eq_true rfl) rfl ?_
  intro p e s m args below meth c A Q X ret
  have hiX6 : ∀ w ∈ wsX60, w ∈ wsX6_work := (fun _ h => List.mem_cons_of_mem _ (List.mem_append_right _ h))
  have hn : nr ≤ 6 := hg.1
  refine g_aload_n X 0 1 dX6_work_0 rfl rfl rfl ?_
  refine g_get X hiX6 0 5 4 rfl rfl (by decide) (List.mem_of_getElem? (i := 1) rfl) rfl dX6_work_1 rfl ?_
  refine g_iload_n X 1 5 dX6_work_4 rfl rfl rfl ?_
  refine g_iald X 1 0 (r) (nI (st r)) 6 rfl rfl (by omega) (by decide) (v6_at (by omega)) dX6_work_5 rfl ?_
  refine g_istore_n X [(2, .int (nI (st r))), (0, .ref m6), (1, .int (nI r))] 7 dX6_work_6 rfl rfl (by decide) rfl ?_
  have L : ∀ j : Nat, j ≤ 30 → ∀ (S1 : Nat → Nat) (lf : Nat), Gw S1 nr → lf ≤ 30 - j → wk nr r (30 - j + 1) lf S1 = wk nr r 31 (st r) S → G p l e rm_X6_work s m args below meth c Q D A 5 0 0 [(m6, .inr (6, [.int (nI th), .int (nI nw), .int (nI nr), .int (nI nf), .ref q1, .ref q2, .ref q3, .ref q4, .ref q5, .ref q6])), (q2, .inl (cI, 6, .inl (v6 st))), (q5, .inl (cI, 130, .inl (vn S1)))] [(2, .int (nI lf)), (0, .ref m6), (1, .int (nI r))] 7 [] := by
    refine g_down _ ?_ ?_
    · intro S1 lf hg1 hlf hq
      have h0 : lf = 0 := by omega
      subst h0
      rw [wk_0] at hq
      refine g_iload_n X 0 8 dX6_work_7 rfl rfl rfl ?_
      refine g_if_le X 11 123 dX6_work_8 rfl (by decide) (nz_le (by omega)) (fun h8 => ?_) (fun h8 => absurd rfl h8)
      exact ret _ _ _ dX6_work_123 (by rw [← hq])
    · intro j hj ih_j S1 lf hg1 hlf hq
      refine g_iload_n X 0 8 dX6_work_7 rfl rfl rfl ?_
      refine g_if_le X 11 123 dX6_work_8 rfl (by decide) (nz_le (by omega)) (fun h8 => ?_) (fun h8 => ?_)
      · subst h8
        rw [wk_0] at hq
        exact ret _ _ _ dX6_work_123 (by rw [← hq])
      · have h3 := hg1.2.2 r hk
        have hpn := pnR_lt hg1 hk
        have hof : ofR S1 r lf ≤ lf := Nat.min_le_left _ _
        have h20 := pnR_20 hg1 hk
        have hof2 : ofR S1 r lf ≤ S1 (pnR S1 r) := Nat.min_le_right _ _
        refine g_aload_n X 1 12 dX6_work_11 rfl rfl rfl ?_
        refine g_iload_n X 2 13 dX6_work_12 rfl rfl rfl ?_
        refine g_iconst X (nI 0) 14 dX6_work_13 rfl (by decide +kernel) ?_
        refine g_callVi (ws' := [(m6, .inr (6, [.int (nI th), .int (nI nw), .int (nI nr), .int (nI nf), .ref q1, .ref q2, .ref q3, .ref q4, .ref q5, .ref q6])), (q2, .inl (cI, 6, .inl (v6 st))), (q5, .inl (cI, 130, .inl (vn S1)))]) X (m_X6_ro l D cI cZ cJ m6 th nw nr nf q1 q2 q3 q4 q5 q6 r 0 S1 (by omega)) 17 [0, 2] gX6_work_X6_ro (n := 2) rfl (by decide +kernel) rfl ⟨Nat.le_of_ble_eq_true rfl, Nat.le_of_ble_eq_true rfl⟩ (ci := 6) (q0 := 0) rfl rfl rfl (Nat.le_of_ble_eq_true rfl) rfl (by decide +kernel) rfl rfl dX6_work_14 rfl ⟨Nat.le_of_ble_eq_true rfl, Nat.le_of_ble_eq_true rfl⟩ ?_
        refine g_eqi (y := nI (S1 (100 + 5 * r))) rfl ?_
        refine g_aload_n X 1 18 dX6_work_17 rfl rfl rfl ?_
        refine g_iload_n X 2 19 dX6_work_18 rfl rfl rfl ?_
        refine g_iconst X (nI 1) 20 dX6_work_19 rfl (by decide +kernel) ?_
        refine g_callVi (ws' := [(m6, .inr (6, [.int (nI th), .int (nI nw), .int (nI nr), .int (nI nf), .ref q1, .ref q2, .ref q3, .ref q4, .ref q5, .ref q6])), (q2, .inl (cI, 6, .inl (v6 st))), (q5, .inl (cI, 130, .inl (vn S1)))]) X (m_X6_ro l D cI cZ cJ m6 th nw nr nf q1 q2 q3 q4 q5 q6 r 1 S1 (by omega)) 23 [0, 2] gX6_work_X6_ro (n := 2) rfl (by decide +kernel) rfl ⟨Nat.le_of_ble_eq_true rfl, Nat.le_of_ble_eq_true rfl⟩ (ci := 6) (q0 := 0) rfl rfl rfl (Nat.le_of_ble_eq_true rfl) rfl (by decide +kernel) rfl rfl dX6_work_20 rfl ⟨Nat.le_of_ble_eq_true rfl, Nat.le_of_ble_eq_true rfl⟩ ?_
        refine g_callSi (ws' := [(m6, .inr (6, [.int (nI th), .int (nI nw), .int (nI nr), .int (nI nf), .ref q1, .ref q2, .ref q3, .ref q4, .ref q5, .ref q6])), (q2, .inl (cI, 6, .inl (v6 st))), (q5, .inl (cI, 130, .inl (vn S1)))]) X (m_X6_pane l D cI cZ cJ (S1 (100 + 5 * r)) (S1 (100 + 5 * r + 1))) 26 [] gX6_work_X6_pane (n := 2) rfl (by decide +kernel) rfl ⟨Nat.le_of_ble_eq_true rfl, Nat.le_of_ble_eq_true rfl⟩ rfl (Nat.le_of_ble_eq_true rfl) rfl (by decide +kernel) rfl rfl dX6_work_23 rfl ⟨Nat.le_of_ble_eq_true rfl, Nat.le_of_ble_eq_true rfl⟩ ?_
        refine g_eqi (y := nI (pnR S1 r)) rfl ?_
        refine g_istore_n X [(3, .int (nI (pnR S1 r))), (2, .int (nI lf)), (0, .ref m6), (1, .int (nI r))] 27 dX6_work_26 rfl rfl (by decide) rfl ?_
        refine g_iload_n X 1 28 dX6_work_27 rfl rfl rfl ?_
        refine g_aload_n X 2 29 dX6_work_28 rfl rfl rfl ?_
        refine g_get X hiX6 0 8 32 rfl rfl (by decide) (List.mem_of_getElem? (i := 2) rfl) rfl dX6_work_29 rfl ?_
        refine g_iload_n X 0 33 dX6_work_32 rfl rfl rfl ?_
        refine g_iald X 2 0 (pnR S1 r) (nI (S1 (pnR S1 r))) 34 rfl rfl (by omega) (by decide) (vn_at (by omega)) dX6_work_33 rfl ?_
        refine g_min X (nI (ofR S1 r lf)) 37 (List.mem_of_getElem? (i := 3) rfl) (List.mem_of_getElem? (i := 4) rfl) (List.mem_of_getElem? (i := 5) rfl) (List.mem_of_getElem? (i := 6) rfl) (Nat.le_of_ble_eq_true rfl) (Nat.le_of_ble_eq_true rfl) (Nat.zero_le _) (Nat.zero_le _) (nI_min (a := lf) (b := S1 (pnR S1 r)) (by omega) (by omega)) dX6_work_34 rfl ?_
        refine g_istore X [(4, .int (nI (ofR S1 r lf))), (3, .int (nI (pnR S1 r))), (2, .int (nI lf)), (0, .ref m6), (1, .int (nI r))] 39 dX6_work_37 rfl (by decide) rfl ?_
        refine g_aload_n X 3 40 dX6_work_39 rfl rfl rfl ?_
        refine g_get X hiX6 0 8 43 rfl rfl (by decide) (List.mem_of_getElem? (i := 2) rfl) rfl dX6_work_40 rfl ?_
        refine g_iload_n X 1 44 dX6_work_43 rfl rfl rfl ?_
        refine g_dup2 X 45 dX6_work_44 rfl rfl rfl ?_
        refine g_iald X 2 0 (pnR S1 r) (nI (S1 (pnR S1 r))) 46 rfl rfl (by omega) (by decide) (vn_at (by omega)) dX6_work_45 rfl ?_
        refine g_iload X 0 48 dX6_work_46 rfl rfl ?_
        refine g_isub X (nI ((S1 (pnR S1 r)) - (ofR S1 r lf))) 49 dX6_work_48 rfl (pk_sub (by omega)) ?_
        refine g_iast (ws' := [(m6, .inr (6, [.int (nI th), .int (nI nw), .int (nI nr), .int (nI nf), .ref q1, .ref q2, .ref q3, .ref q4, .ref q5, .ref q6])), (q2, .inl (cI, 6, .inl (v6 st))), (q5, .inl (cI, 130, .inl (vn (up S1 (pnR S1 r) (S1 (pnR S1 r) - ofR S1 r lf)))))]) X 2 0 (pnR S1 r) (vn (up S1 (pnR S1 r) (S1 (pnR S1 r) - ofR S1 r lf))) 50 rfl rfl (by omega) (by decide) (vn_up (by omega)) dX6_work_49 rfl rfl ?_
        refine g_iload_n X 2 51 dX6_work_50 rfl rfl rfl ?_
        refine g_iload X 0 53 dX6_work_51 rfl rfl ?_
        refine g_isub X (nI (lf - (ofR S1 r lf))) 54 dX6_work_53 rfl (pk_sub (by omega)) ?_
        refine g_istore_n X [(2, .int (nI (lf - (ofR S1 r lf)))), (4, .int (nI (ofR S1 r lf))), (3, .int (nI (pnR S1 r))), (0, .ref m6), (1, .int (nI r))] 55 dX6_work_54 rfl rfl (by decide) rfl ?_
        refine g_aload_n X 3 56 dX6_work_55 rfl rfl rfl ?_
        refine g_iload_n X 4 57 dX6_work_56 rfl rfl rfl ?_
        refine g_iconst X (nI 3) 58 dX6_work_57 rfl (by decide +kernel) ?_
        refine g_aload_n X 3 59 dX6_work_58 rfl rfl rfl ?_
        refine g_iload_n X 4 60 dX6_work_59 rfl rfl rfl ?_
        refine g_iconst X (nI 3) 61 dX6_work_60 rfl (by decide +kernel) ?_
        refine g_callVi (ws' := [(m6, .inr (6, [.int (nI th), .int (nI nw), .int (nI nr), .int (nI nf), .ref q1, .ref q2, .ref q3, .ref q4, .ref q5, .ref q6])), (q2, .inl (cI, 6, .inl (v6 st))), (q5, .inl (cI, 130, .inl (vn (up S1 (pnR S1 r) (S1 (pnR S1 r) - ofR S1 r lf)))))]) X (m_X6_ro l D cI cZ cJ m6 th nw nr nf q1 q2 q3 q4 q5 q6 r 3 (up S1 (pnR S1 r) (S1 (pnR S1 r) - ofR S1 r lf)) (by omega)) 64 [0, 2] gX6_work_X6_ro (n := 2) rfl (by decide +kernel) rfl ⟨Nat.le_of_ble_eq_true rfl, Nat.le_of_ble_eq_true rfl⟩ (ci := 6) (q0 := 0) rfl rfl rfl (Nat.le_of_ble_eq_true rfl) rfl (by decide +kernel) rfl rfl dX6_work_61 rfl ⟨Nat.le_of_ble_eq_true rfl, Nat.le_of_ble_eq_true rfl⟩ ?_
        refine g_eqi (y := nI (S1 (100 + 5 * r + 3))) (congrArg nI (up_n (by omega))) ?_
        refine g_iload X 1 66 dX6_work_64 rfl rfl ?_
        refine g_iadd X (nI ((S1 (100 + 5 * r + 3)) + (ofR S1 r lf))) 67 dX6_work_66 rfl (nI_add _ _) ?_
        refine g_callVv (ws' := [(m6, .inr (6, [.int (nI th), .int (nI nw), .int (nI nr), .int (nI nf), .ref q1, .ref q2, .ref q3, .ref q4, .ref q5, .ref q6])), (q2, .inl (cI, 6, .inl (v6 st))), (q5, .inl (cI, 130, .inl (vn (tkS S1 r lf))))]) X (m_X6_let l D cI cZ cJ m6 th nw nr nf q1 q2 q3 q4 q5 q6 r 3 (S1 (100 + 5 * r + 3) + ofR S1 r lf) (up S1 (pnR S1 r) (S1 (pnR S1 r) - ofR S1 r lf)) (by omega)) 70 [0, 2] gX6_work_X6_let (n := 3) rfl (by decide +kernel) rfl ⟨Nat.le_of_ble_eq_true rfl, Nat.le_of_ble_eq_true rfl⟩ (ci := 6) (q0 := 0) rfl rfl rfl (Nat.le_of_ble_eq_true rfl) rfl (by decide +kernel) rfl rfl dX6_work_67 rfl ⟨Nat.le_of_ble_eq_true rfl, Nat.le_of_ble_eq_true rfl⟩ ?_
        have hg2 := tkS_gw (lf := lf) hg1 hk
        have e1 : tkS S1 r lf (100 + 5 * r + 1) = S1 (100 + 5 * r + 1) := tkS_hi hg1 hk (by omega) (by omega)
        refine g_iload_n X 0 71 dX6_work_70 rfl rfl rfl ?_
        refine g_if_ne X 74 75 dX6_work_71 rfl (by decide) (nz_eq (by omega)) (fun hz => ?_) (fun hz => ?_)
        · refine g_aload_n X 3 76 dX6_work_75 rfl rfl rfl ?_
          refine g_iload_n X 4 77 dX6_work_76 rfl rfl rfl ?_
          refine g_iconst X (nI 1) 78 dX6_work_77 rfl (by decide +kernel) ?_
          refine g_callVi (ws' := [(m6, .inr (6, [.int (nI th), .int (nI nw), .int (nI nr), .int (nI nf), .ref q1, .ref q2, .ref q3, .ref q4, .ref q5, .ref q6])), (q2, .inl (cI, 6, .inl (v6 st))), (q5, .inl (cI, 130, .inl (vn (tkS S1 r lf))))]) X (m_X6_ro l D cI cZ cJ m6 th nw nr nf q1 q2 q3 q4 q5 q6 r 1 (tkS S1 r lf) (by omega)) 81 [0, 2] gX6_work_X6_ro (n := 2) rfl (by decide +kernel) rfl ⟨Nat.le_of_ble_eq_true rfl, Nat.le_of_ble_eq_true rfl⟩ (ci := 6) (q0 := 0) rfl rfl rfl (Nat.le_of_ble_eq_true rfl) rfl (by decide +kernel) rfl rfl dX6_work_78 rfl ⟨Nat.le_of_ble_eq_true rfl, Nat.le_of_ble_eq_true rfl⟩ ?_
          refine g_eqi (y := nI (S1 (100 + 5 * r + 1))) (congrArg nI e1) ?_
          refine g_bipush X (nI 7) 83 dX6_work_81 rfl (by decide +kernel) ?_
          refine g_icmp_ge X 86 106 dX6_work_83 rfl (by decide) (nI_leI (by omega) (by omega)) (fun h7 => ?_) (fun h7 => ?_)
          · refine g_iload_n X 0 107 dX6_work_106 rfl rfl rfl ?_
            refine g_iconst X (nI 3) 108 dX6_work_107 rfl (by decide +kernel) ?_
            refine g_icmp_ge X 111 112 dX6_work_108 rfl (by decide) (nI_leI (by omega) (by omega)) (fun h3l => ?_) (fun h3l => ?_)
            · refine g_aload_n X 3 113 dX6_work_112 rfl rfl rfl ?_
              refine g_iload_n X 4 114 dX6_work_113 rfl rfl rfl ?_
              refine g_callVv (ws' := [(m6, .inr (6, [.int (nI th), .int (nI nw), .int (nI nr), .int (nI nf), .ref q1, .ref q2, .ref q3, .ref q4, .ref q5, .ref q6])), (q2, .inl (cI, 6, .inl (v6 st))), (q5, .inl (cI, 130, .inl (vn (reh (tkS S1 r lf) r (nfc (tkS S1 r lf) nr r)))))]) X (m_X6_moveOn l D cI cZ cJ m6 th nw nr nf q1 q2 q3 q4 q5 q6 r (tkS S1 r lf) hg2 hk) 117 [0, 2] gX6_work_X6_moveOn (n := 1) rfl (by decide +kernel) rfl ⟨Nat.le_of_ble_eq_true rfl, Nat.le_of_ble_eq_true rfl⟩ (ci := 6) (q0 := 0) rfl rfl rfl (Nat.le_of_ble_eq_true rfl) rfl (by decide +kernel) rfl rfl dX6_work_114 rfl ⟨Nat.le_of_ble_eq_true rfl, Nat.le_of_ble_eq_true rfl⟩ ?_
              refine g_iinc X 0 (nI (lf - (ofR S1 r lf) - 3)) [(2, .int (nI (lf - (ofR S1 r lf) - 3))), (4, .int (nI (ofR S1 r lf))), (3, .int (nI (pnR S1 r))), (0, .ref m6), (1, .int (nI r))] 120 dX6_work_117 rfl rfl (nI_decN (k := 3) (by omega)) (by decide) rfl ?_
              refine g_goto X 7 dX6_work_120 (by decide) ?_
              refine g_lv (lv' := [(2, .int (nI (lf - (ofR S1 r lf) - 3))), (0, .ref m6), (1, .int (nI r))]) [0, 3, 4] rfl ?_
              exact ih_j _ _ (reh_gw hg2 (nfR_lt (hg2.2.2 r hk).1 _ _)) (by omega) (by rw [show 30 - (j + 1) + 1 = 30 - j by omega, ← wk_move hz (by omega) (by omega)]; exact hq)
            · exact ret _ _ _ dX6_work_111 (by rw [← hq, wk_end hz (by omega) (by omega)])
          · refine g_aload_n X 3 87 dX6_work_86 rfl rfl rfl ?_
            refine g_iload_n X 4 88 dX6_work_87 rfl rfl rfl ?_
            refine g_iconst X (nI 1) 89 dX6_work_88 rfl (by decide +kernel) ?_
            refine g_aload_n X 3 90 dX6_work_89 rfl rfl rfl ?_
            refine g_iload_n X 4 91 dX6_work_90 rfl rfl rfl ?_
            refine g_iconst X (nI 1) 92 dX6_work_91 rfl (by decide +kernel) ?_
            refine g_callVi (ws' := [(m6, .inr (6, [.int (nI th), .int (nI nw), .int (nI nr), .int (nI nf), .ref q1, .ref q2, .ref q3, .ref q4, .ref q5, .ref q6])), (q2, .inl (cI, 6, .inl (v6 st))), (q5, .inl (cI, 130, .inl (vn (tkS S1 r lf))))]) X (m_X6_ro l D cI cZ cJ m6 th nw nr nf q1 q2 q3 q4 q5 q6 r 1 (tkS S1 r lf) (by omega)) 95 [0, 2] gX6_work_X6_ro (n := 2) rfl (by decide +kernel) rfl ⟨Nat.le_of_ble_eq_true rfl, Nat.le_of_ble_eq_true rfl⟩ (ci := 6) (q0 := 0) rfl rfl rfl (Nat.le_of_ble_eq_true rfl) rfl (by decide +kernel) rfl rfl dX6_work_92 rfl ⟨Nat.le_of_ble_eq_true rfl, Nat.le_of_ble_eq_true rfl⟩ ?_
            refine g_iconst X (nI 1) 96 dX6_work_95 rfl (by decide +kernel) ?_
            refine g_iadd X (nI (((tkS S1 r lf) (100 + 5 * r + 1)) + 1)) 97 dX6_work_96 rfl (nI_add _ _) ?_
            refine g_callVv (ws' := [(m6, .inr (6, [.int (nI th), .int (nI nw), .int (nI nr), .int (nI nf), .ref q1, .ref q2, .ref q3, .ref q4, .ref q5, .ref q6])), (q2, .inl (cI, 6, .inl (v6 st))), (q5, .inl (cI, 130, .inl (vn (dnS (tkS S1 r lf) r))))]) X (m_X6_let l D cI cZ cJ m6 th nw nr nf q1 q2 q3 q4 q5 q6 r 1 ((tkS S1 r lf) (100 + 5 * r + 1) + 1) (tkS S1 r lf) (by omega)) 100 [0, 2] gX6_work_X6_let (n := 3) rfl (by decide +kernel) rfl ⟨Nat.le_of_ble_eq_true rfl, Nat.le_of_ble_eq_true rfl⟩ (ci := 6) (q0 := 0) rfl rfl rfl (Nat.le_of_ble_eq_true rfl) rfl (by decide +kernel) rfl rfl dX6_work_97 rfl ⟨Nat.le_of_ble_eq_true rfl, Nat.le_of_ble_eq_true rfl⟩ ?_
            refine g_iinc X 0 (nI (lf - (ofR S1 r lf) - 1)) [(2, .int (nI (lf - (ofR S1 r lf) - 1))), (4, .int (nI (ofR S1 r lf))), (3, .int (nI (pnR S1 r))), (0, .ref m6), (1, .int (nI r))] 103 dX6_work_100 rfl rfl (nI_dec (by omega)) (by decide) rfl ?_
            refine g_goto X 120 dX6_work_103 (by decide) ?_
            refine g_goto X 7 dX6_work_120 (by decide) ?_
            refine g_lv (lv' := [(2, .int (nI (lf - (ofR S1 r lf) - 1))), (0, .ref m6), (1, .int (nI r))]) [0, 3, 4] rfl ?_
            exact ih_j _ _ (dnS_gw hg2 (by omega)) (by omega) (by rw [show 30 - (j + 1) + 1 = 30 - j by omega, ← wk_down hz (by omega)]; exact hq)
        · exact ret _ _ _ dX6_work_74 (by rw [← hq, wk_stop hz])
  exact L 0 (Nat.zero_le _) S (st r) hg (by omega) rfl

abbrev rm_X6_dayOn : Room := { frames := 4, cells := 0, slots := 0, locals := 91 }
set_option maxHeartbeats 4000000 in
set_option maxRecDepth 100000 in
theorem m_X6_dayOn (l : Launch) (D : va_G) (cI cZ cJ : ClassId) (m6 th nw nr nf q1 q2 q3 q4 q5 q6 : Nat) (T st fe fo S : Nat → Nat) (hg : Gd S nr) (hs : stOk T st fe fo nw nr nf) (hd : S 0 < 2 ^ 29) : MV l yX6_dayOn wsX6_dayOn rm_X6_dayOn D (gT cI cZ cJ) [(m6, .inr (6, [.int (nI th), .int (nI nw), .int (nI nr), .int (nI nf), .ref q1, .ref q2, .ref q3, .ref q4, .ref q5, .ref q6])), (q1, .inl (cI, 30, .inl (v30 T))), (q2, .inl (cI, 6, .inl (v6 st))), (q3, .inl (cI, 4, .inl (v4 fe))), (q4, .inl (cI, 4, .inl (v4 fo))), (q5, .inl (cI, 130, .inl (vn S)))] [.ref m6] (fun u => u = [(m6, .inr (6, [.int (nI th), .int (nI nw), .int (nI nr), .int (nI nf), .ref q1, .ref q2, .ref q3, .ref q4, .ref q5, .ref q6])), (q1, .inl (cI, 30, .inl (v30 T))), (q2, .inl (cI, 6, .inl (v6 st))), (q3, .inl (cI, 4, .inl (v4 fe))), (q4, .inl (cI, 4, .inl (v4 fo))), (q5, .inl (cI, 130, .inl (vn (dayS T st fe fo nw nr nf S))))]) := by
  refine MV_of [(0, .ref m6)] (by decide) rfl (Nat.le_of_ble_eq_true rfl) rfl ?_
  intro p e s m args below meth c A Q X ret
  have hiX6 : ∀ w ∈ wsX60, w ∈ wsX6_dayOn := (fun _ h => List.mem_cons_of_mem _ (List.mem_append_right _ h))
  have hg2 := gt_gw hg.1
  have hw := hg.2
  refine g_iconst X (nI 0) 1 dX6_dayOn_0 rfl (by decide +kernel) ?_
  refine g_istore_n X [(1, .int (nI 0)), (0, .ref m6)] 2 dX6_dayOn_1 rfl rfl (by decide) rfl ?_
  have L : ∀ i : Nat, i ≤ 12 → G p l e rm_X6_dayOn s m args below meth c Q D A 4 0 0 [(m6, .inr (6, [.int (nI th), .int (nI nw), .int (nI nr), .int (nI nf), .ref q1, .ref q2, .ref q3, .ref q4, .ref q5, .ref q6])), (q1, .inl (cI, 30, .inl (v30 T))), (q2, .inl (cI, 6, .inl (v6 st))), (q3, .inl (cI, 4, .inl (v4 fe))), (q4, .inl (cI, 4, .inl (v4 fo))), (q5, .inl (cI, 130, .inl (vn (gtU (i * 8) S))))] [(1, .int (nI i)), (0, .ref m6)] 2 [] := by
    refine g_down _ ?_ ?_
    · have hn6 : nr ≤ 6 := hg.1.1
      refine g_iload_n X 0 3 dX6_dayOn_2 rfl rfl rfl ?_
      refine g_bipush X (nI 12) 5 dX6_dayOn_3 rfl (by decide +kernel) ?_
      refine g_icmp_ge X 8 63 dX6_dayOn_5 rfl (by decide) (nI_leI (by omega) (by omega)) (fun h5 => ?_) (fun h5 => absurd (Nat.le_refl _) h5)
      refine g_eqw (ws' := [(m6, .inr (6, [.int (nI th), .int (nI nw), .int (nI nr), .int (nI nf), .ref q1, .ref q2, .ref q3, .ref q4, .ref q5, .ref q6])), (q1, .inl (cI, 30, .inl (v30 T))), (q2, .inl (cI, 6, .inl (v6 st))), (q3, .inl (cI, 4, .inl (v4 fe))), (q4, .inl (cI, 4, .inl (v4 fo))), (q5, .inl (cI, 130, .inl (vn (gt S))))]) rfl ?_
      refine g_aload_n X 1 64 dX6_dayOn_63 rfl rfl rfl ?_
      refine g_aload_n X 1 65 dX6_dayOn_64 rfl rfl rfl ?_
      refine g_get X hiX6 0 8 68 rfl rfl (by decide) (List.mem_of_getElem? (i := 1) rfl) rfl dX6_dayOn_65 rfl ?_
      refine g_iconst X (nI 0) 69 dX6_dayOn_68 rfl (by decide +kernel) ?_
      refine g_iald X 5 0 (0) (nI (gt S 0)) 70 rfl rfl (by omega) (by decide) (vn_at (by decide)) dX6_dayOn_69 rfl ?_
      refine g_callVi (ws' := [(m6, .inr (6, [.int (nI th), .int (nI nw), .int (nI nr), .int (nI nf), .ref q1, .ref q2, .ref q3, .ref q4, .ref q5, .ref q6])), (q1, .inl (cI, 30, .inl (v30 T))), (q2, .inl (cI, 6, .inl (v6 st))), (q3, .inl (cI, 4, .inl (v4 fe))), (q4, .inl (cI, 4, .inl (v4 fo))), (q5, .inl (cI, 130, .inl (vn (gt S))))]) X (m_X6_isFeastOn l D cI cZ cJ m6 th nw nr nf q1 q2 q3 q4 q5 q6 (gt S 0) fe fo hs.2.2.2.1 (by rw [gt_0]; omega) hs.2.2.2.2) 73 [0, 3, 4] gX6_dayOn_X6_isFeastOn (n := 1) rfl (by decide +kernel) rfl ⟨Nat.le_of_ble_eq_true rfl, Nat.le_of_ble_eq_true rfl⟩ (ci := 6) (q0 := 0) rfl rfl rfl (Nat.le_of_ble_eq_true rfl) rfl (by decide +kernel) rfl rfl dX6_dayOn_70 rfl ⟨Nat.le_of_ble_eq_true rfl, Nat.le_of_ble_eq_true rfl⟩ ?_
      refine g_if_eq X 76 102 dX6_dayOn_73 rfl (by decide) (bn_eq0 _) (fun hq => ?_) (fun hq => ?_)
      · refine g_iconst X (nI 0) 103 dX6_dayOn_102 rfl (by decide +kernel) ?_
        refine g_istore_n X [(1, .int (nI 0)), (0, .ref m6)] 104 dX6_dayOn_103 rfl rfl (by decide) rfl ?_
        have R : ∀ r : Nat, r ≤ nr → G p l e rm_X6_dayOn s m args below meth c Q D A 4 0 0 [(m6, .inr (6, [.int (nI th), .int (nI nw), .int (nI nr), .int (nI nf), .ref q1, .ref q2, .ref q3, .ref q4, .ref q5, .ref q6])), (q1, .inl (cI, 30, .inl (v30 T))), (q2, .inl (cI, 6, .inl (v6 st))), (q3, .inl (cI, 4, .inl (v4 fe))), (q4, .inl (cI, 4, .inl (v4 fo))), (q5, .inl (cI, 130, .inl (vn (wkA nr st (gt S) r))))] [(1, .int (nI r)), (0, .ref m6)] 104 [] := by
          refine g_down _ ?_ ?_
          · refine g_iload_n X 0 105 dX6_dayOn_104 rfl rfl rfl ?_
            refine g_aload_n X 1 106 dX6_dayOn_105 rfl rfl rfl ?_
            refine g_get X hiX6 0 2 109 rfl rfl (by decide) (List.mem_of_getElem? (i := 6) rfl) rfl dX6_dayOn_106 rfl ?_
            refine g_icmp_ge X 112 123 dX6_dayOn_109 rfl (by decide) (nI_leI (by omega) (by omega)) (fun h109 => ?_) (fun h109 => absurd (Nat.le_refl _) h109)
            refine g_aload_n X 1 124 dX6_dayOn_123 rfl rfl rfl ?_
            refine g_get X hiX6 0 8 127 rfl rfl (by decide) (List.mem_of_getElem? (i := 1) rfl) rfl dX6_dayOn_124 rfl ?_
            refine g_iconst X (nI 0) 128 dX6_dayOn_127 rfl (by decide +kernel) ?_
            refine g_dup2 X 129 dX6_dayOn_128 rfl rfl rfl ?_
            refine g_iald X 5 0 (0) (nI (wkA nr st (gt S) nr 0)) 130 rfl rfl (by omega) (by decide) (vn_at (by decide)) dX6_dayOn_129 rfl ?_
            refine g_iconst X (nI 1) 131 dX6_dayOn_130 rfl (by decide +kernel) ?_
            refine g_iadd X (nI ((wkA nr st (gt S) nr 0) + 1)) 132 dX6_dayOn_131 rfl (nI_add _ _) ?_
            refine g_iast (ws' := [(m6, .inr (6, [.int (nI th), .int (nI nw), .int (nI nr), .int (nI nf), .ref q1, .ref q2, .ref q3, .ref q4, .ref q5, .ref q6])), (q1, .inl (cI, 30, .inl (v30 T))), (q2, .inl (cI, 6, .inl (v6 st))), (q3, .inl (cI, 4, .inl (v4 fe))), (q4, .inl (cI, 4, .inl (v4 fo))), (q5, .inl (cI, 130, .inl (vn (up (wkA nr st (gt S) nr) 0 (wkA nr st (gt S) nr 0 + 1)))))]) X 5 0 (0) (vn (up (wkA nr st (gt S) nr) 0 (wkA nr st (gt S) nr 0 + 1))) 133 rfl rfl (by omega) (by decide) (vn_up (by decide)) dX6_dayOn_132 rfl rfl ?_
            exact ret _ _ _ dX6_dayOn_133 (by rw [dayS_w hq]; rfl)
          · intro r hr ih_r 
            have hn6 : nr ≤ 6 := hg.1.1
            refine g_iload_n X 0 105 dX6_dayOn_104 rfl rfl rfl ?_
            refine g_aload_n X 1 106 dX6_dayOn_105 rfl rfl rfl ?_
            refine g_get X hiX6 0 2 109 rfl rfl (by decide) (List.mem_of_getElem? (i := 6) rfl) rfl dX6_dayOn_106 rfl ?_
            refine g_icmp_ge X 112 123 dX6_dayOn_109 rfl (by decide) (nI_leI (by omega) (by omega)) (fun h109 => absurd h109 (by omega)) (fun h109 => ?_)
            refine g_aload_n X 1 113 dX6_dayOn_112 rfl rfl rfl ?_
            refine g_iload_n X 0 114 dX6_dayOn_113 rfl rfl rfl ?_
            refine g_callVv (ws' := [(m6, .inr (6, [.int (nI th), .int (nI nw), .int (nI nr), .int (nI nf), .ref q1, .ref q2, .ref q3, .ref q4, .ref q5, .ref q6])), (q1, .inl (cI, 30, .inl (v30 T))), (q2, .inl (cI, 6, .inl (v6 st))), (q3, .inl (cI, 4, .inl (v4 fe))), (q4, .inl (cI, 4, .inl (v4 fo))), (q5, .inl (cI, 130, .inl (vn (wk nr r 31 (st r) (wkA nr st (gt S) r)))))]) X (m_X6_work l D cI cZ cJ m6 th nw nr nf q1 q2 q3 q4 q5 q6 r st (wkA nr st (gt S) r) (wkA_gw hg2 r (by omega)) hr (hs.2.2.1 r hr)) 117 [0, 2, 5] gX6_dayOn_X6_work (n := 1) rfl (by decide +kernel) rfl ⟨Nat.le_of_ble_eq_true rfl, Nat.le_of_ble_eq_true rfl⟩ (ci := 6) (q0 := 0) rfl rfl rfl (Nat.le_of_ble_eq_true rfl) rfl (by decide +kernel) rfl rfl dX6_dayOn_114 rfl ⟨Nat.le_of_ble_eq_true rfl, Nat.le_of_ble_eq_true rfl⟩ ?_
            refine g_iinc X 0 (nI (r + 1)) [(1, .int (nI (r + 1))), (0, .ref m6)] 120 dX6_dayOn_117 rfl rfl (nI_inc _) (by decide) rfl ?_
            refine g_goto X 104 dX6_dayOn_120 (by decide) ?_
            exact ih_r
        exact R 0 (Nat.zero_le _)
      · refine g_aload_n X 1 77 dX6_dayOn_76 rfl rfl rfl ?_
        refine g_get X hiX6 0 8 80 rfl rfl (by decide) (List.mem_of_getElem? (i := 1) rfl) rfl dX6_dayOn_77 rfl ?_
        refine g_iconst X (nI 2) 81 dX6_dayOn_80 rfl (by decide +kernel) ?_
        refine g_dup2 X 82 dX6_dayOn_81 rfl rfl rfl ?_
        refine g_iald X 5 0 (2) (nI (gt S 2)) 83 rfl rfl (by omega) (by decide) (vn_at (by decide)) dX6_dayOn_82 rfl ?_
        refine g_aload_n X 1 84 dX6_dayOn_83 rfl rfl rfl ?_
        refine g_callVi (ws' := [(m6, .inr (6, [.int (nI th), .int (nI nw), .int (nI nr), .int (nI nf), .ref q1, .ref q2, .ref q3, .ref q4, .ref q5, .ref q6])), (q1, .inl (cI, 30, .inl (v30 T))), (q2, .inl (cI, 6, .inl (v6 st))), (q3, .inl (cI, 4, .inl (v4 fe))), (q4, .inl (cI, 4, .inl (v4 fo))), (q5, .inl (cI, 130, .inl (vn (gt S))))]) X (m_X6_allBring l D cI cZ cJ m6 th nw nr nf q1 q2 q3 q4 q5 q6 T (gt S) hg2.2.1 hs.1 hs.2.1) 87 [0, 1, 5] gX6_dayOn_X6_allBring (n := 0) rfl (by decide +kernel) rfl ⟨Nat.le_of_ble_eq_true rfl, Nat.le_of_ble_eq_true rfl⟩ (ci := 6) (q0 := 0) rfl rfl rfl (Nat.le_of_ble_eq_true rfl) rfl (by decide +kernel) rfl rfl dX6_dayOn_84 rfl ⟨Nat.le_of_ble_eq_true rfl, Nat.le_of_ble_eq_true rfl⟩ ?_
        refine g_iadd X (nI ((gt S 2) + (allB (gt S) T nw))) 88 dX6_dayOn_87 rfl (nI_add _ _) ?_
        refine g_iast (ws' := [(m6, .inr (6, [.int (nI th), .int (nI nw), .int (nI nr), .int (nI nf), .ref q1, .ref q2, .ref q3, .ref q4, .ref q5, .ref q6])), (q1, .inl (cI, 30, .inl (v30 T))), (q2, .inl (cI, 6, .inl (v6 st))), (q3, .inl (cI, 4, .inl (v4 fe))), (q4, .inl (cI, 4, .inl (v4 fo))), (q5, .inl (cI, 130, .inl (vn (up (gt S) 2 (gt S 2 + allB (gt S) T nw)))))]) X 5 0 (2) (vn (up (gt S) 2 (gt S 2 + allB (gt S) T nw))) 89 rfl rfl (by omega) (by decide) (vn_up (by decide)) dX6_dayOn_88 rfl rfl ?_
        refine g_aload_n X 1 90 dX6_dayOn_89 rfl rfl rfl ?_
        refine g_get X hiX6 0 8 93 rfl rfl (by decide) (List.mem_of_getElem? (i := 1) rfl) rfl dX6_dayOn_90 rfl ?_
        refine g_iconst X (nI 3) 94 dX6_dayOn_93 rfl (by decide +kernel) ?_
        refine g_dup2 X 95 dX6_dayOn_94 rfl rfl rfl ?_
        refine g_iald X 5 0 (3) (nI (gt S 3)) 96 rfl rfl (by omega) (by decide) ((vn_at (by decide)).trans (congrArg nI (up_n (by decide)))) dX6_dayOn_95 rfl ?_
        refine g_iconst X (nI 1) 97 dX6_dayOn_96 rfl (by decide +kernel) ?_
        refine g_iadd X (nI ((gt S 3) + 1)) 98 dX6_dayOn_97 rfl (nI_add _ _) ?_
        refine g_iast (ws' := [(m6, .inr (6, [.int (nI th), .int (nI nw), .int (nI nr), .int (nI nf), .ref q1, .ref q2, .ref q3, .ref q4, .ref q5, .ref q6])), (q1, .inl (cI, 30, .inl (v30 T))), (q2, .inl (cI, 6, .inl (v6 st))), (q3, .inl (cI, 4, .inl (v4 fe))), (q4, .inl (cI, 4, .inl (v4 fo))), (q5, .inl (cI, 130, .inl (vn (up (up (gt S) 2 (gt S 2 + allB (gt S) T nw)) 3 (gt S 3 + 1)))))]) X 5 0 (3) (vn (up (up (gt S) 2 (gt S 2 + allB (gt S) T nw)) 3 (gt S 3 + 1))) 99 rfl rfl (by omega) (by decide) (vn_up (by decide)) dX6_dayOn_98 rfl rfl ?_
        refine g_goto X 123 dX6_dayOn_99 (by decide) ?_
        refine g_aload_n X 1 124 dX6_dayOn_123 rfl rfl rfl ?_
        refine g_get X hiX6 0 8 127 rfl rfl (by decide) (List.mem_of_getElem? (i := 1) rfl) rfl dX6_dayOn_124 rfl ?_
        refine g_iconst X (nI 0) 128 dX6_dayOn_127 rfl (by decide +kernel) ?_
        refine g_dup2 X 129 dX6_dayOn_128 rfl rfl rfl ?_
        refine g_iald X 5 0 (0) (nI (gt S 0)) 130 rfl rfl (by omega) (by decide) ((vn_at (by decide)).trans (congrArg nI ((up_n (by decide)).trans (up_n (by decide))))) dX6_dayOn_129 rfl ?_
        refine g_iconst X (nI 1) 131 dX6_dayOn_130 rfl (by decide +kernel) ?_
        refine g_iadd X (nI ((gt S 0) + 1)) 132 dX6_dayOn_131 rfl (nI_add _ _) ?_
        refine g_iast (ws' := [(m6, .inr (6, [.int (nI th), .int (nI nw), .int (nI nr), .int (nI nf), .ref q1, .ref q2, .ref q3, .ref q4, .ref q5, .ref q6])), (q1, .inl (cI, 30, .inl (v30 T))), (q2, .inl (cI, 6, .inl (v6 st))), (q3, .inl (cI, 4, .inl (v4 fe))), (q4, .inl (cI, 4, .inl (v4 fo))), (q5, .inl (cI, 130, .inl (vn (up (up (up (gt S) 2 (gt S 2 + allB (gt S) T nw)) 3 (gt S 3 + 1)) 0 (gt S 0 + 1)))))]) X 5 0 (0) (vn (up (up (up (gt S) 2 (gt S 2 + allB (gt S) T nw)) 3 (gt S 3 + 1)) 0 (gt S 0 + 1))) 133 rfl rfl (by omega) (by decide) (vn_up (by decide)) dX6_dayOn_132 rfl rfl ?_
        exact ret _ _ _ dX6_dayOn_133 (by rw [dayS_f (by simpa using hq)]; rfl)
    · intro i hi ih_i 
      refine g_iload_n X 0 3 dX6_dayOn_2 rfl rfl rfl ?_
      refine g_bipush X (nI 12) 5 dX6_dayOn_3 rfl (by decide +kernel) ?_
      refine g_icmp_ge X 8 63 dX6_dayOn_5 rfl (by decide) (nI_leI (by omega) (by omega)) (fun h5 => absurd h5 (by omega)) (fun h5 => ?_)
      refine g_iconst X (nI 1) 9 dX6_dayOn_8 rfl (by decide +kernel) ?_
      refine g_aload_n X 1 10 dX6_dayOn_9 rfl rfl rfl ?_
      refine g_iload_n X 0 11 dX6_dayOn_10 rfl rfl rfl ?_
      refine g_callVi (ws' := [(m6, .inr (6, [.int (nI th), .int (nI nw), .int (nI nr), .int (nI nf), .ref q1, .ref q2, .ref q3, .ref q4, .ref q5, .ref q6])), (q1, .inl (cI, 30, .inl (v30 T))), (q2, .inl (cI, 6, .inl (v6 st))), (q3, .inl (cI, 4, .inl (v4 fe))), (q4, .inl (cI, 4, .inl (v4 fo))), (q5, .inl (cI, 130, .inl (vn (gtU (i * 8) S))))]) X (m_X6_blown l D cI cZ cJ m6 th nw nr nf q1 q2 q3 q4 q5 q6 i (gtU (i * 8) S) hi (by rw [gtU_lo (by decide)]; exact hw)) 14 [0, 5] gX6_dayOn_X6_blown (n := 1) rfl (by decide +kernel) rfl ⟨Nat.le_of_ble_eq_true rfl, Nat.le_of_ble_eq_true rfl⟩ (ci := 6) (q0 := 0) rfl rfl rfl (Nat.le_of_ble_eq_true rfl) rfl (by decide +kernel) rfl rfl dX6_dayOn_11 rfl ⟨Nat.le_of_ble_eq_true rfl, Nat.le_of_ble_eq_true rfl⟩ ?_
      refine g_eqi (y := nI (bl (S 1) i)) (by rw [gtU_lo (by decide)]) ?_
      refine g_iadd X (nI (1 + (bl (S 1) i))) 15 dX6_dayOn_14 rfl (nI_add _ _) ?_
      refine g_istore_n X [(2, .int (nI (1 + (bl (S 1) i)))), (1, .int (nI i)), (0, .ref m6)] 16 dX6_dayOn_15 rfl rfl (by decide) rfl ?_
      refine g_iconst X (nI 0) 17 dX6_dayOn_16 rfl (by decide +kernel) ?_
      refine g_istore_n X [(3, .int (nI 0)), (2, .int (nI (1 + (bl (S 1) i)))), (1, .int (nI i)), (0, .ref m6)] 18 dX6_dayOn_17 rfl rfl (by decide) rfl ?_
      have M : ∀ j : Nat, j ≤ 8 → G p l e rm_X6_dayOn s m args below meth c Q D A 4 0 0 [(m6, .inr (6, [.int (nI th), .int (nI nw), .int (nI nr), .int (nI nf), .ref q1, .ref q2, .ref q3, .ref q4, .ref q5, .ref q6])), (q1, .inl (cI, 30, .inl (v30 T))), (q2, .inl (cI, 6, .inl (v6 st))), (q3, .inl (cI, 4, .inl (v4 fe))), (q4, .inl (cI, 4, .inl (v4 fo))), (q5, .inl (cI, 130, .inl (vn (gtU (i * 8 + j) S))))] [(3, .int (nI j)), (2, .int (nI (1 + bl (S 1) i))), (1, .int (nI i)), (0, .ref m6)] 18 [] := by
        refine g_down _ ?_ ?_
        · refine g_iload_n X 0 19 dX6_dayOn_18 rfl rfl rfl ?_
          refine g_bipush X (nI 8) 21 dX6_dayOn_19 rfl (by decide +kernel) ?_
          refine g_icmp_ge X 24 57 dX6_dayOn_21 rfl (by decide) (nI_leI (by omega) (by omega)) (fun h21 => ?_) (fun h21 => absurd (Nat.le_refl _) h21)
          refine g_iinc X 2 (nI (i + 1)) [(1, .int (nI (i + 1))), (3, .int (nI 8)), (2, .int (nI (1 + bl (S 1) i))), (0, .ref m6)] 60 dX6_dayOn_57 rfl rfl (nI_inc _) (by decide) rfl ?_
          refine g_goto X 2 dX6_dayOn_60 (by decide) ?_
          refine g_lv (lv' := [(1, .int (nI (i + 1))), (0, .ref m6)]) [0, 3] rfl ?_
          exact (by rw [show (i + 1) * 8 = i * 8 + 8 by omega] at ih_i; exact ih_i)
        · intro j hj ih_j 
          refine g_iload_n X 0 19 dX6_dayOn_18 rfl rfl rfl ?_
          refine g_bipush X (nI 8) 21 dX6_dayOn_19 rfl (by decide +kernel) ?_
          refine g_icmp_ge X 24 57 dX6_dayOn_21 rfl (by decide) (nI_leI (by omega) (by omega)) (fun h21 => absurd h21 (by omega)) (fun h21 => ?_)
          have hb := bl_le (c := i) hw
          have h20 := hg.1.2.1 (i * 8 + j) (by omega)
          refine g_aload_n X 3 25 dX6_dayOn_24 rfl rfl rfl ?_
          refine g_get X hiX6 0 8 28 rfl rfl (by decide) (List.mem_of_getElem? (i := 1) rfl) rfl dX6_dayOn_25 rfl ?_
          refine g_iload_n X 2 29 dX6_dayOn_28 rfl rfl rfl ?_
          refine g_iload_n X 0 30 dX6_dayOn_29 rfl rfl rfl ?_
          refine g_callSi (ws' := [(m6, .inr (6, [.int (nI th), .int (nI nw), .int (nI nr), .int (nI nf), .ref q1, .ref q2, .ref q3, .ref q4, .ref q5, .ref q6])), (q1, .inl (cI, 30, .inl (v30 T))), (q2, .inl (cI, 6, .inl (v6 st))), (q3, .inl (cI, 4, .inl (v4 fe))), (q4, .inl (cI, 4, .inl (v4 fo))), (q5, .inl (cI, 130, .inl (vn (gtU (i * 8 + j) S))))]) X (m_X6_pane l D cI cZ cJ i j) 33 [] gX6_dayOn_X6_pane (n := 2) rfl (by decide +kernel) rfl ⟨Nat.le_of_ble_eq_true rfl, Nat.le_of_ble_eq_true rfl⟩ rfl (Nat.le_of_ble_eq_true rfl) rfl (by decide +kernel) rfl rfl dX6_dayOn_30 rfl ⟨Nat.le_of_ble_eq_true rfl, Nat.le_of_ble_eq_true rfl⟩ ?_
          refine g_bipush X (nI 20) 35 dX6_dayOn_33 rfl (by decide +kernel) ?_
          refine g_aload_n X 3 36 dX6_dayOn_35 rfl rfl rfl ?_
          refine g_get X hiX6 0 8 39 rfl rfl (by decide) (List.mem_of_getElem? (i := 1) rfl) rfl dX6_dayOn_36 rfl ?_
          refine g_iload_n X 2 40 dX6_dayOn_39 rfl rfl rfl ?_
          refine g_iload_n X 0 41 dX6_dayOn_40 rfl rfl rfl ?_
          refine g_callSi (ws' := [(m6, .inr (6, [.int (nI th), .int (nI nw), .int (nI nr), .int (nI nf), .ref q1, .ref q2, .ref q3, .ref q4, .ref q5, .ref q6])), (q1, .inl (cI, 30, .inl (v30 T))), (q2, .inl (cI, 6, .inl (v6 st))), (q3, .inl (cI, 4, .inl (v4 fe))), (q4, .inl (cI, 4, .inl (v4 fo))), (q5, .inl (cI, 130, .inl (vn (gtU (i * 8 + j) S))))]) X (m_X6_pane l D cI cZ cJ i j) 44 [] gX6_dayOn_X6_pane (n := 2) rfl (by decide +kernel) rfl ⟨Nat.le_of_ble_eq_true rfl, Nat.le_of_ble_eq_true rfl⟩ rfl (Nat.le_of_ble_eq_true rfl) rfl (by decide +kernel) rfl rfl dX6_dayOn_41 rfl ⟨Nat.le_of_ble_eq_true rfl, Nat.le_of_ble_eq_true rfl⟩ ?_
          refine g_iald X 5 0 (4 + (i * 8 + j)) (nI (S (4 + (i * 8 + j)))) 45 rfl rfl (by omega) (by decide) ((vn_at (by omega)).trans (congrArg nI (gtU_hi (by omega)))) dX6_dayOn_44 rfl ?_
          refine g_iload_n X 1 46 dX6_dayOn_45 rfl rfl rfl ?_
          refine g_iadd X (nI ((S (4 + (i * 8 + j))) + (1 + bl (S 1) i))) 47 dX6_dayOn_46 rfl (nI_add _ _) ?_
          refine g_min X (nI (min 20 (S (4 + (i * 8 + j)) + (1 + bl (S 1) i)))) 50 (List.mem_of_getElem? (i := 2) rfl) (List.mem_of_getElem? (i := 3) rfl) (List.mem_of_getElem? (i := 4) rfl) (List.mem_of_getElem? (i := 5) rfl) (Nat.le_of_ble_eq_true rfl) (Nat.le_of_ble_eq_true rfl) (Nat.zero_le _) (Nat.zero_le _) (nI_min (by omega) (by omega)) dX6_dayOn_47 rfl ?_
          refine g_iast (ws' := [(m6, .inr (6, [.int (nI th), .int (nI nw), .int (nI nr), .int (nI nf), .ref q1, .ref q2, .ref q3, .ref q4, .ref q5, .ref q6])), (q1, .inl (cI, 30, .inl (v30 T))), (q2, .inl (cI, 6, .inl (v6 st))), (q3, .inl (cI, 4, .inl (v4 fe))), (q4, .inl (cI, 4, .inl (v4 fo))), (q5, .inl (cI, 130, .inl (vn (gtU (i * 8 + (j + 1)) S))))]) X 5 0 (4 + (i * 8 + j)) (vn (gtU (i * 8 + (j + 1)) S)) 51 rfl rfl (by omega) (by decide) ((vn_up (by omega)).trans (congrArg vn (gtU_s9 (by omega)))) dX6_dayOn_50 rfl rfl ?_
          refine g_iinc X 0 (nI (j + 1)) [(3, .int (nI (j + 1))), (2, .int (nI (1 + bl (S 1) i))), (1, .int (nI i)), (0, .ref m6)] 54 dX6_dayOn_51 rfl rfl (nI_inc _) (by decide) rfl ?_
          refine g_goto X 18 dX6_dayOn_54 (by decide) ?_
          exact ih_j
      exact M 0 (Nat.zero_le _)
  have L0 := L 0 (Nat.zero_le _)
  rw [show 0 * 8 = 0 from rfl, gtU_0] at L0
  exact L0

abbrev rm_X6_daysOn : Room := { frames := 5, cells := 0, slots := 0, locals := 114 }
set_option maxHeartbeats 4000000 in
set_option maxRecDepth 100000 in
theorem m_X6_daysOn (l : Launch) (D : va_G) (cI cZ cJ : ClassId) (m6 th nw nr nf q1 q2 q3 q4 q5 q6 : Nat) (dn : Nat) (T st fe fo S : Nat → Nat) (hg : Gd S nr) (hs : stOk T st fe fo nw nr nf) (hd : S 0 < 2 ^ 28) (hk : dn < 2 ^ 28) : MV l yX6_daysOn wsX6_daysOn rm_X6_daysOn D (gT cI cZ cJ) [(m6, .inr (6, [.int (nI th), .int (nI nw), .int (nI nr), .int (nI nf), .ref q1, .ref q2, .ref q3, .ref q4, .ref q5, .ref q6])), (q1, .inl (cI, 30, .inl (v30 T))), (q2, .inl (cI, 6, .inl (v6 st))), (q3, .inl (cI, 4, .inl (v4 fe))), (q4, .inl (cI, 4, .inl (v4 fo))), (q5, .inl (cI, 130, .inl (vn S)))] [.ref m6, .int (nI dn)] (fun u => u = [(m6, .inr (6, [.int (nI th), .int (nI nw), .int (nI nr), .int (nI nf), .ref q1, .ref q2, .ref q3, .ref q4, .ref q5, .ref q6])), (q1, .inl (cI, 30, .inl (v30 T))), (q2, .inl (cI, 6, .inl (v6 st))), (q3, .inl (cI, 4, .inl (v4 fe))), (q4, .inl (cI, 4, .inl (v4 fo))), (q5, .inl (cI, 130, .inl (vn (daysS T st fe fo nw nr nf S dn))))]) := by
  refine MV_of [(0, .ref m6), (1, .int (nI dn))] (by decide) rfl (Nat.le_of_ble_eq_true rfl) rfl ?_
  intro p e s m args below meth c A Q X ret
  refine g_iconst X (nI 0) 1 dX6_daysOn_0 rfl (by decide +kernel) ?_
  refine g_istore_n X [(2, .int (nI 0)), (0, .ref m6), (1, .int (nI dn))] 2 dX6_daysOn_1 rfl rfl (by decide) rfl ?_
  have L : ∀ j : Nat, j ≤ dn → G p l e rm_X6_daysOn s m args below meth c Q D A 3 0 0 [(m6, .inr (6, [.int (nI th), .int (nI nw), .int (nI nr), .int (nI nf), .ref q1, .ref q2, .ref q3, .ref q4, .ref q5, .ref q6])), (q1, .inl (cI, 30, .inl (v30 T))), (q2, .inl (cI, 6, .inl (v6 st))), (q3, .inl (cI, 4, .inl (v4 fe))), (q4, .inl (cI, 4, .inl (v4 fo))), (q5, .inl (cI, 130, .inl (vn (daysS T st fe fo nw nr nf S j))))] [(2, .int (nI j)), (0, .ref m6), (1, .int (nI dn))] 2 [] := by
    refine g_down _ ?_ ?_
    · refine g_iload_n X 0 3 dX6_daysOn_2 rfl rfl rfl ?_
      refine g_iload_n X 2 4 dX6_daysOn_3 rfl rfl rfl ?_
      refine g_icmp_ge X 7 17 dX6_daysOn_4 rfl (by decide) (nI_leI (by omega) (by omega)) (fun h4 => ?_) (fun h4 => absurd (Nat.le_refl _) h4)
      exact ret _ _ _ dX6_daysOn_17 rfl
    · intro j hj ih_j 
      refine g_iload_n X 0 3 dX6_daysOn_2 rfl rfl rfl ?_
      refine g_iload_n X 2 4 dX6_daysOn_3 rfl rfl rfl ?_
      refine g_icmp_ge X 7 17 dX6_daysOn_4 rfl (by decide) (nI_leI (by omega) (by omega)) (fun h4 => absurd h4 (by omega)) (fun h4 => ?_)
      refine g_aload_n X 1 8 dX6_daysOn_7 rfl rfl rfl ?_
      refine g_callVv (ws' := [(m6, .inr (6, [.int (nI th), .int (nI nw), .int (nI nr), .int (nI nf), .ref q1, .ref q2, .ref q3, .ref q4, .ref q5, .ref q6])), (q1, .inl (cI, 30, .inl (v30 T))), (q2, .inl (cI, 6, .inl (v6 st))), (q3, .inl (cI, 4, .inl (v4 fe))), (q4, .inl (cI, 4, .inl (v4 fo))), (q5, .inl (cI, 130, .inl (vn (dayS T st fe fo nw nr nf (daysS T st fe fo nw nr nf S j)))))]) X (m_X6_dayOn l D cI cZ cJ m6 th nw nr nf q1 q2 q3 q4 q5 q6 T st fe fo (daysS T st fe fo nw nr nf S j) (daysS_gd hg j) hs (by rw [daysS_0 hg]; omega)) 11 [0, 1, 2, 3, 4, 5] gX6_daysOn_X6_dayOn (n := 0) rfl (by decide +kernel) rfl ⟨Nat.le_of_ble_eq_true rfl, Nat.le_of_ble_eq_true rfl⟩ (ci := 6) (q0 := 0) rfl rfl rfl (Nat.le_of_ble_eq_true rfl) rfl (by decide +kernel) rfl ((putB_mg [some (m6, .inr (6, [.int (nI th), .int (nI nw), .int (nI nr), .int (nI nf), .ref q1, .ref q2, .ref q3, .ref q4, .ref q5, .ref q6])), some (q1, .inl (cI, 30, .inl (v30 T))), some (q2, .inl (cI, 6, .inl (v6 st))), some (q3, .inl (cI, 4, .inl (v4 fe))), some (q4, .inl (cI, 4, .inl (v4 fo))), some (q5, .inl (cI, 130, .inl (vn (dayS T st fe fo nw nr nf (daysS T st fe fo nw nr nf S j)))))] [true, true, true, true, true, true] rfl (by decide +kernel) rfl rfl rfl (by decide +kernel)).trans rfl) dX6_daysOn_8 rfl ⟨Nat.le_of_ble_eq_true rfl, Nat.le_of_ble_eq_true rfl⟩ ?_
      refine g_iinc X 0 (nI (j + 1)) [(2, .int (nI (j + 1))), (0, .ref m6), (1, .int (nI dn))] 14 dX6_daysOn_11 rfl rfl (nI_inc _) (by decide) rfl ?_
      refine g_goto X 2 dX6_daysOn_14 (by decide) ?_
      exact ih_j
  exact L 0 (Nat.zero_le _)
