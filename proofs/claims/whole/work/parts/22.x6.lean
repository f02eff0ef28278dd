/-! THE REFERENCE -/
theorem inR_is {x : Int32} {n : Nat} (hn : n < 2 ^ 31) : inR x (nI 0) (nI n - nI 1) ↔ isR n x := by
  by_cases h0 : x < 0
  · have h1 : ¬ nI 0 ≤ x := fun z => absurd h0 (ln (by rw [z_ger]; exact z))
    exact ⟨fun z => absurd z.1 h1, fun z => absurd z.1 h1⟩
  · obtain ⟨j, hj, rfl⟩ := nI_of h0
    rcases (show n = 0 ∨ 1 ≤ n by omega) with rfl | h
    · constructor
      · intro z
        have h2 : nI j ≤ nIm 1 := z.2
        exact absurd (Int32.lt_of_le_of_lt h2 nIm1_lt) h0
      · intro z
        have := (nI_ltI hj (by decide)).mp z.2
        omega
    · show nI 0 ≤ nI j ∧ nI j ≤ nI n - nI 1 ↔ nI 0 ≤ nI j ∧ nI j < nI n
      rw [pk_sub h, nI_leI hj (by omega), nI_ltI hj hn]
      exact and_congr_right (fun _ => by omega)
theorem bn_is0 {x : Int32} {n : Nat} (hn : n < 2 ^ 31) : nI (bn (decide (inR x (nI 0) (nI n - nI 1)))) = nI (bn (decide (isR n x))) := by rw [decide_eq_decide.mpr (inR_is hn)]
theorem bn_is {x : Int32} {n k : Nat} (h : k + 1 = n) (hn : n < 2 ^ 31) : nI (bn (decide (inR x (nI 0) (nI k)))) = nI (bn (decide (isR n x))) := by
  subst h
  have h1 : nI (k + 1) - nI 1 = nI k := by rw [pk_sub (by omega), Nat.add_sub_cancel]
  rw [← h1]
  exact bn_is0 hn
theorem bn_is9 {x y : Int32} (h : 0 < y) : nI (bn (decide (inR x (nI 0) (y - nI 1)))) = nI (bn (decide (nI 0 ≤ x ∧ x < y))) := by
  obtain ⟨j, hj, rfl⟩ := nI_of (fun z => absurd (Int32.lt_trans h z) (by decide))
  exact bn_is0 hj
theorem vn_cpy {S K : Nat → Nat} : va_cpy (vn S) (vn K) 0 0 130 = vn S := by
  funext k
  by_cases hk : k < 130
  · have : 0 ≤ k ∧ k < 0 + 130 := by omega
    simp only [va_cpy, if_pos this]
    simp
  · have : ¬ (0 ≤ k ∧ k < 0 + 130) := by omega
    simp only [va_cpy, if_neg this, vn, if_neg hk]

abbrev rm_X6_thrown : Room := { frames := 0, cells := 0, slots := 0, locals := 0 }
set_option maxHeartbeats 4000000 in
set_option maxRecDepth 100000 in
theorem m_X6_thrown (l : Launch) (D : va_G) (cI cZ cJ : ClassId) (m6 th nw nr nf q1 q2 q3 q4 q5 q6 : Nat)  : MI l yX6_thrown wsX6_thrown rm_X6_thrown D (gT cI cZ cJ) [(m6, .inr (6, [.int (nI th), .int (nI nw), .int (nI nr), .int (nI nf), .ref q1, .ref q2, .ref q3, .ref q4, .ref q5, .ref q6]))] [.ref m6] (fun r u => r = nI th ∧ u = [(m6, .inr (6, [.int (nI th), .int (nI nw), .int (nI nr), .int (nI nf), .ref q1, .ref q2, .ref q3, .ref q4, .ref q5, .ref q6]))]) := by
  refine MI_of [(0, .ref m6)] (by decide) rfl (Nat.le_of_ble_eq_true rfl) rfl ?_
  intro p e s m args below meth c A Q X ret
  have hiX6 : ∀ w ∈ wsX60, w ∈ wsX6_thrown := (fun _ h => List.mem_cons_of_mem _ (List.mem_append_right _ h))
  refine g_aload_n X 0 1 dX6_thrown_0 rfl rfl rfl ?_
  refine g_get X hiX6 0 0 4 rfl rfl (by decide) (List.mem_of_getElem? (i := 1) rfl) rfl dX6_thrown_1 rfl ?_
  exact ret _ _ _ _ dX6_thrown_4 rfl ⟨rfl, rfl⟩

abbrev rm_X6_fail : Room := { frames := 0, cells := 0, slots := 0, locals := 0 }
set_option maxHeartbeats 4000000 in
set_option maxRecDepth 100000 in
theorem m_X6_fail (l : Launch) (D : va_G) (cI cZ cJ : ClassId) (m6 th nw nr nf q1 q2 q3 q4 q5 q6 : Nat) (k : Nat)  : MI l yX6_fail wsX6_fail rm_X6_fail D (gT cI cZ cJ) [(m6, .inr (6, [.int (nI th), .int (nI nw), .int (nI nr), .int (nI nf), .ref q1, .ref q2, .ref q3, .ref q4, .ref q5, .ref q6]))] [.ref m6, .int (nI k)] (fun r u => r = nI 0 ∧ u = [(m6, .inr (6, [.int (nI k), .int (nI nw), .int (nI nr), .int (nI nf), .ref q1, .ref q2, .ref q3, .ref q4, .ref q5, .ref q6]))]) := by
  refine MI_of [(0, .ref m6), (1, .int (nI k))] (by decide) rfl (Nat.le_of_ble_eq_true rfl) rfl ?_
  intro p e s m args below meth c A Q X ret
  have hiX6 : ∀ w ∈ wsX60, w ∈ wsX6_fail := (fun _ h => List.mem_cons_of_mem _ (List.mem_append_right _ h))
  refine g_aload_n X 0 1 dX6_fail_0 rfl rfl rfl ?_
  refine g_iload_n X 1 2 dX6_fail_1 rfl rfl rfl ?_
  refine g_put (ws' := [(m6, .inr (6, [.int (nI k), .int (nI nw), .int (nI nr), .int (nI nf), .ref q1, .ref q2, .ref q3, .ref q4, .ref q5, .ref q6]))]) X hiX6 tyX6 tyX6_ok nmX6 0 0 5 rfl rfl (by decide) (List.mem_of_getElem? (i := 1) rfl) rfl (ty := .int) (by decide +kernel) rfl rfl (Nat.le_of_ble_eq_true rfl) dX6_fail_2 rfl rfl ?_
  refine g_iconst X (nI 0) 6 dX6_fail_5 rfl (by decide +kernel) ?_
  exact ret _ _ _ _ dX6_fail_6 rfl ⟨rfl, rfl⟩

abbrev rm_X6_isIn : Room := { frames := 0, cells := 0, slots := 0, locals := 0 }
set_option maxHeartbeats 4000000 in
set_option maxRecDepth 100000 in
theorem m_X6_isIn (l : Launch) (D : va_G) (cI cZ cJ : ClassId) (v lo hi : Int32)  : MI l yX6_isIn wsX6_isIn rm_X6_isIn D (gT cI cZ cJ) [] [.int v, .int lo, .int hi] (fun r u => r = nI (bn (decide (inR v lo hi))) ∧ u = []) := by
  refine MI_of [(0, .int v), (1, .int lo), (2, .int hi)] (by decide) rfl (Nat.le_of_ble_eq_true rfl) rfl ?_
  intro p e s m args below meth c A Q X ret
  refine g_iload_n X 0 1 dX6_isIn_0 rfl rfl rfl ?_
  refine g_iload_n X 1 2 dX6_isIn_1 rfl rfl rfl ?_
  refine g_icmp_lt X 5 14 dX6_isIn_2 rfl (by decide) Iff.rfl (fun h2 => ?_) (fun h2 => ?_)
  · refine g_iconst X (nI 0) 15 dX6_isIn_14 rfl (by decide +kernel) ?_
    refine g_eqi (y := nI (bn (decide (inR v lo hi)))) (by rw [decide_eq_false (fun z => ln z.1 h2)]; rfl) ?_
    exact ret _ _ _ _ dX6_isIn_15 (bn_nar _) ⟨rfl, rfl⟩
  · refine g_iload_n X 0 6 dX6_isIn_5 rfl rfl rfl ?_
    refine g_iload_n X 2 7 dX6_isIn_6 rfl rfl rfl ?_
    refine g_icmp_gt X 10 14 dX6_isIn_7 rfl (by decide) Iff.rfl (fun h7 => ?_) (fun h7 => ?_)
    · refine g_iconst X (nI 0) 15 dX6_isIn_14 rfl (by decide +kernel) ?_
      refine g_eqi (y := nI (bn (decide (inR v lo hi)))) (by rw [decide_eq_false (fun z => ltn h7 z.2)]; rfl) ?_
      exact ret _ _ _ _ dX6_isIn_15 (bn_nar _) ⟨rfl, rfl⟩
    · refine g_iconst X (nI 1) 11 dX6_isIn_10 rfl (by decide +kernel) ?_
      refine g_goto X 15 dX6_isIn_11 (by decide) ?_
      refine g_eqi (y := nI (bn (decide (inR v lo hi)))) (by rw [decide_eq_true ⟨nl h2, nl h7⟩]; rfl) ?_
      exact ret _ _ _ _ dX6_isIn_15 (bn_nar _) ⟨rfl, rfl⟩

abbrev rm_X6_isWindow : Room := { frames := 1, cells := 0, slots := 0, locals := 22 }
set_option maxHeartbeats 4000000 in
set_option maxRecDepth 100000 in
theorem m_X6_isWindow (l : Launch) (D : va_G) (cI cZ cJ : ClassId) (m6 th nw nr nf q1 q2 q3 q4 q5 q6 : Nat) (x : Int32) (hn : nw < 2 ^ 31) : MI l yX6_isWindow wsX6_isWindow rm_X6_isWindow D (gT cI cZ cJ) [(m6, .inr (6, [.int (nI th), .int (nI nw), .int (nI nr), .int (nI nf), .ref q1, .ref q2, .ref q3, .ref q4, .ref q5, .ref q6]))] [.ref m6, .int x] (fun r u => r = nI (bn (decide (isR nw x))) ∧ u = [(m6, .inr (6, [.int (nI th), .int (nI nw), .int (nI nr), .int (nI nf), .ref q1, .ref q2, .ref q3, .ref q4, .ref q5, .ref q6]))]) := by
  refine MI_of [(0, .ref m6), (1, .int x)] (by decide) rfl (Nat.le_of_ble_eq_true rfl) rfl ?_
  intro p e s m args below meth c A Q X ret
  have hiX6 : ∀ w ∈ wsX60, w ∈ wsX6_isWindow := (fun _ h => List.mem_cons_of_mem _ (List.mem_append_right _ h))
  refine g_iload_n X 1 1 dX6_isWindow_0 rfl rfl rfl ?_
  refine g_iconst X (nI 0) 2 dX6_isWindow_1 rfl (by decide +kernel) ?_
  refine g_aload_n X 0 3 dX6_isWindow_2 rfl rfl rfl ?_
  refine g_get X hiX6 0 1 6 rfl rfl (by decide) (List.mem_of_getElem? (i := 1) rfl) rfl dX6_isWindow_3 rfl ?_
  refine g_iconst X (nI 1) 7 dX6_isWindow_6 rfl (by decide +kernel) ?_
  refine g_isub X ((nI nw) - (nI 1)) 8 dX6_isWindow_7 rfl rfl ?_
  refine g_callSi (ws' := [(m6, .inr (6, [.int (nI th), .int (nI nw), .int (nI nr), .int (nI nf), .ref q1, .ref q2, .ref q3, .ref q4, .ref q5, .ref q6]))]) X (m_X6_isIn l D cI cZ cJ x (nI 0) (nI nw - nI 1)) 11 [] gX6_isWindow_X6_isIn (n := 3) rfl (by decide +kernel) rfl ⟨Nat.le_of_ble_eq_true rfl, Nat.le_of_ble_eq_true rfl⟩ rfl (Nat.le_of_ble_eq_true rfl) rfl (by decide +kernel) rfl rfl dX6_isWindow_8 rfl ⟨Nat.le_of_ble_eq_true rfl, Nat.le_of_ble_eq_true rfl⟩ ?_
  refine g_eqi (y := nI (bn (decide (isR nw x)))) (bn_is0 hn) ?_
  exact ret _ _ _ _ dX6_isWindow_11 (bn_nar _) ⟨rfl, rfl⟩

abbrev rm_X6_isRope : Room := { frames := 1, cells := 0, slots := 0, locals := 22 }
set_option maxHeartbeats 4000000 in
set_option maxRecDepth 100000 in
theorem m_X6_isRope (l : Launch) (D : va_G) (cI cZ cJ : ClassId) (m6 th nw nr nf q1 q2 q3 q4 q5 q6 : Nat) (x : Int32) (hn : nr < 2 ^ 31) : MI l yX6_isRope wsX6_isRope rm_X6_isRope D (gT cI cZ cJ) [(m6, .inr (6, [.int (nI th), .int (nI nw), .int (nI nr), .int (nI nf), .ref q1, .ref q2, .ref q3, .ref q4, .ref q5, .ref q6]))] [.ref m6, .int x] (fun r u => r = nI (bn (decide (isR nr x))) ∧ u = [(m6, .inr (6, [.int (nI th), .int (nI nw), .int (nI nr), .int (nI nf), .ref q1, .ref q2, .ref q3, .ref q4, .ref q5, .ref q6]))]) := by
  refine MI_of [(0, .ref m6), (1, .int x)] (by decide) rfl (Nat.le_of_ble_eq_true rfl) rfl ?_
  intro p e s m args below meth c A Q X ret
  have hiX6 : ∀ w ∈ wsX60, w ∈ wsX6_isRope := (fun _ h => List.mem_cons_of_mem _ (List.mem_append_right _ h))
  refine g_iload_n X 1 1 dX6_isRope_0 rfl rfl rfl ?_
  refine g_iconst X (nI 0) 2 dX6_isRope_1 rfl (by decide +kernel) ?_
  refine g_aload_n X 0 3 dX6_isRope_2 rfl rfl rfl ?_
  refine g_get X hiX6 0 2 6 rfl rfl (by decide) (List.mem_of_getElem? (i := 1) rfl) rfl dX6_isRope_3 rfl ?_
  refine g_iconst X (nI 1) 7 dX6_isRope_6 rfl (by decide +kernel) ?_
  refine g_isub X ((nI nr) - (nI 1)) 8 dX6_isRope_7 rfl rfl ?_
  refine g_callSi (ws' := [(m6, .inr (6, [.int (nI th), .int (nI nw), .int (nI nr), .int (nI nf), .ref q1, .ref q2, .ref q3, .ref q4, .ref q5, .ref q6]))]) X (m_X6_isIn l D cI cZ cJ x (nI 0) (nI nr - nI 1)) 11 [] gX6_isRope_X6_isIn (n := 3) rfl (by decide +kernel) rfl ⟨Nat.le_of_ble_eq_true rfl, Nat.le_of_ble_eq_true rfl⟩ rfl (Nat.le_of_ble_eq_true rfl) rfl (by decide +kernel) rfl rfl dX6_isRope_8 rfl ⟨Nat.le_of_ble_eq_true rfl, Nat.le_of_ble_eq_true rfl⟩ ?_
  refine g_eqi (y := nI (bn (decide (isR nr x)))) (bn_is0 hn) ?_
  exact ret _ _ _ _ dX6_isRope_11 (bn_nar _) ⟨rfl, rfl⟩

abbrev rm_X6_wi : Room := { frames := 0, cells := 0, slots := 0, locals := 0 }
set_option maxHeartbeats 4000000 in
set_option maxRecDepth 100000 in
theorem m_X6_wi (l : Launch) (D : va_G) (cI cZ cJ : ClassId) (m6 th nw nr nf q1 q2 q3 q4 q5 q6 : Nat) (w wh : Nat) (T : Nat → Nat) (hw : 5 * w + wh < 30) : MI l yX6_wi wsX6_wi rm_X6_wi D (gT cI cZ cJ) [(m6, .inr (6, [.int (nI th), .int (nI nw), .int (nI nr), .int (nI nf), .ref q1, .ref q2, .ref q3, .ref q4, .ref q5, .ref q6])), (q1, .inl (cI, 30, .inl (v30 T)))] [.ref m6, .int (nI w), .int (nI wh)] (fun r u => r = nI (T (5 * w + wh)) ∧ u = [(m6, .inr (6, [.int (nI th), .int (nI nw), .int (nI nr), .int (nI nf), .ref q1, .ref q2, .ref q3, .ref q4, .ref q5, .ref q6])), (q1, .inl (cI, 30, .inl (v30 T)))]) := by
  refine MI_of [(0, .ref m6), (1, .int (nI w)), (2, .int (nI wh))] (by decide) rfl (Nat.le_of_ble_eq_true rfl) rfl ?_
  intro p e s m args below meth c A Q X ret
  have hiX6 : ∀ w ∈ wsX60, w ∈ wsX6_wi := (fun _ h => List.mem_cons_of_mem _ (List.mem_append_right _ h))
  refine g_aload_n X 0 1 dX6_wi_0 rfl rfl rfl ?_
  refine g_get X hiX6 0 4 4 rfl rfl (by decide) (List.mem_of_getElem? (i := 1) rfl) rfl dX6_wi_1 rfl ?_
  refine g_iconst X (nI 5) 5 dX6_wi_4 rfl (by decide +kernel) ?_
  refine g_iload_n X 1 6 dX6_wi_5 rfl rfl rfl ?_
  refine g_imul X (nI (5 * w)) 7 dX6_wi_6 rfl (pk_mul _ _) ?_
  refine g_iload_n X 2 8 dX6_wi_7 rfl rfl rfl ?_
  refine g_iadd X (nI ((5 * w) + wh)) 9 dX6_wi_8 rfl (nI_add _ _) ?_
  refine g_iald X 1 0 ((5 * w) + wh) (nI (T (5 * w + wh))) 10 rfl rfl (by omega) (by decide) (v30_at hw) dX6_wi_9 rfl ?_
  exact ret _ _ _ _ dX6_wi_10 rfl ⟨rfl, rfl⟩

abbrev rm_X6_ro : Room := { frames := 0, cells := 0, slots := 0, locals := 0 }
set_option maxHeartbeats 4000000 in
set_option maxRecDepth 100000 in
theorem m_X6_ro (l : Launch) (D : va_G) (cI cZ cJ : ClassId) (m6 th nw nr nf q1 q2 q3 q4 q5 q6 : Nat) (rr wh : Nat) (S : Nat → Nat) (hw : 100 + 5 * rr + wh < 130) : MI l yX6_ro wsX6_ro rm_X6_ro D (gT cI cZ cJ) [(m6, .inr (6, [.int (nI th), .int (nI nw), .int (nI nr), .int (nI nf), .ref q1, .ref q2, .ref q3, .ref q4, .ref q5, .ref q6])), (q5, .inl (cI, 130, .inl (vn S)))] [.ref m6, .int (nI rr), .int (nI wh)] (fun r u => r = nI (S (100 + 5 * rr + wh)) ∧ u = [(m6, .inr (6, [.int (nI th), .int (nI nw), .int (nI nr), .int (nI nf), .ref q1, .ref q2, .ref q3, .ref q4, .ref q5, .ref q6])), (q5, .inl (cI, 130, .inl (vn S)))]) := by
  refine MI_of [(0, .ref m6), (1, .int (nI rr)), (2, .int (nI wh))] (by decide) rfl (Nat.le_of_ble_eq_true rfl) rfl ?_
  intro p e s m args below meth c A Q X ret
  have hiX6 : ∀ w ∈ wsX60, w ∈ wsX6_ro := (fun _ h => List.mem_cons_of_mem _ (List.mem_append_right _ h))
  refine g_aload_n X 0 1 dX6_ro_0 rfl rfl rfl ?_
  refine g_get X hiX6 0 8 4 rfl rfl (by decide) (List.mem_of_getElem? (i := 1) rfl) rfl dX6_ro_1 rfl ?_
  refine g_bipush X (nI 100) 6 dX6_ro_4 rfl (by decide +kernel) ?_
  refine g_iconst X (nI 5) 7 dX6_ro_6 rfl (by decide +kernel) ?_
  refine g_iload_n X 1 8 dX6_ro_7 rfl rfl rfl ?_
  refine g_imul X (nI (5 * rr)) 9 dX6_ro_8 rfl (pk_mul _ _) ?_
  refine g_iadd X (nI (100 + (5 * rr))) 10 dX6_ro_9 rfl (nI_add _ _) ?_
  refine g_iload_n X 2 11 dX6_ro_10 rfl rfl rfl ?_
  refine g_iadd X (nI ((100 + (5 * rr)) + wh)) 12 dX6_ro_11 rfl (nI_add _ _) ?_
  refine g_iald X 1 0 ((100 + (5 * rr)) + wh) (nI (S (100 + 5 * rr + wh))) 13 rfl rfl (by omega) (by decide) (vn_at hw) dX6_ro_12 rfl ?_
  exact ret _ _ _ _ dX6_ro_13 rfl ⟨rfl, rfl⟩

abbrev rm_X6_let : Room := { frames := 0, cells := 0, slots := 0, locals := 0 }
set_option maxHeartbeats 4000000 in
set_option maxRecDepth 100000 in
theorem m_X6_let (l : Launch) (D : va_G) (cI cZ cJ : ClassId) (m6 th nw nr nf q1 q2 q3 q4 q5 q6 : Nat) (r wh v : Nat) (S : Nat → Nat) (hw : 100 + 5 * r + wh < 130) : MV l yX6_let wsX6_let rm_X6_let D (gT cI cZ cJ) [(m6, .inr (6, [.int (nI th), .int (nI nw), .int (nI nr), .int (nI nf), .ref q1, .ref q2, .ref q3, .ref q4, .ref q5, .ref q6])), (q5, .inl (cI, 130, .inl (vn S)))] [.ref m6, .int (nI r), .int (nI wh), .int (nI v)] (fun u => u = [(m6, .inr (6, [.int (nI th), .int (nI nw), .int (nI nr), .int (nI nf), .ref q1, .ref q2, .ref q3, .ref q4, .ref q5, .ref q6])), (q5, .inl (cI, 130, .inl (vn (up S (100 + 5 * r + wh) v))))]) := by
  refine MV_of [(0, .ref m6), (1, .int (nI r)), (2, .int (nI wh)), (3, .int (nI v))] (by decide) rfl (Nat.le_of_ble_eq_true rfl) rfl ?_
  intro p e s m args below meth c A Q X ret
  have hiX6 : ∀ w ∈ wsX60, w ∈ wsX6_let := (fun _ h => List.mem_cons_of_mem _ (List.mem_append_right _ h))
  refine g_aload_n X 0 1 dX6_let_0 rfl rfl rfl ?_
  refine g_get X hiX6 0 8 4 rfl rfl (by decide) (List.mem_of_getElem? (i := 1) rfl) rfl dX6_let_1 rfl ?_
  refine g_bipush X (nI 100) 6 dX6_let_4 rfl (by decide +kernel) ?_
  refine g_iconst X (nI 5) 7 dX6_let_6 rfl (by decide +kernel) ?_
  refine g_iload_n X 1 8 dX6_let_7 rfl rfl rfl ?_
  refine g_imul X (nI (5 * r)) 9 dX6_let_8 rfl (pk_mul _ _) ?_
  refine g_iadd X (nI (100 + (5 * r))) 10 dX6_let_9 rfl (nI_add _ _) ?_
  refine g_iload_n X 2 11 dX6_let_10 rfl rfl rfl ?_
  refine g_iadd X (nI ((100 + (5 * r)) + wh)) 12 dX6_let_11 rfl (nI_add _ _) ?_
  refine g_iload_n X 3 13 dX6_let_12 rfl rfl rfl ?_
  refine g_iast (ws' := [(m6, .inr (6, [.int (nI th), .int (nI nw), .int (nI nr), .int (nI nf), .ref q1, .ref q2, .ref q3, .ref q4, .ref q5, .ref q6])), (q5, .inl (cI, 130, .inl (vn (up S (100 + 5 * r + wh) v))))]) X 1 0 ((100 + (5 * r)) + wh) (vn (up S (100 + 5 * r + wh) v)) 14 rfl rfl (by omega) (by decide) (vn_up hw) dX6_let_13 rfl rfl ?_
  exact ret _ _ _ dX6_let_14 rfl

abbrev rm_X6_pane : Room := { frames := 0, cells := 0, slots := 0, locals := 0 }
set_option maxHeartbeats 4000000 in
set_option maxRecDepth 100000 in
theorem m_X6_pane (l : Launch) (D : va_G) (cI cZ cJ : ClassId) (co ro : Nat)  : MI l yX6_pane wsX6_pane rm_X6_pane D (gT cI cZ cJ) [] [.int (nI co), .int (nI ro)] (fun r u => r = nI (4 + (co * 8 + ro)) ∧ u = []) := by
  refine MI_of [(0, .int (nI co)), (1, .int (nI ro))] (by decide) rfl (Nat.le_of_ble_eq_true rfl) rfl ?_
  intro p e s m args below meth c A Q X ret
  refine g_iconst X (nI 4) 1 dX6_pane_0 rfl (by decide +kernel) ?_
  refine g_bipush X (nI 8) 3 dX6_pane_1 rfl (by decide +kernel) ?_
  refine g_iload_n X 0 4 dX6_pane_3 rfl rfl rfl ?_
  refine g_imul X (nI (8 * co)) 5 dX6_pane_4 rfl (pk_mul _ _) ?_
  refine g_iadd X (nI (4 + (8 * co))) 6 dX6_pane_5 rfl (nI_add _ _) ?_
  refine g_iload_n X 1 7 dX6_pane_6 rfl rfl rfl ?_
  refine g_iadd X (nI ((4 + (8 * co)) + ro)) 8 dX6_pane_7 rfl (nI_add _ _) ?_
  refine g_eqi (y := nI (4 + (co * 8 + ro))) (congrArg nI (by omega)) ?_
  exact ret _ _ _ _ dX6_pane_8 rfl ⟨rfl, rfl⟩

abbrev rm_X6_isHung : Room := { frames := 1, cells := 0, slots := 0, locals := 22 }
set_option maxHeartbeats 4000000 in
set_option maxRecDepth 100000 in
theorem m_X6_isHung (l : Launch) (D : va_G) (cI cZ cJ : ClassId) (m6 th nw nr nf q1 q2 q3 q4 q5 q6 : Nat) (pl : Nat) (S : Nat → Nat) (hn : nr ≤ 6) (hc : ∀ r : Nat, r < nr → S (100 + 5 * r) < 12) (hp : pl < 12) : MI l yX6_isHung wsX6_isHung rm_X6_isHung D (gT cI cZ cJ) [(m6, .inr (6, [.int (nI th), .int (nI nw), .int (nI nr), .int (nI nf), .ref q1, .ref q2, .ref q3, .ref q4, .ref q5, .ref q6])), (q5, .inl (cI, 130, .inl (vn S)))] [.ref m6, .int (nI pl)] (fun r u => r = nI (bn (hung S nr pl)) ∧ u = [(m6, .inr (6, [.int (nI th), .int (nI nw), .int (nI nr), .int (nI nf), .ref q1, .ref q2, .ref q3, .ref q4, .ref q5, .ref q6])), (q5, .inl (cI, 130, .inl (vn S)))]) := by
  refine MI_of [(0, .ref m6), (1, .int (nI pl))] (by decide) rfl (Nat.le_of_ble_eq_true rfl) rfl ?_
  intro p e s m args below meth c A Q X ret
  have hiX6 : ∀ w ∈ wsX60, w ∈ wsX6_isHung := (fun _ h => List.mem_cons_of_mem _ (List.mem_append_right _ h))
  refine g_iconst X (nI 0) 1 dX6_isHung_0 rfl (by decide +kernel) ?_
  refine g_istore_n X [(2, .int (nI 0)), (0, .ref m6), (1, .int (nI pl))] 2 dX6_isHung_1 rfl rfl (by decide) rfl ?_
  have L : ∀ j : Nat, j ≤ nr → (∀ r : Nat, r < j → ¬ S (100 + 5 * r) = pl) → G p l e rm_X6_isHung s m args below meth c Q D A 3 0 0 [(m6, .inr (6, [.int (nI th), .int (nI nw), .int (nI nr), .int (nI nf), .ref q1, .ref q2, .ref q3, .ref q4, .ref q5, .ref q6])), (q5, .inl (cI, 130, .inl (vn S)))] [(2, .int (nI j)), (0, .ref m6), (1, .int (nI pl))] 2 [] := by
    refine g_down _ ?_ ?_
    · intro hno
      refine g_iload_n X 0 3 dX6_isHung_2 rfl rfl rfl ?_
      refine g_aload_n X 1 4 dX6_isHung_3 rfl rfl rfl ?_
      refine g_get X hiX6 0 2 7 rfl rfl (by decide) (List.mem_of_getElem? (i := 1) rfl) rfl dX6_isHung_4 rfl ?_
      refine g_icmp_ge X 10 28 dX6_isHung_7 rfl (by decide) (nI_leI (by omega) (by omega)) (fun h7 => ?_) (fun h7 => absurd (Nat.le_refl _) h7)
      refine g_iconst X (nI 0) 29 dX6_isHung_28 rfl (by decide +kernel) ?_
      refine g_eqi (y := nI (bn (hung S nr pl))) (by rw [hung_f hno]; rfl) ?_
      exact ret _ _ _ _ dX6_isHung_29 (bn_nar _) ⟨rfl, rfl⟩
    · intro j hj ih_j hno
      refine g_iload_n X 0 3 dX6_isHung_2 rfl rfl rfl ?_
      refine g_aload_n X 1 4 dX6_isHung_3 rfl rfl rfl ?_
      refine g_get X hiX6 0 2 7 rfl rfl (by decide) (List.mem_of_getElem? (i := 1) rfl) rfl dX6_isHung_4 rfl ?_
      refine g_icmp_ge X 10 28 dX6_isHung_7 rfl (by decide) (nI_leI (by omega) (by omega)) (fun h7 => absurd h7 (by omega)) (fun h7 => ?_)
      have hcj := hc j hj
      refine g_aload_n X 1 11 dX6_isHung_10 rfl rfl rfl ?_
      refine g_iload_n X 0 12 dX6_isHung_11 rfl rfl rfl ?_
      refine g_iconst X (nI 0) 13 dX6_isHung_12 rfl (by decide +kernel) ?_
      refine g_callVi (ws' := [(m6, .inr (6, [.int (nI th), .int (nI nw), .int (nI nr), .int (nI nf), .ref q1, .ref q2, .ref q3, .ref q4, .ref q5, .ref q6])), (q5, .inl (cI, 130, .inl (vn S)))]) X (m_X6_ro l D cI cZ cJ m6 th nw nr nf q1 q2 q3 q4 q5 q6 j 0 S (by omega)) 16 [0, 1] gX6_isHung_X6_ro (n := 2) rfl (by decide +kernel) rfl ⟨Nat.le_of_ble_eq_true rfl, Nat.le_of_ble_eq_true rfl⟩ (ci := 6) (q0 := 0) rfl rfl rfl (Nat.le_of_ble_eq_true rfl) rfl (by decide +kernel) rfl rfl dX6_isHung_13 rfl ⟨Nat.le_of_ble_eq_true rfl, Nat.le_of_ble_eq_true rfl⟩ ?_
      refine g_eqi (y := nI (S (100 + 5 * j))) rfl ?_
      refine g_iload_n X 2 17 dX6_isHung_16 rfl rfl rfl ?_
      refine g_icmp_ne X 20 22 dX6_isHung_17 rfl (by decide) (nI_eq (by omega) (by omega)) (fun hq => ?_) (fun hq => ?_)
      · refine g_iinc X 0 (nI (j + 1)) [(2, .int (nI (j + 1))), (0, .ref m6), (1, .int (nI pl))] 25 dX6_isHung_22 rfl rfl (nI_inc _) (by decide) rfl ?_
        refine g_goto X 2 dX6_isHung_25 (by decide) ?_
        exact ih_j (lt_s hno hq)
      · refine g_iconst X (nI 1) 21 dX6_isHung_20 rfl (by decide +kernel) ?_
        refine g_eqi (y := nI (bn (hung S nr pl))) (by rw [hung_t hj hq]; rfl) ?_
        exact ret _ _ _ _ dX6_isHung_21 (bn_nar _) ⟨rfl, rfl⟩
  exact L 0 (Nat.zero_le _) (fun r hr => absurd hr (Nat.not_lt_zero r))

abbrev rm_X6_isFeastOn : Room := { frames := 0, cells := 0, slots := 0, locals := 0 }
set_option maxHeartbeats 4000000 in
set_option maxRecDepth 100000 in
theorem m_X6_isFeastOn (l : Launch) (D : va_G) (cI cZ cJ : ClassId) (m6 th nw nr nf q1 q2 q3 q4 q5 q6 : Nat) (dy : Nat) (fe fo : Nat → Nat) (hf : feOk fe nf) (hd : dy < 2 ^ 30) (ho : ∀ k : Nat, k < nf → fo k < 2 ^ 30) : MI l yX6_isFeastOn wsX6_isFeastOn rm_X6_isFeastOn D (gT cI cZ cJ) [(m6, .inr (6, [.int (nI th), .int (nI nw), .int (nI nr), .int (nI nf), .ref q1, .ref q2, .ref q3, .ref q4, .ref q5, .ref q6])), (q3, .inl (cI, 4, .inl (v4 fe))), (q4, .inl (cI, 4, .inl (v4 fo)))] [.ref m6, .int (nI dy)] (fun r u => r = nI (bn (feastOn fe fo nf dy)) ∧ u = [(m6, .inr (6, [.int (nI th), .int (nI nw), .int (nI nr), .int (nI nf), .ref q1, .ref q2, .ref q3, .ref q4, .ref q5, .ref q6])), (q3, .inl (cI, 4, .inl (v4 fe))), (q4, .inl (cI, 4, .inl (v4 fo)))]) := by
  refine MI_of [(0, .ref m6), (1, .int (nI dy))] (by decide) rfl (Nat.le_of_ble_eq_true rfl) rfl ?_
  intro p e s m args below meth c A Q X ret
  have hiX6 : ∀ w ∈ wsX60, w ∈ wsX6_isFeastOn := (fun _ h => List.mem_cons_of_mem _ (List.mem_append_right _ h))
  have hn4 : nf ≤ 4 := hf.1
  refine g_iconst X (nI 0) 1 dX6_isFeastOn_0 rfl (by decide +kernel) ?_
  refine g_istore_n X [(2, .int (nI 0)), (0, .ref m6), (1, .int (nI dy))] 2 dX6_isFeastOn_1 rfl rfl (by decide) rfl ?_
  have L : ∀ j : Nat, j ≤ nf → (∀ k : Nat, k < j → ¬ dy % fe k = fo k) → G p l e rm_X6_isFeastOn s m args below meth c Q D A 3 0 0 [(m6, .inr (6, [.int (nI th), .int (nI nw), .int (nI nr), .int (nI nf), .ref q1, .ref q2, .ref q3, .ref q4, .ref q5, .ref q6])), (q3, .inl (cI, 4, .inl (v4 fe))), (q4, .inl (cI, 4, .inl (v4 fo)))] [(2, .int (nI j)), (0, .ref m6), (1, .int (nI dy))] 2 [] := by
    refine g_down _ ?_ ?_
    · intro hno
      refine g_iload_n X 0 3 dX6_isFeastOn_2 rfl rfl rfl ?_
      refine g_aload_n X 1 4 dX6_isFeastOn_3 rfl rfl rfl ?_
      refine g_get X hiX6 0 3 7 rfl rfl (by decide) (List.mem_of_getElem? (i := 1) rfl) rfl dX6_isFeastOn_4 rfl ?_
      refine g_icmp_ge X 10 35 dX6_isFeastOn_7 rfl (by decide) (nI_leI (by omega) (by omega)) (fun h7 => ?_) (fun h7 => absurd (Nat.le_refl _) h7)
      refine g_iconst X (nI 0) 36 dX6_isFeastOn_35 rfl (by decide +kernel) ?_
      refine g_eqi (y := nI (bn (feastOn fe fo nf dy))) (by rw [feast_f hno]; rfl) ?_
      exact ret _ _ _ _ dX6_isFeastOn_36 (bn_nar _) ⟨rfl, rfl⟩
    · intro j hj ih_j hno
      refine g_iload_n X 0 3 dX6_isFeastOn_2 rfl rfl rfl ?_
      refine g_aload_n X 1 4 dX6_isFeastOn_3 rfl rfl rfl ?_
      refine g_get X hiX6 0 3 7 rfl rfl (by decide) (List.mem_of_getElem? (i := 1) rfl) rfl dX6_isFeastOn_4 rfl ?_
      refine g_icmp_ge X 10 35 dX6_isFeastOn_7 rfl (by decide) (nI_leI (by omega) (by omega)) (fun h7 => absurd h7 (by omega)) (fun h7 => ?_)
      have hfj := hf.2 j hj
      have hoj := ho j hj
      have hmod : dy % fe j < fe j := Nat.mod_lt _ (by omega)
      refine g_iload_n X 2 11 dX6_isFeastOn_10 rfl rfl rfl ?_
      refine g_aload_n X 1 12 dX6_isFeastOn_11 rfl rfl rfl ?_
      refine g_get X hiX6 0 6 15 rfl rfl (by decide) (List.mem_of_getElem? (i := 2) rfl) rfl dX6_isFeastOn_12 rfl ?_
      refine g_iload_n X 0 16 dX6_isFeastOn_15 rfl rfl rfl ?_
      refine g_iald X 1 0 (j) (nI (fe j)) 17 rfl rfl (by omega) (by decide) (v4_at (by omega)) dX6_isFeastOn_16 rfl ?_
      refine g_irem X (nI (dy % (fe j))) 18 dX6_isFeastOn_17 rfl (nI_ne0 (by omega) (by omega)) (pk_rem (by omega) (by omega) (by omega)) ?_
      refine g_aload_n X 1 19 dX6_isFeastOn_18 rfl rfl rfl ?_
      refine g_get X hiX6 0 7 22 rfl rfl (by decide) (List.mem_of_getElem? (i := 3) rfl) rfl dX6_isFeastOn_19 rfl ?_
      refine g_iload_n X 0 23 dX6_isFeastOn_22 rfl rfl rfl ?_
      refine g_iald X 2 0 (j) (nI (fo j)) 24 rfl rfl (by omega) (by decide) (v4_at (by omega)) dX6_isFeastOn_23 rfl ?_
      refine g_icmp_ne X 27 29 dX6_isFeastOn_24 rfl (by decide) (nI_eq (by omega) (by omega)) (fun hq => ?_) (fun hq => ?_)
      · refine g_iinc X 0 (nI (j + 1)) [(2, .int (nI (j + 1))), (0, .ref m6), (1, .int (nI dy))] 32 dX6_isFeastOn_29 rfl rfl (nI_inc _) (by decide) rfl ?_
        refine g_goto X 2 dX6_isFeastOn_32 (by decide) ?_
        exact ih_j (lt_s hno hq)
      · refine g_iconst X (nI 1) 28 dX6_isFeastOn_27 rfl (by decide +kernel) ?_
        refine g_eqi (y := nI (bn (feastOn fe fo nf dy))) (by rw [feast_t hj hq]; rfl) ?_
        exact ret _ _ _ _ dX6_isFeastOn_28 (bn_nar _) ⟨rfl, rfl⟩
  exact L 0 (Nat.zero_le _) (fun k hk => absurd hk (Nat.not_lt_zero k))

abbrev rm_X6_keep : Room := { frames := 1, cells := 0, slots := 0, locals := 80 }
set_option maxHeartbeats 4000000 in
set_option maxRecDepth 100000 in
theorem m_X6_keep (l : Launch) (D : va_G) (cI cZ cJ : ClassId) (m6 th nw nr nf q1 q2 q3 q4 q5 q6 : Nat) (S K : Nat → Nat)  : MV l yX6_keep wsX6_keep rm_X6_keep D (gT cI cZ cJ) [(m6, .inr (6, [.int (nI th), .int (nI nw), .int (nI nr), .int (nI nf), .ref q1, .ref q2, .ref q3, .ref q4, .ref q5, .ref q6])), (q5, .inl (cI, 130, .inl (vn S))), (q6, .inl (cI, 130, .inl (vn K)))] [.ref m6] (fun u => u = [(m6, .inr (6, [.int (nI th), .int (nI nw), .int (nI nr), .int (nI nf), .ref q1, .ref q2, .ref q3, .ref q4, .ref q5, .ref q6])), (q5, .inl (cI, 130, .inl (vn S))), (q6, .inl (cI, 130, .inl (vn S)))]) := by
  refine MV_of [(0, .ref m6)] (by decide) rfl (Nat.le_of_ble_eq_true rfl) rfl ?_
  intro p e s m args below meth c A Q X ret
  have hiX6 : ∀ w ∈ wsX60, w ∈ wsX6_keep := (fun _ h => List.mem_cons_of_mem _ (List.mem_append_right _ h))
  refine g_aload_n X 0 1 dX6_keep_0 rfl rfl rfl ?_
  refine g_get X hiX6 0 8 4 rfl rfl (by decide) (List.mem_of_getElem? (i := 1) rfl) rfl dX6_keep_1 rfl ?_
  refine g_iconst X (nI 0) 5 dX6_keep_4 rfl (by decide +kernel) ?_
  refine g_aload_n X 0 6 dX6_keep_5 rfl rfl rfl ?_
  refine g_get X hiX6 0 9 9 rfl rfl (by decide) (List.mem_of_getElem? (i := 2) rfl) rfl dX6_keep_6 rfl ?_
  refine g_iconst X (nI 0) 10 dX6_keep_9 rfl (by decide +kernel) ?_
  refine g_sipush X (nI 130) 13 dX6_keep_10 rfl (by decide +kernel) ?_
  refine g_copy (ws' := [(m6, .inr (6, [.int (nI th), .int (nI nw), .int (nI nr), .int (nI nf), .ref q1, .ref q2, .ref q3, .ref q4, .ref q5, .ref q6])), (q5, .inl (cI, 130, .inl (vn S))), (q6, .inl (cI, 130, .inl (vn S)))]) X 1 2 (0) (0) (130) (vn S) 16 (List.mem_of_getElem? (i := 3) rfl) (List.mem_of_getElem? (i := 4) rfl) (List.mem_of_getElem? (i := 5) rfl) (List.mem_of_getElem? (i := 6) rfl) rfl rfl rfl (by omega) (by omega) (by decide) (by decide) (Nat.le_of_ble_eq_true rfl) (Nat.le_of_ble_eq_true rfl) vn_cpy dX6_keep_13 rfl rfl ?_
  exact ret _ _ _ dX6_keep_16 rfl

abbrev rm_X6_bringBack : Room := { frames := 1, cells := 0, slots := 0, locals := 80 }
set_option maxHeartbeats 4000000 in
set_option maxRecDepth 100000 in
theorem m_X6_bringBack (l : Launch) (D : va_G) (cI cZ cJ : ClassId) (m6 th nw nr nf q1 q2 q3 q4 q5 q6 : Nat) (S K : Nat → Nat)  : MV l yX6_bringBack wsX6_bringBack rm_X6_bringBack D (gT cI cZ cJ) [(m6, .inr (6, [.int (nI th), .int (nI nw), .int (nI nr), .int (nI nf), .ref q1, .ref q2, .ref q3, .ref q4, .ref q5, .ref q6])), (q5, .inl (cI, 130, .inl (vn S))), (q6, .inl (cI, 130, .inl (vn K)))] [.ref m6] (fun u => u = [(m6, .inr (6, [.int (nI th), .int (nI nw), .int (nI nr), .int (nI nf), .ref q1, .ref q2, .ref q3, .ref q4, .ref q5, .ref q6])), (q5, .inl (cI, 130, .inl (vn K))), (q6, .inl (cI, 130, .inl (vn K)))]) := by
  refine MV_of [(0, .ref m6)] (by decide) rfl (Nat.le_of_ble_eq_true rfl) rfl ?_
  intro p e s m args below meth c A Q X ret
  have hiX6 : ∀ w ∈ wsX60, w ∈ wsX6_bringBack := (fun _ h => List.mem_cons_of_mem _ (List.mem_append_right _ h))
  refine g_aload_n X 0 1 dX6_bringBack_0 rfl rfl rfl ?_
  refine g_get X hiX6 0 9 4 rfl rfl (by decide) (List.mem_of_getElem? (i := 1) rfl) rfl dX6_bringBack_1 rfl ?_
  refine g_iconst X (nI 0) 5 dX6_bringBack_4 rfl (by decide +kernel) ?_
  refine g_aload_n X 0 6 dX6_bringBack_5 rfl rfl rfl ?_
  refine g_get X hiX6 0 8 9 rfl rfl (by decide) (List.mem_of_getElem? (i := 2) rfl) rfl dX6_bringBack_6 rfl ?_
  refine g_iconst X (nI 0) 10 dX6_bringBack_9 rfl (by decide +kernel) ?_
  refine g_sipush X (nI 130) 13 dX6_bringBack_10 rfl (by decide +kernel) ?_
  refine g_copy (ws' := [(m6, .inr (6, [.int (nI th), .int (nI nw), .int (nI nr), .int (nI nf), .ref q1, .ref q2, .ref q3, .ref q4, .ref q5, .ref q6])), (q5, .inl (cI, 130, .inl (vn K))), (q6, .inl (cI, 130, .inl (vn K)))]) X 2 1 (0) (0) (130) (vn K) 16 (List.mem_of_getElem? (i := 3) rfl) (List.mem_of_getElem? (i := 4) rfl) (List.mem_of_getElem? (i := 5) rfl) (List.mem_of_getElem? (i := 6) rfl) rfl rfl rfl (by omega) (by omega) (by decide) (by decide) (Nat.le_of_ble_eq_true rfl) (Nat.le_of_ble_eq_true rfl) vn_cpy dX6_bringBack_13 rfl rfl ?_
  exact ret _ _ _ dX6_bringBack_16 rfl

abbrev rm_X6_rope : Room := { frames := 2, cells := 0, slots := 0, locals := 44 }
set_option maxHeartbeats 4000000 in
set_option maxRecDepth 100000 in
theorem m_X6_rope (l : Launch) (D : va_G) (cI cZ cJ : ClassId) (m6 th nw nr nf q1 q2 q3 q4 q5 q6 : Nat) (x t : Int32) (wy : Nat) (S st : Nat → Nat) (hg : Gw S nr) (hw : wy ≤ 1) : MI l yX6_rope wsX6_rope rm_X6_rope D (gT cI cZ cJ) [(m6, .inr (6, [.int (nI th), .int (nI nw), .int (nI nr), .int (nI nf), .ref q1, .ref q2, .ref q3, .ref q4, .ref q5, .ref q6])), (q2, .inl (cI, 6, .inl (v6 st))), (q5, .inl (cI, 130, .inl (vn S)))] [.ref m6, .int x, .int t, .int (nI (1 - wy))] (fun r9 u9 => (ropE S nr x t = 0 → r9 = nI nr ∧ u9 = [(m6, .inr (6, [.int (nI 0), .int (nI nw), .int (nI (nr + 1)), .int (nI nf), .ref q1, .ref q2, .ref q3, .ref q4, .ref q5, .ref q6])), (q2, .inl (cI, 6, .inl (v6 (up st nr (tn t))))), (q5, .inl (cI, 130, .inl (vn (ptR S nr (tn x) wy))))]) ∧ (¬ ropE S nr x t = 0 → r9 = nI 0 ∧ u9 = [(m6, .inr (6, [.int (nI (ropE S nr x t)), .int (nI nw), .int (nI nr), .int (nI nf), .ref q1, .ref q2, .ref q3, .ref q4, .ref q5, .ref q6])), (q2, .inl (cI, 6, .inl (v6 st))), (q5, .inl (cI, 130, .inl (vn S)))])) := by
  refine MI_of [(0, .ref m6), (1, .int x), (2, .int t), (3, .int (nI (1 - wy)))] (by decide) rfl (Nat.le_of_ble_eq_true rfl) rfl ?_
  intro p e s m args below meth c A Q X ret
  have hiX6 : ∀ w ∈ wsX60, w ∈ wsX6_rope := (fun _ h => List.mem_cons_of_mem _ (List.mem_append_right _ h))
  have hn : nr ≤ 6 := hg.1
  refine g_aload_n X 0 1 dX6_rope_0 rfl rfl rfl ?_
  refine g_iconst X (nI 0) 2 dX6_rope_1 rfl (by decide +kernel) ?_
  refine g_put (ws' := [(m6, .inr (6, [.int (nI 0), .int (nI nw), .int (nI nr), .int (nI nf), .ref q1, .ref q2, .ref q3, .ref q4, .ref q5, .ref q6])), (q2, .inl (cI, 6, .inl (v6 st))), (q5, .inl (cI, 130, .inl (vn S)))]) X hiX6 tyX6 tyX6_ok nmX6 0 0 5 rfl rfl (by decide) (List.mem_of_getElem? (i := 1) rfl) rfl (ty := .int) (by decide +kernel) rfl rfl (Nat.le_of_ble_eq_true rfl) dX6_rope_2 rfl rfl ?_
  refine g_iload_n X 1 6 dX6_rope_5 rfl rfl rfl ?_
  refine g_iconst X (nI 0) 7 dX6_rope_6 rfl (by decide +kernel) ?_
  refine g_bipush X (nI 11) 9 dX6_rope_7 rfl (by decide +kernel) ?_
  refine g_callSi (ws' := [(m6, .inr (6, [.int (nI 0), .int (nI nw), .int (nI nr), .int (nI nf), .ref q1, .ref q2, .ref q3, .ref q4, .ref q5, .ref q6])), (q2, .inl (cI, 6, .inl (v6 st))), (q5, .inl (cI, 130, .inl (vn S)))]) X (m_X6_isIn l D cI cZ cJ x (nI 0) (nI 11)) 12 [] gX6_rope_X6_isIn (n := 3) rfl (by decide +kernel) rfl ⟨Nat.le_of_ble_eq_true rfl, Nat.le_of_ble_eq_true rfl⟩ rfl (Nat.le_of_ble_eq_true rfl) rfl (by decide +kernel) rfl rfl dX6_rope_9 rfl ⟨Nat.le_of_ble_eq_true rfl, Nat.le_of_ble_eq_true rfl⟩ ?_
  refine g_eqi (y := nI (bn (decide (isR 12 x)))) (bn_is rfl (by decide)) ?_
  refine g_if_ne X 15 21 dX6_rope_12 rfl (by decide) (bn_dec decide_eq_true_iff) (fun h12 => ?_) (fun h12 => ?_)
  · have hA : isR 12 x := Classical.not_not.mp h12
    refine g_iload_n X 2 22 dX6_rope_21 rfl rfl rfl ?_
    refine g_iconst X (nI 1) 23 dX6_rope_22 rfl (by decide +kernel) ?_
    refine g_bipush X (nI 30) 25 dX6_rope_23 rfl (by decide +kernel) ?_
    refine g_callSi (ws' := [(m6, .inr (6, [.int (nI 0), .int (nI nw), .int (nI nr), .int (nI nf), .ref q1, .ref q2, .ref q3, .ref q4, .ref q5, .ref q6])), (q2, .inl (cI, 6, .inl (v6 st))), (q5, .inl (cI, 130, .inl (vn S)))]) X (m_X6_isIn l D cI cZ cJ t (nI 1) (nI 30)) 28 [] gX6_rope_X6_isIn (n := 3) rfl (by decide +kernel) rfl ⟨Nat.le_of_ble_eq_true rfl, Nat.le_of_ble_eq_true rfl⟩ rfl (Nat.le_of_ble_eq_true rfl) rfl (by decide +kernel) rfl rfl dX6_rope_25 rfl ⟨Nat.le_of_ble_eq_true rfl, Nat.le_of_ble_eq_true rfl⟩ ?_
    refine g_if_ne X 31 37 dX6_rope_28 rfl (by decide) (bn_dec decide_eq_true_iff) (fun h28 => ?_) (fun h28 => ?_)
    · have hB : inR t (nI 1) (nI 30) := Classical.not_not.mp h28
      obtain ⟨ix, hx1, rfl⟩ := isR_nat hA (by decide)
      refine g_aload_n X 0 38 dX6_rope_37 rfl rfl rfl ?_
      refine g_get X hiX6 0 2 41 rfl rfl (by decide) (List.mem_of_getElem? (i := 2) rfl) rfl dX6_rope_38 rfl ?_
      refine g_bipush X (nI 6) 43 dX6_rope_41 rfl (by decide +kernel) ?_
      refine g_icmp_eq X 46 54 dX6_rope_43 rfl (by decide) (nI_eq (by omega) (by omega)) (fun h43 => ?_) (fun h43 => ?_)
      · refine g_aload_n X 0 55 dX6_rope_54 rfl rfl rfl ?_
        refine g_iconst X (nI 3) 56 dX6_rope_55 rfl (by decide +kernel) ?_
        refine g_callVi (ws' := [(m6, .inr (6, [.int (nI 3), .int (nI nw), .int (nI nr), .int (nI nf), .ref q1, .ref q2, .ref q3, .ref q4, .ref q5, .ref q6])), (q2, .inl (cI, 6, .inl (v6 st))), (q5, .inl (cI, 130, .inl (vn S)))]) X (m_X6_fail l D cI cZ cJ m6 0 nw nr nf q1 q2 q3 q4 q5 q6 3) 59 [0] gX6_rope_X6_fail (n := 1) rfl (by decide +kernel) rfl ⟨Nat.le_of_ble_eq_true rfl, Nat.le_of_ble_eq_true rfl⟩ (ci := 6) (q0 := 0) rfl rfl rfl (Nat.le_of_ble_eq_true rfl) rfl (by decide +kernel) rfl rfl dX6_rope_56 rfl ⟨Nat.le_of_ble_eq_true rfl, Nat.le_of_ble_eq_true rfl⟩ ?_
        have hE := (show ropE S nr (nI ix) t = 3 from (if_neg (fun z => z hA)).trans ((if_neg (fun z => z hB)).trans (if_pos (Or.inl h43))))
        exact ret _ _ _ _ dX6_rope_59 rfl ⟨fun z => absurd (hE.symm.trans z) (by decide), fun _ => ⟨rfl, by rw [hE]⟩⟩
      · refine g_aload_n X 0 47 dX6_rope_46 rfl rfl rfl ?_
        refine g_iload_n X 1 48 dX6_rope_47 rfl rfl rfl ?_
        refine g_callVi (ws' := [(m6, .inr (6, [.int (nI 0), .int (nI nw), .int (nI nr), .int (nI nf), .ref q1, .ref q2, .ref q3, .ref q4, .ref q5, .ref q6])), (q2, .inl (cI, 6, .inl (v6 st))), (q5, .inl (cI, 130, .inl (vn S)))]) X (m_X6_isHung l D cI cZ cJ m6 0 nw nr nf q1 q2 q3 q4 q5 q6 ix S hn (fun r hr => (hg.2.2 r hr).1) hx1) 51 [0, 2] gX6_rope_X6_isHung (n := 1) rfl (by decide +kernel) rfl ⟨Nat.le_of_ble_eq_true rfl, Nat.le_of_ble_eq_true rfl⟩ (ci := 6) (q0 := 0) rfl rfl rfl (Nat.le_of_ble_eq_true rfl) rfl (by decide +kernel) rfl rfl dX6_rope_48 rfl ⟨Nat.le_of_ble_eq_true rfl, Nat.le_of_ble_eq_true rfl⟩ ?_
        refine g_if_eq X 54 60 dX6_rope_51 rfl (by decide) (bn_eq0 _) (fun h51 => ?_) (fun h51 => ?_)
        · have hE : ropE S nr (nI ix) t = 0 := (if_neg (fun z => z hA)).trans ((if_neg (fun z => z hB)).trans (if_neg (fun z => z.elim (fun z => by omega) (fun z => by rw [tn_nI (by omega), h51] at z; cases z))))
          obtain ⟨it, ht1, ht2, rfl⟩ := inR_nat hB (by decide) (by decide)
          rw [tn_nI (show ix < 2 ^ 31 by omega), tn_nI (show it < 2 ^ 31 by omega)] at ret
          refine g_aload_n X 0 61 dX6_rope_60 rfl rfl rfl ?_
          refine g_get X hiX6 0 5 64 rfl rfl (by decide) (List.mem_of_getElem? (i := 3) rfl) rfl dX6_rope_61 rfl ?_
          refine g_aload_n X 0 65 dX6_rope_64 rfl rfl rfl ?_
          refine g_get X hiX6 0 2 68 rfl rfl (by decide) (List.mem_of_getElem? (i := 2) rfl) rfl dX6_rope_65 rfl ?_
          refine g_iload_n X 2 69 dX6_rope_68 rfl rfl rfl ?_
          refine g_iast (ws' := [(m6, .inr (6, [.int (nI 0), .int (nI nw), .int (nI nr), .int (nI nf), .ref q1, .ref q2, .ref q3, .ref q4, .ref q5, .ref q6])), (q2, .inl (cI, 6, .inl (v6 (up st nr it)))), (q5, .inl (cI, 130, .inl (vn S)))]) X 1 0 (nr) (v6 (up st nr it)) 70 rfl rfl (by omega) (by decide) (v6_up (by omega)) dX6_rope_69 rfl rfl ?_
          refine g_aload_n X 0 71 dX6_rope_70 rfl rfl rfl ?_
          refine g_aload_n X 0 72 dX6_rope_71 rfl rfl rfl ?_
          refine g_get X hiX6 0 2 75 rfl rfl (by decide) (List.mem_of_getElem? (i := 2) rfl) rfl dX6_rope_72 rfl ?_
          refine g_iconst X (nI 0) 76 dX6_rope_75 rfl (by decide +kernel) ?_
          refine g_iload_n X 1 77 dX6_rope_76 rfl rfl rfl ?_
          refine g_callVv (ws' := [(m6, .inr (6, [.int (nI 0), .int (nI nw), .int (nI nr), .int (nI nf), .ref q1, .ref q2, .ref q3, .ref q4, .ref q5, .ref q6])), (q2, .inl (cI, 6, .inl (v6 (up st nr it)))), (q5, .inl (cI, 130, .inl (vn (up S (100 + 5 * nr) ix))))]) X (m_X6_let l D cI cZ cJ m6 0 nw nr nf q1 q2 q3 q4 q5 q6 nr 0 ix S (by omega)) 80 [0, 2] gX6_rope_X6_let (n := 3) rfl (by decide +kernel) rfl ⟨Nat.le_of_ble_eq_true rfl, Nat.le_of_ble_eq_true rfl⟩ (ci := 6) (q0 := 0) rfl rfl rfl (Nat.le_of_ble_eq_true rfl) rfl (by decide +kernel) rfl rfl dX6_rope_77 rfl ⟨Nat.le_of_ble_eq_true rfl, Nat.le_of_ble_eq_true rfl⟩ ?_
          refine g_aload_n X 0 81 dX6_rope_80 rfl rfl rfl ?_
          refine g_aload_n X 0 82 dX6_rope_81 rfl rfl rfl ?_
          refine g_get X hiX6 0 2 85 rfl rfl (by decide) (List.mem_of_getElem? (i := 2) rfl) rfl dX6_rope_82 rfl ?_
          refine g_iconst X (nI 2) 86 dX6_rope_85 rfl (by decide +kernel) ?_
          refine g_iload_n X 3 87 dX6_rope_86 rfl rfl rfl ?_
          refine g_if_eq X 90 94 dX6_rope_87 rfl (by decide) (nz_eq (by omega)) (fun h87 => ?_) (fun h87 => ?_)
          · refine g_iconst X (nI 1) 95 dX6_rope_94 rfl (by decide +kernel) ?_
            refine g_eqi (y := nI wy) (congrArg nI (by omega)) ?_
            refine g_callVv (ws' := [(m6, .inr (6, [.int (nI 0), .int (nI nw), .int (nI nr), .int (nI nf), .ref q1, .ref q2, .ref q3, .ref q4, .ref q5, .ref q6])), (q2, .inl (cI, 6, .inl (v6 (up st nr it)))), (q5, .inl (cI, 130, .inl (vn (up (up S (100 + 5 * nr) ix) (100 + 5 * nr + 2) wy))))]) X (m_X6_let l D cI cZ cJ m6 0 nw nr nf q1 q2 q3 q4 q5 q6 nr 2 wy (up S (100 + 5 * nr) ix) (by omega)) 98 [0, 2] gX6_rope_X6_let (n := 3) rfl (by decide +kernel) rfl ⟨Nat.le_of_ble_eq_true rfl, Nat.le_of_ble_eq_true rfl⟩ (ci := 6) (q0 := 0) rfl rfl rfl (Nat.le_of_ble_eq_true rfl) rfl (by decide +kernel) rfl rfl dX6_rope_95 rfl ⟨Nat.le_of_ble_eq_true rfl, Nat.le_of_ble_eq_true rfl⟩ ?_
            refine g_aload_n X 0 99 dX6_rope_98 rfl rfl rfl ?_
            refine g_dup X 100 dX6_rope_99 rfl rfl ?_
            refine g_get X hiX6 0 2 103 rfl rfl (by decide) (List.mem_of_getElem? (i := 2) rfl) rfl dX6_rope_100 rfl ?_
            refine g_iconst X (nI 1) 104 dX6_rope_103 rfl (by decide +kernel) ?_
            refine g_iadd X (nI (nr + 1)) 105 dX6_rope_104 rfl (nI_add _ _) ?_
            refine g_put (ws' := [(m6, .inr (6, [.int (nI 0), .int (nI nw), .int (nI (nr + 1)), .int (nI nf), .ref q1, .ref q2, .ref q3, .ref q4, .ref q5, .ref q6])), (q2, .inl (cI, 6, .inl (v6 (up st nr it)))), (q5, .inl (cI, 130, .inl (vn (up (up S (100 + 5 * nr) ix) (100 + 5 * nr + 2) wy))))]) X hiX6 tyX6 tyX6_ok nmX6 0 2 108 rfl rfl (by decide) (List.mem_of_getElem? (i := 2) rfl) rfl (ty := .int) (by decide +kernel) rfl rfl (Nat.le_of_ble_eq_true rfl) dX6_rope_105 rfl rfl ?_
            refine g_aload_n X 0 109 dX6_rope_108 rfl rfl rfl ?_
            refine g_get X hiX6 0 2 112 rfl rfl (by decide) (List.mem_of_getElem? (i := 2) rfl) rfl dX6_rope_109 rfl ?_
            refine g_iconst X (nI 1) 113 dX6_rope_112 rfl (by decide +kernel) ?_
            refine g_isub X (nI ((nr + 1) - 1)) 114 dX6_rope_113 rfl (pk_sub (by omega)) ?_
            exact ret _ _ _ _ dX6_rope_114 rfl ⟨fun _ => ⟨congrArg nI (by omega), rfl⟩, fun z => absurd hE z⟩
          · refine g_iconst X (nI 0) 91 dX6_rope_90 rfl (by decide +kernel) ?_
            refine g_goto X 95 dX6_rope_91 (by decide) ?_
            refine g_eqi (y := nI wy) (congrArg nI (by omega)) ?_
            refine g_callVv (ws' := [(m6, .inr (6, [.int (nI 0), .int (nI nw), .int (nI nr), .int (nI nf), .ref q1, .ref q2, .ref q3, .ref q4, .ref q5, .ref q6])), (q2, .inl (cI, 6, .inl (v6 (up st nr it)))), (q5, .inl (cI, 130, .inl (vn (up (up S (100 + 5 * nr) ix) (100 + 5 * nr + 2) wy))))]) X (m_X6_let l D cI cZ cJ m6 0 nw nr nf q1 q2 q3 q4 q5 q6 nr 2 wy (up S (100 + 5 * nr) ix) (by omega)) 98 [0, 2] gX6_rope_X6_let (n := 3) rfl (by decide +kernel) rfl ⟨Nat.le_of_ble_eq_true rfl, Nat.le_of_ble_eq_true rfl⟩ (ci := 6) (q0 := 0) rfl rfl rfl (Nat.le_of_ble_eq_true rfl) rfl (by decide +kernel) rfl rfl dX6_rope_95 rfl ⟨Nat.le_of_ble_eq_true rfl, Nat.le_of_ble_eq_true rfl⟩ ?_
            refine g_aload_n X 0 99 dX6_rope_98 rfl rfl rfl ?_
            refine g_dup X 100 dX6_rope_99 rfl rfl ?_
            refine g_get X hiX6 0 2 103 rfl rfl (by decide) (List.mem_of_getElem? (i := 2) rfl) rfl dX6_rope_100 rfl ?_
            refine g_iconst X (nI 1) 104 dX6_rope_103 rfl (by decide +kernel) ?_
            refine g_iadd X (nI (nr + 1)) 105 dX6_rope_104 rfl (nI_add _ _) ?_
            refine g_put (ws' := [(m6, .inr (6, [.int (nI 0), .int (nI nw), .int (nI (nr + 1)), .int (nI nf), .ref q1, .ref q2, .ref q3, .ref q4, .ref q5, .ref q6])), (q2, .inl (cI, 6, .inl (v6 (up st nr it)))), (q5, .inl (cI, 130, .inl (vn (up (up S (100 + 5 * nr) ix) (100 + 5 * nr + 2) wy))))]) X hiX6 tyX6 tyX6_ok nmX6 0 2 108 rfl rfl (by decide) (List.mem_of_getElem? (i := 2) rfl) rfl (ty := .int) (by decide +kernel) rfl rfl (Nat.le_of_ble_eq_true rfl) dX6_rope_105 rfl rfl ?_
            refine g_aload_n X 0 109 dX6_rope_108 rfl rfl rfl ?_
            refine g_get X hiX6 0 2 112 rfl rfl (by decide) (List.mem_of_getElem? (i := 2) rfl) rfl dX6_rope_109 rfl ?_
            refine g_iconst X (nI 1) 113 dX6_rope_112 rfl (by decide +kernel) ?_
            refine g_isub X (nI ((nr + 1) - 1)) 114 dX6_rope_113 rfl (pk_sub (by omega)) ?_
            exact ret _ _ _ _ dX6_rope_114 rfl ⟨fun _ => ⟨congrArg nI (by omega), rfl⟩, fun z => absurd hE z⟩
        · refine g_aload_n X 0 55 dX6_rope_54 rfl rfl rfl ?_
          refine g_iconst X (nI 3) 56 dX6_rope_55 rfl (by decide +kernel) ?_
          refine g_callVi (ws' := [(m6, .inr (6, [.int (nI 3), .int (nI nw), .int (nI nr), .int (nI nf), .ref q1, .ref q2, .ref q3, .ref q4, .ref q5, .ref q6])), (q2, .inl (cI, 6, .inl (v6 st))), (q5, .inl (cI, 130, .inl (vn S)))]) X (m_X6_fail l D cI cZ cJ m6 0 nw nr nf q1 q2 q3 q4 q5 q6 3) 59 [0] gX6_rope_X6_fail (n := 1) rfl (by decide +kernel) rfl ⟨Nat.le_of_ble_eq_true rfl, Nat.le_of_ble_eq_true rfl⟩ (ci := 6) (q0 := 0) rfl rfl rfl (Nat.le_of_ble_eq_true rfl) rfl (by decide +kernel) rfl rfl dX6_rope_56 rfl ⟨Nat.le_of_ble_eq_true rfl, Nat.le_of_ble_eq_true rfl⟩ ?_
          have hE := (show ropE S nr (nI ix) t = 3 from (if_neg (fun z => z hA)).trans ((if_neg (fun z => z hB)).trans (if_pos (Or.inr (by rw [tn_nI (by omega)]; simpa using h51)))))
          exact ret _ _ _ _ dX6_rope_59 rfl ⟨fun z => absurd (hE.symm.trans z) (by decide), fun _ => ⟨rfl, by rw [hE]⟩⟩
    · refine g_aload_n X 0 32 dX6_rope_31 rfl rfl rfl ?_
      refine g_iconst X (nI 2) 33 dX6_rope_32 rfl (by decide +kernel) ?_
      refine g_callVi (ws' := [(m6, .inr (6, [.int (nI 2), .int (nI nw), .int (nI nr), .int (nI nf), .ref q1, .ref q2, .ref q3, .ref q4, .ref q5, .ref q6])), (q2, .inl (cI, 6, .inl (v6 st))), (q5, .inl (cI, 130, .inl (vn S)))]) X (m_X6_fail l D cI cZ cJ m6 0 nw nr nf q1 q2 q3 q4 q5 q6 2) 36 [0] gX6_rope_X6_fail (n := 1) rfl (by decide +kernel) rfl ⟨Nat.le_of_ble_eq_true rfl, Nat.le_of_ble_eq_true rfl⟩ (ci := 6) (q0 := 0) rfl rfl rfl (Nat.le_of_ble_eq_true rfl) rfl (by decide +kernel) rfl rfl dX6_rope_33 rfl ⟨Nat.le_of_ble_eq_true rfl, Nat.le_of_ble_eq_true rfl⟩ ?_
      have hE := (show ropE S nr x t = 2 from (if_neg (fun z => z hA)).trans (if_pos h28))
      exact ret _ _ _ _ dX6_rope_36 rfl ⟨fun z => absurd (hE.symm.trans z) (by decide), fun _ => ⟨rfl, by rw [hE]⟩⟩
  · refine g_aload_n X 0 16 dX6_rope_15 rfl rfl rfl ?_
    refine g_iconst X (nI 1) 17 dX6_rope_16 rfl (by decide +kernel) ?_
    refine g_callVi (ws' := [(m6, .inr (6, [.int (nI 1), .int (nI nw), .int (nI nr), .int (nI nf), .ref q1, .ref q2, .ref q3, .ref q4, .ref q5, .ref q6])), (q2, .inl (cI, 6, .inl (v6 st))), (q5, .inl (cI, 130, .inl (vn S)))]) X (m_X6_fail l D cI cZ cJ m6 0 nw nr nf q1 q2 q3 q4 q5 q6 1) 20 [0] gX6_rope_X6_fail (n := 1) rfl (by decide +kernel) rfl ⟨Nat.le_of_ble_eq_true rfl, Nat.le_of_ble_eq_true rfl⟩ (ci := 6) (q0 := 0) rfl rfl rfl (Nat.le_of_ble_eq_true rfl) rfl (by decide +kernel) rfl rfl dX6_rope_17 rfl ⟨Nat.le_of_ble_eq_true rfl, Nat.le_of_ble_eq_true rfl⟩ ?_
    have hE := (show ropE S nr x t = 1 from if_pos h12)
    exact ret _ _ _ _ dX6_rope_20 rfl ⟨fun z => absurd (hE.symm.trans z) (by decide), fun _ => ⟨rfl, by rw [hE]⟩⟩

abbrev rm_X6_feast : Room := { frames := 1, cells := 0, slots := 0, locals := 22 }
set_option maxHeartbeats 4000000 in
set_option maxRecDepth 100000 in
theorem m_X6_feast (l : Launch) (D : va_G) (cI cZ cJ : ClassId) (m6 th nw nr nf q1 q2 q3 q4 q5 q6 : Nat) (ev on : Int32) (fe fo : Nat → Nat) (hn : nf ≤ 4) : MI l yX6_feast wsX6_feast rm_X6_feast D (gT cI cZ cJ) [(m6, .inr (6, [.int (nI th), .int (nI nw), .int (nI nr), .int (nI nf), .ref q1, .ref q2, .ref q3, .ref q4, .ref q5, .ref q6])), (q3, .inl (cI, 4, .inl (v4 fe))), (q4, .inl (cI, 4, .inl (v4 fo)))] [.ref m6, .int ev, .int on] (fun r9 u9 => (feaE nf ev on = 0 → r9 = nI nf ∧ u9 = [(m6, .inr (6, [.int (nI 0), .int (nI nw), .int (nI nr), .int (nI (nf + 1)), .ref q1, .ref q2, .ref q3, .ref q4, .ref q5, .ref q6])), (q3, .inl (cI, 4, .inl (v4 (up fe nf (tn ev))))), (q4, .inl (cI, 4, .inl (v4 (up fo nf (tn on)))))]) ∧ (¬ feaE nf ev on = 0 → r9 = nI 0 ∧ u9 = [(m6, .inr (6, [.int (nI (feaE nf ev on)), .int (nI nw), .int (nI nr), .int (nI nf), .ref q1, .ref q2, .ref q3, .ref q4, .ref q5, .ref q6])), (q3, .inl (cI, 4, .inl (v4 fe))), (q4, .inl (cI, 4, .inl (v4 fo)))])) := by
  refine MI_of [(0, .ref m6), (1, .int ev), (2, .int on)] (by decide) rfl (Nat.le_of_ble_eq_true rfl) rfl ?_
  intro p e s m args below meth c A Q X ret
  have hiX6 : ∀ w ∈ wsX60, w ∈ wsX6_feast := (fun _ h => List.mem_cons_of_mem _ (List.mem_append_right _ h))
  refine g_aload_n X 0 1 dX6_feast_0 rfl rfl rfl ?_
  refine g_iconst X (nI 0) 2 dX6_feast_1 rfl (by decide +kernel) ?_
  refine g_put (ws' := [(m6, .inr (6, [.int (nI 0), .int (nI nw), .int (nI nr), .int (nI nf), .ref q1, .ref q2, .ref q3, .ref q4, .ref q5, .ref q6])), (q3, .inl (cI, 4, .inl (v4 fe))), (q4, .inl (cI, 4, .inl (v4 fo)))]) X hiX6 tyX6 tyX6_ok nmX6 0 0 5 rfl rfl (by decide) (List.mem_of_getElem? (i := 1) rfl) rfl (ty := .int) (by decide +kernel) rfl rfl (Nat.le_of_ble_eq_true rfl) dX6_feast_2 rfl rfl ?_
  refine g_iload_n X 1 6 dX6_feast_5 rfl rfl rfl ?_
  refine g_iconst X (nI 2) 7 dX6_feast_6 rfl (by decide +kernel) ?_
  refine g_bipush X (nI 30) 9 dX6_feast_7 rfl (by decide +kernel) ?_
  refine g_callSi (ws' := [(m6, .inr (6, [.int (nI 0), .int (nI nw), .int (nI nr), .int (nI nf), .ref q1, .ref q2, .ref q3, .ref q4, .ref q5, .ref q6])), (q3, .inl (cI, 4, .inl (v4 fe))), (q4, .inl (cI, 4, .inl (v4 fo)))]) X (m_X6_isIn l D cI cZ cJ ev (nI 2) (nI 30)) 12 [] gX6_feast_X6_isIn (n := 3) rfl (by decide +kernel) rfl ⟨Nat.le_of_ble_eq_true rfl, Nat.le_of_ble_eq_true rfl⟩ rfl (Nat.le_of_ble_eq_true rfl) rfl (by decide +kernel) rfl rfl dX6_feast_9 rfl ⟨Nat.le_of_ble_eq_true rfl, Nat.le_of_ble_eq_true rfl⟩ ?_
  refine g_if_eq X 15 26 dX6_feast_12 rfl (by decide) (bn_dec decide_eq_true_iff) (fun h12 => ?_) (fun h12 => ?_)
  · refine g_aload_n X 0 27 dX6_feast_26 rfl rfl rfl ?_
    refine g_iconst X (nI 1) 28 dX6_feast_27 rfl (by decide +kernel) ?_
    refine g_callVi (ws' := [(m6, .inr (6, [.int (nI 1), .int (nI nw), .int (nI nr), .int (nI nf), .ref q1, .ref q2, .ref q3, .ref q4, .ref q5, .ref q6])), (q3, .inl (cI, 4, .inl (v4 fe))), (q4, .inl (cI, 4, .inl (v4 fo)))]) X (m_X6_fail l D cI cZ cJ m6 0 nw nr nf q1 q2 q3 q4 q5 q6 1) 31 [0] gX6_feast_X6_fail (n := 1) rfl (by decide +kernel) rfl ⟨Nat.le_of_ble_eq_true rfl, Nat.le_of_ble_eq_true rfl⟩ (ci := 6) (q0 := 0) rfl rfl rfl (Nat.le_of_ble_eq_true rfl) rfl (by decide +kernel) rfl rfl dX6_feast_28 rfl ⟨Nat.le_of_ble_eq_true rfl, Nat.le_of_ble_eq_true rfl⟩ ?_
    have hE := (show feaE nf ev on = 1 from if_pos (fun z => h12 z.1))
    exact ret _ _ _ _ dX6_feast_31 rfl ⟨fun z => absurd (hE.symm.trans z) (by decide), fun _ => ⟨rfl, by rw [hE]⟩⟩
  · have hA1 : inR ev (nI 2) (nI 30) := Classical.not_not.mp h12
    have hp : 0 < ev := Int32.lt_of_lt_of_le (by decide +kernel) hA1.1
    refine g_iload_n X 2 16 dX6_feast_15 rfl rfl rfl ?_
    refine g_iconst X (nI 0) 17 dX6_feast_16 rfl (by decide +kernel) ?_
    refine g_iload_n X 1 18 dX6_feast_17 rfl rfl rfl ?_
    refine g_iconst X (nI 1) 19 dX6_feast_18 rfl (by decide +kernel) ?_
    refine g_isub X (ev - (nI 1)) 20 dX6_feast_19 rfl rfl ?_
    refine g_callSi (ws' := [(m6, .inr (6, [.int (nI 0), .int (nI nw), .int (nI nr), .int (nI nf), .ref q1, .ref q2, .ref q3, .ref q4, .ref q5, .ref q6])), (q3, .inl (cI, 4, .inl (v4 fe))), (q4, .inl (cI, 4, .inl (v4 fo)))]) X (m_X6_isIn l D cI cZ cJ on (nI 0) (ev - nI 1)) 23 [] gX6_feast_X6_isIn (n := 3) rfl (by decide +kernel) rfl ⟨Nat.le_of_ble_eq_true rfl, Nat.le_of_ble_eq_true rfl⟩ rfl (Nat.le_of_ble_eq_true rfl) rfl (by decide +kernel) rfl rfl dX6_feast_20 rfl ⟨Nat.le_of_ble_eq_true rfl, Nat.le_of_ble_eq_true rfl⟩ ?_
    refine g_eqi (y := nI (bn (decide (nI 0 ≤ on ∧ on < ev)))) (bn_is9 hp) ?_
    refine g_if_ne X 26 32 dX6_feast_23 rfl (by decide) (bn_dec decide_eq_true_iff) (fun h23 => ?_) (fun h23 => ?_)
    · have hA : inR ev (nI 2) (nI 30) ∧ (nI 0 ≤ on ∧ on < ev) := ⟨hA1, Classical.not_not.mp h23⟩
      refine g_aload_n X 0 33 dX6_feast_32 rfl rfl rfl ?_
      refine g_get X hiX6 0 3 36 rfl rfl (by decide) (List.mem_of_getElem? (i := 2) rfl) rfl dX6_feast_33 rfl ?_
      refine g_iconst X (nI 4) 37 dX6_feast_36 rfl (by decide +kernel) ?_
      refine g_icmp_ne X 40 46 dX6_feast_37 rfl (by decide) (nI_eq (by omega) (by omega)) (fun h37 => ?_) (fun h37 => ?_)
      · have hE : feaE nf ev on = 0 := (if_neg (fun z => z hA)).trans (if_neg h37)
        obtain ⟨iv, hv1, hv2, rfl⟩ := inR_nat hA.1 (by decide) (by decide)
        obtain ⟨io, ho1, rfl⟩ := isR_nat (n := iv) hA.2 (by omega)
        rw [tn_nI (show iv < 2 ^ 31 by omega), tn_nI (show io < 2 ^ 31 by omega)] at ret
        refine g_aload_n X 0 47 dX6_feast_46 rfl rfl rfl ?_
        refine g_get X hiX6 0 6 50 rfl rfl (by decide) (List.mem_of_getElem? (i := 3) rfl) rfl dX6_feast_47 rfl ?_
        refine g_aload_n X 0 51 dX6_feast_50 rfl rfl rfl ?_
        refine g_get X hiX6 0 3 54 rfl rfl (by decide) (List.mem_of_getElem? (i := 2) rfl) rfl dX6_feast_51 rfl ?_
        refine g_iload_n X 1 55 dX6_feast_54 rfl rfl rfl ?_
        refine g_iast (ws' := [(m6, .inr (6, [.int (nI 0), .int (nI nw), .int (nI nr), .int (nI nf), .ref q1, .ref q2, .ref q3, .ref q4, .ref q5, .ref q6])), (q3, .inl (cI, 4, .inl (v4 (up fe nf iv)))), (q4, .inl (cI, 4, .inl (v4 fo)))]) X 1 0 (nf) (v4 (up fe nf iv)) 56 rfl rfl (by omega) (by decide) (v4_up (by omega)) dX6_feast_55 rfl rfl ?_
        refine g_aload_n X 0 57 dX6_feast_56 rfl rfl rfl ?_
        refine g_get X hiX6 0 7 60 rfl rfl (by decide) (List.mem_of_getElem? (i := 4) rfl) rfl dX6_feast_57 rfl ?_
        refine g_aload_n X 0 61 dX6_feast_60 rfl rfl rfl ?_
        refine g_get X hiX6 0 3 64 rfl rfl (by decide) (List.mem_of_getElem? (i := 2) rfl) rfl dX6_feast_61 rfl ?_
        refine g_iload_n X 2 65 dX6_feast_64 rfl rfl rfl ?_
        refine g_iast (ws' := [(m6, .inr (6, [.int (nI 0), .int (nI nw), .int (nI nr), .int (nI nf), .ref q1, .ref q2, .ref q3, .ref q4, .ref q5, .ref q6])), (q3, .inl (cI, 4, .inl (v4 (up fe nf iv)))), (q4, .inl (cI, 4, .inl (v4 (up fo nf io))))]) X 2 0 (nf) (v4 (up fo nf io)) 66 rfl rfl (by omega) (by decide) (v4_up (by omega)) dX6_feast_65 rfl rfl ?_
        refine g_aload_n X 0 67 dX6_feast_66 rfl rfl rfl ?_
        refine g_dup X 68 dX6_feast_67 rfl rfl ?_
        refine g_get X hiX6 0 3 71 rfl rfl (by decide) (List.mem_of_getElem? (i := 2) rfl) rfl dX6_feast_68 rfl ?_
        refine g_iconst X (nI 1) 72 dX6_feast_71 rfl (by decide +kernel) ?_
        refine g_iadd X (nI (nf + 1)) 73 dX6_feast_72 rfl (nI_add _ _) ?_
        refine g_put (ws' := [(m6, .inr (6, [.int (nI 0), .int (nI nw), .int (nI nr), .int (nI (nf + 1)), .ref q1, .ref q2, .ref q3, .ref q4, .ref q5, .ref q6])), (q3, .inl (cI, 4, .inl (v4 (up fe nf iv)))), (q4, .inl (cI, 4, .inl (v4 (up fo nf io))))]) X hiX6 tyX6 tyX6_ok nmX6 0 3 76 rfl rfl (by decide) (List.mem_of_getElem? (i := 2) rfl) rfl (ty := .int) (by decide +kernel) rfl rfl (Nat.le_of_ble_eq_true rfl) dX6_feast_73 rfl rfl ?_
        refine g_aload_n X 0 77 dX6_feast_76 rfl rfl rfl ?_
        refine g_get X hiX6 0 3 80 rfl rfl (by decide) (List.mem_of_getElem? (i := 2) rfl) rfl dX6_feast_77 rfl ?_
        refine g_iconst X (nI 1) 81 dX6_feast_80 rfl (by decide +kernel) ?_
        refine g_isub X (nI ((nf + 1) - 1)) 82 dX6_feast_81 rfl (pk_sub (by omega)) ?_
        exact ret _ _ _ _ dX6_feast_82 rfl ⟨fun _ => ⟨congrArg nI (by omega), rfl⟩, fun z => absurd hE z⟩
      · refine g_aload_n X 0 41 dX6_feast_40 rfl rfl rfl ?_
        refine g_iconst X (nI 2) 42 dX6_feast_41 rfl (by decide +kernel) ?_
        refine g_callVi (ws' := [(m6, .inr (6, [.int (nI 2), .int (nI nw), .int (nI nr), .int (nI nf), .ref q1, .ref q2, .ref q3, .ref q4, .ref q5, .ref q6])), (q3, .inl (cI, 4, .inl (v4 fe))), (q4, .inl (cI, 4, .inl (v4 fo)))]) X (m_X6_fail l D cI cZ cJ m6 0 nw nr nf q1 q2 q3 q4 q5 q6 2) 45 [0] gX6_feast_X6_fail (n := 1) rfl (by decide +kernel) rfl ⟨Nat.le_of_ble_eq_true rfl, Nat.le_of_ble_eq_true rfl⟩ (ci := 6) (q0 := 0) rfl rfl rfl (Nat.le_of_ble_eq_true rfl) rfl (by decide +kernel) rfl rfl dX6_feast_42 rfl ⟨Nat.le_of_ble_eq_true rfl, Nat.le_of_ble_eq_true rfl⟩ ?_
        have hE := (show feaE nf ev on = 2 from (if_neg (fun z => z hA)).trans (if_pos h37))
        exact ret _ _ _ _ dX6_feast_45 rfl ⟨fun z => absurd (hE.symm.trans z) (by decide), fun _ => ⟨rfl, by rw [hE]⟩⟩
    · refine g_aload_n X 0 27 dX6_feast_26 rfl rfl rfl ?_
      refine g_iconst X (nI 1) 28 dX6_feast_27 rfl (by decide +kernel) ?_
      refine g_callVi (ws' := [(m6, .inr (6, [.int (nI 1), .int (nI nw), .int (nI nr), .int (nI nf), .ref q1, .ref q2, .ref q3, .ref q4, .ref q5, .ref q6])), (q3, .inl (cI, 4, .inl (v4 fe))), (q4, .inl (cI, 4, .inl (v4 fo)))]) X (m_X6_fail l D cI cZ cJ m6 0 nw nr nf q1 q2 q3 q4 q5 q6 1) 31 [0] gX6_feast_X6_fail (n := 1) rfl (by decide +kernel) rfl ⟨Nat.le_of_ble_eq_true rfl, Nat.le_of_ble_eq_true rfl⟩ (ci := 6) (q0 := 0) rfl rfl rfl (Nat.le_of_ble_eq_true rfl) rfl (by decide +kernel) rfl rfl dX6_feast_28 rfl ⟨Nat.le_of_ble_eq_true rfl, Nat.le_of_ble_eq_true rfl⟩ ?_
      have hE := (show feaE nf ev on = 1 from if_pos (fun z => h23 z.2))
      exact ret _ _ _ _ dX6_feast_31 rfl ⟨fun z => absurd (hE.symm.trans z) (by decide), fun _ => ⟨rfl, by rw [hE]⟩⟩

abbrev rm_X6_setWind : Room := { frames := 1, cells := 0, slots := 0, locals := 22 }
set_option maxHeartbeats 4000000 in
set_option maxRecDepth 100000 in
theorem m_X6_setWind (l : Launch) (D : va_G) (cI cZ cJ : ClassId) (m6 th nw nr nf q1 q2 q3 q4 q5 q6 : Nat) (w : Int32) (S : Nat → Nat)  : MI l yX6_setWind wsX6_setWind rm_X6_setWind D (gT cI cZ cJ) [(m6, .inr (6, [.int (nI th), .int (nI nw), .int (nI nr), .int (nI nf), .ref q1, .ref q2, .ref q3, .ref q4, .ref q5, .ref q6])), (q5, .inl (cI, 130, .inl (vn S)))] [.ref m6, .int w] (fun r9 u9 => (setE w = 0 → r9 = nI (S 1) ∧ u9 = [(m6, .inr (6, [.int (nI 0), .int (nI nw), .int (nI nr), .int (nI nf), .ref q1, .ref q2, .ref q3, .ref q4, .ref q5, .ref q6])), (q5, .inl (cI, 130, .inl (vn (up S 1 (wdN w)))))]) ∧ (¬ setE w = 0 → r9 = nI 0 ∧ u9 = [(m6, .inr (6, [.int (nI (setE w)), .int (nI nw), .int (nI nr), .int (nI nf), .ref q1, .ref q2, .ref q3, .ref q4, .ref q5, .ref q6])), (q5, .inl (cI, 130, .inl (vn S)))])) := by
  refine MI_of [(0, .ref m6), (1, .int w)] (by decide) rfl (Nat.le_of_ble_eq_true rfl) rfl ?_
  intro p e s m args below meth c A Q X ret
  have hiX6 : ∀ w ∈ wsX60, w ∈ wsX6_setWind := (fun _ h => List.mem_cons_of_mem _ (List.mem_append_right _ h))
  refine g_aload_n X 0 1 dX6_setWind_0 rfl rfl rfl ?_
  refine g_iconst X (nI 0) 2 dX6_setWind_1 rfl (by decide +kernel) ?_
  refine g_put (ws' := [(m6, .inr (6, [.int (nI 0), .int (nI nw), .int (nI nr), .int (nI nf), .ref q1, .ref q2, .ref q3, .ref q4, .ref q5, .ref q6])), (q5, .inl (cI, 130, .inl (vn S)))]) X hiX6 tyX6 tyX6_ok nmX6 0 0 5 rfl rfl (by decide) (List.mem_of_getElem? (i := 1) rfl) rfl (ty := .int) (by decide +kernel) rfl rfl (Nat.le_of_ble_eq_true rfl) dX6_setWind_2 rfl rfl ?_
  refine g_iload_n X 1 6 dX6_setWind_5 rfl rfl rfl ?_
  refine g_bipush X (nIm 5) 8 dX6_setWind_6 rfl (by decide +kernel) ?_
  refine g_iconst X (nI 5) 9 dX6_setWind_8 rfl (by decide +kernel) ?_
  refine g_callSi (ws' := [(m6, .inr (6, [.int (nI 0), .int (nI nw), .int (nI nr), .int (nI nf), .ref q1, .ref q2, .ref q3, .ref q4, .ref q5, .ref q6])), (q5, .inl (cI, 130, .inl (vn S)))]) X (m_X6_isIn l D cI cZ cJ w (nIm 5) (nI 5)) 12 [] gX6_setWind_X6_isIn (n := 3) rfl (by decide +kernel) rfl ⟨Nat.le_of_ble_eq_true rfl, Nat.le_of_ble_eq_true rfl⟩ rfl (Nat.le_of_ble_eq_true rfl) rfl (by decide +kernel) rfl rfl dX6_setWind_9 rfl ⟨Nat.le_of_ble_eq_true rfl, Nat.le_of_ble_eq_true rfl⟩ ?_
  refine g_if_ne X 15 21 dX6_setWind_12 rfl (by decide) (bn_dec decide_eq_true_iff) (fun h12 => ?_) (fun h12 => ?_)
  · have hE : setE w = 0 := if_neg h12
    refine g_aload_n X 0 22 dX6_setWind_21 rfl rfl rfl ?_
    refine g_get X hiX6 0 8 25 rfl rfl (by decide) (List.mem_of_getElem? (i := 2) rfl) rfl dX6_setWind_22 rfl ?_
    refine g_iconst X (nI 1) 26 dX6_setWind_25 rfl (by decide +kernel) ?_
    refine g_iald X 1 0 (1) (nI (S 1)) 27 rfl rfl (by omega) (by decide) (vn_at (by omega)) dX6_setWind_26 rfl ?_
    refine g_istore_n X [(2, .int (nI (S 1))), (0, .ref m6), (1, .int w)] 28 dX6_setWind_27 rfl rfl (by decide) rfl ?_
    refine g_aload_n X 1 29 dX6_setWind_28 rfl rfl rfl ?_
    refine g_get X hiX6 0 8 32 rfl rfl (by decide) (List.mem_of_getElem? (i := 2) rfl) rfl dX6_setWind_29 rfl ?_
    refine g_iconst X (nI 1) 33 dX6_setWind_32 rfl (by decide +kernel) ?_
    refine g_iload_n X 2 34 dX6_setWind_33 rfl rfl rfl ?_
    refine g_iast (ws' := [(m6, .inr (6, [.int (nI 0), .int (nI nw), .int (nI nr), .int (nI nf), .ref q1, .ref q2, .ref q3, .ref q4, .ref q5, .ref q6])), (q5, .inl (cI, 130, .inl (vn (up S 1 (wdN w)))))]) X 1 0 (1) (vn (up S 1 (wdN w))) 35 rfl rfl (by omega) (by decide) (by rw [← vn_up (by omega), wdN_nI]) dX6_setWind_34 rfl rfl ?_
    refine g_iload_n X 0 36 dX6_setWind_35 rfl rfl rfl ?_
    exact ret _ _ _ _ dX6_setWind_36 rfl ⟨fun _ => ⟨rfl, rfl⟩, fun z => absurd hE z⟩
  · refine g_aload_n X 0 16 dX6_setWind_15 rfl rfl rfl ?_
    refine g_iconst X (nI 1) 17 dX6_setWind_16 rfl (by decide +kernel) ?_
    refine g_callVi (ws' := [(m6, .inr (6, [.int (nI 1), .int (nI nw), .int (nI nr), .int (nI nf), .ref q1, .ref q2, .ref q3, .ref q4, .ref q5, .ref q6])), (q5, .inl (cI, 130, .inl (vn S)))]) X (m_X6_fail l D cI cZ cJ m6 0 nw nr nf q1 q2 q3 q4 q5 q6 1) 20 [0] gX6_setWind_X6_fail (n := 1) rfl (by decide +kernel) rfl ⟨Nat.le_of_ble_eq_true rfl, Nat.le_of_ble_eq_true rfl⟩ (ci := 6) (q0 := 0) rfl rfl rfl (Nat.le_of_ble_eq_true rfl) rfl (by decide +kernel) rfl rfl dX6_setWind_17 rfl ⟨Nat.le_of_ble_eq_true rfl, Nat.le_of_ble_eq_true rfl⟩ ?_
    have hE := (show setE w = 1 from if_pos h12)
    exact ret _ _ _ _ dX6_setWind_20 rfl ⟨fun z => absurd (hE.symm.trans z) (by decide), fun _ => ⟨rfl, by rw [hE]⟩⟩

abbrev rm_X6_hang : Room := { frames := 1, cells := 0, slots := 0, locals := 23 }
set_option maxHeartbeats 4000000 in
set_option maxRecDepth 100000 in
theorem m_X6_hang (l : Launch) (D : va_G) (cI cZ cJ : ClassId) (m6 th nw nr nf q1 q2 q3 q4 q5 q6 : Nat) (r x : Nat) (S : Nat → Nat) (hr : r < 6) : MV l yX6_hang wsX6_hang rm_X6_hang D (gT cI cZ cJ) [(m6, .inr (6, [.int (nI th), .int (nI nw), .int (nI nr), .int (nI nf), .ref q1, .ref q2, .ref q3, .ref q4, .ref q5, .ref q6])), (q5, .inl (cI, 130, .inl (vn S)))] [.ref m6, .int (nI r), .int (nI x)] (fun u => u = [(m6, .inr (6, [.int (nI th), .int (nI nw), .int (nI nr), .int (nI nf), .ref q1, .ref q2, .ref q3, .ref q4, .ref q5, .ref q6])), (q5, .inl (cI, 130, .inl (vn (reh S r x))))]) := by
  refine MV_of [(0, .ref m6), (1, .int (nI r)), (2, .int (nI x))] (by decide) rfl (Nat.le_of_ble_eq_true rfl) rfl ?_
  intro p e s m args below meth c A Q X ret
  refine g_aload_n X 0 1 dX6_hang_0 rfl rfl rfl ?_
  refine g_iload_n X 1 2 dX6_hang_1 rfl rfl rfl ?_
  refine g_iconst X (nI 0) 3 dX6_hang_2 rfl (by decide +kernel) ?_
  refine g_iload_n X 2 4 dX6_hang_3 rfl rfl rfl ?_
  refine g_callVv (ws' := [(m6, .inr (6, [.int (nI th), .int (nI nw), .int (nI nr), .int (nI nf), .ref q1, .ref q2, .ref q3, .ref q4, .ref q5, .ref q6])), (q5, .inl (cI, 130, .inl (vn (up S (100 + 5 * r) x))))]) X (m_X6_let l D cI cZ cJ m6 th nw nr nf q1 q2 q3 q4 q5 q6 r 0 x S (by omega)) 7 [0, 1] gX6_hang_X6_let (n := 3) rfl (by decide +kernel) rfl ⟨Nat.le_of_ble_eq_true rfl, Nat.le_of_ble_eq_true rfl⟩ (ci := 6) (q0 := 0) rfl rfl rfl (Nat.le_of_ble_eq_true rfl) rfl (by decide +kernel) rfl rfl dX6_hang_4 rfl ⟨Nat.le_of_ble_eq_true rfl, Nat.le_of_ble_eq_true rfl⟩ ?_
  refine g_aload_n X 0 8 dX6_hang_7 rfl rfl rfl ?_
  refine g_iload_n X 1 9 dX6_hang_8 rfl rfl rfl ?_
  refine g_iconst X (nI 1) 10 dX6_hang_9 rfl (by decide +kernel) ?_
  refine g_iconst X (nI 0) 11 dX6_hang_10 rfl (by decide +kernel) ?_
  refine g_callVv (ws' := [(m6, .inr (6, [.int (nI th), .int (nI nw), .int (nI nr), .int (nI nf), .ref q1, .ref q2, .ref q3, .ref q4, .ref q5, .ref q6])), (q5, .inl (cI, 130, .inl (vn (up (up S (100 + 5 * r) x) (100 + 5 * r + 1) 0))))]) X (m_X6_let l D cI cZ cJ m6 th nw nr nf q1 q2 q3 q4 q5 q6 r 1 0 (up S (100 + 5 * r) x) (by omega)) 14 [0, 1] gX6_hang_X6_let (n := 3) rfl (by decide +kernel) rfl ⟨Nat.le_of_ble_eq_true rfl, Nat.le_of_ble_eq_true rfl⟩ (ci := 6) (q0 := 0) rfl rfl rfl (Nat.le_of_ble_eq_true rfl) rfl (by decide +kernel) rfl rfl dX6_hang_11 rfl ⟨Nat.le_of_ble_eq_true rfl, Nat.le_of_ble_eq_true rfl⟩ ?_
  refine g_aload_n X 0 15 dX6_hang_14 rfl rfl rfl ?_
  refine g_iload_n X 1 16 dX6_hang_15 rfl rfl rfl ?_
  refine g_iconst X (nI 4) 17 dX6_hang_16 rfl (by decide +kernel) ?_
  refine g_aload_n X 0 18 dX6_hang_17 rfl rfl rfl ?_
  refine g_iload_n X 1 19 dX6_hang_18 rfl rfl rfl ?_
  refine g_iconst X (nI 4) 20 dX6_hang_19 rfl (by decide +kernel) ?_
  refine g_callVi (ws' := [(m6, .inr (6, [.int (nI th), .int (nI nw), .int (nI nr), .int (nI nf), .ref q1, .ref q2, .ref q3, .ref q4, .ref q5, .ref q6])), (q5, .inl (cI, 130, .inl (vn (up (up S (100 + 5 * r) x) (100 + 5 * r + 1) 0))))]) X (m_X6_ro l D cI cZ cJ m6 th nw nr nf q1 q2 q3 q4 q5 q6 r 4 (up (up S (100 + 5 * r) x) (100 + 5 * r + 1) 0) (by omega)) 23 [0, 1] gX6_hang_X6_ro (n := 2) rfl (by decide +kernel) rfl ⟨Nat.le_of_ble_eq_true rfl, Nat.le_of_ble_eq_true rfl⟩ (ci := 6) (q0 := 0) rfl rfl rfl (Nat.le_of_ble_eq_true rfl) rfl (by decide +kernel) rfl rfl dX6_hang_20 rfl ⟨Nat.le_of_ble_eq_true rfl, Nat.le_of_ble_eq_true rfl⟩ ?_
  refine g_eqi (y := nI (S (100 + 5 * r + 4))) (congrArg nI (by rw [up_n (by omega), up_n (by omega)])) ?_
  refine g_iconst X (nI 1) 24 dX6_hang_23 rfl (by decide +kernel) ?_
  refine g_iadd X (nI ((S (100 + 5 * r + 4)) + 1)) 25 dX6_hang_24 rfl (nI_add _ _) ?_
  refine g_callVv (ws' := [(m6, .inr (6, [.int (nI th), .int (nI nw), .int (nI nr), .int (nI nf), .ref q1, .ref q2, .ref q3, .ref q4, .ref q5, .ref q6])), (q5, .inl (cI, 130, .inl (vn (up (up (up S (100 + 5 * r) x) (100 + 5 * r + 1) 0) (100 + 5 * r + 4) (S (100 + 5 * r + 4) + 1)))))]) X (m_X6_let l D cI cZ cJ m6 th nw nr nf q1 q2 q3 q4 q5 q6 r 4 (S (100 + 5 * r + 4) + 1) (up (up S (100 + 5 * r) x) (100 + 5 * r + 1) 0) (by omega)) 28 [0, 1] gX6_hang_X6_let (n := 3) rfl (by decide +kernel) rfl ⟨Nat.le_of_ble_eq_true rfl, Nat.le_of_ble_eq_true rfl⟩ (ci := 6) (q0 := 0) rfl rfl rfl (Nat.le_of_ble_eq_true rfl) rfl (by decide +kernel) rfl rfl dX6_hang_25 rfl ⟨Nat.le_of_ble_eq_true rfl, Nat.le_of_ble_eq_true rfl⟩ ?_
  exact ret _ _ _ dX6_hang_28 rfl

abbrev rm_X6_move : Room := { frames := 2, cells := 0, slots := 0, locals := 45 }
set_option maxHeartbeats 4000000 in
set_option maxRecDepth 100000 in
theorem m_X6_move (l : Launch) (D : va_G) (cI cZ cJ : ClassId) (m6 th nw nr nf q1 q2 q3 q4 q5 q6 : Nat) (r x : Int32) (S : Nat → Nat) (hg : Gw S nr) : MI l yX6_move wsX6_move rm_X6_move D (gT cI cZ cJ) [(m6, .inr (6, [.int (nI th), .int (nI nw), .int (nI nr), .int (nI nf), .ref q1, .ref q2, .ref q3, .ref q4, .ref q5, .ref q6])), (q5, .inl (cI, 130, .inl (vn S)))] [.ref m6, .int r, .int x] (fun r9 u9 => (movE S nr r x = 0 → r9 = nI (S (100 + 5 * tn r)) ∧ u9 = [(m6, .inr (6, [.int (nI 0), .int (nI nw), .int (nI nr), .int (nI nf), .ref q1, .ref q2, .ref q3, .ref q4, .ref q5, .ref q6])), (q5, .inl (cI, 130, .inl (vn (reh S (tn r) (tn x)))))]) ∧ (¬ movE S nr r x = 0 → r9 = nI 0 ∧ u9 = [(m6, .inr (6, [.int (nI (movE S nr r x)), .int (nI nw), .int (nI nr), .int (nI nf), .ref q1, .ref q2, .ref q3, .ref q4, .ref q5, .ref q6])), (q5, .inl (cI, 130, .inl (vn S)))])) := by
  refine MI_of [(0, .ref m6), (1, .int r), (2, .int x)] (by decide) rfl (Nat.le_of_ble_eq_true rfl) rfl ?_
  intro p e s m args below meth c A Q X ret
  have hiX6 : ∀ w ∈ wsX60, w ∈ wsX6_move := (fun _ h => List.mem_cons_of_mem _ (List.mem_append_right _ h))
  have hn : nr ≤ 6 := hg.1
  refine g_aload_n X 0 1 dX6_move_0 rfl rfl rfl ?_
  refine g_iconst X (nI 0) 2 dX6_move_1 rfl (by decide +kernel) ?_
  refine g_put (ws' := [(m6, .inr (6, [.int (nI 0), .int (nI nw), .int (nI nr), .int (nI nf), .ref q1, .ref q2, .ref q3, .ref q4, .ref q5, .ref q6])), (q5, .inl (cI, 130, .inl (vn S)))]) X hiX6 tyX6 tyX6_ok nmX6 0 0 5 rfl rfl (by decide) (List.mem_of_getElem? (i := 1) rfl) rfl (ty := .int) (by decide +kernel) rfl rfl (Nat.le_of_ble_eq_true rfl) dX6_move_2 rfl rfl ?_
  refine g_aload_n X 0 6 dX6_move_5 rfl rfl rfl ?_
  refine g_iload_n X 1 7 dX6_move_6 rfl rfl rfl ?_
  refine g_callVi (ws' := [(m6, .inr (6, [.int (nI 0), .int (nI nw), .int (nI nr), .int (nI nf), .ref q1, .ref q2, .ref q3, .ref q4, .ref q5, .ref q6])), (q5, .inl (cI, 130, .inl (vn S)))]) X (m_X6_isRope l D cI cZ cJ m6 0 nw nr nf q1 q2 q3 q4 q5 q6 r (by omega)) 10 [0] gX6_move_X6_isRope (n := 1) rfl (by decide +kernel) rfl ⟨Nat.le_of_ble_eq_true rfl, Nat.le_of_ble_eq_true rfl⟩ (ci := 6) (q0 := 0) rfl rfl rfl (Nat.le_of_ble_eq_true rfl) rfl (by decide +kernel) rfl rfl dX6_move_7 rfl ⟨Nat.le_of_ble_eq_true rfl, Nat.le_of_ble_eq_true rfl⟩ ?_
  refine g_if_eq X 13 23 dX6_move_10 rfl (by decide) (bn_dec decide_eq_true_iff) (fun h10 => ?_) (fun h10 => ?_)
  · refine g_aload_n X 0 24 dX6_move_23 rfl rfl rfl ?_
    refine g_iconst X (nI 1) 25 dX6_move_24 rfl (by decide +kernel) ?_
    refine g_callVi (ws' := [(m6, .inr (6, [.int (nI 1), .int (nI nw), .int (nI nr), .int (nI nf), .ref q1, .ref q2, .ref q3, .ref q4, .ref q5, .ref q6])), (q5, .inl (cI, 130, .inl (vn S)))]) X (m_X6_fail l D cI cZ cJ m6 0 nw nr nf q1 q2 q3 q4 q5 q6 1) 28 [0] gX6_move_X6_fail (n := 1) rfl (by decide +kernel) rfl ⟨Nat.le_of_ble_eq_true rfl, Nat.le_of_ble_eq_true rfl⟩ (ci := 6) (q0 := 0) rfl rfl rfl (Nat.le_of_ble_eq_true rfl) rfl (by decide +kernel) rfl rfl dX6_move_25 rfl ⟨Nat.le_of_ble_eq_true rfl, Nat.le_of_ble_eq_true rfl⟩ ?_
    have hE := (show movE S nr r x = 1 from if_pos (fun z => h10 z.1))
    exact ret _ _ _ _ dX6_move_28 rfl ⟨fun z => absurd (hE.symm.trans z) (by decide), fun _ => ⟨rfl, by rw [hE]⟩⟩
  · refine g_iload_n X 2 14 dX6_move_13 rfl rfl rfl ?_
    refine g_iconst X (nI 0) 15 dX6_move_14 rfl (by decide +kernel) ?_
    refine g_bipush X (nI 11) 17 dX6_move_15 rfl (by decide +kernel) ?_
    refine g_callSi (ws' := [(m6, .inr (6, [.int (nI 0), .int (nI nw), .int (nI nr), .int (nI nf), .ref q1, .ref q2, .ref q3, .ref q4, .ref q5, .ref q6])), (q5, .inl (cI, 130, .inl (vn S)))]) X (m_X6_isIn l D cI cZ cJ x (nI 0) (nI 11)) 20 [] gX6_move_X6_isIn (n := 3) rfl (by decide +kernel) rfl ⟨Nat.le_of_ble_eq_true rfl, Nat.le_of_ble_eq_true rfl⟩ rfl (Nat.le_of_ble_eq_true rfl) rfl (by decide +kernel) rfl rfl dX6_move_17 rfl ⟨Nat.le_of_ble_eq_true rfl, Nat.le_of_ble_eq_true rfl⟩ ?_
    refine g_eqi (y := nI (bn (decide (isR 12 x)))) (bn_is rfl (by decide)) ?_
    refine g_if_ne X 23 29 dX6_move_20 rfl (by decide) (bn_dec decide_eq_true_iff) (fun h20 => ?_) (fun h20 => ?_)
    · have hA : isR nr r ∧ isR 12 x := ⟨Classical.not_not.mp h10, Classical.not_not.mp h20⟩
      obtain ⟨ir, hr1, rfl⟩ := isR_nat hA.1 (by omega)
      obtain ⟨ix, hx1, rfl⟩ := isR_nat hA.2 (by decide)
      refine g_aload_n X 0 30 dX6_move_29 rfl rfl rfl ?_
      refine g_iload_n X 2 31 dX6_move_30 rfl rfl rfl ?_
      refine g_callVi (ws' := [(m6, .inr (6, [.int (nI 0), .int (nI nw), .int (nI nr), .int (nI nf), .ref q1, .ref q2, .ref q3, .ref q4, .ref q5, .ref q6])), (q5, .inl (cI, 130, .inl (vn S)))]) X (m_X6_isHung l D cI cZ cJ m6 0 nw nr nf q1 q2 q3 q4 q5 q6 ix S hn (fun r hr => (hg.2.2 r hr).1) hx1) 34 [0, 1] gX6_move_X6_isHung (n := 1) rfl (by decide +kernel) rfl ⟨Nat.le_of_ble_eq_true rfl, Nat.le_of_ble_eq_true rfl⟩ (ci := 6) (q0 := 0) rfl rfl rfl (Nat.le_of_ble_eq_true rfl) rfl (by decide +kernel) rfl rfl dX6_move_31 rfl ⟨Nat.le_of_ble_eq_true rfl, Nat.le_of_ble_eq_true rfl⟩ ?_
      refine g_if_eq X 37 43 dX6_move_34 rfl (by decide) (bn_eq0 _) (fun h34 => ?_) (fun h34 => ?_)
      · have hE : movE S nr (nI ir) (nI ix) = 0 := (if_neg (fun z => z hA)).trans (if_neg (fun z => by rw [tn_nI (by omega), h34] at z; cases z))
        rw [tn_nI (show ir < 2 ^ 31 by omega), tn_nI (show ix < 2 ^ 31 by omega)] at ret
        refine g_aload_n X 0 44 dX6_move_43 rfl rfl rfl ?_
        refine g_iload_n X 1 45 dX6_move_44 rfl rfl rfl ?_
        refine g_iconst X (nI 0) 46 dX6_move_45 rfl (by decide +kernel) ?_
        refine g_callVi (ws' := [(m6, .inr (6, [.int (nI 0), .int (nI nw), .int (nI nr), .int (nI nf), .ref q1, .ref q2, .ref q3, .ref q4, .ref q5, .ref q6])), (q5, .inl (cI, 130, .inl (vn S)))]) X (m_X6_ro l D cI cZ cJ m6 0 nw nr nf q1 q2 q3 q4 q5 q6 ir 0 S (by omega)) 49 [0, 1] gX6_move_X6_ro (n := 2) rfl (by decide +kernel) rfl ⟨Nat.le_of_ble_eq_true rfl, Nat.le_of_ble_eq_true rfl⟩ (ci := 6) (q0 := 0) rfl rfl rfl (Nat.le_of_ble_eq_true rfl) rfl (by decide +kernel) rfl rfl dX6_move_46 rfl ⟨Nat.le_of_ble_eq_true rfl, Nat.le_of_ble_eq_true rfl⟩ ?_
        refine g_eqi (y := nI (S (100 + 5 * ir))) rfl ?_
        refine g_istore_n X [(3, .int (nI (S (100 + 5 * ir)))), (0, .ref m6), (1, .int (nI ir)), (2, .int (nI ix))] 50 dX6_move_49 rfl rfl (by decide) rfl ?_
        refine g_aload_n X 1 51 dX6_move_50 rfl rfl rfl ?_
        refine g_iload_n X 2 52 dX6_move_51 rfl rfl rfl ?_
        refine g_iload_n X 3 53 dX6_move_52 rfl rfl rfl ?_
        refine g_callVv (ws' := [(m6, .inr (6, [.int (nI 0), .int (nI nw), .int (nI nr), .int (nI nf), .ref q1, .ref q2, .ref q3, .ref q4, .ref q5, .ref q6])), (q5, .inl (cI, 130, .inl (vn (reh S ir ix))))]) X (m_X6_hang l D cI cZ cJ m6 0 nw nr nf q1 q2 q3 q4 q5 q6 ir ix S (by omega)) 56 [0, 1] gX6_move_X6_hang (n := 2) rfl (by decide +kernel) rfl ⟨Nat.le_of_ble_eq_true rfl, Nat.le_of_ble_eq_true rfl⟩ (ci := 6) (q0 := 0) rfl rfl rfl (Nat.le_of_ble_eq_true rfl) rfl (by decide +kernel) rfl rfl dX6_move_53 rfl ⟨Nat.le_of_ble_eq_true rfl, Nat.le_of_ble_eq_true rfl⟩ ?_
        refine g_iload_n X 0 57 dX6_move_56 rfl rfl rfl ?_
        exact ret _ _ _ _ dX6_move_57 rfl ⟨fun _ => ⟨rfl, rfl⟩, fun z => absurd hE z⟩
      · refine g_aload_n X 0 38 dX6_move_37 rfl rfl rfl ?_
        refine g_iconst X (nI 2) 39 dX6_move_38 rfl (by decide +kernel) ?_
        refine g_callVi (ws' := [(m6, .inr (6, [.int (nI 2), .int (nI nw), .int (nI nr), .int (nI nf), .ref q1, .ref q2, .ref q3, .ref q4, .ref q5, .ref q6])), (q5, .inl (cI, 130, .inl (vn S)))]) X (m_X6_fail l D cI cZ cJ m6 0 nw nr nf q1 q2 q3 q4 q5 q6 2) 42 [0] gX6_move_X6_fail (n := 1) rfl (by decide +kernel) rfl ⟨Nat.le_of_ble_eq_true rfl, Nat.le_of_ble_eq_true rfl⟩ (ci := 6) (q0 := 0) rfl rfl rfl (Nat.le_of_ble_eq_true rfl) rfl (by decide +kernel) rfl rfl dX6_move_39 rfl ⟨Nat.le_of_ble_eq_true rfl, Nat.le_of_ble_eq_true rfl⟩ ?_
        have hE := (show movE S nr (nI ir) (nI ix) = 2 from (if_neg (fun z => z hA)).trans (if_pos (by rw [tn_nI (by omega)]; simpa using h34)))
        exact ret _ _ _ _ dX6_move_42 rfl ⟨fun z => absurd (hE.symm.trans z) (by decide), fun _ => ⟨rfl, by rw [hE]⟩⟩
    · refine g_aload_n X 0 24 dX6_move_23 rfl rfl rfl ?_
      refine g_iconst X (nI 1) 25 dX6_move_24 rfl (by decide +kernel) ?_
      refine g_callVi (ws' := [(m6, .inr (6, [.int (nI 1), .int (nI nw), .int (nI nr), .int (nI nf), .ref q1, .ref q2, .ref q3, .ref q4, .ref q5, .ref q6])), (q5, .inl (cI, 130, .inl (vn S)))]) X (m_X6_fail l D cI cZ cJ m6 0 nw nr nf q1 q2 q3 q4 q5 q6 1) 28 [0] gX6_move_X6_fail (n := 1) rfl (by decide +kernel) rfl ⟨Nat.le_of_ble_eq_true rfl, Nat.le_of_ble_eq_true rfl⟩ (ci := 6) (q0 := 0) rfl rfl rfl (Nat.le_of_ble_eq_true rfl) rfl (by decide +kernel) rfl rfl dX6_move_25 rfl ⟨Nat.le_of_ble_eq_true rfl, Nat.le_of_ble_eq_true rfl⟩ ?_
      have hE := (show movE S nr r x = 1 from if_pos (fun z => h20 z.2))
      exact ret _ _ _ _ dX6_move_28 rfl ⟨fun z => absurd (hE.symm.trans z) (by decide), fun _ => ⟨rfl, by rw [hE]⟩⟩

abbrev rm_X6_turn : Room := { frames := 2, cells := 0, slots := 0, locals := 43 }
set_option maxHeartbeats 4000000 in
set_option maxRecDepth 100000 in
theorem m_X6_turn (l : Launch) (D : va_G) (cI cZ cJ : ClassId) (m6 th nw nr nf q1 q2 q3 q4 q5 q6 : Nat) (r : Int32) (S : Nat → Nat) (hg : Gw S nr) : MI l yX6_turn wsX6_turn rm_X6_turn D (gT cI cZ cJ) [(m6, .inr (6, [.int (nI th), .int (nI nw), .int (nI nr), .int (nI nf), .ref q1, .ref q2, .ref q3, .ref q4, .ref q5, .ref q6])), (q5, .inl (cI, 130, .inl (vn S)))] [.ref m6, .int r] (fun r9 u9 => (oneE nr r = 0 → r9 = nI (S (100 + 5 * tn r + 2)) ∧ u9 = [(m6, .inr (6, [.int (nI 0), .int (nI nw), .int (nI nr), .int (nI nf), .ref q1, .ref q2, .ref q3, .ref q4, .ref q5, .ref q6])), (q5, .inl (cI, 130, .inl (vn (up S (100 + 5 * tn r + 2) (1 - S (100 + 5 * tn r + 2))))))]) ∧ (¬ oneE nr r = 0 → r9 = nI 0 ∧ u9 = [(m6, .inr (6, [.int (nI (oneE nr r)), .int (nI nw), .int (nI nr), .int (nI nf), .ref q1, .ref q2, .ref q3, .ref q4, .ref q5, .ref q6])), (q5, .inl (cI, 130, .inl (vn S)))])) := by
  refine MI_of [(0, .ref m6), (1, .int r)] (by decide) rfl (Nat.le_of_ble_eq_true rfl) rfl ?_
  intro p e s m args below meth c A Q X ret
  have hiX6 : ∀ w ∈ wsX60, w ∈ wsX6_turn := (fun _ h => List.mem_cons_of_mem _ (List.mem_append_right _ h))
  have hn : nr ≤ 6 := hg.1
  refine g_aload_n X 0 1 dX6_turn_0 rfl rfl rfl ?_
  refine g_aload_n X 0 2 dX6_turn_1 rfl rfl rfl ?_
  refine g_iload_n X 1 3 dX6_turn_2 rfl rfl rfl ?_
  refine g_callVi (ws' := [(m6, .inr (6, [.int (nI th), .int (nI nw), .int (nI nr), .int (nI nf), .ref q1, .ref q2, .ref q3, .ref q4, .ref q5, .ref q6])), (q5, .inl (cI, 130, .inl (vn S)))]) X (m_X6_isRope l D cI cZ cJ m6 th nw nr nf q1 q2 q3 q4 q5 q6 r (by omega)) 6 [0] gX6_turn_X6_isRope (n := 1) rfl (by decide +kernel) rfl ⟨Nat.le_of_ble_eq_true rfl, Nat.le_of_ble_eq_true rfl⟩ (ci := 6) (q0 := 0) rfl rfl rfl (Nat.le_of_ble_eq_true rfl) rfl (by decide +kernel) rfl rfl dX6_turn_3 rfl ⟨Nat.le_of_ble_eq_true rfl, Nat.le_of_ble_eq_true rfl⟩ ?_
  refine g_if_eq X 9 13 dX6_turn_6 rfl (by decide) (bn_dec decide_eq_true_iff) (fun h6 => ?_) (fun h6 => ?_)
  · refine g_iconst X (nI 1) 14 dX6_turn_13 rfl (by decide +kernel) ?_
    refine g_put (ws' := [(m6, .inr (6, [.int (nI 1), .int (nI nw), .int (nI nr), .int (nI nf), .ref q1, .ref q2, .ref q3, .ref q4, .ref q5, .ref q6])), (q5, .inl (cI, 130, .inl (vn S)))]) X hiX6 tyX6 tyX6_ok nmX6 0 0 17 rfl rfl (by decide) (List.mem_of_getElem? (i := 1) rfl) rfl (ty := .int) (by decide +kernel) rfl rfl (Nat.le_of_ble_eq_true rfl) dX6_turn_14 rfl rfl ?_
    refine g_aload_n X 0 18 dX6_turn_17 rfl rfl rfl ?_
    refine g_get X hiX6 0 0 21 rfl rfl (by decide) (List.mem_of_getElem? (i := 1) rfl) rfl dX6_turn_18 rfl ?_
    refine g_if_eq X 24 26 dX6_turn_21 rfl (by decide) (nz_eq (by omega)) (fun h21 => absurd h21 (by decide)) (fun h21 => ?_)
    refine g_iconst X (nI 0) 25 dX6_turn_24 rfl (by decide +kernel) ?_
    have hE := (show oneE nr r = 1 from if_pos h6)
    exact ret _ _ _ _ dX6_turn_25 rfl ⟨fun z => absurd (hE.symm.trans z) (by decide), fun _ => ⟨rfl, by rw [hE]⟩⟩
  · refine g_iconst X (nI 0) 10 dX6_turn_9 rfl (by decide +kernel) ?_
    refine g_goto X 14 dX6_turn_10 (by decide) ?_
    refine g_put (ws' := [(m6, .inr (6, [.int (nI 0), .int (nI nw), .int (nI nr), .int (nI nf), .ref q1, .ref q2, .ref q3, .ref q4, .ref q5, .ref q6])), (q5, .inl (cI, 130, .inl (vn S)))]) X hiX6 tyX6 tyX6_ok nmX6 0 0 17 rfl rfl (by decide) (List.mem_of_getElem? (i := 1) rfl) rfl (ty := .int) (by decide +kernel) rfl rfl (Nat.le_of_ble_eq_true rfl) dX6_turn_14 rfl rfl ?_
    refine g_aload_n X 0 18 dX6_turn_17 rfl rfl rfl ?_
    refine g_get X hiX6 0 0 21 rfl rfl (by decide) (List.mem_of_getElem? (i := 1) rfl) rfl dX6_turn_18 rfl ?_
    refine g_if_eq X 24 26 dX6_turn_21 rfl (by decide) (nz_eq (by omega)) (fun h21 => ?_) (fun h21 => absurd rfl h21)
    have hA : isR nr r := Classical.not_not.mp h6
    have hE : oneE nr r = 0 := if_neg (fun z => z hA)
    obtain ⟨ir, hr1, rfl⟩ := isR_nat hA (by omega)
    have h3 := hg.2.2 ir hr1
    rw [tn_nI (show ir < 2 ^ 31 by omega)] at ret
    refine g_aload_n X 0 27 dX6_turn_26 rfl rfl rfl ?_
    refine g_iload_n X 1 28 dX6_turn_27 rfl rfl rfl ?_
    refine g_iconst X (nI 2) 29 dX6_turn_28 rfl (by decide +kernel) ?_
    refine g_iconst X (nI 1) 30 dX6_turn_29 rfl (by decide +kernel) ?_
    refine g_aload_n X 0 31 dX6_turn_30 rfl rfl rfl ?_
    refine g_iload_n X 1 32 dX6_turn_31 rfl rfl rfl ?_
    refine g_iconst X (nI 2) 33 dX6_turn_32 rfl (by decide +kernel) ?_
    refine g_callVi (ws' := [(m6, .inr (6, [.int (nI 0), .int (nI nw), .int (nI nr), .int (nI nf), .ref q1, .ref q2, .ref q3, .ref q4, .ref q5, .ref q6])), (q5, .inl (cI, 130, .inl (vn S)))]) X (m_X6_ro l D cI cZ cJ m6 0 nw nr nf q1 q2 q3 q4 q5 q6 ir 2 S (by omega)) 36 [0, 1] gX6_turn_X6_ro (n := 2) rfl (by decide +kernel) rfl ⟨Nat.le_of_ble_eq_true rfl, Nat.le_of_ble_eq_true rfl⟩ (ci := 6) (q0 := 0) rfl rfl rfl (Nat.le_of_ble_eq_true rfl) rfl (by decide +kernel) rfl rfl dX6_turn_33 rfl ⟨Nat.le_of_ble_eq_true rfl, Nat.le_of_ble_eq_true rfl⟩ ?_
    refine g_isub X (nI (1 - (S (100 + 5 * ir + 2)))) 37 dX6_turn_36 rfl (pk_sub (by omega)) ?_
    refine g_callVv (ws' := [(m6, .inr (6, [.int (nI 0), .int (nI nw), .int (nI nr), .int (nI nf), .ref q1, .ref q2, .ref q3, .ref q4, .ref q5, .ref q6])), (q5, .inl (cI, 130, .inl (vn (up S (100 + 5 * ir + 2) (1 - S (100 + 5 * ir + 2))))))]) X (m_X6_let l D cI cZ cJ m6 0 nw nr nf q1 q2 q3 q4 q5 q6 ir 2 (1 - S (100 + 5 * ir + 2)) S (by omega)) 40 [0, 1] gX6_turn_X6_let (n := 3) rfl (by decide +kernel) rfl ⟨Nat.le_of_ble_eq_true rfl, Nat.le_of_ble_eq_true rfl⟩ (ci := 6) (q0 := 0) rfl rfl rfl (Nat.le_of_ble_eq_true rfl) rfl (by decide +kernel) rfl rfl dX6_turn_37 rfl ⟨Nat.le_of_ble_eq_true rfl, Nat.le_of_ble_eq_true rfl⟩ ?_
    refine g_aload_n X 0 41 dX6_turn_40 rfl rfl rfl ?_
    refine g_iload_n X 1 42 dX6_turn_41 rfl rfl rfl ?_
    refine g_iconst X (nI 2) 43 dX6_turn_42 rfl (by decide +kernel) ?_
    refine g_callVi (ws' := [(m6, .inr (6, [.int (nI 0), .int (nI nw), .int (nI nr), .int (nI nf), .ref q1, .ref q2, .ref q3, .ref q4, .ref q5, .ref q6])), (q5, .inl (cI, 130, .inl (vn (up S (100 + 5 * ir + 2) (1 - S (100 + 5 * ir + 2))))))]) X (m_X6_ro l D cI cZ cJ m6 0 nw nr nf q1 q2 q3 q4 q5 q6 ir 2 (up S (100 + 5 * ir + 2) (1 - S (100 + 5 * ir + 2))) (by omega)) 46 [0, 1] gX6_turn_X6_ro (n := 2) rfl (by decide +kernel) rfl ⟨Nat.le_of_ble_eq_true rfl, Nat.le_of_ble_eq_true rfl⟩ (ci := 6) (q0 := 0) rfl rfl rfl (Nat.le_of_ble_eq_true rfl) rfl (by decide +kernel) rfl rfl dX6_turn_43 rfl ⟨Nat.le_of_ble_eq_true rfl, Nat.le_of_ble_eq_true rfl⟩ ?_
    refine g_eqi (y := nI (1 - S (100 + 5 * ir + 2))) (congrArg nI (up_s _ _ _)) ?_
    refine g_if_ne X 49 53 dX6_turn_46 rfl (by decide) (nz_eq (by omega)) (fun h46 => ?_) (fun h46 => ?_)
    · refine g_iconst X (nI 0) 54 dX6_turn_53 rfl (by decide +kernel) ?_
      refine g_eqi (y := nI (S (100 + 5 * ir + 2))) (congrArg nI (by omega)) ?_
      exact ret _ _ _ _ dX6_turn_54 (bn_1 _ (by omega)) ⟨fun _ => ⟨rfl, rfl⟩, fun z => absurd hE z⟩
    · refine g_iconst X (nI 1) 50 dX6_turn_49 rfl (by decide +kernel) ?_
      refine g_goto X 54 dX6_turn_50 (by decide) ?_
      refine g_eqi (y := nI (S (100 + 5 * ir + 2))) (congrArg nI (by omega)) ?_
      exact ret _ _ _ _ dX6_turn_54 (bn_1 _ (by omega)) ⟨fun _ => ⟨rfl, rfl⟩, fun z => absurd hE z⟩
