/-! THE REFERENCE'S ADVICE -/
def aVal (S : Nat → Nat) (nr r c : Nat) : Prop := c = S (100 + 5 * r) ∨ hung S nr c = false
def aPM (T st fe fo : Nat → Nat) (nw nr nf : Nat) (S : Nat → Nat) (r d j : Nat) (b m : Int32) : Prop := (b = nIm 1 ∧ m = nIm 1 ∧ ∀ c : Nat, c < j → ¬ aVal S nr r c) ∨ ∃ x v : Nat, b = nI x ∧ m = nI v ∧ x < j ∧ aVal S nr r x ∧ v = cvC T st fe fo nw nr nf S r d x ∧ ∀ c : Nat, c < j → aVal S nr r c → cvC T st fe fo nw nr nf S r d c < v ∨ (cvC T st fe fo nw nr nf S r d c = v ∧ x ≤ c)
theorem aPM_h {T st fe fo S : Nat → Nat} {nw nr nf r d : Nat} {j : Nat} {b m : Int32} (h : ¬ aVal S nr r j) (hp : aPM T st fe fo nw nr nf S r d j b m) : aPM T st fe fo nw nr nf S r d (j + 1) b m := by
  rcases hp with ⟨h1, h2, h3⟩ | ⟨x, v, h1, h2, h3, h4, h5, h6⟩
  · refine Or.inl ⟨h1, h2, fun c hc hv => ?_⟩
    by_cases hcj : c = j
    · subst hcj; exact h hv
    · exact h3 c (by omega) hv
  · refine Or.inr ⟨x, v, h1, h2, by omega, h4, h5, fun c hc hv => ?_⟩
    by_cases hcj : c = j
    · subst hcj; exact absurd hv h
    · exact h6 c (by omega) hv
theorem nIm1_nI {k : Nat} (h : k < 2 ^ 31) : nIm 1 < nI k := Int32.lt_of_lt_of_le nIm1_lt (nI_pos' h)
theorem aPM_k {T st fe fo S : Nat → Nat} {nw nr nf r d : Nat} {j : Nat} {b m : Int32} (hb : ∀ c : Nat, c < 12 → cvC T st fe fo nw nr nf S r d c < 2 ^ 31) (hj : j < 12) (hp : aPM T st fe fo nw nr nf S r d j b m) (hlt : ¬ m < nI (cvC T st fe fo nw nr nf S r d j)) : aPM T st fe fo nw nr nf S r d (j + 1) b m := by
  rcases hp with ⟨h1, h2, h3⟩ | ⟨x, v, h1, h2, h3, h4, h5, h6⟩
  · rw [h2] at hlt
    exact absurd (nIm1_nI (hb j hj)) hlt
  · rw [h2, nI_ltI (by rw [h5]; exact hb x (by omega)) (hb j hj)] at hlt
    refine Or.inr ⟨x, v, h1, h2, by omega, h4, h5, fun c hc hv => ?_⟩
    by_cases hcj : c = j
    · subst hcj; omega
    · exact h6 c (by omega) hv
theorem aPM_t {T st fe fo S : Nat → Nat} {nw nr nf r d : Nat} {j : Nat} {b m : Int32} (hb : ∀ c : Nat, c < 12 → cvC T st fe fo nw nr nf S r d c < 2 ^ 31) (hj : j < 12) (hv : aVal S nr r j) (hp : aPM T st fe fo nw nr nf S r d j b m) (hlt : m < nI (cvC T st fe fo nw nr nf S r d j)) : aPM T st fe fo nw nr nf S r d (j + 1) (nI j) (nI (cvC T st fe fo nw nr nf S r d j)) := by
  refine Or.inr ⟨j, _, rfl, rfl, by omega, hv, rfl, fun c hc hv => ?_⟩
  by_cases hcj : c = j
  · subst hcj; exact Or.inr ⟨rfl, Nat.le_refl _⟩
  · rcases hp with ⟨h1, h2, h3⟩ | ⟨x, v, h1, h2, h3, h4, h5, h6⟩
    · exact absurd hv (h3 c (by omega))
    · rw [h2, nI_ltI (by rw [h5]; exact hb x (by omega)) (hb j hj)] at hlt
      have := h6 c (by omega) hv
      omega
theorem acl_is (T st fe fo S : Nat → Nat) (nw nr nf r d : Nat) : ∀ j : Nat, (acl T st fe fo nw nr nf S r d j).2 = cvC T st fe fo nw nr nf S r d (acl T st fe fo nw nr nf S r d j).1 ∧ ((acl T st fe fo nw nr nf S r d j).1 = S (100 + 5 * r) ∨ ((acl T st fe fo nw nr nf S r d j).1 < j ∧ hung S nr (acl T st fe fo nw nr nf S r d j).1 = false)) ∧ ∀ c : Nat, (c = S (100 + 5 * r) ∨ (c < j ∧ hung S nr c = false)) → cvC T st fe fo nw nr nf S r d c < (acl T st fe fo nw nr nf S r d j).2 ∨ (cvC T st fe fo nw nr nf S r d c = (acl T st fe fo nw nr nf S r d j).2 ∧ (acl T st fe fo nw nr nf S r d j).1 ≤ c)
  | 0 => ⟨rfl, Or.inl rfl, fun c hc => by
    rcases hc with rfl | hc
    · exact Or.inr ⟨rfl, Nat.le_refl _⟩
    · exact absurd hc.1 (Nat.not_lt_zero c)⟩
  | j + 1 => by
    obtain ⟨h1, h2, h3⟩ := acl_is T st fe fo S nw nr nf r d j
    cases hh : hung S nr j with
    | true =>
      rw [acl_h hh]
      refine ⟨h1, h2.imp id (fun z => ⟨by omega, z.2⟩), fun c hc => h3 c (hc.imp id (fun z => ⟨?_, z.2⟩))⟩
      have : c ≠ j := fun q => by rw [q, hh] at z; cases z.2
      omega
    | false =>
      by_cases hb : (acl T st fe fo nw nr nf S r d j).2 < cvC T st fe fo nw nr nf S r d j ∨ (cvC T st fe fo nw nr nf S r d j = (acl T st fe fo nw nr nf S r d j).2 ∧ j < (acl T st fe fo nw nr nf S r d j).1)
      · rw [acl_b hh hb]
        refine ⟨rfl, Or.inr ⟨Nat.lt_succ_self j, hh⟩, fun c hc => ?_⟩
        by_cases hcj : c = j
        · subst hcj; exact Or.inr ⟨rfl, Nat.le_refl _⟩
        · have := h3 c (hc.imp id (fun z => ⟨by omega, z.2⟩))
          show cvC T st fe fo nw nr nf S r d c < cvC T st fe fo nw nr nf S r d j ∨ (cvC T st fe fo nw nr nf S r d c = cvC T st fe fo nw nr nf S r d j ∧ j ≤ c)
          omega
      · rw [acl_n hh hb]
        refine ⟨h1, h2.imp id (fun z => ⟨by omega, z.2⟩), fun c hc => ?_⟩
        by_cases hcj : c = j
        · subst hcj; omega
        · exact h3 c (hc.imp id (fun z => ⟨by omega, z.2⟩))
theorem aPM_e {T st fe fo S : Nat → Nat} {nw nr nf r d : Nat} {b m : Int32} (ho : S (100 + 5 * r) < 12) (hp : aPM T st fe fo nw nr nf S r d 12 b m) : b = nI (acl T st fe fo nw nr nf S r d 12).1 := by
  obtain ⟨h1, h2, h3⟩ := acl_is T st fe fo S nw nr nf r d 12
  rcases hp with ⟨_, _, hn⟩ | ⟨x, v, e1, e2, e3, e4, e5, e6⟩
  · exact absurd (Or.inl rfl) (hn _ ho)
  · have a1 : (acl T st fe fo nw nr nf S r d 12).1 < 12 := by
      rcases h2 with z | z
      · rw [z]; exact ho
      · exact z.1
    have a2 := e6 _ a1 (h2.imp id (fun z => z.2))
    have a3 := h3 x (e4.imp id (fun z => ⟨e3, z⟩))
    rw [e1]
    congr 1
    rw [← h1] at a2
    rw [← e5] at a3
    omega

abbrev rm_X6_advise : Room := { frames := 6, cells := 0, slots := 0, locals := 136 }
set_option maxHeartbeats 4000000 in
set_option maxRecDepth 100000 in
theorem m_X6_advise (l : Launch) (D : va_G) (cI cZ cJ : ClassId) (m6 th nw nr nf q1 q2 q3 q4 q5 q6 : Nat) (r : Int32) (T st fe fo S : Nat → Nat) (K : Nat → Nat) (hg : Gd S nr) (hs : stOk T st fe fo nw nr nf) (hd : S 0 < 2 ^ 28) (hc2 : S 2 < 2 ^ 29) : MI l yX6_advise wsX6_advise rm_X6_advise D (gT cI cZ cJ) [(m6, .inr (6, [.int (nI th), .int (nI nw), .int (nI nr), .int (nI nf), .ref q1, .ref q2, .ref q3, .ref q4, .ref q5, .ref q6])), (q1, .inl (cI, 30, .inl (v30 T))), (q2, .inl (cI, 6, .inl (v6 st))), (q3, .inl (cI, 4, .inl (v4 fe))), (q4, .inl (cI, 4, .inl (v4 fo))), (q5, .inl (cI, 130, .inl (vn S))), (q6, .inl (cI, 130, .inl (vn K)))] [.ref m6, .int r] (fun r9 u9 => (advE fe fo nf (S 0) nr r = 0 → r9 = nI (acl T st fe fo nw nr nf S (tn r) (tn (nxF fe fo nf (S 0)) + 1) 12).1 ∧ u9 = [(m6, .inr (6, [.int (nI 0), .int (nI nw), .int (nI nr), .int (nI nf), .ref q1, .ref q2, .ref q3, .ref q4, .ref q5, .ref q6])), (q1, .inl (cI, 30, .inl (v30 T))), (q2, .inl (cI, 6, .inl (v6 st))), (q3, .inl (cI, 4, .inl (v4 fe))), (q4, .inl (cI, 4, .inl (v4 fo))), (q5, .inl (cI, 130, .inl (vn S))), (q6, .inl (cI, 130, .inl (vn S)))]) ∧ (¬ advE fe fo nf (S 0) nr r = 0 → r9 = nI 0 ∧ u9 = [(m6, .inr (6, [.int (nI (advE fe fo nf (S 0) nr r)), .int (nI nw), .int (nI nr), .int (nI nf), .ref q1, .ref q2, .ref q3, .ref q4, .ref q5, .ref q6])), (q1, .inl (cI, 30, .inl (v30 T))), (q2, .inl (cI, 6, .inl (v6 st))), (q3, .inl (cI, 4, .inl (v4 fe))), (q4, .inl (cI, 4, .inl (v4 fo))), (q5, .inl (cI, 130, .inl (vn S))), (q6, .inl (cI, 130, .inl (vn K)))])) := by
  refine MI_of [(0, .ref m6), (1, .int r)] (by decide) rfl (Nat.le_of_ble_eq_true rfl) rfl ?_
  intro p e s m args below meth c A Q X ret
  have hiX6 : ∀ w ∈ wsX60, w ∈ wsX6_advise := (fun _ h => List.mem_cons_of_mem _ (List.mem_append_right _ h))
  have hn : nr ≤ 6 := hg.1.1
  refine g_aload_n X 0 1 dX6_advise_0 rfl rfl rfl ?_
  refine g_iconst X (nI 0) 2 dX6_advise_1 rfl (by decide +kernel) ?_
  refine g_put (ws' := [(m6, .inr (6, [.int (nI 0), .int (nI nw), .int (nI nr), .int (nI nf), .ref q1, .ref q2, .ref q3, .ref q4, .ref q5, .ref q6])), (q1, .inl (cI, 30, .inl (v30 T))), (q2, .inl (cI, 6, .inl (v6 st))), (q3, .inl (cI, 4, .inl (v4 fe))), (q4, .inl (cI, 4, .inl (v4 fo))), (q5, .inl (cI, 130, .inl (vn S))), (q6, .inl (cI, 130, .inl (vn K)))]) X hiX6 tyX6 tyX6_ok nmX6 0 0 5 rfl rfl (by decide) (List.mem_of_getElem? (i := 1) rfl) rfl (ty := .int) (by decide +kernel) rfl rfl (Nat.le_of_ble_eq_true rfl) dX6_advise_2 rfl rfl ?_
  refine g_aload_n X 0 6 dX6_advise_5 rfl rfl rfl ?_
  refine g_iload_n X 1 7 dX6_advise_6 rfl rfl rfl ?_
  refine g_callVi (ws' := [(m6, .inr (6, [.int (nI 0), .int (nI nw), .int (nI nr), .int (nI nf), .ref q1, .ref q2, .ref q3, .ref q4, .ref q5, .ref q6])), (q1, .inl (cI, 30, .inl (v30 T))), (q2, .inl (cI, 6, .inl (v6 st))), (q3, .inl (cI, 4, .inl (v4 fe))), (q4, .inl (cI, 4, .inl (v4 fo))), (q5, .inl (cI, 130, .inl (vn S))), (q6, .inl (cI, 130, .inl (vn K)))]) X (m_X6_isRope l D cI cZ cJ m6 0 nw nr nf q1 q2 q3 q4 q5 q6 r (by omega)) 10 [0] gX6_advise_X6_isRope (n := 1) rfl (by decide +kernel) rfl ⟨Nat.le_of_ble_eq_true rfl, Nat.le_of_ble_eq_true rfl⟩ (ci := 6) (q0 := 0) rfl rfl rfl (Nat.le_of_ble_eq_true rfl) rfl (by decide +kernel) rfl rfl dX6_advise_7 rfl ⟨Nat.le_of_ble_eq_true rfl, Nat.le_of_ble_eq_true rfl⟩ ?_
  refine g_if_ne X 13 19 dX6_advise_10 rfl (by decide) (bn_dec decide_eq_true_iff) (fun h10 => ?_) (fun h10 => ?_)
  · refine g_aload_n X 0 20 dX6_advise_19 rfl rfl rfl ?_
    refine g_callVi (ws' := [(m6, .inr (6, [.int (nI 0), .int (nI nw), .int (nI nr), .int (nI nf), .ref q1, .ref q2, .ref q3, .ref q4, .ref q5, .ref q6])), (q1, .inl (cI, 30, .inl (v30 T))), (q2, .inl (cI, 6, .inl (v6 st))), (q3, .inl (cI, 4, .inl (v4 fe))), (q4, .inl (cI, 4, .inl (v4 fo))), (q5, .inl (cI, 130, .inl (vn S))), (q6, .inl (cI, 130, .inl (vn K)))]) X (m_X6_nextFeast l D cI cZ cJ m6 0 nw nr nf q1 q2 q3 q4 q5 q6 fe fo S hs.2.2.2.1 hs.2.2.2.2 hd) 23 [0, 3, 4, 5] gX6_advise_X6_nextFeast (n := 0) rfl (by decide +kernel) rfl ⟨Nat.le_of_ble_eq_true rfl, Nat.le_of_ble_eq_true rfl⟩ (ci := 6) (q0 := 0) rfl rfl rfl (Nat.le_of_ble_eq_true rfl) rfl (by decide +kernel) rfl (putB_id rfl) dX6_advise_20 rfl ⟨Nat.le_of_ble_eq_true rfl, Nat.le_of_ble_eq_true rfl⟩ ?_
    rcases nxF_at fe fo nf (S 0) with ⟨wt, hw1, hw2⟩ | hw2
    · refine g_eqi (y := nI wt) hw2 ?_
      refine g_istore_n X [(2, .int (nI wt)), (0, .ref m6), (1, .int r)] 24 dX6_advise_23 rfl rfl (by decide) rfl ?_
      refine g_iload_n X 0 25 dX6_advise_24 rfl rfl rfl ?_
      refine g_iconst X (nIm 1) 26 dX6_advise_25 rfl (by decide +kernel) ?_
      refine g_icmp_ne X 29 35 dX6_advise_26 rfl (by decide) Iff.rfl (fun h26 => ?_) (fun h26 => absurd h26 (nIm1_ne (by omega)))
      have hE : advE fe fo nf (S 0) nr r = 0 := (if_neg h10).trans (if_neg (by rw [hw2]; exact nIm1_ne (by omega)))
      have hA : isR nr r := Classical.not_not.mp h10
      obtain ⟨ir, hr1, rfl⟩ := isR_nat hA (by omega)
      rw [tn_nI (show ir < 2 ^ 31 by omega), hw2, tn_nI (show wt < 2 ^ 31 by omega)] at ret
      have h3 := hg.1.2.2 ir hr1
      have hbd : ∀ c9 : Nat, c9 < 12 → cvC T st fe fo nw nr nf S ir (wt + 1) c9 < 2 ^ 31 := fun c9 hc9 => by have := cvC_le (r := ir) (d := wt + 1) (c := c9) hg hs hc9; omega
      refine g_aload_n X 1 36 dX6_advise_35 rfl rfl rfl ?_
      refine g_callVv (ws' := [(m6, .inr (6, [.int (nI 0), .int (nI nw), .int (nI nr), .int (nI nf), .ref q1, .ref q2, .ref q3, .ref q4, .ref q5, .ref q6])), (q1, .inl (cI, 30, .inl (v30 T))), (q2, .inl (cI, 6, .inl (v6 st))), (q3, .inl (cI, 4, .inl (v4 fe))), (q4, .inl (cI, 4, .inl (v4 fo))), (q5, .inl (cI, 130, .inl (vn S))), (q6, .inl (cI, 130, .inl (vn S)))]) X (m_X6_keep l D cI cZ cJ m6 0 nw nr nf q1 q2 q3 q4 q5 q6 S K) 39 [0, 5, 6] gX6_advise_X6_keep (n := 0) rfl (by decide +kernel) rfl ⟨Nat.le_of_ble_eq_true rfl, Nat.le_of_ble_eq_true rfl⟩ (ci := 6) (q0 := 0) rfl rfl rfl (Nat.le_of_ble_eq_true rfl) rfl (by decide +kernel) rfl rfl dX6_advise_36 rfl ⟨Nat.le_of_ble_eq_true rfl, Nat.le_of_ble_eq_true rfl⟩ ?_
      refine g_iconst X (nIm 1) 40 dX6_advise_39 rfl (by decide +kernel) ?_
      refine g_istore_n X [(3, .int (nIm 1)), (2, .int (nI wt)), (0, .ref m6), (1, .int (nI ir))] 41 dX6_advise_40 rfl rfl (by decide) rfl ?_
      refine g_iconst X (nIm 1) 42 dX6_advise_41 rfl (by decide +kernel) ?_
      refine g_istore X [(4, .int (nIm 1)), (3, .int (nIm 1)), (2, .int (nI wt)), (0, .ref m6), (1, .int (nI ir))] 44 dX6_advise_42 rfl (by decide) rfl ?_
      refine g_iconst X (nI 0) 45 dX6_advise_44 rfl (by decide +kernel) ?_
      refine g_istore X [(5, .int (nI 0)), (4, .int (nIm 1)), (3, .int (nIm 1)), (2, .int (nI wt)), (0, .ref m6), (1, .int (nI ir))] 47 dX6_advise_45 rfl (by decide) rfl ?_
      have L : ∀ j : Nat, j ≤ 12 → ∀ (b9 m9 : Int32), aPM T st fe fo nw nr nf S ir (wt + 1) j b9 m9 → G p l e rm_X6_advise s m args below meth c Q D A 7 0 0 [(m6, .inr (6, [.int (nI 0), .int (nI nw), .int (nI nr), .int (nI nf), .ref q1, .ref q2, .ref q3, .ref q4, .ref q5, .ref q6])), (q1, .inl (cI, 30, .inl (v30 T))), (q2, .inl (cI, 6, .inl (v6 st))), (q3, .inl (cI, 4, .inl (v4 fe))), (q4, .inl (cI, 4, .inl (v4 fo))), (q5, .inl (cI, 130, .inl (vn S))), (q6, .inl (cI, 130, .inl (vn S)))] [(5, .int (nI j)), (4, .int m9), (3, .int b9), (2, .int (nI wt)), (0, .ref m6), (1, .int (nI ir))] 47 [] := by
        refine g_down _ ?_ ?_
        · intro b9 m9 hp
          refine g_iload X 0 49 dX6_advise_47 rfl rfl ?_
          refine g_bipush X (nI 12) 51 dX6_advise_49 rfl (by decide +kernel) ?_
          refine g_icmp_ge X 54 126 dX6_advise_51 rfl (by decide) (nI_leI (by omega) (by omega)) (fun h51 => ?_) (fun h51 => absurd (Nat.le_refl _) h51)
          refine g_iload_n X 2 127 dX6_advise_126 rfl rfl rfl ?_
          exact ret _ _ _ _ dX6_advise_127 rfl ⟨fun _ => ⟨aPM_e h3.1 hp, rfl⟩, fun z => absurd hE z⟩
        · intro j hj ih_j b9 m9 hp
          refine g_iload X 0 49 dX6_advise_47 rfl rfl ?_
          refine g_bipush X (nI 12) 51 dX6_advise_49 rfl (by decide +kernel) ?_
          refine g_icmp_ge X 54 126 dX6_advise_51 rfl (by decide) (nI_leI (by omega) (by omega)) (fun h51 => absurd h51 (by omega)) (fun h51 => ?_)
          refine g_iload X 0 56 dX6_advise_54 rfl rfl ?_
          refine g_aload_n X 4 57 dX6_advise_56 rfl rfl rfl ?_
          refine g_iload_n X 5 58 dX6_advise_57 rfl rfl rfl ?_
          refine g_iconst X (nI 0) 59 dX6_advise_58 rfl (by decide +kernel) ?_
          refine g_callVi (ws' := [(m6, .inr (6, [.int (nI 0), .int (nI nw), .int (nI nr), .int (nI nf), .ref q1, .ref q2, .ref q3, .ref q4, .ref q5, .ref q6])), (q1, .inl (cI, 30, .inl (v30 T))), (q2, .inl (cI, 6, .inl (v6 st))), (q3, .inl (cI, 4, .inl (v4 fe))), (q4, .inl (cI, 4, .inl (v4 fo))), (q5, .inl (cI, 130, .inl (vn S))), (q6, .inl (cI, 130, .inl (vn S)))]) X (m_X6_ro l D cI cZ cJ m6 0 nw nr nf q1 q2 q3 q4 q5 q6 ir 0 S (by omega)) 62 [0, 5] gX6_advise_X6_ro (n := 2) rfl (by decide +kernel) rfl ⟨Nat.le_of_ble_eq_true rfl, Nat.le_of_ble_eq_true rfl⟩ (ci := 6) (q0 := 0) rfl rfl rfl (Nat.le_of_ble_eq_true rfl) rfl (by decide +kernel) rfl rfl dX6_advise_59 rfl ⟨Nat.le_of_ble_eq_true rfl, Nat.le_of_ble_eq_true rfl⟩ ?_
          refine g_eqi (y := nI (S (100 + 5 * ir))) rfl ?_
          refine g_icmp_eq X 65 84 dX6_advise_62 rfl (by decide) (nI_eq (by omega) (by omega)) (fun hq => ?_) (fun hq => ?_)
          · refine g_eqw (ws' := [(m6, .inr (6, [.int (nI 0), .int (nI nw), .int (nI nr), .int (nI nf), .ref q1, .ref q2, .ref q3, .ref q4, .ref q5, .ref q6])), (q1, .inl (cI, 30, .inl (v30 T))), (q2, .inl (cI, 6, .inl (v6 st))), (q3, .inl (cI, 4, .inl (v4 fe))), (q4, .inl (cI, 4, .inl (v4 fo))), (q5, .inl (cI, 130, .inl (vn (atC S ir j)))), (q6, .inl (cI, 130, .inl (vn S)))]) (by rw [show atC S ir j = S from if_pos hq]) ?_
            have hgA := atC_gd (r := ir) hg (show j < 12 by omega)
            have hA0 : atC S ir j 0 = S 0 := atC_lo (by decide)
            refine g_aload_n X 4 85 dX6_advise_84 rfl rfl rfl ?_
            refine g_iload_n X 3 86 dX6_advise_85 rfl rfl rfl ?_
            refine g_iconst X (nI 1) 87 dX6_advise_86 rfl (by decide +kernel) ?_
            refine g_iadd X (nI (wt + 1)) 88 dX6_advise_87 rfl (nI_add _ _) ?_
            refine g_callVv (ws' := [(m6, .inr (6, [.int (nI 0), .int (nI nw), .int (nI nr), .int (nI nf), .ref q1, .ref q2, .ref q3, .ref q4, .ref q5, .ref q6])), (q1, .inl (cI, 30, .inl (v30 T))), (q2, .inl (cI, 6, .inl (v6 st))), (q3, .inl (cI, 4, .inl (v4 fe))), (q4, .inl (cI, 4, .inl (v4 fo))), (q5, .inl (cI, 130, .inl (vn (daysS T st fe fo nw nr nf (atC S ir j) (wt + 1))))), (q6, .inl (cI, 130, .inl (vn S)))]) X (m_X6_daysOn l D cI cZ cJ m6 0 nw nr nf q1 q2 q3 q4 q5 q6 (wt + 1) T st fe fo (atC S ir j) hgA hs (by omega) (by omega)) 91 [0, 1, 2, 3, 4, 5] gX6_advise_X6_daysOn (n := 1) rfl (by decide +kernel) rfl ⟨Nat.le_of_ble_eq_true rfl, Nat.le_of_ble_eq_true rfl⟩ (ci := 6) (q0 := 0) rfl rfl rfl (Nat.le_of_ble_eq_true rfl) rfl (by decide +kernel) rfl ((putB_mg [some (m6, .inr (6, [.int (nI 0), .int (nI nw), .int (nI nr), .int (nI nf), .ref q1, .ref q2, .ref q3, .ref q4, .ref q5, .ref q6])), some (q1, .inl (cI, 30, .inl (v30 T))), some (q2, .inl (cI, 6, .inl (v6 st))), some (q3, .inl (cI, 4, .inl (v4 fe))), some (q4, .inl (cI, 4, .inl (v4 fo))), some (q5, .inl (cI, 130, .inl (vn (daysS T st fe fo nw nr nf (atC S ir j) (wt + 1))))), none] [true, true, true, true, true, true, false] rfl (by decide +kernel) rfl rfl rfl (by decide +kernel)).trans rfl) dX6_advise_88 rfl ⟨Nat.le_of_ble_eq_true rfl, Nat.le_of_ble_eq_true rfl⟩ ?_
            refine g_aload_n X 4 92 dX6_advise_91 rfl rfl rfl ?_
            refine g_get X hiX6 0 8 95 rfl rfl (by decide) (List.mem_of_getElem? (i := 2) rfl) rfl dX6_advise_92 rfl ?_
            refine g_iconst X (nI 2) 96 dX6_advise_95 rfl (by decide +kernel) ?_
            refine g_iald X 5 0 (2) (nI (cvC T st fe fo nw nr nf S ir (wt + 1) j)) 97 rfl rfl (by omega) (by decide) (vn_at (by decide)) dX6_advise_96 rfl ?_
            refine g_istore X [(6, .int (nI (cvC T st fe fo nw nr nf S ir (wt + 1) j))), (5, .int (nI j)), (4, .int m9), (3, .int b9), (2, .int (nI wt)), (0, .ref m6), (1, .int (nI ir))] 99 dX6_advise_97 rfl (by decide) rfl ?_
            refine g_aload_n X 5 100 dX6_advise_99 rfl rfl rfl ?_
            refine g_callVv (ws' := [(m6, .inr (6, [.int (nI 0), .int (nI nw), .int (nI nr), .int (nI nf), .ref q1, .ref q2, .ref q3, .ref q4, .ref q5, .ref q6])), (q1, .inl (cI, 30, .inl (v30 T))), (q2, .inl (cI, 6, .inl (v6 st))), (q3, .inl (cI, 4, .inl (v4 fe))), (q4, .inl (cI, 4, .inl (v4 fo))), (q5, .inl (cI, 130, .inl (vn S))), (q6, .inl (cI, 130, .inl (vn S)))]) X (m_X6_bringBack l D cI cZ cJ m6 0 nw nr nf q1 q2 q3 q4 q5 q6 (daysS T st fe fo nw nr nf (atC S ir j) (wt + 1)) S) 103 [0, 5, 6] gX6_advise_X6_bringBack (n := 0) rfl (by decide +kernel) rfl ⟨Nat.le_of_ble_eq_true rfl, Nat.le_of_ble_eq_true rfl⟩ (ci := 6) (q0 := 0) rfl rfl rfl (Nat.le_of_ble_eq_true rfl) rfl (by decide +kernel) rfl rfl dX6_advise_100 rfl ⟨Nat.le_of_ble_eq_true rfl, Nat.le_of_ble_eq_true rfl⟩ ?_
            refine g_iload X 0 105 dX6_advise_103 rfl rfl ?_
            refine g_iload X 2 107 dX6_advise_105 rfl rfl ?_
            refine g_icmp_gt X 110 113 dX6_advise_107 rfl (by decide) Iff.rfl (fun hgt => ?_) (fun hgt => ?_)
            · refine g_iload X 1 115 dX6_advise_113 rfl rfl ?_
              refine g_istore_n X [(3, .int (nI j)), (6, .int (nI (cvC T st fe fo nw nr nf S ir (wt + 1) j))), (5, .int (nI j)), (4, .int m9), (2, .int (nI wt)), (0, .ref m6), (1, .int (nI ir))] 116 dX6_advise_115 rfl rfl (by decide) rfl ?_
              refine g_iload X 1 118 dX6_advise_116 rfl rfl ?_
              refine g_istore X [(4, .int (nI (cvC T st fe fo nw nr nf S ir (wt + 1) j))), (3, .int (nI j)), (6, .int (nI (cvC T st fe fo nw nr nf S ir (wt + 1) j))), (5, .int (nI j)), (2, .int (nI wt)), (0, .ref m6), (1, .int (nI ir))] 120 dX6_advise_118 rfl (by decide) rfl ?_
              refine g_iinc X 3 (nI (j + 1)) [(5, .int (nI (j + 1))), (4, .int (nI (cvC T st fe fo nw nr nf S ir (wt + 1) j))), (3, .int (nI j)), (6, .int (nI (cvC T st fe fo nw nr nf S ir (wt + 1) j))), (2, .int (nI wt)), (0, .ref m6), (1, .int (nI ir))] 123 dX6_advise_120 rfl rfl (nI_inc _) (by decide) rfl ?_
              refine g_goto X 47 dX6_advise_123 (by decide) ?_
              refine g_lv (lv' := [(5, .int (nI (j + 1))), (4, .int (nI (cvC T st fe fo nw nr nf S ir (wt + 1) j))), (3, .int (nI j)), (2, .int (nI wt)), (0, .ref m6), (1, .int (nI ir))]) [0, 1, 2, 4, 5, 6] rfl ?_
              exact ih_j _ _ (aPM_t hbd (by omega) (Or.inl hq) hp hgt)
            · refine g_goto X 120 dX6_advise_110 (by decide) ?_
              refine g_iinc X 1 (nI (j + 1)) [(5, .int (nI (j + 1))), (6, .int (nI (cvC T st fe fo nw nr nf S ir (wt + 1) j))), (4, .int m9), (3, .int b9), (2, .int (nI wt)), (0, .ref m6), (1, .int (nI ir))] 123 dX6_advise_120 rfl rfl (nI_inc _) (by decide) rfl ?_
              refine g_goto X 47 dX6_advise_123 (by decide) ?_
              refine g_lv (lv' := [(5, .int (nI (j + 1))), (4, .int m9), (3, .int b9), (2, .int (nI wt)), (0, .ref m6), (1, .int (nI ir))]) [0, 2, 3, 4, 5, 6] rfl ?_
              exact ih_j b9 m9 (aPM_k hbd (by omega) hp hgt)
          · refine g_aload_n X 4 66 dX6_advise_65 rfl rfl rfl ?_
            refine g_iload X 0 68 dX6_advise_66 rfl rfl ?_
            refine g_callVi (ws' := [(m6, .inr (6, [.int (nI 0), .int (nI nw), .int (nI nr), .int (nI nf), .ref q1, .ref q2, .ref q3, .ref q4, .ref q5, .ref q6])), (q1, .inl (cI, 30, .inl (v30 T))), (q2, .inl (cI, 6, .inl (v6 st))), (q3, .inl (cI, 4, .inl (v4 fe))), (q4, .inl (cI, 4, .inl (v4 fo))), (q5, .inl (cI, 130, .inl (vn S))), (q6, .inl (cI, 130, .inl (vn S)))]) X (m_X6_isHung l D cI cZ cJ m6 0 nw nr nf q1 q2 q3 q4 q5 q6 j S hn (fun r hr => (hg.1.2.2 r hr).1) (by omega)) 71 [0, 5] gX6_advise_X6_isHung (n := 1) rfl (by decide +kernel) rfl ⟨Nat.le_of_ble_eq_true rfl, Nat.le_of_ble_eq_true rfl⟩ (ci := 6) (q0 := 0) rfl rfl rfl (Nat.le_of_ble_eq_true rfl) rfl (by decide +kernel) rfl rfl dX6_advise_68 rfl ⟨Nat.le_of_ble_eq_true rfl, Nat.le_of_ble_eq_true rfl⟩ ?_
            refine g_if_eq X 74 77 dX6_advise_71 rfl (by decide) (bn_eq0 _) (fun hh => ?_) (fun hh => ?_)
            · refine g_aload_n X 4 78 dX6_advise_77 rfl rfl rfl ?_
              refine g_iload_n X 5 79 dX6_advise_78 rfl rfl rfl ?_
              refine g_iload X 0 81 dX6_advise_79 rfl rfl ?_
              refine g_callVv (ws' := [(m6, .inr (6, [.int (nI 0), .int (nI nw), .int (nI nr), .int (nI nf), .ref q1, .ref q2, .ref q3, .ref q4, .ref q5, .ref q6])), (q1, .inl (cI, 30, .inl (v30 T))), (q2, .inl (cI, 6, .inl (v6 st))), (q3, .inl (cI, 4, .inl (v4 fe))), (q4, .inl (cI, 4, .inl (v4 fo))), (q5, .inl (cI, 130, .inl (vn (reh S ir j)))), (q6, .inl (cI, 130, .inl (vn S)))]) X (m_X6_hang l D cI cZ cJ m6 0 nw nr nf q1 q2 q3 q4 q5 q6 ir j S (by omega)) 84 [0, 5] gX6_advise_X6_hang (n := 2) rfl (by decide +kernel) rfl ⟨Nat.le_of_ble_eq_true rfl, Nat.le_of_ble_eq_true rfl⟩ (ci := 6) (q0 := 0) rfl rfl rfl (Nat.le_of_ble_eq_true rfl) rfl (by decide +kernel) rfl rfl dX6_advise_81 rfl ⟨Nat.le_of_ble_eq_true rfl, Nat.le_of_ble_eq_true rfl⟩ ?_
              refine g_eqw (ws' := [(m6, .inr (6, [.int (nI 0), .int (nI nw), .int (nI nr), .int (nI nf), .ref q1, .ref q2, .ref q3, .ref q4, .ref q5, .ref q6])), (q1, .inl (cI, 30, .inl (v30 T))), (q2, .inl (cI, 6, .inl (v6 st))), (q3, .inl (cI, 4, .inl (v4 fe))), (q4, .inl (cI, 4, .inl (v4 fo))), (q5, .inl (cI, 130, .inl (vn (atC S ir j)))), (q6, .inl (cI, 130, .inl (vn S)))]) (by rw [show atC S ir j = reh S ir j from if_neg hq]) ?_
              have hgA := atC_gd (r := ir) hg (show j < 12 by omega)
              have hA0 : atC S ir j 0 = S 0 := atC_lo (by decide)
              refine g_aload_n X 4 85 dX6_advise_84 rfl rfl rfl ?_
              refine g_iload_n X 3 86 dX6_advise_85 rfl rfl rfl ?_
              refine g_iconst X (nI 1) 87 dX6_advise_86 rfl (by decide +kernel) ?_
              refine g_iadd X (nI (wt + 1)) 88 dX6_advise_87 rfl (nI_add _ _) ?_
              refine g_callVv (ws' := [(m6, .inr (6, [.int (nI 0), .int (nI nw), .int (nI nr), .int (nI nf), .ref q1, .ref q2, .ref q3, .ref q4, .ref q5, .ref q6])), (q1, .inl (cI, 30, .inl (v30 T))), (q2, .inl (cI, 6, .inl (v6 st))), (q3, .inl (cI, 4, .inl (v4 fe))), (q4, .inl (cI, 4, .inl (v4 fo))), (q5, .inl (cI, 130, .inl (vn (daysS T st fe fo nw nr nf (atC S ir j) (wt + 1))))), (q6, .inl (cI, 130, .inl (vn S)))]) X (m_X6_daysOn l D cI cZ cJ m6 0 nw nr nf q1 q2 q3 q4 q5 q6 (wt + 1) T st fe fo (atC S ir j) hgA hs (by omega) (by omega)) 91 [0, 1, 2, 3, 4, 5] gX6_advise_X6_daysOn (n := 1) rfl (by decide +kernel) rfl ⟨Nat.le_of_ble_eq_true rfl, Nat.le_of_ble_eq_true rfl⟩ (ci := 6) (q0 := 0) rfl rfl rfl (Nat.le_of_ble_eq_true rfl) rfl (by decide +kernel) rfl ((putB_mg [some (m6, .inr (6, [.int (nI 0), .int (nI nw), .int (nI nr), .int (nI nf), .ref q1, .ref q2, .ref q3, .ref q4, .ref q5, .ref q6])), some (q1, .inl (cI, 30, .inl (v30 T))), some (q2, .inl (cI, 6, .inl (v6 st))), some (q3, .inl (cI, 4, .inl (v4 fe))), some (q4, .inl (cI, 4, .inl (v4 fo))), some (q5, .inl (cI, 130, .inl (vn (daysS T st fe fo nw nr nf (atC S ir j) (wt + 1))))), none] [true, true, true, true, true, true, false] rfl (by decide +kernel) rfl rfl rfl (by decide +kernel)).trans rfl) dX6_advise_88 rfl ⟨Nat.le_of_ble_eq_true rfl, Nat.le_of_ble_eq_true rfl⟩ ?_
              refine g_aload_n X 4 92 dX6_advise_91 rfl rfl rfl ?_
              refine g_get X hiX6 0 8 95 rfl rfl (by decide) (List.mem_of_getElem? (i := 2) rfl) rfl dX6_advise_92 rfl ?_
              refine g_iconst X (nI 2) 96 dX6_advise_95 rfl (by decide +kernel) ?_
              refine g_iald X 5 0 (2) (nI (cvC T st fe fo nw nr nf S ir (wt + 1) j)) 97 rfl rfl (by omega) (by decide) (vn_at (by decide)) dX6_advise_96 rfl ?_
              refine g_istore X [(6, .int (nI (cvC T st fe fo nw nr nf S ir (wt + 1) j))), (5, .int (nI j)), (4, .int m9), (3, .int b9), (2, .int (nI wt)), (0, .ref m6), (1, .int (nI ir))] 99 dX6_advise_97 rfl (by decide) rfl ?_
              refine g_aload_n X 5 100 dX6_advise_99 rfl rfl rfl ?_
              refine g_callVv (ws' := [(m6, .inr (6, [.int (nI 0), .int (nI nw), .int (nI nr), .int (nI nf), .ref q1, .ref q2, .ref q3, .ref q4, .ref q5, .ref q6])), (q1, .inl (cI, 30, .inl (v30 T))), (q2, .inl (cI, 6, .inl (v6 st))), (q3, .inl (cI, 4, .inl (v4 fe))), (q4, .inl (cI, 4, .inl (v4 fo))), (q5, .inl (cI, 130, .inl (vn S))), (q6, .inl (cI, 130, .inl (vn S)))]) X (m_X6_bringBack l D cI cZ cJ m6 0 nw nr nf q1 q2 q3 q4 q5 q6 (daysS T st fe fo nw nr nf (atC S ir j) (wt + 1)) S) 103 [0, 5, 6] gX6_advise_X6_bringBack (n := 0) rfl (by decide +kernel) rfl ⟨Nat.le_of_ble_eq_true rfl, Nat.le_of_ble_eq_true rfl⟩ (ci := 6) (q0 := 0) rfl rfl rfl (Nat.le_of_ble_eq_true rfl) rfl (by decide +kernel) rfl rfl dX6_advise_100 rfl ⟨Nat.le_of_ble_eq_true rfl, Nat.le_of_ble_eq_true rfl⟩ ?_
              refine g_iload X 0 105 dX6_advise_103 rfl rfl ?_
              refine g_iload X 2 107 dX6_advise_105 rfl rfl ?_
              refine g_icmp_gt X 110 113 dX6_advise_107 rfl (by decide) Iff.rfl (fun hgt => ?_) (fun hgt => ?_)
              · refine g_iload X 1 115 dX6_advise_113 rfl rfl ?_
                refine g_istore_n X [(3, .int (nI j)), (6, .int (nI (cvC T st fe fo nw nr nf S ir (wt + 1) j))), (5, .int (nI j)), (4, .int m9), (2, .int (nI wt)), (0, .ref m6), (1, .int (nI ir))] 116 dX6_advise_115 rfl rfl (by decide) rfl ?_
                refine g_iload X 1 118 dX6_advise_116 rfl rfl ?_
                refine g_istore X [(4, .int (nI (cvC T st fe fo nw nr nf S ir (wt + 1) j))), (3, .int (nI j)), (6, .int (nI (cvC T st fe fo nw nr nf S ir (wt + 1) j))), (5, .int (nI j)), (2, .int (nI wt)), (0, .ref m6), (1, .int (nI ir))] 120 dX6_advise_118 rfl (by decide) rfl ?_
                refine g_iinc X 3 (nI (j + 1)) [(5, .int (nI (j + 1))), (4, .int (nI (cvC T st fe fo nw nr nf S ir (wt + 1) j))), (3, .int (nI j)), (6, .int (nI (cvC T st fe fo nw nr nf S ir (wt + 1) j))), (2, .int (nI wt)), (0, .ref m6), (1, .int (nI ir))] 123 dX6_advise_120 rfl rfl (nI_inc _) (by decide) rfl ?_
                refine g_goto X 47 dX6_advise_123 (by decide) ?_
                refine g_lv (lv' := [(5, .int (nI (j + 1))), (4, .int (nI (cvC T st fe fo nw nr nf S ir (wt + 1) j))), (3, .int (nI j)), (2, .int (nI wt)), (0, .ref m6), (1, .int (nI ir))]) [0, 1, 2, 4, 5, 6] rfl ?_
                exact ih_j _ _ (aPM_t hbd (by omega) (Or.inr hh) hp hgt)
              · refine g_goto X 120 dX6_advise_110 (by decide) ?_
                refine g_iinc X 1 (nI (j + 1)) [(5, .int (nI (j + 1))), (6, .int (nI (cvC T st fe fo nw nr nf S ir (wt + 1) j))), (4, .int m9), (3, .int b9), (2, .int (nI wt)), (0, .ref m6), (1, .int (nI ir))] 123 dX6_advise_120 rfl rfl (nI_inc _) (by decide) rfl ?_
                refine g_goto X 47 dX6_advise_123 (by decide) ?_
                refine g_lv (lv' := [(5, .int (nI (j + 1))), (4, .int m9), (3, .int b9), (2, .int (nI wt)), (0, .ref m6), (1, .int (nI ir))]) [0, 2, 3, 4, 5, 6] rfl ?_
                exact ih_j b9 m9 (aPM_k hbd (by omega) hp hgt)
            · refine g_goto X 120 dX6_advise_74 (by decide) ?_
              refine g_iinc X 0 (nI (j + 1)) [(5, .int (nI (j + 1))), (4, .int m9), (3, .int b9), (2, .int (nI wt)), (0, .ref m6), (1, .int (nI ir))] 123 dX6_advise_120 rfl rfl (nI_inc _) (by decide) rfl ?_
              refine g_goto X 47 dX6_advise_123 (by decide) ?_
              exact ih_j b9 m9 (aPM_h (fun z => z.elim hq (fun z => hh z)) hp)
      exact L 0 (Nat.zero_le _) (nIm 1) (nIm 1) (Or.inl ⟨rfl, rfl, fun c9 hc9 => absurd hc9 (Nat.not_lt_zero c9)⟩)
    · refine g_eqi (y := nIm 1) hw2 ?_
      refine g_istore_n X [(2, .int (nIm 1)), (0, .ref m6), (1, .int r)] 24 dX6_advise_23 rfl rfl (by decide) rfl ?_
      refine g_iload_n X 0 25 dX6_advise_24 rfl rfl rfl ?_
      refine g_iconst X (nIm 1) 26 dX6_advise_25 rfl (by decide +kernel) ?_
      refine g_icmp_ne X 29 35 dX6_advise_26 rfl (by decide) Iff.rfl (fun h26 => absurd rfl h26) (fun h26 => ?_)
      refine g_aload_n X 1 30 dX6_advise_29 rfl rfl rfl ?_
      refine g_iconst X (nI 2) 31 dX6_advise_30 rfl (by decide +kernel) ?_
      refine g_callVi (ws' := [(m6, .inr (6, [.int (nI 2), .int (nI nw), .int (nI nr), .int (nI nf), .ref q1, .ref q2, .ref q3, .ref q4, .ref q5, .ref q6])), (q1, .inl (cI, 30, .inl (v30 T))), (q2, .inl (cI, 6, .inl (v6 st))), (q3, .inl (cI, 4, .inl (v4 fe))), (q4, .inl (cI, 4, .inl (v4 fo))), (q5, .inl (cI, 130, .inl (vn S))), (q6, .inl (cI, 130, .inl (vn K)))]) X (m_X6_fail l D cI cZ cJ m6 0 nw nr nf q1 q2 q3 q4 q5 q6 2) 34 [0] gX6_advise_X6_fail (n := 1) rfl (by decide +kernel) rfl ⟨Nat.le_of_ble_eq_true rfl, Nat.le_of_ble_eq_true rfl⟩ (ci := 6) (q0 := 0) rfl rfl rfl (Nat.le_of_ble_eq_true rfl) rfl (by decide +kernel) rfl rfl dX6_advise_31 rfl ⟨Nat.le_of_ble_eq_true rfl, Nat.le_of_ble_eq_true rfl⟩ ?_
      have hE := (show advE fe fo nf (S 0) nr r = 2 from (if_neg h10).trans (if_pos hw2))
      exact ret _ _ _ _ dX6_advise_34 rfl ⟨fun z => absurd (hE.symm.trans z) (by decide), fun _ => ⟨rfl, by rw [hE]⟩⟩
  · refine g_aload_n X 0 14 dX6_advise_13 rfl rfl rfl ?_
    refine g_iconst X (nI 1) 15 dX6_advise_14 rfl (by decide +kernel) ?_
    refine g_callVi (ws' := [(m6, .inr (6, [.int (nI 1), .int (nI nw), .int (nI nr), .int (nI nf), .ref q1, .ref q2, .ref q3, .ref q4, .ref q5, .ref q6])), (q1, .inl (cI, 30, .inl (v30 T))), (q2, .inl (cI, 6, .inl (v6 st))), (q3, .inl (cI, 4, .inl (v4 fe))), (q4, .inl (cI, 4, .inl (v4 fo))), (q5, .inl (cI, 130, .inl (vn S))), (q6, .inl (cI, 130, .inl (vn K)))]) X (m_X6_fail l D cI cZ cJ m6 0 nw nr nf q1 q2 q3 q4 q5 q6 1) 18 [0] gX6_advise_X6_fail (n := 1) rfl (by decide +kernel) rfl ⟨Nat.le_of_ble_eq_true rfl, Nat.le_of_ble_eq_true rfl⟩ (ci := 6) (q0 := 0) rfl rfl rfl (Nat.le_of_ble_eq_true rfl) rfl (by decide +kernel) rfl rfl dX6_advise_15 rfl ⟨Nat.le_of_ble_eq_true rfl, Nat.le_of_ble_eq_true rfl⟩ ?_
    have hE := (show advE fe fo nf (S 0) nr r = 1 from if_pos h10)
    exact ret _ _ _ _ dX6_advise_18 rfl ⟨fun z => absurd (hE.symm.trans z) (by decide), fun _ => ⟨rfl, by rw [hE]⟩⟩
