/-! THE NEXT FREE COLUMN, SOOT TAKEN OFF BY ONES, AND OTHER FACTS OF A DAY -/
theorem holes : ∀ (m n : Nat) (f : Nat → Nat), (∀ i, i < n → f i < m) → (∀ i j, i < j → j < n → f i ≠ f j) → n ≤ m
  | 0, n, f, h1, _ => by
    rcases Nat.eq_zero_or_pos n with h | h
    · omega
    · exact absurd (h1 0 h) (Nat.not_lt_zero _)
  | m + 1, n, f, h1, h2 => by
    rcases Nat.eq_zero_or_pos n with h | h
    · omega
    · -- the value of the last place is taken out: what is m comes to its value
      have h3 := holes m (n - 1) (fun i => if f i = m then f (n - 1) else f i) (fun i hi => by
        have a1 := h1 i (by omega)
        have a2 := h1 (n - 1) (by omega)
        have a3 := h2 i (n - 1) (by omega) (by omega)
        show (if f i = m then f (n - 1) else f i) < m
        split <;> omega) (fun i j hij hj => by
        have a1 := h2 i j hij (by omega)
        have a2 := h2 i (n - 1) (by omega) (by omega)
        have a3 := h2 j (n - 1) (by omega) (by omega)
        show (if f i = m then f (n - 1) else f i) ≠ (if f j = m then f (n - 1) else f j)
        split <;> split <;> omega)
      omega
theorem cyc_1 {S : Nat → Nat} {r : Nat} (h : S (100 + 5 * r) < 12) (hw : wyS S r = 1) : ∀ t : Nat, cyc S r t = (S (100 + 5 * r) + t) % 12
  | 0 => by show S (100 + 5 * r) = _; omega
  | t + 1 => by
    show (cyc S r t + wyS S r) % 12 = _
    rw [cyc_1 h hw t, hw]; omega
theorem cyc_11 {S : Nat → Nat} {r : Nat} (h : S (100 + 5 * r) < 12) (hw : wyS S r = 11) : ∀ t : Nat, cyc S r t = (S (100 + 5 * r) + 11 * t) % 12
  | 0 => by show S (100 + 5 * r) = _; omega
  | t + 1 => by
    show (cyc S r t + wyS S r) % 12 = _
    rw [cyc_11 h hw t, hw]; omega
theorem cyc_ne {S : Nat → Nat} {r i j : Nat} (h : S (100 + 5 * r) < 12) (hij : i < j) (hj : j < 7) : cyc S r i ≠ cyc S r j := by
  rcases (show wyS S r = 1 ∨ wyS S r = 11 by unfold wyS; split <;> omega) with hw | hw
  · rw [cyc_1 h hw, cyc_1 h hw]; omega
  · rw [cyc_11 h hw, cyc_11 h hw]; omega
theorem free_t {S : Nat → Nat} {n r : Nat} (h : Gw S n) (hr : r < n) : ∃ t : Nat, t < 7 ∧ hung S n (cyc S r t) = false := by
  apply Classical.byContradiction
  intro hno
  have hall : ∀ t : Nat, t < 7 → ∃ q : Nat, q < n ∧ S (100 + 5 * q) = cyc S r t := fun t ht => by
    cases hh : hung S n (cyc S r t) with
    | true => exact hung_of hh
    | false => exact absurd ⟨t, ht, hh⟩ hno
  have h7 := holes n 7 (fun t => if ht : t < 7 then (hall t ht).choose else 0) (fun t ht => by
    show (if ht : t < 7 then (hall t ht).choose else 0) < n
    rw [dif_pos ht]
    exact (hall t ht).choose_spec.1) (fun i j hij hj e => by
    have hi : i < 7 := by omega
    have e2 : (if ht : i < 7 then (hall i ht).choose else 0) = (if ht : j < 7 then (hall j ht).choose else 0) := e
    rw [dif_pos hi, dif_pos hj] at e2
    have e3 := (hall i hi).choose_spec.2
    have e4 := (hall j hj).choose_spec.2
    rw [e2, e4] at e3
    exact cyc_ne (h.2.2 r hr).1 hij hj e3.symm)
  have := h.1
  omega
theorem free_K {S : Nat → Nat} {n r : Nat} (h : Gw S n) (hr : r < n) : ∃ K : Nat, K < 7 ∧ 0 < K ∧ (∀ t : Nat, t < K → hung S n (cyc S r t) = true) ∧ hung S n (cyc S r K) = false ∧ nfc S n r = cyc S r K := by
  obtain ⟨t0, ht0, hf0⟩ := free_t h hr
  obtain ⟨K, hK, hmin⟩ := pk_least (fun t => hung S n (cyc S r t) = false) ⟨t0, hf0⟩
  have hlt : ∀ t : Nat, t < K → hung S n (cyc S r t) = true := fun t ht => by
    have := hmin t ht
    simpa using this
  have h0 : 0 < K := by
    rcases Nat.eq_zero_or_pos K with h1 | h1
    · subst h1
      have : hung S n (cyc S r 0) = true := hung_t hr rfl
      rw [hK] at this
      cases this
    · exact h1
  have hK7 : K < 7 := by
    rcases Nat.lt_or_ge t0 K with h1 | h1
    · have := hlt t0 h1
      rw [hf0] at this
      cases this
    · omega
  refine ⟨K, hK7, h0, hlt, hK, ?_⟩
  have key : ∀ t : Nat, t < K → nfc S n r = nfR S n r (11 - t) (cyc S r t) := by
    intro t
    induction t with
    | zero => intro _; rfl
    | succ t ih =>
      intro ht
      rw [ih (by omega), show 11 - t = (11 - (t + 1)) + 1 by omega]
      exact nfR_t (hlt (t + 1) ht)
  rw [key (K - 1) (by omega), show 11 - (K - 1) = (11 - K) + 1 by omega]
  have e1 : (cyc S r (K - 1) + wyS S r) % 12 = cyc S r K := by
    conv => rhs; rw [show K = (K - 1) + 1 by omega]
    rfl
  rw [nfR_f (by rw [e1]; exact hK), e1]
theorem wd_ge {w : Nat} (h : windOk w) : 0 ≤ nI w ↔ w ≤ 5 := by
  rw [← Int32.not_lt, wd_lt h]
  exact ⟨fun z => Classical.not_not.mp z, fun z y => y z⟩
theorem mx0_t {a b : Nat} (ha : a < 2 ^ 30) (hb : b < 2 ^ 30) (h : ¬ nI a - nI b ≤ 0) : nI a - nI b = nI (a - b) := by
  have h1 := nI_max0 ha hb
  rw [if_pos (by rw [nI_0]; exact Int32.not_le.mp h)] at h1
  exact h1
theorem mx0_f {a b : Nat} (ha : a < 2 ^ 30) (hb : b < 2 ^ 30) (h : nI a - nI b ≤ 0) : a - b = 0 := by
  have h1 := nI_max0 ha hb
  rw [if_neg (by rw [nI_0]; exact Int32.not_lt.mpr h)] at h1
  exact ((nI_eq (by decide) (by omega)).mp h1).symm
theorem bl_i {w i : Nat} (h : w ≤ 5) : w - i / 2 = bl w i := by unfold bl; rw [if_pos h]
theorem bl_n {w i : Nat} (h : ¬ w ≤ 5) : (2 ^ 32 - w) - (11 - i) / 2 = bl w i := by unfold bl; rw [if_neg h]
theorem up_up {S : Nat → Nat} {k a b : Nat} : up (up S k a) k b = up S k b := by
  funext j
  unfold up
  split <;> rfl
theorem ofR_t {S : Nat → Nat} {r lf t : Nat} (h : t ≤ ofR S r lf) : ofR S r t = t := by
  unfold ofR at *
  omega
theorem tkS_of {S : Nat → Nat} {r lf : Nat} : tkS S r (ofR S r lf) = tkS S r lf := by
  unfold tkS
  rw [ofR_t (Nat.le_refl _)]
theorem tkS_pn {S : Nat → Nat} {n r lf t : Nat} (h : Gw S n) (hr : r < n) (ht : t ≤ ofR S r lf) : tkS S r t (pnR S r) = S (pnR S r) - t := by
  have := pnR_lt h hr
  unfold tkS
  rw [up_n (by omega), up_s, ofR_t ht]
theorem tkS_3 {S : Nat → Nat} {r lf t : Nat} (ht : t ≤ ofR S r lf) : tkS S r t (100 + 5 * r + 3) = S (100 + 5 * r + 3) + t := by
  unfold tkS
  rw [up_s, ofR_t ht]
theorem tkS_s {S : Nat → Nat} {n r lf t : Nat} (h : Gw S n) (hr : r < n) (ht : t < ofR S r lf) : up (up (tkS S r t) (pnR S r) (S (pnR S r) - t - 1)) (100 + 5 * r + 3) (S (100 + 5 * r + 3) + t + 1) = tkS S r (t + 1) := by
  have hp := pnR_lt h hr
  unfold tkS
  rw [ofR_t (S := S) (r := r) (lf := lf) (show t ≤ _ by omega), ofR_t (S := S) (r := r) (lf := lf) (show t + 1 ≤ _ by omega)]
  funext j
  by_cases h1 : j = 100 + 5 * r + 3
  · subst h1
    rw [up_s, up_s]; omega
  · rw [up_n h1, up_n h1]
    by_cases h2 : j = pnR S r
    · subst h2
      rw [up_s, up_s]; omega
    · rw [up_n h2, up_n h2, up_n h1, up_n h2]
/-- rows under the day's own numbers -/
theorem sR_lo {cI : ClassId} {sc wa ra fa : Nat → Nat} {nw nr nf : Nat} {S T st fe fo : Nat → Nat} {C9 : va_W} {p v : Nat} (h : p < 4) : sR cI sc wa ra fa nw nr nf S T st fe fo C9 = sR cI sc wa ra fa nw nr nf (up S p v) T st fe fo C9 :=
  sR_congr (fun j hj => vcl_lo hj (Or.inl h)) (fun r hr => vrp_o (Or.inl (by omega)))
theorem gt_96 {S : Nat → Nat} : gtU (12 * 8) S = gt S := rfl
