/-! A DAY, AND DAYS -/
theorem gt_lo {S : Nat → Nat} {k : Nat} (h : k < 4) : gt S k = S k := gtU_lo h
theorem gt_0 {S : Nat → Nat} : gt S 0 = S 0 := gt_lo (by decide)
theorem gt_1 {S : Nat → Nat} : gt S 1 = S 1 := gt_lo (by decide)
theorem gt_2 {S : Nat → Nat} : gt S 2 = S 2 := gt_lo (by decide)
theorem gt_3 {S : Nat → Nat} : gt S 3 = S 3 := gt_lo (by decide)
theorem gt_hi {S : Nat → Nat} {k : Nat} (h : 100 ≤ k) : gt S k = S k := gtU_hi h
theorem gt_r {q : Nat} {S : Nat → Nat} : vr q (gt S) = vr q S := by
  funext k
  unfold vr
  rw [gt_hi (by omega)]
theorem gt_w {n : Nat} {S : Nat → Nat} : vw n (gt S) = vw n S := by
  funext k
  unfold vw
  rw [gt_hi (by omega)]
theorem gt_gw {S : Nat → Nat} {n : Nat} (h : Gw S n) : Gw (gt S) n := by
  refine ⟨h.1, gt_ok, fun r hr => ?_⟩
  rw [gt_hi (by omega), gt_hi (by omega), gt_hi (by omega)]
  exact h.2.2 r hr
theorem tkS_lo {S : Nat → Nat} {n r lf k : Nat} (h : Gw S n) (hr : r < n) (hk : k < 4) : tkS S r lf k = S k := by
  have := pnR_lt h hr
  unfold tkS
  rw [up_n (by omega), up_n (by omega)]
theorem wk_lo (n r : Nat) (hr : r < n) {i : Nat} (hi : i < 4) : ∀ (k lf : Nat) (S : Nat → Nat), Gw S n → wk n r k lf S i = S i
  | 0, _, _, _ => rfl
  | k + 1, lf, S, h => by
    have h1 := tkS_gw (lf := lf) h hr
    have e1 : tkS S r lf i = S i := tkS_lo h hr hi
    unfold wk
    split
    · rfl
    · split
      · exact e1
      · split
        · next h7 =>
          rw [wk_lo n r hr hi k _ _ (dnS_gw h1 (by rw [tkS_hi h hr (by omega) (by omega)]; exact h7))]
          unfold dnS
          rw [up_n (by omega)]; exact e1
        · split
          · exact e1
          · exact (wk_lo n r hr hi k _ _ (reh_gw h1 (nfR_lt (h1.2.2 r hr).1 _ _))).trans ((reh_lo (by omega)).trans e1)
theorem wkA_lo {n : Nat} {st S : Nat → Nat} {i : Nat} (hi : i < 4) (h : Gw S n) : ∀ r : Nat, r ≤ n → wkA n st S r i = S i
  | 0, _ => rfl
  | r + 1, hr => (wk_lo n r (by omega) hi 31 (st r) _ (wkA_gw h r (by omega))).trans (wkA_lo hi h r (by omega))
/-- what never changes in days: windows, strengths, feasts -/
def stOk (T st fe fo : Nat → Nat) (nw nr nf : Nat) : Prop := nw ≤ 6 ∧ (∀ k : Nat, k < nw → winOk T k) ∧ (∀ r : Nat, r < nr → st r ≤ 30) ∧ feOk fe nf ∧ ∀ k : Nat, k < nf → fo k < 2 ^ 30
def Gd (S : Nat → Nat) (n : Nat) : Prop := Gw S n ∧ windOk (S 1)
def dyF (S T : Nat → Nat) (nw : Nat) : Nat → Nat := up (up (up (gt S) 2 (gt S 2 + allB (gt S) T nw)) 3 (gt S 3 + 1)) 0 (gt S 0 + 1)
def dyW (S st : Nat → Nat) (nr : Nat) : Nat → Nat := up (wkA nr st (gt S) nr) 0 (wkA nr st (gt S) nr 0 + 1)
def dayS (T st fe fo : Nat → Nat) (nw nr nf : Nat) (S : Nat → Nat) : Nat → Nat := if feastOn fe fo nf (gt S 0) = true then dyF S T nw else dyW S st nr
def daysS (T st fe fo : Nat → Nat) (nw nr nf : Nat) (S : Nat → Nat) : Nat → Nat → Nat
  | 0 => S
  | k + 1 => dayS T st fe fo nw nr nf (daysS T st fe fo nw nr nf S k)
theorem dyW_0 {S st : Nat → Nat} {nr : Nat} (h : Gw S nr) : dyW S st nr 0 = S 0 + 1 := by
  unfold dyW
  rw [up_s, wkA_lo (by decide) (gt_gw h) nr (Nat.le_refl _), gt_0]
theorem dyW_k {S st : Nat → Nat} {nr k : Nat} (h : Gw S nr) (hk : k < 4) (h0 : k ≠ 0) : dyW S st nr k = S k := by
  unfold dyW
  rw [up_n h0, wkA_lo hk (gt_gw h) nr (Nat.le_refl _), gt_lo hk]
theorem dayS_0 {T st fe fo S : Nat → Nat} {nw nr nf : Nat} (h : Gw S nr) : dayS T st fe fo nw nr nf S 0 = S 0 + 1 := by
  unfold dayS
  split
  · unfold dyF; rw [up_s, gt_0]
  · exact dyW_0 h
theorem dayS_1 {T st fe fo S : Nat → Nat} {nw nr nf : Nat} (h : Gw S nr) : dayS T st fe fo nw nr nf S 1 = S 1 := by
  unfold dayS
  split
  · unfold dyF; rw [up_n (by decide), up_n (by decide), up_n (by decide), gt_1]
  · exact dyW_k h (by decide) (by decide)
theorem up_gw {S : Nat → Nat} {n k v : Nat} (h : Gw S n) (hk : k < 4) : Gw (up S k v) n := by
  refine ⟨h.1, fun j hj => ?_, fun r hr => ?_⟩
  · rw [up_n (by omega)]; exact h.2.1 j hj
  · rw [up_n (by omega), up_n (by omega), up_n (by omega)]; exact h.2.2 r hr
theorem dayS_gw {T st fe fo S : Nat → Nat} {nw nr nf : Nat} (h : Gw S nr) : Gw (dayS T st fe fo nw nr nf S) nr := by
  unfold dayS
  split
  · exact up_gw (up_gw (up_gw (gt_gw h) (by decide)) (by decide)) (by decide)
  · exact up_gw (wkA_gw (gt_gw h) nr (Nat.le_refl _)) (by decide)
theorem dayS_gd {T st fe fo S : Nat → Nat} {nw nr nf : Nat} (h : Gd S nr) : Gd (dayS T st fe fo nw nr nf S) nr := ⟨dayS_gw h.1, by rw [dayS_1 h.1]; exact h.2⟩
theorem daysS_gd {T st fe fo S : Nat → Nat} {nw nr nf : Nat} (h : Gd S nr) : ∀ k : Nat, Gd (daysS T st fe fo nw nr nf S k) nr
  | 0 => h
  | k + 1 => dayS_gd (daysS_gd h k)
theorem daysS_0 {T st fe fo S : Nat → Nat} {nw nr nf : Nat} (h : Gd S nr) : ∀ k : Nat, daysS T st fe fo nw nr nf S k 0 = S 0 + k
  | 0 => rfl
  | k + 1 => by
    show dayS T st fe fo nw nr nf (daysS T st fe fo nw nr nf S k) 0 = S 0 + (k + 1)
    rw [dayS_0 (daysS_gd h k).1, daysS_0 h k]
    omega
theorem dayS_f {T st fe fo S : Nat → Nat} {nw nr nf : Nat} (h : feastOn fe fo nf (gt S 0) = true) : dayS T st fe fo nw nr nf S = dyF S T nw := if_pos h
theorem dayS_w {T st fe fo S : Nat → Nat} {nw nr nf : Nat} (h : feastOn fe fo nf (gt S 0) = false) : dayS T st fe fo nw nr nf S = dyW S st nr := if_neg (by rw [h]; decide)
