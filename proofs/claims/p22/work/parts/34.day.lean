/-! WHAT A DAY DOES: soot is taken off by ropes alone, none takes more than its strength -/
theorem sm_upd {f : Nat → Nat} {v i : Nat} : ∀ {n : Nat}, i < n → sm (fun k => if k = i then v else f k) n + f i = sm f n + v
  | 0, h => absurd h (Nat.not_lt_zero i)
  | n + 1, h => by
    rw [sm_s, sm_s]
    rcases Nat.lt_or_ge i n with q | q
    · have h1 := sm_upd (f := f) (v := v) q
      have h2 : ¬ n = i := by omega
      show sm (fun k => if k = i then v else f k) n + (if n = i then v else f n) + f i = _
      rw [if_neg h2]; omega
    · have h2 : n = i := by omega
      subst h2
      have h3 : sm (fun k => if k = n then v else f k) n = sm f n := sm_congr n (fun k hk => by
        show (if k = n then v else f k) = f k
        rw [if_neg (by omega)])
      show sm (fun k => if k = n then v else f k) n + (if n = n then v else f n) + f n = _
      rw [if_pos rfl, h3]; omega
theorem allS_up {S : Nat → Nat} {p v : Nat} (h4 : 4 ≤ p) (h : p < 100) : allS (up S p v) + S p = allS S + v := by
  have h1 := sm_upd (f := fun k => S (4 + k)) (v := v) (i := p - 4) (n := 96) (by omega)
  have h2 : S (4 + (p - 4)) = S p := congrArg S (by omega)
  have h1 : sm (fun k => if k = p - 4 then v else S (4 + k)) 96 + S (4 + (p - 4)) = sm (fun k => S (4 + k)) 96 + v := h1
  rw [h2] at h1
  have h3 : (fun k => up S p v (4 + k)) = (fun k => if k = p - 4 then v else S (4 + k)) := by
    funext k
    unfold up
    by_cases hk : k = p - 4
    · rw [if_pos hk, if_pos (by omega)]
    · rw [if_neg hk, if_neg (by omega)]
  show sm (fun k => up S p v (4 + k)) 96 + S p = _
  rw [h3]
  exact h1
theorem allS_o {S : Nat → Nat} {p v : Nat} (h : p < 4 ∨ 100 ≤ p) : allS (up S p v) = allS S := sm_congr 96 (fun k hk => up_n (by omega))
theorem allS_tk {S : Nat → Nat} {n r lf : Nat} (h : Gw S n) (hr : r < n) : allS (tkS S r lf) + ofR S r lf = allS S := by
  have hp := pnR_lt h hr
  unfold tkS
  rw [allS_o (p := 100 + 5 * r + 3) (by omega)]
  have h1 := allS_up (S := S) (v := S (pnR S r) - ofR S r lf) hp.1 hp.2
  have h2 : ofR S r lf ≤ S (pnR S r) := Nat.min_le_right _ _
  omega
theorem allS_dn {S : Nat → Nat} {r : Nat} : allS (dnS S r) = allS S := allS_o (by omega)
theorem allS_reh {S : Nat → Nat} {r x : Nat} : allS (reh S r x) = allS S := by
  unfold reh
  rw [allS_o (by omega), allS_o (by omega), allS_o (by omega)]
theorem tk_le {S : Nat → Nat} {r lf p : Nat} (hp : p < 100) : tkS S r lf p ≤ S p := by
  unfold tkS
  rw [up_n (by omega)]
  by_cases h : p = pnR S r
  · subst h; rw [up_s]; omega
  · rw [up_n h]; exact Nat.le_refl _
theorem tk_30 {S : Nat → Nat} {r lf : Nat} : tkS S r lf (100 + 5 * r + 3) = S (100 + 5 * r + 3) + ofR S r lf := by
  unfold tkS
  rw [up_s]
/-- a rope's day -/
theorem wk_d (n r : Nat) (hr : r < n) : ∀ (k lf : Nat) (S : Nat → Nat), Gw S n →
    (∀ p : Nat, p < 100 → wk n r k lf S p ≤ S p) ∧ allS (wk n r k lf S) + wk n r k lf S (100 + 5 * r + 3) = allS S + S (100 + 5 * r + 3) ∧
    S (100 + 5 * r + 3) ≤ wk n r k lf S (100 + 5 * r + 3) ∧ S (100 + 5 * r + 4) ≤ wk n r k lf S (100 + 5 * r + 4) ∧
    (wk n r k lf S (100 + 5 * r + 3) - S (100 + 5 * r + 3)) + 3 * (wk n r k lf S (100 + 5 * r + 4) - S (100 + 5 * r + 4)) ≤ lf
  | 0, lf, S, _ => ⟨fun p _ => Nat.le_refl _, rfl, Nat.le_refl _, Nat.le_refl _, by show S (100 + 5 * r + 3) - S (100 + 5 * r + 3) + 3 * (S (100 + 5 * r + 4) - S (100 + 5 * r + 4)) ≤ lf; rw [Nat.sub_self, Nat.sub_self]; omega⟩
  | k + 1, lf, S, h => by
    have h1 := tkS_gw (lf := lf) h hr
    have hof : ofR S r lf ≤ lf := Nat.min_le_left _ _
    have ha := allS_tk (lf := lf) h hr
    have e3 := tk_30 (S := S) (r := r) (lf := lf)
    have e4 : tkS S r lf (100 + 5 * r + 4) = S (100 + 5 * r + 4) := tkS_hi h hr (by omega) (by omega)
    have hl : ∀ p : Nat, p < 100 → tkS S r lf p ≤ S p := fun p hp => tk_le hp
    have stop : (∀ p : Nat, p < 100 → tkS S r lf p ≤ S p) ∧ allS (tkS S r lf) + tkS S r lf (100 + 5 * r + 3) = allS S + S (100 + 5 * r + 3) ∧ S (100 + 5 * r + 3) ≤ tkS S r lf (100 + 5 * r + 3) ∧ S (100 + 5 * r + 4) ≤ tkS S r lf (100 + 5 * r + 4) ∧ (tkS S r lf (100 + 5 * r + 3) - S (100 + 5 * r + 3)) + 3 * (tkS S r lf (100 + 5 * r + 4) - S (100 + 5 * r + 4)) ≤ lf := by
      refine ⟨hl, ?_, ?_, ?_, ?_⟩ <;> (try rw [e3]) <;> (try rw [e4]) <;> omega
    unfold wk
    split
    · refine ⟨fun p _ => Nat.le_refl _, rfl, Nat.le_refl _, Nat.le_refl _, ?_⟩
      rw [Nat.sub_self, Nat.sub_self]; omega
    · split
      · exact stop
      · next hz =>
        split
        · next h7 =>
          have g2 := dnS_gw h1 (by rw [tkS_hi h hr (by omega) (by omega)]; exact h7)
          obtain ⟨i1, i2, i3, i4, i5⟩ := wk_d n r hr k (lf - ofR S r lf - 1) _ g2
          have f3 : dnS (tkS S r lf) r (100 + 5 * r + 3) = tkS S r lf (100 + 5 * r + 3) := up_n (by omega)
          have f4 : dnS (tkS S r lf) r (100 + 5 * r + 4) = tkS S r lf (100 + 5 * r + 4) := up_n (by omega)
          have fl : ∀ p : Nat, p < 100 → dnS (tkS S r lf) r p = tkS S r lf p := fun p hp => up_n (by omega)
          rw [f3, allS_dn] at i2
          rw [f3] at i3 i5
          rw [f4] at i4 i5
          rw [e3] at i2 i3 i5
          rw [e4] at i4 i5
          refine ⟨fun p hp => Nat.le_trans (i1 p hp) (by rw [fl p hp]; exact hl p hp), by omega, by omega, i4, by omega⟩
        · split
          · exact stop
          · next h3 =>
            have g2 := reh_gw (r := r) h1 (nfR_lt (S := tkS S r lf) (n := n) (r := r) (h1.2.2 r hr).1 11 (tkS S r lf (100 + 5 * r)))
            obtain ⟨i1, i2, i3, i4, i5⟩ := wk_d n r hr k (lf - ofR S r lf - 3) _ g2
            have f3 : reh (tkS S r lf) r (nfR (tkS S r lf) n r 11 (tkS S r lf (100 + 5 * r))) (100 + 5 * r + 3) = tkS S r lf (100 + 5 * r + 3) := by
              unfold reh
              rw [up_n (by omega), up_n (by omega), up_n (by omega)]
            have f4 : reh (tkS S r lf) r (nfR (tkS S r lf) n r 11 (tkS S r lf (100 + 5 * r))) (100 + 5 * r + 4) = tkS S r lf (100 + 5 * r + 4) + 1 := by
              unfold reh
              rw [up_s]
            have fl : ∀ p : Nat, p < 100 → reh (tkS S r lf) r (nfR (tkS S r lf) n r 11 (tkS S r lf (100 + 5 * r))) p = tkS S r lf p := fun p hp => reh_lo hp
            rw [f3, allS_reh] at i2
            rw [f3] at i3 i5
            rw [f4] at i4 i5
            rw [e3] at i2 i3 i5
            rw [e4] at i4 i5
            refine ⟨fun p hp => Nat.le_trans (i1 p hp) (by rw [fl p hp]; exact hl p hp), ?_, ?_, ?_, ?_⟩
            · show allS (wk n r k (lf - ofR S r lf - 3) (reh (tkS S r lf) r (nfR (tkS S r lf) n r 11 (tkS S r lf (100 + 5 * r))))) + wk n r k (lf - ofR S r lf - 3) (reh (tkS S r lf) r (nfR (tkS S r lf) n r 11 (tkS S r lf (100 + 5 * r)))) (100 + 5 * r + 3) = _
              omega
            · show _ ≤ wk n r k (lf - ofR S r lf - 3) (reh (tkS S r lf) r (nfR (tkS S r lf) n r 11 (tkS S r lf (100 + 5 * r)))) (100 + 5 * r + 3)
              omega
            · show _ ≤ wk n r k (lf - ofR S r lf - 3) (reh (tkS S r lf) r (nfR (tkS S r lf) n r 11 (tkS S r lf (100 + 5 * r)))) (100 + 5 * r + 4)
              omega
            · show (wk n r k (lf - ofR S r lf - 3) (reh (tkS S r lf) r (nfR (tkS S r lf) n r 11 (tkS S r lf (100 + 5 * r)))) (100 + 5 * r + 3) - _) + 3 * (wk n r k (lf - ofR S r lf - 3) (reh (tkS S r lf) r (nfR (tkS S r lf) n r 11 (tkS S r lf (100 + 5 * r)))) (100 + 5 * r + 4) - _) ≤ lf
              omega
/-- ropes not yet at work -/
theorem wkA_b {n : Nat} {st S : Nat → Nat} (h : Gw S n) : ∀ r : Nat, r ≤ n → ∀ p : Nat, 100 + 5 * r ≤ p → wkA n st S r p = S p
  | 0, _, _, _ => rfl
  | r + 1, hr, p, hp => (wk_o n r (by omega) (by omega) (by omega) 31 (st r) _ (wkA_gw h r (by omega))).trans (wkA_b h r (by omega) p (by omega))
/-- ropes that have worked -/
theorem wkA_a {n : Nat} {st S : Nat → Nat} (h : Gw S n) {q : Nat} : ∀ d : Nat, q + 1 + d ≤ n → ∀ p : Nat, 100 + 5 * q ≤ p → p < 100 + 5 * q + 5 → wkA n st S (q + 1 + d) p = wkA n st S (q + 1) p
  | 0, _, _, _, _ => rfl
  | d + 1, hd, p, h1, h2 => (wk_o n (q + 1 + d) (by omega) (by omega) (by omega) 31 (st (q + 1 + d)) _ (wkA_gw h (q + 1 + d) (by omega))).trans (wkA_a h d (by omega) p h1 h2)
theorem wkA_n {n : Nat} {st S : Nat → Nat} (h : Gw S n) {q p : Nat} (hq : q < n) (h1 : 100 + 5 * q ≤ p) (h2 : p < 100 + 5 * q + 5) : wkA n st S n p = wk n q 31 (st q) (wkA n st S q) p := by
  have := wkA_a (st := st) h (q := q) (n - (q + 1)) (by omega) p h1 h2
  rw [show q + 1 + (n - (q + 1)) = n by omega] at this
  exact this
theorem wkA_le {n : Nat} {st S : Nat → Nat} (h : Gw S n) {p : Nat} (hp : p < 100) : ∀ r : Nat, r ≤ n → wkA n st S r p ≤ S p
  | 0, _ => Nat.le_refl _
  | r + 1, hr => Nat.le_trans ((wk_d n r (by omega) 31 (st r) _ (wkA_gw h r (by omega))).1 p hp) (wkA_le h hp r (by omega))
theorem wkA_s {n : Nat} {st S : Nat → Nat} (h : Gw S n) : ∀ r : Nat, r ≤ n → allS (wkA n st S r) + sm (fun q => wkA n st S r (100 + 5 * q + 3) - S (100 + 5 * q + 3)) r = allS S
  | 0, _ => Nat.add_zero _
  | r + 1, hr => by
    have ih := wkA_s (st := st) h r (by omega)
    obtain ⟨-, d2, d3, -, -⟩ := wk_d n r (by omega) 31 (st r) _ (wkA_gw (st := st) h r (by omega))
    have e := wkA_b (st := st) h r (by omega) (100 + 5 * r + 3) (by omega)
    rw [e] at d2 d3
    rw [sm_s]
    have hc : sm (fun q => wkA n st S (r + 1) (100 + 5 * q + 3) - S (100 + 5 * q + 3)) r = sm (fun q => wkA n st S r (100 + 5 * q + 3) - S (100 + 5 * q + 3)) r := sm_congr r (fun q hq => by
      show wkA n st S (r + 1) (100 + 5 * q + 3) - _ = wkA n st S r (100 + 5 * q + 3) - _
      rw [show wkA n st S (r + 1) (100 + 5 * q + 3) = wkA n st S r (100 + 5 * q + 3) from wk_o n r (by omega) (by omega) (by omega) 31 (st r) _ (wkA_gw h r (by omega))])
    rw [hc]
    show allS (wk n r 31 (st r) (wkA n st S r)) + (_ + (wk n r 31 (st r) (wkA n st S r) (100 + 5 * r + 3) - S (100 + 5 * r + 3))) = allS S
    omega
theorem wkA_r {n : Nat} {st S : Nat → Nat} (h : Gw S n) {q : Nat} (hq : q < n) : S (100 + 5 * q + 3) ≤ wkA n st S n (100 + 5 * q + 3) ∧ S (100 + 5 * q + 4) ≤ wkA n st S n (100 + 5 * q + 4) ∧ (wkA n st S n (100 + 5 * q + 3) - S (100 + 5 * q + 3)) + 3 * (wkA n st S n (100 + 5 * q + 4) - S (100 + 5 * q + 4)) ≤ st q := by
  obtain ⟨-, -, d3, d4, d5⟩ := wk_d n q hq 31 (st q) _ (wkA_gw (st := st) h q (by omega))
  rw [wkA_b (st := st) h q (by omega) (100 + 5 * q + 3) (by omega)] at d3 d5
  rw [wkA_b (st := st) h q (by omega) (100 + 5 * q + 4) (by omega)] at d4 d5
  rw [wkA_n h hq (by omega) (by omega), wkA_n (p := 100 + 5 * q + 4) h hq (by omega) (by omega)]
  exact ⟨d3, d4, d5⟩
/-! a day, as the law looks at it -/
theorem day_le {T st fe fo S : Nat → Nat} {nw nr nf k : Nat} (h : Gw S nr) (hk : k < 96) : dayS T st fe fo nw nr nf S (4 + k) ≤ gt S (4 + k) := by
  unfold dayS
  split
  · unfold dyF
    rw [up_n (by omega), up_n (by omega), up_n (by omega)]
    exact Nat.le_refl _
  · unfold dyW
    rw [up_n (by omega)]
    exact wkA_le (gt_gw h) (by omega) nr (Nat.le_refl _)
theorem day_r {T st fe fo S : Nat → Nat} {nw nr nf r : Nat} (h : Gw S nr) (hr : r < nr) : S (100 + 5 * r + 3) ≤ dayS T st fe fo nw nr nf S (100 + 5 * r + 3) ∧ S (100 + 5 * r + 4) ≤ dayS T st fe fo nw nr nf S (100 + 5 * r + 4) ∧ (dayS T st fe fo nw nr nf S (100 + 5 * r + 3) - S (100 + 5 * r + 3)) + 3 * (dayS T st fe fo nw nr nf S (100 + 5 * r + 4) - S (100 + 5 * r + 4)) ≤ st r := by
  unfold dayS
  split
  · unfold dyF
    rw [up_n (by omega), up_n (by omega), up_n (by omega), up_n (by omega), up_n (by omega), up_n (by omega), gt_hi (by omega), gt_hi (by omega), Nat.sub_self, Nat.sub_self]
    exact ⟨Nat.le_refl _, Nat.le_refl _, by omega⟩
  · unfold dyW
    have := wkA_r (st := st) (gt_gw h) hr
    rw [gt_hi (by omega), gt_hi (by omega)] at this
    rw [up_n (by omega), up_n (by omega)]
    exact this
theorem day_f {T st fe fo S : Nat → Nat} {nw nr nf r : Nat} (hf : feastOn fe fo nf (S 0) = true) : dayS T st fe fo nw nr nf S (100 + 5 * r + 3) = S (100 + 5 * r + 3) ∧ dayS T st fe fo nw nr nf S (100 + 5 * r + 4) = S (100 + 5 * r + 4) := by
  rw [dayS_f (by rw [gt_0]; exact hf)]
  unfold dyF
  rw [up_n (by omega), up_n (by omega), up_n (by omega), up_n (by omega), up_n (by omega), up_n (by omega), gt_hi (by omega), gt_hi (by omega)]
  exact ⟨rfl, rfl⟩
theorem day_s {T st fe fo S : Nat → Nat} {nw nr nf : Nat} (h : Gw S nr) : allS (dayS T st fe fo nw nr nf S) + sm (fun q => dayS T st fe fo nw nr nf S (100 + 5 * q + 3) - S (100 + 5 * q + 3)) nr = allS (gt S) := by
  cases hf : feastOn fe fo nf (S 0) with
  | true =>
    have h0 : sm (fun q => dayS T st fe fo nw nr nf S (100 + 5 * q + 3) - S (100 + 5 * q + 3)) nr = sm (fun _ => 0) nr := sm_congr nr (fun q hq => by
      show dayS T st fe fo nw nr nf S (100 + 5 * q + 3) - S (100 + 5 * q + 3) = 0
      rw [(day_f hf).1, Nat.sub_self])
    have h1 : sm (fun _ => 0) nr = 0 := Nat.le_zero.mp (by have := sm_le (f := fun _ => 0) (b := 0) nr (fun _ _ => Nat.le_refl _); omega)
    rw [h0, h1, dayS_f (by rw [gt_0]; exact hf)]
    unfold dyF
    rw [allS_o (by omega), allS_o (by omega), allS_o (by omega), Nat.add_zero]
  | false =>
    rw [dayS_w (by rw [gt_0]; exact hf)]
    have h1 := wkA_s (st := st) (gt_gw h) nr (Nat.le_refl _)
    have h2 : sm (fun q => dyW S st nr (100 + 5 * q + 3) - S (100 + 5 * q + 3)) nr = sm (fun q => wkA nr st (gt S) nr (100 + 5 * q + 3) - gt S (100 + 5 * q + 3)) nr := sm_congr nr (fun q hq => by
      show dyW S st nr (100 + 5 * q + 3) - S (100 + 5 * q + 3) = _
      unfold dyW
      rw [up_n (by omega), gt_hi (by omega)])
    rw [h2]
    unfold dyW
    rw [allS_o (by omega)]
    exact h1
theorem allB_eq {S S' T : Nat → Nat} {n : Nat} (hs : ∀ k : Nat, k < 96 → S (4 + k) = S' (4 + k)) (hT : ∀ k : Nat, k < n → winOk T k) : allB S T n = allB S' T n := by
  apply sm_congr
  intro w hw
  have h := hT w hw
  unfold winOk at h
  unfold brW addW
  congr 1
  apply sm_congr
  intro c hc
  apply sm_congr
  intro j hj
  unfold colS
  exact hs _ (by omega)
/-- what comes in -/
theorem day_c {T st fe fo S : Nat → Nat} {nw nr nf : Nat} (h : Gw S nr) (hT : ∀ k : Nat, k < nw → winOk T k) : nI (dayS T st fe fo nw nr nf S 2) - nI (S 2) = if feastOn fe fo nf (S 0) = true then nI (allB (dayS T st fe fo nw nr nf S) T nw) else nI 0 := by
  cases hf : feastOn fe fo nf (S 0) with
  | true =>
    rw [if_pos rfl]
    have e1 : dayS T st fe fo nw nr nf S 2 = S 2 + allB (gt S) T nw := by
      rw [dayS_f (by rw [gt_0]; exact hf)]
      unfold dyF
      rw [up_n (by decide), up_n (by decide), up_s, gt_2]
    have e2 : allB (dayS T st fe fo nw nr nf S) T nw = allB (gt S) T nw := allB_eq (fun k hk => by
      rw [dayS_f (by rw [gt_0]; exact hf)]
      unfold dyF
      rw [up_n (by omega), up_n (by omega), up_n (by omega)]) hT
    rw [e1, e2, pk_sub (by omega)]
    congr 1
    omega
  | false =>
    rw [if_neg (by decide)]
    have e1 : dayS T st fe fo nw nr nf S 2 = S 2 := by
      rw [dayS_w (by rw [gt_0]; exact hf)]
      exact dyW_k h (by decide) (by decide)
    rw [e1, pk_sub (Nat.le_refl _), Nat.sub_self]
theorem mx_sm {f : Nat → Nat} : ∀ n : Nat, mx f n ≤ sm f n
  | 0 => Nat.le_refl _
  | n + 1 => by
    have := mx_sm (f := f) n
    rw [mx_s, sm_s]
    omega
theorem mx_mono {f g : Nat → Nat} : ∀ n : Nat, (∀ k : Nat, k < n → f k ≤ g k) → mx f n ≤ mx g n
  | 0, _ => Nat.le_refl _
  | n + 1, h => by
    have h1 := mx_mono n (fun k hk => h k (by omega))
    have h2 := h n (by omega)
    rw [mx_s, mx_s]
    omega
theorem mxW_add {S T : Nat → Nat} {w : Nat} : mxW S T w ≤ addW S T w := Nat.le_trans (mx_mono _ (fun c _ => mx_sm _)) (mx_sm _)
theorem mxW_20 {S T : Nat → Nat} {w : Nat} (hs : sootOk S) (hT : winOk T w) : mxW S T w ≤ 20 := mx_le _ (fun c hc => mx_le _ (fun j hj => col_le hs hT hc hj))
theorem brW_m {S T : Nat → Nat} {w : Nat} : brW S T w ≤ T (5 * w + 4) * T (5 * w + 2) * T (5 * w + 3) := by
  unfold brW pnW
  rw [Nat.mul_assoc]
  exact Nat.sub_le _ _
/-- which columns are seen -/
theorem hung_s {S : Nat → Nat} {n c : Nat} : hung S (n + 1) c = (hung S n c || S (100 + 5 * n) == c) := by
  unfold hung
  rw [List.range_succ, List.any_append]
  simp
theorem hung_d {S : Nat → Nat} {n k : Nat} (h : Dc S n) (hk : k < n) : hung S k (S (100 + 5 * k)) = false := hung_f (fun r hr e => by
  have := h r k (by omega) hk e
  omega)
def zh (S : Nat → Nat) (k : Nat) : Nat → Int32 := fun c => if c < 12 then nI (bn (hung S k c)) else 0
theorem zh_0 {S : Nat → Nat} : (fun _ => 0 : Nat → Int32) = zh S 0 := by
  funext c
  unfold zh
  split
  · rw [hung_f (fun r hr => absurd hr (Nat.not_lt_zero r))]; rfl
  · rfl
theorem zh_s {S : Nat → Nat} {k : Nat} (h : S (100 + 5 * k) < 12) : upd (zh S k) (S (100 + 5 * k)) (vp_nar .boolean (nI 1)) = zh S (k + 1) := by
  funext c
  unfold upd zh
  rw [hung_s]
  by_cases hc : c = S (100 + 5 * k)
  · subst hc
    rw [if_pos rfl, if_pos h]
    simp
    rfl
  · rw [if_neg hc]
    have : (S (100 + 5 * k) == c) = false := by simp; omega
    rw [this, Bool.or_false]
/-- the first k numbers -/
def vk (k : Nat) (f : Nat → Nat) : Nat → Int32 := fun j => if j < k then nI (f j) else 0
theorem vk_0 {f : Nat → Nat} : (fun _ => 0 : Nat → Int32) = vk 0 f := by
  funext j
  unfold vk
  rw [if_neg (Nat.not_lt_zero j)]
theorem vk_s {k v : Nat} {f : Nat → Nat} (h : v = f k) : upd (vk k f) k (nI v) = vk (k + 1) f := by
  subst h
  funext j
  unfold upd vk
  by_cases hj : j = k
  · subst hj; simp
  · have : j < k ↔ j < k + 1 := by omega
    simp only [if_neg hj, this]
theorem vk_at {k j : Nat} {f : Nat → Nat} (h : j < k) : vk k f j = nI (f j) := if_pos h
theorem back_c (a b : Int32) : a = b + (a - b) := by
  rw [Int32.add_comm, Int32.sub_add_cancel]
