/-! WHAT THE LAW KEEPS: the state's own bounds, ropes apart, rows not yet there empty -/
def Zz (S : Nat → Nat) (n : Nat) : Prop := ∀ q : Nat, n ≤ q → S (100 + 5 * q + 1) = 0 ∧ S (100 + 5 * q + 3) = 0 ∧ S (100 + 5 * q + 4) = 0
def Dc (S : Nat → Nat) (n : Nat) : Prop := ∀ r q : Nat, r < n → q < n → S (100 + 5 * r) = S (100 + 5 * q) → r = q
def IV (S T st fe fo : Nat → Nat) (nw nr nf b : Nat) : Prop := Gd S nr ∧ stOk T st fe fo nw nr nf ∧ (∀ k : Nat, k < nf → fo k < fe k) ∧ Zz S nr ∧ Dc S nr ∧ S 0 ≤ b
theorem hung_nf {S : Nat → Nat} {n r : Nat} (h : Gw S n) (hr : r < n) : hung S n (nfc S n r) = false := by
  obtain ⟨K, -, -, -, h1, h2⟩ := free_K h hr
  rw [h2]; exact h1
theorem hung_no {S : Nat → Nat} {n c q : Nat} (h : hung S n c = false) (hq : q < n) : S (100 + 5 * q) ≠ c := fun e => by
  rw [hung_t hq e] at h
  cases h
/-- a rope's day leaves what is not its own -/
theorem wk_o (n r : Nat) (hr : r < n) {p : Nat} (h100 : 100 ≤ p) (hp : p < 100 + 5 * r ∨ 100 + 5 * r + 5 ≤ p) : ∀ (k lf : Nat) (S : Nat → Nat), Gw S n → wk n r k lf S p = S p
  | 0, _, _, _ => rfl
  | k + 1, lf, S, h => by
    have h1 := tkS_gw (lf := lf) h hr
    have e1 : tkS S r lf p = S p := tkS_hi h hr h100 (by omega)
    unfold wk
    split
    · rfl
    · split
      · exact e1
      · split
        · next h7 =>
          rw [wk_o n r hr h100 hp k _ _ (dnS_gw h1 (by rw [tkS_hi h hr (by omega) (by omega)]; exact h7))]
          unfold dnS
          rw [up_n (by omega)]; exact e1
        · split
          · exact e1
          · refine (wk_o n r hr h100 hp k _ _ (reh_gw h1 (nfR_lt (h1.2.2 r hr).1 _ _))).trans ?_
            unfold reh
            rw [up_n (by omega), up_n (by omega), up_n (by omega)]; exact e1
theorem wk_way (n r : Nat) (hr : r < n) : ∀ (k lf : Nat) (S : Nat → Nat), Gw S n → wk n r k lf S (100 + 5 * r + 2) = S (100 + 5 * r + 2)
  | 0, _, _, _ => rfl
  | k + 1, lf, S, h => by
    have h1 := tkS_gw (lf := lf) h hr
    have e1 : tkS S r lf (100 + 5 * r + 2) = S (100 + 5 * r + 2) := tkS_hi h hr (by omega) (by omega)
    unfold wk
    split
    · rfl
    · split
      · exact e1
      · split
        · next h7 =>
          rw [wk_way n r hr k _ _ (dnS_gw h1 (by rw [tkS_hi h hr (by omega) (by omega)]; exact h7))]
          unfold dnS
          rw [up_n (by omega)]; exact e1
        · split
          · exact e1
          · refine (wk_way n r hr k _ _ (reh_gw h1 (nfR_lt (h1.2.2 r hr).1 _ _))).trans ?_
            unfold reh
            rw [up_n (by omega), up_n (by omega), up_n (by omega)]; exact e1
theorem Dc.eq {S S' : Nat → Nat} {n : Nat} (h : Dc S n) (he : ∀ r : Nat, r < n → S' (100 + 5 * r) = S (100 + 5 * r)) : Dc S' n := fun r q hr hq e => h r q hr hq (by rw [← he r hr, ← he q hq]; exact e)
theorem tk_dc {S : Nat → Nat} {n r lf : Nat} (h : Gw S n) (hr : r < n) (hd : Dc S n) : Dc (tkS S r lf) n := hd.eq (fun q _ => tkS_hi h hr (by omega) (by omega))
theorem dn_dc {S : Nat → Nat} {n r : Nat} (hd : Dc S n) : Dc (dnS S r) n := hd.eq (fun q _ => by unfold dnS; rw [up_n (by omega)])
theorem reh_c {S : Nat → Nat} {r x q : Nat} : reh S r x (100 + 5 * q) = if q = r then x else S (100 + 5 * q) := by
  unfold reh
  rw [up_n (by omega), up_n (by omega)]
  by_cases h : q = r
  · subst h; rw [up_s, if_pos rfl]
  · rw [up_n (by omega), if_neg h]
theorem reh_dc {S : Nat → Nat} {n r x : Nat} (hd : Dc S n) (hx : hung S n x = false) : Dc (reh S r x) n := by
  intro a b ha hb e
  rw [reh_c, reh_c] at e
  by_cases h1 : a = r <;> by_cases h2 : b = r
  · omega
  · rw [if_pos h1, if_neg h2] at e
    exact absurd e.symm (hung_no hx hb)
  · rw [if_neg h1, if_pos h2] at e
    exact absurd e (hung_no hx ha)
  · rw [if_neg h1, if_neg h2] at e
    exact hd a b ha hb e
theorem wk_dc (n r : Nat) (hr : r < n) : ∀ (k lf : Nat) (S : Nat → Nat), Gw S n → Dc S n → Dc (wk n r k lf S) n
  | 0, _, _, _, h => h
  | k + 1, lf, S, h, hd => by
    have h1 := tkS_gw (lf := lf) h hr
    have d1 := tk_dc (lf := lf) h hr hd
    unfold wk
    split
    · exact hd
    · split
      · exact d1
      · split
        · next h7 => exact wk_dc n r hr k _ _ (dnS_gw h1 (by rw [tkS_hi h hr (by omega) (by omega)]; exact h7)) (dn_dc d1)
        · split
          · exact d1
          · exact wk_dc n r hr k _ _ (reh_gw h1 (nfR_lt (h1.2.2 r hr).1 _ _)) (reh_dc d1 (hung_nf h1 hr))
theorem wkA_dc {n : Nat} {st S : Nat → Nat} (h : Gw S n) (hd : Dc S n) : ∀ r : Nat, r ≤ n → Dc (wkA n st S r) n
  | 0, _ => hd
  | r + 1, hr => wk_dc n r (by omega) 31 (st r) _ (wkA_gw h r (by omega)) (wkA_dc h hd r (by omega))
theorem wkA_z2 {n : Nat} {st S : Nat → Nat} {p : Nat} (hp : 100 + 5 * n ≤ p) (h : Gw S n) : ∀ r : Nat, r ≤ n → wkA n st S r p = S p
  | 0, _ => rfl
  | r + 1, hr => (wk_o n r (by omega) (by omega) (by omega) 31 (st r) _ (wkA_gw h r (by omega))).trans (wkA_z2 hp h r (by omega))
theorem dayS_hi {T st fe fo S : Nat → Nat} {nw nr nf p : Nat} (h : Gw S nr) (hp : 100 + 5 * nr ≤ p) : dayS T st fe fo nw nr nf S p = S p := by
  unfold dayS
  split
  · unfold dyF
    rw [up_n (by omega), up_n (by omega), up_n (by omega), gt_hi (by omega)]
  · unfold dyW
    rw [up_n (by omega), wkA_z2 hp (gt_gw h) nr (Nat.le_refl _), gt_hi (by omega)]
theorem dayS_dc {T st fe fo S : Nat → Nat} {nw nr nf : Nat} (h : Gw S nr) (hd : Dc S nr) : Dc (dayS T st fe fo nw nr nf S) nr := by
  have hg : Dc (gt S) nr := hd.eq (fun r _ => gt_hi (by omega))
  unfold dayS
  split
  · exact hg.eq (fun r _ => by unfold dyF; rw [up_n (by omega), up_n (by omega), up_n (by omega)])
  · exact (wkA_dc (st := st) (gt_gw h) hg nr (Nat.le_refl _)).eq (fun r _ => by unfold dyW; rw [up_n (by omega)])
theorem iv_w {S T st fe fo : Nat → Nat} {nw nr nf b b' : Nat} (h : IV S T st fe fo nw nr nf b) (hb : b ≤ b') : IV S T st fe fo nw nr nf b' := ⟨h.1, h.2.1, h.2.2.1, h.2.2.2.1, h.2.2.2.2.1, Nat.le_trans h.2.2.2.2.2 hb⟩
theorem iv_day {S T st fe fo : Nat → Nat} {nw nr nf b : Nat} (h : IV S T st fe fo nw nr nf b) : IV (dayS T st fe fo nw nr nf S) T st fe fo nw nr nf (b + 1) := by
  obtain ⟨h1, h2, h3, h4, h5, h6⟩ := h
  refine ⟨dayS_gd h1, h2, h3, fun q hq => ?_, dayS_dc h1.1 h5, by rw [dayS_0 h1.1]; omega⟩
  rw [dayS_hi h1.1 (by omega), dayS_hi h1.1 (by omega), dayS_hi h1.1 (by omega)]
  exact h4 q hq
theorem iv_days {S T st fe fo : Nat → Nat} {nw nr nf b : Nat} (h : IV S T st fe fo nw nr nf b) : ∀ k : Nat, IV (daysS T st fe fo nw nr nf S k) T st fe fo nw nr nf (b + k)
  | 0 => h
  | k + 1 => iv_day (iv_days h k)
theorem iv_window {S T st fe fo : Nat → Nat} {nw nr nf b x y w h o : Nat} (hI : IV S T st fe fo nw nr nf b) (hn : nw < 6) (hw1 : 1 ≤ w) (hw : x + w ≤ 12) (hh1 : 1 ≤ h) (hh : y + h ≤ 8) (ho1 : 1 ≤ o) (ho : o ≤ 9) : IV S (ptT T nw x y w h o) st fe fo (nw + 1) nr nf b := by
  obtain ⟨h1, hs, h3, h4, h5, h6⟩ := hI
  refine ⟨h1, ⟨by omega, fun k hk => ?_, hs.2.2.1, hs.2.2.2.1, hs.2.2.2.2⟩, h3, h4, h5, h6⟩
  by_cases hkn : k = nw
  · subst hkn
    simp [winOk, ptT, up]
    omega
  · have h1 := hs.2.1 k (by omega)
    unfold winOk at h1 ⊢
    have e : ∀ q : Nat, q < 5 → ptT T nw x y w h o (5 * k + q) = T (5 * k + q) := fun q hq => by
      unfold ptT
      rw [up_n (by omega), up_n (by omega), up_n (by omega), up_n (by omega), up_n (by omega)]
    have e0 := e 0 (by decide)
    rw [Nat.add_zero] at e0
    rw [e0, e 1 (by decide), e 2 (by decide), e 3 (by decide), e 4 (by decide)]
    exact h1
theorem ptR_o {S : Nat → Nat} {n x wy p : Nat} (h1 : p ≠ 100 + 5 * n) (h2 : p ≠ 100 + 5 * n + 2) : ptR S n x wy p = S p := by
  unfold ptR
  rw [up_n h2, up_n h1]
theorem ptR_c {S : Nat → Nat} {n x wy : Nat} : ptR S n x wy (100 + 5 * n) = x := by
  unfold ptR
  rw [up_n (by omega), up_s]
theorem ptR_w {S : Nat → Nat} {n x wy : Nat} : ptR S n x wy (100 + 5 * n + 2) = wy := by
  unfold ptR
  rw [up_s]
theorem iv_rope {S T st fe fo : Nat → Nat} {nw nr nf b x t wy : Nat} (hI : IV S T st fe fo nw nr nf b) (hn : nr < 6) (hx : x < 12) (ht1 : 1 ≤ t) (ht : t ≤ 30) (hw : wy ≤ 1) (hh : hung S nr x = false) : IV (ptR S nr x wy) T (up st nr t) fe fo nw (nr + 1) nf b := by
  obtain ⟨h1, hs, h3, h4, h5, h6⟩ := hI
  refine ⟨⟨⟨by omega, fun k hk => ?_, fun q hq => ?_⟩, ?_⟩, ⟨hs.1, hs.2.1, fun q hq => ?_, hs.2.2.2.1, hs.2.2.2.2⟩, h3, fun q hq => ?_, fun a c ha hc e => ?_, ?_⟩
  · rw [ptR_lo (by omega)]; exact h1.1.2.1 k hk
  · by_cases hqn : q = nr
    · subst hqn
      have hz := (h4 q (Nat.le_refl _)).1
      rw [ptR_c, ptR_w, ptR_o (by omega) (by omega), hz]
      omega
    · rw [ptR_o (by omega) (by omega), ptR_o (by omega) (by omega), ptR_o (by omega) (by omega)]
      exact h1.1.2.2 q (by omega)
  · rw [ptR_lo (by decide)]; exact h1.2
  · by_cases hqn : q = nr
    · subst hqn; rw [up_s]; omega
    · rw [up_n hqn]; exact hs.2.2.1 q (by omega)
  · rw [ptR_o (by omega) (by omega), ptR_o (by omega) (by omega), ptR_o (by omega) (by omega)]
    exact h4 q (by omega)
  · by_cases ha2 : a = nr <;> by_cases hc2 : c = nr
    · omega
    · subst ha2
      rw [ptR_c, ptR_o (by omega) (by omega)] at e
      exact absurd e.symm (hung_no hh (by omega))
    · subst hc2
      rw [ptR_c, ptR_o (by omega) (by omega)] at e
      exact absurd e (hung_no hh (by omega))
    · rw [ptR_o (by omega) (by omega), ptR_o (by omega) (by omega)] at e
      exact h5 a c (by omega) (by omega) e
  · rw [ptR_lo (by decide)]; exact h6
theorem iv_feast {S T st fe fo : Nat → Nat} {nw nr nf b ev on : Nat} (hI : IV S T st fe fo nw nr nf b) (hn : nf < 4) (he1 : 2 ≤ ev) (he2 : ev ≤ 30) (ho : on < ev) : IV S T st (up fe nf ev) (up fo nf on) nw nr (nf + 1) b := by
  obtain ⟨h1, hs, h3, h4, h5, h6⟩ := hI
  refine ⟨h1, ⟨hs.1, hs.2.1, hs.2.2.1, ⟨by omega, fun k hk => ?_⟩, fun k hk => ?_⟩, fun k hk => ?_, h4, h5, h6⟩
  · by_cases h : k = nf
    · subst h; rw [up_s]; omega
    · rw [up_n h]; exact hs.2.2.2.1.2 k (by omega)
  · by_cases h : k = nf
    · subst h; rw [up_s]; omega
    · rw [up_n h]; exact hs.2.2.2.2 k (by omega)
  · by_cases h : k = nf
    · subst h; rw [up_s, up_s]; exact ho
    · rw [up_n h, up_n h]; exact h3 k (by omega)
theorem iv_lo {S T st fe fo : Nat → Nat} {nw nr nf b p v : Nat} (hI : IV S T st fe fo nw nr nf b) (hp : p = 1) (hv : windOk v) : IV (up S p v) T st fe fo nw nr nf b := by
  subst hp
  obtain ⟨h1, hs, h3, h4, h5, h6⟩ := hI
  refine ⟨⟨up_gw h1.1 (by decide), by rw [up_s]; exact hv⟩, hs, h3, fun q hq => ?_, h5.eq (fun r _ => up_n (by omega)), by rw [up_n (by decide)]; exact h6⟩
  rw [up_n (by omega), up_n (by omega), up_n (by omega)]
  exact h4 q hq
theorem reh_o {S : Nat → Nat} {r x p : Nat} (h : p < 100 + 5 * r ∨ 100 + 5 * r + 5 ≤ p) : reh S r x p = S p := by
  unfold reh
  rw [up_n (by omega), up_n (by omega), up_n (by omega)]
theorem iv_move {S T st fe fo : Nat → Nat} {nw nr nf b r x : Nat} (hI : IV S T st fe fo nw nr nf b) (hr : r < nr) (hx : x < 12) (hh : hung S nr x = false) : IV (reh S r x) T st fe fo nw nr nf b := by
  obtain ⟨h1, hs, h3, h4, h5, h6⟩ := hI
  refine ⟨⟨reh_gw h1.1 hx, by rw [reh_lo (by decide)]; exact h1.2⟩, hs, h3, fun q hq => ?_, reh_dc h5 hh, by rw [reh_lo (by decide)]; exact h6⟩
  rw [reh_o (by omega), reh_o (by omega), reh_o (by omega)]
  exact h4 q hq
theorem iv_turn {S T st fe fo : Nat → Nat} {nw nr nf b r : Nat} (hI : IV S T st fe fo nw nr nf b) (hr : r < nr) : IV (up S (100 + 5 * r + 2) (1 - S (100 + 5 * r + 2))) T st fe fo nw nr nf b := by
  obtain ⟨h1, hs, h3, h4, h5, h6⟩ := hI
  refine ⟨⟨⟨h1.1.1, fun k hk => ?_, fun q hq => ?_⟩, by rw [up_n (by omega)]; exact h1.2⟩, hs, h3, fun q hq => ?_, h5.eq (fun q _ => up_n (by omega)), by rw [up_n (by omega)]; exact h6⟩
  · rw [up_n (by omega)]; exact h1.1.2.1 k hk
  · have := h1.1.2.2 q hq
    rw [up_n (by omega), up_n (j := 100 + 5 * q + 1) (by omega)]
    by_cases hqr : q = r
    · subst hqr; rw [up_s]; omega
    · rw [up_n (by omega)]; exact this
  · rw [up_n (by omega), up_n (by omega), up_n (by omega)]
    exact h4 q hq
theorem iv_wipe {S T st fe fo : Nat → Nat} {nw nr nf b w : Nat} (hI : IV S T st fe fo nw nr nf b) : IV (wp S T w) T st fe fo nw nr nf b := by
  obtain ⟨h1, hs, h3, h4, h5, h6⟩ := hI
  refine ⟨⟨⟨h1.1.1, wpU_ok h1.1.2.1, fun q hq => ?_⟩, by rw [wp_lo (by decide)]; exact h1.2⟩, hs, h3, fun q hq => ?_, h5.eq (fun q _ => wp_hi (by omega)), by rw [wp_lo (by decide)]; exact h6⟩
  · rw [wp_hi (by omega), wp_hi (by omega), wp_hi (by omega)]
    exact h1.1.2.2 q hq
  · rw [wp_hi (by omega), wp_hi (by omega), wp_hi (by omega)]
    exact h4 q hq
/-- at first -/
theorem iv_0 : IV (fun _ => 0) (fun _ => 0) (fun _ => 0) (fun _ => 0) (fun _ => 0) 0 0 0 0 :=
  ⟨⟨⟨by decide, fun k hk => Nat.zero_le _, fun r hr => absurd hr (Nat.not_lt_zero r)⟩, Or.inl (Nat.zero_le _)⟩, ⟨by decide, fun k hk => absurd hk (Nat.not_lt_zero k), fun k hk => absurd hk (Nat.not_lt_zero k), ⟨by decide, fun k hk => absurd hk (Nat.not_lt_zero k)⟩, fun k hk => absurd hk (Nat.not_lt_zero k)⟩, fun k hk => absurd hk (Nat.not_lt_zero k), fun q _ => ⟨rfl, rfl, rfl⟩, fun r q hr => absurd hr (Nat.not_lt_zero r), Nat.le_refl _⟩
/-! new rows: their contents, their places -/
def lst (L : List Nat) : Nat → Int32 := fun j => nI (L.getD j 0)
theorem gD_lo {L M : List Nat} {j : Nat} (h : j < L.length) : (L ++ M).getD j 0 = L.getD j 0 := by
  rw [List.getD_eq_getElem?_getD, List.getD_eq_getElem?_getD, List.getElem?_append_left h]
theorem gD_hi {L : List Nat} {j : Nat} (h : L.length ≤ j) : L.getD j 0 = 0 := by
  rw [List.getD_eq_getElem?_getD, List.getElem?_eq_none h]
  rfl
theorem lst_0 : (fun _ => 0 : Nat → Int32) = lst [] := by
  funext j
  show (0 : Int32) = nI (([] : List Nat).getD j 0)
  rw [show ([] : List Nat).getD j 0 = 0 by simp, nI_0]
theorem lst_s {L L' : List Nat} {k v : Nat} (hk : L.length = k) (h : L ++ [v] = L') : upd (lst L) k (nI v) = lst L' := by
  subst h
  subst hk
  funext j
  unfold upd lst
  by_cases hj : j = L.length
  · subst hj; simp
  · rw [if_neg hj]
    congr 1
    by_cases h2 : j < L.length
    · rw [gD_lo h2]
    · rw [gD_hi (L := L) (by omega), gD_hi (by rw [List.length_append]; show L.length + 1 ≤ j; omega)]
theorem lst_w {T : Nat → Nat} {n x y w h o : Nat} : lst [x, y, w, h, o] = vwn (ptT T n x y w h o) n := by
  funext j
  by_cases hj : j < 5
  · rcases (show j = 0 ∨ j = 1 ∨ j = 2 ∨ j = 3 ∨ j = 4 by omega) with rfl | rfl | rfl | rfl | rfl <;> simp [lst, vwn, ptT, up]
  · unfold vwn lst
    rw [if_neg hj, gD_hi (by show 5 ≤ j; omega), nI_0]
theorem lst_r {S st : Nat → Nat} {n x wy t : Nat} (hz : Zz S n) : lst [x, 0, t, wy, 0, 0] = vrp (ptR S n x wy) (up st n t) n := by
  obtain ⟨z1, z3, z4⟩ := hz n (Nat.le_refl _)
  funext j
  by_cases hj : j < 6
  · unfold vrp
    rw [if_pos hj]
    unfold tld
    rw [ptR_c, ptR_w, ptR_o (p := 100 + 5 * n + 1) (by omega) (by omega), ptR_o (p := 100 + 5 * n + 3) (by omega) (by omega), ptR_o (p := 100 + 5 * n + 4) (by omega) (by omega), up_s, z1, z3, z4]
    rcases (show j = 0 ∨ j = 1 ∨ j = 2 ∨ j = 3 ∨ j = 4 ∨ j = 5 by omega) with rfl | rfl | rfl | rfl | rfl | rfl <;> rfl
  · unfold vrp lst
    rw [if_neg hj, gD_hi (by show 6 ≤ j; omega), nI_0]
theorem lst_f {fe fo : Nat → Nat} {n ev on : Nat} : lst [ev, on] = vfe (up fe n ev) (up fo n on) n := by
  funext j
  unfold vfe
  rw [up_s, up_s]
  by_cases h0 : j = 0
  · subst h0; rfl
  · by_cases h1 : j = 1
    · subst h1; rfl
    · rw [if_neg h0, if_neg h1]
      unfold lst
      rw [gD_hi (by show 2 ≤ j; omega), nI_0]
theorem vwn_o {T : Nat → Nat} {n k x y w h o : Nat} (hk : k ≠ n) : vwn (ptT T n x y w h o) k = vwn T k := by
  funext q
  unfold vwn
  by_cases hq : q < 5
  · rw [if_pos hq, if_pos hq]
    unfold ptT
    rw [up_n (by omega), up_n (by omega), up_n (by omega), up_n (by omega), up_n (by omega)]
  · rw [if_neg hq, if_neg hq]
theorem vrp_no {S st : Nat → Nat} {n k x wy t : Nat} (hk : k ≠ n) : vrp (ptR S n x wy) (up st n t) k = vrp S st k := by
  funext q
  unfold vrp tld
  rw [ptR_o (p := 100 + 5 * k) (by omega) (by omega), ptR_o (p := 100 + 5 * k + 1) (by omega) (by omega), ptR_o (p := 100 + 5 * k + 2) (by omega) (by omega), ptR_o (p := 100 + 5 * k + 3) (by omega) (by omega), ptR_o (p := 100 + 5 * k + 4) (by omega) (by omega), up_n hk]
theorem vfe_o {fe fo : Nat → Nat} {n k ev on : Nat} (hk : k ≠ n) : vfe (up fe n ev) (up fo n on) k = vfe fe fo k := by
  funext q
  unfold vfe
  rw [up_n hk, up_n hk]
theorem vcl_p {S : Nat → Nat} {n x wy i : Nat} (hi : i < 12) : vcl (ptR S n x wy) i = vcl S i := by
  funext k
  unfold vcl
  by_cases hk : k < 8
  · rw [if_pos hk, if_pos hk, ptR_lo (by omega)]
  · rw [if_neg hk, if_neg hk]
section SRN
variable {cI cJ : ClassId} {sc wa ra fa : Nat → Nat} {nw nr nf : Nat} {S T st fe fo : Nat → Nat} {C9 : va_W} {i s o w r f q : Nat × va_E}
theorem win_p : (i :: s :: o :: w :: r :: f :: sR cI sc wa ra fa nw nr nf S T st fe fo C9).Perm ((s :: o :: r :: f :: w :: i :: (rwL nw (fun i9 => (wa i9, .inl (cI, 5, .inl (vwn T i9)))) ++ (rwL 12 (fun i => (sc i, .inl (cI, 8, .inl (vcl S i)))) ++ (rwL nr (fun i => (ra i, .inl (cI, 6, .inl (vrp S st i)))) ++ (rwL nf (fun i => (fa i, .inl (cI, 2, .inl (vfe fe fo i)))) ++ C9))))) ++ []) := by
  unfold sR
  exact perm_ct (fun _ _ => by simp only [List.count_append, List.count_cons, List.count_nil]; ac_rfl)
theorem win_q {a x y ww h oo : Nat} : (s :: o :: r :: f :: q :: w :: (a, .inl (cI, 5, .inl (lst [x, y, ww, h, oo]))) :: (rwL nw (fun i9 => (wa i9, .inl (cI, 5, .inl (vwn T i9)))) ++ (rwL 12 (fun i => (sc i, .inl (cI, 8, .inl (vcl S i)))) ++ (rwL nr (fun i => (ra i, .inl (cI, 6, .inl (vrp S st i)))) ++ (rwL nf (fun i => (fa i, .inl (cI, 2, .inl (vfe fe fo i)))) ++ C9))))).Perm ((s :: o :: q :: r :: f :: sR cI sc (up wa nw a) ra fa (nw + 1) nr nf S (ptT T nw x y ww h oo) st fe fo C9) ++ [w]) := by
  unfold sR
  rw [rwL_s (n := nw), rwL_congr (n := nw) (f := fun i => (up wa nw a i, .inl (cI, 5, .inl (vwn (ptT T nw x y ww h oo) i)))) (g := fun i => (wa i, .inl (cI, 5, .inl (vwn T i)))) (fun k hk => by rw [up_n (by omega), vwn_o (by omega)]), up_s, lst_w (T := T) (n := nw)]
  exact perm_ct (fun _ _ => by simp only [List.count_append, List.count_cons, List.count_nil]; ac_rfl)
theorem rop_p : (i :: s :: o :: w :: r :: f :: sR cI sc wa ra fa nw nr nf S T st fe fo C9).Perm ((s :: o :: w :: f :: r :: i :: (rwL nr (fun i9 => (ra i9, .inl (cI, 6, .inl (vrp S st i9)))) ++ (rwL 12 (fun i => (sc i, .inl (cI, 8, .inl (vcl S i)))) ++ (rwL nw (fun i => (wa i, .inl (cI, 5, .inl (vwn T i)))) ++ (rwL nf (fun i => (fa i, .inl (cI, 2, .inl (vfe fe fo i)))) ++ C9))))) ++ []) := by
  unfold sR
  exact perm_ct (fun _ _ => by simp only [List.count_append, List.count_cons, List.count_nil]; ac_rfl)
theorem rop_q {a x t wy : Nat} (hz : Zz S nr) : (s :: o :: w :: f :: q :: r :: (a, .inl (cI, 6, .inl (lst [x, 0, t, wy, 0, 0]))) :: (rwL nr (fun i9 => (ra i9, .inl (cI, 6, .inl (vrp S st i9)))) ++ (rwL 12 (fun i => (sc i, .inl (cI, 8, .inl (vcl S i)))) ++ (rwL nw (fun i => (wa i, .inl (cI, 5, .inl (vwn T i)))) ++ (rwL nf (fun i => (fa i, .inl (cI, 2, .inl (vfe fe fo i)))) ++ C9))))).Perm ((s :: o :: w :: q :: f :: sR cI sc wa (up ra nr a) fa nw (nr + 1) nf (ptR S nr x wy) T (up st nr t) fe fo C9) ++ [r]) := by
  unfold sR
  rw [rwL_s (n := nr), rwL_congr (n := nr) (f := fun i => (up ra nr a i, .inl (cI, 6, .inl (vrp (ptR S nr x wy) (up st nr t) i)))) (g := fun i => (ra i, .inl (cI, 6, .inl (vrp S st i)))) (fun k hk => by rw [up_n (by omega), vrp_no (by omega)]), up_s, lst_r (S := S) (st := st) (n := nr) hz, rwL_congr (n := 12) (f := fun i => (sc i, .inl (cI, 8, .inl (vcl (ptR S nr x wy) i)))) (g := fun i => (sc i, .inl (cI, 8, .inl (vcl S i)))) (fun k hk => by rw [vcl_p hk])]
  exact perm_ct (fun _ _ => by simp only [List.count_append, List.count_cons, List.count_nil]; ac_rfl)
theorem fea_p : (i :: s :: o :: w :: r :: f :: sR cI sc wa ra fa nw nr nf S T st fe fo C9).Perm ((s :: o :: w :: r :: f :: i :: (rwL nf (fun i9 => (fa i9, .inl (cI, 2, .inl (vfe fe fo i9)))) ++ (rwL 12 (fun i => (sc i, .inl (cI, 8, .inl (vcl S i)))) ++ (rwL nw (fun i => (wa i, .inl (cI, 5, .inl (vwn T i)))) ++ (rwL nr (fun i => (ra i, .inl (cI, 6, .inl (vrp S st i)))) ++ C9))))) ++ []) := by
  unfold sR
  exact perm_ct (fun _ _ => by simp only [List.count_append, List.count_cons, List.count_nil]; ac_rfl)
theorem fea_q {a ev on : Nat} : (s :: o :: w :: r :: q :: f :: (a, .inl (cI, 2, .inl (lst [ev, on]))) :: (rwL nf (fun i9 => (fa i9, .inl (cI, 2, .inl (vfe fe fo i9)))) ++ (rwL 12 (fun i => (sc i, .inl (cI, 8, .inl (vcl S i)))) ++ (rwL nw (fun i => (wa i, .inl (cI, 5, .inl (vwn T i)))) ++ (rwL nr (fun i => (ra i, .inl (cI, 6, .inl (vrp S st i)))) ++ C9))))).Perm ((s :: o :: w :: r :: q :: sR cI sc wa ra (up fa nf a) nw nr (nf + 1) S T st (up fe nf ev) (up fo nf on) C9) ++ [f]) := by
  unfold sR
  rw [rwL_s (n := nf), rwL_congr (n := nf) (f := fun i => (up fa nf a i, .inl (cI, 2, .inl (vfe (up fe nf ev) (up fo nf on) i)))) (g := fun i => (fa i, .inl (cI, 2, .inl (vfe fe fo i)))) (fun k hk => by rw [up_n (by omega), vfe_o (by omega)]), up_s, lst_f (fe := fe) (fo := fo) (n := nf)]
  exact perm_ct (fun _ _ => by simp only [List.count_append, List.count_cons, List.count_nil]; ac_rfl)
/-- the row that is new -/
theorem sR_wl {a : Nat} : (sR cI sc (up wa nw a) ra fa (nw + 1) nr nf S T st fe fo C9)[12 + nw]? = some (a, .inl (cI, 5, .inl (vwn T nw))) := (sR_w (Nat.lt_succ_self nw)).trans (by rw [up_s])
theorem sR_rl {a : Nat} : (sR cI sc wa (up ra nr a) fa nw (nr + 1) nf S T st fe fo C9)[12 + (nw + nr)]? = some (a, .inl (cI, 6, .inl (vrp S st nr))) := (sR_r (Nat.lt_succ_self nr)).trans (by rw [up_s])
end SRN
