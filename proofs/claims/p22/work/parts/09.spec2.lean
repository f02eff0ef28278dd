/-! FEASTS AHEAD, WIPING, NEW WINDOWS AND ROPES, A ROPE'S DAY -/
theorem vr_q0 {q : Nat} {S : Nat → Nat} {r v : Nat} (h : q ≠ 0) (hq : q < 5) : vr q (up S (100 + 5 * r) v) = vr q S := vr_q (q' := 0) h hq (by decide)
theorem vw_q0 {n : Nat} {S : Nat → Nat} {r v : Nat} : vw n (up S (100 + 5 * r) v) = vw n S := vw_q (q' := 0) (by decide) (by decide)
def nxR (fe fo : Nat → Nat) (n d : Nat) : Nat → Nat → Int32
  | 0, _ => nIm 1
  | m + 1, k => if feastOn fe fo n (d + k) = true then nI k else nxR fe fo n d m (k + 1)
def nxF (fe fo : Nat → Nat) (n d : Nat) : Int32 := nxR fe fo n d 61 0
theorem nxR_t {fe fo : Nat → Nat} {n d m k : Nat} (h : feastOn fe fo n (d + k) = true) : nxR fe fo n d (m + 1) k = nI k := if_pos h
theorem nxR_f {fe fo : Nat → Nat} {n d m k : Nat} (h : feastOn fe fo n (d + k) = false) : nxR fe fo n d (m + 1) k = nxR fe fo n d m (k + 1) := if_neg (by rw [h]; decide)
/-- wiping: the first i columns, and j panes of the next -/
def wpU (T : Nat → Nat) (w i j : Nat) (S : Nat → Nat) : Nat → Nat := fun p => if (4 ≤ p ∧ p < 100 ∧ T (5 * w) ≤ (p - 4) / 8 ∧ T (5 * w + 1) ≤ (p - 4) % 8 ∧ (p - 4) % 8 < T (5 * w + 1) + T (5 * w + 3)) ∧ ((p - 4) / 8 < T (5 * w) + i ∨ ((p - 4) / 8 = T (5 * w) + i ∧ (p - 4) % 8 < T (5 * w + 1) + j)) then 0 else S p
def wp (S T : Nat → Nat) (w : Nat) : Nat → Nat := wpU T w (T (5 * w + 2)) 0 S
theorem wpU_0 (S T : Nat → Nat) (w : Nat) : wpU T w 0 0 S = S := by
  funext p
  have : ¬ ((4 ≤ p ∧ p < 100 ∧ T (5 * w) ≤ (p - 4) / 8 ∧ T (5 * w + 1) ≤ (p - 4) % 8 ∧ (p - 4) % 8 < T (5 * w + 1) + T (5 * w + 3)) ∧ ((p - 4) / 8 < T (5 * w) + 0 ∨ ((p - 4) / 8 = T (5 * w) + 0 ∧ (p - 4) % 8 < T (5 * w + 1) + 0))) := by omega
  simp only [wpU, if_neg this]
theorem wpU_r {S T : Nat → Nat} {w i : Nat} : wpU T w i (T (5 * w + 3)) S = wpU T w (i + 1) 0 S := by
  funext p
  unfold wpU
  split
  · next h =>
    rw [if_pos]
    omega
  · next h =>
    rw [if_neg]
    omega
theorem wpU_at {S T : Nat → Nat} {w i j : Nat} (hT : winOk T w) (hi : i < T (5 * w + 2)) (hj : j < T (5 * w + 3)) : wpU T w i j S (4 + ((T (5 * w) + i) * 8 + (T (5 * w + 1) + j))) = colS S T w i j := by
  unfold winOk at hT
  have h1 : (4 + ((T (5 * w) + i) * 8 + (T (5 * w + 1) + j)) - 4) / 8 = T (5 * w) + i := by omega
  have h2 : (4 + ((T (5 * w) + i) * 8 + (T (5 * w + 1) + j)) - 4) % 8 = T (5 * w + 1) + j := by omega
  unfold wpU
  rw [if_neg]
  · rfl
  · rw [h1, h2]; omega
theorem wpU_s {S T : Nat → Nat} {w i j v : Nat} (hT : winOk T w) (hi : i < T (5 * w + 2)) (hj : j < T (5 * w + 3)) (hv : v = 0) : up (wpU T w i j S) (4 + ((T (5 * w) + i) * 8 + (T (5 * w + 1) + j))) v = wpU T w i (j + 1) S := by
  subst hv
  unfold winOk at hT
  have h1 : (4 + ((T (5 * w) + i) * 8 + (T (5 * w + 1) + j)) - 4) / 8 = T (5 * w) + i := by omega
  have h2 : (4 + ((T (5 * w) + i) * 8 + (T (5 * w + 1) + j)) - 4) % 8 = T (5 * w + 1) + j := by omega
  funext p
  by_cases hp : p = 4 + ((T (5 * w) + i) * 8 + (T (5 * w + 1) + j))
  · subst hp
    rw [up_s]
    unfold wpU
    rw [if_pos]
    rw [h1, h2]; omega
  · rw [up_n hp]
    unfold wpU
    have : ((4 ≤ p ∧ p < 100 ∧ T (5 * w) ≤ (p - 4) / 8 ∧ T (5 * w + 1) ≤ (p - 4) % 8 ∧ (p - 4) % 8 < T (5 * w + 1) + T (5 * w + 3)) ∧ ((p - 4) / 8 < T (5 * w) + i ∨ ((p - 4) / 8 = T (5 * w) + i ∧ (p - 4) % 8 < T (5 * w + 1) + j))) ↔ ((4 ≤ p ∧ p < 100 ∧ T (5 * w) ≤ (p - 4) / 8 ∧ T (5 * w + 1) ≤ (p - 4) % 8 ∧ (p - 4) % 8 < T (5 * w + 1) + T (5 * w + 3)) ∧ ((p - 4) / 8 < T (5 * w) + i ∨ ((p - 4) / 8 = T (5 * w) + i ∧ (p - 4) % 8 < T (5 * w + 1) + (j + 1)))) := by omega
    simp only [this]
theorem wpU_ok {S T : Nat → Nat} {w i j : Nat} (h : sootOk S) : sootOk (wpU T w i j S) := by
  intro k hk
  unfold wpU
  split
  · omega
  · exact h k hk
/-- a window's numbers written -/
def ptT (T : Nat → Nat) (n x y w h o : Nat) : Nat → Nat := up (up (up (up (up T (5 * n) x) (5 * n + 1) y) (5 * n + 2) w) (5 * n + 3) h) (5 * n + 4) o
theorem vt_p0 {T : Nat → Nat} {n x y w h o : Nat} (hn : n < 6) : upd (vt 0 T) n (nI x) = vt 0 (ptT T n x y w h o) := by
  funext k
  by_cases hk : k = n
  · subst hk; simp [upd, vt, ptT, up, hn]
  · simp only [upd, if_neg hk, vt, ptT, up]
    congr 1
    simp (disch := omega) only [if_neg]
theorem vt_p1 {T : Nat → Nat} {n x y w h o : Nat} (hn : n < 6) : upd (vt 1 T) n (nI y) = vt 1 (ptT T n x y w h o) := by
  funext k
  by_cases hk : k = n
  · subst hk; simp [upd, vt, ptT, up, hn]
  · simp only [upd, if_neg hk, vt, ptT, up]
    congr 1
    simp (disch := omega) only [if_neg]
theorem vt_p2 {T : Nat → Nat} {n x y w h o : Nat} (hn : n < 6) : upd (vt 2 T) n (nI w) = vt 2 (ptT T n x y w h o) := by
  funext k
  by_cases hk : k = n
  · subst hk; simp [upd, vt, ptT, up, hn]
  · simp only [upd, if_neg hk, vt, ptT, up]
    congr 1
    simp (disch := omega) only [if_neg]
theorem vt_p3 {T : Nat → Nat} {n x y w h o : Nat} (hn : n < 6) : upd (vt 3 T) n (nI h) = vt 3 (ptT T n x y w h o) := by
  funext k
  by_cases hk : k = n
  · subst hk; simp [upd, vt, ptT, up, hn]
  · simp only [upd, if_neg hk, vt, ptT, up]
    congr 1
    simp (disch := omega) only [if_neg]
theorem vt_p4 {T : Nat → Nat} {n x y w h o : Nat} (hn : n < 6) : upd (vt 4 T) n (nI o) = vt 4 (ptT T n x y w h o) := by
  funext k
  by_cases hk : k = n
  · subst hk; simp [upd, vt, ptT, up, hn]
  · simp only [upd, if_neg hk, vt, ptT, up]
    congr 1
    simp (disch := omega) only [if_neg]
/-- what about() tells -/
def abt (S T : Nat → Nat) (w what : Nat) : Nat := if what = 5 then addW S T w else if what = 6 then mxW S T w else if what = 7 then brW S T w else T (5 * w + what)
/-- a mix of two rows -/
def mixF (j : Nat) (f g : Nat → Int32) : Nat → Int32 := fun k => if k < j then f k else g k
theorem mixF_0 (f g : Nat → Int32) : mixF 0 f g = g := by funext k; simp [mixF]
theorem mixF_s {j : Nat} {f g : Nat → Int32} : upd (mixF j f g) j (f j) = mixF (j + 1) f g := by
  funext k
  by_cases hk : k = j
  · subst hk; simp [upd, mixF]
  · have : k < j ↔ k < j + 1 := by omega
    simp [upd, mixF, hk, this]
theorem mixF_e {f g : Nat → Int32} (h : ∀ k, 6 ≤ k → f k = g k) : mixF 6 f g = f := by
  funext k
  by_cases hk : k < 6
  · simp [mixF, hk]
  · simp [mixF, hk, h k (by omega)]
theorem mixF_r {q : Nat} {S S1 : Nat → Nat} : mixF 6 (vr q S) (vr q S1) = vr q S := by
  apply mixF_e
  intro k hk
  have : ¬ k < 6 := by omega
  simp [vr, this]
theorem mixF_6 {S S1 : Nat → Nat} : mixF 6 (v6 S) (v6 S1) = v6 S := by
  apply mixF_e
  intro k hk
  have : ¬ k < 6 := by omega
  simp [v6, this]
theorem mixF_w {n n1 : Nat} {S S1 : Nat → Nat} (h : n ≤ 6) (h1 : n1 ≤ 6) : mixF 6 (vw n S) (vw n1 S1) = vw n S := by
  apply mixF_e
  intro k hk
  have e1 : ¬ k < n := by omega
  have e2 : ¬ k < n1 := by omega
  simp [vw, e1, e2]
theorem vw_nar (n : Nat) (S : Nat → Nat) (j : Nat) : vp_nar .boolean (vw n S j) = vw n S j := by
  unfold vw
  split
  · rcases (show 1 - S (100 + 5 * j + 2) = 0 ∨ 1 - S (100 + 5 * j + 2) = 1 by omega) with h | h <;> rw [h] <;> rfl
  · rfl
/-- a new rope -/
def ptR (S : Nat → Nat) (n x wy : Nat) : Nat → Nat := up (up S (100 + 5 * n) x) (100 + 5 * n + 2) wy
theorem vr_p0 {S : Nat → Nat} {n x wy : Nat} (hn : n < 6) : upd (vr 0 S) n (nI x) = vr 0 (ptR S n x wy) := by
  unfold ptR
  rw [vr_q (by decide) (by decide) (by decide)]
  exact vr_up hn
theorem vr_po {S : Nat → Nat} {q n x wy : Nat} (h0 : q ≠ 0) (h2 : q ≠ 2) (hq : q < 5) : vr q (ptR S n x wy) = vr q S := by
  unfold ptR
  rw [vr_q h2 hq (by decide)]
  exact vr_q (q' := 0) h0 hq (by decide)
theorem vs_p {S : Nat → Nat} {n x wy : Nat} : vs (ptR S n x wy) = vs S := by
  unfold ptR
  rw [vs_o (by omega), vs_o (by omega)]
theorem vw_p {S : Nat → Nat} {n x wy : Nat} (hw : wy ≤ 1) : upd (vw n S) n (vp_nar .boolean (nI (1 - wy))) = vw (n + 1) (ptR S n x wy) := by
  have hb : vp_nar .boolean (nI (1 - wy)) = nI (1 - wy) := by
    rcases (show wy = 0 ∨ wy = 1 by omega) with rfl | rfl <;> rfl
  rw [hb]
  funext k
  by_cases hk : k = n
  · subst hk; simp [upd, vw, ptR, up]
  · have h1 : k < n ↔ k < n + 1 := by omega
    have h2 : ¬ 100 + 5 * k + 2 = 100 + 5 * n + 2 := by omega
    have h3 : ¬ 100 + 5 * k + 2 = 100 + 5 * n := by omega
    have h4 : ¬ 5 * k = 5 * n := by omega
    simp [upd, vw, ptR, up, hk, h1, h3, h4]
/-- what told() tells -/
def tld (S st : Nat → Nat) (r what : Nat) : Nat := if what = 0 then S (100 + 5 * r) else if what = 1 then S (100 + 5 * r + 1) else if what = 2 then st r else if what = 3 then S (100 + 5 * r + 2) else if what = 4 then S (100 + 5 * r + 3) else S (100 + 5 * r + 4)
/-- a rope is moved -/
def reh (S : Nat → Nat) (r x : Nat) : Nat → Nat := up (up (up S (100 + 5 * r) x) (100 + 5 * r + 1) 0) (100 + 5 * r + 4) (S (100 + 5 * r + 4) + 1)
theorem reh_0 {S : Nat → Nat} {r x : Nat} (h : r < 6) : upd (vr 0 S) r (nI x) = vr 0 (reh S r x) := by
  unfold reh
  rw [vr_q (by decide) (by decide) (by decide), vr_q (by decide) (by decide) (by decide)]
  exact vr_up h
theorem reh_1 {S : Nat → Nat} {r x : Nat} (h : r < 6) : upd (vr 1 S) r (nI 0) = vr 1 (reh S r x) := by
  unfold reh
  rw [vr_q (by decide) (by decide) (by decide), ← vr_up h, vr_q0 (by decide) (by decide)]
theorem reh_4 {S : Nat → Nat} {r x : Nat} (h : r < 6) : upd (vr 4 S) r (nI (S (100 + 5 * r + 4) + 1)) = vr 4 (reh S r x) := by
  unfold reh
  rw [← vr_up h, vr_q (by decide) (by decide) (by decide), vr_q0 (by decide) (by decide)]
theorem reh_3 {S : Nat → Nat} {r x : Nat} : vr 3 (reh S r x) = vr 3 S := by
  unfold reh
  rw [vr_q (by decide) (by decide) (by decide), vr_q (by decide) (by decide) (by decide), vr_q0 (by decide) (by decide)]
theorem reh_w {n : Nat} {S : Nat → Nat} {r x : Nat} : vw n (reh S r x) = vw n S := by
  unfold reh
  rw [vw_q (by decide) (by decide), vw_q (by decide) (by decide), vw_q0]
theorem reh_s {S : Nat → Nat} {r x : Nat} : vs (reh S r x) = vs S := by
  unfold reh
  rw [vs_o (by omega), vs_o (by omega), vs_o (by omega)]
theorem reh_lo {S : Nat → Nat} {r x k : Nat} (h : k < 100) : reh S r x k = S k := by
  unfold reh
  rw [up_n (by omega), up_n (by omega), up_n (by omega)]
/-- the next column of its way at which none hangs -/
def wyS (S : Nat → Nat) (r : Nat) : Nat := if S (100 + 5 * r + 2) = 0 then 1 else 11
def nfR (S : Nat → Nat) (n r : Nat) : Nat → Nat → Nat
  | 0, _ => S (100 + 5 * r)
  | k + 1, x => if hung S n ((x + wyS S r) % 12) = true then nfR S n r k ((x + wyS S r) % 12) else (x + wyS S r) % 12
def nfc (S : Nat → Nat) (n r : Nat) : Nat := nfR S n r 11 (S (100 + 5 * r))
def cyc (S : Nat → Nat) (r : Nat) : Nat → Nat
  | 0 => S (100 + 5 * r)
  | k + 1 => (cyc S r k + wyS S r) % 12
theorem cyc_lt {S : Nat → Nat} {r : Nat} (h : S (100 + 5 * r) < 12) : ∀ k : Nat, cyc S r k < 12
  | 0 => h
  | k + 1 => Nat.mod_lt _ (by decide)
theorem wyS_le (S : Nat → Nat) (r : Nat) : wyS S r ≤ 11 := by unfold wyS; split <;> omega
theorem nfR_lt {S : Nat → Nat} {n r : Nat} (h : S (100 + 5 * r) < 12) : ∀ k x : Nat, nfR S n r k x < 12
  | 0, _ => h
  | k + 1, x => by
    unfold nfR
    split
    · exact nfR_lt h k _
    · exact Nat.mod_lt _ (by decide)
theorem nfR_t {S : Nat → Nat} {n r k x : Nat} (h : hung S n ((x + wyS S r) % 12) = true) : nfR S n r (k + 1) x = nfR S n r k ((x + wyS S r) % 12) := if_pos h
theorem nfR_f {S : Nat → Nat} {n r k x : Nat} (h : hung S n ((x + wyS S r) % 12) = false) : nfR S n r (k + 1) x = (x + wyS S r) % 12 := if_neg (by rw [h]; decide)
/-- all is well: soot, columns, rows, ways -/
def Gw (S : Nat → Nat) (n : Nat) : Prop := n ≤ 6 ∧ sootOk S ∧ ∀ r : Nat, r < n → S (100 + 5 * r) < 12 ∧ S (100 + 5 * r + 1) < 8 ∧ S (100 + 5 * r + 2) ≤ 1
/-- a rope's cleaner takes soot off his pane -/
def pnR (S : Nat → Nat) (r : Nat) : Nat := 4 + (S (100 + 5 * r) * 8 + S (100 + 5 * r + 1))
def ofR (S : Nat → Nat) (r lf : Nat) : Nat := min lf (S (pnR S r))
def tkS (S : Nat → Nat) (r lf : Nat) : Nat → Nat := up (up S (pnR S r) (S (pnR S r) - ofR S r lf)) (100 + 5 * r + 3) (S (100 + 5 * r + 3) + ofR S r lf)
def dnS (S : Nat → Nat) (r : Nat) : Nat → Nat := up S (100 + 5 * r + 1) (S (100 + 5 * r + 1) + 1)
def wk (n r : Nat) : Nat → Nat → (Nat → Nat) → Nat → Nat
  | 0, _, S => S
  | k + 1, lf, S => if lf = 0 then S else if lf - ofR S r lf = 0 then tkS S r lf else if S (100 + 5 * r + 1) < 7 then wk n r k (lf - ofR S r lf - 1) (dnS (tkS S r lf) r) else if lf - ofR S r lf < 3 then tkS S r lf else wk n r k (lf - ofR S r lf - 3) (reh (tkS S r lf) r (nfc (tkS S r lf) n r))
def wkA (n : Nat) (st : Nat → Nat) (S : Nat → Nat) : Nat → Nat → Nat
  | 0 => S
  | r + 1 => wk n r 31 (st r) (wkA n st S r)
theorem tkS_0 (S : Nat → Nat) (r : Nat) : tkS S r 0 = S := by
  have h : ofR S r 0 = 0 := Nat.min_eq_left (Nat.zero_le _)
  unfold tkS
  rw [h, Nat.sub_zero, up_id]
  exact up_id S _
theorem wk_0 (n r k : Nat) (S : Nat → Nat) : wk n r k 0 S = S := by
  cases k with
  | zero => rfl
  | succ k => exact if_pos rfl
theorem wk_stop {n r k lf : Nat} {S : Nat → Nat} (h : lf - ofR S r lf = 0) : wk n r (k + 1) lf S = tkS S r lf := by
  by_cases h0 : lf = 0
  · subst h0; rw [wk_0, tkS_0]
  · show (if lf = 0 then S else _) = _
    rw [if_neg h0, if_pos h]
theorem wk_down {n r k lf : Nat} {S : Nat → Nat} (h : ¬ lf - ofR S r lf = 0) (hr : S (100 + 5 * r + 1) < 7) : wk n r (k + 1) lf S = wk n r k (lf - ofR S r lf - 1) (dnS (tkS S r lf) r) := by
  have h0 : ¬ lf = 0 := fun z => h (by omega)
  show (if lf = 0 then S else _) = _
  rw [if_neg h0, if_neg h, if_pos hr]
theorem wk_end {n r k lf : Nat} {S : Nat → Nat} (h : ¬ lf - ofR S r lf = 0) (hr : ¬ S (100 + 5 * r + 1) < 7) (h3 : lf - ofR S r lf < 3) : wk n r (k + 1) lf S = tkS S r lf := by
  have h0 : ¬ lf = 0 := fun z => h (by omega)
  show (if lf = 0 then S else _) = _
  rw [if_neg h0, if_neg h, if_neg hr, if_pos h3]
theorem wk_move {n r k lf : Nat} {S : Nat → Nat} (h : ¬ lf - ofR S r lf = 0) (hr : ¬ S (100 + 5 * r + 1) < 7) (h3 : ¬ lf - ofR S r lf < 3) : wk n r (k + 1) lf S = wk n r k (lf - ofR S r lf - 3) (reh (tkS S r lf) r (nfc (tkS S r lf) n r)) := by
  have h0 : ¬ lf = 0 := fun z => h (by omega)
  show (if lf = 0 then S else _) = _
  rw [if_neg h0, if_neg h, if_neg hr, if_neg h3]
theorem pnR_lt {S : Nat → Nat} {n r : Nat} (h : Gw S n) (hr : r < n) : 4 ≤ pnR S r ∧ pnR S r < 100 := by
  have := h.2.2 r hr
  unfold pnR; omega
theorem tkS_hi {S : Nat → Nat} {n r lf k : Nat} (h : Gw S n) (hr : r < n) (hk : 100 ≤ k) (h3 : k ≠ 100 + 5 * r + 3) : tkS S r lf k = S k := by
  have := pnR_lt h hr
  unfold tkS
  rw [up_n h3, up_n (by omega)]
theorem tkS_gw {S : Nat → Nat} {n r lf : Nat} (h : Gw S n) (hr : r < n) : Gw (tkS S r lf) n := by
  refine ⟨h.1, fun k hk => ?_, fun q hq => ?_⟩
  · unfold tkS
    rw [up_n (by omega)]
    by_cases hp : 4 + k = pnR S r
    · rw [hp, up_s]
      have := h.2.1 k hk
      rw [hp] at this
      omega
    · rw [up_n hp]; exact h.2.1 k hk
  · rw [tkS_hi h hr (by omega) (by omega), tkS_hi h hr (by omega) (by omega), tkS_hi h hr (by omega) (by omega)]
    exact h.2.2 q hq
theorem dnS_gw {S : Nat → Nat} {n r : Nat} (h : Gw S n) (hr : S (100 + 5 * r + 1) < 7) : Gw (dnS S r) n := by
  refine ⟨h.1, fun k hk => ?_, fun q hq => ?_⟩
  · unfold dnS; rw [up_n (by omega)]; exact h.2.1 k hk
  · have := h.2.2 q hq
    unfold dnS
    rw [up_n (by omega), up_n (j := 100 + 5 * q + 2) (by omega)]
    by_cases hq2 : q = r
    · subst hq2; rw [up_s]; omega
    · rw [up_n (by omega)]; exact this
theorem reh_gw {S : Nat → Nat} {n r x : Nat} (h : Gw S n) (hx : x < 12) : Gw (reh S r x) n := by
  refine ⟨h.1, fun k hk => ?_, fun q hq => ?_⟩
  · rw [reh_lo (by omega)]; exact h.2.1 k hk
  · have := h.2.2 q hq
    unfold reh
    rw [up_n (by omega), up_n (j := 100 + 5 * q) (by omega), up_n (j := 100 + 5 * q + 1) (by omega), up_n (j := 100 + 5 * q + 2) (by omega), up_n (j := 100 + 5 * q + 2) (by omega), up_n (j := 100 + 5 * q + 2) (by omega)]
    by_cases hq2 : q = r
    · subst hq2; rw [up_s, up_s]; omega
    · rw [up_n (j := 100 + 5 * q) (by omega), up_n (j := 100 + 5 * q + 1) (by omega), up_n (j := 100 + 5 * q + 1) (by omega)]; exact this
theorem wk_gw (n r : Nat) (hr : r < n) : ∀ (k lf : Nat) (S : Nat → Nat), Gw S n → Gw (wk n r k lf S) n
  | 0, _, _, h => h
  | k + 1, lf, S, h => by
    have h1 := tkS_gw (lf := lf) h hr
    unfold wk
    split
    · exact h
    · split
      · exact h1
      · split
        · next h7 => exact wk_gw n r hr k _ _ (dnS_gw h1 (by rw [tkS_hi h hr (by omega) (by omega)]; exact h7))
        · split
          · exact h1
          · exact wk_gw n r hr k _ _ (reh_gw h1 (nfR_lt (h1.2.2 r hr).1 _ _))
theorem wkA_gw {n : Nat} {st S : Nat → Nat} (h : Gw S n) : ∀ r : Nat, r ≤ n → Gw (wkA n st S r) n
  | 0, _ => h
  | r + 1, hr => wk_gw n r (by omega) 31 (st r) _ (wkA_gw h r (by omega))
/-- the views behind a cleaning -/
theorem tk_s {S : Nat → Nat} {r lf : Nat} : vs (tkS S r lf) = vs (up S (pnR S r) (S (pnR S r) - ofR S r lf)) := vs_o (by omega)
theorem tk_3 {S : Nat → Nat} {n r lf : Nat} (h : Gw S n) (hr : r < n) : upd (vr 3 S) r (nI (S (100 + 5 * r + 3) + ofR S r lf)) = vr 3 (tkS S r lf) := by
  have h1 := pnR_lt h hr
  have h6 : r < 6 := by have := h.1; omega
  unfold tkS
  rw [← vr_up h6, vr_o (by omega)]
theorem tk_q {S : Nat → Nat} {n q r lf : Nat} (h : Gw S n) (hr : r < n) (h3 : q ≠ 3) (hq : q < 5) : vr q (tkS S r lf) = vr q S := by
  have h1 := pnR_lt h hr
  unfold tkS
  rw [vr_q h3 hq (by decide), vr_o (by omega)]
theorem tk_w {S : Nat → Nat} {n q r lf : Nat} (h : Gw S n) (hr : r < n) : vw q (tkS S r lf) = vw q S := by
  have h1 := pnR_lt h hr
  unfold tkS
  rw [vw_q (by decide) (by decide), vw_o (by omega)]
theorem dn_1 {S : Nat → Nat} {r : Nat} (h : r < 6) : upd (vr 1 S) r (nI (S (100 + 5 * r + 1) + 1)) = vr 1 (dnS S r) := vr_up h
theorem dn_q {S : Nat → Nat} {q r : Nat} (h1 : q ≠ 1) (hq : q < 5) : vr q (dnS S r) = vr q S := vr_q h1 hq (by decide)
theorem dn_w {S : Nat → Nat} {n r : Nat} : vw n (dnS S r) = vw n S := vw_q (by decide) (by decide)
theorem dn_s {S : Nat → Nat} {r : Nat} : vs (dnS S r) = vs S := vs_o (by omega)
