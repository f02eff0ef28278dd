/-! THE STATE, as rows of numbers. S: what days change, place by place as the reference keeps it (0 day, 1 wind, 2 coins, 3 feast days, 4.. soot, 100.. ropes: column, row, way, cleaned, moved); T: windows; st: strengths; fe, fo: feasts. The views: what the class's own arrays hold of it. -/
def up (S : Nat → Nat) (k v : Nat) : Nat → Nat := fun j => if j = k then v else S j
theorem up_s (S : Nat → Nat) (k v : Nat) : up S k v k = v := by simp [up]
theorem up_n {S : Nat → Nat} {k v j : Nat} (h : j ≠ k) : up S k v j = S j := by simp [up, h]
theorem up_id (S : Nat → Nat) (k : Nat) : up S k (S k) = S := by
  funext j; unfold up; split
  · next h => rw [h]
  · rfl
def vs (S : Nat → Nat) : Nat → Int32 := fun k => if k < 96 then nI (S (4 + k)) else 0
def vr (q : Nat) (S : Nat → Nat) : Nat → Int32 := fun r => if r < 6 then nI (S (100 + 5 * r + q)) else 0
def vw (n : Nat) (S : Nat → Nat) : Nat → Int32 := fun r => if r < n then nI (1 - S (100 + 5 * r + 2)) else 0
def v6 (f : Nat → Nat) : Nat → Int32 := fun r => if r < 6 then nI (f r) else 0
def v4 (f : Nat → Nat) : Nat → Int32 := fun r => if r < 4 then nI (f r) else 0
def vt (q : Nat) (T : Nat → Nat) : Nat → Int32 := fun w => if w < 6 then nI (T (5 * w + q)) else 0
def vn (S : Nat → Nat) : Nat → Int32 := fun k => if k < 130 then nI (S k) else 0
def v30 (T : Nat → Nat) : Nat → Int32 := fun k => if k < 30 then nI (T k) else 0
theorem vs_at {S : Nat → Nat} {k : Nat} (h : k < 96) : vs S k = nI (S (4 + k)) := if_pos h
theorem vr_at {q : Nat} {S : Nat → Nat} {r : Nat} (h : r < 6) : vr q S r = nI (S (100 + 5 * r + q)) := if_pos h
theorem vw_at {n : Nat} {S : Nat → Nat} {r : Nat} (h : r < n) : vw n S r = nI (1 - S (100 + 5 * r + 2)) := if_pos h
theorem v6_at {f : Nat → Nat} {r : Nat} (h : r < 6) : v6 f r = nI (f r) := if_pos h
theorem v4_at {f : Nat → Nat} {r : Nat} (h : r < 4) : v4 f r = nI (f r) := if_pos h
theorem vt_at {q : Nat} {T : Nat → Nat} {w : Nat} (h : w < 6) : vt q T w = nI (T (5 * w + q)) := if_pos h
theorem vn_at {S : Nat → Nat} {k : Nat} (h : k < 130) : vn S k = nI (S k) := if_pos h
theorem v30_at {T : Nat → Nat} {k : Nat} (h : k < 30) : v30 T k = nI (T k) := if_pos h
/-- writes -/
theorem vs_up {S : Nat → Nat} {k v : Nat} (h : k < 96) : upd (vs S) k (nI v) = vs (up S (4 + k) v) := by
  funext j
  by_cases hj : j = k
  · subst hj; simp [upd, vs, up, h]
  · have : ¬ 4 + j = 4 + k := by omega
    simp [upd, vs, up, hj]
theorem vr_up {q : Nat} {S : Nat → Nat} {r v : Nat} (h : r < 6) : upd (vr q S) r (nI v) = vr q (up S (100 + 5 * r + q) v) := by
  funext j
  by_cases hj : j = r
  · subst hj; simp [upd, vr, up, h]
  · have : ¬ 5 * j = 5 * r := by omega
    simp [upd, vr, up, hj, this]
theorem v6_up {f : Nat → Nat} {r v : Nat} (h : r < 6) : upd (v6 f) r (nI v) = v6 (up f r v) := by
  funext j
  by_cases hj : j = r
  · subst hj; simp [upd, v6, up, h]
  · simp [upd, v6, up, hj]
theorem v4_up {f : Nat → Nat} {r v : Nat} (h : r < 4) : upd (v4 f) r (nI v) = v4 (up f r v) := by
  funext j
  by_cases hj : j = r
  · subst hj; simp [upd, v4, up, h]
  · simp [upd, v4, up, hj]
theorem vt_up {q : Nat} {T : Nat → Nat} {w v : Nat} (h : w < 6) : upd (vt q T) w (nI v) = vt q (up T (5 * w + q) v) := by
  funext j
  by_cases hj : j = w
  · subst hj; simp [upd, vt, up, h]
  · have : ¬ 5 * j = 5 * w := by omega
    simp [upd, vt, up, hj, this]
theorem vn_up {S : Nat → Nat} {k v : Nat} (h : k < 130) : upd (vn S) k (nI v) = vn (up S k v) := by
  funext j
  by_cases hj : j = k
  · subst hj; simp [upd, vn, up, h]
  · simp [upd, vn, up, hj]
/-- what a write leaves of the other views -/
theorem vs_o {S : Nat → Nat} {p v : Nat} (h : p < 4 ∨ 100 ≤ p) : vs (up S p v) = vs S := by
  funext j
  by_cases hj : j < 96
  · have : ¬ 4 + j = p := by omega
    simp [vs, hj, up, this]
  · simp [vs, hj]
theorem vr_o {q : Nat} {S : Nat → Nat} {p v : Nat} (h : p < 100) : vr q (up S p v) = vr q S := by
  funext j
  have : ¬ 100 + 5 * j + q = p := by omega
  simp [vr, up, this]
theorem vr_q {q q' : Nat} {S : Nat → Nat} {r v : Nat} (h : q ≠ q') (hq : q < 5) (hq' : q' < 5) : vr q (up S (100 + 5 * r + q') v) = vr q S := by
  funext j
  have : ¬ 100 + 5 * j + q = 100 + 5 * r + q' := by omega
  simp [vr, up, this]
theorem vw_o {n : Nat} {S : Nat → Nat} {p v : Nat} (h : p < 100) : vw n (up S p v) = vw n S := by
  funext j
  have : ¬ 100 + 5 * j + 2 = p := by omega
  simp [vw, up, this]
theorem vw_q {n q' : Nat} {S : Nat → Nat} {r v : Nat} (h : q' ≠ 2) (hq' : q' < 5) : vw n (up S (100 + 5 * r + q') v) = vw n S := by
  funext j
  have : ¬ 100 + 5 * j + 2 = 100 + 5 * r + q' := by omega
  simp [vw, up, this]
theorem vt_q {q q' : Nat} {T : Nat → Nat} {w v : Nat} (h : q ≠ q') (hq : q < 5) (hq' : q' < 5) : vt q (up T (5 * w + q') v) = vt q T := by
  funext j
  have : ¬ 5 * j + q = 5 * w + q' := by omega
  simp [vt, up, this]
/-- sums and maxima -/
def sm (f : Nat → Nat) : Nat → Nat
  | 0 => 0
  | n + 1 => sm f n + f n
def mx (f : Nat → Nat) : Nat → Nat
  | 0 => 0
  | n + 1 => max (mx f n) (f n)
theorem sm_s (f : Nat → Nat) (n : Nat) : sm f (n + 1) = sm f n + f n := rfl
theorem mx_s (f : Nat → Nat) (n : Nat) : mx f (n + 1) = max (mx f n) (f n) := rfl
theorem sm_le {f : Nat → Nat} {b : Nat} : ∀ n : Nat, (∀ k : Nat, k < n → f k ≤ b) → sm f n ≤ n * b
  | 0, _ => by simp [sm]
  | n + 1, h => by
    have h1 := sm_le n (fun k hk => h k (by omega))
    have h2 := h n (by omega)
    show sm f n + f n ≤ (n + 1) * b
    rw [Nat.succ_mul]; omega
theorem mx_le {f : Nat → Nat} {b : Nat} : ∀ n : Nat, (∀ k : Nat, k < n → f k ≤ b) → mx f n ≤ b
  | 0, _ => by simp [mx]
  | n + 1, h => by
    have h1 := mx_le n (fun k hk => h k (by omega))
    have h2 := h n (by omega)
    show max (mx f n) (f n) ≤ b
    omega
theorem sm_congr {f g : Nat → Nat} : ∀ n : Nat, (∀ k : Nat, k < n → f k = g k) → sm f n = sm g n
  | 0, _ => rfl
  | n + 1, h => by
    show sm f n + f n = sm g n + g n
    rw [sm_congr n (fun k hk => h k (by omega)), h n (by omega)]
/-- soot -/
def sootOk (S : Nat → Nat) : Prop := ∀ k : Nat, k < 96 → S (4 + k) ≤ 20
def allS (S : Nat → Nat) : Nat := sm (fun k => S (4 + k)) 96
def clnS (S : Nat → Nat) : Nat := sm (fun k => if S (4 + k) = 0 then 1 else 0) 96
/-- the wind's number: 0 to 5, or 2^32 - 5 to 2^32 - 1 -/
def windOk (w : Nat) : Prop := w ≤ 5 ∨ (2 ^ 32 - 5 ≤ w ∧ w < 2 ^ 32)
def bl (w c : Nat) : Nat := if w ≤ 5 then w - c / 2 else (2 ^ 32 - w) - (11 - c) / 2
theorem bl_le {w c : Nat} (h : windOk w) : bl w c ≤ 5 := by
  unfold bl windOk at *
  split <;> omega
/-- a day's soot, up to a place -/
def gtU (n : Nat) (S : Nat → Nat) : Nat → Nat := fun p => if 4 ≤ p ∧ p < 4 + n then min 20 (S p + (1 + bl (S 1) ((p - 4) / 8))) else S p
def gt (S : Nat → Nat) : Nat → Nat := gtU 96 S
theorem gtU_0 (S : Nat → Nat) : gtU 0 S = S := by
  funext p
  have : ¬ (4 ≤ p ∧ p < 4 + 0) := by omega
  simp only [gtU, if_neg this]
theorem gtU_lo {n : Nat} {S : Nat → Nat} {p : Nat} (h : p < 4) : gtU n S p = S p := by
  have : ¬ (4 ≤ p ∧ p < 4 + n) := by omega
  simp only [gtU, if_neg this]
theorem gtU_hi {n : Nat} {S : Nat → Nat} {p : Nat} (h : 4 + n ≤ p) : gtU n S p = S p := by
  have : ¬ (4 ≤ p ∧ p < 4 + n) := by omega
  simp only [gtU, if_neg this]
theorem gtU_s (n : Nat) (S : Nat → Nat) : up (gtU n S) (4 + n) (min 20 (S (4 + n) + (1 + bl (S 1) (n / 8)))) = gtU (n + 1) S := by
  funext p
  by_cases hp : p = 4 + n
  · subst hp
    rw [up_s]
    have : 4 ≤ 4 + n ∧ 4 + n < 4 + (n + 1) := by omega
    simp only [gtU, if_pos this]
    rw [show 4 + n - 4 = n by omega]
  · rw [up_n hp]
    by_cases h1 : 4 ≤ p ∧ p < 4 + n
    · have h2 : 4 ≤ p ∧ p < 4 + (n + 1) := by omega
      simp only [gtU, if_pos h1, if_pos h2]
    · have h2 : ¬ (4 ≤ p ∧ p < 4 + (n + 1)) := by omega
      simp only [gtU, if_neg h1, if_neg h2]
theorem gt_ok {S : Nat → Nat} : sootOk (gt S) := by
  intro k hk
  have : 4 ≤ 4 + k ∧ 4 + k < 4 + 96 := by omega
  simp only [gt, gtU, if_pos this]
  omega
/-- windows: x y w h worth of window w at T (5 w) .. -/
def winOk (T : Nat → Nat) (w : Nat) : Prop := 1 ≤ T (5 * w + 2) ∧ 1 ≤ T (5 * w + 3) ∧ T (5 * w) + T (5 * w + 2) ≤ 12 ∧ T (5 * w + 1) + T (5 * w + 3) ≤ 8 ∧ 1 ≤ T (5 * w + 4) ∧ T (5 * w + 4) ≤ 9
def colS (S T : Nat → Nat) (w c : Nat) (j : Nat) : Nat := S (4 + ((T (5 * w) + c) * 8 + (T (5 * w + 1) + j)))
def addW (S T : Nat → Nat) (w : Nat) : Nat := sm (fun c => sm (colS S T w c) (T (5 * w + 3))) (T (5 * w + 2))
def mxW (S T : Nat → Nat) (w : Nat) : Nat := mx (fun c => mx (colS S T w c) (T (5 * w + 3))) (T (5 * w + 2))
def pnW (T : Nat → Nat) (w : Nat) : Nat := T (5 * w + 2) * T (5 * w + 3)
def brW (S T : Nat → Nat) (w : Nat) : Nat := T (5 * w + 4) * pnW T w - addW S T w
def allB (S T : Nat → Nat) (n : Nat) : Nat := sm (brW S T) n
theorem col_le {S T : Nat → Nat} {w c j : Nat} (hS : sootOk S) (hT : winOk T w) (hc : c < T (5 * w + 2)) (hj : j < T (5 * w + 3)) : colS S T w c j ≤ 20 := hS _ (by unfold winOk at hT; omega)
theorem pnW_le {T : Nat → Nat} {w : Nat} (hT : winOk T w) : pnW T w ≤ 96 := by
  unfold winOk at hT
  exact Nat.mul_le_mul (show T (5 * w + 2) ≤ 12 by omega) (show T (5 * w + 3) ≤ 8 by omega)
theorem addW_le {S T : Nat → Nat} {w : Nat} (hS : sootOk S) (hT : winOk T w) : addW S T w ≤ 1920 := by
  have h1 : ∀ c, c < T (5 * w + 2) → sm (colS S T w c) (T (5 * w + 3)) ≤ 160 := fun c hc => by
    have := sm_le (f := colS S T w c) (b := 20) (T (5 * w + 3)) (fun j hj => col_le hS hT hc hj)
    unfold winOk at hT
    omega
  have h2 := sm_le (f := fun c => sm (colS S T w c) (T (5 * w + 3))) (b := 160) (T (5 * w + 2)) h1
  unfold winOk at hT
  unfold addW
  omega
theorem brW_le {S T : Nat → Nat} {w : Nat} (hT : winOk T w) : brW S T w ≤ 864 := by
  have h1 := pnW_le hT
  have h2 : T (5 * w + 4) ≤ 9 := hT.2.2.2.2.2
  have h3 : T (5 * w + 4) * pnW T w ≤ 9 * 96 := Nat.mul_le_mul h2 h1
  unfold brW
  omega
/-- ropes -/
def hung (S : Nat → Nat) (n c : Nat) : Bool := (List.range n).any (fun r => S (100 + 5 * r) == c)
theorem hung_t {S : Nat → Nat} {n c r : Nat} (hr : r < n) (h : S (100 + 5 * r) = c) : hung S n c = true := by
  unfold hung
  rw [List.any_eq_true]
  exact ⟨r, List.mem_range.mpr hr, by simp [h]⟩
theorem hung_f {S : Nat → Nat} {n c : Nat} (h : ∀ r, r < n → ¬ S (100 + 5 * r) = c) : hung S n c = false := by
  unfold hung
  rw [List.any_eq_false]
  intro r hr
  simp [h r (List.mem_range.mp hr)]
theorem hung_of {S : Nat → Nat} {n c : Nat} (h : hung S n c = true) : ∃ r, r < n ∧ S (100 + 5 * r) = c := by
  unfold hung at h
  rw [List.any_eq_true] at h
  obtain ⟨r, h1, h2⟩ := h
  exact ⟨r, List.mem_range.mp h1, by simpa using h2⟩
def cldS (S : Nat → Nat) (n : Nat) : Nat := sm (fun r => S (100 + 5 * r + 3)) n
/-- feasts -/
def feastOn (fe fo : Nat → Nat) (n d : Nat) : Bool := (List.range n).any (fun f => d % fe f == fo f)
theorem feast_t {fe fo : Nat → Nat} {n d f : Nat} (hf : f < n) (h : d % fe f = fo f) : feastOn fe fo n d = true := by
  unfold feastOn
  rw [List.any_eq_true]
  exact ⟨f, List.mem_range.mpr hf, by simp [h]⟩
theorem feast_f {fe fo : Nat → Nat} {n d : Nat} (h : ∀ f, f < n → ¬ d % fe f = fo f) : feastOn fe fo n d = false := by
  unfold feastOn
  rw [List.any_eq_false]
  intro f hf
  simp [h f (List.mem_range.mp hf)]
def feOk (fe : Nat → Nat) (n : Nat) : Prop := n ≤ 4 ∧ ∀ f : Nat, f < n → 2 ≤ fe f ∧ fe f ≤ 30
theorem gtU_s9 {n i : Nat} {S : Nat → Nat} (h : n / 8 = i) : up (gtU n S) (4 + n) (min 20 (S (4 + n) + (1 + bl (S 1) i))) = gtU (n + 1) S := by
  subst h
  exact gtU_s n S
theorem vs_cpy {S S1 : Nat → Nat} : va_cpy (vs S1) (vs S) 0 0 96 = vs S1 := by
  funext k
  by_cases hk : k < 96
  · have : 0 ≤ k ∧ k < 0 + 96 := by omega
    simp only [va_cpy, if_pos this]
    simp
  · have : ¬ (0 ≤ k ∧ k < 0 + 96) := by omega
    simp only [va_cpy, if_neg this, vs, if_neg hk]
