/-! THE SIM'S WORLD: its rows of soot, windows, ropes and feasts, and C9 behind them -/
def vcl (S : Nat → Nat) (i : Nat) : Nat → Int32 := fun j => if j < 8 then nI (S (4 + (i * 8 + j))) else 0
def vwn (T : Nat → Nat) (w : Nat) : Nat → Int32 := fun q => if q < 5 then nI (T (5 * w + q)) else 0
def vrp (S st : Nat → Nat) (r : Nat) : Nat → Int32 := fun q => if q < 6 then nI (tld S st r q) else 0
def vfe (fe fo : Nat → Nat) (f : Nat) : Nat → Int32 := fun q => if q = 0 then nI (fe f) else if q = 1 then nI (fo f) else 0
def sR (cI : ClassId) (sc wa ra fa : Nat → Nat) (nw nr nf : Nat) (S T st fe fo : Nat → Nat) (C9 : va_W) : va_W :=
  rwL 12 (fun i => (sc i, .inl (cI, 8, .inl (vcl S i)))) ++ (rwL nw (fun i => (wa i, .inl (cI, 5, .inl (vwn T i)))) ++ (rwL nr (fun i => (ra i, .inl (cI, 6, .inl (vrp S st i)))) ++ (rwL nf (fun i => (fa i, .inl (cI, 2, .inl (vfe fe fo i)))) ++ C9)))
theorem ap_l {a b : va_W} {k n : Nat} {x : Nat × va_E} (hn : a.length = n) (h : a[k]? = some x) : (a ++ b)[k]? = some x := by
  rw [List.getElem?_append_left (List.getElem?_eq_some_iff.mp h).1]
  exact h
theorem ap_r {a b : va_W} {k n : Nat} {x : Nat × va_E} (hn : a.length = n) (h : b[k]? = some x) : (a ++ b)[n + k]? = some x := by
  rw [List.getElem?_append_right (by omega), hn, Nat.add_sub_cancel_left]
  exact h
theorem aps_l {a a' b : va_W} {k n : Nat} {x : Nat × va_E} (hn : a.length = n) (hk : k < n) (h : a.set k x = a') : (a ++ b).set k x = a' ++ b := by
  rw [List.set_append_left _ _ (by omega), h]
theorem aps_r {a b b' : va_W} {k n : Nat} {x : Nat × va_E} (hn : a.length = n) (h : b.set k x = b') : (a ++ b).set (n + k) x = a ++ b' := by
  rw [List.set_append_right _ _ (by omega), hn, Nat.add_sub_cancel_left, h]
section SR
variable {cI : ClassId} {sc wa ra fa : Nat → Nat} {nw nr nf : Nat} {S S' T st fe fo : Nat → Nat} {C9 : va_W}
theorem sR_c {i : Nat} (h : i < 12) : (sR cI sc wa ra fa nw nr nf S T st fe fo C9)[i]? = some (sc i, .inl (cI, 8, .inl (vcl S i))) := by
  unfold sR
  exact ap_l rwL_len (rwL_at h)
theorem sR_w {k : Nat} (h : k < nw) : (sR cI sc wa ra fa nw nr nf S T st fe fo C9)[12 + k]? = some (wa k, .inl (cI, 5, .inl (vwn T k))) := by
  unfold sR
  exact ap_r rwL_len (ap_l rwL_len (rwL_at h))
theorem sR_r {k : Nat} (h : k < nr) : (sR cI sc wa ra fa nw nr nf S T st fe fo C9)[12 + (nw + k)]? = some (ra k, .inl (cI, 6, .inl (vrp S st k))) := by
  unfold sR
  exact ap_r rwL_len (ap_r rwL_len (ap_l rwL_len (rwL_at h)))
theorem sR_f {k : Nat} (h : k < nf) : (sR cI sc wa ra fa nw nr nf S T st fe fo C9)[12 + (nw + (nr + k))]? = some (fa k, .inl (cI, 2, .inl (vfe fe fo k))) := by
  unfold sR
  exact ap_r rwL_len (ap_r rwL_len (ap_r rwL_len (ap_l rwL_len (rwL_at h))))
/-- soot written -/
theorem sR_cs {i : Nat} (h : i < 12) (hc : ∀ j, j < 12 → j ≠ i → vcl S j = vcl S' j) (hr : ∀ r, r < nr → vrp S st r = vrp S' st r) : (sR cI sc wa ra fa nw nr nf S T st fe fo C9).set i (sc i, .inl (cI, 8, .inl (vcl S' i))) = sR cI sc wa ra fa nw nr nf S' T st fe fo C9 := by
  unfold sR
  rw [aps_l rwL_len h (rwL_set (g := fun i => (sc i, .inl (cI, 8, .inl (vcl S' i)))) h rfl (fun j hj hji => by rw [hc j hj hji]))]
  rw [rwL_congr (n := nr) (f := fun i => (ra i, .inl (cI, 6, .inl (vrp S st i)))) (g := fun i => (ra i, .inl (cI, 6, .inl (vrp S' st i)))) (fun r hr2 => by rw [hr r hr2])]
/-- a rope's numbers written -/
theorem sR_rs {k : Nat} (h : k < nr) (hc : ∀ j, j < 12 → vcl S j = vcl S' j) (hr : ∀ r, r < nr → r ≠ k → vrp S st r = vrp S' st r) : (sR cI sc wa ra fa nw nr nf S T st fe fo C9).set (12 + (nw + k)) (ra k, .inl (cI, 6, .inl (vrp S' st k))) = sR cI sc wa ra fa nw nr nf S' T st fe fo C9 := by
  unfold sR
  rw [aps_r rwL_len (aps_r rwL_len (aps_l rwL_len h (rwL_set (g := fun i => (ra i, .inl (cI, 6, .inl (vrp S' st i)))) h rfl (fun j hj hji => by rw [hr j hj hji]))))]
  rw [rwL_congr (n := 12) (f := fun i => (sc i, .inl (cI, 8, .inl (vcl S i)))) (g := fun i => (sc i, .inl (cI, 8, .inl (vcl S' i)))) (fun r hr2 => by rw [hc r hr2])]
/-- the same rows under another name -/
theorem sR_congr (hc : ∀ j, j < 12 → vcl S j = vcl S' j) (hr : ∀ r, r < nr → vrp S st r = vrp S' st r) : sR cI sc wa ra fa nw nr nf S T st fe fo C9 = sR cI sc wa ra fa nw nr nf S' T st fe fo C9 := by
  unfold sR
  rw [rwL_congr (n := 12) (f := fun i => (sc i, .inl (cI, 8, .inl (vcl S i)))) (g := fun i => (sc i, .inl (cI, 8, .inl (vcl S' i)))) (fun r hr2 => by rw [hc r hr2])]
  rw [rwL_congr (n := nr) (f := fun i => (ra i, .inl (cI, 6, .inl (vrp S st i)))) (g := fun i => (ra i, .inl (cI, 6, .inl (vrp S' st i)))) (fun r hr2 => by rw [hr r hr2])]
end SR
/-! the views: read -/
theorem vcl_at {S : Nat → Nat} {i j : Nat} (h : j < 8) : vcl S i j = nI (S (4 + (i * 8 + j))) := if_pos h
theorem vwn_at {T : Nat → Nat} {w q : Nat} (h : q < 5) : vwn T w q = nI (T (5 * w + q)) := if_pos h
theorem vrp_at {S st : Nat → Nat} {r q : Nat} (h : q < 6) : vrp S st r q = nI (tld S st r q) := if_pos h
theorem vrp_0 {S st : Nat → Nat} {r : Nat} : vrp S st r 0 = nI (S (100 + 5 * r)) := rfl
theorem vrp_1 {S st : Nat → Nat} {r : Nat} : vrp S st r 1 = nI (S (100 + 5 * r + 1)) := rfl
theorem vrp_2 {S st : Nat → Nat} {r : Nat} : vrp S st r 2 = nI (st r) := rfl
theorem vrp_3 {S st : Nat → Nat} {r : Nat} : vrp S st r 3 = nI (S (100 + 5 * r + 2)) := rfl
theorem vrp_4 {S st : Nat → Nat} {r : Nat} : vrp S st r 4 = nI (S (100 + 5 * r + 3)) := rfl
theorem vrp_5 {S st : Nat → Nat} {r : Nat} : vrp S st r 5 = nI (S (100 + 5 * r + 4)) := rfl
theorem vfe_0 {fe fo : Nat → Nat} {f : Nat} : vfe fe fo f 0 = nI (fe f) := rfl
theorem vfe_1 {fe fo : Nat → Nat} {f : Nat} : vfe fe fo f 1 = nI (fo f) := rfl
/-! the views: written -/
theorem vcl_up {S : Nat → Nat} {i j v : Nat} (h : j < 8) : upd (vcl S i) j (nI v) = vcl (up S (4 + (i * 8 + j)) v) i := by
  funext k
  by_cases hk : k = j
  · subst hk; simp [upd, vcl, up, h]
  · have h2 : ¬ 4 + (i * 8 + k) = 4 + (i * 8 + j) := by omega
    simp only [upd, vcl, up, if_neg hk, if_neg h2]
theorem vcl_o {S : Nat → Nat} {i i' j v : Nat} (h : j < 8) (hi : i' ≠ i) : vcl S i' = vcl (up S (4 + (i * 8 + j)) v) i' := by
  funext k
  by_cases hk : k < 8
  · have h2 : ¬ 4 + (i' * 8 + k) = 4 + (i * 8 + j) := by omega
    simp only [vcl, up, if_pos hk, if_neg h2]
  · simp only [vcl, if_neg hk]
theorem vcl_lo {S : Nat → Nat} {i p v : Nat} (hi : i < 12) (h : p < 4 ∨ 100 ≤ p) : vcl S i = vcl (up S p v) i := by
  funext k
  by_cases hk : k < 8
  · have h2 : ¬ 4 + (i * 8 + k) = p := by omega
    simp only [vcl, up, if_pos hk, if_neg h2]
  · simp only [vcl, if_neg hk]
theorem tld_o {S st : Nat → Nat} {r p v q : Nat} (h : p < 100 + 5 * r ∨ 100 + 5 * r + 5 ≤ p) : tld S st r q = tld (up S p v) st r q := by
  unfold tld
  rw [up_n (j := 100 + 5 * r) (by omega), up_n (j := 100 + 5 * r + 1) (by omega), up_n (j := 100 + 5 * r + 2) (by omega), up_n (j := 100 + 5 * r + 3) (by omega), up_n (j := 100 + 5 * r + 4) (by omega)]
theorem vrp_o {S st : Nat → Nat} {r p v : Nat} (h : p < 100 + 5 * r ∨ 100 + 5 * r + 5 ≤ p) : vrp S st r = vrp (up S p v) st r := by
  funext q
  unfold vrp
  rw [tld_o h]
theorem vrp_u0 {S st : Nat → Nat} {r v : Nat} : upd (vrp S st r) 0 (nI v) = vrp (up S (100 + 5 * r) v) st r := by
  funext q
  by_cases h0 : q = 0
  · subst h0; simp [upd, vrp, tld, up]
  · have e1 : ¬ 100 + 5 * r + 1 = 100 + 5 * r := by omega
    simp only [upd, if_neg h0, vrp, tld, up, if_neg h0]
    simp
theorem vrp_u1 {S st : Nat → Nat} {r v : Nat} : upd (vrp S st r) 1 (nI v) = vrp (up S (100 + 5 * r + 1) v) st r := by
  funext q
  by_cases h0 : q = 1
  · subst h0; simp [upd, vrp, tld, up]
  · simp only [upd, if_neg h0, vrp, tld, up]
    simp
theorem vrp_u3 {S st : Nat → Nat} {r v : Nat} : upd (vrp S st r) 3 (nI v) = vrp (up S (100 + 5 * r + 2) v) st r := by
  funext q
  by_cases h0 : q = 3
  · subst h0; simp [upd, vrp, tld, up]
  · simp only [upd, if_neg h0, vrp, tld, up]
    simp
theorem vrp_u4 {S st : Nat → Nat} {r v : Nat} : upd (vrp S st r) 4 (nI v) = vrp (up S (100 + 5 * r + 3) v) st r := by
  funext q
  by_cases h0 : q = 4
  · subst h0; simp [upd, vrp, tld, up]
  · simp only [upd, if_neg h0, vrp, tld, up]
    simp
theorem vrp_u5 {S st : Nat → Nat} {r v : Nat} : upd (vrp S st r) 5 (nI v) = vrp (up S (100 + 5 * r + 4) v) st r := by
  funext q
  by_cases h0 : q = 5
  · subst h0; simp [upd, vrp, tld, up]
  · by_cases h6 : q < 6
    · simp only [upd, if_neg h0, vrp, tld, up, if_pos h6]
      rcases (show q = 0 ∨ q = 1 ∨ q = 2 ∨ q = 3 ∨ q = 4 by omega) with rfl | rfl | rfl | rfl | rfl <;> simp
    · simp only [upd, if_neg h0, vrp, if_neg h6]
/-- sums of soot, the most, coins -/
def a3 (a b c : Nat) : Nat → Int32 := fun j => if j = 0 then nI a else if j = 1 then nI b else if j = 2 then nI c else 0
theorem a3_u0 {a b c v : Nat} : upd (a3 a b c) 0 (nI v) = a3 v b c := by funext j; by_cases h : j = 0 <;> simp [upd, a3, h]
theorem a3_u1 {a b c v : Nat} : upd (a3 a b c) 1 (nI v) = a3 a v c := by
  funext j
  by_cases h : j = 1
  · subst h; simp [upd, a3]
  · simp [upd, a3, h]
theorem a3_u2 {a b c v : Nat} : upd (a3 a b c) 2 (nI v) = a3 a b v := by
  funext j
  by_cases h : j = 2
  · subst h; simp [upd, a3]
  · simp [upd, a3, h]
theorem a3_z : (fun _ => 0 : Nat → Int32) = a3 0 0 0 := by funext j; unfold a3; split <;> (try split) <;> (try split) <;> rfl
/-- what 'below' answers -/
def bw (v : Int32) (n : Nat) : Nat := v.toBitVec.toNat % 2 ^ 31 % n
theorem bw_lt {v : Int32} {n : Nat} (h : 0 < n) : bw v n < n := Nat.mod_lt _ h
