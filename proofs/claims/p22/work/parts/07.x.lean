/-! MORE ROWS, AND NUMBERS -/
section GL2
variable {p : Program} {l : Launch} {e : Env} {R : Room} {s : State} {m : MethodId} {args : Array Value} {below : List Frame} {meth : Method} {c : Code} {Q : State → Prop}
variable {D : va_G} {tys : List (ClassId × FieldType)} {A : Nat → Prop} {cc : ByteArray} {nL kc ks : Nat} {own : String} {Ts : List Cond}
variable {ws ws' : va_W} {lv lv' : List (Nat × Value)} {pc pc' tgt : Nat} {st : List Value}
theorem g_dup2 (X : gX p s m args c D tys A cc nL own Ts) {v w : Value} (pc' : Nat) (hd : decode cc pc = .ok (.dup2, 1)) (hn : pc + 1 = pc') (hv : v.category = 1) (hw : w.category = 1) (k : G p l e R s m args below meth c Q D A nL kc ks ws lv pc' (v :: w :: v :: w :: st)) : G p l e R s m args below meth c Q D A nL kc ks ws lv pc (v :: w :: st) := by
  subst hn
  exact fun H locs ls hP hD hS hl => lv_dup2_11 X.1 X.2.1 hd hv hw (k H locs ls hP hD hS hl)
theorem g_eqi {x y : Int32} (h : x = y) (k : G p l e R s m args below meth c Q D A nL kc ks ws lv pc (.int y :: st)) : G p l e R s m args below meth c Q D A nL kc ks ws lv pc (.int x :: st) := h ▸ k
theorem g_eql {x y : Int64} (h : x = y) (k : G p l e R s m args below meth c Q D A nL kc ks ws lv pc (.long y :: st)) : G p l e R s m args below meth c Q D A nL kc ks ws lv pc (.long x :: st) := h ▸ k
theorem g_eqw (h : ws = ws') (k : G p l e R s m args below meth c Q D A nL kc ks ws' lv pc st) : G p l e R s m args below meth c Q D A nL kc ks ws lv pc st := h ▸ k
theorem g_eqv (h : lv = lv') (k : G p l e R s m args below meth c Q D A nL kc ks ws lv' pc st) : G p l e R s m args below meth c Q D A nL kc ks ws lv pc st := h ▸ k
theorem g_ldc2 (X : gX p s m args c D tys A cc nL own Ts) {index : Nat} (v : Int64) (pc' : Nat) (hm : Cond.constantLong own index v ∈ Ts) (hd : decode cc pc = .ok (.ldc2_w index, 3)) (hn : pc + 3 = pc') (k : G p l e R s m args below meth c Q D A nL kc ks ws lv pc' (.long v :: st)) : G p l e R s m args below meth c Q D A nL kc ks ws lv pc st := by
  subst hn
  exact fun H locs ls hP hD hS hl => lv_ldc2 X.1 X.2.1 X.2.2.2.1 (X.hts _ hm) hd (k H locs ls hP hD hS hl)
theorem g_objInit (X : gX p s m args c D tys A cc nL own Ts) {idx a : Nat} (pc' : Nat) (h1 : Cond.methodLink own idx Lib.objectInit ∈ Ts) (h2 : Cond.instanceMethod Lib.objectInit ∈ Ts) (h3 : Cond.code Lib.objectInit ⟨#[0xb1]⟩ 1 none ∈ Ts) (hR : 1 ≤ R.frames) (hL : (st.map fun v => v.category).sum + 12 ≤ R.locals) (hd : decode cc pc = .ok (.invokespecial idx, 3)) (hn : pc + 3 = pc') (k : G p l e R s m args below meth c Q D A nL kc ks ws lv pc' st) : G p l e R s m args below meth c Q D A nL kc ks ws lv pc (.ref a :: st) := by
  subst hn
  intro H locs ls hP hD hS hl
  refine W.objInit X.1 X.2.1 X.2.2.2.1 (X.hts _ h1) (X.hts _ h2) (X.hts _ h3) rfl (hl.1.trans X.2.2.1.symm) rfl hd hR ?_ ?_
  · show 2 * 0 + _ + 12 ≤ _
    omega
  · exact k H locs ls hP hD hS hl
end GL2
theorem g_down {P : Nat → Prop} (N : Nat) (h0 : P N) (hs : ∀ j : Nat, j < N → P (j + 1) → P j) : ∀ j : Nat, j ≤ N → P j := by
  intro j hj
  obtain ⟨d, hd⟩ : ∃ d, d = N - j := ⟨_, rfl⟩
  induction d generalizing j with
  | zero => rw [show j = N by omega]; exact h0
  | succ d ih => exact hs j (by omega) (ih (j + 1) (by omega) (by omega))
/-- numbers -/
def nIm (n : Nat) : Int32 := -(nI n)
theorem nI_inc (a : Nat) : nI a + Int32.ofInt 1 = nI (a + 1) := nI_1 a
theorem nI_incN (a k : Nat) : nI a + Int32.ofInt (k : Int) = nI (a + k) := nI_add a k
theorem nI_dec {a : Nat} (h : 1 ≤ a) : nI a + Int32.ofInt (-1) = nI (a - 1) := by
  have := pk_m1 (a - 1)
  rw [show a - 1 + 1 = a by omega] at this
  exact this
theorem nz_eq {a : Nat} (h : a < 2 ^ 31) : nI a = 0 ↔ a = 0 := by
  have := nI_eq h (show 0 < 2 ^ 31 by decide)
  rwa [nI_0] at this
theorem nz_lt {a : Nat} (h : a < 2 ^ 31) : nI a < 0 ↔ False := ⟨nI_pos h, False.elim⟩
theorem nz_ge {a : Nat} (h : a < 2 ^ 31) : 0 ≤ nI a ↔ True := ⟨fun _ => trivial, fun _ => nI_pos' h⟩
theorem nz_gt {a : Nat} (h : a < 2 ^ 31) : 0 < nI a ↔ 0 < a := by
  have := nI_ltI (show 0 < 2 ^ 31 by decide) h
  rwa [nI_0] at this
theorem nz_le {a : Nat} (h : a < 2 ^ 31) : nI a ≤ 0 ↔ a = 0 := by
  have := nI_leI h (show 0 < 2 ^ 31 by decide)
  rw [nI_0] at this
  rw [this]; omega
/-- Math.min, Math.max of numbers -/
theorem nI_min {a b : Nat} (ha : a < 2 ^ 31) (hb : b < 2 ^ 31) : (if nI b < nI a then nI b else nI a) = nI (min a b) := by
  by_cases h : b < a
  · rw [if_pos ((nI_ltI hb ha).mpr h), Nat.min_eq_right (by omega)]
  · rw [if_neg (fun z => h ((nI_ltI hb ha).mp z)), Nat.min_eq_left (by omega)]
theorem nI_max {a b : Nat} (ha : a < 2 ^ 31) (hb : b < 2 ^ 31) : (if nI a < nI b then nI b else nI a) = nI (max a b) := by
  by_cases h : a < b
  · rw [if_pos ((nI_ltI ha hb).mpr h), Nat.max_eq_right (by omega)]
  · rw [if_neg (fun z => h ((nI_ltI ha hb).mp z)), Nat.max_eq_left (by omega)]
theorem nI_max0 {a b : Nat} (ha : a < 2 ^ 30) (hb : b < 2 ^ 30) : (if nI 0 < nI a - nI b then nI a - nI b else nI 0) = nI (a - b) := by
  by_cases h : b ≤ a
  · rw [pk_sub h]
    by_cases h0 : 0 < a - b
    · rw [if_pos ((nI_ltI (by decide) (by omega)).mpr h0)]
    · rw [show a - b = 0 by omega]
      rw [if_neg (fun z => (by have := (nI_ltI (a := 0) (b := 0) (by decide) (by decide)).mp z; omega))]
  · have h1 := pk_sneg hb (show a < b by omega)
    rw [if_neg, show a - b = 0 by omega]
    intro z
    rw [nI_0] at z
    exact absurd (Int32.lt_trans z h1) Int32.lt_irrefl
theorem nI_neg {a : Nat} (h : a ≤ 2 ^ 32) : -(nI a) = nI (2 ^ 32 - a) := by
  have h1 : nI a + nI (2 ^ 32 - a) = nI (2 ^ 32) := by rw [nI_add]; congr 1; omega
  have h2 : nI (2 ^ 32) = 0 := by decide +kernel
  rw [h2] at h1
  have h3 : -(nI a) + (nI a + nI (2 ^ 32 - a)) = -(nI a) + 0 := by rw [h1]
  rw [← Int32.add_assoc, Int32.add_left_neg, Int32.zero_add, Int32.add_zero] at h3
  exact h3.symm
/-- a yes or no as a number -/
def bn (b : Bool) : Nat := if b then 1 else 0
theorem bn_t : bn true = 1 := rfl
theorem bn_f : bn false = 0 := rfl
theorem bn_lt (b : Bool) : bn b < 2 ^ 31 := by cases b <;> decide
theorem bn_nar (b : Bool) : narrow .boolean (.int (nI (bn b))) = .int (nI (bn b)) := by cases b <;> rfl
theorem bn_eq0 (b : Bool) : nI (bn b) = 0 ↔ b = false := by cases b <;> decide
theorem bn_1 (n : Nat) (h : n < 2) : narrow .boolean (.int (nI n)) = .int (nI n) := by
  rcases (show n = 0 ∨ n = 1 by omega) with rfl | rfl <;> rfl
section GL3
variable {p : Program} {l : Launch} {e : Env} {R : Room} {s : State} {m : MethodId} {args : Array Value} {below : List Frame} {meth : Method} {c : Code} {Q : State → Prop}
variable {D : va_G} {tys : List (ClassId × FieldType)} {A : Nat → Prop} {cc : ByteArray} {nL kc ks : Nat} {own : String} {Ts : List Cond}
variable {ws ws' : va_W} {lv lv' : List (Nat × Value)} {pc pc' tgt : Nat} {st : List Value}
/-- System.arraycopy of ints -/
theorem g_copy (X : gX p s m args c D tys A cc nL own Ts) {index a0 a1 n0 n1 : Nat} {cA : ClassId} {f g : Nat → Int32} (q0 q1 : Nat) (sp dp n : Nat) (f' : Nat → Int32) (pc' : Nat) (h1 : Cond.methodLink own index arraycopyName ∈ Ts) (h2 : Cond.native arraycopyName ∈ Ts) (h3 : Cond.static arraycopyName ∈ Ts) (h4 : Cond.initialized "java/lang/System" ∈ Ts) (ha0 : ws[q0]? = some (a0, .inl (cA, n0, .inl f))) (ha1 : ws[q1]? = some (a1, .inl (cA, n1, .inl g))) (ht : tys[0]? = some (cA, .int)) (hn0 : sp + n ≤ n0) (hn1 : dp + n ≤ n1) (h31 : n0 < 2 ^ 31) (h32 : n1 < 2 ^ 31)
    (hR : 1 ≤ R.frames) (hL : (st.map fun v => v.category).sum + (nativeFrameWords "java/lang/System" "arraycopy" 5 + 11) ≤ R.locals) (hf : va_cpy f g sp dp n = f') (hd : decode cc pc = .ok (.invokestatic index, 3)) (hn : pc + 3 = pc') (hw : ws.set q1 (a1, .inl (cA, n1, .inl f')) = ws') (k : G p l e R s m args below meth c Q D A nL kc ks ws' lv pc' st) : G p l e R s m args below meth c Q D A nL kc ks ws lv pc (.int (nI n) :: .int (nI dp) :: .ref a1 :: .int (nI sp) :: .ref a0 :: st) := by
  subst hn
  subst hf
  subst hw
  intro H locs ls hP hD hS hl
  have c1 : (nI sp).toNatClampNeg = sp := nI_clamp (by omega)
  have c2 : (nI dp).toNatClampNeg = dp := nI_clamp (by omega)
  have c3 : (nI n).toNatClampNeg = n := nI_clamp (by omega)
  refine va_copyi X.1 X.2.1 (X.2.2.1.trans hl.1.symm) X.2.2.2.1 (X.hts _ h1) (X.hts _ h2) (X.hts _ h3) (X.hts _ h4) X.K hP hD hS q0 q1 0 0 ha0 ha1 ht ht rfl (nI_pos (by omega)) (nI_pos (by omega)) (nI_pos (by omega)) (by rw [c1, c3]; exact hn0) (by rw [c2, c3]; exact hn1) (fun _ _ => rfl) hR hL hd ?_
  rw [c1, c2, c3]
  exact fun H locs hP hD hS => k H locs ls hP hD hS hl
end GL3
theorem wd_lt {w : Nat} (h : w ≤ 5 ∨ (2 ^ 32 - 5 ≤ w ∧ w < 2 ^ 32)) : nI w < 0 ↔ ¬ w ≤ 5 := by
  rcases h with h | ⟨h1, h2⟩
  · exact ⟨fun z => absurd z (nI_pos (by omega)), fun z => absurd h z⟩
  · refine ⟨fun _ => by omega, fun _ => ?_⟩
    rcases (show w = 4294967291 ∨ w = 4294967292 ∨ w = 4294967293 ∨ w = 4294967294 ∨ w = 4294967295 by omega) with rfl | rfl | rfl | rfl | rfl <;> decide +kernel
