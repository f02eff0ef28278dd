/-! THE WALK'S OWN LAYER: G says 'from this pc, with these locals, this stack and these cells, the machine comes to Q'; a row an instruction. -/
theorem fm_map {α : Type} {ws : List α} : ∀ (is : List Nat) (w : List α), is.map (fun i => ws[i]?) = w.map some → is.filterMap (fun i => ws[i]?) = w := by
  intro is
  induction is with
  | nil => intro w hw; cases w with
    | nil => rfl
    | cons a w => cases hw
  | cons i is ih =>
    intro w hw
    cases w with
    | nil => cases hw
    | cons a w =>
      simp only [List.map_cons, List.cons.injEq] at hw
      rw [List.filterMap_cons, hw.1]
      simp only [ih w hw.2]
section GL
variable {p : Program} {l : Launch} {e : Env} {R : Room} {s : State} {m : MethodId} {args : Array Value} {below : List Frame} {meth : Method} {c : Code} {Q : State → Prop}
variable {D : va_G} {tys : List (ClassId × FieldType)} {A : Nat → Prop} {cc : ByteArray} {nL kc ks : Nat} {own : String} {Ts : List Cond}
variable {ws ws' : va_W} {lv lv' : List (Nat × Value)} {pc pc' tgt : Nat} {st : List Value}
/-- what stays the same through a walk -/
def gX (p : Program) (s : State) (m : MethodId) (args : Array Value) (c : Code) (D : va_G) (tys : List (ClassId × FieldType)) (A : Nat → Prop) (cc : ByteArray) (nL : Nat) (own : String) (Ts : List Cond) : Prop :=
  p.tables.exec = Jvm.exec ∧ c.code = cc ∧ c.maxLocals = nL ∧ s.vm.findClass own = some m.cls ∧ (∀ w ∈ Ts, w.before args s = true) ∧ va_K D vwCl tys s ∧ (∀ q : Nat, s.heap.size ≤ q → A q)
def G (p : Program) (l : Launch) (e : Env) (R : Room) (s : State) (m : MethodId) (args : Array Value) (below : List Frame) (meth : Method) (c : Code) (Q : State → Prop) (D : va_G) (A : Nat → Prop) (nL kc ks : Nat) (ws : va_W) (lv : List (Nat × Value)) (pc : Nat) (st : List Value) : Prop :=
  ∀ (H : Heap) (locs : List Loc) (ls : Array Slot), va_P D vwCl ws H → va_D A ws → va_S A s.heap H locs → lv_has ls nL lv → W p l e R s m args below meth c H locs kc ks Q (F0 m pc ls st)
theorem gX.fix (X : gX p s m args c D tys A cc nL own Ts) : CallFix p m c cc nL s args Ts own := ⟨X.1, X.2.1, X.2.2.1, X.2.2.2.1, X.2.2.2.2.1⟩
theorem gX.K (X : gX p s m args c D tys A cc nL own Ts) : va_K D vwCl tys s := X.2.2.2.2.2.1
theorem gX.hA (X : gX p s m args c D tys A cc nL own Ts) : ∀ q : Nat, s.heap.size ≤ q → A q := X.2.2.2.2.2.2
theorem gX.hts (X : gX p s m args c D tys A cc nL own Ts) : ∀ w ∈ Ts, w.before args s = true := X.2.2.2.2.1
/-- constants -/
theorem g_iconst (X : gX p s m args c D tys A cc nL own Ts) {n : Int} (v : Int32) (pc' : Nat) (hd : decode cc pc = .ok (.iconst n, 1)) (hn : pc + 1 = pc') (hv : Int32.ofInt n = v) (k : G p l e R s m args below meth c Q D A nL kc ks ws lv pc' (.int v :: st)) : G p l e R s m args below meth c Q D A nL kc ks ws lv pc st := by
  subst hn
  exact fun H locs ls hP hD hS hl => lv_iconst X.1 X.2.1 hd hv (k H locs ls hP hD hS hl)
theorem g_bipush (X : gX p s m args c D tys A cc nL own Ts) {n : Int} (v : Int32) (pc' : Nat) (hd : decode cc pc = .ok (.bipush n, 2)) (hn : pc + 2 = pc') (hv : (Int8.ofInt n).toInt32 = v) (k : G p l e R s m args below meth c Q D A nL kc ks ws lv pc' (.int v :: st)) : G p l e R s m args below meth c Q D A nL kc ks ws lv pc st := by
  subst hn
  exact fun H locs ls hP hD hS hl => lv_bipush X.1 X.2.1 hd hv (k H locs ls hP hD hS hl)
theorem g_sipush (X : gX p s m args c D tys A cc nL own Ts) {n : Int} (v : Int32) (pc' : Nat) (hd : decode cc pc = .ok (.sipush n, 3)) (hn : pc + 3 = pc') (hv : (Int16.ofInt n).toInt32 = v) (k : G p l e R s m args below meth c Q D A nL kc ks ws lv pc' (.int v :: st)) : G p l e R s m args below meth c Q D A nL kc ks ws lv pc st := by
  subst hn
  exact fun H locs ls hP hD hS hl => lv_sipush X.1 X.2.1 hd hv (k H locs ls hP hD hS hl)
/-- locals -/
theorem g_iload_n (X : gX p s m args c D tys A cc nL own Ts) {i : Fin 4} {j : Nat} {x : Int32} (q pc' : Nat) (hd : decode cc pc = .ok (.iload_n i, 1)) (hn : pc + 1 = pc') (hi : (i : Nat) = j) (hj : lv[q]? = some (j, .int x)) (k : G p l e R s m args below meth c Q D A nL kc ks ws lv pc' (.int x :: st)) : G p l e R s m args below meth c Q D A nL kc ks ws lv pc st := by
  subst hn
  exact fun H locs ls hP hD hS hl => lv_iload_n X.1 X.2.1 hd hi (lv_at hl q hj) (k H locs ls hP hD hS hl)
theorem g_iload (X : gX p s m args c D tys A cc nL own Ts) {i : Nat} {x : Int32} (q pc' : Nat) (hd : decode cc pc = .ok (.iload i, 2)) (hn : pc + 2 = pc') (hj : lv[q]? = some (i, .int x)) (k : G p l e R s m args below meth c Q D A nL kc ks ws lv pc' (.int x :: st)) : G p l e R s m args below meth c Q D A nL kc ks ws lv pc st := by
  subst hn
  exact fun H locs ls hP hD hS hl => lv_iload X.1 X.2.1 hd (lv_at hl q hj) (k H locs ls hP hD hS hl)
theorem g_aload_n (X : gX p s m args c D tys A cc nL own Ts) {i : Fin 4} {j : Nat} {x : Nat} (q pc' : Nat) (hd : decode cc pc = .ok (.aload_n i, 1)) (hn : pc + 1 = pc') (hi : (i : Nat) = j) (hj : lv[q]? = some (j, .ref x)) (k : G p l e R s m args below meth c Q D A nL kc ks ws lv pc' (.ref x :: st)) : G p l e R s m args below meth c Q D A nL kc ks ws lv pc st := by
  subst hn
  exact fun H locs ls hP hD hS hl => lv_aload_n X.1 X.2.1 hd hi (lv_at hl q hj) (k H locs ls hP hD hS hl)
theorem g_aload (X : gX p s m args c D tys A cc nL own Ts) {i : Nat} {x : Nat} (q pc' : Nat) (hd : decode cc pc = .ok (.aload i, 2)) (hn : pc + 2 = pc') (hj : lv[q]? = some (i, .ref x)) (k : G p l e R s m args below meth c Q D A nL kc ks ws lv pc' (.ref x :: st)) : G p l e R s m args below meth c Q D A nL kc ks ws lv pc st := by
  subst hn
  exact fun H locs ls hP hD hS hl => lv_aload X.1 X.2.1 hd (lv_at hl q hj) (k H locs ls hP hD hS hl)
theorem g_lload_n (X : gX p s m args c D tys A cc nL own Ts) {i : Fin 4} {j : Nat} {x : Int64} (q pc' : Nat) (hd : decode cc pc = .ok (.lload_n i, 1)) (hn : pc + 1 = pc') (hi : (i : Nat) = j) (hj : lv[q]? = some (j, .long x)) (k : G p l e R s m args below meth c Q D A nL kc ks ws lv pc' (.long x :: st)) : G p l e R s m args below meth c Q D A nL kc ks ws lv pc st := by
  subst hn
  exact fun H locs ls hP hD hS hl => lv_lload_n X.1 X.2.1 hd hi (lv_at hl q hj) (k H locs ls hP hD hS hl)
theorem g_dload (X : gX p s m args c D tys A cc nL own Ts) {i : Nat} {x : UInt64} (q pc' : Nat) (hd : decode cc pc = .ok (.dload i, 2)) (hn : pc + 2 = pc') (hj : lv[q]? = some (i, .double x)) (k : G p l e R s m args below meth c Q D A nL kc ks ws lv pc' (.double x :: st)) : G p l e R s m args below meth c Q D A nL kc ks ws lv pc st := by
  subst hn
  exact fun H locs ls hP hD hS hl => lv_dload X.1 X.2.1 hd (lv_at hl q hj) (k H locs ls hP hD hS hl)
abbrev gSt (i : Nat) (v : Value) (lv : List (Nat × Value)) : List (Nat × Value) := (i, v) :: lv.filter (fun q => !(q.1 == i) && !(q.1 + 1 == i && q.2.category == 2))
theorem g_istore_n (X : gX p s m args c D tys A cc nL own Ts) {i : Fin 4} {j : Nat} {x : Int32} (lv' : List (Nat × Value)) (pc' : Nat) (hd : decode cc pc = .ok (.istore_n i, 1)) (hn : pc + 1 = pc') (hi : (i : Nat) = j) (hj : j < nL) (hl' : gSt j (.int x) lv = lv') (k : G p l e R s m args below meth c Q D A nL kc ks ws lv' pc' st) : G p l e R s m args below meth c Q D A nL kc ks ws lv pc (.int x :: st) := by
  subst hn
  exact fun H locs ls hP hD hS hl => lv_istore_n X.1 X.2.1 hd hi hl hj hl' (fun ls hl => k H locs ls hP hD hS hl)
theorem g_istore (X : gX p s m args c D tys A cc nL own Ts) {i : Nat} {x : Int32} (lv' : List (Nat × Value)) (pc' : Nat) (hd : decode cc pc = .ok (.istore i, 2)) (hn : pc + 2 = pc') (hj : i < nL) (hl' : gSt i (.int x) lv = lv') (k : G p l e R s m args below meth c Q D A nL kc ks ws lv' pc' st) : G p l e R s m args below meth c Q D A nL kc ks ws lv pc (.int x :: st) := by
  subst hn
  exact fun H locs ls hP hD hS hl => lv_istore X.1 X.2.1 hd hl hj hl' (fun ls hl => k H locs ls hP hD hS hl)
theorem g_astore_n (X : gX p s m args c D tys A cc nL own Ts) {i : Fin 4} {j : Nat} {x : Nat} (lv' : List (Nat × Value)) (pc' : Nat) (hd : decode cc pc = .ok (.astore_n i, 1)) (hn : pc + 1 = pc') (hi : (i : Nat) = j) (hj : j < nL) (hl' : gSt j (.ref x) lv = lv') (k : G p l e R s m args below meth c Q D A nL kc ks ws lv' pc' st) : G p l e R s m args below meth c Q D A nL kc ks ws lv pc (.ref x :: st) := by
  subst hn
  exact fun H locs ls hP hD hS hl => lv_astore_n X.1 X.2.1 hd hi hl hj hl' (fun ls hl => k H locs ls hP hD hS hl)
theorem g_astore (X : gX p s m args c D tys A cc nL own Ts) {i : Nat} {x : Nat} (lv' : List (Nat × Value)) (pc' : Nat) (hd : decode cc pc = .ok (.astore i, 2)) (hn : pc + 2 = pc') (hj : i < nL) (hl' : gSt i (.ref x) lv = lv') (k : G p l e R s m args below meth c Q D A nL kc ks ws lv' pc' st) : G p l e R s m args below meth c Q D A nL kc ks ws lv pc (.ref x :: st) := by
  subst hn
  exact fun H locs ls hP hD hS hl => lv_astore X.1 X.2.1 hd hl hj hl' (fun ls hl => k H locs ls hP hD hS hl)
theorem g_lstore_n (X : gX p s m args c D tys A cc nL own Ts) {i : Fin 4} {j : Nat} {x : Int64} (lv' : List (Nat × Value)) (pc' : Nat) (hd : decode cc pc = .ok (.lstore_n i, 1)) (hn : pc + 1 = pc') (hi : (i : Nat) = j) (hj : j + 1 < nL) (hl' : (j, Value.long x) :: lv.filter (fun q => !(q.1 == j) && (!(q.1 == j + 1) && !(q.1 + 1 == j && q.2.category == 2))) = lv') (k : G p l e R s m args below meth c Q D A nL kc ks ws lv' pc' st) : G p l e R s m args below meth c Q D A nL kc ks ws lv pc (.long x :: st) := by
  subst hn
  exact fun H locs ls hP hD hS hl => lv_lstore_n X.1 X.2.1 hd hi hl hj hl' (fun ls hl => k H locs ls hP hD hS hl)
theorem g_dstore (X : gX p s m args c D tys A cc nL own Ts) {i : Nat} {x : UInt64} (lv' : List (Nat × Value)) (pc' : Nat) (hd : decode cc pc = .ok (.dstore i, 2)) (hn : pc + 2 = pc') (hj : i + 1 < nL) (hl' : (i, Value.double x) :: lv.filter (fun q => !(q.1 == i) && (!(q.1 == i + 1) && !(q.1 + 1 == i && q.2.category == 2))) = lv') (k : G p l e R s m args below meth c Q D A nL kc ks ws lv' pc' st) : G p l e R s m args below meth c Q D A nL kc ks ws lv pc (.double x :: st) := by
  subst hn
  exact fun H locs ls hP hD hS hl => lv_dstore X.1 X.2.1 hd hl hj hl' (fun ls hl => k H locs ls hP hD hS hl)
/-- an int's counter goes on -/
theorem g_iinc (X : gX p s m args c D tys A cc nL own Ts) {i : Nat} {n : Int} {x : Int32} (q : Nat) (v : Int32) (lv' : List (Nat × Value)) (pc' : Nat) (hd : decode cc pc = .ok (.iinc i n, 3)) (hn : pc + 3 = pc') (hq : lv[q]? = some (i, .int x)) (hv : x + Int32.ofInt n = v) (hj : i < nL) (hl' : gSt i (.int v) lv = lv') (k : G p l e R s m args below meth c Q D A nL kc ks ws lv' pc' st) : G p l e R s m args below meth c Q D A nL kc ks ws lv pc st := by
  subst hn
  exact fun H locs ls hP hD hS hl => lv_iinc X.1 X.2.1 hd hl hq hv hj hl' (fun ls hl => k H locs ls hP hD hS hl)
/-- fewer locals, in any order -/
theorem g_lv (ks0 : List Nat) (hl' : lv_pick lv ks0 = lv') (k : G p l e R s m args below meth c Q D A nL kc ks ws lv' pc st) : G p l e R s m args below meth c Q D A nL kc ks ws lv pc st :=
  fun H locs ls hP hD hS hl => k H locs ls hP hD hS (lv_sub hl ks0 hl')
/-- the stack -/
theorem g_dup (X : gX p s m args c D tys A cc nL own Ts) {v : Value} (pc' : Nat) (hd : decode cc pc = .ok (.dup, 1)) (hn : pc + 1 = pc') (hv : v.category = 1) (k : G p l e R s m args below meth c Q D A nL kc ks ws lv pc' (v :: v :: st)) : G p l e R s m args below meth c Q D A nL kc ks ws lv pc (v :: st) := by
  subst hn
  exact fun H locs ls hP hD hS hl => lv_dup X.1 X.2.1 hd hv (k H locs ls hP hD hS hl)
theorem g_pop (X : gX p s m args c D tys A cc nL own Ts) {v : Value} (pc' : Nat) (hd : decode cc pc = .ok (.pop, 1)) (hn : pc + 1 = pc') (hv : v.category = 1) (k : G p l e R s m args below meth c Q D A nL kc ks ws lv pc' st) : G p l e R s m args below meth c Q D A nL kc ks ws lv pc (v :: st) := by
  subst hn
  exact fun H locs ls hP hD hS hl => lv_pop X.1 X.2.1 hd hv (k H locs ls hP hD hS hl)
/-- arithmetic: the answer under a name of its own -/
theorem g_iadd (X : gX p s m args c D tys A cc nL own Ts) {x y : Int32} (z : Int32) (pc' : Nat) (hd : decode cc pc = .ok (.iadd, 1)) (hn : pc + 1 = pc') (hz : x + y = z) (k : G p l e R s m args below meth c Q D A nL kc ks ws lv pc' (.int z :: st)) : G p l e R s m args below meth c Q D A nL kc ks ws lv pc (.int y :: .int x :: st) := by
  subst hn
  subst hz
  exact fun H locs ls hP hD hS hl => lv_iadd X.1 X.2.1 hd (k H locs ls hP hD hS hl)
theorem g_isub (X : gX p s m args c D tys A cc nL own Ts) {x y : Int32} (z : Int32) (pc' : Nat) (hd : decode cc pc = .ok (.isub, 1)) (hn : pc + 1 = pc') (hz : x - y = z) (k : G p l e R s m args below meth c Q D A nL kc ks ws lv pc' (.int z :: st)) : G p l e R s m args below meth c Q D A nL kc ks ws lv pc (.int y :: .int x :: st) := by
  subst hn
  subst hz
  exact fun H locs ls hP hD hS hl => lv_isub X.1 X.2.1 hd (k H locs ls hP hD hS hl)
theorem g_imul (X : gX p s m args c D tys A cc nL own Ts) {x y : Int32} (z : Int32) (pc' : Nat) (hd : decode cc pc = .ok (.imul, 1)) (hn : pc + 1 = pc') (hz : x * y = z) (k : G p l e R s m args below meth c Q D A nL kc ks ws lv pc' (.int z :: st)) : G p l e R s m args below meth c Q D A nL kc ks ws lv pc (.int y :: .int x :: st) := by
  subst hn
  subst hz
  exact fun H locs ls hP hD hS hl => lv_imul X.1 X.2.1 hd (k H locs ls hP hD hS hl)
theorem g_idiv (X : gX p s m args c D tys A cc nL own Ts) {x y : Int32} (z : Int32) (pc' : Nat) (hd : decode cc pc = .ok (.idiv, 1)) (hn : pc + 1 = pc') (hy : ¬ y = 0) (hz : x / y = z) (k : G p l e R s m args below meth c Q D A nL kc ks ws lv pc' (.int z :: st)) : G p l e R s m args below meth c Q D A nL kc ks ws lv pc (.int y :: .int x :: st) := by
  subst hn
  subst hz
  exact fun H locs ls hP hD hS hl => lv_idiv X.1 X.2.1 hd hy (k H locs ls hP hD hS hl)
theorem g_irem (X : gX p s m args c D tys A cc nL own Ts) {x y : Int32} (z : Int32) (pc' : Nat) (hd : decode cc pc = .ok (.irem, 1)) (hn : pc + 1 = pc') (hy : ¬ y = 0) (hz : x - x / y * y = z) (k : G p l e R s m args below meth c Q D A nL kc ks ws lv pc' (.int z :: st)) : G p l e R s m args below meth c Q D A nL kc ks ws lv pc (.int y :: .int x :: st) := by
  subst hn
  subst hz
  exact fun H locs ls hP hD hS hl => lv_irem X.1 X.2.1 hd hy (k H locs ls hP hD hS hl)
theorem g_ineg (X : gX p s m args c D tys A cc nL own Ts) {x : Int32} (pc' : Nat) (hd : decode cc pc = .ok (.ineg, 1)) (hn : pc + 1 = pc') (k : G p l e R s m args below meth c Q D A nL kc ks ws lv pc' (.int (-x) :: st)) : G p l e R s m args below meth c Q D A nL kc ks ws lv pc (.int x :: st) := by
  subst hn
  exact fun H locs ls hP hD hS hl => lv_ineg X.1 X.2.1 hd (k H locs ls hP hD hS hl)
theorem g_iand (X : gX p s m args c D tys A cc nL own Ts) {x y : Int32} (pc' : Nat) (hd : decode cc pc = .ok (.iand, 1)) (hn : pc + 1 = pc') (k : G p l e R s m args below meth c Q D A nL kc ks ws lv pc' (.int (x &&& y) :: st)) : G p l e R s m args below meth c Q D A nL kc ks ws lv pc (.int y :: .int x :: st) := by
  subst hn
  exact fun H locs ls hP hD hS hl => lv_iand X.1 X.2.1 hd (k H locs ls hP hD hS hl)
theorem g_i2l (X : gX p s m args c D tys A cc nL own Ts) {x : Int32} (pc' : Nat) (hd : decode cc pc = .ok (.i2l, 1)) (hn : pc + 1 = pc') (k : G p l e R s m args below meth c Q D A nL kc ks ws lv pc' (.long x.toInt64 :: st)) : G p l e R s m args below meth c Q D A nL kc ks ws lv pc (.int x :: st) := by
  subst hn
  exact fun H locs ls hP hD hS hl => lv_i2l X.1 X.2.1 hd rfl (k H locs ls hP hD hS hl)
theorem g_ladd (X : gX p s m args c D tys A cc nL own Ts) {x y : Int64} (pc' : Nat) (hd : decode cc pc = .ok (.ladd, 1)) (hn : pc + 1 = pc') (k : G p l e R s m args below meth c Q D A nL kc ks ws lv pc' (.long (x + y) :: st)) : G p l e R s m args below meth c Q D A nL kc ks ws lv pc (.long y :: .long x :: st) := by
  subst hn
  exact fun H locs ls hP hD hS hl => lv_ladd X.1 X.2.1 hd (k H locs ls hP hD hS hl)
theorem g_lmul (X : gX p s m args c D tys A cc nL own Ts) {x y : Int64} (pc' : Nat) (hd : decode cc pc = .ok (.lmul, 1)) (hn : pc + 1 = pc') (k : G p l e R s m args below meth c Q D A nL kc ks ws lv pc' (.long (x * y) :: st)) : G p l e R s m args below meth c Q D A nL kc ks ws lv pc (.long y :: .long x :: st) := by
  subst hn
  exact fun H locs ls hP hD hS hl => lv_lmul X.1 X.2.1 hd (k H locs ls hP hD hS hl)
theorem g_i2d (X : gX p s m args c D tys A cc nL own Ts) {x : Int32} (pc' : Nat) (hd : decode cc pc = .ok (.i2d, 1)) (hn : pc + 1 = pc') (k : G p l e R s m args below meth c Q D A nL kc ks ws lv pc' (.double (FP.i2d x) :: st)) : G p l e R s m args below meth c Q D A nL kc ks ws lv pc (.int x :: st) := by
  subst hn
  exact fun H locs ls hP hD hS hl => lv_i2d X.1 X.2.1 hd (k H locs ls hP hD hS hl)
/-- branches -/
theorem g_goto (X : gX p s m args c D tys A cc nL own Ts) {off : Int} (tgt : Nat) (hd : decode cc pc = .ok (.goto off, 3)) (ht : (pc : Int) + off = (tgt : Int)) (k : G p l e R s m args below meth c Q D A nL kc ks ws lv tgt st) : G p l e R s m args below meth c Q D A nL kc ks ws lv pc st :=
  fun H locs ls hP hD hS hl => lv_goto X.1 X.2.1 hd ht (k H locs ls hP hD hS hl)
theorem g_icmp_eq (X : gX p s m args c D tys A cc nL own Ts) {x y : Int32} {off : Int} {P : Prop} (pc' tgt : Nat) (hd : decode cc pc = .ok (.if_icmp .eq off, 3)) (hn : pc + 3 = pc') (ht : (pc : Int) + off = (tgt : Int)) (hi : x = y ↔ P) (kt : P → G p l e R s m args below meth c Q D A nL kc ks ws lv tgt st) (kf : ¬ P → G p l e R s m args below meth c Q D A nL kc ks ws lv pc' st) : G p l e R s m args below meth c Q D A nL kc ks ws lv pc (.int y :: .int x :: st) := by
  subst hn
  exact fun H locs ls hP hD hS hl => lv_icmp_eq X.1 X.2.1 hd ht (fun h => kt (hi.mp h) H locs ls hP hD hS hl) (fun h => kf (fun z => h (hi.mpr z)) H locs ls hP hD hS hl)
theorem g_if_eq (X : gX p s m args c D tys A cc nL own Ts) {x : Int32} {off : Int} {P : Prop} (pc' tgt : Nat) (hd : decode cc pc = .ok (.ifCond .eq off, 3)) (hn : pc + 3 = pc') (ht : (pc : Int) + off = (tgt : Int)) (hi : x = 0 ↔ P) (kt : P → G p l e R s m args below meth c Q D A nL kc ks ws lv tgt st) (kf : ¬ P → G p l e R s m args below meth c Q D A nL kc ks ws lv pc' st) : G p l e R s m args below meth c Q D A nL kc ks ws lv pc (.int x :: st) := by
  subst hn
  exact fun H locs ls hP hD hS hl => lv_if_eq X.1 X.2.1 hd ht (fun h => kt (hi.mp h) H locs ls hP hD hS hl) (fun h => kf (fun z => h (hi.mpr z)) H locs ls hP hD hS hl)
theorem g_icmp_ne (X : gX p s m args c D tys A cc nL own Ts) {x y : Int32} {off : Int} {P : Prop} (pc' tgt : Nat) (hd : decode cc pc = .ok (.if_icmp .ne off, 3)) (hn : pc + 3 = pc') (ht : (pc : Int) + off = (tgt : Int)) (hi : x = y ↔ P) (kt : ¬ P → G p l e R s m args below meth c Q D A nL kc ks ws lv tgt st) (kf : P → G p l e R s m args below meth c Q D A nL kc ks ws lv pc' st) : G p l e R s m args below meth c Q D A nL kc ks ws lv pc (.int y :: .int x :: st) := by
  subst hn
  exact fun H locs ls hP hD hS hl => lv_icmp_ne X.1 X.2.1 hd ht (fun h => kt (fun z => h (hi.mpr z)) H locs ls hP hD hS hl) (fun h => kf (hi.mp h) H locs ls hP hD hS hl)
theorem g_if_ne (X : gX p s m args c D tys A cc nL own Ts) {x : Int32} {off : Int} {P : Prop} (pc' tgt : Nat) (hd : decode cc pc = .ok (.ifCond .ne off, 3)) (hn : pc + 3 = pc') (ht : (pc : Int) + off = (tgt : Int)) (hi : x = 0 ↔ P) (kt : ¬ P → G p l e R s m args below meth c Q D A nL kc ks ws lv tgt st) (kf : P → G p l e R s m args below meth c Q D A nL kc ks ws lv pc' st) : G p l e R s m args below meth c Q D A nL kc ks ws lv pc (.int x :: st) := by
  subst hn
  exact fun H locs ls hP hD hS hl => lv_if_ne X.1 X.2.1 hd ht (fun h => kt (fun z => h (hi.mpr z)) H locs ls hP hD hS hl) (fun h => kf (hi.mp h) H locs ls hP hD hS hl)
theorem g_icmp_lt (X : gX p s m args c D tys A cc nL own Ts) {x y : Int32} {off : Int} {P : Prop} (pc' tgt : Nat) (hd : decode cc pc = .ok (.if_icmp .lt off, 3)) (hn : pc + 3 = pc') (ht : (pc : Int) + off = (tgt : Int)) (hi : x < y ↔ P) (kt : P → G p l e R s m args below meth c Q D A nL kc ks ws lv tgt st) (kf : ¬ P → G p l e R s m args below meth c Q D A nL kc ks ws lv pc' st) : G p l e R s m args below meth c Q D A nL kc ks ws lv pc (.int y :: .int x :: st) := by
  subst hn
  exact fun H locs ls hP hD hS hl => lv_icmp_lt X.1 X.2.1 hd ht (fun h => kt (hi.mp h) H locs ls hP hD hS hl) (fun h => kf (fun z => h (hi.mpr z)) H locs ls hP hD hS hl)
theorem g_if_lt (X : gX p s m args c D tys A cc nL own Ts) {x : Int32} {off : Int} {P : Prop} (pc' tgt : Nat) (hd : decode cc pc = .ok (.ifCond .lt off, 3)) (hn : pc + 3 = pc') (ht : (pc : Int) + off = (tgt : Int)) (hi : x < 0 ↔ P) (kt : P → G p l e R s m args below meth c Q D A nL kc ks ws lv tgt st) (kf : ¬ P → G p l e R s m args below meth c Q D A nL kc ks ws lv pc' st) : G p l e R s m args below meth c Q D A nL kc ks ws lv pc (.int x :: st) := by
  subst hn
  exact fun H locs ls hP hD hS hl => lv_if_lt X.1 X.2.1 hd ht (fun h => kt (hi.mp h) H locs ls hP hD hS hl) (fun h => kf (fun z => h (hi.mpr z)) H locs ls hP hD hS hl)
theorem g_icmp_ge (X : gX p s m args c D tys A cc nL own Ts) {x y : Int32} {off : Int} {P : Prop} (pc' tgt : Nat) (hd : decode cc pc = .ok (.if_icmp .ge off, 3)) (hn : pc + 3 = pc') (ht : (pc : Int) + off = (tgt : Int)) (hi : y ≤ x ↔ P) (kt : P → G p l e R s m args below meth c Q D A nL kc ks ws lv tgt st) (kf : ¬ P → G p l e R s m args below meth c Q D A nL kc ks ws lv pc' st) : G p l e R s m args below meth c Q D A nL kc ks ws lv pc (.int y :: .int x :: st) := by
  subst hn
  exact fun H locs ls hP hD hS hl => lv_icmp_ge X.1 X.2.1 hd ht (fun h => kt (hi.mp h) H locs ls hP hD hS hl) (fun h => kf (fun z => h (hi.mpr z)) H locs ls hP hD hS hl)
theorem g_if_ge (X : gX p s m args c D tys A cc nL own Ts) {x : Int32} {off : Int} {P : Prop} (pc' tgt : Nat) (hd : decode cc pc = .ok (.ifCond .ge off, 3)) (hn : pc + 3 = pc') (ht : (pc : Int) + off = (tgt : Int)) (hi : 0 ≤ x ↔ P) (kt : P → G p l e R s m args below meth c Q D A nL kc ks ws lv tgt st) (kf : ¬ P → G p l e R s m args below meth c Q D A nL kc ks ws lv pc' st) : G p l e R s m args below meth c Q D A nL kc ks ws lv pc (.int x :: st) := by
  subst hn
  exact fun H locs ls hP hD hS hl => lv_if_ge X.1 X.2.1 hd ht (fun h => kt (hi.mp h) H locs ls hP hD hS hl) (fun h => kf (fun z => h (hi.mpr z)) H locs ls hP hD hS hl)
theorem g_icmp_gt (X : gX p s m args c D tys A cc nL own Ts) {x y : Int32} {off : Int} {P : Prop} (pc' tgt : Nat) (hd : decode cc pc = .ok (.if_icmp .gt off, 3)) (hn : pc + 3 = pc') (ht : (pc : Int) + off = (tgt : Int)) (hi : y < x ↔ P) (kt : P → G p l e R s m args below meth c Q D A nL kc ks ws lv tgt st) (kf : ¬ P → G p l e R s m args below meth c Q D A nL kc ks ws lv pc' st) : G p l e R s m args below meth c Q D A nL kc ks ws lv pc (.int y :: .int x :: st) := by
  subst hn
  exact fun H locs ls hP hD hS hl => lv_icmp_gt X.1 X.2.1 hd ht (fun h => kt (hi.mp h) H locs ls hP hD hS hl) (fun h => kf (fun z => h (hi.mpr z)) H locs ls hP hD hS hl)
theorem g_if_gt (X : gX p s m args c D tys A cc nL own Ts) {x : Int32} {off : Int} {P : Prop} (pc' tgt : Nat) (hd : decode cc pc = .ok (.ifCond .gt off, 3)) (hn : pc + 3 = pc') (ht : (pc : Int) + off = (tgt : Int)) (hi : 0 < x ↔ P) (kt : P → G p l e R s m args below meth c Q D A nL kc ks ws lv tgt st) (kf : ¬ P → G p l e R s m args below meth c Q D A nL kc ks ws lv pc' st) : G p l e R s m args below meth c Q D A nL kc ks ws lv pc (.int x :: st) := by
  subst hn
  exact fun H locs ls hP hD hS hl => lv_if_gt X.1 X.2.1 hd ht (fun h => kt (hi.mp h) H locs ls hP hD hS hl) (fun h => kf (fun z => h (hi.mpr z)) H locs ls hP hD hS hl)
theorem g_icmp_le (X : gX p s m args c D tys A cc nL own Ts) {x y : Int32} {off : Int} {P : Prop} (pc' tgt : Nat) (hd : decode cc pc = .ok (.if_icmp .le off, 3)) (hn : pc + 3 = pc') (ht : (pc : Int) + off = (tgt : Int)) (hi : x ≤ y ↔ P) (kt : P → G p l e R s m args below meth c Q D A nL kc ks ws lv tgt st) (kf : ¬ P → G p l e R s m args below meth c Q D A nL kc ks ws lv pc' st) : G p l e R s m args below meth c Q D A nL kc ks ws lv pc (.int y :: .int x :: st) := by
  subst hn
  exact fun H locs ls hP hD hS hl => lv_icmp_le X.1 X.2.1 hd ht (fun h => kt (hi.mp h) H locs ls hP hD hS hl) (fun h => kf (fun z => h (hi.mpr z)) H locs ls hP hD hS hl)
theorem g_if_le (X : gX p s m args c D tys A cc nL own Ts) {x : Int32} {off : Int} {P : Prop} (pc' tgt : Nat) (hd : decode cc pc = .ok (.ifCond .le off, 3)) (hn : pc + 3 = pc') (ht : (pc : Int) + off = (tgt : Int)) (hi : x ≤ 0 ↔ P) (kt : P → G p l e R s m args below meth c Q D A nL kc ks ws lv tgt st) (kf : ¬ P → G p l e R s m args below meth c Q D A nL kc ks ws lv pc' st) : G p l e R s m args below meth c Q D A nL kc ks ws lv pc (.int x :: st) := by
  subst hn
  exact fun H locs ls hP hD hS hl => lv_if_le X.1 X.2.1 hd ht (fun h => kt (hi.mp h) H locs ls hP hD hS hl) (fun h => kf (fun z => h (hi.mpr z)) H locs ls hP hD hS hl)
/-- switches -/
theorem g_tableIn (X : gX p s m args c D tys A cc nL own Ts) {dflt lo hi : Int} {offs : Array Int} {len : Nat} {x : Int32} {off : Int} (tgt : Nat) (hd : decode cc pc = .ok (.tableswitch dflt lo hi offs, len)) (z : Int) (hz : x.toInt = z) (h1 : ¬ z < lo) (h2 : ¬ hi < z) (ho : offs[(z - lo).toNat]? = some off) (ht : (pc : Int) + off = (tgt : Int)) (k : G p l e R s m args below meth c Q D A nL kc ks ws lv tgt st) : G p l e R s m args below meth c Q D A nL kc ks ws lv pc (.int x :: st) := by
  subst hz
  exact fun H locs ls hP hD hS hl => lv_tableIn X.1 X.2.1 hd h1 h2 ho ht (k H locs ls hP hD hS hl)
theorem g_tableOut (X : gX p s m args c D tys A cc nL own Ts) {dflt lo hi : Int} {offs : Array Int} {len : Nat} {x : Int32} (tgt : Nat) (hd : decode cc pc = .ok (.tableswitch dflt lo hi offs, len)) (h : x.toInt < lo ∨ hi < x.toInt) (ht : (pc : Int) + dflt = (tgt : Int)) (k : G p l e R s m args below meth c Q D A nL kc ks ws lv tgt st) : G p l e R s m args below meth c Q D A nL kc ks ws lv pc (.int x :: st) :=
  fun H locs ls hP hD hS hl => lv_tableOut X.1 X.2.1 hd h ht (k H locs ls hP hD hS hl)
/-- fields -/
theorem g_get (X : gX p s m args c D tys A cc nL own Ts) {C : String} {T : u_T} {N ci index a : Nat} (hin : ∀ w ∈ u_ws C T N, w ∈ Ts) (q0 : Nat) (k0 pc' : Nat) {fs : List Value} (he : ws[q0]? = some (a, .inr (ci, fs))) (hc : vwCl[ci]? = some (C, T, N)) (hk : k0 < N) (hl0 : Cond.fieldLink own index (T k0).1 (T k0).2.1 (T k0).2.2.1 ∈ Ts) {v : Value} (hv : fs[k0]? = some v) (hd : decode cc pc = .ok (.getfield index, 3)) (hn : pc + 3 = pc') (k : G p l e R s m args below meth c Q D A nL kc ks ws lv pc' (v :: st)) : G p l e R s m args below meth c Q D A nL kc ks ws lv pc (.ref a :: st) := by
  subst hn
  exact fun H locs ls hP hD hS hl => va_get (D := D) X.1 X.2.1 X.hts hin X.2.2.2.1 X.K hP q0 he hc k0 hk (X.hts _ hl0) (fun _ h => h) hv hd (k H locs ls hP hD hS hl)
theorem g_put (X : gX p s m args c D tys A cc nL own Ts) {C : String} {T : u_T} {N ci index a : Nat} (hin : ∀ w ∈ u_ws C T N, w ∈ Ts) (ty0 : Nat → FieldType) (hty : ∀ k, k < N → parseFieldDescriptor (T k).2.2.1 = some (ty0 k)) (hnm : ∀ a, a < N → ∀ b, b < N → a ≠ b → (T a).2.1 ≠ (T b).2.1) (q0 : Nat) (k0 pc' : Nat) {fs : List Value} (he : ws[q0]? = some (a, .inr (ci, fs))) (hc : vwCl[ci]? = some (C, T, N)) (hk : k0 < N) (hl0 : Cond.fieldLink own index (T k0).1 (T k0).2.1 (T k0).2.2.1 ∈ Ts) (hfin : (T k0).2.2.2 = false) {ty : FieldType} {v : Value} (hpd : parseFieldDescriptor (T k0).2.2.1 = some ty) (hnv : narrow ty v = v) (hfit : fits ty v = true) (hlen : k0 < fs.length) (hd : decode cc pc = .ok (.putfield index, 3)) (hn : pc + 3 = pc') (hw : ws.set q0 (a, .inr (ci, fs.set k0 v)) = ws') (k : G p l e R s m args below meth c Q D A nL kc ks ws' lv pc' st) : G p l e R s m args below meth c Q D A nL kc ks ws lv pc (v :: .ref a :: st) := by
  subst hn
  subst hw
  exact fun H locs ls hP hD hS hl => va_put (D := D) X.1 X.2.1 X.hts hin ty0 hty hnm X.2.2.2.1 X.K hP hD hS q0 he hc k0 hk (X.hts _ hl0) (fun _ h => h) hfin hpd hnv hfit hlen hd (fun H locs hP hD hS => k H locs ls hP hD hS hl)
theorem g_putF (X : gX p s m args c D tys A cc nL own Ts) (hin2 : meth.name = "<init>") {C : String} {T : u_T} {N ci index a : Nat} (hin : ∀ w ∈ u_ws C T N, w ∈ Ts) (ty0 : Nat → FieldType) (hty : ∀ k, k < N → parseFieldDescriptor (T k).2.2.1 = some (ty0 k)) (hnm : ∀ a, a < N → ∀ b, b < N → a ≠ b → (T a).2.1 ≠ (T b).2.1) (q0 : Nat) (k0 pc' : Nat) {fs : List Value} (he : ws[q0]? = some (a, .inr (ci, fs))) (hc : vwCl[ci]? = some (C, T, N)) (hk : k0 < N) (hl0 : Cond.fieldLink own index (T k0).1 (T k0).2.1 (T k0).2.2.1 ∈ Ts) (hfin : (T k0).2.2.2 = true) (hdecl : (T k0).1 = own) {ty : FieldType} {v : Value} (hpd : parseFieldDescriptor (T k0).2.2.1 = some ty) (hnv : narrow ty v = v) (hfit : fits ty v = true) (hlen : k0 < fs.length) (hd : decode cc pc = .ok (.putfield index, 3)) (hn : pc + 3 = pc') (hw : ws.set q0 (a, .inr (ci, fs.set k0 v)) = ws') (k : G p l e R s m args below meth c Q D A nL kc ks ws' lv pc' st) : G p l e R s m args below meth c Q D A nL kc ks ws lv pc (v :: .ref a :: st) := by
  subst hn
  subst hw
  exact fun H locs ls hP hD hS hl => va_putF (D := D) X.1 X.2.1 X.hts hin ty0 hty hnm X.2.2.2.1 X.K hP hD hS q0 he hc k0 hk (X.hts _ hl0) (fun _ h => h) hfin hin2 hdecl hpd hnv hfit hlen hd (fun H locs hP hD hS => k H locs ls hP hD hS hl)
/-- arrays: the index is a number -/
theorem nIc {n : Nat} (h : n < 2 ^ 31) : (nI n).toNatClampNeg = n := nI_clamp h
theorem g_iald (X : gX p s m args c D tys A cc nL own Ts) {a n : Nat} {cA : ClassId} {f : Nat → Int32} (q0 t0 : Nat) (j : Nat) (v : Int32) (pc' : Nat) (ha : ws[q0]? = some (a, .inl (cA, n, .inl f))) (ht : tys[t0]? = some (cA, .int)) (hj : j < n) (hn31 : n < 2 ^ 31) (hv : f j = v) (hd : decode cc pc = .ok (.iaload, 1)) (hn : pc + 1 = pc') (k : G p l e R s m args below meth c Q D A nL kc ks ws lv pc' (.int v :: st)) : G p l e R s m args below meth c Q D A nL kc ks ws lv pc (.int (nI j) :: .ref a :: st) := by
  subst hn
  subst hv
  have hc : (nI j).toNatClampNeg = j := nI_clamp (Nat.lt_trans hj hn31)
  exact fun H locs ls hP hD hS hl => va_iald (D := D) X.1 X.2.1 X.K hP q0 t0 ha ht (vp_in_nI hj hn31) hd (by rw [hc]; exact k H locs ls hP hD hS hl)
theorem g_zald (X : gX p s m args c D tys A cc nL own Ts) {a n : Nat} {cA : ClassId} {f : Nat → Int32} (q0 t0 : Nat) (j : Nat) (v : Int32) (pc' : Nat) (ha : ws[q0]? = some (a, .inl (cA, n, .inl f))) (ht : tys[t0]? = some (cA, .boolean)) (hj : j < n) (hn31 : n < 2 ^ 31) (hv : f j = v) (hd : decode cc pc = .ok (.baload, 1)) (hn : pc + 1 = pc') (k : G p l e R s m args below meth c Q D A nL kc ks ws lv pc' (.int v :: st)) : G p l e R s m args below meth c Q D A nL kc ks ws lv pc (.int (nI j) :: .ref a :: st) := by
  subst hn
  subst hv
  have hc : (nI j).toNatClampNeg = j := nI_clamp (Nat.lt_trans hj hn31)
  exact fun H locs ls hP hD hS hl => va_zald (D := D) X.1 X.2.1 X.K hP q0 t0 ha ht (vp_in_nI hj hn31) hd (by rw [hc]; exact k H locs ls hP hD hS hl)
theorem g_lald (X : gX p s m args c D tys A cc nL own Ts) {a n : Nat} {cA : ClassId} {f : Nat → Int64} (q0 t0 : Nat) (j : Nat) (v : Int64) (pc' : Nat) (ha : ws[q0]? = some (a, .inl (cA, n, .inr (.inl f)))) (ht : tys[t0]? = some (cA, .long)) (hj : j < n) (hn31 : n < 2 ^ 31) (hv : f j = v) (hd : decode cc pc = .ok (.laload, 1)) (hn : pc + 1 = pc') (k : G p l e R s m args below meth c Q D A nL kc ks ws lv pc' (.long v :: st)) : G p l e R s m args below meth c Q D A nL kc ks ws lv pc (.int (nI j) :: .ref a :: st) := by
  subst hn
  subst hv
  have hc : (nI j).toNatClampNeg = j := nI_clamp (Nat.lt_trans hj hn31)
  exact fun H locs ls hP hD hS hl => va_lald (D := D) X.1 X.2.1 X.K hP q0 t0 ha ht (vp_in_nI hj hn31) hd (by rw [hc]; exact k H locs ls hP hD hS hl)
theorem g_iast (X : gX p s m args c D tys A cc nL own Ts) {a n : Nat} {cA : ClassId} {f : Nat → Int32} (q0 t0 : Nat) (j : Nat) (f' : Nat → Int32) {x : Int32} (pc' : Nat) (ha : ws[q0]? = some (a, .inl (cA, n, .inl f))) (ht : tys[t0]? = some (cA, .int)) (hj : j < n) (hn31 : n < 2 ^ 31) (hf : upd f j x = f') (hd : decode cc pc = .ok (.iastore, 1)) (hn : pc + 1 = pc') (hw : ws.set q0 (a, .inl (cA, n, .inl f')) = ws') (k : G p l e R s m args below meth c Q D A nL kc ks ws' lv pc' st) : G p l e R s m args below meth c Q D A nL kc ks ws lv pc (.int x :: .int (nI j) :: .ref a :: st) := by
  subst hn
  subst hf
  subst hw
  have hc : (nI j).toNatClampNeg = j := nI_clamp (Nat.lt_trans hj hn31)
  exact fun H locs ls hP hD hS hl => va_iast (D := D) X.1 X.2.1 X.K hP hD hS q0 t0 ha ht (vp_in_nI hj hn31) hd (by rw [hc]; exact fun H locs hP hD hS => k H locs ls hP hD hS hl)
theorem g_zast (X : gX p s m args c D tys A cc nL own Ts) {a n : Nat} {cA : ClassId} {f : Nat → Int32} (q0 t0 : Nat) (j : Nat) (f' : Nat → Int32) {x : Int32} (pc' : Nat) (ha : ws[q0]? = some (a, .inl (cA, n, .inl f))) (ht : tys[t0]? = some (cA, .boolean)) (hj : j < n) (hn31 : n < 2 ^ 31) (hf : upd f j (vp_nar .boolean x) = f') (hd : decode cc pc = .ok (.bastore, 1)) (hn : pc + 1 = pc') (hw : ws.set q0 (a, .inl (cA, n, .inl f')) = ws') (k : G p l e R s m args below meth c Q D A nL kc ks ws' lv pc' st) : G p l e R s m args below meth c Q D A nL kc ks ws lv pc (.int x :: .int (nI j) :: .ref a :: st) := by
  subst hn
  subst hf
  subst hw
  have hc : (nI j).toNatClampNeg = j := nI_clamp (Nat.lt_trans hj hn31)
  exact fun H locs ls hP hD hS hl => va_zast (D := D) X.1 X.2.1 X.K hP hD hS q0 t0 ha ht (vp_in_nI hj hn31) hd (by rw [hc]; exact fun H locs hP hD hS => k H locs ls hP hD hS hl)
theorem g_last (X : gX p s m args c D tys A cc nL own Ts) {a n : Nat} {cA : ClassId} {f : Nat → Int64} (q0 t0 : Nat) (j : Nat) (f' : Nat → Int64) {x : Int64} (pc' : Nat) (ha : ws[q0]? = some (a, .inl (cA, n, .inr (.inl f)))) (ht : tys[t0]? = some (cA, .long)) (hj : j < n) (hn31 : n < 2 ^ 31) (hf : vp_updL f j x = f') (hd : decode cc pc = .ok (.lastore, 1)) (hn : pc + 1 = pc') (hw : ws.set q0 (a, .inl (cA, n, .inr (.inl f'))) = ws') (k : G p l e R s m args below meth c Q D A nL kc ks ws' lv pc' st) : G p l e R s m args below meth c Q D A nL kc ks ws lv pc (.long x :: .int (nI j) :: .ref a :: st) := by
  subst hn
  subst hf
  subst hw
  have hc : (nI j).toNatClampNeg = j := nI_clamp (Nat.lt_trans hj hn31)
  exact fun H locs ls hP hD hS hl => va_last (D := D) X.1 X.2.1 X.K hP hD hS q0 t0 ha ht (vp_in_nI hj hn31) hd (by rw [hc]; exact fun H locs hP hD hS => k H locs ls hP hD hS hl)
/-- Math.max, Math.min -/
theorem g_max (X : gX p s m args c D tys A cc nL own Ts) {index : Nat} {x y : Int32} (z : Int32) (pc' : Nat) (h1 : Cond.methodLink own index Lib.Math.max.name ∈ Ts) (h2 : Cond.static Lib.Math.max.name ∈ Ts) (h3 : Cond.initialized "java/lang/Math" ∈ Ts) (h4 : Cond.code Lib.Math.max.name Lib.Math.max.code 2 (some .int) ∈ Ts) (hR : 1 ≤ R.frames) (hL : (st.map fun v => v.category).sum + 13 ≤ R.locals) (hkc : kc ≤ R.cells) (hks : ks ≤ R.slots) (hz : (if x < y then y else x) = z) (hd : decode cc pc = .ok (.invokestatic index, 3)) (hn : pc + 3 = pc') (k : G p l e R s m args below meth c Q D A nL kc ks ws lv pc' (.int z :: st)) : G p l e R s m args below meth c Q D A nL kc ks ws lv pc (.int y :: .int x :: st) := by
  subst hn
  subst hz
  exact fun H locs ls hP hD hS hl => va_mmax X.1 X.2.1 (X.2.2.1.trans hl.1.symm) X.2.2.2.1 (X.hts _ h1) (X.hts _ h2) (X.hts _ h3) (X.hts _ h4) hR hL hkc hks hd (k H locs ls hP hD hS hl)
theorem g_min (X : gX p s m args c D tys A cc nL own Ts) {index : Nat} {x y : Int32} (z : Int32) (pc' : Nat) (h1 : Cond.methodLink own index Lib.Math.min.name ∈ Ts) (h2 : Cond.static Lib.Math.min.name ∈ Ts) (h3 : Cond.initialized "java/lang/Math" ∈ Ts) (h4 : Cond.code Lib.Math.min.name Lib.Math.min.code 2 (some .int) ∈ Ts) (hR : 1 ≤ R.frames) (hL : (st.map fun v => v.category).sum + 13 ≤ R.locals) (hkc : kc ≤ R.cells) (hks : ks ≤ R.slots) (hz : (if y < x then y else x) = z) (hd : decode cc pc = .ok (.invokestatic index, 3)) (hn : pc + 3 = pc') (k : G p l e R s m args below meth c Q D A nL kc ks ws lv pc' (.int z :: st)) : G p l e R s m args below meth c Q D A nL kc ks ws lv pc (.int y :: .int x :: st) := by
  subst hn
  subst hz
  exact fun H locs ls hP hD hS hl => va_mmin X.1 X.2.1 (X.2.2.1.trans hl.1.symm) X.2.2.2.1 (X.hts _ h1) (X.hts _ h2) (X.hts _ h3) (X.hts _ h4) hR hL hkc hks hd (k H locs ls hP hD hS hl)
/-- a part of the cells, in any order -/
theorem g_ws (is : List Nat) (hn : va_nd is = true) (h : is.map (fun i => ws[i]?) = ws'.map some) (k : G p l e R s m args below meth c Q D A nL kc ks ws' lv pc st) : G p l e R s m args below meth c Q D A nL kc ks ws lv pc st :=
  fun H locs ls hP hD hS hl => k H locs ls (hP.sub is (fm_map is ws' h)) (hD.sub is hn h) hS hl
/-- the contents of an array count as far as it goes -/
theorem arrV_congr (cA : ClassId) (n : Nat) (f g : Nat → Value) (h : ∀ j, j < n → f j = g j) : arrV cA n f = arrV cA n g := by
  have h1 : (fun j : Fin n => f j.val) = (fun j : Fin n => g j.val) := funext fun j => h j.val j.isLt
  simp only [arrV, h1]
theorem g_arr {a n : Nat} {cA : ClassId} {f : Nat → Int32} (q0 : Nat) (g : Nat → Int32) (ha : ws[q0]? = some (a, .inl (cA, n, .inl f))) (hfg : ∀ j, j < n → f j = g j) (hw : ws.set q0 (a, .inl (cA, n, .inl g)) = ws') (k : G p l e R s m args below meth c Q D A nL kc ks ws' lv pc st) : G p l e R s m args below meth c Q D A nL kc ks ws lv pc st := by
  subst hw
  refine fun H locs ls hP hD hS hl => k H locs ls (hP.set hD ha ?_ (fun _ _ => rfl)) (hD.set ha) hS hl
  have h1 : H[a]? = some (vp_cell cA (n, .inl f)) := hP q0 _ ha
  show H[a]? = some (vp_cell cA (n, .inl g))
  rw [h1, vp_cell_i, vp_cell_i, arrV_congr cA n _ _ (fun j hj => by rw [hfg j hj])]
theorem g_w {kc' ks' : Nat} (h1 : kc ≤ kc') (h2 : ks ≤ ks') (k : G p l e R s m args below meth c Q D A nL kc' ks' ws lv pc st) : G p l e R s m args below meth c Q D A nL kc ks ws lv pc st :=
  fun H locs ls hP hD hS hl => W.widen h1 h2 (k H locs ls hP hD hS hl)
end GL
