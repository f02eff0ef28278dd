/-! ARRAYS OF ARRAYS, NEW CELLS IN FRONT, CELLS BEHIND A PREFIX, AND OTHER ROWS OF THE LAW -/
theorem va_u_int (U : State) (a b : ClassId) (h1 : va_RA U a .int) (h2 : va_RA U b .int) : a = b := Option.some.inj ((va_nm_int h1).symm.trans (va_nm_int h2))
theorem va_u_boolean (U : State) (a b : ClassId) (h1 : va_RA U a .boolean) (h2 : va_RA U b .boolean) : a = b := Option.some.inj ((va_nm_boolean h1).symm.trans (va_nm_boolean h2))
theorem va_u_arr (U : State) (a b : ClassId) (h1 : va_RA U a (.array .int)) (h2 : va_RA U b (.array .int)) : a = b := Option.some.inj (h1.symm.trans h2)
theorem front_q {ws : va_W} {x : Nat × va_E} : (ws ++ [x]).Perm ((x :: ws) ++ []) := by rw [List.append_nil]; exact front_p
theorem front_q2 {ws L : va_W} {x : Nat × va_E} : ((ws ++ [x]) ++ L).Perm ((x :: (ws ++ L)) ++ []) := by
  rw [List.append_nil]
  exact List.Perm.append_right L front_p
/-- rows: n cells, told by a function -/
def rwL (n : Nat) (g : Nat → Nat × va_E) : va_W := (List.range n).map g
theorem rwL_len {n : Nat} {g : Nat → Nat × va_E} : (rwL n g).length = n := by unfold rwL; rw [List.length_map, List.length_range]
theorem rwL_at {n k : Nat} {g : Nat → Nat × va_E} (h : k < n) : (rwL n g)[k]? = some (g k) := by
  unfold rwL
  rw [List.getElem?_map, List.getElem?_range h]
  rfl
theorem rwL_congr {n : Nat} {f g : Nat → Nat × va_E} (h : ∀ i, i < n → f i = g i) : rwL n f = rwL n g := by
  unfold rwL
  exact List.map_congr_left (fun i hi => h i (List.mem_range.mp hi))
theorem rwL_s {n : Nat} {g : Nat → Nat × va_E} : rwL (n + 1) g = rwL n g ++ [g n] := by
  unfold rwL
  rw [List.range_succ, List.map_append]
  rfl
theorem rwL_0 {g : Nat → Nat × va_E} : rwL 0 g = [] := rfl
theorem rwL_set {n k : Nat} {f g : Nat → Nat × va_E} {x : Nat × va_E} (hk : k < n) (hx : g k = x) (ho : ∀ i, i < n → i ≠ k → f i = g i) : (rwL n f).set k x = rwL n g := by
  apply List.ext_getElem?
  intro i
  by_cases hi : i = k
  · subst hi
    rw [List.getElem?_set_self (by rw [rwL_len]; exact hk), rwL_at hk, hx]
  · rw [List.getElem?_set_ne (Ne.symm hi)]
    by_cases hin : i < n
    · rw [rwL_at hin, rwL_at hin, ho i hin hi]
    · rw [List.getElem?_eq_none (by rw [rwL_len]; omega), List.getElem?_eq_none (by rw [rwL_len]; omega)]
abbrev refs (f : Nat → Option Nat) : (Nat → Int32) ⊕ (Nat → Int64) ⊕ (Nat → UInt32) ⊕ (Nat → UInt64) ⊕ (Nat → Option Nat) := .inr (.inr (.inr (.inr f)))
def orf (n : Nat) (ad : Nat → Nat) : Nat → Option Nat := fun i => if i < n then some (ad i) else none
theorem orf_at {n i : Nat} {ad : Nat → Nat} (h : i < n) : orf n ad i = some (ad i) := if_pos h
section GLA
variable {p : Program} {l : Launch} {e : Env} {R : Room} {s : State} {m : MethodId} {args : Array Value} {below : List Frame} {meth : Method} {c : Code} {Q : State → Prop}
variable {D : va_G} {tys : List (ClassId × FieldType)} {A : Nat → Prop} {cc : ByteArray} {nL kc ks : Nat} {own : String} {Ts : List Cond}
variable {ws ws' T T' : va_W} {lv lv' : List (Nat × Value)} {pc pc' tgt : Nat} {st : List Value}
theorem g_ishr (X : gX p s m args c D tys A cc nL own Ts) {x y : Int32} (pc' : Nat) (hd : decode cc pc = .ok (.ishr, 1)) (hn : pc + 1 = pc') (k : G p l e R s m args below meth c Q D A nL kc ks ws lv pc' (.int (x >>> (y &&& 31)) :: st)) : G p l e R s m args below meth c Q D A nL kc ks ws lv pc (.int y :: .int x :: st) := by
  subst hn
  exact fun H locs ls hP hD hS hl => lv_ishr X.1 X.2.1 hd (k H locs ls hP hD hS hl)
theorem g_ldc (X : gX p s m args c D tys A cc nL own Ts) {index : Nat} (v : Int32) (pc' : Nat) (hm : Cond.constant own index v ∈ Ts) (hd : decode cc pc = .ok (.ldc index, 2)) (hn : pc + 2 = pc') (k : G p l e R s m args below meth c Q D A nL kc ks ws lv pc' (.int v :: st)) : G p l e R s m args below meth c Q D A nL kc ks ws lv pc st := by
  subst hn
  exact fun H locs ls hP hD hS hl => lv_ldc X.1 X.2.1 X.2.2.2.1 (X.hts _ hm) hd (k H locs ls hP hD hS hl)
theorem g_ifnonnull (X : gX p s m args c D tys A cc nL own Ts) {x : Nat} {off : Int} (tgt : Nat) (hd : decode cc pc = .ok (.ifnonnull off, 3)) (ht : (pc : Int) + off = (tgt : Int)) (k : G p l e R s m args below meth c Q D A nL kc ks ws lv tgt st) : G p l e R s m args below meth c Q D A nL kc ks ws lv pc (.ref x :: st) :=
  fun H locs ls hP hD hS hl => lv_ifnonnull X.1 X.2.1 hd ht (k H locs ls hP hD hS hl)
theorem g_dcmp (X : gX p s m args c D tys A cc nL own Ts) {x y : UInt64} {op : CmpOp} (pc' : Nat) (hd : decode cc pc = .ok (.dcmp op, 1)) (hn : pc + 1 = pc') (k : G p l e R s m args below meth c Q D A nL kc ks ws lv pc' (.int (Op.cmpValue (FP.dcmp x y) op) :: st)) : G p l e R s m args below meth c Q D A nL kc ks ws lv pc (.double y :: .double x :: st) := by
  subst hn
  exact fun H locs ls hP hD hS hl => lv_dcmp X.1 X.2.1 hd (k H locs ls hP hD hS hl)
/-- how long an array is -/
theorem g_alen (X : gX p s m args c D tys A cc nL own Ts) {a n : Nat} {cA : ClassId} {ty : FieldType} {x : (Nat → Int32) ⊕ (Nat → Int64) ⊕ (Nat → UInt32) ⊕ (Nat → UInt64) ⊕ (Nat → Option Nat)} (q0 t0 : Nat) (pc' : Nat) (ha : ws[q0]? = some (a, .inl (cA, n, x))) (ht : tys[t0]? = some (cA, ty)) (hd : decode cc pc = .ok (.arraylength, 1)) (hn : pc + 1 = pc') (k : G p l e R s m args below meth c Q D A nL kc ks ws lv pc' (.int (nI n) :: st)) : G p l e R s m args below meth c Q D A nL kc ks ws lv pc (.ref a :: st) := by
  subst hn
  exact fun H locs ls hP hD hS hl => va_alen (D := D) X.1 X.2.1 X.K hP q0 t0 ha ht rfl hd (k H locs ls hP hD hS hl)
theorem g_aald (X : gX p s m args c D tys A cc nL own Ts) {a n : Nat} {cA : ClassId} {ty : FieldType} {f : Nat → Option Nat} (q0 t0 : Nat) (j v pc' : Nat) (ha : ws[q0]? = some (a, .inl (cA, n, refs f))) (ht : tys[t0]? = some (cA, .array ty)) (hj : j < n) (hn31 : n < 2 ^ 31) (hv : f j = some v) (hd : decode cc pc = .ok (.aaload, 1)) (hn : pc + 1 = pc') (k : G p l e R s m args below meth c Q D A nL kc ks ws lv pc' (.ref v :: st)) : G p l e R s m args below meth c Q D A nL kc ks ws lv pc (.int (nI j) :: .ref a :: st) := by
  subst hn
  intro H locs ls hP hD hS hl
  have hc : (nI j).toNatClampNeg = j := nI_clamp (Nat.lt_trans hj hn31)
  have hin : vp_in (nI j) n := vp_in_nI hj hn31
  refine W.aald (v := .ref v) (ty := .array ty) X.1 X.2.1 (hP q0 _ ha) ((X.K.2 t0 _ ht).1 n (fun j => va_rf (f j))) rfl (fun q => by cases q) (by show ¬ (nI j < 0 ∨ (arrV _ _ _).slots.size ≤ _); rw [arrV_size]; exact hin) ?_ rfl rfl hd (k H locs ls hP hD hS hl)
  show (arrV _ _ _).slots[_]? = _
  rw [hc, arrV_read _ _ hj, hv]
  rfl
theorem g_aast (X : gX p s m args c D tys A cc nL own Ts) (hA : va_AOA .int s) {a n v nv : Nat} {cA cB : ClassId} {f : Nat → Option Nat} {g : Nat → Int32} (q0 t0 qk t1 : Nat) (j : Nat) (f' : Nat → Option Nat) (pc' : Nat) (ha : ws[q0]? = some (a, .inl (cA, n, refs f))) (ht : tys[t0]? = some (cA, .array .int)) (hk : ws[qk]? = some (v, .inl (cB, nv, .inl g))) (ht1 : tys[t1]? = some (cB, .int)) (hj : j < n) (hn31 : n < 2 ^ 31) (hf : va_up f j (some v) = f') (hd : decode cc pc = .ok (.aastore, 1)) (hn : pc + 1 = pc') (hw : ws.set q0 (a, .inl (cA, n, refs f')) = ws') (k : G p l e R s m args below meth c Q D A nL kc ks ws' lv pc' st) : G p l e R s m args below meth c Q D A nL kc ks ws lv pc (.ref v :: .int (nI j) :: .ref a :: st) := by
  subst hn
  subst hf
  subst hw
  intro H locs ls hP hD hS hl
  have hc : (nI j).toNatClampNeg = j := nI_clamp (Nat.lt_trans hj hn31)
  have hin : vp_in (nI j) n := vp_in_nI hj hn31
  have h0 : ¬ nI j < 0 := fun q => hin (Or.inl q)
  obtain ⟨comp, cX, kX, e1, -, e3, e4, e5⟩ := arrayOverA_spec (va_AOA.use (A := args) hA)
  have hX : cX = cA := Option.some.inj (e5.symm.trans (X.K.2 t0 _ ht).2)
  have hC : comp = cB := Option.some.inj (e1.symm.trans (va_nm_int (X.K.2 t1 _ ht1).2))
  subst hX
  subst hC
  obtain ⟨-, kv, hkv, -⟩ := (X.K.2 t1 _ ht1).1 nv (fun j => .int (g j))
  refine W.aast (t := .array .int) X.1 X.2.1 (hP q0 _ ha) (fun q h => by cases h) (fun h => by cases h) e3 e4 rfl hkv ⟨h0, by show _ < (arrV _ _ _).slots.size; rw [arrV_size, hc]; exact hj⟩ (hP qk _ hk) (fun q h => by cases h) hkv (Vm.assignable_self _ _) rfl rfl hd fun H1 e z oq => ?_
  refine k H1 _ ls (hP.set hD ha ?_ oq) (hD.set ha) (hS.put z oq (hD.2 q0 _ ha)) hl
  show H1[a]? = some (vp_cell _ _)
  rw [e]
  rw [vp_cell_q, vp_cell_q, arrV_store, hc]
  congr 2
  funext q
  by_cases hq : q = j
  · subst hq
    simp [updV, va_up, va_rf]
  · simp [updV, va_up, hq]
/-- a new array of numbers, in front of the world -/
theorem g_newf (X : gX p s m args c D tys A cc nL own Ts) {atype : ArrayType} {ty : FieldType} {cA : ClassId} (t0 N' : Nat) (a0 : vp_A) (pc' : Nat) (hty : newarray.typeOf atype = ty) (ht : tys[t0]? = some (cA, ty)) (hu : ∀ (U : State) (a b : ClassId), va_RA U a ty → va_RA U b ty → a = b) (harr : Cond.arrayClass ty ∈ Ts) (ha : ∀ cA : ClassId, vp_cell cA a0 = arrV cA N' (fun _ => defaultValue ty)) (hN : N' < 2 ^ 31) (hbytes : N' * componentBytes ty ≤ 536870912) (hc : kc + 1 ≤ R.cells) (hs : ks + N' ≤ R.slots) (hd : decode cc pc = .ok (.newarray atype, 2)) (hn : pc + 2 = pc') (k : ∀ q, G p l e R s m args below meth c Q D A nL (kc + 1) (ks + N') ((q, .inl (cA, a0)) :: ws) lv pc' (.ref q :: st)) : G p l e R s m args below meth c Q D A nL kc ks ws lv pc (.int (nI N') :: st) := by
  subst hn
  intro H locs ls hP hD hS hl
  refine va_newa X.1 X.2.1 (by rw [hty]; exact X.hts _ harr) hty X.K hP hD hS X.hA ha (nI_pos hN) (nI_clamp hN) hbytes hc hs hd fun q cB H1 hK1 hP1 hD1 hS1 => ?_
  have e1 : cB = cA := hu s cB cA (hK1.2 tys.length (cB, ty) (by simp)).2 (X.K.2 t0 _ ht).2
  subst e1
  exact k q H1 locs ls (hP1.perm front_q) (hD1.perm front_q) hS1 hl
/-- a new object, in front of the world -/
theorem g_newo (X : gX p s m args c D tys A cc nL own Ts) {C : String} {T : u_T} {N ci index : Nat} {fs : List Value} (pc' : Nat) (hin : ∀ w ∈ u_ws C T N, w ∈ Ts) (ty0 : Nat → FieldType) (hty : ∀ k, k < N → parseFieldDescriptor (T k).2.2.1 = some (ty0 k)) (hcl : Cond.classLink own index C ∈ Ts) (hinst : Cond.instantiable C N ∈ Ts) (hini : Cond.initialized C ∈ Ts) (hc : vwCl[ci]? = some (C, T, N)) (hfs : ∀ j, j < N → defaultValue (ty0 j) = vp_V fs j) (hcells : kc + 1 ≤ R.cells) (hslots : ks + N ≤ R.slots) (hd : decode cc pc = .ok (.new index, 3)) (hn : pc + 3 = pc') (k : ∀ q, G p l e R s m args below meth c Q D A nL (kc + 1) (ks + N) ((q, .inr (ci, fs)) :: ws) lv pc' (.ref q :: st)) : G p l e R s m args below meth c Q D A nL kc ks ws lv pc st := by
  subst hn
  intro H locs ls hP hD hS hl
  refine va_new X.1 X.2.1 X.hts hin ty0 hty X.2.2.2.1 (X.hts _ hcl) (X.hts _ hinst) (X.hts _ hini) X.K hP hD hS X.hA hc hfs hcells hslots hd fun q H1 hP1 hD1 hS1 => ?_
  exact k q H1 locs ls (hP1.perm front_q) (hD1.perm front_q) hS1 hl
/-- a new array of arrays, its places null, in front of the world -/
theorem g_anew (X : gX p s m args c D tys A cc nL own Ts) (hA : va_AOA .int s) {cA : ClassId} {index : Nat} (t0 N' : Nat) (pc' : Nat) (ht : tys[t0]? = some (cA, .array .int)) (hcl : Cond.classLink own index "[I" ∈ Ts) (hN : N' < 2 ^ 27) (hcells : kc + 1 ≤ R.cells) (hslots : ks + N' ≤ R.slots) (hd : decode cc pc = .ok (.anewarray index, 3)) (hn : pc + 3 = pc') (k : ∀ q, G p l e R s m args below meth c Q D A nL (kc + 1) (ks + N') ((q, .inl (cA, N', refs (fun _ => none))) :: ws) lv pc' (.ref q :: st)) : G p l e R s m args below meth c Q D A nL kc ks ws lv pc (.int (nI N') :: st) := by
  subst hn
  intro H locs ls hP hD hS hl
  have hN31 : N' < 2 ^ 31 := by omega
  have hc : (nI N').toNatClampNeg = N' := nI_clamp hN31
  refine W.anewA (t := .int) X.1 X.2.1 X.2.2.2.1 (X.hts _ hcl) (va_AOA.use hA) rfl hd rfl (nI_pos hN31) (by rw [hc]; omega) hcells (by rw [hc]; exact hslots) fun cX kX comp f1 f2 f3 f4 => ?_
  rw [hc]
  have e1 : cX = cA := Option.some.inj (f1.symm.trans (X.K.2 t0 _ ht).2)
  subst e1
  generalize hH1 : H.push ({ cls := cX, slots := Array.replicate N' .null, vm := .none } : Cell) = H1
  have z1 : H1.size = H.size + 1 := by rw [← hH1, Array.size_push]
  have e1 : H1[H.size]? = some (arrV cX N' (fun _ => .null)) := by rw [← hH1, Array.getElem?_push_size, ← arrV_new]
  have o1 : ∀ q : Nat, q < H.size → H1[q]? = H[q]? := fun q hq => by rw [← hH1, Array.getElem?_push, if_neg (Nat.ne_of_lt hq)]
  have hk : ∀ (k : Nat) (x : Nat × va_E), ws[k]? = some x → H1[x.1]? = H[x.1]? := fun k x hx => o1 x.1 ((hP k x hx).lt)
  have hP1 : va_P D vwCl (ws ++ [(H.size, .inl (cX, N', refs (fun _ => none)))]) H1 := (hP.kept hk).app (fun k x hx => by
    have hz : k < 1 := (List.getElem?_eq_some_iff.mp hx).1
    rw [show k = 0 by omega] at hx
    cases hx
    show H1[H.size]? = some (vp_cell _ _)
    rw [vp_cell_q]
    exact e1)
  have hD1 : va_D A (ws ++ [(H.size, .inl (cX, N', refs (fun _ => none)))]) := hD.push hP rfl (X.hA _ hS.1)
  exact k H.size H1 locs ls (hP1.perm front_q) (hD1.perm front_q) ⟨Nat.le_trans hS.1 (by omega), fun x h1 h2 => (o1 x (Nat.lt_of_lt_of_le h1 hS.1)).trans (hS.2.1 x h1 h2), hS.2.2⟩ hl
theorem pl_rwL {N' : Nat} {r : Nat → Nat} {f : Nat → va_E} {e : va_E} : va_pl ([] ++ (List.range N').map r) (mr_up f ((List.range N').map r) e) = rwL N' (fun i => (r i, e)) := by
  rw [List.nil_append]
  unfold va_pl rwL
  rw [List.map_map]
  apply List.map_congr_left
  intro i hi
  show (r i, mr_up f _ e (r i)) = (r i, e)
  rw [mr_up_in (List.mem_map.mpr ⟨i, hi, rfl⟩)]
/-- new int[N][K] -/
theorem g_mna (X : gX p s m args c D tys A cc nL own Ts) (hA : va_AOA .int s) {cA cB : ClassId} {index : Nat} (t0 t1 N' K' : Nat) (pc' : Nat) (ht : tys[t0]? = some (cA, .array .int)) (ht1 : tys[t1]? = some (cB, .int)) (hcl : Cond.classLink own index "[[I" ∈ Ts) (harr : Cond.arrayClass .int ∈ Ts) (hN : N' < 2 ^ 20) (hK : K' < 2 ^ 20) (hcells : kc + (1 + N') ≤ R.cells) (hslots : ks + (N' + N' * K') ≤ R.slots) (hd : decode cc pc = .ok (.multianewarray index 2, 4)) (hn : pc + 4 = pc')
    (k : ∀ (q : Nat) (r : Nat → Nat), G p l e R s m args below meth c Q D A nL (kc + 1 + N') (ks + N' + N' * K') ((q, .inl (cA, N', refs (orf N' r))) :: (ws ++ rwL N' (fun i => (r i, .inl (cB, K', .inl (fun _ => 0)))))) lv pc' (.ref q :: st)) : G p l e R s m args below meth c Q D A nL kc ks ws lv pc (.int (nI K') :: .int (nI N') :: st) := by
  subst hn
  intro H locs ls hP hD hS hl
  have hN31 : N' < 2 ^ 31 := by omega
  have hK31 : K' < 2 ^ 31 := by omega
  have hP0 : va_P D vwCl (ws ++ va_pl [] (fun _ => .inr (0, []))) H := by
    show va_P D vwCl (ws ++ []) H
    rw [List.append_nil]; exact hP
  have hD0 : va_D A (ws ++ va_pl [] (fun _ => .inr (0, []))) := by
    show va_D A (ws ++ [])
    rw [List.append_nil]; exact hD
  refine va_mna (ty := .int) (cy := cB) (z := (K', .inl (fun _ => 0))) X.1 X.2.1 X.2.2.2.1 (X.hts _ hcl) hA (X.hts _ harr) (va_nm_int (X.K.2 t1 _ ht1).2) X.K hP0 hD0 hS X.hA (nI_pos hN31) (nI_pos hK31) (nI_clamp hN31) (nI_clamp hK31) (by omega) (by show K' * 4 ≤ _; omega) (by omega) rfl rfl hcells hslots (fun cc => by rw [vp_cell_i]; exact arrV_new cc K' _) hd fun q r cX H1 hinj hnl hK1 hP1 hD1 hS1 => ?_
  have e1 : cX = cA := va_u_arr s cX cA (hK1.2 tys.length (cX, .array .int) (by simp)).2 (X.K.2 t0 _ ht).2
  subst e1
  rw [pl_rwL] at hP1 hD1
  exact k q r H1 locs ls (hP1.perm front_q2) (hD1.perm front_q2) hS1 hl
/-! a cell behind a prefix of d cells: place k of the tail T -/
theorem drop_at {ws T : va_W} {d k : Nat} {x : Nat × va_E} (hT : ws.drop d = T) (h : T[k]? = some x) : ws[d + k]? = some x := by
  rw [← h, ← hT, List.getElem?_drop]
theorem drop_set {ws T T' ws' : va_W} {d k : Nat} {x : Nat × va_E} (hT : ws.drop d = T) (hd : d ≤ ws.length) (hs : T.set k x = T') (hw : ws.take d ++ T' = ws') : ws.set (d + k) x = ws' := by
  rw [← hw, ← hs, ← hT]
  apply List.ext_getElem?
  intro i
  by_cases hi : i < d
  · rw [List.getElem?_set_ne (by omega), List.getElem?_append_left (by rw [List.length_take]; omega), List.getElem?_take_of_lt hi]
  · rw [List.getElem?_append_right (by rw [List.length_take]; omega), List.length_take, Nat.min_eq_left hd]
    by_cases hk : i = d + k
    · subst hk
      rw [show d + k - d = k by omega]
      by_cases hl : d + k < ws.length
      · rw [List.getElem?_set_self hl, List.getElem?_set_self (by rw [List.length_drop]; omega)]
      · rw [List.getElem?_eq_none (by rw [List.length_set]; omega), List.getElem?_eq_none (by rw [List.length_set, List.length_drop]; omega)]
    · rw [List.getElem?_set_ne (Ne.symm hk), List.getElem?_set_ne (by omega), List.getElem?_drop, show d + (i - d) = i by omega]
theorem g_ialdT (X : gX p s m args c D tys A cc nL own Ts) {a n : Nat} {cA : ClassId} {f : Nat → Int32} (d k0 t0 : Nat) (T : va_W) (j : Nat) (v : Int32) (pc' : Nat) (hT : ws.drop d = T) (ha : T[k0]? = some (a, .inl (cA, n, .inl f))) (ht : tys[t0]? = some (cA, .int)) (hj : j < n) (hn31 : n < 2 ^ 31) (hv : f j = v) (hd : decode cc pc = .ok (.iaload, 1)) (hn : pc + 1 = pc') (k : G p l e R s m args below meth c Q D A nL kc ks ws lv pc' (.int v :: st)) : G p l e R s m args below meth c Q D A nL kc ks ws lv pc (.int (nI j) :: .ref a :: st) :=
  g_iald X (d + k0) t0 j v pc' (drop_at hT ha) ht hj hn31 hv hd hn k
theorem g_alenT (X : gX p s m args c D tys A cc nL own Ts) {a n : Nat} {cA : ClassId} {ty : FieldType} {x : (Nat → Int32) ⊕ (Nat → Int64) ⊕ (Nat → UInt32) ⊕ (Nat → UInt64) ⊕ (Nat → Option Nat)} (d k0 t0 : Nat) (T : va_W) (pc' : Nat) (hT : ws.drop d = T) (ha : T[k0]? = some (a, .inl (cA, n, x))) (ht : tys[t0]? = some (cA, ty)) (hd : decode cc pc = .ok (.arraylength, 1)) (hn : pc + 1 = pc') (k : G p l e R s m args below meth c Q D A nL kc ks ws lv pc' (.int (nI n) :: st)) : G p l e R s m args below meth c Q D A nL kc ks ws lv pc (.ref a :: st) :=
  g_alen X (d + k0) t0 pc' (drop_at hT ha) ht hd hn k
theorem g_iastT (X : gX p s m args c D tys A cc nL own Ts) {a n : Nat} {cA : ClassId} {f : Nat → Int32} (d k0 t0 : Nat) (T T' : va_W) (j : Nat) (f' : Nat → Int32) {x : Int32} (pc' : Nat) (hT : ws.drop d = T) (hdl : d ≤ ws.length) (ha : T[k0]? = some (a, .inl (cA, n, .inl f))) (ht : tys[t0]? = some (cA, .int)) (hj : j < n) (hn31 : n < 2 ^ 31) (hf : upd f j x = f') (hs : T.set k0 (a, .inl (cA, n, .inl f')) = T') (hd : decode cc pc = .ok (.iastore, 1)) (hn : pc + 1 = pc') (hw : ws.take d ++ T' = ws') (k : G p l e R s m args below meth c Q D A nL kc ks ws' lv pc' st) : G p l e R s m args below meth c Q D A nL kc ks ws lv pc (.int x :: .int (nI j) :: .ref a :: st) :=
  g_iast X (d + k0) t0 j f' pc' (drop_at hT ha) ht hj hn31 hf hd hn (drop_set hT hdl hs hw) k
/-- a walk along another world that is the same -/
theorem g_kk {kc' ks' : Nat} (h1 : kc ≤ kc') (h2 : ks ≤ ks') (k : G p l e R s m args below meth c Q D A nL kc' ks' ws lv pc st) : G p l e R s m args below meth c Q D A nL kc ks ws lv pc st := g_w h1 h2 k
end GLA
