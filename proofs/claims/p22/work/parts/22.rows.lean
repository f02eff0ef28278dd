/-! ROWS FOR THE LAW'S OWN CLASS: worlds in any order, arrays of arrays, contracts over facts, calls at a world's end -/
theorem va_nd_of : ∀ {l : List Nat}, l.Nodup → va_nd l = true
  | [], _ => rfl
  | a :: l, h => by
    rw [List.nodup_cons] at h
    simp only [va_nd, Bool.and_eq_true, decide_eq_true_eq]
    exact ⟨h.1, va_nd_of h.2⟩
theorem nodup_of_va_nd : ∀ {l : List Nat}, va_nd l = true → l.Nodup
  | [], _ => List.nodup_nil
  | a :: l, h => by
    simp only [va_nd, Bool.and_eq_true, decide_eq_true_eq] at h
    rw [List.nodup_cons]
    exact ⟨h.1, nodup_of_va_nd h.2⟩
theorem va_P.mem {D : va_G} {cl : List vw_C} {ws ws' : va_W} {H : Heap} (h : va_P D cl ws H) (hm : ∀ q ∈ ws', q ∈ ws) : va_P D cl ws' H := fun k q hk => by
  obtain ⟨j, hj⟩ := List.getElem?_of_mem (hm q (List.mem_of_getElem? hk))
  exact h j q hj
theorem va_D.nodup {A : Nat → Prop} {ws : va_W} (h : va_D A ws) : (ws.map Prod.fst).Nodup := by
  rw [List.Nodup, List.pairwise_iff_getElem]
  intro i j hi hj hij e
  rw [List.getElem_map, List.getElem_map] at e
  rw [List.length_map] at hi hj
  have := h.1 i j ws[i] ws[j] (List.getElem?_eq_getElem hi) (List.getElem?_eq_getElem hj) e
  omega
theorem va_D.all {A : Nat → Prop} {ws : va_W} (h : va_D A ws) : ∀ q ∈ ws, A q.1 := fun q hq => by
  obtain ⟨j, hj⟩ := List.getElem?_of_mem hq
  exact h.2 j q hj
theorem va_D.of {A : Nat → Prop} {ws : va_W} (hn : (ws.map Prod.fst).Nodup) (hA : ∀ q ∈ ws, A q.1) : va_D A ws := by
  refine ⟨fun i j x y hx hy hxy => ?_, fun k q hk => hA q (List.mem_of_getElem? hk)⟩
  obtain ⟨hi, rfl⟩ := List.getElem?_eq_some_iff.mp hx
  obtain ⟨hj, rfl⟩ := List.getElem?_eq_some_iff.mp hy
  rw [List.Nodup, List.pairwise_iff_getElem] at hn
  rcases Nat.lt_trichotomy i j with h | h | h
  · exact absurd (by rw [List.getElem_map, List.getElem_map]; exact hxy) (hn i j (by rw [List.length_map]; exact hi) (by rw [List.length_map]; exact hj) h)
  · exact h
  · exact absurd (by rw [List.getElem_map, List.getElem_map]; exact hxy.symm) (hn j i (by rw [List.length_map]; exact hj) (by rw [List.length_map]; exact hi) h)
theorem va_D.perm {A : Nat → Prop} {ws ws' dr : va_W} (h : va_D A ws) (hp : ws.Perm (ws' ++ dr)) : va_D A ws' := by
  have h2 := ((hp.map Prod.fst).nodup_iff).mp h.nodup
  rw [List.map_append] at h2
  exact va_D.of (List.nodup_append.mp h2).1 (fun q hq => h.all q (hp.mem_iff.mpr (List.mem_append_left _ hq)))
theorem va_P.perm {D : va_G} {cl : List vw_C} {ws ws' dr : va_W} {H : Heap} (h : va_P D cl ws H) (hp : ws.Perm (ws' ++ dr)) : va_P D cl ws' H := h.mem (fun q hq => hp.mem_iff.mpr (List.mem_append_left _ hq))
/-- one list, put in another order: it is enough to count -/
theorem perm_ct {α : Type} {l1 l2 : List α} (h : ∀ (_ : DecidableEq α) (a : α), l1.count a = l2.count a) : l1.Perm l2 := by
  haveI : DecidableEq α := fun a b => Classical.propDecidable (a = b)
  exact List.perm_iff_count.mpr (fun a => h _ a)
theorem front_p {ws : va_W} {x : Nat × va_E} : (ws ++ [x]).Perm (x :: ws) := by
  have := List.perm_append_comm (l₁ := ws) (l₂ := [x])
  exact this
/-- facts that a walk takes along beside gX -/
def okF (F : (Nat → Prop) → State → Prop) : Prop := (∀ (A : Nat → Prop) (U : State) (g : JFrame) (mk : MethodId) (a : Array Value), F A U → F A (U.calling g mk a)) ∧ ∀ (A A1 : Nat → Prop) (s U : State) (H : Heap) (locs : List Loc), F A s → va_S A s.heap H locs → (∀ q, A1 q → A q) → U.heap = H → s.WarmedH U.vm → F A1 U
def fT : (Nat → Prop) → State → Prop := fun _ _ => True
theorem okT : okF fT := ⟨fun _ _ _ _ _ _ => trivial, fun _ _ _ _ _ _ _ _ _ _ _ => trivial⟩
def gPcF (F : (Nat → Prop) → State → Prop) (D : va_G) (tys : List (ClassId × FieldType)) (ws : va_W) (av : List Value) (sz : Nat) : Array Value → State → Prop := va_Pc av (fun U => U.heap.size = sz ∧ va_P D vwCl ws U.heap ∧ va_K D vwCl tys U ∧ va_D (fun _ => True) ws ∧ F (va_A ws sz) U)
theorem gPcF_blind {F : (Nat → Prop) → State → Prop} (hF : okF F) (D : va_G) (tys : List (ClassId × FieldType)) (ws : va_W) (av : List Value) (sz : Nat) : FrameBlind (gPcF F D tys ws av sz) :=
  fun a U g mk q => by
    obtain ⟨q0, q1, qP, qK, qD, qN⟩ := q
    exact ⟨q0, q1, qP, va_K.moved (u := U) (U := U.calling g mk a) (Vm.Alike.refl U.vm) qK, qD, hF.1 _ _ g mk a qN⟩
def MIF (F : (Nat → Prop) → State → Prop) (l : Launch) (y : MethodName) (wds : List Cond) (rm : Room) (D : va_G) (tys : List (ClassId × FieldType)) (ws : va_W) (av : List Value) (post : Int32 → va_W → Prop) : Prop :=
  ∀ sz : Nat, Met l y wds rm (gPcF F D tys ws av sz) (va_Qi post (gB D tys (va_A ws sz)) (va_A ws sz)) rm.cells rm.slots (va_A ws sz)
def MVF (F : (Nat → Prop) → State → Prop) (l : Launch) (y : MethodName) (wds : List Cond) (rm : Room) (D : va_G) (tys : List (ClassId × FieldType)) (ws : va_W) (av : List Value) (post : va_W → Prop) : Prop :=
  ∀ sz : Nat, Met l y wds rm (gPcF F D tys ws av sz) (va_Qv post (gB D tys (va_A ws sz)) (va_A ws sz)) rm.cells rm.slots (va_A ws sz)
def MRF (F : (Nat → Prop) → State → Prop) (l : Launch) (y : MethodName) (wds : List Cond) (rm : Room) (D : va_G) (tys : List (ClassId × FieldType)) (ws : va_W) (av : List Value) (post : Nat → va_W → Prop) : Prop :=
  ∀ sz : Nat, Met l y wds rm (gPcF F D tys ws av sz) (va_Qr (fun q : Nat × va_W => post q.1 q.2) (fun q a t => q.1 = a ∧ gB D tys (va_A ws sz) q.2 t) (va_A ws sz)) rm.cells rm.slots (va_A ws sz)
section GMF
variable {F : (Nat → Prop) → State → Prop} {l : Launch} {D : va_G} {tys : List (ClassId × FieldType)}
theorem MIF_of {y : MethodName} {wds wds' : List Cond} {rm : Room} {cc : ByteArray} {nL : Nat} {ty : FieldType} {ws : va_W} {av : List Value} {post : Int32 → va_W → Prop} (lv0 : List (Nat × Value)) (hy : plainName y.cls = true) (hw : wds = Cond.code y cc nL (some ty) :: wds') (hlen : (lg_sl av).length ≤ nL) (hlv : lv_args 0 av = lv0)
    (body : ∀ (p : Program) (e : Env) (s : State) (m : MethodId) (args : Array Value) (below : List Frame) (meth : Method) (c : Code) (A : Nat → Prop) (Q : State → Prop), gX p s m args c D tys A cc nL y.cls wds → F A s →
      (∀ (u : va_W) (lv : List (Nat × Value)) (pc : Nat) (r : Int32), decode cc pc = .ok (.ireturn, 1) → narrow ty (.int r) = .int r → post r u → G p l e rm s m args below meth c Q D A nL rm.cells rm.slots u lv pc [.int r]) →
      G p l e rm s m args below meth c Q D A nL 0 0 ws lv0 0 []) : MIF F l y wds rm D tys ws av post := by
  intro sz
  refine Met.ofW (cc := cc) (maxL := nL) (ret := some ty) hy hw ?_
  intro p e s m args below meth c s₁ B hml hv
  obtain ⟨rfl, hsz, hP, hK, hD0, hF⟩ := hv
  have hlocks := B.notSynchronized
  subst hsz
  have hl := lv_entry av (n := nL) hlen
  rw [lg_entry_eq]
  rw [hlv] at hl
  refine body p e s m _ below meth c (va_A ws s.heap.size) _ ⟨B.exec, B.bytes, hml, findClass_of_methodNamed B.named, atoms_spec (ws := wds) B.pre, hK, fun q h => Or.inr h⟩ hF ?_ _ _ _ hP hD0.self va_S.rf hl
  intro u lv pc r hd hnr hp H locs ls hP hD hS hl
  exact W.zret B.exec B.bytes B.returns hnr (fun t ht hW => ⟨⟨r, u, rfl, hp, by rw [ht]; exact hP, va_K.moved hW.alike hK, hD⟩, hS.F ht⟩) hS.2.2 hd hlocks
theorem MVF_of {y : MethodName} {wds wds' : List Cond} {rm : Room} {cc : ByteArray} {nL : Nat} {ws : va_W} {av : List Value} {post : va_W → Prop} (lv0 : List (Nat × Value)) (hy : plainName y.cls = true) (hw : wds = Cond.code y cc nL none :: wds') (hlen : (lg_sl av).length ≤ nL) (hlv : lv_args 0 av = lv0)
    (body : ∀ (p : Program) (e : Env) (s : State) (m : MethodId) (args : Array Value) (below : List Frame) (meth : Method) (c : Code) (A : Nat → Prop) (Q : State → Prop), gX p s m args c D tys A cc nL y.cls wds → F A s →
      (∀ (u : va_W) (lv : List (Nat × Value)) (pc : Nat), decode cc pc = .ok (.return_, 1) → post u → G p l e rm s m args below meth c Q D A nL rm.cells rm.slots u lv pc []) →
      G p l e rm s m args below meth c Q D A nL 0 0 ws lv0 0 []) : MVF F l y wds rm D tys ws av post := by
  intro sz
  refine Met.ofW (cc := cc) (maxL := nL) (ret := none) hy hw ?_
  intro p e s m args below meth c s₁ B hml hv
  obtain ⟨rfl, hsz, hP, hK, hD0, hF⟩ := hv
  have hlocks := B.notSynchronized
  subst hsz
  have hl := lv_entry av (n := nL) hlen
  rw [lg_entry_eq]
  rw [hlv] at hl
  refine body p e s m _ below meth c (va_A ws s.heap.size) _ ⟨B.exec, B.bytes, hml, findClass_of_methodNamed B.named, atoms_spec (ws := wds) B.pre, hK, fun q h => Or.inr h⟩ hF ?_ _ _ _ hP hD0.self va_S.rf hl
  intro u lv pc hd hp H locs ls hP hD hS hl
  exact W.vret B.exec B.bytes B.returns (fun t ht hW => ⟨⟨u, rfl, hp, by rw [ht]; exact hP, va_K.moved hW.alike hK, hD⟩, hS.F ht⟩) hS.2.2 hd hlocks
theorem MRF_of {y : MethodName} {wds wds' : List Cond} {rm : Room} {cc : ByteArray} {nL : Nat} {ty : FieldType} {ws : va_W} {av : List Value} {post : Nat → va_W → Prop} (lv0 : List (Nat × Value)) (hy : plainName y.cls = true) (hrt : (∃ n, ty = .object n) ∨ ∃ t, ty = .array t) (hw : wds = Cond.code y cc nL (some ty) :: wds') (hlen : (lg_sl av).length ≤ nL) (hlv : lv_args 0 av = lv0)
    (body : ∀ (p : Program) (e : Env) (s : State) (m : MethodId) (args : Array Value) (below : List Frame) (meth : Method) (c : Code) (A : Nat → Prop) (Q : State → Prop), gX p s m args c D tys A cc nL y.cls wds → F A s →
      (∀ (u : va_W) (lv : List (Nat × Value)) (pc : Nat) (r : Nat), decode cc pc = .ok (.areturn, 1) → post r u → G p l e rm s m args below meth c Q D A nL rm.cells rm.slots u lv pc [.ref r]) →
      G p l e rm s m args below meth c Q D A nL 0 0 ws lv0 0 []) : MRF F l y wds rm D tys ws av post := by
  intro sz
  refine Met.ofW (cc := cc) (maxL := nL) (ret := some ty) hy hw ?_
  intro p e s m args below meth c s₁ B hml hv
  obtain ⟨rfl, hsz, hP, hK, hD0, hF⟩ := hv
  have hlocks := B.notSynchronized
  subst hsz
  have hl := lv_entry av (n := nL) hlen
  rw [lg_entry_eq]
  rw [hlv] at hl
  refine body p e s m _ below meth c (va_A ws s.heap.size) _ ⟨B.exec, B.bytes, hml, findClass_of_methodNamed B.named, atoms_spec (ws := wds) B.pre, hK, fun q h => Or.inr h⟩ hF ?_ _ _ _ hP hD0.self va_S.rf hl
  intro u lv pc r hd hp H locs ls hP hD hS hl
  exact W.aret B.exec B.bytes B.returns hrt (Or.inr ⟨r, rfl⟩) (fun t ht hW => ⟨⟨(r, u), r, rfl, hp, rfl, by rw [ht]; exact hP, va_K.moved hW.alike hK, hD⟩, hS.F ht⟩) hS.2.2 hd hlocks
end GMF
/-! the callee's world at the end of the caller's -/
theorem sfx_C (A9 wc : va_W) : (List.range' A9.length wc.length).map (fun i => (A9 ++ wc)[i]?) = wc.map some := by
  apply List.ext_getElem?
  intro k
  rw [List.getElem?_map, List.getElem?_map]
  by_cases hk : k < wc.length
  · rw [List.getElem?_range' hk, List.getElem?_eq_getElem hk]
    show some ((A9 ++ wc)[A9.length + 1 * k]?) = _
    rw [List.getElem?_append_right (by omega), show A9.length + 1 * k - A9.length = k by omega, List.getElem?_eq_getElem hk]
    rfl
  · rw [List.getElem?_eq_none (by rw [List.length_range']; omega), List.getElem?_eq_none (by omega)]
    rfl
theorem sfx_R (A9 wc : va_W) : (List.range A9.length).map (fun i => (A9 ++ wc)[i]?) = A9.map some := by
  apply List.ext_getElem?
  intro k
  rw [List.getElem?_map, List.getElem?_map]
  by_cases hk : k < A9.length
  · rw [List.getElem?_range hk, List.getElem?_eq_getElem hk]
    show some ((A9 ++ wc)[k]?) = _
    rw [List.getElem?_append_left hk, List.getElem?_eq_getElem hk]
    rfl
  · rw [List.getElem?_eq_none (by rw [List.length_range]; omega), List.getElem?_eq_none (by omega)]
    rfl
theorem sfx_nd (n m : Nat) : va_nd (List.range' n m) = true := va_nd_of List.nodup_range'
theorem sfx_nr (n : Nat) : va_nd (List.range n) = true := va_nd_of List.nodup_range
theorem sfx_di (n m : Nat) : ∀ i ∈ List.range n, i ∉ List.range' n m := fun i h1 h2 => by
  rw [List.mem_range] at h1
  rw [List.mem_range'_1] at h2
  omega
section GCF
variable {F : (Nat → Prop) → State → Prop}
variable {p : Program} {l : Launch} {e : Env} {R : Room} {s : State} {m : MethodId} {args : Array Value} {below : List Frame} {meth : Method} {c : Code} {Q : State → Prop}
variable {D : va_G} {tys : List (ClassId × FieldType)} {A : Nat → Prop} {cc : ByteArray} {nL kc ks : Nat} {own : String} {Ts : List Cond}
variable {ws ws' : va_W} {lv lv' : List (Nat × Value)} {pc : Nat} {st rest : List Value}
variable {y : MethodName} {wds ws9 : List Cond} {rm : Room} {bytes : ByteArray} {maxL n index : Nat} {ret : Option FieldType} {C : String} {b : Nat} {av : List Value} {wc : va_W}
/-- the world in another order, and less of it -/
theorem g_perm (dr : va_W) (hp : ws.Perm (ws' ++ dr)) (k : G p l e R s m args below meth c Q D A nL kc ks ws' lv pc st) : G p l e R s m args below meth c Q D A nL kc ks ws lv pc st :=
  fun H locs ls hP hD hS hl => k H locs ls (hP.perm hp) (hD.perm hp) hS hl
theorem gPreVF (hFo : okF F) (hK : va_K D vwCl tys s) (hF : F A s) {H : Heap} {locs : List Loc} (hS : va_S A s.heap H locs) (hA : ∀ q, va_A wc H.size q → A q) (hP : va_P D vwCl wc H) (hD : va_D (fun _ => True) wc) {ci : Nat} {T : u_T} {N q0 : Nat} {fs : List Value} (hc : vwCl[ci]? = some (C, T, N)) (he : wc[q0]? = some (b, .inr (ci, fs))) : PreV s H C b (gPcF F D tys wc (.ref b :: av) H.size) av :=
  ⟨gPcF_blind hFo _ _ _ _ _, va_recv hK hP hc he, fun U hU hW => ⟨rfl, by rw [hU], by rw [hU]; exact hP, va_K.moved hW.alike hK, hD, hFo.2 _ _ _ _ _ _ hF hS hA hU hW⟩⟩
theorem gPreSF (hFo : okF F) (hK : va_K D vwCl tys s) (hF : F A s) {H : Heap} {locs : List Loc} (hS : va_S A s.heap H locs) (hA : ∀ q, va_A wc H.size q → A q) (hP : va_P D vwCl wc H) (hD : va_D (fun _ => True) wc) : PreS s H (gPcF F D tys wc av H.size) av :=
  ⟨gPcF_blind hFo _ _ _ _ _, fun U hU hW => ⟨rfl, by rw [hU], by rw [hU]; exact hP, va_K.moved hW.alike hK, hD, hFo.2 _ _ _ _ _ _ hF hS hA hU hW⟩⟩
theorem g_sVi (X : gX p s m args c D tys A cc nL own Ts) (hFo : okF F) (hF : F A s) {post : Int32 → va_W → Prop} (hM : MIF F l y wds rm D tys wc (.ref b :: av) post) (pc' kc' ks' : Nat) (A9 : va_W) (hws : ws = A9 ++ wc) (hG : GoodIn Ts (wsV own index C y wds)) (hwd : wds = Cond.code y bytes maxL ret :: ws9)
    (hdy : y.cls = C ∧ y.cls ≠ "java/lang/invoke/MethodHandle" ∧ y.cls ≠ "java/lang/invoke/VarHandle" ∧ (parseMethodDescriptor y.desc).map (fun d => d.parameters.length) = some n) (hnn : av.length = n) (hR : rm.frames + 1 ≤ R.frames ∧ 8 + (maxL + 11) + rm.locals ≤ R.locals) {ci : Nat} {T : u_T} {N : Nat} (q0 : Nat) {fs : List Value} (hc : vwCl[ci]? = some (C, T, N)) (he : wc[q0]? = some (b, .inr (ci, fs)))
    (hst : st = av.reverse ++ .ref b :: rest) (hrest : (rest.map fun v => v.category).sum ≤ 8) (hd : decode cc pc = .ok (.invokevirtual index, 3)) (hpc : pc + 3 = pc') (hkc : kc + rm.cells ≤ kc') (hks : ks + rm.slots ≤ ks') (hf : kc' ≤ R.cells ∧ ks' ≤ R.slots)
    (k : ∀ (r : Int32) (u : va_W), post r u → G p l e R s m args below meth c Q D A nL kc' ks' (A9 ++ u) lv pc' (.int r :: rest)) : G p l e R s m args below meth c Q D A nL kc ks ws lv pc st := by
  subst hnn
  subst hpc
  subst hst
  subst hws
  intro H locs ls hP hD hS hl
  have hPc : va_P D vwCl wc H := hP.mem (fun q hq => List.mem_append_right _ hq)
  have hDc : va_D (fun _ => True) wc := (va_D.sub hD _ (sfx_nd _ _) (sfx_C A9 wc)).weaken (fun _ _ _ _ => trivial)
  have hFc := va_free (wc := wc) hD hS X.hA _ (sfx_C A9 wc)
  refine va_calli (va_runV (As := av) (rest := rest) X.fix (hM H.size) (cwV av.length X.hts hG hwd rfl rfl hdy hR) (gPreVF hFo X.K hF hS hFc hPc hDc hc he) rfl rfl hl.1 rfl (lv_room hrest) hd ⟨Nat.le_trans hkc hf.1, Nat.le_trans hks hf.2⟩) hS (fun q _ h => hFc q h) hFc (fun r u t H1 locs1 ht hvm hw hB hz1 hk1 hS => ?_)
  obtain ⟨hP1, hK1, hD1⟩ := hB
  rw [ht] at hP1
  obtain ⟨hP2, hD2⟩ := va_join hP hD _ _ (sfx_C A9 wc) (sfx_R A9 wc) (sfx_nr _) (sfx_di _ _) hk1 hFc hP1 hD1
  exact W.widen hkc hks (k r u hw H1 locs1 ls hP2 hD2 hS hl)
theorem g_sVv (X : gX p s m args c D tys A cc nL own Ts) (hFo : okF F) (hF : F A s) {post : va_W → Prop} (hM : MVF F l y wds rm D tys wc (.ref b :: av) post) (pc' kc' ks' : Nat) (A9 : va_W) (hws : ws = A9 ++ wc) (hG : GoodIn Ts (wsV own index C y wds)) (hwd : wds = Cond.code y bytes maxL ret :: ws9)
    (hdy : y.cls = C ∧ y.cls ≠ "java/lang/invoke/MethodHandle" ∧ y.cls ≠ "java/lang/invoke/VarHandle" ∧ (parseMethodDescriptor y.desc).map (fun d => d.parameters.length) = some n) (hnn : av.length = n) (hR : rm.frames + 1 ≤ R.frames ∧ 8 + (maxL + 11) + rm.locals ≤ R.locals) {ci : Nat} {T : u_T} {N : Nat} (q0 : Nat) {fs : List Value} (hc : vwCl[ci]? = some (C, T, N)) (he : wc[q0]? = some (b, .inr (ci, fs)))
    (hst : st = av.reverse ++ .ref b :: rest) (hrest : (rest.map fun v => v.category).sum ≤ 8) (hd : decode cc pc = .ok (.invokevirtual index, 3)) (hpc : pc + 3 = pc') (hkc : kc + rm.cells ≤ kc') (hks : ks + rm.slots ≤ ks') (hf : kc' ≤ R.cells ∧ ks' ≤ R.slots)
    (k : ∀ (u : va_W), post u → G p l e R s m args below meth c Q D A nL kc' ks' (A9 ++ u) lv pc' rest) : G p l e R s m args below meth c Q D A nL kc ks ws lv pc st := by
  subst hnn
  subst hpc
  subst hst
  subst hws
  intro H locs ls hP hD hS hl
  have hPc : va_P D vwCl wc H := hP.mem (fun q hq => List.mem_append_right _ hq)
  have hDc : va_D (fun _ => True) wc := (va_D.sub hD _ (sfx_nd _ _) (sfx_C A9 wc)).weaken (fun _ _ _ _ => trivial)
  have hFc := va_free (wc := wc) hD hS X.hA _ (sfx_C A9 wc)
  refine va_callv (va_runV (As := av) (rest := rest) X.fix (hM H.size) (cwV av.length X.hts hG hwd rfl rfl hdy hR) (gPreVF hFo X.K hF hS hFc hPc hDc hc he) rfl rfl hl.1 rfl (lv_room hrest) hd ⟨Nat.le_trans hkc hf.1, Nat.le_trans hks hf.2⟩) hS (fun q _ h => hFc q h) hFc (fun u t H1 locs1 ht hvm hw hB hz1 hk1 hS => ?_)
  obtain ⟨hP1, hK1, hD1⟩ := hB
  rw [ht] at hP1
  obtain ⟨hP2, hD2⟩ := va_join hP hD _ _ (sfx_C A9 wc) (sfx_R A9 wc) (sfx_nr _) (sfx_di _ _) hk1 hFc hP1 hD1
  exact W.widen hkc hks (k u hw H1 locs1 ls hP2 hD2 hS hl)
theorem g_sVr (X : gX p s m args c D tys A cc nL own Ts) (hFo : okF F) (hF : F A s) {post : Nat → va_W → Prop} (hM : MRF F l y wds rm D tys wc (.ref b :: av) post) (pc' kc' ks' : Nat) (A9 : va_W) (hws : ws = A9 ++ wc) (hG : GoodIn Ts (wsV own index C y wds)) (hwd : wds = Cond.code y bytes maxL ret :: ws9)
    (hdy : y.cls = C ∧ y.cls ≠ "java/lang/invoke/MethodHandle" ∧ y.cls ≠ "java/lang/invoke/VarHandle" ∧ (parseMethodDescriptor y.desc).map (fun d => d.parameters.length) = some n) (hnn : av.length = n) (hR : rm.frames + 1 ≤ R.frames ∧ 8 + (maxL + 11) + rm.locals ≤ R.locals) {ci : Nat} {T : u_T} {N : Nat} (q0 : Nat) {fs : List Value} (hc : vwCl[ci]? = some (C, T, N)) (he : wc[q0]? = some (b, .inr (ci, fs)))
    (hst : st = av.reverse ++ .ref b :: rest) (hrest : (rest.map fun v => v.category).sum ≤ 8) (hd : decode cc pc = .ok (.invokevirtual index, 3)) (hpc : pc + 3 = pc') (hkc : kc + rm.cells ≤ kc') (hks : ks + rm.slots ≤ ks') (hf : kc' ≤ R.cells ∧ ks' ≤ R.slots)
    (k : ∀ (r : Nat) (u : va_W), post r u → G p l e R s m args below meth c Q D A nL kc' ks' (A9 ++ u) lv pc' (.ref r :: rest)) : G p l e R s m args below meth c Q D A nL kc ks ws lv pc st := by
  subst hnn
  subst hpc
  subst hst
  subst hws
  intro H locs ls hP hD hS hl
  have hPc : va_P D vwCl wc H := hP.mem (fun q hq => List.mem_append_right _ hq)
  have hDc : va_D (fun _ => True) wc := (va_D.sub hD _ (sfx_nd _ _) (sfx_C A9 wc)).weaken (fun _ _ _ _ => trivial)
  have hFc := va_free (wc := wc) hD hS X.hA _ (sfx_C A9 wc)
  refine va_callr (va_runV (As := av) (rest := rest) X.fix (hM H.size) (cwV av.length X.hts hG hwd rfl rfl hdy hR) (gPreVF hFo X.K hF hS hFc hPc hDc hc he) rfl rfl hl.1 rfl (lv_room hrest) hd ⟨Nat.le_trans hkc hf.1, Nat.le_trans hks hf.2⟩) hS (fun q _ h => hFc q h) hFc (fun u ra t H1 locs1 ht hvm hw hB hz1 hk1 hS => ?_)
  obtain ⟨rfl, hP1, hK1, hD1⟩ := hB
  rw [ht] at hP1
  obtain ⟨hP2, hD2⟩ := va_join hP hD _ _ (sfx_C A9 wc) (sfx_R A9 wc) (sfx_nr _) (sfx_di _ _) hk1 hFc hP1 hD1
  exact W.widen hkc hks (k u.1 u.2 hw H1 locs1 ls hP2 hD2 hS hl)
theorem g_sSi (X : gX p s m args c D tys A cc nL own Ts) (hFo : okF F) (hF : F A s) {post : Int32 → va_W → Prop} (hM : MIF F l y wds rm D tys wc av post) (pc' kc' ks' : Nat) (A9 : va_W) (hws : ws = A9 ++ wc) (hG : GoodIn Ts (va_wsS own index y wds)) (hwd : wds = Cond.code y bytes maxL ret :: ws9)
    (hdy : y.cls ≠ "java/lang/invoke/MethodHandle" ∧ y.cls ≠ "java/lang/invoke/VarHandle" ∧ (parseMethodDescriptor y.desc).map (fun d => d.parameters.length) = some n) (hnn : av.length = n) (hR : rm.frames + 1 ≤ R.frames ∧ 8 + (maxL + 11) + rm.locals ≤ R.locals)
    (hst : st = av.reverse ++ rest) (hrest : (rest.map fun v => v.category).sum ≤ 8) (hd : decode cc pc = .ok (.invokestatic index, 3)) (hpc : pc + 3 = pc') (hkc : kc + rm.cells ≤ kc') (hks : ks + rm.slots ≤ ks') (hf : kc' ≤ R.cells ∧ ks' ≤ R.slots)
    (k : ∀ (r : Int32) (u : va_W), post r u → G p l e R s m args below meth c Q D A nL kc' ks' (A9 ++ u) lv pc' (.int r :: rest)) : G p l e R s m args below meth c Q D A nL kc ks ws lv pc st := by
  subst hnn
  subst hpc
  subst hst
  subst hws
  intro H locs ls hP hD hS hl
  have hPc : va_P D vwCl wc H := hP.mem (fun q hq => List.mem_append_right _ hq)
  have hDc : va_D (fun _ => True) wc := (va_D.sub hD _ (sfx_nd _ _) (sfx_C A9 wc)).weaken (fun _ _ _ _ => trivial)
  have hFc := va_free (wc := wc) hD hS X.hA _ (sfx_C A9 wc)
  refine va_calli (va_runS (As := av) (rest := rest) X.fix (hM H.size) (va_cwS av.length X.hts hG hwd rfl rfl hdy hR) (gPreSF hFo X.K hF hS hFc hPc hDc) rfl rfl hl.1 rfl (lv_room hrest) hd ⟨Nat.le_trans hkc hf.1, Nat.le_trans hks hf.2⟩) hS (fun q _ h => hFc q h) hFc (fun r u t H1 locs1 ht hvm hw hB hz1 hk1 hS => ?_)
  obtain ⟨hP1, hK1, hD1⟩ := hB
  rw [ht] at hP1
  obtain ⟨hP2, hD2⟩ := va_join hP hD _ _ (sfx_C A9 wc) (sfx_R A9 wc) (sfx_nr _) (sfx_di _ _) hk1 hFc hP1 hD1
  exact W.widen hkc hks (k r u hw H1 locs1 ls hP2 hD2 hS hl)
theorem g_sSr (X : gX p s m args c D tys A cc nL own Ts) (hFo : okF F) (hF : F A s) {post : Nat → va_W → Prop} (hM : MRF F l y wds rm D tys wc av post) (pc' kc' ks' : Nat) (A9 : va_W) (hws : ws = A9 ++ wc) (hG : GoodIn Ts (va_wsS own index y wds)) (hwd : wds = Cond.code y bytes maxL ret :: ws9)
    (hdy : y.cls ≠ "java/lang/invoke/MethodHandle" ∧ y.cls ≠ "java/lang/invoke/VarHandle" ∧ (parseMethodDescriptor y.desc).map (fun d => d.parameters.length) = some n) (hnn : av.length = n) (hR : rm.frames + 1 ≤ R.frames ∧ 8 + (maxL + 11) + rm.locals ≤ R.locals)
    (hst : st = av.reverse ++ rest) (hrest : (rest.map fun v => v.category).sum ≤ 8) (hd : decode cc pc = .ok (.invokestatic index, 3)) (hpc : pc + 3 = pc') (hkc : kc + rm.cells ≤ kc') (hks : ks + rm.slots ≤ ks') (hf : kc' ≤ R.cells ∧ ks' ≤ R.slots)
    (k : ∀ (r : Nat) (u : va_W), post r u → G p l e R s m args below meth c Q D A nL kc' ks' (A9 ++ u) lv pc' (.ref r :: rest)) : G p l e R s m args below meth c Q D A nL kc ks ws lv pc st := by
  subst hnn
  subst hpc
  subst hst
  subst hws
  intro H locs ls hP hD hS hl
  have hPc : va_P D vwCl wc H := hP.mem (fun q hq => List.mem_append_right _ hq)
  have hDc : va_D (fun _ => True) wc := (va_D.sub hD _ (sfx_nd _ _) (sfx_C A9 wc)).weaken (fun _ _ _ _ => trivial)
  have hFc := va_free (wc := wc) hD hS X.hA _ (sfx_C A9 wc)
  refine va_callr (va_runS (As := av) (rest := rest) X.fix (hM H.size) (va_cwS av.length X.hts hG hwd rfl rfl hdy hR) (gPreSF hFo X.K hF hS hFc hPc hDc) rfl rfl hl.1 rfl (lv_room hrest) hd ⟨Nat.le_trans hkc hf.1, Nat.le_trans hks hf.2⟩) hS (fun q _ h => hFc q h) hFc (fun u ra t H1 locs1 ht hvm hw hB hz1 hk1 hS => ?_)
  obtain ⟨rfl, hP1, hK1, hD1⟩ := hB
  rw [ht] at hP1
  obtain ⟨hP2, hD2⟩ := va_join hP hD _ _ (sfx_C A9 wc) (sfx_R A9 wc) (sfx_nr _) (sfx_di _ _) hk1 hFc hP1 hD1
  exact W.widen hkc hks (k u.1 u.2 hw H1 locs1 ls hP2 hD2 hS hl)
/-- a static call of a method that has no world of its own -/
theorem g_s0i (X : gX p s m args c D tys A cc nL own Ts) (hFo : okF F) (hF : F A s) {post : Int32 → va_W → Prop} (hM : MIF F l y wds rm D tys [] av post) (pc' kc' ks' : Nat) (hG : GoodIn Ts (va_wsS own index y wds)) (hwd : wds = Cond.code y bytes maxL ret :: ws9)
    (hdy : y.cls ≠ "java/lang/invoke/MethodHandle" ∧ y.cls ≠ "java/lang/invoke/VarHandle" ∧ (parseMethodDescriptor y.desc).map (fun d => d.parameters.length) = some n) (hnn : av.length = n) (hR : rm.frames + 1 ≤ R.frames ∧ 8 + (maxL + 11) + rm.locals ≤ R.locals)
    (hst : st = av.reverse ++ rest) (hrest : (rest.map fun v => v.category).sum ≤ 8) (hd : decode cc pc = .ok (.invokestatic index, 3)) (hpc : pc + 3 = pc') (hkc : kc + rm.cells ≤ kc') (hks : ks + rm.slots ≤ ks') (hf : kc' ≤ R.cells ∧ ks' ≤ R.slots)
    (k : ∀ (r : Int32) (u : va_W), post r u → G p l e R s m args below meth c Q D A nL kc' ks' ws lv pc' (.int r :: rest)) : G p l e R s m args below meth c Q D A nL kc ks ws lv pc st :=
  g_sSi X hFo hF hM pc' kc' ks' ws (List.append_nil ws).symm hG hwd hdy hnn hR hst hrest hd hpc hkc hks hf (fun r u h => g_perm u (List.Perm.refl _) (k r u h))
/-- a nest mate's own constructor -/
theorem g_sNv (X : gX p s m args c D tys A cc nL own Ts) (hFo : okF F) (hF : F A s) {host : String} {post : va_W → Prop} (hM : MVF F l y wds rm D tys wc [.ref b] post) (pc' kc' ks' : Nat) (A9 : va_W) (hws : ws = A9 ++ wc) (hG : GoodIn Ts wds) (hwd : wds = Cond.code y bytes maxL none :: ws9) (hnl : va_Nw (.methodLinkNest own index y host) s) (hini : Cond.initialized y.cls ∈ Ts) (hin1 : Cond.instanceMethod y ∈ Ts) (hyn : y.name = "<init>")
    (hdy : y.cls ≠ "java/lang/invoke/MethodHandle" ∧ y.cls ≠ "java/lang/invoke/VarHandle" ∧ (parseMethodDescriptor y.desc).map (fun d => d.parameters.length) = some 0) (hR : rm.frames + 1 ≤ R.frames ∧ 8 + (maxL + 11) + rm.locals ≤ R.locals)
    (hst : st = .ref b :: rest) (hrest : (rest.map fun v => v.category).sum ≤ 8) (hd : decode cc pc = .ok (.invokespecial index, 3)) (hpc : pc + 3 = pc') (hkc : kc + rm.cells ≤ kc') (hks : ks + rm.slots ≤ ks') (hf : kc' ≤ R.cells ∧ ks' ≤ R.slots)
    (k : ∀ (u : va_W), post u → G p l e R s m args below meth c Q D A nL kc' ks' (A9 ++ u) lv pc' rest) : G p l e R s m args below meth c Q D A nL kc ks ws lv pc st := by
  subst hpc
  subst hst
  subst hws
  intro H locs ls hP hD hS hl
  have hPc : va_P D vwCl wc H := hP.mem (fun q hq => List.mem_append_right _ hq)
  have hDc : va_D (fun _ => True) wc := (va_D.sub hD _ (sfx_nd _ _) (sfx_C A9 wc)).weaken (fun _ _ _ _ => trivial)
  have hFc := va_free (wc := wc) hD hS X.hA _ (sfx_C A9 wc)
  refine va_callv (va_runIN (As := []) (b := b) (rest := rest) X.fix (hM H.size) ⟨va_cnB 0 X.hts hG hwd rfl rfl hnl (X.hts _ hini) hdy hR, hyn, X.hts _ hin1⟩ (gPreSF hFo X.K hF hS hFc hPc hDc) rfl rfl hl.1 rfl (lv_room hrest) hd ⟨Nat.le_trans hkc hf.1, Nat.le_trans hks hf.2⟩) hS (fun q _ h => hFc q h) hFc (fun u t H1 locs1 ht hvm hw hB hz1 hk1 hS => ?_)
  obtain ⟨hP1, hK1, hD1⟩ := hB
  rw [ht] at hP1
  obtain ⟨hP2, hD2⟩ := va_join hP hD _ _ (sfx_C A9 wc) (sfx_R A9 wc) (sfx_nr _) (sfx_di _ _) hk1 hFc hP1 hD1
  exact W.widen hkc hks (k u hw H1 locs1 ls hP2 hD2 hS hl)
end GCF
