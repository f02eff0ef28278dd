/-! CONTRACTS: what a method answers, and which cells it leaves; calls in G -/
abbrev gT (cI cZ cJ : ClassId) : List (ClassId × FieldType) := [(cI, .int), (cZ, .boolean), (cJ, .array .int)]
/-- the world u, in the state t -/
def gB (D : va_G) (tys : List (ClassId × FieldType)) (A : Nat → Prop) (u : va_W) (t : State) : Prop := va_P D vwCl u t.heap ∧ va_K D vwCl tys t ∧ va_D A u
def gPc (D : va_G) (tys : List (ClassId × FieldType)) (ws : va_W) (av : List Value) (sz : Nat) : Array Value → State → Prop := va_Pc av (fun U => U.heap.size = sz ∧ va_P D vwCl ws U.heap ∧ va_K D vwCl tys U ∧ va_D (fun _ => True) ws)
def MI (l : Launch) (y : MethodName) (wds : List Cond) (rm : Room) (D : va_G) (tys : List (ClassId × FieldType)) (ws : va_W) (av : List Value) (post : Int32 → va_W → Prop) : Prop :=
  ∀ sz : Nat, Met l y wds rm (gPc D tys ws av sz) (va_Qi post (gB D tys (va_A ws sz)) (va_A ws sz)) rm.cells rm.slots (va_A ws sz)
def MV (l : Launch) (y : MethodName) (wds : List Cond) (rm : Room) (D : va_G) (tys : List (ClassId × FieldType)) (ws : va_W) (av : List Value) (post : va_W → Prop) : Prop :=
  ∀ sz : Nat, Met l y wds rm (gPc D tys ws av sz) (va_Qv post (gB D tys (va_A ws sz)) (va_A ws sz)) rm.cells rm.slots (va_A ws sz)
def ML (l : Launch) (y : MethodName) (wds : List Cond) (rm : Room) (D : va_G) (tys : List (ClassId × FieldType)) (ws : va_W) (av : List Value) (post : Int64 → va_W → Prop) : Prop :=
  ∀ sz : Nat, Met l y wds rm (gPc D tys ws av sz) (va_Ql post (gB D tys (va_A ws sz)) (va_A ws sz)) rm.cells rm.slots (va_A ws sz)
def MDb (l : Launch) (y : MethodName) (wds : List Cond) (rm : Room) (D : va_G) (tys : List (ClassId × FieldType)) (ws : va_W) (av : List Value) (post : UInt64 → va_W → Prop) : Prop :=
  ∀ sz : Nat, Met l y wds rm (gPc D tys ws av sz) (va_Qd post (gB D tys (va_A ws sz)) (va_A ws sz)) rm.cells rm.slots (va_A ws sz)
theorem gPc_blind (D : va_G) (tys : List (ClassId × FieldType)) (ws : va_W) (av : List Value) (sz : Nat) : FrameBlind (gPc D tys ws av sz) :=
  fun a U g mk q => by
    obtain ⟨q0, q1, qP, qK, qD⟩ := q
    exact ⟨q0, q1, qP, va_K.moved (u := U) (U := U.calling g mk a) (Vm.Alike.refl U.vm) qK, qD⟩
section GM
variable {l : Launch} {D : va_G} {tys : List (ClassId × FieldType)}
/-- a method's proof: the walk of its body from the entry, over any Q that its returns reach -/
theorem MI_of {y : MethodName} {wds wds' : List Cond} {rm : Room} {cc : ByteArray} {nL : Nat} {ty : FieldType} {ws : va_W} {av : List Value} {post : Int32 → va_W → Prop} (lv0 : List (Nat × Value)) (hy : plainName y.cls = true) (hw : wds = Cond.code y cc nL (some ty) :: wds') (hlen : (lg_sl av).length ≤ nL) (hlv : lv_args 0 av = lv0)
    (body : ∀ (p : Program) (e : Env) (s : State) (m : MethodId) (args : Array Value) (below : List Frame) (meth : Method) (c : Code) (A : Nat → Prop) (Q : State → Prop), gX p s m args c D tys A cc nL y.cls wds →
      (∀ (u : va_W) (lv : List (Nat × Value)) (pc : Nat) (r : Int32), decode cc pc = .ok (.ireturn, 1) → narrow ty (.int r) = .int r → post r u → G p l e rm s m args below meth c Q D A nL rm.cells rm.slots u lv pc [.int r]) →
      G p l e rm s m args below meth c Q D A nL 0 0 ws lv0 0 []) : MI l y wds rm D tys ws av post := by
  intro sz
  refine Met.ofW (cc := cc) (maxL := nL) (ret := some ty) hy hw ?_
  intro p e s m args below meth c s₁ B hml hv
  obtain ⟨rfl, hsz, hP, hK, hD0⟩ := hv
  have hlocks := B.notSynchronized
  subst hsz
  have hl := lv_entry av (n := nL) hlen
  rw [lg_entry_eq]
  rw [hlv] at hl
  refine body p e s m _ below meth c (va_A ws s.heap.size) _ ⟨B.exec, B.bytes, hml, findClass_of_methodNamed B.named, atoms_spec (ws := wds) B.pre, hK, fun q h => Or.inr h⟩ ?_ _ _ _ hP hD0.self va_S.rf hl
  intro u lv pc r hd hnr hp H locs ls hP hD hS hl
  exact W.zret B.exec B.bytes B.returns hnr (fun t ht hW => ⟨⟨r, u, rfl, hp, by rw [ht]; exact hP, va_K.moved hW.alike hK, hD⟩, hS.F ht⟩) hS.2.2 hd hlocks
theorem MV_of {y : MethodName} {wds wds' : List Cond} {rm : Room} {cc : ByteArray} {nL : Nat} {ws : va_W} {av : List Value} {post : va_W → Prop} (lv0 : List (Nat × Value)) (hy : plainName y.cls = true) (hw : wds = Cond.code y cc nL none :: wds') (hlen : (lg_sl av).length ≤ nL) (hlv : lv_args 0 av = lv0)
    (body : ∀ (p : Program) (e : Env) (s : State) (m : MethodId) (args : Array Value) (below : List Frame) (meth : Method) (c : Code) (A : Nat → Prop) (Q : State → Prop), gX p s m args c D tys A cc nL y.cls wds →
      (∀ (u : va_W) (lv : List (Nat × Value)) (pc : Nat), decode cc pc = .ok (.return_, 1) → post u → G p l e rm s m args below meth c Q D A nL rm.cells rm.slots u lv pc []) →
      G p l e rm s m args below meth c Q D A nL 0 0 ws lv0 0 []) : MV l y wds rm D tys ws av post := by
  intro sz
  refine Met.ofW (cc := cc) (maxL := nL) (ret := none) hy hw ?_
  intro p e s m args below meth c s₁ B hml hv
  obtain ⟨rfl, hsz, hP, hK, hD0⟩ := hv
  have hlocks := B.notSynchronized
  subst hsz
  have hl := lv_entry av (n := nL) hlen
  rw [lg_entry_eq]
  rw [hlv] at hl
  refine body p e s m _ below meth c (va_A ws s.heap.size) _ ⟨B.exec, B.bytes, hml, findClass_of_methodNamed B.named, atoms_spec (ws := wds) B.pre, hK, fun q h => Or.inr h⟩ ?_ _ _ _ hP hD0.self va_S.rf hl
  intro u lv pc hd hp H locs ls hP hD hS hl
  exact W.vret B.exec B.bytes B.returns (fun t ht hW => ⟨⟨u, rfl, hp, by rw [ht]; exact hP, va_K.moved hW.alike hK, hD⟩, hS.F ht⟩) hS.2.2 hd hlocks
theorem ML_of {y : MethodName} {wds wds' : List Cond} {rm : Room} {cc : ByteArray} {nL : Nat} {ws : va_W} {av : List Value} {post : Int64 → va_W → Prop} (lv0 : List (Nat × Value)) (hy : plainName y.cls = true) (hw : wds = Cond.code y cc nL (some .long) :: wds') (hlen : (lg_sl av).length ≤ nL) (hlv : lv_args 0 av = lv0)
    (body : ∀ (p : Program) (e : Env) (s : State) (m : MethodId) (args : Array Value) (below : List Frame) (meth : Method) (c : Code) (A : Nat → Prop) (Q : State → Prop), gX p s m args c D tys A cc nL y.cls wds →
      (∀ (u : va_W) (lv : List (Nat × Value)) (pc : Nat) (r : Int64), decode cc pc = .ok (.lreturn, 1) → post r u → G p l e rm s m args below meth c Q D A nL rm.cells rm.slots u lv pc [.long r]) →
      G p l e rm s m args below meth c Q D A nL 0 0 ws lv0 0 []) : ML l y wds rm D tys ws av post := by
  intro sz
  refine Met.ofW (cc := cc) (maxL := nL) (ret := some .long) hy hw ?_
  intro p e s m args below meth c s₁ B hml hv
  obtain ⟨rfl, hsz, hP, hK, hD0⟩ := hv
  have hlocks := B.notSynchronized
  subst hsz
  have hl := lv_entry av (n := nL) hlen
  rw [lg_entry_eq]
  rw [hlv] at hl
  refine body p e s m _ below meth c (va_A ws s.heap.size) _ ⟨B.exec, B.bytes, hml, findClass_of_methodNamed B.named, atoms_spec (ws := wds) B.pre, hK, fun q h => Or.inr h⟩ ?_ _ _ _ hP hD0.self va_S.rf hl
  intro u lv pc r hd hp H locs ls hP hD hS hl
  exact W.lret B.exec B.bytes B.returns (fun t ht hW => ⟨⟨r, u, rfl, hp, by rw [ht]; exact hP, va_K.moved hW.alike hK, hD⟩, hS.F ht⟩) hS.2.2 hd hlocks
theorem MDb_of {y : MethodName} {wds wds' : List Cond} {rm : Room} {cc : ByteArray} {nL : Nat} {ws : va_W} {av : List Value} {post : UInt64 → va_W → Prop} (lv0 : List (Nat × Value)) (hy : plainName y.cls = true) (hw : wds = Cond.code y cc nL (some .double) :: wds') (hlen : (lg_sl av).length ≤ nL) (hlv : lv_args 0 av = lv0)
    (body : ∀ (p : Program) (e : Env) (s : State) (m : MethodId) (args : Array Value) (below : List Frame) (meth : Method) (c : Code) (A : Nat → Prop) (Q : State → Prop), gX p s m args c D tys A cc nL y.cls wds →
      (∀ (u : va_W) (lv : List (Nat × Value)) (pc : Nat) (r : UInt64), decode cc pc = .ok (.dreturn, 1) → post r u → G p l e rm s m args below meth c Q D A nL rm.cells rm.slots u lv pc [.double r]) →
      G p l e rm s m args below meth c Q D A nL 0 0 ws lv0 0 []) : MDb l y wds rm D tys ws av post := by
  intro sz
  refine Met.ofW (cc := cc) (maxL := nL) (ret := some .double) hy hw ?_
  intro p e s m args below meth c s₁ B hml hv
  obtain ⟨rfl, hsz, hP, hK, hD0⟩ := hv
  have hlocks := B.notSynchronized
  subst hsz
  have hl := lv_entry av (n := nL) hlen
  rw [lg_entry_eq]
  rw [hlv] at hl
  refine body p e s m _ below meth c (va_A ws s.heap.size) _ ⟨B.exec, B.bytes, hml, findClass_of_methodNamed B.named, atoms_spec (ws := wds) B.pre, hK, fun q h => Or.inr h⟩ ?_ _ _ _ hP hD0.self va_S.rf hl
  intro u lv pc r hd hp H locs ls hP hD hS hl
  exact W.dret B.exec B.bytes B.returns (fun t ht hW => ⟨⟨r, u, rfl, hp, by rw [ht]; exact hP, va_K.moved hW.alike hK, hD⟩, hS.F ht⟩) hS.2.2 hd hlocks
end GM
/-- the callee's cells, put back at their places -/
def putB : va_W → List Nat → va_W → va_W
  | ws, i :: is, q :: qs => putB (ws.set i q) is qs
  | ws, _, _ => ws
theorem putB_len : ∀ (is : List Nat) (ws wc : va_W), (putB ws is wc).length = ws.length
  | [], ws, wc => by cases wc <;> rfl
  | i :: is, ws, [] => rfl
  | i :: is, ws, q :: qs => by
    show (putB (ws.set i q) is qs).length = _
    rw [putB_len, List.length_set]
/-- a place that isn't the callee's stays; each of the callee's places holds a cell of its -/
theorem putB_at : ∀ (is : List Nat) (ws wc : va_W) (k : Nat) (q : Nat × va_E), (putB ws is wc)[k]? = some q → (ws[k]? = some q ∧ (k ∉ is ∨ wc.length < is.length)) ∨ q ∈ wc
  | [], ws, wc, k, q, h => by
    have h1 : putB ws [] wc = ws := by cases wc <;> rfl
    rw [h1] at h
    exact Or.inl ⟨h, Or.inl List.not_mem_nil⟩
  | i :: is, ws, [], k, q, h => Or.inl ⟨h, Or.inr (Nat.succ_pos _)⟩
  | i :: is, ws, q0 :: qs, k, q, h => by
    have h1 : (putB (ws.set i q0) is qs)[k]? = some q := h
    rcases putB_at is (ws.set i q0) qs k q h1 with ⟨h2, h3⟩ | h2
    · by_cases hk : k = i
      · subst hk
        have hl : k < ws.length := by
          have := (List.getElem?_eq_some_iff.mp h2).1
          rwa [List.length_set] at this
        rw [List.getElem?_set_self hl] at h2
        cases h2
        exact Or.inr List.mem_cons_self
      · rw [List.getElem?_set_ne (Ne.symm hk)] at h2
        refine Or.inl ⟨h2, ?_⟩
        rcases h3 with h3 | h3
        · exact Or.inl (fun z => (List.mem_cons.mp z).elim hk h3)
        · exact Or.inr (Nat.succ_lt_succ h3)
    · exact Or.inr (List.mem_cons_of_mem _ h2)
theorem putB_adr : ∀ (is : List Nat) (ws wc wc0 : va_W), is.map (fun i => ws[i]?) = wc0.map some → wc.map Prod.fst = wc0.map Prod.fst → va_nd is = true → (putB ws is wc).map Prod.fst = ws.map Prod.fst
  | [], ws, wc, wc0, _, _, _ => by cases wc <;> rfl
  | i :: is, ws, [], wc0, _, _, _ => rfl
  | i :: is, ws, q0 :: qs, [], h, _, _ => by cases h
  | i :: is, ws, q0 :: qs, q1 :: wc0, h, ha, hn => by
    simp only [List.map_cons, List.cons.injEq] at h ha
    have hl := (List.getElem?_eq_some_iff.mp h.1).1
    have hn1 : i ∉ is ∧ va_nd is = true := by
      simpa [va_nd] using hn
    have hs : (ws.set i q0).map Prod.fst = ws.map Prod.fst := by
      apply List.ext_getElem?
      intro k
      rw [List.getElem?_map, List.getElem?_map]
      by_cases hk : k = i
      · subst hk
        rw [List.getElem?_set_self hl, h.1]
        exact congrArg some ha.1
      · rw [List.getElem?_set_ne (Ne.symm hk)]
    have hm : is.map (fun j => (ws.set i q0)[j]?) = wc0.map some := by
      rw [← h.2]
      apply List.map_congr_left
      intro j hj
      rw [List.getElem?_set_ne (fun z => hn1.1 (by rw [z]; exact hj))]
    show (putB (ws.set i q0) is qs).map Prod.fst = _
    rw [putB_adr is (ws.set i q0) qs wc0 hm ha.2 hn1.2, hs]
theorem va_D.adr {A : Nat → Prop} {ws ws' : va_W} (h : va_D A ws) (ha : ws'.map Prod.fst = ws.map Prod.fst) : va_D A ws' := by
  have key : ∀ (k : Nat) (q : Nat × va_E), ws'[k]? = some q → ∃ q0, ws[k]? = some q0 ∧ q0.1 = q.1 := by
    intro k q hk
    have h1 : (ws'.map Prod.fst)[k]? = some q.1 := by rw [List.getElem?_map, hk]; rfl
    rw [ha, List.getElem?_map] at h1
    cases h2 : ws[k]? with
    | none => rw [h2] at h1; cases h1
    | some q0 => rw [h2] at h1; exact ⟨q0, rfl, Option.some.inj h1⟩
  refine ⟨fun i j x y hi hj hxy => ?_, fun k q hk => ?_⟩
  · obtain ⟨x0, h1, h2⟩ := key i x hi
    obtain ⟨y0, h3, h4⟩ := key j y hj
    exact h.1 i j x0 y0 h1 h3 (h2.trans (hxy.trans h4.symm))
  · obtain ⟨q0, h1, h2⟩ := key k q hk
    rw [← h2]
    exact h.2 k q0 h1
/-- behind a call: the callee's cells at their places, the others as they were -/
theorem putB_join {A0 : Nat → Prop} {D : va_G} {cl : List vw_C} {ws wc wc' : va_W} {H H1 : Heap} (hP : va_P D cl ws H) (hD : va_D A0 ws) (isC : List Nat) (hC : isC.map (fun i => ws[i]?) = wc.map some) (hn : va_nd isC = true) (ha : wc'.map Prod.fst = wc.map Prod.fst)
    (hk : ∀ q : Nat, q < H.size → ¬ va_A wc H.size q → H1[q]? = H[q]?) (hP1 : va_P D cl wc' H1) : va_P D cl (putB ws isC wc') H1 ∧ va_D A0 (putB ws isC wc') := by
  have hlen : wc'.length = isC.length := by
    have h1 := congrArg List.length ha
    have h2 := congrArg List.length hC
    simp only [List.length_map] at h1 h2
    omega
  refine ⟨fun k q hq => ?_, hD.adr (putB_adr isC ws wc' wc hC ha hn)⟩
  rcases putB_at isC ws wc' k q hq with ⟨h1, h2⟩ | h1
  · have hni : k ∉ isC := h2.elim id (fun z => absurd z (by omega))
    have hl := (hP k q h1).lt
    refine (hP k q h1).kept (hk q.1 hl ?_)
    rintro (⟨k2, e, h3⟩ | h3)
    · have h4 : (isC.map (fun i => ws[i]?))[k2]? = some (some (q.1, e)) := by rw [hC, List.getElem?_map, h3]; rfl
      rw [List.getElem?_map] at h4
      cases h5 : isC[k2]? with
      | none => rw [h5] at h4; cases h4
      | some j =>
        rw [h5] at h4
        have h6 : ws[j]? = some (q.1, e) := Option.some.inj h4
        have := hD.1 k j q (q.1, e) h1 h6 rfl
        subst this
        exact hni (List.mem_of_getElem? h5)
    · omega
  · obtain ⟨j, hj⟩ := List.getElem?_of_mem h1
    exact hP1 j q hj
section GC
variable {p : Program} {l : Launch} {e : Env} {R : Room} {s : State} {m : MethodId} {args : Array Value} {below : List Frame} {meth : Method} {c : Code} {Q : State → Prop}
variable {D : va_G} {tys : List (ClassId × FieldType)} {A : Nat → Prop} {cc : ByteArray} {nL kc ks : Nat} {own : String} {Ts : List Cond}
variable {ws ws' : va_W} {lv lv' : List (Nat × Value)} {pc : Nat} {st rest : List Value}
variable {y : MethodName} {wds ws9 : List Cond} {rm : Room} {bytes : ByteArray} {maxL n index : Nat} {ret : Option FieldType} {C : String} {b : Nat} {av : List Value} {wc wc' : va_W}
theorem gPreV (hK : va_K D vwCl tys s) {H : Heap} (hP : va_P D vwCl wc H) (hD : va_D (fun _ => True) wc) {ci : Nat} {T : u_T} {N q0 : Nat} {fs : List Value} (hc : vwCl[ci]? = some (C, T, N)) (he : wc[q0]? = some (b, .inr (ci, fs))) : PreV s H C b (gPc D tys wc (.ref b :: av) H.size) av :=
  ⟨gPc_blind _ _ _ _ _, va_recv hK hP hc he, fun U hU hW => ⟨rfl, by rw [hU], by rw [hU]; exact hP, va_K.moved hW.alike hK, hD⟩⟩
theorem gPreS (hK : va_K D vwCl tys s) {H : Heap} (hP : va_P D vwCl wc H) (hD : va_D (fun _ => True) wc) : PreS s H (gPc D tys wc av H.size) av :=
  ⟨gPc_blind _ _ _ _ _, fun U hU hW => ⟨rfl, by rw [hU], by rw [hU]; exact hP, va_K.moved hW.alike hK, hD⟩⟩
/-- a virtual call that answers an int: the answer and the cells are told -/
theorem g_callVi (X : gX p s m args c D tys A cc nL own Ts) {r0 : Int32} (hM : MI l y wds rm D tys wc (.ref b :: av) (fun r u => r = r0 ∧ u = wc')) (pc' : Nat) (isC : List Nat) (hG : GoodIn Ts (wsV own index C y wds)) (hwd : wds = Cond.code y bytes maxL ret :: ws9)
    (hdy : y.cls = C ∧ y.cls ≠ "java/lang/invoke/MethodHandle" ∧ y.cls ≠ "java/lang/invoke/VarHandle" ∧ (parseMethodDescriptor y.desc).map (fun d => d.parameters.length) = some n) (hnn : av.length = n) (hR : rm.frames + 1 ≤ R.frames ∧ 8 + (maxL + 11) + rm.locals ≤ R.locals) {ci : Nat} {T : u_T} {N q0 : Nat} {fs : List Value} (hc : vwCl[ci]? = some (C, T, N)) (he : wc[q0]? = some (b, .inr (ci, fs)))
    (hst : st = av.reverse ++ .ref b :: rest) (hrest : (rest.map fun v => v.category).sum ≤ 8) (hC : isC.map (fun i => ws[i]?) = wc.map some) (hn : va_nd isC = true) (ha : wc'.map Prod.fst = wc.map Prod.fst) (hws : putB ws isC wc' = ws')
    (hd : decode cc pc = .ok (.invokevirtual index, 3)) (hpc : pc + 3 = pc') (hf : kc + rm.cells ≤ R.cells ∧ ks + rm.slots ≤ R.slots) (k : G p l e R s m args below meth c Q D A nL (kc + rm.cells) (ks + rm.slots) ws' lv pc' (.int r0 :: rest)) : G p l e R s m args below meth c Q D A nL kc ks ws lv pc st := by
  subst hnn
  subst hpc
  subst hst
  subst hws
  intro H locs ls hP hD hS hl
  have hPc : va_P D vwCl wc H := (va_P.sub hP isC (fm_map isC wc hC))
  have hDc : va_D (fun _ => True) wc := (va_D.sub hD isC hn hC).weaken (fun _ _ _ _ => trivial)
  have hFc := va_free (wc := wc) hD hS X.hA isC hC
  refine va_calli (va_runV (As := av) (rest := rest) X.fix (hM H.size) (cwV av.length X.hts hG hwd rfl rfl hdy hR) (gPreV X.K hPc hDc hc he) rfl rfl hl.1 rfl (lv_room hrest) hd hf) hS (fun q _ h => hFc q h) hFc (fun r u t H1 locs1 ht hvm hw hB hz1 hk1 hS => ?_)
  obtain ⟨rfl, rfl⟩ := hw
  obtain ⟨hP1, hK1, hD1⟩ := hB
  rw [ht] at hP1
  obtain ⟨hP2, hD2⟩ := putB_join hP hD isC hC hn ha hk1 hP1
  exact k H1 locs1 ls hP2 hD2 hS hl
theorem g_callSi (X : gX p s m args c D tys A cc nL own Ts) {r0 : Int32} (hM : MI l y wds rm D tys wc av (fun r u => r = r0 ∧ u = wc')) (pc' : Nat) (isC : List Nat) (hG : GoodIn Ts (va_wsS own index y wds)) (hwd : wds = Cond.code y bytes maxL ret :: ws9)
    (hdy : y.cls ≠ "java/lang/invoke/MethodHandle" ∧ y.cls ≠ "java/lang/invoke/VarHandle" ∧ (parseMethodDescriptor y.desc).map (fun d => d.parameters.length) = some n) (hnn : av.length = n) (hR : rm.frames + 1 ≤ R.frames ∧ 8 + (maxL + 11) + rm.locals ≤ R.locals)
    (hst : st = av.reverse ++ rest) (hrest : (rest.map fun v => v.category).sum ≤ 8) (hC : isC.map (fun i => ws[i]?) = wc.map some) (hn : va_nd isC = true) (ha : wc'.map Prod.fst = wc.map Prod.fst) (hws : putB ws isC wc' = ws')
    (hd : decode cc pc = .ok (.invokestatic index, 3)) (hpc : pc + 3 = pc') (hf : kc + rm.cells ≤ R.cells ∧ ks + rm.slots ≤ R.slots) (k : G p l e R s m args below meth c Q D A nL (kc + rm.cells) (ks + rm.slots) ws' lv pc' (.int r0 :: rest)) : G p l e R s m args below meth c Q D A nL kc ks ws lv pc st := by
  subst hnn
  subst hpc
  subst hst
  subst hws
  intro H locs ls hP hD hS hl
  have hPc : va_P D vwCl wc H := (va_P.sub hP isC (fm_map isC wc hC))
  have hDc : va_D (fun _ => True) wc := (va_D.sub hD isC hn hC).weaken (fun _ _ _ _ => trivial)
  have hFc := va_free (wc := wc) hD hS X.hA isC hC
  refine va_calli (va_runS (As := av) (rest := rest) X.fix (hM H.size) (va_cwS av.length X.hts hG hwd rfl rfl hdy hR) (gPreS X.K hPc hDc) rfl rfl hl.1 rfl (lv_room hrest) hd hf) hS (fun q _ h => hFc q h) hFc (fun r u t H1 locs1 ht hvm hw hB hz1 hk1 hS => ?_)
  obtain ⟨rfl, rfl⟩ := hw
  obtain ⟨hP1, hK1, hD1⟩ := hB
  rw [ht] at hP1
  obtain ⟨hP2, hD2⟩ := putB_join hP hD isC hC hn ha hk1 hP1
  exact k H1 locs1 ls hP2 hD2 hS hl
theorem g_callVl (X : gX p s m args c D tys A cc nL own Ts) {r0 : Int64} (hM : ML l y wds rm D tys wc (.ref b :: av) (fun r u => r = r0 ∧ u = wc')) (pc' : Nat) (isC : List Nat) (hG : GoodIn Ts (wsV own index C y wds)) (hwd : wds = Cond.code y bytes maxL ret :: ws9)
    (hdy : y.cls = C ∧ y.cls ≠ "java/lang/invoke/MethodHandle" ∧ y.cls ≠ "java/lang/invoke/VarHandle" ∧ (parseMethodDescriptor y.desc).map (fun d => d.parameters.length) = some n) (hnn : av.length = n) (hR : rm.frames + 1 ≤ R.frames ∧ 8 + (maxL + 11) + rm.locals ≤ R.locals) {ci : Nat} {T : u_T} {N q0 : Nat} {fs : List Value} (hc : vwCl[ci]? = some (C, T, N)) (he : wc[q0]? = some (b, .inr (ci, fs)))
    (hst : st = av.reverse ++ .ref b :: rest) (hrest : (rest.map fun v => v.category).sum ≤ 8) (hC : isC.map (fun i => ws[i]?) = wc.map some) (hn : va_nd isC = true) (ha : wc'.map Prod.fst = wc.map Prod.fst) (hws : putB ws isC wc' = ws')
    (hd : decode cc pc = .ok (.invokevirtual index, 3)) (hpc : pc + 3 = pc') (hf : kc + rm.cells ≤ R.cells ∧ ks + rm.slots ≤ R.slots) (k : G p l e R s m args below meth c Q D A nL (kc + rm.cells) (ks + rm.slots) ws' lv pc' (.long r0 :: rest)) : G p l e R s m args below meth c Q D A nL kc ks ws lv pc st := by
  subst hnn
  subst hpc
  subst hst
  subst hws
  intro H locs ls hP hD hS hl
  have hPc : va_P D vwCl wc H := (va_P.sub hP isC (fm_map isC wc hC))
  have hDc : va_D (fun _ => True) wc := (va_D.sub hD isC hn hC).weaken (fun _ _ _ _ => trivial)
  have hFc := va_free (wc := wc) hD hS X.hA isC hC
  refine va_calll (va_runV (As := av) (rest := rest) X.fix (hM H.size) (cwV av.length X.hts hG hwd rfl rfl hdy hR) (gPreV X.K hPc hDc hc he) rfl rfl hl.1 rfl (lv_room hrest) hd hf) hS (fun q _ h => hFc q h) hFc (fun r u t H1 locs1 ht hvm hw hB hz1 hk1 hS => ?_)
  obtain ⟨rfl, rfl⟩ := hw
  obtain ⟨hP1, hK1, hD1⟩ := hB
  rw [ht] at hP1
  obtain ⟨hP2, hD2⟩ := putB_join hP hD isC hC hn ha hk1 hP1
  exact k H1 locs1 ls hP2 hD2 hS hl
theorem g_callVd (X : gX p s m args c D tys A cc nL own Ts) {r0 : UInt64} (hM : MDb l y wds rm D tys wc (.ref b :: av) (fun r u => r = r0 ∧ u = wc')) (pc' : Nat) (isC : List Nat) (hG : GoodIn Ts (wsV own index C y wds)) (hwd : wds = Cond.code y bytes maxL ret :: ws9)
    (hdy : y.cls = C ∧ y.cls ≠ "java/lang/invoke/MethodHandle" ∧ y.cls ≠ "java/lang/invoke/VarHandle" ∧ (parseMethodDescriptor y.desc).map (fun d => d.parameters.length) = some n) (hnn : av.length = n) (hR : rm.frames + 1 ≤ R.frames ∧ 8 + (maxL + 11) + rm.locals ≤ R.locals) {ci : Nat} {T : u_T} {N q0 : Nat} {fs : List Value} (hc : vwCl[ci]? = some (C, T, N)) (he : wc[q0]? = some (b, .inr (ci, fs)))
    (hst : st = av.reverse ++ .ref b :: rest) (hrest : (rest.map fun v => v.category).sum ≤ 8) (hC : isC.map (fun i => ws[i]?) = wc.map some) (hn : va_nd isC = true) (ha : wc'.map Prod.fst = wc.map Prod.fst) (hws : putB ws isC wc' = ws')
    (hd : decode cc pc = .ok (.invokevirtual index, 3)) (hpc : pc + 3 = pc') (hf : kc + rm.cells ≤ R.cells ∧ ks + rm.slots ≤ R.slots) (k : G p l e R s m args below meth c Q D A nL (kc + rm.cells) (ks + rm.slots) ws' lv pc' (.double r0 :: rest)) : G p l e R s m args below meth c Q D A nL kc ks ws lv pc st := by
  subst hnn
  subst hpc
  subst hst
  subst hws
  intro H locs ls hP hD hS hl
  have hPc : va_P D vwCl wc H := (va_P.sub hP isC (fm_map isC wc hC))
  have hDc : va_D (fun _ => True) wc := (va_D.sub hD isC hn hC).weaken (fun _ _ _ _ => trivial)
  have hFc := va_free (wc := wc) hD hS X.hA isC hC
  refine va_calld (va_runV (As := av) (rest := rest) X.fix (hM H.size) (cwV av.length X.hts hG hwd rfl rfl hdy hR) (gPreV X.K hPc hDc hc he) rfl rfl hl.1 rfl (lv_room hrest) hd hf) hS (fun q _ h => hFc q h) hFc (fun r u t H1 locs1 ht hvm hw hB hz1 hk1 hS => ?_)
  obtain ⟨rfl, rfl⟩ := hw
  obtain ⟨hP1, hK1, hD1⟩ := hB
  rw [ht] at hP1
  obtain ⟨hP2, hD2⟩ := putB_join hP hD isC hC hn ha hk1 hP1
  exact k H1 locs1 ls hP2 hD2 hS hl
theorem g_callVv (X : gX p s m args c D tys A cc nL own Ts) (hM : MV l y wds rm D tys wc (.ref b :: av) (fun u => u = wc')) (pc' : Nat) (isC : List Nat) (hG : GoodIn Ts (wsV own index C y wds)) (hwd : wds = Cond.code y bytes maxL ret :: ws9)
    (hdy : y.cls = C ∧ y.cls ≠ "java/lang/invoke/MethodHandle" ∧ y.cls ≠ "java/lang/invoke/VarHandle" ∧ (parseMethodDescriptor y.desc).map (fun d => d.parameters.length) = some n) (hnn : av.length = n) (hR : rm.frames + 1 ≤ R.frames ∧ 8 + (maxL + 11) + rm.locals ≤ R.locals) {ci : Nat} {T : u_T} {N q0 : Nat} {fs : List Value} (hc : vwCl[ci]? = some (C, T, N)) (he : wc[q0]? = some (b, .inr (ci, fs)))
    (hst : st = av.reverse ++ .ref b :: rest) (hrest : (rest.map fun v => v.category).sum ≤ 8) (hC : isC.map (fun i => ws[i]?) = wc.map some) (hn : va_nd isC = true) (ha : wc'.map Prod.fst = wc.map Prod.fst) (hws : putB ws isC wc' = ws')
    (hd : decode cc pc = .ok (.invokevirtual index, 3)) (hpc : pc + 3 = pc') (hf : kc + rm.cells ≤ R.cells ∧ ks + rm.slots ≤ R.slots) (k : G p l e R s m args below meth c Q D A nL (kc + rm.cells) (ks + rm.slots) ws' lv pc' rest) : G p l e R s m args below meth c Q D A nL kc ks ws lv pc st := by
  subst hnn
  subst hpc
  subst hst
  subst hws
  intro H locs ls hP hD hS hl
  have hPc : va_P D vwCl wc H := (va_P.sub hP isC (fm_map isC wc hC))
  have hDc : va_D (fun _ => True) wc := (va_D.sub hD isC hn hC).weaken (fun _ _ _ _ => trivial)
  have hFc := va_free (wc := wc) hD hS X.hA isC hC
  refine va_callv (va_runV (As := av) (rest := rest) X.fix (hM H.size) (cwV av.length X.hts hG hwd rfl rfl hdy hR) (gPreV X.K hPc hDc hc he) rfl rfl hl.1 rfl (lv_room hrest) hd hf) hS (fun q _ h => hFc q h) hFc (fun u t H1 locs1 ht hvm hw hB hz1 hk1 hS => ?_)
  obtain rfl := hw
  obtain ⟨hP1, hK1, hD1⟩ := hB
  rw [ht] at hP1
  obtain ⟨hP2, hD2⟩ := putB_join hP hD isC hC hn ha hk1 hP1
  exact k H1 locs1 ls hP2 hD2 hS hl
end GC
