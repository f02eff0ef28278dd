/-! THE OUTER CLASS: private members of nest mates, exceptions. gN: what a walk in it takes as given beside gX -/
def gH (q : Nat × String × String × String) : Cond := .fieldLinkNest "GlassRopes" q.1 q.2.1 q.2.2.1 q.2.2.2 "GlassRopes"
def gNestF : List (Nat × String × String × String) := [(101, "GlassRopes$Ropes", "column", "[I"), (111, "GlassRopes$Ropes", "toRight", "[Z"), (120, "GlassRopes$Course", "glass", "LGlassRopes$Glass;"), (130, "GlassRopes$Course", "coins", "I"), (159, "GlassRopes$Course", "day", "I"), (202, "GlassRopes$Course", "feastDays", "I"), (45, "GlassRopes$Windows", "size", "I"), (66, "GlassRopes$Course", "ropes", "LGlassRopes$Ropes;"), (70, "GlassRopes$Ropes", "size", "I"), (83, "GlassRopes$Feasts", "size", "I"), (91, "GlassRopes$Course", "wind", "I")]
def gStrs : List (Nat × String) := [(109, "no such rope"), (118, "no such window"), (128, "days is out of its range"), (137, "no such pane"), (144, "no such window or number"), (150, "no such rope or number"), (154, "no such number"), (35, "w, h or worth is out of its range"), (42, "some pane of the window is not there"), (51, "there are as many windows as can be"), (62, "no such column"), (64, "strength is out of its range"), (76, "no rope can be hung there"), (81, "every or on is out of its range"), (84, "there are as many feasts as can be"), (89, "wind is out of its range"), (97, "no such rope or column"), (99, "a rope hangs there")]
abbrev xA : String := "java/lang/IllegalArgumentException"
abbrev xI : String := "java/lang/IndexOutOfBoundsException"
abbrev xS : String := "java/lang/IllegalStateException"
def gExc : List String := [xA, xI, xS]
abbrev gD (C : String) : Cond := .declares ⟨C, "<init>", "(Ljava/lang/String;)V"⟩
def gOdd : List Cond := [.castable xA xA, .castable xI xI, .castable xS xS, gD "java/lang/RuntimeException", gD "java/lang/Exception", gD "java/lang/Throwable"]
theorem gOdd_tab : gOdd.all Cond.onTables = true := by decide +kernel
theorem gOdd_warm {s U : State} (hW : s.WarmedH U.vm) : ∀ w ∈ gOdd, va_Nw w s → va_Nw w U := by
  intro w hw h
  simp only [gOdd, List.mem_cons, List.not_mem_nil, or_false] at hw
  rcases hw with rfl | rfl | rfl | rfl | rfl | rfl
  · exact va_Nw.warmC hW h
  · exact va_Nw.warmC hW h
  · exact va_Nw.warmC hW h
  · exact va_Nw.warmD hW h
  · exact va_Nw.warmD hW h
  · exact va_Nw.warmD hW h
def gN (A : Nat → Prop) (U : State) : Prop :=
  (∀ q ∈ gNestF, va_Nw (gH q) U) ∧ (∀ w ∈ gOdd, va_Nw w U) ∧ True ∧ (∀ q ∈ gStrs, ∃ a : Nat, vk_R "GlassRopes" q.1 q.2 a U) ∧
  vx_Zq Bundle.tN "UNASSIGNED_STACK" Bundle.steD A U U.heap ∧ vx_Zq Bundle.tN "SUPPRESSED_SENTINEL" Bundle.listD A U U.heap
theorem gN.blind {A : Nat → Prop} {U : State} (h : gN A U) (g : JFrame) (mk : MethodId) (a : Array Value) : gN A (U.calling g mk a) := by
  obtain ⟨h1, h2, h3, h4, h5, h6⟩ := h
  refine ⟨fun q hq => va_Nw.same rfl rfl (h1 q hq), fun w hw => va_Nw.same (u := U) (List.all_eq_true.mp gOdd_tab w hw) rfl (h2 w hw), trivial, fun q hq => ?_, vx_Zq.moved (u := U) (Vm.Alike.refl U.vm) h5, vx_Zq.moved (u := U) (Vm.Alike.refl U.vm) h6⟩
  obtain ⟨a, ha⟩ := h4 q hq
  exact ⟨a, vk_R.same (u := U) rfl ha⟩
/-- at a call: the callee's facts out of the caller's -/
theorem gN.call {A A1 : Nat → Prop} {s U : State} {H : Heap} {locs : List Loc} (h : gN A s) (hS : va_S A s.heap H locs) (hA : ∀ q, A1 q → A q) (hU : U.heap = H) (hW : s.WarmedH U.vm) : gN A1 U := by
  obtain ⟨h1, h2, h3, h4, h5, h6⟩ := h
  refine ⟨fun q hq => va_Nw.warmF hW (h1 q hq), fun w hw => gOdd_warm hW w hw (h2 w hw), trivial, fun q hq => ?_, ?_, ?_⟩
  · obtain ⟨a, ha⟩ := h4 q hq
    exact ⟨a, vk_R.warm hW ha⟩
  · rw [hU]
    exact (vx_Zq.moved hW.alike (h5.kept hS.2.1)).narrow hA
  · rw [hU]
    exact (vx_Zq.moved hW.alike (h6.kept hS.2.1)).narrow hA
def gPcN (D : va_G) (tys : List (ClassId × FieldType)) (ws : va_W) (av : List Value) (sz : Nat) : Array Value → State → Prop := va_Pc av (fun U => U.heap.size = sz ∧ va_P D vwCl ws U.heap ∧ va_K D vwCl tys U ∧ va_D (fun _ => True) ws ∧ gN (va_A ws sz) U)
theorem gPcN_blind (D : va_G) (tys : List (ClassId × FieldType)) (ws : va_W) (av : List Value) (sz : Nat) : FrameBlind (gPcN D tys ws av sz) :=
  fun a U g mk q => by
    obtain ⟨q0, q1, qP, qK, qD, qN⟩ := q
    exact ⟨q0, q1, qP, va_K.moved (u := U) (U := U.calling g mk a) (Vm.Alike.refl U.vm) qK, qD, qN.blind g mk a⟩
def MIN (l : Launch) (y : MethodName) (wds : List Cond) (rm : Room) (D : va_G) (tys : List (ClassId × FieldType)) (ws : va_W) (av : List Value) (post : Int32 → va_W → Prop) : Prop :=
  ∀ sz : Nat, Met l y wds rm (gPcN D tys ws av sz) (va_Qi post (gB D tys (va_A ws sz)) (va_A ws sz)) rm.cells rm.slots (va_A ws sz)
def MLN (l : Launch) (y : MethodName) (wds : List Cond) (rm : Room) (D : va_G) (tys : List (ClassId × FieldType)) (ws : va_W) (av : List Value) (post : Int64 → va_W → Prop) : Prop :=
  ∀ sz : Nat, Met l y wds rm (gPcN D tys ws av sz) (va_Ql post (gB D tys (va_A ws sz)) (va_A ws sz)) rm.cells rm.slots (va_A ws sz)
def MDN (l : Launch) (y : MethodName) (wds : List Cond) (rm : Room) (D : va_G) (tys : List (ClassId × FieldType)) (ws : va_W) (av : List Value) (post : UInt64 → va_W → Prop) : Prop :=
  ∀ sz : Nat, Met l y wds rm (gPcN D tys ws av sz) (va_Qd post (gB D tys (va_A ws sz)) (va_A ws sz)) rm.cells rm.slots (va_A ws sz)
/-- returns, or throws (pE: which class) and leaves its cells as they were -/
def MX (l : Launch) (y : MethodName) (wds : List Cond) (rm : Room) (D : va_G) (tys : List (ClassId × FieldType)) (ws : va_W) (av : List Value) (post : Int32 → va_W → Prop) (pE : String → Prop) : Prop :=
  ∀ sz : Nat, vx_Met l y wds rm (gPcN D tys ws av sz) (va_Qi post (gB D tys (va_A ws sz)) (va_A ws sz)) (vx_X (fun u : va_W => u = ws) (fun E u t => pE E ∧ gB D tys (va_A ws sz) u t) (va_A ws sz)) rm.cells rm.slots (va_A ws sz)
section GMN
variable {l : Launch} {D : va_G} {tys : List (ClassId × FieldType)}
theorem MIN_of {y : MethodName} {wds wds' : List Cond} {rm : Room} {cc : ByteArray} {nL : Nat} {ty : FieldType} {ws : va_W} {av : List Value} {post : Int32 → va_W → Prop} (lv0 : List (Nat × Value)) (hy : plainName y.cls = true) (hw : wds = Cond.code y cc nL (some ty) :: wds') (hlen : (lg_sl av).length ≤ nL) (hlv : lv_args 0 av = lv0)
    (body : ∀ (p : Program) (e : Env) (s : State) (m : MethodId) (args : Array Value) (below : List Frame) (meth : Method) (c : Code) (A : Nat → Prop) (Q : State → Prop), gX p s m args c D tys A cc nL y.cls wds → gN A s →
      (∀ (u : va_W) (lv : List (Nat × Value)) (pc : Nat) (r : Int32), decode cc pc = .ok (.ireturn, 1) → narrow ty (.int r) = .int r → post r u → G p l e rm s m args below meth c Q D A nL rm.cells rm.slots u lv pc [.int r]) →
      G p l e rm s m args below meth c Q D A nL 0 0 ws lv0 0 []) : MIN l y wds rm D tys ws av post := by
  intro sz
  refine Met.ofW (cc := cc) (maxL := nL) (ret := some ty) hy hw ?_
  intro p e s m args below meth c s₁ B hml hv
  obtain ⟨rfl, hsz, hP, hK, hD0, hN⟩ := hv
  have hlocks := B.notSynchronized
  subst hsz
  have hl := lv_entry av (n := nL) hlen
  rw [lg_entry_eq]
  rw [hlv] at hl
  refine body p e s m _ below meth c (va_A ws s.heap.size) _ ⟨B.exec, B.bytes, hml, findClass_of_methodNamed B.named, atoms_spec (ws := wds) B.pre, hK, fun q h => Or.inr h⟩ hN ?_ _ _ _ hP hD0.self va_S.rf hl
  intro u lv pc r hd hnr hp H locs ls hP hD hS hl
  exact W.zret B.exec B.bytes B.returns hnr (fun t ht hW => ⟨⟨r, u, rfl, hp, by rw [ht]; exact hP, va_K.moved hW.alike hK, hD⟩, hS.F ht⟩) hS.2.2 hd hlocks
theorem MLN_of {y : MethodName} {wds wds' : List Cond} {rm : Room} {cc : ByteArray} {nL : Nat} {ws : va_W} {av : List Value} {post : Int64 → va_W → Prop} (lv0 : List (Nat × Value)) (hy : plainName y.cls = true) (hw : wds = Cond.code y cc nL (some .long) :: wds') (hlen : (lg_sl av).length ≤ nL) (hlv : lv_args 0 av = lv0)
    (body : ∀ (p : Program) (e : Env) (s : State) (m : MethodId) (args : Array Value) (below : List Frame) (meth : Method) (c : Code) (A : Nat → Prop) (Q : State → Prop), gX p s m args c D tys A cc nL y.cls wds → gN A s →
      (∀ (u : va_W) (lv : List (Nat × Value)) (pc : Nat) (r : Int64), decode cc pc = .ok (.lreturn, 1) → post r u → G p l e rm s m args below meth c Q D A nL rm.cells rm.slots u lv pc [.long r]) →
      G p l e rm s m args below meth c Q D A nL 0 0 ws lv0 0 []) : MLN l y wds rm D tys ws av post := by
  intro sz
  refine Met.ofW (cc := cc) (maxL := nL) (ret := some .long) hy hw ?_
  intro p e s m args below meth c s₁ B hml hv
  obtain ⟨rfl, hsz, hP, hK, hD0, hN⟩ := hv
  have hlocks := B.notSynchronized
  subst hsz
  have hl := lv_entry av (n := nL) hlen
  rw [lg_entry_eq]
  rw [hlv] at hl
  refine body p e s m _ below meth c (va_A ws s.heap.size) _ ⟨B.exec, B.bytes, hml, findClass_of_methodNamed B.named, atoms_spec (ws := wds) B.pre, hK, fun q h => Or.inr h⟩ hN ?_ _ _ _ hP hD0.self va_S.rf hl
  intro u lv pc r hd hp H locs ls hP hD hS hl
  exact W.lret B.exec B.bytes B.returns (fun t ht hW => ⟨⟨r, u, rfl, hp, by rw [ht]; exact hP, va_K.moved hW.alike hK, hD⟩, hS.F ht⟩) hS.2.2 hd hlocks
theorem MDN_of {y : MethodName} {wds wds' : List Cond} {rm : Room} {cc : ByteArray} {nL : Nat} {ws : va_W} {av : List Value} {post : UInt64 → va_W → Prop} (lv0 : List (Nat × Value)) (hy : plainName y.cls = true) (hw : wds = Cond.code y cc nL (some .double) :: wds') (hlen : (lg_sl av).length ≤ nL) (hlv : lv_args 0 av = lv0)
    (body : ∀ (p : Program) (e : Env) (s : State) (m : MethodId) (args : Array Value) (below : List Frame) (meth : Method) (c : Code) (A : Nat → Prop) (Q : State → Prop), gX p s m args c D tys A cc nL y.cls wds → gN A s →
      (∀ (u : va_W) (lv : List (Nat × Value)) (pc : Nat) (r : UInt64), decode cc pc = .ok (.dreturn, 1) → post r u → G p l e rm s m args below meth c Q D A nL rm.cells rm.slots u lv pc [.double r]) →
      G p l e rm s m args below meth c Q D A nL 0 0 ws lv0 0 []) : MDN l y wds rm D tys ws av post := by
  intro sz
  refine Met.ofW (cc := cc) (maxL := nL) (ret := some .double) hy hw ?_
  intro p e s m args below meth c s₁ B hml hv
  obtain ⟨rfl, hsz, hP, hK, hD0, hN⟩ := hv
  have hlocks := B.notSynchronized
  subst hsz
  have hl := lv_entry av (n := nL) hlen
  rw [lg_entry_eq]
  rw [hlv] at hl
  refine body p e s m _ below meth c (va_A ws s.heap.size) _ ⟨B.exec, B.bytes, hml, findClass_of_methodNamed B.named, atoms_spec (ws := wds) B.pre, hK, fun q h => Or.inr h⟩ hN ?_ _ _ _ hP hD0.self va_S.rf hl
  intro u lv pc r hd hp H locs ls hP hD hS hl
  exact W.dret B.exec B.bytes B.returns (fun t ht hW => ⟨⟨r, u, rfl, hp, by rw [ht]; exact hP, va_K.moved hW.alike hK, hD⟩, hS.F ht⟩) hS.2.2 hd hlocks
theorem MX_of {y : MethodName} {wds wds' : List Cond} {rm : Room} {cc : ByteArray} {nL : Nat} {ty : FieldType} {ws : va_W} {av : List Value} {post : Int32 → va_W → Prop} {pE : String → Prop} (hfl : l.stackTraces = false) (lv0 : List (Nat × Value)) (hy : plainName y.cls = true) (hw : wds = Cond.code y cc nL (some ty) :: wds') (hlen : (lg_sl av).length ≤ nL) (hlv : lv_args 0 av = lv0)
    (body : ∀ (p : Program) (e : Env) (s : State) (m : MethodId) (args : Array Value) (below : List Frame) (meth : Method) (c : Code) (A : Nat → Prop) (Q : State → Prop), gX p s m args c D tys A cc nL y.cls wds → gN A s →
      (∀ (u : va_W) (lv : List (Nat × Value)) (pc : Nat) (r : Int32), decode cc pc = .ok (.ireturn, 1) → narrow ty (.int r) = .int r → post r u → G p l e rm s m args below meth c Q D A nL rm.cells rm.slots u lv pc [.int r]) →
      (∀ (lv : List (Nat × Value)) (pc kc ks : Nat) (E text : String) (ik is ic : Nat), Bundle.fit E = true → Cond.classLink "GlassRopes" ik E ∈ wds → Cond.initialized E ∈ wds → (is, text) ∈ gStrs → E ∈ gExc → (∀ w ∈ (vx_atS "GlassRopes" ic E ["java/lang/RuntimeException", "java/lang/Exception"]).filter goodWord, w ∈ wds) → ((vx_atS "GlassRopes" ic E ["java/lang/RuntimeException", "java/lang/Exception"]).filter (fun w => !goodWord w)).all (fun w => decide (w ∈ gOdd)) = true →
        (Cond.classLink "GlassRopes" ik E :: Cond.initialized E :: vx_atS "GlassRopes" ic E ["java/lang/RuntimeException", "java/lang/Exception"]).all vx_ot = true →
        decode cc pc = .ok (.new ik, 3) → decode cc (pc + 3) = .ok (.dup, 1) → decode cc (pc + 4) = .ok (.ldc is, 2) → decode cc (pc + 6) = .ok (.invokespecial ic, 3) → decode cc (pc + 9) = .ok (.athrow, 1) → y.cls = "GlassRopes" → 5 < rm.frames → 82 ≤ rm.locals → kc + 1 ≤ rm.cells → ks + 6 ≤ rm.slots → pE E →
        G p l e rm s m args below meth c Q D A nL kc ks ws lv pc []) →
      G p l e rm s m args below meth c Q D A nL 0 0 ws lv0 0 []) : MX l y wds rm D tys ws av post pE := by
  intro sz
  refine vx_ofW (cc := cc) (maxL := nL) (ret := some ty) hy hw ?_
  intro p e s m args below meth c s₁ B hml hnt hv
  obtain ⟨rfl, hsz, hP, hK, hD0, hN⟩ := hv
  have hlocks := B.notSynchronized
  subst hsz
  have hl := lv_entry av (n := nL) hlen
  rw [lg_entry_eq]
  rw [hlv] at hl
  have hown := findClass_of_methodNamed B.named
  have hts := atoms_spec (ws := wds) B.pre
  refine body p e s m _ below meth c (va_A ws s.heap.size) _ ⟨B.exec, B.bytes, hml, hown, hts, hK, fun q h => Or.inr h⟩ hN ?_ ?_ _ _ _ hP hD0.self va_S.rf hl
  · intro u lv pc r hd hnr hp H locs ls hP hD hS hl
    exact vx_ret (W.zret B.exec B.bytes B.returns hnr (fun t ht hW => ⟨⟨r, u, rfl, hp, by rw [ht]; exact hP, va_K.moved hW.alike hK, hD⟩, hS.F ht⟩) hS.2.2 hd hlocks)
  · intro lv pc kc ks E text ik is ic hfit hk hini hstr hE hat hng hgood d0 d3 d4 d6 d9 hcl hfr hlo hc hs hpE H locs ls hP hD hS hl
    obtain ⟨h1, h2, h3, h4, h5, h6⟩ := id hN
    obtain ⟨sa, hsa⟩ := h4 _ hstr
    have hown9 : s.vm.findClass "GlassRopes" = some m.cls := by rw [← hcl]; exact hown
    refine vx_throwS (names := ["java/lang/RuntimeException", "java/lang/Exception"]) (text := text) (sa := sa) B.exec B.bytes hfl hown9 hfit (by decide +kernel) (hts _ hk) (hts _ hini) hsa ?_ (List.all_eq_true.mp hgood) h5 h6 hS (hl.1.trans hml.symm) d0 d3 d4 d6 d9 (fun x hx => (hnt x hx).elim) hfr (by simpa using hlo) hc hs hlocks ?_ hS.2.2 hc hs
    · refine vx_hat (B := gOdd) (fun w hw => hts _ (hat w hw)) (fun w hw => ?_) (fun w hw => va_Nw.use (List.all_eq_true.mp gOdd_tab w hw) (h2 w hw))
      have := List.all_eq_true.mp hng w hw
      simpa only [decide_eq_true_eq] using this
    · intro t hal hsz hq
      refine ⟨ws, rfl, ⟨hpE, hP.kept (fun k q hk => hq q.1 ((hP k q hk).lt)), va_K.moved hal hK, hD⟩, Nat.le_trans hS.1 hsz, fun q h1 h2 => ?_⟩
      rw [hq q (Nat.lt_of_lt_of_le h1 hS.1)]
      exact hS.2.1 q h1 h2
end GMN
section GCN
variable {p : Program} {l : Launch} {e : Env} {R : Room} {s : State} {m : MethodId} {args : Array Value} {below : List Frame} {meth : Method} {c : Code} {Q : State → Prop}
variable {D : va_G} {tys : List (ClassId × FieldType)} {A : Nat → Prop} {cc : ByteArray} {nL kc ks : Nat} {own : String} {Ts : List Cond}
variable {ws ws' : va_W} {lv lv' : List (Nat × Value)} {pc : Nat} {st rest : List Value}
variable {y : MethodName} {wds ws9 : List Cond} {rm : Room} {bytes : ByteArray} {maxL n index : Nat} {ret : Option FieldType} {C : String} {b : Nat} {av : List Value} {wc wc' : va_W}
/-- a private field of a nest mate -/
theorem g_getN (X : gX p s m args c D tys A cc nL "GlassRopes" Ts) (hN : gN A s) {C : String} {T : u_T} {N ci index a : Nat} (hin : ∀ w ∈ u_ws C T N, w ∈ Ts) (q0 : Nat) (k0 pc' : Nat) {fs : List Value} (he : ws[q0]? = some (a, .inr (ci, fs))) (hc : vwCl[ci]? = some (C, T, N)) (hk : k0 < N) (hl0 : (index, (T k0).1, (T k0).2.1, (T k0).2.2.1) ∈ gNestF) {v : Value} (hv : fs[k0]? = some v) (hd : decode cc pc = .ok (.getfield index, 3)) (hn : pc + 3 = pc') (k : G p l e R s m args below meth c Q D A nL kc ks ws lv pc' (v :: st)) : G p l e R s m args below meth c Q D A nL kc ks ws lv pc (.ref a :: st) := by
  subst hn
  exact fun H locs ls hP hD hS hl => va_getN (D := D) (host := "GlassRopes") X.1 X.2.1 X.hts hin X.2.2.2.1 X.K hP q0 he hc k0 hk (va_Nw.use rfl (hN.1 _ hl0)) (fun _ h => h) hv hd (k H locs ls hP hD hS hl)
theorem g_putN (X : gX p s m args c D tys A cc nL "GlassRopes" Ts) (hN : gN A s) {C : String} {T : u_T} {N ci index a : Nat} (hin : ∀ w ∈ u_ws C T N, w ∈ Ts) (ty0 : Nat → FieldType) (hty : ∀ k, k < N → parseFieldDescriptor (T k).2.2.1 = some (ty0 k)) (hnm : ∀ a, a < N → ∀ b, b < N → a ≠ b → (T a).2.1 ≠ (T b).2.1) (q0 : Nat) (k0 pc' : Nat) {fs : List Value} (he : ws[q0]? = some (a, .inr (ci, fs))) (hc : vwCl[ci]? = some (C, T, N)) (hk : k0 < N) (hl0 : (index, (T k0).1, (T k0).2.1, (T k0).2.2.1) ∈ gNestF) (hfin : (T k0).2.2.2 = false) {ty : FieldType} {v : Value} (hpd : parseFieldDescriptor (T k0).2.2.1 = some ty) (hnv : narrow ty v = v) (hfit : fits ty v = true) (hlen : k0 < fs.length) (hd : decode cc pc = .ok (.putfield index, 3)) (hn : pc + 3 = pc') (hw : ws.set q0 (a, .inr (ci, fs.set k0 v)) = ws') (k : G p l e R s m args below meth c Q D A nL kc ks ws' lv pc' st) : G p l e R s m args below meth c Q D A nL kc ks ws lv pc (v :: .ref a :: st) := by
  subst hn
  subst hw
  exact fun H locs ls hP hD hS hl => va_putN (D := D) (host := "GlassRopes") X.1 X.2.1 X.hts hin ty0 hty hnm X.2.2.2.1 X.K hP hD hS q0 he hc k0 hk (va_Nw.use rfl (hN.1 _ hl0)) (fun _ h => h) hfin hpd hnv hfit hlen hd (fun H locs hP hD hS => k H locs ls hP hD hS hl)
theorem gPreVN (hK : va_K D vwCl tys s) (hN : gN A s) {H : Heap} {locs : List Loc} (hS : va_S A s.heap H locs) (hA : ∀ q, va_A wc H.size q → A q) (hP : va_P D vwCl wc H) (hD : va_D (fun _ => True) wc) {ci : Nat} {T : u_T} {N q0 : Nat} {fs : List Value} (hc : vwCl[ci]? = some (C, T, N)) (he : wc[q0]? = some (b, .inr (ci, fs))) : PreV s H C b (gPcN D tys wc (.ref b :: av) H.size) av :=
  ⟨gPcN_blind _ _ _ _ _, va_recv hK hP hc he, fun U hU hW => ⟨rfl, by rw [hU], by rw [hU]; exact hP, va_K.moved hW.alike hK, hD, hN.call hS hA hU hW⟩⟩
theorem g_callVNi (X : gX p s m args c D tys A cc nL own Ts) (hN : gN A s) {r0 : Int32} (hM : MIN l y wds rm D tys wc (.ref b :: av) (fun r u => r = r0 ∧ u = wc')) (pc' : Nat) (isC : List Nat) (hG : GoodIn Ts (wsV own index C y wds)) (hwd : wds = Cond.code y bytes maxL ret :: ws9)
    (hdy : y.cls = C ∧ y.cls ≠ "java/lang/invoke/MethodHandle" ∧ y.cls ≠ "java/lang/invoke/VarHandle" ∧ (parseMethodDescriptor y.desc).map (fun d => d.parameters.length) = some n) (hnn : av.length = n) (hR : rm.frames + 1 ≤ R.frames ∧ 8 + (maxL + 11) + rm.locals ≤ R.locals) {ci : Nat} {T : u_T} {N q0 : Nat} {fs : List Value} (hc : vwCl[ci]? = some (C, T, N)) (he : wc[q0]? = some (b, .inr (ci, fs)))
    (hst : st = av.reverse ++ .ref b :: rest) (hrest : (rest.map fun v => v.category).sum ≤ 8) (hC : isC.map (fun i => ws[i]?) = wc.map some) (hn : va_nd isC = true) (ha : wc'.map Prod.fst = wc.map Prod.fst) (hws : putB ws isC wc' = ws')
    (hd : decode cc pc = .ok (.invokevirtual index, 3)) (hpc : pc + 3 = pc') (hf : kc + rm.cells ≤ R.cells ∧ ks + rm.slots ≤ R.slots) (k : G p l e R s m args below meth c Q D A nL (kc + rm.cells) (ks + rm.slots) ws' lv pc' (.int r0 :: rest)) : G p l e R s m args below meth c Q D A nL kc ks ws lv pc st := by
  subst hnn
  subst hpc
  subst hst
  subst hws
  intro H locs ls hP hD hS hl
  have hPc : va_P D vwCl wc H := (va_P.sub hP isC (fm_map isC wc hC))
  have hDc : va_D (fun _ => True) wc := (va_D.sub hD isC hn hC).weaken (fun _ _ _ _ => trivial)
  have hFc := va_free (wc := wc) hD hS X.hA isC hC
  refine va_calli (va_runV (As := av) (rest := rest) X.fix (hM H.size) (cwV av.length X.hts hG hwd rfl rfl hdy hR) (gPreVN X.K hN hS hFc hPc hDc hc he) rfl rfl hl.1 rfl (lv_room hrest) hd hf) hS (fun q _ h => hFc q h) hFc (fun r u t H1 locs1 ht hvm hw hB hz1 hk1 hS => ?_)
  obtain ⟨rfl, rfl⟩ := hw
  obtain ⟨hP1, hK1, hD1⟩ := hB
  rw [ht] at hP1
  obtain ⟨hP2, hD2⟩ := putB_join hP hD isC hC hn ha hk1 hP1
  exact k H1 locs1 ls hP2 hD2 hS hl
theorem g_callVNl (X : gX p s m args c D tys A cc nL own Ts) (hN : gN A s) {r0 : Int64} (hM : MLN l y wds rm D tys wc (.ref b :: av) (fun r u => r = r0 ∧ u = wc')) (pc' : Nat) (isC : List Nat) (hG : GoodIn Ts (wsV own index C y wds)) (hwd : wds = Cond.code y bytes maxL ret :: ws9)
    (hdy : y.cls = C ∧ y.cls ≠ "java/lang/invoke/MethodHandle" ∧ y.cls ≠ "java/lang/invoke/VarHandle" ∧ (parseMethodDescriptor y.desc).map (fun d => d.parameters.length) = some n) (hnn : av.length = n) (hR : rm.frames + 1 ≤ R.frames ∧ 8 + (maxL + 11) + rm.locals ≤ R.locals) {ci : Nat} {T : u_T} {N q0 : Nat} {fs : List Value} (hc : vwCl[ci]? = some (C, T, N)) (he : wc[q0]? = some (b, .inr (ci, fs)))
    (hst : st = av.reverse ++ .ref b :: rest) (hrest : (rest.map fun v => v.category).sum ≤ 8) (hC : isC.map (fun i => ws[i]?) = wc.map some) (hn : va_nd isC = true) (ha : wc'.map Prod.fst = wc.map Prod.fst) (hws : putB ws isC wc' = ws')
    (hd : decode cc pc = .ok (.invokevirtual index, 3)) (hpc : pc + 3 = pc') (hf : kc + rm.cells ≤ R.cells ∧ ks + rm.slots ≤ R.slots) (k : G p l e R s m args below meth c Q D A nL (kc + rm.cells) (ks + rm.slots) ws' lv pc' (.long r0 :: rest)) : G p l e R s m args below meth c Q D A nL kc ks ws lv pc st := by
  subst hnn
  subst hpc
  subst hst
  subst hws
  intro H locs ls hP hD hS hl
  have hPc : va_P D vwCl wc H := (va_P.sub hP isC (fm_map isC wc hC))
  have hDc : va_D (fun _ => True) wc := (va_D.sub hD isC hn hC).weaken (fun _ _ _ _ => trivial)
  have hFc := va_free (wc := wc) hD hS X.hA isC hC
  refine va_calll (va_runV (As := av) (rest := rest) X.fix (hM H.size) (cwV av.length X.hts hG hwd rfl rfl hdy hR) (gPreVN X.K hN hS hFc hPc hDc hc he) rfl rfl hl.1 rfl (lv_room hrest) hd hf) hS (fun q _ h => hFc q h) hFc (fun r u t H1 locs1 ht hvm hw hB hz1 hk1 hS => ?_)
  obtain ⟨rfl, rfl⟩ := hw
  obtain ⟨hP1, hK1, hD1⟩ := hB
  rw [ht] at hP1
  obtain ⟨hP2, hD2⟩ := putB_join hP hD isC hC hn ha hk1 hP1
  exact k H1 locs1 ls hP2 hD2 hS hl
theorem g_callVNd (X : gX p s m args c D tys A cc nL own Ts) (hN : gN A s) {r0 : UInt64} (hM : MDN l y wds rm D tys wc (.ref b :: av) (fun r u => r = r0 ∧ u = wc')) (pc' : Nat) (isC : List Nat) (hG : GoodIn Ts (wsV own index C y wds)) (hwd : wds = Cond.code y bytes maxL ret :: ws9)
    (hdy : y.cls = C ∧ y.cls ≠ "java/lang/invoke/MethodHandle" ∧ y.cls ≠ "java/lang/invoke/VarHandle" ∧ (parseMethodDescriptor y.desc).map (fun d => d.parameters.length) = some n) (hnn : av.length = n) (hR : rm.frames + 1 ≤ R.frames ∧ 8 + (maxL + 11) + rm.locals ≤ R.locals) {ci : Nat} {T : u_T} {N q0 : Nat} {fs : List Value} (hc : vwCl[ci]? = some (C, T, N)) (he : wc[q0]? = some (b, .inr (ci, fs)))
    (hst : st = av.reverse ++ .ref b :: rest) (hrest : (rest.map fun v => v.category).sum ≤ 8) (hC : isC.map (fun i => ws[i]?) = wc.map some) (hn : va_nd isC = true) (ha : wc'.map Prod.fst = wc.map Prod.fst) (hws : putB ws isC wc' = ws')
    (hd : decode cc pc = .ok (.invokevirtual index, 3)) (hpc : pc + 3 = pc') (hf : kc + rm.cells ≤ R.cells ∧ ks + rm.slots ≤ R.slots) (k : G p l e R s m args below meth c Q D A nL (kc + rm.cells) (ks + rm.slots) ws' lv pc' (.double r0 :: rest)) : G p l e R s m args below meth c Q D A nL kc ks ws lv pc st := by
  subst hnn
  subst hpc
  subst hst
  subst hws
  intro H locs ls hP hD hS hl
  have hPc : va_P D vwCl wc H := (va_P.sub hP isC (fm_map isC wc hC))
  have hDc : va_D (fun _ => True) wc := (va_D.sub hD isC hn hC).weaken (fun _ _ _ _ => trivial)
  have hFc := va_free (wc := wc) hD hS X.hA isC hC
  refine va_calld (va_runV (As := av) (rest := rest) X.fix (hM H.size) (cwV av.length X.hts hG hwd rfl rfl hdy hR) (gPreVN X.K hN hS hFc hPc hDc hc he) rfl rfl hl.1 rfl (lv_room hrest) hd hf) hS (fun q _ h => hFc q h) hFc (fun r u t H1 locs1 ht hvm hw hB hz1 hk1 hS => ?_)
  obtain ⟨rfl, rfl⟩ := hw
  obtain ⟨hP1, hK1, hD1⟩ := hB
  rw [ht] at hP1
  obtain ⟨hP2, hD2⟩ := putB_join hP hD isC hC hn ha hk1 hP1
  exact k H1 locs1 ls hP2 hD2 hS hl
end GCN
