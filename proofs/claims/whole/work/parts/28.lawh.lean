/-! THE LAW'S HELPERS: they call the class, and tell what is thrown as a number -/
theorem MXH_of {l : Launch} {D : va_G} {tys : List (ClassId × FieldType)} {y : MethodName} {wds wds' : List Cond} {rm : Room} {cc : ByteArray} {nL : Nat} {ty : FieldType} {hh : List (Nat × Nat × Nat × Nat)} {ws : va_W} {av : List Value} {post : Int32 → va_W → Prop} (lv0 : List (Nat × Value)) (hy : plainName y.cls = true) (hw : wds = Cond.codeWith y cc nL (some ty) hh :: wds') (hlen : (lg_sl av).length ≤ nL) (hlv : lv_args 0 av = lv0)
    (body : ∀ (p : Program) (e : Env) (s : State) (m : MethodId) (args : Array Value) (below : List Frame) (meth : Method) (c : Code) (A : Nat → Prop) (Q : State → Prop), gX p s m args c D tys A cc nL y.cls wds → gN A s → c.exceptionTable.toList = tableOf hh →
      (∀ (u : va_W) (lv : List (Nat × Value)) (pc : Nat) (r : Int32), decode cc pc = .ok (.ireturn, 1) → narrow ty (.int r) = .int r → post r u → G p l e rm s m args below meth c Q D A nL rm.cells rm.slots u lv pc [.int r]) →
      G p l e rm s m args below meth c Q D A nL 0 0 ws lv0 0 []) : MX l y wds rm D tys ws av post (fun _ => False) := by
  intro sz
  refine vx_ofWH (cc := cc) (maxL := nL) (ret := some ty) hy hw ?_
  intro p e s m args below meth c s₁ B hml hv
  obtain ⟨rfl, hsz, hP, hK, hD0, hN⟩ := hv
  have hlocks := B.notSynchronized
  subst hsz
  have hl := lv_entry av (n := nL) hlen
  rw [lg_entry_eq]
  rw [hlv] at hl
  have hown := findClass_of_methodNamed B.named
  have hts := atoms_spec (ws := wds) B.pre
  have hT := vx_table (x := y) (bytes := cc) (maxL' := nL) (ret' := some ty) (hh := hh) B (hts _ (by rw [hw]; exact List.mem_cons_self))
  refine body p e s m _ below meth c (va_A ws s.heap.size) _ ⟨B.exec, B.bytes, hml, hown, hts, hK, fun q h => Or.inr h⟩ hN hT ?_ _ _ _ hP hD0.self va_S.rf hl
  intro u lv pc r hd hnr hp H locs ls hP hD hS hl
  exact vx_ret (W.zret B.exec B.bytes B.returns hnr (fun t ht hW => ⟨⟨r, u, rfl, hp, by rw [ht]; exact hP, va_K.moved hW.alike hK, hD⟩, hS.F ht⟩) hS.2.2 hd hlocks)
section GCX
variable {p : Program} {l : Launch} {e : Env} {R : Room} {s : State} {m : MethodId} {args : Array Value} {below : List Frame} {meth : Method} {c : Code} {Q : State → Prop}
variable {D : va_G} {tys : List (ClassId × FieldType)} {A : Nat → Prop} {cc : ByteArray} {nL kc ks : Nat} {own : String} {Ts : List Cond}
variable {ws : va_W} {lv : List (Nat × Value)} {pc : Nat} {st rest : List Value}
variable {y : MethodName} {wds ws9 : List Cond} {rm : Room} {bytes : ByteArray} {maxL n index : Nat} {ret : Option FieldType} {C : String} {b : Nat} {av : List Value} {wc : va_W}
/-- a call that returns or throws, and its handlers -/
theorem g_callX (X : gX p s m args c D tys A cc nL own Ts) (hN : gN A s) {post : Int32 → va_W → Prop} {pE : String → Prop} (hM : MX l y wds rm D tys wc (.ref b :: av) post pE) (pc' : Nat) (isC : List Nat) (hG : GoodIn Ts (wsV own index C y wds)) (hwd : wds = Cond.code y bytes maxL ret :: ws9)
    (hdy : y.cls = C ∧ y.cls ≠ "java/lang/invoke/MethodHandle" ∧ y.cls ≠ "java/lang/invoke/VarHandle" ∧ (parseMethodDescriptor y.desc).map (fun d => d.parameters.length) = some n) (hnn : av.length = n) (hR : rm.frames + 1 ≤ R.frames ∧ 8 + (maxL + 11) + rm.locals ≤ R.locals) {ci : Nat} {T : u_T} {N q0 : Nat} {fs : List Value} (hc : vwCl[ci]? = some (C, T, N)) (he : wc[q0]? = some (b, .inr (ci, fs)))
    (hst : st = av.reverse ++ .ref b :: rest) (hrest : (rest.map fun v => v.category).sum ≤ 8) (hC : isC.map (fun i => ws[i]?) = wc.map some) (hn : va_nd isC = true) (ha : ∀ (r : Int32) (u : va_W), post r u → u.map Prod.fst = wc.map Prod.fst)
    (hd : decode cc pc = .ok (.invokevirtual index, 3)) (hpc : pc + 3 = pc') (hf : kc + rm.cells ≤ R.cells ∧ ks + rm.slots ≤ R.slots)
    (kx : ∀ E : String, pE E → ∃ (pre : List ExceptionTableEntry) (x : ExceptionTableEntry) (suf : List ExceptionTableEntry) (name : String), c.exceptionTable.toList = pre ++ x :: suf ∧ (∀ z ∈ pre, covers z pc = false ∨ (z.catchType ≠ 0 ∧ ∃ nm : String, Cond.classLink own z.catchType nm ∈ Ts ∧ va_Nc E nm s)) ∧ covers x pc = true ∧ x.catchType ≠ 0 ∧ Cond.classLink own x.catchType name ∈ Ts ∧ (Cond.castable E name).before args s = true ∧ ∀ q : Nat, G p l e R s m args below meth c Q D A nL (kc + rm.cells) (ks + rm.slots) ws lv x.handlerPc [.ref q])
    (k : ∀ (r : Int32) (u : va_W), post r u → G p l e R s m args below meth c Q D A nL (kc + rm.cells) (ks + rm.slots) (putB ws isC u) lv pc' (.int r :: rest)) : G p l e R s m args below meth c Q D A nL kc ks ws lv pc st := by
  subst hnn
  subst hpc
  subst hst
  intro H locs ls hP hD hS hl
  have hPc : va_P D vwCl wc H := (va_P.sub hP isC (fm_map isC wc hC))
  have hDc : va_D (fun _ => True) wc := (va_D.sub hD isC hn hC).weaken (fun _ _ _ _ => trivial)
  have hFc := va_free (wc := wc) hD hS X.hA isC hC
  refine vx_calli (vx_runV (As := av) (rest := rest) X.fix (hM H.size) (cwV av.length X.hts hG hwd rfl rfl hdy hR) (gPreVN X.K hN hS hFc hPc hDc hc he) rfl rfl hl.1 rfl (lv_room hrest) hd hf) hS (fun q _ h => hFc q h) hFc (fun q _ h => hFc q h) (fun E ce q9 u t H1 locs1 ht hvm hw hB hz1 hk1 hS hq9 hv hcl => ?_) (fun r u t H1 locs1 ht hvm hw hB hz1 hk1 hS => ?_)
  · subst hw
    obtain ⟨hpE, hP1, hK1, hD1⟩ := hB
    rw [ht] at hP1
    obtain ⟨hP2, hD2⟩ := putB_join hP hD isC hC hn rfl hk1 hP1
    rw [putB_id hC] at hP2 hD2
    obtain ⟨pre, x, suf, name, h1, h2, h3, h4, h5, h6, h7⟩ := kx E hpE
    exact vx_catch X.2.2.2.1 pre x suf h1 (fun z hz => (h2 z hz).imp id (fun ⟨a1, nm, a2, a3⟩ => ⟨a1, nm, X.hts _ a2, a3⟩)) h3 h4 (X.hts _ h5) h6 hq9 hv hcl (h7 q9 H1 locs1 ls hP2 hD2 hS hl)
  · obtain ⟨hP1, hK1, hD1⟩ := hB
    rw [ht] at hP1
    obtain ⟨hP2, hD2⟩ := putB_join hP hD isC hC hn (ha r u hw) hk1 hP1
    exact k r u hw H1 locs1 ls hP2 hD2 hS hl
end GCX

abbrev rm_L_window : Room := { frames := 7, cells := 1, slots := 6, locals := 125 }
set_option maxHeartbeats 4000000 in
set_option maxRecDepth 100000 in
/-- the law's helper window -/
theorem m_L_window (l : Launch) (hfl : l.stackTraces = false) (D : va_G) (cI cZ cJ : ClassId) (gr v f k ak : Nat) (z0 z1 z2 z3 z4 nw : Nat) (T : Nat → Nat) (x y w h o : Int32) (ou : Nat) (o9 : Nat → Int64) (hn : nw ≤ 6) : MX l yL_window wsL_window rm_L_window D (gT cI cZ cJ) [(gr, .inr (5, [.ref v, .ref f, .ref k, .ref ak])), (v, .inr (4, [.int (nI nw), .ref z0, .ref z1, .ref z2, .ref z3, .ref z4])), (z0, .inl (cI, 6, .inl (vt 0 T))), (z1, .inl (cI, 6, .inl (vt 1 T))), (z2, .inl (cI, 6, .inl (vt 2 T))), (z3, .inl (cI, 6, .inl (vt 3 T))), (z4, .inl (cI, 6, .inl (vt 4 T))), (ou, .inl (cJ, 1, .inr (.inl o9)))] [.ref gr, .int x, .int y, .int w, .int h, .int o, .ref ou] (fun r9 u9 => (winE nw x y w h o = 0 → r9 = nI 0 ∧ u9 = [(gr, .inr (5, [.ref v, .ref f, .ref k, .ref ak])), (v, .inr (4, [.int (nI (nw + 1)), .ref z0, .ref z1, .ref z2, .ref z3, .ref z4])), (z0, .inl (cI, 6, .inl (vt 0 (ptT T nw (tn x) (tn y) (tn w) (tn h) (tn o))))), (z1, .inl (cI, 6, .inl (vt 1 (ptT T nw (tn x) (tn y) (tn w) (tn h) (tn o))))), (z2, .inl (cI, 6, .inl (vt 2 (ptT T nw (tn x) (tn y) (tn w) (tn h) (tn o))))), (z3, .inl (cI, 6, .inl (vt 3 (ptT T nw (tn x) (tn y) (tn w) (tn h) (tn o))))), (z4, .inl (cI, 6, .inl (vt 4 (ptT T nw (tn x) (tn y) (tn w) (tn h) (tn o))))), (ou, .inl (cJ, 1, .inr (.inl (vp_updL o9 0 ((nI nw).toInt64)))))]) ∧ (¬ winE nw x y w h o = 0 → r9 = nI (winE nw x y w h o) ∧ u9 = [(gr, .inr (5, [.ref v, .ref f, .ref k, .ref ak])), (v, .inr (4, [.int (nI nw), .ref z0, .ref z1, .ref z2, .ref z3, .ref z4])), (z0, .inl (cI, 6, .inl (vt 0 T))), (z1, .inl (cI, 6, .inl (vt 1 T))), (z2, .inl (cI, 6, .inl (vt 2 T))), (z3, .inl (cI, 6, .inl (vt 3 T))), (z4, .inl (cI, 6, .inl (vt 4 T))), (ou, .inl (cJ, 1, .inr (.inl o9)))])) (fun _ => False) := by
  refine MXH_of [(0, .ref gr), (1, .int x), (2, .int y), (3, .int w), (4, .int h), (5, .int o), (6, .ref ou)] (by decide) rfl (Nat.le_of_ble_eq_true rfl) rfl ?_
  intro p e s m args below meth c A Q X hN hT ret
  refine g_aload X 6 2 dL_window_0 rfl rfl ?_
  refine g_iconst X (nI 0) 3 dL_window_2 rfl (by decide +kernel) ?_
  refine g_aload_n X 0 4 dL_window_3 rfl rfl rfl ?_
  refine g_iload_n X 1 5 dL_window_4 rfl rfl rfl ?_
  refine g_iload_n X 2 6 dL_window_5 rfl rfl rfl ?_
  refine g_iload_n X 3 7 dL_window_6 rfl rfl rfl ?_
  refine g_iload X 4 9 dL_window_7 rfl rfl ?_
  refine g_iload X 5 11 dL_window_9 rfl rfl ?_
  refine g_callX X hN (m_X5_window l hfl D cI cZ cJ gr v f k ak z0 z1 z2 z3 z4 nw T x y w h o hn) 14 [0, 1, 2, 3, 4, 5, 6] gL_window_X5_window (n := 5) rfl (by decide +kernel) rfl ⟨Nat.le_of_ble_eq_true rfl, Nat.le_of_ble_eq_true rfl⟩ (ci := 5) (q0 := 0) rfl rfl rfl (Nat.le_of_ble_eq_true rfl) rfl (by decide +kernel) (by rintro r9 u9 ⟨_, _, rfl⟩; rfl) dL_window_11 rfl ⟨Nat.le_of_ble_eq_true rfl, Nat.le_of_ble_eq_true rfl⟩ ?_ ?_
  · rintro E9 hE9
    rcases hE9 with ⟨rfl, hE⟩ | ⟨rfl, hE⟩ | ⟨rfl, hE⟩
    · refine ⟨[], ⟨0, 16, 19, 13⟩, [⟨0, 16, 23, 15⟩, ⟨0, 16, 27, 17⟩], xA, hT, fun _ h => (List.not_mem_nil h).elim, by decide, by decide, (List.mem_of_getElem? (i := 1) rfl), va_Nw.use (List.all_eq_true.mp gOdd_tab _ (List.mem_of_getElem? (i := 0) rfl)) (hN.2.1 _ (List.mem_of_getElem? (i := 0) rfl)), fun q9 => ?_⟩
      refine g_astore X [(7, .ref q9), (0, .ref gr), (1, .int x), (2, .int y), (3, .int w), (4, .int h), (5, .int o), (6, .ref ou)] 21 dL_window_19 rfl (by decide) rfl ?_
      refine g_iconst X (nI 1) 22 dL_window_21 rfl (by decide +kernel) ?_
      refine g_w (kc' := rm_L_window.cells) (ks' := rm_L_window.slots) (by first | decide | omega) (by first | decide | omega) ?_
      exact ret _ _ _ _ dL_window_22 rfl ⟨fun z => absurd (hE.symm.trans z) (by decide), fun _ => ⟨congrArg nI hE.symm, rfl⟩⟩
    · refine ⟨[⟨0, 16, 19, 13⟩], ⟨0, 16, 23, 15⟩, [⟨0, 16, 27, 17⟩], xI, hT, List.forall_mem_cons.mpr ⟨Or.inr ⟨by decide, xA, (List.mem_of_getElem? (i := 1) rfl), hN.2.2.1 _ thI_e _ thA_e (by decide)⟩, fun _ h => (List.not_mem_nil h).elim⟩, by decide, by decide, (List.mem_of_getElem? (i := 2) rfl), va_Nw.use (List.all_eq_true.mp gOdd_tab _ (List.mem_of_getElem? (i := 1) rfl)) (hN.2.1 _ (List.mem_of_getElem? (i := 1) rfl)), fun q9 => ?_⟩
      refine g_astore X [(7, .ref q9), (0, .ref gr), (1, .int x), (2, .int y), (3, .int w), (4, .int h), (5, .int o), (6, .ref ou)] 25 dL_window_23 rfl (by decide) rfl ?_
      refine g_iconst X (nI 2) 26 dL_window_25 rfl (by decide +kernel) ?_
      refine g_w (kc' := rm_L_window.cells) (ks' := rm_L_window.slots) (by first | decide | omega) (by first | decide | omega) ?_
      exact ret _ _ _ _ dL_window_26 rfl ⟨fun z => absurd (hE.symm.trans z) (by decide), fun _ => ⟨congrArg nI hE.symm, rfl⟩⟩
    · refine ⟨[⟨0, 16, 19, 13⟩, ⟨0, 16, 23, 15⟩], ⟨0, 16, 27, 17⟩, [], xS, hT, List.forall_mem_cons.mpr ⟨Or.inr ⟨by decide, xA, (List.mem_of_getElem? (i := 1) rfl), hN.2.2.1 _ thS_e _ thA_e (by decide)⟩, List.forall_mem_cons.mpr ⟨Or.inr ⟨by decide, xI, (List.mem_of_getElem? (i := 2) rfl), hN.2.2.1 _ thS_e _ thI_e (by decide)⟩, fun _ h => (List.not_mem_nil h).elim⟩⟩, by decide, by decide, (List.mem_of_getElem? (i := 3) rfl), va_Nw.use (List.all_eq_true.mp gOdd_tab _ (List.mem_of_getElem? (i := 2) rfl)) (hN.2.1 _ (List.mem_of_getElem? (i := 2) rfl)), fun q9 => ?_⟩
      refine g_astore X [(7, .ref q9), (0, .ref gr), (1, .int x), (2, .int y), (3, .int w), (4, .int h), (5, .int o), (6, .ref ou)] 29 dL_window_27 rfl (by decide) rfl ?_
      refine g_iconst X (nI 3) 30 dL_window_29 rfl (by decide +kernel) ?_
      refine g_w (kc' := rm_L_window.cells) (ks' := rm_L_window.slots) (by first | decide | omega) (by first | decide | omega) ?_
      exact ret _ _ _ _ dL_window_30 rfl ⟨fun z => absurd (hE.symm.trans z) (by decide), fun _ => ⟨congrArg nI hE.symm, rfl⟩⟩
  · rintro r9 u9 ⟨hE, rfl, rfl⟩
    refine g_eqw (ws' := [(gr, .inr (5, [.ref v, .ref f, .ref k, .ref ak])), (v, .inr (4, [.int (nI (nw + 1)), .ref z0, .ref z1, .ref z2, .ref z3, .ref z4])), (z0, .inl (cI, 6, .inl (vt 0 (ptT T nw (tn x) (tn y) (tn w) (tn h) (tn o))))), (z1, .inl (cI, 6, .inl (vt 1 (ptT T nw (tn x) (tn y) (tn w) (tn h) (tn o))))), (z2, .inl (cI, 6, .inl (vt 2 (ptT T nw (tn x) (tn y) (tn w) (tn h) (tn o))))), (z3, .inl (cI, 6, .inl (vt 3 (ptT T nw (tn x) (tn y) (tn w) (tn h) (tn o))))), (z4, .inl (cI, 6, .inl (vt 4 (ptT T nw (tn x) (tn y) (tn w) (tn h) (tn o))))), (ou, .inl (cJ, 1, .inr (.inl o9)))]) ((putB_mg [some (gr, .inr (5, [.ref v, .ref f, .ref k, .ref ak])), some (v, .inr (4, [.int (nI (nw + 1)), .ref z0, .ref z1, .ref z2, .ref z3, .ref z4])), some (z0, .inl (cI, 6, .inl (vt 0 (ptT T nw (tn x) (tn y) (tn w) (tn h) (tn o))))), some (z1, .inl (cI, 6, .inl (vt 1 (ptT T nw (tn x) (tn y) (tn w) (tn h) (tn o))))), some (z2, .inl (cI, 6, .inl (vt 2 (ptT T nw (tn x) (tn y) (tn w) (tn h) (tn o))))), some (z3, .inl (cI, 6, .inl (vt 3 (ptT T nw (tn x) (tn y) (tn w) (tn h) (tn o))))), some (z4, .inl (cI, 6, .inl (vt 4 (ptT T nw (tn x) (tn y) (tn w) (tn h) (tn o))))), none] [true, true, true, true, true, true, true, false] rfl (by decide +kernel) rfl rfl rfl (by decide +kernel)).trans rfl) ?_
    refine g_i2l X 15 dL_window_14 rfl ?_
    refine g_last (ws' := [(gr, .inr (5, [.ref v, .ref f, .ref k, .ref ak])), (v, .inr (4, [.int (nI (nw + 1)), .ref z0, .ref z1, .ref z2, .ref z3, .ref z4])), (z0, .inl (cI, 6, .inl (vt 0 (ptT T nw (tn x) (tn y) (tn w) (tn h) (tn o))))), (z1, .inl (cI, 6, .inl (vt 1 (ptT T nw (tn x) (tn y) (tn w) (tn h) (tn o))))), (z2, .inl (cI, 6, .inl (vt 2 (ptT T nw (tn x) (tn y) (tn w) (tn h) (tn o))))), (z3, .inl (cI, 6, .inl (vt 3 (ptT T nw (tn x) (tn y) (tn w) (tn h) (tn o))))), (z4, .inl (cI, 6, .inl (vt 4 (ptT T nw (tn x) (tn y) (tn w) (tn h) (tn o))))), (ou, .inl (cJ, 1, .inr (.inl (vp_updL o9 0 ((nI nw).toInt64)))))]) X 7 2 (0) (vp_updL o9 0 ((nI nw).toInt64)) 16 rfl rfl (by omega) (by decide) rfl dL_window_15 rfl rfl ?_
    refine g_goto X 31 dL_window_16 (by decide) ?_
    refine g_iconst X (nI 0) 32 dL_window_31 rfl (by decide +kernel) ?_
    refine g_w (kc' := rm_L_window.cells) (ks' := rm_L_window.slots) (by first | decide | omega) (by first | decide | omega) ?_
    exact ret _ _ _ _ dL_window_32 rfl ⟨fun _ => ⟨rfl, rfl⟩, fun z => absurd hE z⟩
