/-! THE LAW'S OWN ROWS: long and double compared, the script read, a helper called, the two made -/
theorem lv_lcmpE {p : Program} {l : Launch} {e : Env} {R : Room} {s : State} {m : MethodId} {args : Array Value} {below : List Frame} {meth : Method} {c : Code} {H : Heap} {locs : List Loc} {cells slots : Nat} {Q : State → Prop} {cc : ByteArray} {pc : Nat} {ls : Array Slot} {rest : List Value} (hexec : p.tables.exec = Jvm.exec) (hb : c.code = cc) {x : Int64} (hdg : decode cc pc = .ok (.lcmp, 1))
    (k : W p l e R s m args below meth c H locs cells slots Q (F0 m (pc + 1) ls (.int 0 :: rest))) : W p l e R s m args below meth c H locs cells slots Q (F0 m pc ls (.long x :: .long x :: rest)) := by
  intro T hT X
  obtain ⟨t, a, b⟩ := k T hT X
  refine ⟨t, ?_, b⟩
  have h1 : ¬ x > x := Int64.lt_irrefl
  have h2 : (x == x) = true := by simp
  jvm_step X.here [X.here.top, hexec, hb, hdg, h1, h2]
  exact a
section GLW
variable {p : Program} {l : Launch} {e : Env} {R : Room} {s : State} {m : MethodId} {args : Array Value} {below : List Frame} {meth : Method} {c : Code} {Q : State → Prop}
variable {D : va_G} {tys : List (ClassId × FieldType)} {A : Nat → Prop} {cc : ByteArray} {nL kc ks : Nat} {own : String} {Ts : List Cond}
variable {ws : va_W} {lv : List (Nat × Value)} {pc : Nat} {st rest : List Value}
theorem g_lcmpE (X : gX p s m args c D tys A cc nL own Ts) {x y : Int64} (hxy : x = y) (pc' : Nat) (hd : decode cc pc = .ok (.lcmp, 1)) (hn : pc + 1 = pc') (k : G p l e R s m args below meth c Q D A nL kc ks ws lv pc' (.int 0 :: st)) : G p l e R s m args below meth c Q D A nL kc ks ws lv pc (.long y :: .long x :: st) := by
  subst hn
  subst hxy
  exact fun H locs ls hP hD hS hl => lv_lcmpE X.1 X.2.1 hd (k H locs ls hP hD hS hl)
theorem g_dcmp (X : gX p s m args c D tys A cc nL own Ts) {x y : UInt64} {op : CmpOp} (pc' : Nat) (hd : decode cc pc = .ok (.dcmp op, 1)) (hn : pc + 1 = pc') (k : G p l e R s m args below meth c Q D A nL kc ks ws lv pc' (.int (Op.cmpValue (FP.dcmp x y) op) :: st)) : G p l e R s m args below meth c Q D A nL kc ks ws lv pc (.double y :: .double x :: st) := by
  subst hn
  exact fun H locs ls hP hD hS hl => lv_dcmp X.1 X.2.1 hd (k H locs ls hP hD hS hl)
/-- the script: not one of the cells -/
theorem g_sld (X : gX p s m args c D tys A cc nL own Ts) {b L : Nat} {xs : Nat → Int32} (hX : va_X b L xs s s.heap) (hbl : b < s.heap.size) (hbA : ¬ A b) (j pc' : Nat) (hj : j < L) (hj31 : j < 2 ^ 31) (hd : decode cc pc = .ok (.iaload, 1)) (hn : pc + 1 = pc') (k : G p l e R s m args below meth c Q D A nL kc ks ws lv pc' (.int (xs j) :: st)) : G p l e R s m args below meth c Q D A nL kc ks ws lv pc (.int (nI j) :: .ref b :: st) := by
  subst hn
  intro H locs ls hP hD hS hl
  have hc : (nI j).toNatClampNeg = j := nI_clamp hj31
  refine va_sld X.1 X.2.1 hX hbl hbA hS (i := nI j) (fun q => ?_) hd ?_
  · rcases q with q | q
    · exact nI_pos hj31 q
    · rw [hc] at q; omega
  · rw [hc]
    exact k H locs ls hP hD hS hl
theorem g_slen (X : gX p s m args c D tys A cc nL own Ts) {b L : Nat} {xs : Nat → Int32} (hX : va_X b L xs s s.heap) (hbl : b < s.heap.size) (hbA : ¬ A b) (pc' : Nat) (hd : decode cc pc = .ok (.arraylength, 1)) (hn : pc + 1 = pc') (k : G p l e R s m args below meth c Q D A nL kc ks ws lv pc' (.int (nI L) :: st)) : G p l e R s m args below meth c Q D A nL kc ks ws lv pc (.ref b :: st) := by
  subst hn
  exact fun H locs ls hP hD hS hl => va_slen X.1 X.2.1 hX hbl hbA hS hd (k H locs ls hP hD hS hl)
variable {y : MethodName} {wds ws9 : List Cond} {rm : Room} {bytes : ByteArray} {maxL n index : Nat} {ret : Option FieldType} {b : Nat} {av : List Value} {wc wr : va_W}
theorem gPreSN (hK : va_K D vwCl tys s) (hN : gN A s) {H : Heap} {locs : List Loc} (hS : va_S A s.heap H locs) (hA : ∀ q, va_A wc H.size q → A q) (hP : va_P D vwCl wc H) (hD : va_D (fun _ => True) wc) : PreS s H (gPcN D tys wc av H.size) av :=
  ⟨gPcN_blind _ _ _ _ _, fun U hU hW => ⟨rfl, by rw [hU], by rw [hU]; exact hP, va_K.moved hW.alike hK, hD, hN.call hS hA hU hW⟩⟩
/-- a helper: static, with handlers of its own; it throws nothing -/
theorem g_callH (X : gX p s m args c D tys A cc nL own Ts) (hN : gN A s) {post : Int32 → va_W → Prop} {hh : List (Nat × Nat × Nat × Nat)} (hM : MX l y wds rm D tys wc av post (fun _ => False)) (pc' : Nat) (isC : List Nat) (hG : GoodIn Ts (va_wsS own index y wds)) (hwd : wds = Cond.codeWith y bytes maxL ret hh :: ws9)
    (hdy : y.cls ≠ "java/lang/invoke/MethodHandle" ∧ y.cls ≠ "java/lang/invoke/VarHandle" ∧ (parseMethodDescriptor y.desc).map (fun d => d.parameters.length) = some n) (hnn : av.length = n) (hR : rm.frames + 1 ≤ R.frames ∧ 8 + (maxL + 11) + rm.locals ≤ R.locals)
    (hst : st = av.reverse ++ rest) (hrest : (rest.map fun v => v.category).sum ≤ 8) (hC : isC.map (fun i => ws[i]?) = wc.map some) (hn : va_nd isC = true) (ha : ∀ (r : Int32) (u : va_W), post r u → u.map Prod.fst = wc.map Prod.fst)
    (hd : decode cc pc = .ok (.invokestatic index, 3)) (hpc : pc + 3 = pc') (hf : kc + rm.cells ≤ R.cells ∧ ks + rm.slots ≤ R.slots)
    (k : ∀ (r : Int32) (u : va_W), post r u → G p l e R s m args below meth c Q D A nL (kc + rm.cells) (ks + rm.slots) (putB ws isC u) lv pc' (.int r :: rest)) : G p l e R s m args below meth c Q D A nL kc ks ws lv pc st := by
  subst hnn
  subst hpc
  subst hst
  intro H locs ls hP hD hS hl
  have hPc : va_P D vwCl wc H := (va_P.sub hP isC (fm_map isC wc hC))
  have hDc : va_D (fun _ => True) wc := (va_D.sub hD isC hn hC).weaken (fun _ _ _ _ => trivial)
  have hFc := va_free (wc := wc) hD hS X.hA isC hC
  refine vx_calli (vx_runSX (As := av) (rest := rest) X.fix (hM H.size) (vx_cwSW av.length X.hts hG hwd rfl rfl hdy hR) (gPreSN X.K hN hS hFc hPc hDc) rfl rfl hl.1 rfl (lv_room hrest) hd hf) hS (fun q _ h => hFc q h) hFc (fun q _ h => hFc q h) (fun E ce q9 u t H1 locs1 ht hvm hw hB hz1 hk1 hS hq9 hv hcl => hB.1.elim) (fun r u t H1 locs1 ht hvm hw hB hz1 hk1 hS => ?_)
  obtain ⟨hP1, hK1, hD1⟩ := hB
  rw [ht] at hP1
  obtain ⟨hP2, hD2⟩ := putB_join hP hD isC hC hn (ha r u hw) hk1 hP1
  exact k r u hw H1 locs1 ls hP2 hD2 hS hl
/-- a public constructor -/
theorem g_callP (X : gX p s m args c D tys A cc nL own Ts) {post : va_W → Prop} (hM : MC l y wds rm D tys wc [.ref b] post) (hC0 : gC s) (pc' : Nat) (isC isR : List Nat) (hG : GoodIn Ts wds) (hwd : wds = Cond.code y bytes maxL none :: ws9) (hml : Cond.methodLink own index y ∈ Ts) (hini : Cond.initialized y.cls ∈ Ts) (hin1 : Cond.instanceMethod y ∈ Ts) (hyn : y.name = "<init>")
    (hdy : y.cls ≠ "java/lang/invoke/MethodHandle" ∧ y.cls ≠ "java/lang/invoke/VarHandle" ∧ (parseMethodDescriptor y.desc).map (fun d => d.parameters.length) = some 0) (hR : rm.frames + 1 ≤ R.frames ∧ 8 + (maxL + 11) + rm.locals ≤ R.locals)
    (hst : st = .ref b :: rest) (hrest : (rest.map fun v => v.category).sum ≤ 8) (hC : isC.map (fun i => ws[i]?) = wc.map some) (hn : va_nd isC = true) (hRr : isR.map (fun i => ws[i]?) = wr.map some) (hnr : va_nd isR = true) (hdis : ∀ i ∈ isR, i ∉ isC)
    (hd : decode cc pc = .ok (.invokespecial index, 3)) (hpc : pc + 3 = pc') (hf : kc + rm.cells ≤ R.cells ∧ ks + rm.slots ≤ R.slots) (k : ∀ u, post u → G p l e R s m args below meth c Q D A nL (kc + rm.cells) (ks + rm.slots) (wr ++ u) lv pc' rest) : G p l e R s m args below meth c Q D A nL kc ks ws lv pc st := by
  subst hpc
  subst hst
  intro H locs ls hP hD hS hl
  have hPc : va_P D vwCl wc H := (va_P.sub hP isC (fm_map isC wc hC))
  have hDc : va_D (fun _ => True) wc := (va_D.sub hD isC hn hC).weaken (fun _ _ _ _ => trivial)
  have hFc := va_free (wc := wc) hD hS X.hA isC hC
  refine va_callv (va_runI (As := []) (b := b) (rest := rest) X.fix (hM H.size) ⟨callB_of 0 X.hts hG hwd rfl rfl (X.hts _ hini) (X.hts _ hml) hdy hR, hyn, X.hts _ hin1⟩ ⟨gPcC_blind _ _ _ _ _, fun U hU hW => ⟨rfl, by rw [hU], by rw [hU]; exact hPc, va_K.moved hW.alike X.K, hDc, hC0.warm hW⟩⟩ rfl rfl hl.1 rfl (lv_room hrest) hd hf) hS (fun q _ h => hFc q h) hFc (fun u t H1 locs1 ht hvm hw hB hz1 hk1 hS => ?_)
  obtain ⟨hP1, hK1, hD1⟩ := hB
  rw [ht] at hP1
  obtain ⟨hP2, hD2⟩ := va_join hP hD isC isR hC hRr hnr hdis hk1 hFc hP1 hD1
  exact k u hw H1 locs1 ls hP2 hD2 hS hl
end GLW
