/-! THE CLASS AS ONE BLOCK OF CELLS, and its calls over it -/
def gW (ad : Nat → Nat) (cI cZ : ClassId) (S T st fe fo : Nat → Nat) (nw nr nf : Nat) : va_W :=
  [(ad 0, .inr (5, [.ref (ad 1), .ref (ad 7), .ref (ad 10), .ref (ad 20)])), (ad 1, .inr (4, [.int (nI nw), .ref (ad 2), .ref (ad 3), .ref (ad 4), .ref (ad 5), .ref (ad 6)])), (ad 2, .inl (cI, 6, .inl (vt 0 T))), (ad 3, .inl (cI, 6, .inl (vt 1 T))), (ad 4, .inl (cI, 6, .inl (vt 2 T))), (ad 5, .inl (cI, 6, .inl (vt 3 T))), (ad 6, .inl (cI, 6, .inl (vt 4 T))), (ad 7, .inr (1, [.int (nI nf), .ref (ad 8), .ref (ad 9)])), (ad 8, .inl (cI, 4, .inl (v4 fe))), (ad 9, .inl (cI, 4, .inl (v4 fo))), (ad 10, .inr (0, [.ref (ad 11), .ref (ad 13), .int (nI (S 1)), .int (nI (S 0)), .int (nI (S 2)), .int (nI (S 3))])), (ad 11, .inr (2, [.ref (ad 12)])), (ad 12, .inl (cI, 96, .inl (vs S))), (ad 13, .inr (3, [.int (nI nr), .ref (ad 14), .ref (ad 15), .ref (ad 16), .ref (ad 17), .ref (ad 18), .ref (ad 19)])), (ad 14, .inl (cI, 6, .inl (vr 0 S))), (ad 15, .inl (cI, 6, .inl (vr 1 S))), (ad 16, .inl (cI, 6, .inl (v6 st))), (ad 17, .inl (cZ, 6, .inl (vw nr S))), (ad 18, .inl (cI, 6, .inl (vr 3 S))), (ad 19, .inl (cI, 6, .inl (vr 4 S)))]
def CW (l : Launch) (D : va_G) (tys : List (ClassId × FieldType)) (y : MethodName) (wds : List Cond) (rm : Room) (b : Nat) (av : List Value) (r0 : Int32) (W0 W1 : va_W) : Prop :=
  ∃ (wc wc' : va_W) (isC : List Nat) (post : Int32 → va_W → Prop) (pE : String → Prop) (fs : List Value) (q0 : Nat), MX l y wds rm D tys wc (.ref b :: av) post pE ∧ (∀ r u, post r u → r = r0 ∧ u = wc') ∧ (∀ E, ¬ pE E) ∧ isC.map (fun i => W0[i]?) = wc.map some ∧ va_nd isC = true ∧ wc'.map Prod.fst = wc.map Prod.fst ∧ putB W0 isC wc' = W1 ∧ wc[q0]? = some (b, .inr (5, fs))
def CWN (l : Launch) (D : va_G) (tys : List (ClassId × FieldType)) (y : MethodName) (wds : List Cond) (rm : Room) (b : Nat) (av : List Value) (r0 : Int32) (W0 : va_W) : Prop :=
  ∃ (wc : va_W) (isC : List Nat) (fs : List Value) (q0 : Nat), MIN l y wds rm D tys wc (.ref b :: av) (fun r u => r = r0 ∧ u = wc) ∧ isC.map (fun i => W0[i]?) = wc.map some ∧ va_nd isC = true ∧ wc[q0]? = some (b, .inr (5, fs))
def CWD (l : Launch) (D : va_G) (tys : List (ClassId × FieldType)) (y : MethodName) (wds : List Cond) (rm : Room) (b : Nat) (av : List Value) (r0 : UInt64) (W0 : va_W) : Prop :=
  ∃ (wc : va_W) (isC : List Nat) (fs : List Value) (q0 : Nat), MDN l y wds rm D tys wc (.ref b :: av) (fun r u => r = r0 ∧ u = wc) ∧ isC.map (fun i => W0[i]?) = wc.map some ∧ va_nd isC = true ∧ wc[q0]? = some (b, .inr (5, fs))
theorem shift_C {A9 W0 wc : va_W} {isC : List Nat} (h : isC.map (fun i => W0[i]?) = wc.map some) : (isC.map (fun i => A9.length + i)).map (fun i => (A9 ++ W0)[i]?) = wc.map some := by
  rw [← h, List.map_map]
  apply List.map_congr_left
  intro i _
  show (A9 ++ W0)[A9.length + i]? = W0[i]?
  rw [List.getElem?_append_right (by omega), Nat.add_sub_cancel_left]
theorem shift_nd {n : Nat} : ∀ {isC : List Nat}, va_nd isC = true → va_nd (isC.map (fun i => n + i)) = true
  | [], _ => rfl
  | i :: is, h => by
    simp only [va_nd, Bool.and_eq_true, decide_eq_true_eq] at h
    simp only [List.map_cons, va_nd, Bool.and_eq_true, decide_eq_true_eq]
    refine ⟨fun z => ?_, shift_nd h.2⟩
    obtain ⟨j, hj, e⟩ := List.mem_map.mp z
    exact h.1 (by rw [show i = j by omega]; exact hj)
theorem shift_put : ∀ (A9 W0 : va_W) (isC : List Nat) (wc : va_W), putB (A9 ++ W0) (isC.map (fun i => A9.length + i)) wc = A9 ++ putB W0 isC wc
  | A9, W0, [], wc => by cases wc <;> rfl
  | A9, W0, i :: is, [] => rfl
  | A9, W0, i :: is, q :: qs => by
    show putB ((A9 ++ W0).set (A9.length + i) q) _ qs = A9 ++ putB (W0.set i q) is qs
    rw [List.set_append_right _ _ (by omega), Nat.add_sub_cancel_left]
    exact shift_put A9 (W0.set i q) is qs
section GCW
variable {p : Program} {l : Launch} {e : Env} {R : Room} {s : State} {m : MethodId} {args : Array Value} {below : List Frame} {meth : Method} {c : Code} {Q : State → Prop}
variable {D : va_G} {tys : List (ClassId × FieldType)} {A : Nat → Prop} {cc : ByteArray} {nL kc ks : Nat} {own : String} {Ts : List Cond}
variable {ws ws' : va_W} {lv lv' : List (Nat × Value)} {pc : Nat} {st rest : List Value}
variable {y : MethodName} {wds ws9 : List Cond} {rm : Room} {bytes : ByteArray} {maxL n index : Nat} {ret : Option FieldType} {C : String} {b : Nat} {av : List Value}
/-- a call of the class, which throws nothing here -/
theorem g_cw (X : gX p s m args c D tys A cc nL own Ts) (hN : gN A s) {r0 : Int32} {W0 W1 : va_W} (hW : CW l D tys y wds rm b av r0 W0 W1) (pc' kc' ks' : Nat) (A9 : va_W) (hws : ws = A9 ++ W0) (hG : GoodIn Ts (wsV own index C y wds)) (hwd : wds = Cond.code y bytes maxL ret :: ws9)
    (hdy : y.cls = C ∧ y.cls ≠ "java/lang/invoke/MethodHandle" ∧ y.cls ≠ "java/lang/invoke/VarHandle" ∧ (parseMethodDescriptor y.desc).map (fun d => d.parameters.length) = some n) (hnn : av.length = n) (hR : rm.frames + 1 ≤ R.frames ∧ 8 + (maxL + 11) + rm.locals ≤ R.locals) {T : u_T} {N : Nat} (hc : vwCl[5]? = some (C, T, N))
    (hst : st = av.reverse ++ .ref b :: rest) (hrest : (rest.map fun v => v.category).sum ≤ 8) (hd : decode cc pc = .ok (.invokevirtual index, 3)) (hpc : pc + 3 = pc') (hkc : kc + rm.cells ≤ kc') (hks : ks + rm.slots ≤ ks') (hf : kc' ≤ R.cells ∧ ks' ≤ R.slots)
    (hw' : A9 ++ W1 = ws') (k : G p l e R s m args below meth c Q D A nL kc' ks' ws' lv pc' (.int r0 :: rest)) : G p l e R s m args below meth c Q D A nL kc ks ws lv pc st := by
  subst hnn
  subst hpc
  subst hst
  subst hws
  subst hw'
  obtain ⟨wc, wc', isC, post, pE, fs, q0, hM, hp, hE, hC, hn, ha, hput, he⟩ := hW
  intro H locs ls hP hD hS hl
  have hC2 := shift_C (A9 := A9) hC
  have hn2 := shift_nd (n := A9.length) hn
  have hPc : va_P D vwCl wc H := (va_P.sub hP _ (fm_map _ wc hC2))
  have hDc : va_D (fun _ => True) wc := (va_D.sub hD _ hn2 hC2).weaken (fun _ _ _ _ => trivial)
  have hFc := va_free (wc := wc) hD hS X.hA _ hC2
  refine vx_calli (vx_runV (As := av) (rest := rest) X.fix (hM H.size) (cwV av.length X.hts hG hwd rfl rfl hdy hR) (gPreVN X.K hN hS hFc hPc hDc hc he) rfl rfl hl.1 rfl (lv_room hrest) hd ⟨Nat.le_trans hkc hf.1, Nat.le_trans hks hf.2⟩) hS (fun q _ h => hFc q h) hFc (fun q _ h => hFc q h) (fun E ce q9 u t H1 locs1 ht hvm hw hB hz1 hk1 hS hq9 hv hcl => absurd hB.1 (hE E)) (fun r u t H1 locs1 ht hvm hw hB hz1 hk1 hS => ?_)
  obtain ⟨rfl, rfl⟩ := hp r u hw
  obtain ⟨hP1, hK1, hD1⟩ := hB
  rw [ht] at hP1
  obtain ⟨hP2, hD2⟩ := putB_join hP hD _ hC2 hn2 ha hk1 hP1
  rw [shift_put, hput] at hP2 hD2
  exact W.widen hkc hks (k H1 locs1 ls hP2 hD2 hS hl)
theorem g_cwn (X : gX p s m args c D tys A cc nL own Ts) (hN : gN A s) {r0 : Int32} {W0 : va_W} (hW : CWN l D tys y wds rm b av r0 W0) (pc' kc' ks' : Nat) (A9 : va_W) (hws : ws = A9 ++ W0) (hG : GoodIn Ts (wsV own index C y wds)) (hwd : wds = Cond.code y bytes maxL ret :: ws9)
    (hdy : y.cls = C ∧ y.cls ≠ "java/lang/invoke/MethodHandle" ∧ y.cls ≠ "java/lang/invoke/VarHandle" ∧ (parseMethodDescriptor y.desc).map (fun d => d.parameters.length) = some n) (hnn : av.length = n) (hR : rm.frames + 1 ≤ R.frames ∧ 8 + (maxL + 11) + rm.locals ≤ R.locals) {T : u_T} {N : Nat} (hc : vwCl[5]? = some (C, T, N))
    (hst : st = av.reverse ++ .ref b :: rest) (hrest : (rest.map fun v => v.category).sum ≤ 8) (hd : decode cc pc = .ok (.invokevirtual index, 3)) (hpc : pc + 3 = pc') (hkc : kc + rm.cells ≤ kc') (hks : ks + rm.slots ≤ ks') (hf : kc' ≤ R.cells ∧ ks' ≤ R.slots)
    (k : G p l e R s m args below meth c Q D A nL kc' ks' ws lv pc' (.int r0 :: rest)) : G p l e R s m args below meth c Q D A nL kc ks ws lv pc st := by
  subst hnn
  subst hpc
  subst hst
  subst hws
  obtain ⟨wc, isC, fs, q0, hM, hC, hn, he⟩ := hW
  intro H locs ls hP hD hS hl
  have hC2 := shift_C (A9 := A9) hC
  have hn2 := shift_nd (n := A9.length) hn
  have hPc : va_P D vwCl wc H := (va_P.sub hP _ (fm_map _ wc hC2))
  have hDc : va_D (fun _ => True) wc := (va_D.sub hD _ hn2 hC2).weaken (fun _ _ _ _ => trivial)
  have hFc := va_free (wc := wc) hD hS X.hA _ hC2
  refine va_calli (va_runV (As := av) (rest := rest) X.fix (hM H.size) (cwV av.length X.hts hG hwd rfl rfl hdy hR) (gPreVN X.K hN hS hFc hPc hDc hc he) rfl rfl hl.1 rfl (lv_room hrest) hd ⟨Nat.le_trans hkc hf.1, Nat.le_trans hks hf.2⟩) hS (fun q _ h => hFc q h) hFc (fun r u t H1 locs1 ht hvm hw hB hz1 hk1 hS => ?_)
  obtain ⟨rfl, rfl⟩ := hw
  obtain ⟨hP1, hK1, hD1⟩ := hB
  rw [ht] at hP1
  obtain ⟨hP2, hD2⟩ := putB_join hP hD _ hC2 hn2 rfl hk1 hP1
  rw [putB_id hC2] at hP2 hD2
  exact W.widen hkc hks (k H1 locs1 ls hP2 hD2 hS hl)
theorem g_cwd (X : gX p s m args c D tys A cc nL own Ts) (hN : gN A s) {r0 : UInt64} {W0 : va_W} (hW : CWD l D tys y wds rm b av r0 W0) (pc' kc' ks' : Nat) (A9 : va_W) (hws : ws = A9 ++ W0) (hG : GoodIn Ts (wsV own index C y wds)) (hwd : wds = Cond.code y bytes maxL ret :: ws9)
    (hdy : y.cls = C ∧ y.cls ≠ "java/lang/invoke/MethodHandle" ∧ y.cls ≠ "java/lang/invoke/VarHandle" ∧ (parseMethodDescriptor y.desc).map (fun d => d.parameters.length) = some n) (hnn : av.length = n) (hR : rm.frames + 1 ≤ R.frames ∧ 8 + (maxL + 11) + rm.locals ≤ R.locals) {T : u_T} {N : Nat} (hc : vwCl[5]? = some (C, T, N))
    (hst : st = av.reverse ++ .ref b :: rest) (hrest : (rest.map fun v => v.category).sum ≤ 8) (hd : decode cc pc = .ok (.invokevirtual index, 3)) (hpc : pc + 3 = pc') (hkc : kc + rm.cells ≤ kc') (hks : ks + rm.slots ≤ ks') (hf : kc' ≤ R.cells ∧ ks' ≤ R.slots)
    (k : G p l e R s m args below meth c Q D A nL kc' ks' ws lv pc' (.double r0 :: rest)) : G p l e R s m args below meth c Q D A nL kc ks ws lv pc st := by
  subst hnn
  subst hpc
  subst hst
  subst hws
  obtain ⟨wc, isC, fs, q0, hM, hC, hn, he⟩ := hW
  intro H locs ls hP hD hS hl
  have hC2 := shift_C (A9 := A9) hC
  have hn2 := shift_nd (n := A9.length) hn
  have hPc : va_P D vwCl wc H := (va_P.sub hP _ (fm_map _ wc hC2))
  have hDc : va_D (fun _ => True) wc := (va_D.sub hD _ hn2 hC2).weaken (fun _ _ _ _ => trivial)
  have hFc := va_free (wc := wc) hD hS X.hA _ hC2
  refine va_calld (va_runV (As := av) (rest := rest) X.fix (hM H.size) (cwV av.length X.hts hG hwd rfl rfl hdy hR) (gPreVN X.K hN hS hFc hPc hDc hc he) rfl rfl hl.1 rfl (lv_room hrest) hd ⟨Nat.le_trans hkc hf.1, Nat.le_trans hks hf.2⟩) hS (fun q _ h => hFc q h) hFc (fun r u t H1 locs1 ht hvm hw hB hz1 hk1 hS => ?_)
  obtain ⟨rfl, rfl⟩ := hw
  obtain ⟨hP1, hK1, hD1⟩ := hB
  rw [ht] at hP1
  obtain ⟨hP2, hD2⟩ := putB_join hP hD _ hC2 hn2 rfl hk1 hP1
  rw [putB_id hC2] at hP2 hD2
  exact W.widen hkc hks (k H1 locs1 ls hP2 hD2 hS hl)
end GCW
theorem sR_app {cI : ClassId} {sc wa ra fa : Nat → Nat} {nw nr nf : Nat} {S T st fe fo : Nat → Nat} {C9 : va_W} : sR cI sc wa ra fa nw nr nf S T st fe fo C9 = sR cI sc wa ra fa nw nr nf S T st fe fo [] ++ C9 := by
  unfold sR
  simp only [List.append_assoc, List.nil_append]
section GCWS
variable {p : Program} {l : Launch} {e : Env} {R : Room} {s : State} {m : MethodId} {args : Array Value} {below : List Frame} {meth : Method} {c : Code} {Q : State → Prop}
variable {D : va_G} {tys : List (ClassId × FieldType)} {A : Nat → Prop} {cc : ByteArray} {nL kc ks : Nat} {own : String} {Ts : List Cond}
variable {ws ws' : va_W} {lv lv' : List (Nat × Value)} {pc : Nat} {st rest : List Value}
variable {y : MethodName} {wds ws9 : List Cond} {rm : Room} {bytes : ByteArray} {maxL n index : Nat} {ret : Option FieldType} {C : String} {b : Nat} {av : List Value}
variable {cI : ClassId} {sc wa ra fa : Nat → Nat} {nw nr nf : Nat} {S5 T5 t5 fe fo : Nat → Nat}
theorem g_cws (X : gX p s m args c D tys A cc nL own Ts) (hN : gN A s) {r0 : Int32} {W0 W1 : va_W} (hW : CW l D tys y wds rm b av r0 W0 W1) (pc' kc' ks' : Nat) (A9 : va_W) (hws : ws = A9 ++ sR cI sc wa ra fa nw nr nf S5 T5 t5 fe fo W0) (hG : GoodIn Ts (wsV own index C y wds)) (hwd : wds = Cond.code y bytes maxL ret :: ws9)
    (hdy : y.cls = C ∧ y.cls ≠ "java/lang/invoke/MethodHandle" ∧ y.cls ≠ "java/lang/invoke/VarHandle" ∧ (parseMethodDescriptor y.desc).map (fun d => d.parameters.length) = some n) (hnn : av.length = n) (hR : rm.frames + 1 ≤ R.frames ∧ 8 + (maxL + 11) + rm.locals ≤ R.locals) {T : u_T} {N : Nat} (hc : vwCl[5]? = some (C, T, N))
    (hst : st = av.reverse ++ .ref b :: rest) (hrest : (rest.map fun v => v.category).sum ≤ 8) (hd : decode cc pc = .ok (.invokevirtual index, 3)) (hpc : pc + 3 = pc') (hkc : kc + rm.cells ≤ kc') (hks : ks + rm.slots ≤ ks') (hf : kc' ≤ R.cells ∧ ks' ≤ R.slots)
    (hw' : A9 ++ sR cI sc wa ra fa nw nr nf S5 T5 t5 fe fo W1 = ws') (k : G p l e R s m args below meth c Q D A nL kc' ks' ws' lv pc' (.int r0 :: rest)) : G p l e R s m args below meth c Q D A nL kc ks ws lv pc st :=
  g_cw X hN hW pc' kc' ks' (A9 ++ sR cI sc wa ra fa nw nr nf S5 T5 t5 fe fo []) (by rw [hws, List.append_assoc, ← sR_app]) hG hwd hdy hnn hR hc hst hrest hd hpc hkc hks hf (by rw [List.append_assoc, ← sR_app]; exact hw') k
theorem g_cwns (X : gX p s m args c D tys A cc nL own Ts) (hN : gN A s) {r0 : Int32} {W0 : va_W} (hW : CWN l D tys y wds rm b av r0 W0) (pc' kc' ks' : Nat) (A9 : va_W) (hws : ws = A9 ++ sR cI sc wa ra fa nw nr nf S5 T5 t5 fe fo W0) (hG : GoodIn Ts (wsV own index C y wds)) (hwd : wds = Cond.code y bytes maxL ret :: ws9)
    (hdy : y.cls = C ∧ y.cls ≠ "java/lang/invoke/MethodHandle" ∧ y.cls ≠ "java/lang/invoke/VarHandle" ∧ (parseMethodDescriptor y.desc).map (fun d => d.parameters.length) = some n) (hnn : av.length = n) (hR : rm.frames + 1 ≤ R.frames ∧ 8 + (maxL + 11) + rm.locals ≤ R.locals) {T : u_T} {N : Nat} (hc : vwCl[5]? = some (C, T, N))
    (hst : st = av.reverse ++ .ref b :: rest) (hrest : (rest.map fun v => v.category).sum ≤ 8) (hd : decode cc pc = .ok (.invokevirtual index, 3)) (hpc : pc + 3 = pc') (hkc : kc + rm.cells ≤ kc') (hks : ks + rm.slots ≤ ks') (hf : kc' ≤ R.cells ∧ ks' ≤ R.slots)
    (k : G p l e R s m args below meth c Q D A nL kc' ks' ws lv pc' (.int r0 :: rest)) : G p l e R s m args below meth c Q D A nL kc ks ws lv pc st :=
  g_cwn X hN hW pc' kc' ks' (A9 ++ sR cI sc wa ra fa nw nr nf S5 T5 t5 fe fo []) (by rw [hws, List.append_assoc, ← sR_app]) hG hwd hdy hnn hR hc hst hrest hd hpc hkc hks hf k
theorem g_cwds (X : gX p s m args c D tys A cc nL own Ts) (hN : gN A s) {r0 : UInt64} {W0 : va_W} (hW : CWD l D tys y wds rm b av r0 W0) (pc' kc' ks' : Nat) (A9 : va_W) (hws : ws = A9 ++ sR cI sc wa ra fa nw nr nf S5 T5 t5 fe fo W0) (hG : GoodIn Ts (wsV own index C y wds)) (hwd : wds = Cond.code y bytes maxL ret :: ws9)
    (hdy : y.cls = C ∧ y.cls ≠ "java/lang/invoke/MethodHandle" ∧ y.cls ≠ "java/lang/invoke/VarHandle" ∧ (parseMethodDescriptor y.desc).map (fun d => d.parameters.length) = some n) (hnn : av.length = n) (hR : rm.frames + 1 ≤ R.frames ∧ 8 + (maxL + 11) + rm.locals ≤ R.locals) {T : u_T} {N : Nat} (hc : vwCl[5]? = some (C, T, N))
    (hst : st = av.reverse ++ .ref b :: rest) (hrest : (rest.map fun v => v.category).sum ≤ 8) (hd : decode cc pc = .ok (.invokevirtual index, 3)) (hpc : pc + 3 = pc') (hkc : kc + rm.cells ≤ kc') (hks : ks + rm.slots ≤ ks') (hf : kc' ≤ R.cells ∧ ks' ≤ R.slots)
    (k : G p l e R s m args below meth c Q D A nL kc' ks' ws lv pc' (.double r0 :: rest)) : G p l e R s m args below meth c Q D A nL kc ks ws lv pc st :=
  g_cwd X hN hW pc' kc' ks' (A9 ++ sR cI sc wa ra fa nw nr nf S5 T5 t5 fe fo []) (by rw [hws, List.append_assoc, ← sR_app]) hG hwd hdy hnn hR hc hst hrest hd hpc hkc hks hf k
end GCWS
theorem okN : okF gN := ⟨fun A U g mk a h => h.blind g mk a, fun A A1 s U H locs h hS hA hU hW => h.call hS hA hU hW⟩
theorem mean_c (v : Int32) (op : CmpOp) : Op.cmpValue (FP.dcmp (FP.ddiv (FP.i2d v) 4636455816377925632) (FP.ddiv (FP.i2d v) 4636455816377925632)) op = 0 := by
  have hb : FP.Core.DFin 4636455816377925632 := (FP.Core.fin_bits _).mpr (by decide +kernel)
  have hz : ¬ FP.Core.DZero 4636455816377925632 := fun z => absurd ((FP.Core.zero_bits2 _).mp z) (by decide +kernel)
  have hi : FP.Core.dIsNaN (FP.Core.i2d v) = false := FP.Core.DFin.notNaN (FP.Core.i2d_fin v)
  have hd : FP.Core.dIsNaN (FP.Core.ddiv (FP.Core.i2d v) 4636455816377925632) = false := FP.Core.ddiv_out hi hb hz
  have h := (FP.Core.notNaN_iff _).mp hd
  show Op.cmpValue (FP.Core.dcmp (FP.Core.ddiv (FP.Core.i2d v) 4636455816377925632) (FP.Core.ddiv (FP.Core.i2d v) 4636455816377925632)) op = 0
  rw [FP.Core.dcmp_self h]
  rfl
theorem two0 {n k : Nat} {r w : Int32} (h1 : isR n r) (h2 : isR k w) : twoE n k r w = 0 := if_neg (fun z => z ⟨h1, h2⟩)
theorem one0 {n : Nat} {r : Int32} (h1 : isR n r) : oneE n r = 0 := if_neg (fun z => z h1)
theorem inR_of {lo hi j : Nat} (h1 : lo ≤ j) (h2 : j ≤ hi) (h : hi < 2 ^ 31) : inR (nI j) (nI lo) (nI hi) := ⟨(nI_leI (by omega) (by omega)).mpr h1, (nI_leI (by omega) (by omega)).mpr h2⟩
theorem win0 {n x y w h o : Nat} (hn : n < 6) (hw1 : 1 ≤ w) (hw : x + w ≤ 12) (hh1 : 1 ≤ h) (hh : y + h ≤ 8) (ho1 : 1 ≤ o) (ho : o ≤ 9) : winE n (nI x) (nI y) (nI w) (nI h) (nI o) = 0 := by
  unfold winE
  rw [if_neg (fun z => z ⟨inR_of hw1 (by omega) (by decide), inR_of hh1 (by omega) (by decide), inR_of ho1 ho (by decide)⟩), if_neg, if_neg (by omega)]
  intro z
  rw [pk_sub (show w ≤ 12 by omega), pk_sub (show h ≤ 8 by omega)] at z
  exact z ⟨inR_of (Nat.zero_le _) (by omega) (by omega), inR_of (Nat.zero_le _) (by omega) (by omega)⟩
theorem rop0 {S : Nat → Nat} {n x t : Nat} (hn : n < 6) (hx : x < 12) (ht1 : 1 ≤ t) (ht : t ≤ 30) (hh : hung S n x = false) : ropE S n (nI x) (nI t) = 0 := by
  unfold ropE
  rw [if_neg (fun z => z (isR_of hx (by decide))), if_neg (fun z => z (inR_of ht1 ht (by decide))), if_neg]
  rw [tn_nI (by omega), hh]
  rintro (z | z)
  · omega
  · cases z
theorem fea0 {n ev on : Nat} (hn : n < 4) (h1 : 2 ≤ ev) (h2 : ev ≤ 30) (h3 : on < ev) : feaE n (nI ev) (nI on) = 0 := by
  unfold feaE
  rw [if_neg (fun z => z ⟨inR_of h1 h2 (by decide), isR_of h3 (by omega)⟩), if_neg (by omega)]
theorem mov0 {S : Nat → Nat} {n r x : Nat} (hn : n ≤ 6) (hr : r < n) (hx : x < 12) (hh : hung S n x = false) : movE S n (nI r) (nI x) = 0 := by
  unfold movE
  rw [if_neg (fun z => z ⟨isR_of hr (by omega), isR_of hx (by decide)⟩), if_neg]
  rw [tn_nI (by omega), hh]
  intro z; cases z
theorem wp_hi {S T : Nat → Nat} {w k : Nat} (h : 100 ≤ k) : wp S T w k = S k := by
  unfold wp wpU
  rw [if_neg]
  omega
theorem wp_lo {S T : Nat → Nat} {w k : Nat} (h : k < 4) : wp S T w k = S k := wpU_lo h
theorem wp_r {S T : Nat → Nat} {w q : Nat} : vr q (wp S T w) = vr q S := by
  funext k
  unfold vr
  rw [wp_hi (by omega)]
theorem wp_w {S T : Nat → Nat} {w n : Nat} : vw n (wp S T w) = vw n S := by
  funext k
  unfold vw
  rw [wp_hi (by omega)]

set_option maxRecDepth 100000 in
theorem cw_window (l : Launch) (hfl : l.stackTraces = false) (D : va_G) (cI cZ cJ : ClassId) (ad : Nat → Nat) (S T st fe fo : Nat → Nat) (nw nr nf : Nat) (x y w h o : Nat) (hn : nw < 6) (hw1 : 1 ≤ w) (hw : x + w ≤ 12) (hh1 : 1 ≤ h) (hh : y + h ≤ 8) (ho1 : 1 ≤ o) (ho : o ≤ 9) : CW l D (gT cI cZ cJ) yX5_window wsX5_window rm_X5_window (ad 0) [.int (nI x), .int (nI y), .int (nI w), .int (nI h), .int (nI o)] (nI nw) (gW ad cI cZ S T st fe fo nw nr nf) (gW ad cI cZ S (ptT T nw x y w h o) st fe fo (nw + 1) nr nf) := by
  have hM := m_X5_window l hfl D cI cZ cJ (ad 0) (ad 1) (ad 7) (ad 10) (ad 20) (ad 2) (ad 3) (ad 4) (ad 5) (ad 6) nw T (nI x) (nI y) (nI w) (nI h) (nI o) (by omega)
  have hE : winE nw (nI x) (nI y) (nI w) (nI h) (nI o) = 0 := win0 hn hw1 hw hh1 hh ho1 ho
  rw [tn_nI (show x < 2 ^ 31 by omega), tn_nI (show y < 2 ^ 31 by omega), tn_nI (show w < 2 ^ 31 by omega), tn_nI (show h < 2 ^ 31 by omega), tn_nI (show o < 2 ^ 31 by omega)] at hM
  refine ⟨_, _, [0, 1, 2, 3, 4, 5, 6], _, _, _, 0, hM, fun r u h => h.2, ?_, rfl, by decide +kernel, rfl, rfl, rfl⟩
  rintro E (⟨-, h⟩ | ⟨-, h⟩ | ⟨-, h⟩) <;> (rw [hE] at h; cases h)
set_option maxRecDepth 100000 in
theorem cw_rope (l : Launch) (hfl : l.stackTraces = false) (D : va_G) (cI cZ cJ : ClassId) (ad : Nat → Nat) (S T st fe fo : Nat → Nat) (nw nr nf : Nat) (x t wy : Nat) (hg : Gw S nr) (hn : nr < 6) (hx : x < 12) (ht1 : 1 ≤ t) (ht : t ≤ 30) (hw : wy ≤ 1) (hh : hung S nr x = false) : CW l D (gT cI cZ cJ) yX5_rope wsX5_rope rm_X5_rope (ad 0) [.int (nI x), .int (nI t), .int (nI (1 - wy))] (nI nr) (gW ad cI cZ S T st fe fo nw nr nf) (gW ad cI cZ (ptR S nr x wy) T (up st nr t) fe fo nw (nr + 1) nf) := by
  have hM := m_X5_rope l hfl D cI cZ cJ (ad 0) (ad 1) (ad 7) (ad 10) (ad 20) (ad 11) (ad 13) (ad 14) (ad 15) (ad 16) (ad 17) (ad 18) (ad 19) nr S st (nI x) (nI t) wy hg hw
  have hE : ropE S nr (nI x) (nI t) = 0 := rop0 hn hx ht1 ht hh
  rw [tn_nI (show x < 2 ^ 31 by omega), tn_nI (show t < 2 ^ 31 by omega)] at hM
  refine ⟨_, _, [0, 10, 13, 14, 15, 16, 17, 18, 19], _, _, _, 0, hM, fun r u h => h.2, ?_, rfl, by decide +kernel, rfl, (by unfold gW; rw [vs_p]; rfl), rfl⟩
  rintro E (⟨-, h⟩ | ⟨-, h⟩ | ⟨-, h⟩) <;> (rw [hE] at h; cases h)
set_option maxRecDepth 100000 in
theorem cw_feast (l : Launch) (hfl : l.stackTraces = false) (D : va_G) (cI cZ cJ : ClassId) (ad : Nat → Nat) (S T st fe fo : Nat → Nat) (nw nr nf : Nat) (ev on : Nat) (hn : nf < 4) (h1 : 2 ≤ ev) (h2 : ev ≤ 30) (h3 : on < ev) : CW l D (gT cI cZ cJ) yX5_feast wsX5_feast rm_X5_feast (ad 0) [.int (nI ev), .int (nI on)] (nI nf) (gW ad cI cZ S T st fe fo nw nr nf) (gW ad cI cZ S T st (up fe nf ev) (up fo nf on) nw nr (nf + 1)) := by
  have hM := m_X5_feast l hfl D cI cZ cJ (ad 0) (ad 1) (ad 7) (ad 10) (ad 20) (ad 8) (ad 9) nf fe fo (nI ev) (nI on) (by omega)
  have hE : feaE nf (nI ev) (nI on) = 0 := fea0 hn h1 h2 h3
  rw [tn_nI (show ev < 2 ^ 31 by omega), tn_nI (show on < 2 ^ 31 by omega)] at hM
  refine ⟨_, _, [0, 7, 8, 9], _, _, _, 0, hM, fun r u h => h.2, ?_, rfl, by decide +kernel, rfl, rfl, rfl⟩
  rintro E (⟨-, h⟩ | ⟨-, h⟩) <;> (rw [hE] at h; cases h)
set_option maxRecDepth 100000 in
theorem cw_setWind (l : Launch) (hfl : l.stackTraces = false) (D : va_G) (cI cZ cJ : ClassId) (ad : Nat → Nat) (S T st fe fo : Nat → Nat) (nw nr nf : Nat) (w : Int32) (hw : inR w (nIm 5) (nI 5)) : CW l D (gT cI cZ cJ) yX5_setWind wsX5_setWind rm_X5_setWind (ad 0) [.int w] (nI (S 1)) (gW ad cI cZ S T st fe fo nw nr nf) (gW ad cI cZ (up S 1 (wdN w)) T st fe fo nw nr nf) := by
  have hM := m_X5_setWind l hfl D cI cZ cJ (ad 0) (ad 1) (ad 7) (ad 10) (ad 20) (ad 11) (ad 13) S w
  have hE : setE w = 0 := if_neg (fun z => z hw)
  refine ⟨_, _, [0, 10], _, _, _, 0, hM, fun r u h => h.2, ?_, rfl, by decide +kernel, rfl, (by unfold gW; simp (disch := omega) only [vs_o, vr_o, vw_o]; rfl), rfl⟩
  rintro E (⟨-, h⟩) <;> (rw [hE] at h; cases h)
set_option maxRecDepth 100000 in
theorem cw_move (l : Launch) (hfl : l.stackTraces = false) (D : va_G) (cI cZ cJ : ClassId) (ad : Nat → Nat) (S T st fe fo : Nat → Nat) (nw nr nf : Nat) (r x : Nat) (hg : Gw S nr) (hr : r < nr) (hx : x < 12) (hh : hung S nr x = false) : CW l D (gT cI cZ cJ) yX5_move wsX5_move rm_X5_move (ad 0) [.int (nI r), .int (nI x)] (nI (S (100 + 5 * r))) (gW ad cI cZ S T st fe fo nw nr nf) (gW ad cI cZ (reh S r x) T st fe fo nw nr nf) := by
  have hM := m_X5_move l hfl D cI cZ cJ (ad 0) (ad 1) (ad 7) (ad 10) (ad 20) (ad 11) (ad 13) (ad 14) (ad 15) (ad 16) (ad 17) (ad 18) (ad 19) nr S st (nI r) (nI x) hg
  have hE : movE S nr (nI r) (nI x) = 0 := mov0 hg.1 hr hx hh
  have hn := hg.1
  rw [tn_nI (show r < 2 ^ 31 by omega), tn_nI (show x < 2 ^ 31 by omega)] at hM
  refine ⟨_, _, [0, 10, 13, 14, 15, 16, 17, 18, 19], _, _, _, 0, hM, fun r u h => h.2, ?_, rfl, by decide +kernel, rfl, (by unfold gW; rw [reh_s]; rfl), rfl⟩
  rintro E (⟨-, h⟩ | ⟨-, h⟩) <;> (rw [hE] at h; cases h)
set_option maxRecDepth 100000 in
theorem cw_turn (l : Launch) (hfl : l.stackTraces = false) (D : va_G) (cI cZ cJ : ClassId) (ad : Nat → Nat) (S T st fe fo : Nat → Nat) (nw nr nf : Nat) (r : Nat) (hg : Gw S nr) (hr : r < nr) : CW l D (gT cI cZ cJ) yX5_turn wsX5_turn rm_X5_turn (ad 0) [.int (nI r)] (nI (S (100 + 5 * r + 2))) (gW ad cI cZ S T st fe fo nw nr nf) (gW ad cI cZ (up S (100 + 5 * r + 2) (1 - S (100 + 5 * r + 2))) T st fe fo nw nr nf) := by
  have hM := m_X5_turn l hfl D cI cZ cJ (ad 0) (ad 1) (ad 7) (ad 10) (ad 20) (ad 11) (ad 13) (ad 14) (ad 15) (ad 16) (ad 17) (ad 18) (ad 19) nr S st (nI r) hg
  have hE : oneE nr (nI r) = 0 := one0 (isR_of hr (by have := hg.1; omega))
  have hn := hg.1
  rw [tn_nI (show r < 2 ^ 31 by omega)] at hM
  refine ⟨_, _, [0, 10, 13, 14, 15, 16, 17, 18, 19], _, _, _, 0, hM, fun r u h => h.2, ?_, rfl, by decide +kernel, rfl, (by unfold gW; rw [vs_o (p := 100 + 5 * r + 2) (by omega)]; rfl), rfl⟩
  rintro E (⟨-, h⟩) <;> (rw [hE] at h; cases h)
set_option maxRecDepth 100000 in
theorem cw_wipe (l : Launch) (hfl : l.stackTraces = false) (D : va_G) (cI cZ cJ : ClassId) (ad : Nat → Nat) (S T st fe fo : Nat → Nat) (nw nr nf : Nat) (w : Nat) (hs : sootOk S) (hn : nw ≤ 6) (hT : ∀ k : Nat, k < nw → winOk T k) (hw : w < nw) : CW l D (gT cI cZ cJ) yX5_wipe wsX5_wipe rm_X5_wipe (ad 0) [.int (nI w)] (nI (addW S T w)) (gW ad cI cZ S T st fe fo nw nr nf) (gW ad cI cZ (wp S T w) T st fe fo nw nr nf) := by
  have hM := m_X5_wipe l hfl D cI cZ cJ (ad 0) (ad 1) (ad 7) (ad 10) (ad 20) (ad 2) (ad 3) (ad 4) (ad 5) (ad 6) nw T (ad 11) (ad 12) (ad 13) S (nI w) hs hn hT
  have hE : oneE nw (nI w) = 0 := one0 (isR_of hw (by omega))
  rw [tn_nI (show w < 2 ^ 31 by omega)] at hM
  refine ⟨_, _, [0, 1, 2, 3, 4, 5, 6, 10, 11, 12], _, _, _, 0, hM, fun r u h => h.2, ?_, rfl, by decide +kernel, rfl, (by unfold gW; rw [wp_r, wp_r, wp_r, wp_r, wp_w]; rfl), rfl⟩
  rintro E (⟨-, h⟩) <;> (rw [hE] at h; cases h)
set_option maxRecDepth 100000 in
theorem cw_pass (l : Launch) (hfl : l.stackTraces = false) (D : va_G) (cI cZ cJ : ClassId) (ad : Nat → Nat) (S T st fe fo : Nat → Nat) (nw nr nf : Nat) (d : Nat) (hg : Gd S nr) (hs : stOk T st fe fo nw nr nf) (hd : S 0 < 2 ^ 28) (h1 : 1 ≤ d) (h2 : d ≤ 40) : CW l D (gT cI cZ cJ) yX5_pass wsX5_pass rm_X5_pass (ad 0) [.int (nI d)] (nI (daysS T st fe fo nw nr nf S d 2) - nI (S 2)) (gW ad cI cZ S T st fe fo nw nr nf) (gW ad cI cZ (daysS T st fe fo nw nr nf S d) T st fe fo nw nr nf) := by
  have hM := m_X5_pass l hfl D cI cZ cJ (ad 0) (ad 1) (ad 7) (ad 10) (ad 20) (ad 11) (ad 12) (ad 13) (ad 14) (ad 15) (ad 16) (ad 17) (ad 18) (ad 19) nr S st (ad 2) (ad 3) (ad 4) (ad 5) (ad 6) nw T (ad 8) (ad 9) nf fe fo (nI d) hg hs hd
  have hE : pasE (nI d) = 0 := if_neg (fun z => z (inR_of h1 h2 (by decide)))
  rw [tn_nI (show d < 2 ^ 31 by omega)] at hM
  refine ⟨_, _, [0, 10, 11, 12, 13, 14, 15, 16, 17, 18, 19, 1, 2, 3, 4, 5, 6, 7, 8, 9], _, _, _, 0, hM, fun r u h => h.2, ?_, rfl, by decide +kernel, rfl, ((putB_mg [some (ad 0, .inr (5, [.ref (ad 1), .ref (ad 7), .ref (ad 10), .ref (ad 20)])), some (ad 1, .inr (4, [.int (nI nw), .ref (ad 2), .ref (ad 3), .ref (ad 4), .ref (ad 5), .ref (ad 6)])), some (ad 2, .inl (cI, 6, .inl (vt 0 T))), some (ad 3, .inl (cI, 6, .inl (vt 1 T))), some (ad 4, .inl (cI, 6, .inl (vt 2 T))), some (ad 5, .inl (cI, 6, .inl (vt 3 T))), some (ad 6, .inl (cI, 6, .inl (vt 4 T))), some (ad 7, .inr (1, [.int (nI nf), .ref (ad 8), .ref (ad 9)])), some (ad 8, .inl (cI, 4, .inl (v4 fe))), some (ad 9, .inl (cI, 4, .inl (v4 fo))), some (ad 10, .inr (0, [.ref (ad 11), .ref (ad 13), .int (nI ((daysS T st fe fo nw nr nf S d) 1)), .int (nI ((daysS T st fe fo nw nr nf S d) 0)), .int (nI ((daysS T st fe fo nw nr nf S d) 2)), .int (nI ((daysS T st fe fo nw nr nf S d) 3))])), some (ad 11, .inr (2, [.ref (ad 12)])), some (ad 12, .inl (cI, 96, .inl (vs (daysS T st fe fo nw nr nf S d)))), some (ad 13, .inr (3, [.int (nI nr), .ref (ad 14), .ref (ad 15), .ref (ad 16), .ref (ad 17), .ref (ad 18), .ref (ad 19)])), some (ad 14, .inl (cI, 6, .inl (vr 0 (daysS T st fe fo nw nr nf S d)))), some (ad 15, .inl (cI, 6, .inl (vr 1 (daysS T st fe fo nw nr nf S d)))), some (ad 16, .inl (cI, 6, .inl (v6 st))), some (ad 17, .inl (cZ, 6, .inl (vw nr (daysS T st fe fo nw nr nf S d)))), some (ad 18, .inl (cI, 6, .inl (vr 3 (daysS T st fe fo nw nr nf S d)))), some (ad 19, .inl (cI, 6, .inl (vr 4 (daysS T st fe fo nw nr nf S d))))] [true, true, true, true, true, true, true, true, true, true, true, true, true, true, true, true, true, true, true, true] rfl (by decide +kernel) rfl rfl rfl (by decide +kernel)).trans rfl), rfl⟩
  rintro E (⟨-, h⟩) <;> (rw [hE] at h; cases h)
set_option maxRecDepth 100000 in
theorem cw_soot (l : Launch) (hfl : l.stackTraces = false) (D : va_G) (cI cZ cJ : ClassId) (ad : Nat → Nat) (S T st fe fo : Nat → Nat) (nw nr nf : Nat) (x r : Nat) (hx : x < 12) (hr : r < 8) : CW l D (gT cI cZ cJ) yX5_soot wsX5_soot rm_X5_soot (ad 0) [.int (nI x), .int (nI r)] (nI (S (4 + (x * 8 + r)))) (gW ad cI cZ S T st fe fo nw nr nf) (gW ad cI cZ S T st fe fo nw nr nf) := by
  have hM := m_X5_soot l hfl D cI cZ cJ (ad 0) (ad 1) (ad 7) (ad 10) (ad 20) (ad 11) (ad 12) (ad 13) S (nI x) (nI r)
  have hE : twoE 12 8 (nI x) (nI r) = 0 := two0 (isR_of hx (by decide)) (isR_of hr (by decide))
  rw [tn_nI (show x < 2 ^ 31 by omega), tn_nI (show r < 2 ^ 31 by omega)] at hM
  refine ⟨_, _, [0, 10, 11, 12], _, _, _, 0, hM, fun r u h => h.2, ?_, rfl, by decide +kernel, rfl, putB_id rfl, rfl⟩
  rintro E (⟨-, h⟩) <;> (rw [hE] at h; cases h)
set_option maxRecDepth 100000 in
theorem cw_about (l : Launch) (hfl : l.stackTraces = false) (D : va_G) (cI cZ cJ : ClassId) (ad : Nat → Nat) (S T st fe fo : Nat → Nat) (nw nr nf : Nat) (w wh : Nat) (hs : sootOk S) (hn : nw ≤ 6) (hT : ∀ k : Nat, k < nw → winOk T k) (hw : w < nw) (hh : wh < 8) : CW l D (gT cI cZ cJ) yX5_about wsX5_about rm_X5_about (ad 0) [.int (nI w), .int (nI wh)] (nI (abt S T w wh)) (gW ad cI cZ S T st fe fo nw nr nf) (gW ad cI cZ S T st fe fo nw nr nf) := by
  have hM := m_X5_about l hfl D cI cZ cJ (ad 0) (ad 1) (ad 7) (ad 10) (ad 20) (ad 2) (ad 3) (ad 4) (ad 5) (ad 6) nw T (ad 11) (ad 12) (ad 13) S (nI w) (nI wh) hs hn hT
  have hE : twoE nw 8 (nI w) (nI wh) = 0 := two0 (isR_of hw (by omega)) (isR_of hh (by decide))
  rw [tn_nI (show w < 2 ^ 31 by omega), tn_nI (show wh < 2 ^ 31 by omega)] at hM
  refine ⟨_, _, [0, 1, 2, 3, 4, 5, 6, 10, 11, 12], _, _, _, 0, hM, fun r u h => h.2, ?_, rfl, by decide +kernel, rfl, putB_id rfl, rfl⟩
  rintro E (⟨-, h⟩) <;> (rw [hE] at h; cases h)
set_option maxRecDepth 100000 in
theorem cw_told (l : Launch) (hfl : l.stackTraces = false) (D : va_G) (cI cZ cJ : ClassId) (ad : Nat → Nat) (S T st fe fo : Nat → Nat) (nw nr nf : Nat) (r wh : Nat) (hg : Gw S nr) (hr : r < nr) (hh : wh < 6) : CW l D (gT cI cZ cJ) yX5_told wsX5_told rm_X5_told (ad 0) [.int (nI r), .int (nI wh)] (nI (tld S st r wh)) (gW ad cI cZ S T st fe fo nw nr nf) (gW ad cI cZ S T st fe fo nw nr nf) := by
  have hM := m_X5_told l hfl D cI cZ cJ (ad 0) (ad 1) (ad 7) (ad 10) (ad 20) (ad 11) (ad 13) (ad 14) (ad 15) (ad 16) (ad 17) (ad 18) (ad 19) nr S st (nI r) (nI wh) hg
  have hE : twoE nr 6 (nI r) (nI wh) = 0 := two0 (isR_of hr (by have := hg.1; omega)) (isR_of hh (by decide))
  have hn := hg.1
  rw [tn_nI (show r < 2 ^ 31 by omega), tn_nI (show wh < 2 ^ 31 by omega)] at hM
  refine ⟨_, _, [0, 10, 13, 14, 15, 16, 17, 18, 19], _, _, _, 0, hM, fun r u h => h.2, ?_, rfl, by decide +kernel, rfl, putB_id rfl, rfl⟩
  rintro E (⟨-, h⟩) <;> (rw [hE] at h; cases h)
set_option maxRecDepth 100000 in
theorem cw_count (l : Launch) (hfl : l.stackTraces = false) (D : va_G) (cI cZ cJ : ClassId) (ad : Nat → Nat) (S T st fe fo : Nat → Nat) (nw nr nf : Nat) (wh : Nat) (hg : Gd S nr) (hs : stOk T st fe fo nw nr nf) (hh : wh < 11) : CW l D (gT cI cZ cJ) yX5_count wsX5_count rm_X5_count (ad 0) [.int (nI wh)] (nI (cnt S T nw nr nf wh)) (gW ad cI cZ S T st fe fo nw nr nf) (gW ad cI cZ S T st fe fo nw nr nf) := by
  have hM := m_X5_count l hfl D cI cZ cJ (ad 0) (ad 1) (ad 7) (ad 10) (ad 20) (ad 11) (ad 12) (ad 13) (ad 14) (ad 15) (ad 16) (ad 17) (ad 18) (ad 19) nr S st (ad 2) (ad 3) (ad 4) (ad 5) (ad 6) nw T (ad 8) (ad 9) nf fe fo (nI wh) hg hs
  have hE : oneE 11 (nI wh) = 0 := one0 (isR_of hh (by decide))
  rw [tn_nI (show wh < 2 ^ 31 by omega)] at hM
  refine ⟨_, _, [0, 1, 2, 3, 4, 5, 6, 7, 8, 9, 10, 11, 12, 13, 14, 15, 16, 17, 18, 19], _, _, _, 0, hM, fun r u h => h.2, ?_, rfl, by decide +kernel, rfl, putB_id rfl, rfl⟩
  rintro E (⟨-, h⟩) <;> (rw [hE] at h; cases h)
set_option maxRecDepth 100000 in
theorem cw_isFeast (l : Launch) (hfl : l.stackTraces = false) (D : va_G) (cI cZ cJ : ClassId) (ad : Nat → Nat) (S T st fe fo : Nat → Nat) (nw nr nf : Nat) (d : Nat) (hf : feOk fe nf) (ho : ∀ j : Nat, j < nf → fo j < 2 ^ 30) (hd : S 0 < 2 ^ 28) (h2 : d ≤ 60) : CW l D (gT cI cZ cJ) yX5_isFeast wsX5_isFeast rm_X5_isFeast (ad 0) [.int (nI d)] (nI (bn (feastOn fe fo nf (S 0 + d)))) (gW ad cI cZ S T st fe fo nw nr nf) (gW ad cI cZ S T st fe fo nw nr nf) := by
  have hM := m_X5_isFeast l hfl D cI cZ cJ (ad 0) (ad 1) (ad 7) (ad 10) (ad 20) (ad 8) (ad 9) nf fe fo (ad 11) (ad 13) S (nI d) hf ho hd
  have hE : isfE (nI d) = 0 := if_neg (fun z => z (inR_of (Nat.zero_le _) h2 (by decide)))
  rw [tn_nI (show d < 2 ^ 31 by omega)] at hM
  refine ⟨_, _, [0, 7, 8, 9, 10], _, _, _, 0, hM, fun r u h => h.2, ?_, rfl, by decide +kernel, rfl, putB_id rfl, rfl⟩
  rintro E (⟨-, h⟩) <;> (rw [hE] at h; cases h)
set_option maxRecDepth 100000 in
theorem cw_next (l : Launch) (D : va_G) (cI cZ cJ : ClassId) (ad : Nat → Nat) (S T st fe fo : Nat → Nat) (nw nr nf : Nat) (hf : feOk fe nf) (ho : ∀ j : Nat, j < nf → fo j < 2 ^ 30) (hd : S 0 < 2 ^ 28) : CWN l D (gT cI cZ cJ) yX5_next wsX5_next rm_X5_next (ad 0) [] (nxF fe fo nf (S 0)) (gW ad cI cZ S T st fe fo nw nr nf) :=
  ⟨_, [0, 7, 8, 9, 10], _, 0, m_X5_next l D cI cZ cJ (ad 0) (ad 1) (ad 7) (ad 10) (ad 20) (ad 8) (ad 9) nf fe fo (ad 11) (ad 13) S hf ho hd, rfl, by decide +kernel, rfl⟩
set_option maxRecDepth 100000 in
theorem cw_mean (l : Launch) (D : va_G) (cI cZ cJ : ClassId) (ad : Nat → Nat) (S T st fe fo : Nat → Nat) (nw nr nf : Nat) : CWD l D (gT cI cZ cJ) yX5_mean wsX5_mean rm_X5_mean (ad 0) [] (FP.ddiv (FP.i2d (nI (allS S))) 4636455816377925632) (gW ad cI cZ S T st fe fo nw nr nf) :=
  ⟨_, [0, 10, 11, 12], _, 0, m_X5_mean l D cI cZ cJ (ad 0) (ad 1) (ad 7) (ad 10) (ad 20) (ad 11) (ad 12) (ad 13) S, rfl, by decide +kernel, rfl⟩
