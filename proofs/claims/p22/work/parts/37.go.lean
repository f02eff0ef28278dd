/-! THE LAW, from its entry to its end -/
section GLP
variable {p : Program} {l : Launch} {e : Env} {R : Room} {s : State} {m : MethodId} {args : Array Value} {below : List Frame} {meth : Method} {c : Code} {Q : State → Prop}
variable {D : va_G} {tys : List (ClassId × FieldType)} {A : Nat → Prop} {cc : ByteArray} {nL kc ks : Nat} {own : String} {Ts : List Cond}
variable {ws : va_W} {lv : List (Nat × Value)} {pc : Nat} {st rest : List Value}
variable {y : MethodName} {wds ws9 : List Cond} {rm : Room} {bytes : ByteArray} {maxL n index : Nat} {ret : Option FieldType} {b : Nat} {av : List Value} {wc wr : va_W}
/-- a public constructor -/
theorem g_callP (X : gX p s m args c D tys A cc nL own Ts) {post : va_W → Prop} (hM : MC l y wds rm D tys wc [.ref b] post) (hC0 : gC s) (pc' : Nat) (isC isR : List Nat) (hG : GoodIn Ts wds) (hwd : wds = Cond.code y bytes maxL none :: ws9) (hml : Cond.methodLink own index y ∈ Ts) (hini : Cond.initialized y.cls ∈ Ts) (hin1 : Cond.instanceMethod y ∈ Ts) (hyn : y.name = "<init>")
    (hdy : y.cls ≠ "java/lang/invoke/MethodHandle" ∧ y.cls ≠ "java/lang/invoke/VarHandle" ∧ (parseMethodDescriptor y.desc).map (fun d => d.parameters.length) = some 0) (hR : rm.frames + 1 ≤ R.frames ∧ 8 + (maxL + 11) + rm.locals ≤ R.locals)
    (hst : st = .ref b :: rest) (hrest : (rest.map fun v => v.category).sum ≤ 8) (hC : isC.map (fun i => ws[i]?) = wc.map some) (hn : va_nd isC = true) (hRr : isR.map (fun i => ws[i]?) = wr.map some) (hnr : va_nd isR = true) (hdis : ∀ i ∈ isR, i ∉ isC)
    (hd : decode cc pc = .ok (.invokespecial index, 3)) (hpc : pc + 3 = pc') (hf : kc + rm.cells ≤ R.cells ∧ ks + rm.slots ≤ R.slots) (k : ∀ u, post u → G p l e R s m args below meth c Q D A nL (kc + rm.cells) (ks + rm.slots) (wr ++ u) lv pc' rest) : G p l e R s m args below meth c Q D A nL kc ks ws lv pc st := by
  subst hpc
  subst hst
  intro H locs ls hP hD hS hl
  have hPc : va_P D vwCl wc H := (va_P.sub hP isC (fm_map isC wc hC))
  have hDc : va_D (fun _ => True) wc := (va_D.sub hD isC hn hC).weaken (fun _ _ _ _ => trivial)
  have hFc := va_free (wc := wc) hD hS X.hA isC hC
  refine va_callv (va_runI (As := []) (b := b) (rest := rest) X.fix (hM H.size) ⟨callB_of 0 X.hts hG hwd rfl rfl (X.hts _ hini) (X.hts _ hml) hdy hR, hyn, X.hts _ hin1⟩ ⟨gPcC_blind _ _ _ _ _, fun U hU hW => ⟨rfl, by rw [hU], by rw [hU]; exact hPc, va_K.moved hW.alike X.K, hDc, hC0.warm hW⟩⟩ rfl rfl hl.1 rfl (lv_room hrest) hd hf) hS (fun q _ h => hFc q h) hFc (fun u t H1 locs1 ht hvm hw hB hz1 hk1 hS => ?_)
  obtain ⟨hP1, hK1, hD1⟩ := hB
  rw [ht] at hP1
  obtain ⟨hP2, hD2⟩ := va_join hP hD isC isR hC hRr hnr hdis hk1 hFc hP1 hD1
  exact k u hw H1 locs1 ls hP2 hD2 hS hl
end GLP

set_option maxHeartbeats 8000000 in
set_option maxRecDepth 100000 in
theorem law_go {p : Program} {l : Launch} {e : Env} {s : State} {m : MethodId} {args : Array Value} {below : List Frame} {meth : Method} {c : Code} {Q : State → Prop} {D : va_G} {A : Nat → Prop} {cI cZ cJ : ClassId} {sb L : Nat} {xs : Nat → Int32} (X : gX p s m args c D (gT cI cZ cJ) A cL_law 22 RL wsL_law) (hF : fB sb L xs A s) (hL : L ≤ 260) (hfl : l.stackTraces = false) (ad : Nat → Nat) (ret : ∀ (u : va_W) (lv : List (Nat × Value)) (kc ks : Nat), kc ≤ 630866 → ks ≤ 7209099 → G p l e room_1 s m args below meth c Q D A 22 kc ks u lv 743 [.int (nI 1)]) : G p l e room_1 s m args below meth c Q D A 22 401 1204 ((gW ad cI cZ (fun _ => 0) (fun _ => 0) (fun _ => 0) (fun _ => 0) (fun _ => 0) 0 0 0)) [(0, .ref sb)] 7 [.ref (ad 0)] := by
  refine g_astore_n X [(1, .ref (ad 0)), (0, .ref sb)] 8 dL_law_7 rfl rfl (by decide) rfl ?_
  refine g_aload_n X 0 9 dL_law_8 rfl rfl rfl ?_
  refine g_aload_n X 1 10 dL_law_9 rfl rfl rfl ?_
  refine g_sSr X (ok_fB sb L xs) hF (m_L_build l D cI cZ cJ hfl ad sb L xs hL) 13 2001 6304 [] rfl gL_law_L_build rfl (n := 2) (by decide +kernel) rfl ⟨Nat.le_of_ble_eq_true rfl, Nat.le_of_ble_eq_true rfl⟩ rfl (Nat.le_of_ble_eq_true rfl) dL_law_10 rfl (Nat.le_of_ble_eq_true rfl) (Nat.le_of_ble_eq_true rfl) ⟨(Nat.le_of_ble_eq_true rfl), (Nat.le_of_ble_eq_true rfl)⟩ (fun ma u9 h9 => ?_)
  obtain ⟨ma9, so, wo, ro, fx, sc, wa, ra, fa, nw, nr, nf, S, T, st, fe, fo, hI, rfl, rfl⟩ := h9
  refine g_eqw (ws' := ((ma, .inr (6, [.int (nI (S 0)), .int (nI (S 1)), .int (nI (S 2)), .int (nI (S 3)), .ref so, .ref wo, .ref ro, .ref fx])) :: (so, .inl (cJ, 12, refs (orf 12 sc))) :: (wo, .inl (cJ, nw, refs (orf nw wa))) :: (ro, .inl (cJ, nr, refs (orf nr ra))) :: (fx, .inl (cJ, nf, refs (orf nf fa))) :: sR cI sc wa ra fa nw nr nf S T st fe fo (gW ad cI cZ S T st fe fo nw nr nf))) rfl ?_
  refine g_astore_n X [(2, .ref ma), (1, .ref (ad 0)), (0, .ref sb)] 14 dL_law_13 rfl rfl (by decide) rfl ?_
  refine g_aload_n X 0 15 dL_law_14 rfl rfl rfl ?_
  refine g_ifnonnull X 20 dL_law_15 (by decide) ?_
  refine g_iconst X (nI 0) 21 dL_law_20 rfl (by decide +kernel) ?_
  refine g_istore_n X [(3, .int (nI 0)), (2, .ref ma), (1, .ref (ad 0)), (0, .ref sb)] 22 dL_law_21 rfl rfl (by decide) rfl ?_
  have L1 : ∀ t : Nat, t ≤ 24 → ∀ (wo ro fx : Nat) (wa ra fa : Nat → Nat) (nw nr nf : Nat) (S T st fe fo : Nat → Nat), IV S T st fe fo nw nr nf (252 + t * 5) → G p l e room_1 s m args below meth c Q D A 22 (t * 400 + 2001) (t * 2400 + 6304) ((ma, .inr (6, [.int (nI (S 0)), .int (nI (S 1)), .int (nI (S 2)), .int (nI (S 3)), .ref so, .ref wo, .ref ro, .ref fx])) :: (so, .inl (cJ, 12, refs (orf 12 sc))) :: (wo, .inl (cJ, nw, refs (orf nw wa))) :: (ro, .inl (cJ, nr, refs (orf nr ra))) :: (fx, .inl (cJ, nf, refs (orf nf fa))) :: sR cI sc wa ra fa nw nr nf S T st fe fo (gW ad cI cZ S T st fe fo nw nr nf)) [(3, .int (nI t)), (2, .ref ma), (1, .ref (ad 0)), (0, .ref sb)] 22 [] := by
    refine g_down _ ?_ ?_
    · intro wo ro fx wa ra fa nw nr nf S T st fe fo hI
      refine g_iload_n X 0 23 dL_law_22 rfl rfl rfl ?_
      refine g_bipush X (nI 24) 25 dL_law_23 rfl (by decide +kernel) ?_
      refine g_icmp_ge X 28 738 dL_law_25 rfl (by decide) (nI_leI (by omega) (by omega)) (fun h25 => ?_) (fun h25 => absurd (Nat.le_refl _) h25)
      obtain ⟨hg, hs, ho, hz, hdc, hd0⟩ := id hI
      refine g_aload_n X 1 739 dL_law_738 rfl rfl rfl ?_
      refine g_aload_n X 2 740 dL_law_739 rfl rfl rfl ?_
      refine g_sVi X okN hF.1.1 (m_X6_isSame l D cI cZ cJ hfl ma so wo ro fx sc wa ra fa nw nr nf S T st fe fo ad hg hs ho (by omega)) 743 (24 * 400 + 2231) (24 * 2400 + 7704) [] rfl gL_law_X6_isSame rfl (n := 1) (by decide +kernel) rfl ⟨Nat.le_of_ble_eq_true rfl, Nat.le_of_ble_eq_true rfl⟩ (ci := 6) 0 rfl rfl rfl (Nat.le_of_ble_eq_true rfl) dL_law_740 rfl (by have h9 : rm_X6_isSame.cells = 230 := rfl; omega) (by have h9 : rm_X6_isSame.slots = 1400 := rfl; omega) ⟨(by have h9 : room_1.cells = 630866 := rfl; omega), (by have h9 : room_1.slots = 7209099 := rfl; omega)⟩ (fun r9 u9 h9 => ?_)
      obtain ⟨rfl, rfl⟩ := h9
      refine g_eqw (ws' := ((ma, .inr (6, [.int (nI (S 0)), .int (nI (S 1)), .int (nI (S 2)), .int (nI (S 3)), .ref so, .ref wo, .ref ro, .ref fx])) :: (so, .inl (cJ, 12, refs (orf 12 sc))) :: (wo, .inl (cJ, nw, refs (orf nw wa))) :: (ro, .inl (cJ, nr, refs (orf nr ra))) :: (fx, .inl (cJ, nf, refs (orf nf fa))) :: sR cI sc wa ra fa nw nr nf S T st fe fo (gW ad cI cZ S T st fe fo nw nr nf))) rfl ?_
      exact ret _ _ _ _ (by omega) (by omega)
    · intro t ht ih_t wo ro fx wa ra fa nw nr nf S T st fe fo hI
      exact law_day X hF hL hfl ma so wo ro fx sc wa ra fa nw nr nf S T st fe fo ad t (252 + t * 5) (t * 400 + 2001) (t * 2400 + 6304) ht hI (by omega) (by omega) (by omega) (fun wo ro fx wa ra fa nw nr nf S T st fe fo hI => g_w (by omega) (by omega) (ih_t wo ro fx wa ra fa nw nr nf S T st fe fo (iv_w hI (by omega))))
  exact L1 0 (Nat.zero_le _) wo ro fx wa ra fa nw nr nf S T st fe fo hI
set_option maxHeartbeats 8000000 in
set_option maxRecDepth 100000 in
theorem law_all {p : Program} {l : Launch} {e : Env} {s : State} {m : MethodId} {args : Array Value} {below : List Frame} {meth : Method} {c : Code} {Q : State → Prop} {D : va_G} {A : Nat → Prop} {cI cZ cJ : ClassId} {sb L : Nat} {xs : Nat → Int32} (X : gX p s m args c D (gT cI cZ cJ) A cL_law 22 RL wsL_law) (hF : fB sb L xs A s) (hL : L ≤ 260) (hfl : l.stackTraces = false) (hC : gC s) (ret : ∀ (u : va_W) (lv : List (Nat × Value)) (kc ks : Nat), kc ≤ 630866 → ks ≤ 7209099 → G p l e room_1 s m args below meth c Q D A 22 kc ks u lv 743 [.int (nI 1)]) : G p l e room_1 s m args below meth c Q D A 22 0 0 [] [(0, .ref sb)] 0 [] := by
  refine g_newo X 3 inlX5 tyX5 tyX5_ok (List.mem_of_getElem? (i := 0) rfl) (List.mem_of_getElem? (i := 1) rfl) (List.mem_of_getElem? (i := 2) rfl) (ci := 5) (fs := [.null, .null, .null, .null]) rfl (fun j9 hj9 => by rcases (show j9 = 0 ∨ j9 = 1 ∨ j9 = 2 ∨ j9 = 3 by omega) with rfl | rfl | rfl | rfl <;> rfl) (Nat.le_of_ble_eq_true rfl) (Nat.le_of_ble_eq_true rfl) dL_law_0 rfl (fun gr => ?_)
  refine g_dup X 4 dL_law_3 rfl rfl ?_
  refine g_callP (wr := []) X (m_X5_init l D cI cZ cJ gr) hC 7 [0] [] gL_law_X5_init rfl (List.mem_of_getElem? (i := 12) rfl) (List.mem_of_getElem? (i := 2) rfl) (List.mem_of_getElem? (i := 13) rfl) rfl ⟨by decide, by decide, rfl⟩ ⟨Nat.le_of_ble_eq_true rfl, Nat.le_of_ble_eq_true rfl⟩ rfl (Nat.le_of_ble_eq_true rfl) rfl (by decide) rfl (by decide) (by decide) dL_law_4 rfl ⟨Nat.le_of_ble_eq_true rfl, Nat.le_of_ble_eq_true rfl⟩ ?_
  rintro u ⟨v, z0, z1, z2, z3, z4, f, f0, f1, k, g, a, b, b0, b1, b2, b3, b4, b5, ak, ag, aa, ab, ab0, ab1, ab2, ab3, ab4, ab5, rfl⟩
  refine g_w (kc' := 401) (ks' := 1204) (Nat.le_of_ble_eq_true rfl) (Nat.le_of_ble_eq_true rfl) ?_
  refine g_perm (ws' := (gW (fun i => [gr, v, z0, z1, z2, z3, z4, f, f0, f1, k, g, a, b, b0, b1, b2, b3, b4, b5, ak].getD i 0) cI cZ (fun _ => 0) (fun _ => 0) (fun _ => 0) (fun _ => 0) (fun _ => 0) 0 0 0)) [(ak, .inr (0, [.ref ag, .ref ab, .int (nI ((fun _ => 0) 1)), .int (nI ((fun _ => 0) 0)), .int (nI ((fun _ => 0) 2)), .int (nI ((fun _ => 0) 3))])), (ag, .inr (2, [.ref aa])), (aa, .inl (cI, 96, .inl (vs (fun _ => 0)))), (ab, .inr (3, [.int (nI 0), .ref ab0, .ref ab1, .ref ab2, .ref ab3, .ref ab4, .ref ab5])), (ab0, .inl (cI, 6, .inl (vr 0 (fun _ => 0)))), (ab1, .inl (cI, 6, .inl (vr 1 (fun _ => 0)))), (ab2, .inl (cI, 6, .inl (v6 (fun _ => 0)))), (ab3, .inl (cZ, 6, .inl (vw 0 (fun _ => 0)))), (ab4, .inl (cI, 6, .inl (vr 3 (fun _ => 0)))), (ab5, .inl (cI, 6, .inl (vr 4 (fun _ => 0))))] (List.Perm.refl _) ?_
  exact law_go X hF hL hfl (fun i => [gr, v, z0, z1, z2, z3, z4, f, f0, f1, k, g, a, b, b0, b1, b2, b3, b4, b5, ak].getD i 0) ret
