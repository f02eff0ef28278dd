/-! WHAT THE LAW'S LOOP KEEPS -/
section GVR
variable {p : Program} {l : Launch} {e : Env} {R : Room} {s : State} {m : MethodId} {args : Array Value} {below : List Frame} {meth : Method} {c : Code} {Q : State → Prop}
variable {D : va_G} {tys : List (ClassId × FieldType)} {A : Nat → Prop} {cc : ByteArray} {nL kc ks : Nat} {own : String} {Ts : List Cond}
variable {ws : va_W} {lv : List (Nat × Value)} {pc : Nat} {st rest : List Value}
variable {y : MethodName} {wds ws9 : List Cond} {rm : Room} {bytes : ByteArray} {maxL n index : Nat} {ret : Option FieldType} {C : String} {b : Nat} {av : List Value} {wc : va_W}
/-- a virtual call whose contract is a relation -/
theorem g_callVr (X : gX p s m args c D tys A cc nL own Ts) {post : Int32 → va_W → Prop} (hM : MI l y wds rm D tys wc (.ref b :: av) post) (pc' : Nat) (isC : List Nat) (hG : GoodIn Ts (wsV own index C y wds)) (hwd : wds = Cond.code y bytes maxL ret :: ws9)
    (hdy : y.cls = C ∧ y.cls ≠ "java/lang/invoke/MethodHandle" ∧ y.cls ≠ "java/lang/invoke/VarHandle" ∧ (parseMethodDescriptor y.desc).map (fun d => d.parameters.length) = some n) (hnn : av.length = n) (hR : rm.frames + 1 ≤ R.frames ∧ 8 + (maxL + 11) + rm.locals ≤ R.locals) {ci : Nat} {T : u_T} {N q0 : Nat} {fs : List Value} (hc : vwCl[ci]? = some (C, T, N)) (he : wc[q0]? = some (b, .inr (ci, fs)))
    (hst : st = av.reverse ++ .ref b :: rest) (hrest : (rest.map fun v => v.category).sum ≤ 8) (hC : isC.map (fun i => ws[i]?) = wc.map some) (hn : va_nd isC = true) (ha : ∀ (r : Int32) (u : va_W), post r u → u.map Prod.fst = wc.map Prod.fst)
    (hd : decode cc pc = .ok (.invokevirtual index, 3)) (hpc : pc + 3 = pc') (hf : kc + rm.cells ≤ R.cells ∧ ks + rm.slots ≤ R.slots) (k : ∀ (r : Int32) (u : va_W), post r u → G p l e R s m args below meth c Q D A nL (kc + rm.cells) (ks + rm.slots) (putB ws isC u) lv pc' (.int r :: rest)) : G p l e R s m args below meth c Q D A nL kc ks ws lv pc st := by
  subst hnn
  subst hpc
  subst hst
  intro H locs ls hP hD hS hl
  have hPc : va_P D vwCl wc H := (va_P.sub hP isC (fm_map isC wc hC))
  have hDc : va_D (fun _ => True) wc := (va_D.sub hD isC hn hC).weaken (fun _ _ _ _ => trivial)
  have hFc := va_free (wc := wc) hD hS X.hA isC hC
  refine va_calli (va_runV (As := av) (rest := rest) X.fix (hM H.size) (cwV av.length X.hts hG hwd rfl rfl hdy hR) (gPreV X.K hPc hDc hc he) rfl rfl hl.1 rfl (lv_room hrest) hd hf) hS (fun q _ h => hFc q h) hFc (fun r u t H1 locs1 ht hvm hw hB hz1 hk1 hS => ?_)
  obtain ⟨hP1, hK1, hD1⟩ := hB
  rw [ht] at hP1
  obtain ⟨hP2, hD2⟩ := putB_join hP hD isC hC hn (ha r u hw) hk1 hP1
  exact k r u hw H1 locs1 ls hP2 hD2 hS hl
end GVR
/-- a rope not yet there has row 0 -/
def Zr (S : Nat → Nat) (n : Nat) : Prop := ∀ q : Nat, n ≤ q → S (100 + 5 * q + 1) = 0
def Inv (S T st fe fo : Nat → Nat) (nw nr nf n1 j : Nat) : Prop := Gd S nr ∧ stOk T st fe fo nw nr nf ∧ Zr S nr ∧ n1 ≤ 6 ∧ S 0 ≤ 40 * j ∧ S 2 ≤ 5184 * S 0
theorem Inv.hg {S T st fe fo : Nat → Nat} {nw nr nf n1 j : Nat} (h : Inv S T st fe fo nw nr nf n1 j) : Gd S nr := h.1
theorem Inv.hs {S T st fe fo : Nat → Nat} {nw nr nf n1 j : Nat} (h : Inv S T st fe fo nw nr nf n1 j) : stOk T st fe fo nw nr nf := h.2.1
theorem Inv.hz {S T st fe fo : Nat → Nat} {nw nr nf n1 j : Nat} (h : Inv S T st fe fo nw nr nf n1 j) : Zr S nr := h.2.2.1
theorem Inv.hn1 {S T st fe fo : Nat → Nat} {nw nr nf n1 j : Nat} (h : Inv S T st fe fo nw nr nf n1 j) : n1 ≤ 6 := h.2.2.2.1
theorem Inv.h0 {S T st fe fo : Nat → Nat} {nw nr nf n1 j : Nat} (h : Inv S T st fe fo nw nr nf n1 j) : S 0 ≤ 40 * j := h.2.2.2.2.1
theorem Inv.h2 {S T st fe fo : Nat → Nat} {nw nr nf n1 j : Nat} (h : Inv S T st fe fo nw nr nf n1 j) : S 2 ≤ 5184 * S 0 := h.2.2.2.2.2
theorem wk_z (n r : Nat) (hr : r < n) {q : Nat} (hq : n ≤ q) : ∀ (k lf : Nat) (S : Nat → Nat), Gw S n → wk n r k lf S (100 + 5 * q + 1) = S (100 + 5 * q + 1)
  | 0, _, _, _ => rfl
  | k + 1, lf, S, h => by
    have h1 := tkS_gw (lf := lf) h hr
    have e1 : tkS S r lf (100 + 5 * q + 1) = S (100 + 5 * q + 1) := tkS_hi h hr (by omega) (by omega)
    unfold wk
    split
    · rfl
    · split
      · exact e1
      · split
        · next h7 =>
          rw [wk_z n r hr hq k _ _ (dnS_gw h1 (by rw [tkS_hi h hr (by omega) (by omega)]; exact h7))]
          unfold dnS
          rw [up_n (by omega)]; exact e1
        · split
          · exact e1
          · refine (wk_z n r hr hq k _ _ (reh_gw h1 (nfR_lt (h1.2.2 r hr).1 _ _))).trans ?_
            unfold reh
            rw [up_n (by omega), up_n (by omega), up_n (by omega)]; exact e1
theorem wkA_z {n : Nat} {st S : Nat → Nat} {q : Nat} (hq : n ≤ q) (h : Gw S n) : ∀ r : Nat, r ≤ n → wkA n st S r (100 + 5 * q + 1) = S (100 + 5 * q + 1)
  | 0, _ => rfl
  | r + 1, hr => (wk_z n r (by omega) hq 31 (st r) _ (wkA_gw h r (by omega))).trans (wkA_z hq h r (by omega))
theorem dayS_z {T st fe fo S : Nat → Nat} {nw nr nf : Nat} (h : Gw S nr) (hz : Zr S nr) : Zr (dayS T st fe fo nw nr nf S) nr := by
  intro q hq
  unfold dayS
  split
  · unfold dyF
    rw [up_n (by omega), up_n (by omega), up_n (by omega), gt_hi (by omega)]
    exact hz q hq
  · unfold dyW
    rw [up_n (by omega), wkA_z hq (gt_gw h) nr (Nat.le_refl _), gt_hi (by omega)]
    exact hz q hq
theorem daysS_z {T st fe fo S : Nat → Nat} {nw nr nf : Nat} (h : Gd S nr) (hz : Zr S nr) : ∀ k : Nat, Zr (daysS T st fe fo nw nr nf S k) nr
  | 0 => hz
  | k + 1 => dayS_z (daysS_gd h k).1 (daysS_z h hz k)
theorem inv_on {S T st fe fo : Nat → Nat} {nw nr nf n1 j : Nat} (h : Inv S T st fe fo nw nr nf n1 j) : Inv S T st fe fo nw nr nf n1 (j + 1) := ⟨h.hg, h.hs, h.hz, h.hn1, by have := h.h0; omega, h.h2⟩
theorem inv_n1 {S T st fe fo : Nat → Nat} {nw nr nf n1 j : Nat} (h : Inv S T st fe fo nw nr nf n1 j) : Inv S T st fe fo nw nr nf nr j := ⟨h.hg, h.hs, h.hz, h.hg.1.1, h.h0, h.h2⟩
theorem inv_b {S T st fe fo : Nat → Nat} {nw nr nf n1 j : Nat} (h : Inv S T st fe fo nw nr nf n1 j) (hj : j < 513) : S 0 < 2 ^ 28 ∧ S 2 < 2 ^ 29 := by
  have h1 := h.h0
  have h2 := h.h2
  have h3 : S 0 ≤ 20480 := by omega
  have h4 : 5184 * S 0 ≤ 5184 * 20480 := Nat.mul_le_mul_left _ h3
  omega
/-- each call's own end -/
theorem inv_window {S T st fe fo : Nat → Nat} {nw nr nf n1 j : Nat} {x y w h o : Int32} (hI : Inv S T st fe fo nw nr nf n1 j) (hE : winE nw x y w h o = 0) : Inv S (ptT T nw (tn x) (tn y) (tn w) (tn h) (tn o)) st fe fo (nw + 1) nr nf n1 (j + 1) := by
  unfold winE at hE
  split at hE
  · cases hE
  next hA =>
  split at hE
  · cases hE
  next hB =>
  split at hE
  · cases hE
  next h6 =>
  have hA := Classical.not_not.mp hA
  have hB := Classical.not_not.mp hB
  obtain ⟨iw, hw1, hw2, rfl⟩ := inR_nat hA.1 (by decide) (by decide)
  obtain ⟨ih, hh1, hh2, rfl⟩ := inR_nat hA.2.1 (by decide) (by decide)
  obtain ⟨io, ho1, ho2, rfl⟩ := inR_nat hA.2.2 (by decide) (by decide)
  rw [pk_sub (show iw ≤ 12 by omega), pk_sub (show ih ≤ 8 by omega)] at hB
  obtain ⟨ix, hx1, hx2, rfl⟩ := inR_nat hB.1 (by omega) (by decide)
  obtain ⟨iy, hy1, hy2, rfl⟩ := inR_nat hB.2 (by omega) (by decide)
  rw [tn_nI (show iw < 2 ^ 31 by omega), tn_nI (show ih < 2 ^ 31 by omega), tn_nI (show io < 2 ^ 31 by omega), tn_nI (show ix < 2 ^ 31 by omega), tn_nI (show iy < 2 ^ 31 by omega)]
  have hI1 := inv_on hI
  have hs := hI.hs
  have hn := hs.1
  refine ⟨hI1.hg, ⟨by omega, fun k hk => ?_, hs.2.2.1, hs.2.2.2.1, hs.2.2.2.2⟩, hI1.hz, hI1.hn1, hI1.h0, hI1.h2⟩
  by_cases hkn : k = nw
  · subst hkn
    simp [winOk, ptT, up]
    omega
  · have h1 := hs.2.1 k (by omega)
    unfold winOk at h1 ⊢
    have e : ∀ q : Nat, q < 5 → ptT T nw ix iy iw ih io (5 * k + q) = T (5 * k + q) := fun q hq => by
      unfold ptT
      rw [up_n (by omega), up_n (by omega), up_n (by omega), up_n (by omega), up_n (by omega)]
    have e0 := e 0 (by decide)
    rw [Nat.add_zero] at e0
    rw [e0, e 1 (by decide), e 2 (by decide), e 3 (by decide), e 4 (by decide)]
    exact h1
theorem inv_rope {S T st fe fo : Nat → Nat} {nw nr nf n1 j wy : Nat} {x t : Int32} (hI : Inv S T st fe fo nw nr nf n1 j) (hw : wy ≤ 1) (hE : ropE S nr x t = 0) : Inv (ptR S nr (tn x) wy) T (up st nr (tn t)) fe fo nw (nr + 1) nf n1 (j + 1) := by
  unfold ropE at hE
  split at hE
  · cases hE
  next hA =>
  split at hE
  · cases hE
  next hB =>
  split at hE
  · cases hE
  next h6 =>
  have hA := Classical.not_not.mp hA
  have hB := Classical.not_not.mp hB
  obtain ⟨ix, hx1, rfl⟩ := isR_nat hA (by decide)
  obtain ⟨it, ht1, ht2, rfl⟩ := inR_nat hB (by decide) (by decide)
  rw [tn_nI (show ix < 2 ^ 31 by omega), tn_nI (show it < 2 ^ 31 by omega)]
  have hs := hI.hs
  have hn := hI.hg.1.1
  have h6 : nr ≠ 6 := fun z => h6 (Or.inl z)
  refine ⟨⟨⟨by omega, fun k hk => ?_, fun q hq => ?_⟩, ?_⟩, ⟨hs.1, hs.2.1, fun q hq => ?_, hs.2.2.2.1, hs.2.2.2.2⟩, fun q hq => ?_, hI.hn1, ?_, ?_⟩
  · rw [ptR_lo (by omega)]; exact hI.hg.1.2.1 k hk
  · by_cases hqn : q = nr
    · subst hqn
      have hz := hI.hz q (Nat.le_refl _)
      unfold ptR
      rw [up_n (j := 100 + 5 * q) (by omega), up_s, up_n (j := 100 + 5 * q + 1) (by omega), up_n (j := 100 + 5 * q + 1) (by omega), up_s, hz]
      omega
    · have h1 := hI.hg.1.2.2 q (by omega)
      unfold ptR
      rw [up_n (j := 100 + 5 * q) (by omega), up_n (j := 100 + 5 * q) (by omega), up_n (j := 100 + 5 * q + 1) (by omega), up_n (j := 100 + 5 * q + 1) (by omega), up_n (j := 100 + 5 * q + 2) (by omega), up_n (j := 100 + 5 * q + 2) (by omega)]
      exact h1
  · rw [ptR_lo (by decide)]; exact hI.hg.2
  · by_cases hqn : q = nr
    · subst hqn; rw [up_s]; omega
    · rw [up_n hqn]; exact hs.2.2.1 q (by omega)
  · unfold ptR
    rw [up_n (by omega), up_n (by omega)]
    exact hI.hz q (by omega)
  · rw [ptR_lo (by decide)]; have := hI.h0; omega
  · rw [ptR_lo (by decide), ptR_lo (by decide)]; exact hI.h2
theorem inv_feast {S T st fe fo : Nat → Nat} {nw nr nf n1 j : Nat} {ev on : Int32} (hI : Inv S T st fe fo nw nr nf n1 j) (hE : feaE nf ev on = 0) : Inv S T st (up fe nf (tn ev)) (up fo nf (tn on)) nw nr (nf + 1) n1 (j + 1) := by
  unfold feaE at hE
  split at hE
  · cases hE
  next hA =>
  split at hE
  · cases hE
  next h4 =>
  have hA := Classical.not_not.mp hA
  obtain ⟨iv, hv1, hv2, rfl⟩ := inR_nat hA.1 (by decide) (by decide)
  obtain ⟨io, ho1, rfl⟩ := isR_nat (n := iv) hA.2 (by omega)
  rw [tn_nI (show iv < 2 ^ 31 by omega), tn_nI (show io < 2 ^ 31 by omega)]
  have hI1 := inv_on hI
  have hs := hI.hs
  have h4' := hs.2.2.2.1.1
  refine ⟨hI1.hg, ⟨hs.1, hs.2.1, hs.2.2.1, ⟨by omega, fun q hq => ?_⟩, fun q hq => ?_⟩, hI1.hz, hI1.hn1, hI1.h0, hI1.h2⟩
  · by_cases hqn : q = nf
    · subst hqn; rw [up_s]; omega
    · rw [up_n hqn]; exact hs.2.2.2.1.2 q (by omega)
  · by_cases hqn : q = nf
    · subst hqn; rw [up_s]; omega
    · rw [up_n hqn]; exact hs.2.2.2.2 q (by omega)
theorem inv_setWind {S T st fe fo : Nat → Nat} {nw nr nf n1 j : Nat} {w : Int32} (hI : Inv S T st fe fo nw nr nf n1 j) (hE : setE w = 0) : Inv (up S 1 (wdN w)) T st fe fo nw nr nf n1 (j + 1) := by
  unfold setE at hE
  split at hE
  · cases hE
  next hA =>
  have hI1 := inv_on hI
  refine ⟨⟨up_gw hI.hg.1 (by decide), by rw [up_s]; exact wdN_ok (Classical.not_not.mp hA)⟩, hI.hs, fun q hq => ?_, hI.hn1, ?_, ?_⟩
  · rw [up_n (by omega)]; exact hI.hz q hq
  · rw [up_n (by decide)]; exact hI1.h0
  · rw [up_n (by decide), up_n (by decide)]; exact hI.h2
theorem inv_move {S T st fe fo : Nat → Nat} {nw nr nf n1 j : Nat} {r x : Int32} (hI : Inv S T st fe fo nw nr nf n1 j) (hE : movE S nr r x = 0) : Inv (reh S (tn r) (tn x)) T st fe fo nw nr nf n1 (j + 1) := by
  unfold movE at hE
  split at hE
  · cases hE
  next hA =>
  have hA := Classical.not_not.mp hA
  have hn := hI.hg.1.1
  obtain ⟨ir, hr1, rfl⟩ := isR_nat hA.1 (by omega)
  obtain ⟨ix, hx1, rfl⟩ := isR_nat hA.2 (by decide)
  rw [tn_nI (show ir < 2 ^ 31 by omega), tn_nI (show ix < 2 ^ 31 by omega)]
  have hI1 := inv_on hI
  refine ⟨⟨reh_gw hI.hg.1 hx1, by rw [reh_lo (by decide)]; exact hI.hg.2⟩, hI.hs, fun q hq => ?_, hI.hn1, ?_, ?_⟩
  · unfold reh
    rw [up_n (by omega), up_n (by omega), up_n (by omega)]
    exact hI.hz q hq
  · rw [reh_lo (by decide)]; exact hI1.h0
  · rw [reh_lo (by decide), reh_lo (by decide)]; exact hI.h2
theorem inv_turn {S T st fe fo : Nat → Nat} {nw nr nf n1 j : Nat} {r : Int32} (hI : Inv S T st fe fo nw nr nf n1 j) (hE : oneE nr r = 0) : Inv (up S (100 + 5 * tn r + 2) (1 - S (100 + 5 * tn r + 2))) T st fe fo nw nr nf n1 (j + 1) := by
  unfold oneE at hE
  split at hE
  · cases hE
  next hA =>
  have hn := hI.hg.1.1
  obtain ⟨ir, hr1, rfl⟩ := isR_nat (Classical.not_not.mp hA) (by omega)
  rw [tn_nI (show ir < 2 ^ 31 by omega)]
  have hI1 := inv_on hI
  refine ⟨⟨⟨hn, fun k hk => ?_, fun q hq => ?_⟩, ?_⟩, hI.hs, fun q hq => ?_, hI.hn1, ?_, ?_⟩
  · rw [up_n (by omega)]; exact hI.hg.1.2.1 k hk
  · have h1 := hI.hg.1.2.2 q hq
    rw [up_n (j := 100 + 5 * q) (by omega), up_n (j := 100 + 5 * q + 1) (by omega)]
    refine ⟨h1.1, h1.2.1, ?_⟩
    by_cases hqr : q = ir
    · subst hqr; rw [up_s]; omega
    · rw [up_n (by omega)]; exact h1.2.2
  · rw [up_n (by omega)]; exact hI.hg.2
  · rw [up_n (by omega)]; exact hI.hz q hq
  · rw [up_n (by omega)]; exact hI1.h0
  · rw [up_n (by omega), up_n (by omega)]; exact hI.h2
theorem wp_hi {S T : Nat → Nat} {w k : Nat} (h : 100 ≤ k) : wp S T w k = S k := by
  unfold wp wpU
  rw [if_neg]
  omega
theorem inv_wipe {S T st fe fo : Nat → Nat} {nw nr nf n1 j w : Nat} (hI : Inv S T st fe fo nw nr nf n1 j) : Inv (wp S T w) T st fe fo nw nr nf n1 (j + 1) := by
  have hI1 := inv_on hI
  have hl : ∀ k : Nat, k < 4 → wp S T w k = S k := fun k hk => wpU_lo hk
  refine ⟨⟨⟨hI.hg.1.1, wpU_ok hI.hg.1.2.1, fun q hq => ?_⟩, ?_⟩, hI.hs, fun q hq => ?_, hI.hn1, ?_, ?_⟩
  · rw [wp_hi (by omega), wp_hi (by omega), wp_hi (by omega)]; exact hI.hg.1.2.2 q hq
  · rw [hl 1 (by decide)]; exact hI.hg.2
  · rw [wp_hi (by omega)]; exact hI.hz q hq
  · rw [hl 0 (by decide)]; exact hI1.h0
  · rw [hl 0 (by decide), hl 2 (by decide)]; exact hI.h2
theorem inv_pass {S T st fe fo : Nat → Nat} {nw nr nf n1 j : Nat} {d : Int32} (hI : Inv S T st fe fo nw nr nf n1 j) (hE : pasE d = 0) : Inv (daysS T st fe fo nw nr nf S (tn d)) T st fe fo nw nr nf n1 (j + 1) := by
  unfold pasE at hE
  split at hE
  · cases hE
  next hA =>
  obtain ⟨k, hd1, hd2, rfl⟩ := inR_nat (Classical.not_not.mp hA) (by decide) (by decide)
  rw [tn_nI (show k < 2 ^ 31 by omega)]
  have e0 := daysS_0 (T := T) (st := st) (fe := fe) (fo := fo) (nw := nw) (nf := nf) hI.hg k
  have e2 := daysS_2 hI.hg hI.hs k
  refine ⟨daysS_gd hI.hg k, hI.hs, daysS_z hI.hg hI.hz k, hI.hn1, ?_, ?_⟩
  · rw [e0]; have := hI.h0; omega
  · rw [e0, Nat.mul_add]
    exact Nat.le_trans e2 (Nat.add_le_add_right hI.h2 _)
/-- the numbers of what is thrown are small -/
theorem ite_le {P : Prop} [Decidable P] {a b k : Nat} (ha : a ≤ k) (hb : b ≤ k) : (if P then a else b) ≤ k := by split <;> assumption
theorem winE_le (n : Nat) (x y w h o : Int32) : winE n x y w h o ≤ 3 := (ite_le (by decide) (ite_le (by decide) (ite_le (by decide) (by decide))))
theorem ropE_le (S : Nat → Nat) (n : Nat) (x t : Int32) : ropE S n x t ≤ 3 := (ite_le (by decide) (ite_le (by decide) (ite_le (by decide) (by decide))))
theorem feaE_le (n : Nat) (x t : Int32) : feaE n x t ≤ 3 := (ite_le (by decide) (ite_le (by decide) (by decide)))
theorem setE_le (x : Int32) : setE x ≤ 3 := (ite_le (by decide) (by decide))
theorem movE_le (S : Nat → Nat) (n : Nat) (x t : Int32) : movE S n x t ≤ 3 := (ite_le (by decide) (ite_le (by decide) (by decide)))
theorem oneE_le (n : Nat) (x : Int32) : oneE n x ≤ 3 := (ite_le (by decide) (by decide))
theorem pasE_le (x : Int32) : pasE x ≤ 3 := (ite_le (by decide) (by decide))
theorem twoE_le (n k : Nat) (x y : Int32) : twoE n k x y ≤ 3 := (ite_le (by decide) (by decide))
theorem isfE_le (x : Int32) : isfE x ≤ 3 := (ite_le (by decide) (by decide))
theorem wouE_le (x y : Int32) : wouE x y ≤ 3 := (ite_le (by decide) (ite_le (by decide) (by decide)))
theorem advE_le (fe fo : Nat → Nat) (nf d n : Nat) (x : Int32) : advE fe fo nf d n x ≤ 3 := (ite_le (by decide) (ite_le (by decide) (by decide)))
