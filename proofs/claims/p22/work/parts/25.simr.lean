/-! THE SIM'S METHODS: what it reads -/
theorem fe_rem {d a e : Nat} (hd : d < 2 ^ 29) (ha : a < e) (he : e ≤ 30) : (nI d - nI a) - (nI d - nI a) / nI e * nI e = 0 ↔ d % e = a := by
  by_cases h : a ≤ d
  · rw [pk_sub h, pk_rem (by omega) (by omega) (by omega), nz_eq (Nat.lt_trans (Nat.mod_lt _ (by omega)) (show e < 2 ^ 31 by omega))]
    have h1 : d = a + (d - a) := by omega
    generalize d - a = x at h1
    subst h1
    constructor
    · intro hx
      rw [Nat.add_mod, hx, Nat.add_zero, Nat.mod_mod, Nat.mod_eq_of_lt ha]
    · intro hx
      have h2 := Nat.div_add_mod (a + x) e
      rw [hx] at h2
      have h3 : x = e * ((a + x) / e) := by omega
      rw [h3]
      exact Nat.mul_mod_right _ _
  · have h1 : (nI d - nI a).toInt = (d : Int) - a := pk_sub_toInt (by omega) (by omega)
    have h2 : (nI d - nI a) / nI e = 0 := by
      apply Int32.toInt_inj.mp
      rw [Int32.toInt_div, h1, nI_toInt (show e < 2 ^ 31 by omega), show (d : Int) - a = -((a - d : Nat) : Int) by omega, Int.neg_tdiv, Int.tdiv_eq_ediv_of_nonneg (by omega), Int.ediv_eq_zero_of_lt (by omega) (by omega)]
      rfl
    rw [h2, Int32.zero_mul, Int32.sub_zero]
    constructor
    · intro hx
      rw [hx] at h1
      have h3 : (0 : Int32).toInt = 0 := by decide
      omega
    · intro hx
      rw [Nat.mod_eq_of_lt (by omega)] at hx
      omega
def gSc (sb L : Nat) (xs : Nat → Int32) : (Nat → Prop) → State → Prop := fun A U => va_X sb L xs U U.heap ∧ sb < U.heap.size ∧ ¬ A sb
theorem okSc (sb L : Nat) (xs : Nat → Int32) : okF (gSc sb L xs) := ⟨fun A U g mk a h => ⟨va_X.moved (u := U) (U := U.calling g mk a) (Vm.Alike.refl U.vm) h.1, h.2⟩, fun A A1 s U H locs h hS hA hU hW => by
  obtain ⟨h1, h2, h3⟩ := h
  refine ⟨va_X.moved hW.alike (h1.kept ?_), ?_, fun z => h3 (hA _ z)⟩
  · rw [hU]; exact hS.2.1 sb h2 h3
  · rw [hU]; exact Nat.lt_of_lt_of_le h2 hS.1⟩
section GLS
variable {p : Program} {l : Launch} {e : Env} {R : Room} {s : State} {m : MethodId} {args : Array Value} {below : List Frame} {meth : Method} {c : Code} {Q : State → Prop}
variable {D : va_G} {tys : List (ClassId × FieldType)} {A : Nat → Prop} {cc : ByteArray} {nL kc ks : Nat} {own : String} {Ts : List Cond}
variable {ws : va_W} {lv : List (Nat × Value)} {pc : Nat} {st rest : List Value}
theorem g_sld (X : gX p s m args c D tys A cc nL own Ts) {b L : Nat} {xs : Nat → Int32} (hX : gSc b L xs A s) (j pc' : Nat) (hj : j < L) (hj31 : j < 2 ^ 31) (hd : decode cc pc = .ok (.iaload, 1)) (hn : pc + 1 = pc') (k : G p l e R s m args below meth c Q D A nL kc ks ws lv pc' (.int (xs j) :: st)) : G p l e R s m args below meth c Q D A nL kc ks ws lv pc (.int (nI j) :: .ref b :: st) := by
  subst hn
  intro H locs ls hP hD hS hl
  have hc : (nI j).toNatClampNeg = j := nI_clamp hj31
  refine va_sld X.1 X.2.1 hX.1 hX.2.1 hX.2.2 hS (i := nI j) (fun q => ?_) hd ?_
  · rcases q with q | q
    · exact nI_pos hj31 q
    · rw [hc] at q; omega
  · rw [hc]
    exact k H locs ls hP hD hS hl
theorem g_slen (X : gX p s m args c D tys A cc nL own Ts) {b L : Nat} {xs : Nat → Int32} (hX : gSc b L xs A s) (pc' : Nat) (hd : decode cc pc = .ok (.arraylength, 1)) (hn : pc + 1 = pc') (k : G p l e R s m args below meth c Q D A nL kc ks ws lv pc' (.int (nI L) :: st)) : G p l e R s m args below meth c Q D A nL kc ks ws lv pc (.ref b :: st) := by
  subst hn
  exact fun H locs ls hP hD hS hl => va_slen X.1 X.2.1 hX.1 hX.2.1 hX.2.2 hS hd (k H locs ls hP hD hS hl)
end GLS

abbrev rm_L_below : Room := { frames := 0, cells := 0, slots := 0, locals := 0 }
set_option maxHeartbeats 4000000 in
set_option maxRecDepth 100000 in
/-- a number below n -/
theorem m_L_below (l : Launch) (D : va_G) (cI cZ cJ : ClassId) (v : Int32) (n : Nat) (h0 : 0 < n) (hn : n < 2 ^ 31) : MIF fT l yL_below wsL_below rm_L_below D (gT cI cZ cJ) [] [.int v, .int (nI n)] (fun r u => r = nI (bw v n) ∧ u = []) := by
  refine MIF_of [(0, .int v), (1, .int (nI n))] (by decide) rfl (Nat.le_of_ble_eq_true rfl) rfl ?_
  intro p e s m args below meth c A Q X hF ret
  refine g_iload_n X 0 1 dL_below_0 rfl rfl rfl ?_
  refine g_ldc X (2147483647) 3 (List.mem_of_getElem? (i := 1) rfl) dL_below_1 rfl ?_
  refine g_iand X 4 dL_below_3 rfl ?_
  refine g_eqi (y := nI (v.toBitVec.toNat % 2 ^ 31)) (pk_and v 31 (by decide +kernel)) ?_
  refine g_iload_n X 1 5 dL_below_4 rfl rfl rfl ?_
  have h31 : v.toBitVec.toNat % 2 ^ 31 < 2 ^ 31 := Nat.mod_lt _ (by decide)
  refine g_irem X (nI ((v.toBitVec.toNat % 2 ^ 31) % n)) 6 dL_below_5 rfl (nI_ne0 (by omega) (by omega)) (pk_rem (by omega) (by omega) (by omega)) ?_
  refine g_w (kc' := rm_L_below.cells) (ks' := rm_L_below.slots) (by have h9 : rm_L_below.cells = 0 := rfl; omega) (by have h9 : rm_L_below.slots = 0 := rfl; omega) ?_
  exact ret _ _ _ _ dL_below_6 rfl ⟨rfl, rfl⟩

abbrev rm_L_cell : Room := { frames := 0, cells := 0, slots := 0, locals := 0 }
set_option maxHeartbeats 4000000 in
set_option maxRecDepth 100000 in
/-- a cell of the script, or what stands for it -/
theorem m_L_cell (l : Launch) (D : va_G) (cI cZ cJ : ClassId) (sb L : Nat) (xs : Nat → Int32) (k : Nat) (hL : L ≤ 260) (hk : k < 2 ^ 30) : MIF (gSc sb L xs) l yL_cell wsL_cell rm_L_cell D (gT cI cZ cJ) [] [.ref sb, .int (nI k)] (fun r u => True) := by
  refine MIF_of [(0, .ref sb), (1, .int (nI k))] (by decide) rfl (Nat.le_of_ble_eq_true rfl) rfl ?_
  intro p e s m args below meth c A Q X hF ret
  refine g_iload_n X 1 1 dL_cell_0 rfl rfl rfl ?_
  refine g_aload_n X 0 2 dL_cell_1 rfl rfl rfl ?_
  refine g_slen X hF 3 dL_cell_2 rfl ?_
  refine g_icmp_ge X 6 12 dL_cell_3 rfl (by decide) (nI_leI (by omega) (by omega)) (fun h3 => ?_) (fun h3 => ?_)
  · refine g_ldc X (790386105) 14 (List.mem_of_getElem? (i := 1) rfl) dL_cell_12 rfl ?_
    refine g_iload_n X 1 15 dL_cell_14 rfl rfl rfl ?_
    refine g_iconst X (nI 3) 16 dL_cell_15 rfl (by decide +kernel) ?_
    refine g_iadd X (nI (k + 3)) 17 dL_cell_16 rfl (nI_add _ _) ?_
    refine g_imul X (790386105 * (nI (k + 3))) 18 dL_cell_17 rfl rfl ?_
    refine g_w (kc' := rm_L_cell.cells) (ks' := rm_L_cell.slots) (by have h9 : rm_L_cell.cells = 0 := rfl; omega) (by have h9 : rm_L_cell.slots = 0 := rfl; omega) ?_
    exact ret _ _ _ _ dL_cell_18 rfl trivial
  · refine g_aload_n X 0 7 dL_cell_6 rfl rfl rfl ?_
    refine g_iload_n X 1 8 dL_cell_7 rfl rfl rfl ?_
    refine g_sld X hF k 9 (by omega) (by omega) dL_cell_8 rfl ?_
    refine g_goto X 18 dL_cell_9 (by decide) ?_
    refine g_w (kc' := rm_L_cell.cells) (ks' := rm_L_cell.slots) (by have h9 : rm_L_cell.cells = 0 := rfl; omega) (by have h9 : rm_L_cell.slots = 0 := rfl; omega) ?_
    exact ret _ _ _ _ dL_cell_18 rfl trivial

abbrev rm_X6_ropeAt : Room := { frames := 0, cells := 0, slots := 0, locals := 0 }
set_option maxHeartbeats 4000000 in
set_option maxRecDepth 100000 in
/-- at which place of the ropes one hangs there -/
theorem m_X6_ropeAt (l : Launch) (D : va_G) (cI cZ cJ : ClassId) (ma so wo ro fx : Nat) (sc wa ra fa : Nat → Nat) (nw nr nf : Nat) (S T st fe fo Sf : Nat → Nat) (C9 : va_W) (cl : Nat) (hg : Gw S nr) (hc : cl < 12) : MIF fT l yX6_ropeAt wsX6_ropeAt rm_X6_ropeAt D (gT cI cZ cJ) ((ma, .inr (6, [.int (nI (Sf 0)), .int (nI (Sf 1)), .int (nI (Sf 2)), .int (nI (Sf 3)), .ref so, .ref wo, .ref ro, .ref fx])) :: (so, .inl (cJ, 12, refs (orf 12 sc))) :: (wo, .inl (cJ, nw, refs (orf nw wa))) :: (ro, .inl (cJ, nr, refs (orf nr ra))) :: (fx, .inl (cJ, nf, refs (orf nf fa))) :: sR cI sc wa ra fa nw nr nf S T st fe fo C9) [.ref ma, .int (nI cl)] (fun r u => ((hung S nr cl = true ∧ ∃ k : Nat, k < nr ∧ r = nI k) ∨ (hung S nr cl = false ∧ r = nIm 1)) ∧ u = ((ma, .inr (6, [.int (nI (Sf 0)), .int (nI (Sf 1)), .int (nI (Sf 2)), .int (nI (Sf 3)), .ref so, .ref wo, .ref ro, .ref fx])) :: (so, .inl (cJ, 12, refs (orf 12 sc))) :: (wo, .inl (cJ, nw, refs (orf nw wa))) :: (ro, .inl (cJ, nr, refs (orf nr ra))) :: (fx, .inl (cJ, nf, refs (orf nf fa))) :: sR cI sc wa ra fa nw nr nf S T st fe fo C9)) := by
  refine MIF_of [(0, .ref ma), (1, .int (nI cl))] (by decide) rfl (Nat.le_of_ble_eq_true rfl) rfl ?_
  intro p e s m args below meth c A Q X hF ret
  have hiX6 : ∀ w ∈ wsX60, w ∈ wsX6_ropeAt := (fun _ h => List.mem_cons_of_mem _ (List.mem_append_right _ h))
  have hn : nr ≤ 6 := hg.1
  refine g_iconst X (nI 0) 1 dX6_ropeAt_0 rfl (by decide +kernel) ?_
  refine g_istore_n X [(2, .int (nI 0)), (0, .ref ma), (1, .int (nI cl))] 2 dX6_ropeAt_1 rfl rfl (by decide) rfl ?_
  have L : ∀ j : Nat, j ≤ nr → (∀ r : Nat, r < j → ¬ S (100 + 5 * r) = cl) → G p l e rm_X6_ropeAt s m args below meth c Q D A 3 0 0 ((ma, .inr (6, [.int (nI (Sf 0)), .int (nI (Sf 1)), .int (nI (Sf 2)), .int (nI (Sf 3)), .ref so, .ref wo, .ref ro, .ref fx])) :: (so, .inl (cJ, 12, refs (orf 12 sc))) :: (wo, .inl (cJ, nw, refs (orf nw wa))) :: (ro, .inl (cJ, nr, refs (orf nr ra))) :: (fx, .inl (cJ, nf, refs (orf nf fa))) :: sR cI sc wa ra fa nw nr nf S T st fe fo C9) [(2, .int (nI j)), (0, .ref ma), (1, .int (nI cl))] 2 [] := by
    refine g_down _ ?_ ?_
    · intro hno
      refine g_iload_n X 0 3 dX6_ropeAt_2 rfl rfl rfl ?_
      refine g_aload_n X 1 4 dX6_ropeAt_3 rfl rfl rfl ?_
      refine g_get X hiX6 0 6 7 rfl rfl (by decide) (List.mem_of_getElem? (i := 1) rfl) rfl dX6_ropeAt_4 rfl ?_
      refine g_alen X 3 2 8 rfl rfl dX6_ropeAt_7 rfl ?_
      refine g_icmp_ge X 11 31 dX6_ropeAt_8 rfl (by decide) (nI_leI (by omega) (by omega)) (fun h8 => ?_) (fun h8 => absurd (Nat.le_refl _) h8)
      refine g_iconst X (nIm 1) 32 dX6_ropeAt_31 rfl (by decide +kernel) ?_
      refine g_w (kc' := rm_X6_ropeAt.cells) (ks' := rm_X6_ropeAt.slots) (by have h9 : rm_X6_ropeAt.cells = 0 := rfl; omega) (by have h9 : rm_X6_ropeAt.slots = 0 := rfl; omega) ?_
      exact ret _ _ _ _ dX6_ropeAt_32 rfl ⟨Or.inr ⟨hung_f hno, rfl⟩, rfl⟩
    · intro j hj ih_j hno
      refine g_iload_n X 0 3 dX6_ropeAt_2 rfl rfl rfl ?_
      refine g_aload_n X 1 4 dX6_ropeAt_3 rfl rfl rfl ?_
      refine g_get X hiX6 0 6 7 rfl rfl (by decide) (List.mem_of_getElem? (i := 1) rfl) rfl dX6_ropeAt_4 rfl ?_
      refine g_alen X 3 2 8 rfl rfl dX6_ropeAt_7 rfl ?_
      refine g_icmp_ge X 11 31 dX6_ropeAt_8 rfl (by decide) (nI_leI (by omega) (by omega)) (fun h8 => absurd h8 (by omega)) (fun h8 => ?_)
      have hcj := (hg.2.2 j hj).1
      refine g_aload_n X 1 12 dX6_ropeAt_11 rfl rfl rfl ?_
      refine g_get X hiX6 0 6 15 rfl rfl (by decide) (List.mem_of_getElem? (i := 1) rfl) rfl dX6_ropeAt_12 rfl ?_
      refine g_iload_n X 0 16 dX6_ropeAt_15 rfl rfl rfl ?_
      refine g_aald X 3 2 (j) (ra j) 17 rfl rfl (by omega) (by omega) (orf_at (by omega)) dX6_ropeAt_16 rfl ?_
      refine g_iconst X (nI 0) 18 dX6_ropeAt_17 rfl (by decide +kernel) ?_
      refine g_ialdT X 5 (12 + (nw + j)) 0 (sR cI sc wa ra fa nw nr nf S T st fe fo C9) (0) (nI (S (100 + 5 * j))) 19 rfl (sR_r (by omega)) rfl (by omega) (by decide) vrp_0 dX6_ropeAt_18 rfl ?_
      refine g_iload_n X 2 20 dX6_ropeAt_19 rfl rfl rfl ?_
      refine g_icmp_ne X 23 25 dX6_ropeAt_20 rfl (by decide) (nI_eq (by omega) (by omega)) (fun hq => ?_) (fun hq => ?_)
      · refine g_iinc X 0 (nI (j + 1)) [(2, .int (nI (j + 1))), (0, .ref ma), (1, .int (nI cl))] 28 dX6_ropeAt_25 rfl rfl (nI_inc _) (by decide) rfl ?_
        refine g_goto X 2 dX6_ropeAt_28 (by decide) ?_
        exact ih_j (lt_s hno hq)
      · refine g_iload_n X 0 24 dX6_ropeAt_23 rfl rfl rfl ?_
        refine g_w (kc' := rm_X6_ropeAt.cells) (ks' := rm_X6_ropeAt.slots) (by have h9 : rm_X6_ropeAt.cells = 0 := rfl; omega) (by have h9 : rm_X6_ropeAt.slots = 0 := rfl; omega) ?_
        exact ret _ _ _ _ dX6_ropeAt_24 rfl ⟨Or.inl ⟨hung_t hj hq, j, hj, rfl⟩, rfl⟩
  exact L 0 (Nat.zero_le _) (fun r hr => absurd hr (Nat.not_lt_zero r))

abbrev rm_X6_isFeast : Room := { frames := 0, cells := 0, slots := 0, locals := 0 }
set_option maxHeartbeats 4000000 in
set_option maxRecDepth 100000 in
/-- is a feast on this day -/
theorem m_X6_isFeast (l : Launch) (D : va_G) (cI cZ cJ : ClassId) (ma so wo ro fx : Nat) (sc wa ra fa : Nat → Nat) (nw nr nf : Nat) (S T st fe fo Sf : Nat → Nat) (C9 : va_W) (d : Nat) (hf : feOk fe nf) (ho : ∀ k : Nat, k < nf → fo k < fe k) (hd : d < 2 ^ 29) : MIF fT l yX6_isFeast wsX6_isFeast rm_X6_isFeast D (gT cI cZ cJ) ((ma, .inr (6, [.int (nI (Sf 0)), .int (nI (Sf 1)), .int (nI (Sf 2)), .int (nI (Sf 3)), .ref so, .ref wo, .ref ro, .ref fx])) :: (so, .inl (cJ, 12, refs (orf 12 sc))) :: (wo, .inl (cJ, nw, refs (orf nw wa))) :: (ro, .inl (cJ, nr, refs (orf nr ra))) :: (fx, .inl (cJ, nf, refs (orf nf fa))) :: sR cI sc wa ra fa nw nr nf S T st fe fo C9) [.ref ma, .int (nI d)] (fun r u => r = nI (bn (feastOn fe fo nf d)) ∧ u = ((ma, .inr (6, [.int (nI (Sf 0)), .int (nI (Sf 1)), .int (nI (Sf 2)), .int (nI (Sf 3)), .ref so, .ref wo, .ref ro, .ref fx])) :: (so, .inl (cJ, 12, refs (orf 12 sc))) :: (wo, .inl (cJ, nw, refs (orf nw wa))) :: (ro, .inl (cJ, nr, refs (orf nr ra))) :: (fx, .inl (cJ, nf, refs (orf nf fa))) :: sR cI sc wa ra fa nw nr nf S T st fe fo C9)) := by
  refine MIF_of [(0, .ref ma), (1, .int (nI d))] (by decide) rfl (Nat.le_of_ble_eq_true rfl) rfl ?_
  intro p e s m args below meth c A Q X hF ret
  have hiX6 : ∀ w ∈ wsX60, w ∈ wsX6_isFeast := (fun _ h => List.mem_cons_of_mem _ (List.mem_append_right _ h))
  have hn4 : nf ≤ 4 := hf.1
  refine g_aload_n X 0 1 dX6_isFeast_0 rfl rfl rfl ?_
  refine g_get X hiX6 0 7 4 rfl rfl (by decide) (List.mem_of_getElem? (i := 1) rfl) rfl dX6_isFeast_1 rfl ?_
  refine g_astore_n X [(2, .ref fx), (0, .ref ma), (1, .int (nI d))] 5 dX6_isFeast_4 rfl rfl (by decide) rfl ?_
  refine g_aload_n X 0 6 dX6_isFeast_5 rfl rfl rfl ?_
  refine g_alen X 4 2 7 rfl rfl dX6_isFeast_6 rfl ?_
  refine g_istore_n X [(3, .int (nI nf)), (2, .ref fx), (0, .ref ma), (1, .int (nI d))] 8 dX6_isFeast_7 rfl rfl (by decide) rfl ?_
  refine g_iconst X (nI 0) 9 dX6_isFeast_8 rfl (by decide +kernel) ?_
  refine g_istore X [(4, .int (nI 0)), (3, .int (nI nf)), (2, .ref fx), (0, .ref ma), (1, .int (nI d))] 11 dX6_isFeast_9 rfl (by decide) rfl ?_
  have L : ∀ j : Nat, j ≤ nf → (∀ k : Nat, k < j → ¬ d % fe k = fo k) → G p l e rm_X6_isFeast s m args below meth c Q D A 6 0 0 ((ma, .inr (6, [.int (nI (Sf 0)), .int (nI (Sf 1)), .int (nI (Sf 2)), .int (nI (Sf 3)), .ref so, .ref wo, .ref ro, .ref fx])) :: (so, .inl (cJ, 12, refs (orf 12 sc))) :: (wo, .inl (cJ, nw, refs (orf nw wa))) :: (ro, .inl (cJ, nr, refs (orf nr ra))) :: (fx, .inl (cJ, nf, refs (orf nf fa))) :: sR cI sc wa ra fa nw nr nf S T st fe fo C9) [(4, .int (nI j)), (3, .int (nI nf)), (2, .ref fx), (0, .ref ma), (1, .int (nI d))] 11 [] := by
    refine g_down _ ?_ ?_
    · intro hno
      refine g_iload X 0 13 dX6_isFeast_11 rfl rfl ?_
      refine g_iload_n X 1 14 dX6_isFeast_13 rfl rfl rfl ?_
      refine g_icmp_ge X 17 45 dX6_isFeast_14 rfl (by decide) (nI_leI (by omega) (by omega)) (fun h14 => ?_) (fun h14 => absurd (Nat.le_refl _) h14)
      refine g_iconst X (nI 0) 46 dX6_isFeast_45 rfl (by decide +kernel) ?_
      refine g_eqi (y := nI (bn (feastOn fe fo nf d))) (by rw [feast_f hno]; rfl) ?_
      refine g_w (kc' := rm_X6_isFeast.cells) (ks' := rm_X6_isFeast.slots) (by have h9 : rm_X6_isFeast.cells = 0 := rfl; omega) (by have h9 : rm_X6_isFeast.slots = 0 := rfl; omega) ?_
      exact ret _ _ _ _ dX6_isFeast_46 (bn_nar _) ⟨rfl, rfl⟩
    · intro j hj ih_j hno
      refine g_iload X 0 13 dX6_isFeast_11 rfl rfl ?_
      refine g_iload_n X 1 14 dX6_isFeast_13 rfl rfl rfl ?_
      refine g_icmp_ge X 17 45 dX6_isFeast_14 rfl (by decide) (nI_leI (by omega) (by omega)) (fun h14 => absurd h14 (by omega)) (fun h14 => ?_)
      have hfj := hf.2 j hj
      have hoj := ho j hj
      refine g_aload_n X 2 18 dX6_isFeast_17 rfl rfl rfl ?_
      refine g_iload X 0 20 dX6_isFeast_18 rfl rfl ?_
      refine g_aald X 4 2 (j) (fa j) 21 rfl rfl (by omega) (by omega) (orf_at (by omega)) dX6_isFeast_20 rfl ?_
      refine g_astore X [(5, .ref (fa j)), (4, .int (nI j)), (3, .int (nI nf)), (2, .ref fx), (0, .ref ma), (1, .int (nI d))] 23 dX6_isFeast_21 rfl (by decide) rfl ?_
      refine g_iload_n X 5 24 dX6_isFeast_23 rfl rfl rfl ?_
      refine g_aload X 0 26 dX6_isFeast_24 rfl rfl ?_
      refine g_iconst X (nI 1) 27 dX6_isFeast_26 rfl (by decide +kernel) ?_
      refine g_ialdT X 5 (12 + (nw + (nr + j))) 0 (sR cI sc wa ra fa nw nr nf S T st fe fo C9) (1) (nI (fo j)) 28 rfl (sR_f (by omega)) rfl (by omega) (by decide) vfe_1 dX6_isFeast_27 rfl ?_
      refine g_isub X ((nI d) - (nI (fo j))) 29 dX6_isFeast_28 rfl rfl ?_
      refine g_aload X 0 31 dX6_isFeast_29 rfl rfl ?_
      refine g_iconst X (nI 0) 32 dX6_isFeast_31 rfl (by decide +kernel) ?_
      refine g_ialdT X 5 (12 + (nw + (nr + j))) 0 (sR cI sc wa ra fa nw nr nf S T st fe fo C9) (0) (nI (fe j)) 33 rfl (sR_f (by omega)) rfl (by omega) (by decide) vfe_0 dX6_isFeast_32 rfl ?_
      refine g_irem X (((nI d) - (nI (fo j))) - ((nI d) - (nI (fo j))) / (nI (fe j)) * (nI (fe j))) 34 dX6_isFeast_33 rfl (nI_ne0 (by omega) (by omega)) rfl ?_
      refine g_if_ne X 37 39 dX6_isFeast_34 rfl (by decide) (fe_rem hd hoj hfj.2) (fun hq => ?_) (fun hq => ?_)
      · refine g_iinc X 1 (nI (j + 1)) [(4, .int (nI (j + 1))), (5, .ref (fa j)), (3, .int (nI nf)), (2, .ref fx), (0, .ref ma), (1, .int (nI d))] 42 dX6_isFeast_39 rfl rfl (nI_inc _) (by decide) rfl ?_
        refine g_goto X 11 dX6_isFeast_42 (by decide) ?_
        refine g_lv (lv' := [(4, .int (nI (j + 1))), (3, .int (nI nf)), (2, .ref fx), (0, .ref ma), (1, .int (nI d))]) [0, 2, 3, 4, 5] rfl ?_
        exact ih_j (lt_s hno hq)
      · refine g_iconst X (nI 1) 38 dX6_isFeast_37 rfl (by decide +kernel) ?_
        refine g_eqi (y := nI (bn (feastOn fe fo nf d))) (by rw [feast_t hj hq]; rfl) ?_
        refine g_w (kc' := rm_X6_isFeast.cells) (ks' := rm_X6_isFeast.slots) (by have h9 : rm_X6_isFeast.cells = 0 := rfl; omega) (by have h9 : rm_X6_isFeast.slots = 0 := rfl; omega) ?_
        exact ret _ _ _ _ dX6_isFeast_38 (bn_nar _) ⟨rfl, rfl⟩
  exact L 0 (Nat.zero_le _) (fun r hr => absurd hr (Nat.not_lt_zero r))

abbrev rm_X6_of : Room := { frames := 0, cells := 1, slots := 3, locals := 0 }
set_option maxHeartbeats 4000000 in
set_option maxRecDepth 100000 in
/-- soot of a window, the most, its coins -/
theorem m_X6_of (l : Launch) (D : va_G) (cI cZ cJ : ClassId) (ma so wo ro fx : Nat) (sc wa ra fa : Nat → Nat) (nw nr nf : Nat) (S T st fe fo Sf : Nat → Nat) (C9 : va_W) (k : Nat) (hs : sootOk S) (hT : winOk T k) (hk : k < nw) (hn : nw ≤ 6) : MRF fT l yX6_of wsX6_of rm_X6_of D (gT cI cZ cJ) ((ma, .inr (6, [.int (nI (Sf 0)), .int (nI (Sf 1)), .int (nI (Sf 2)), .int (nI (Sf 3)), .ref so, .ref wo, .ref ro, .ref fx])) :: (so, .inl (cJ, 12, refs (orf 12 sc))) :: (wo, .inl (cJ, nw, refs (orf nw wa))) :: (ro, .inl (cJ, nr, refs (orf nr ra))) :: (fx, .inl (cJ, nf, refs (orf nf fa))) :: sR cI sc wa ra fa nw nr nf S T st fe fo C9) [.ref ma, .ref (wa k)] (fun r u => u = (r, .inl (cI, 3, .inl (a3 (addW S T k) (mxW S T k) (brW S T k)))) :: ((ma, .inr (6, [.int (nI (Sf 0)), .int (nI (Sf 1)), .int (nI (Sf 2)), .int (nI (Sf 3)), .ref so, .ref wo, .ref ro, .ref fx])) :: (so, .inl (cJ, 12, refs (orf 12 sc))) :: (wo, .inl (cJ, nw, refs (orf nw wa))) :: (ro, .inl (cJ, nr, refs (orf nr ra))) :: (fx, .inl (cJ, nf, refs (orf nf fa))) :: sR cI sc wa ra fa nw nr nf S T st fe fo C9)) := by
  refine MRF_of [(0, .ref ma), (1, .ref (wa k))] (by decide) (Or.inr ⟨_, rfl⟩) rfl (Nat.le_of_ble_eq_true rfl) rfl ?_
  intro p e s m args below meth c A Q X hF ret
  have hiX6 : ∀ w ∈ wsX60, w ∈ wsX6_of := (fun _ h => List.mem_cons_of_mem _ (List.mem_append_right _ h))
  have hT9 := hT
  unfold winOk at hT9
  refine g_iconst X (nI 3) 1 dX6_of_0 rfl (by decide +kernel) ?_
  refine g_newf (ty := .int) X 0 (3) (3, .inl (fun _ => 0)) 3 rfl rfl va_u_int (List.mem_of_getElem? (i := 1) rfl) (fun _ => rfl) (by decide) (Nat.le_of_ble_eq_true rfl) (Nat.le_of_ble_eq_true rfl) (Nat.le_of_ble_eq_true rfl) dX6_of_1 rfl (fun q => ?_)
  refine g_eqw (ws' := ((q, .inl (cI, 3, .inl (a3 0 0 0))) :: (ma, .inr (6, [.int (nI (Sf 0)), .int (nI (Sf 1)), .int (nI (Sf 2)), .int (nI (Sf 3)), .ref so, .ref wo, .ref ro, .ref fx])) :: (so, .inl (cJ, 12, refs (orf 12 sc))) :: (wo, .inl (cJ, nw, refs (orf nw wa))) :: (ro, .inl (cJ, nr, refs (orf nr ra))) :: (fx, .inl (cJ, nf, refs (orf nf fa))) :: sR cI sc wa ra fa nw nr nf S T st fe fo C9)) (by rw [← a3_z]) ?_
  refine g_astore_n X [(2, .ref q), (0, .ref ma), (1, .ref (wa k))] 4 dX6_of_3 rfl rfl (by decide) rfl ?_
  refine g_iconst X (nI 0) 5 dX6_of_4 rfl (by decide +kernel) ?_
  refine g_istore_n X [(3, .int (nI 0)), (2, .ref q), (0, .ref ma), (1, .ref (wa k))] 6 dX6_of_5 rfl rfl (by decide) rfl ?_
  have L : ∀ i : Nat, i ≤ T (5 * k + 2) → G p l e rm_X6_of s m args below meth c Q D A 6 1 3 ((q, .inl (cI, 3, .inl (a3 (sm (fun c1 => sm (colS S T k c1) (T (5 * k + 3))) i) (mx (fun c1 => mx (colS S T k c1) (T (5 * k + 3))) i) 0))) :: (ma, .inr (6, [.int (nI (Sf 0)), .int (nI (Sf 1)), .int (nI (Sf 2)), .int (nI (Sf 3)), .ref so, .ref wo, .ref ro, .ref fx])) :: (so, .inl (cJ, 12, refs (orf 12 sc))) :: (wo, .inl (cJ, nw, refs (orf nw wa))) :: (ro, .inl (cJ, nr, refs (orf nr ra))) :: (fx, .inl (cJ, nf, refs (orf nf fa))) :: sR cI sc wa ra fa nw nr nf S T st fe fo C9) [(3, .int (nI i)), (2, .ref q), (0, .ref ma), (1, .ref (wa k))] 6 [] := by
    refine g_down _ ?_ ?_
    · refine g_iload_n X 0 7 dX6_of_6 rfl rfl rfl ?_
      refine g_aload_n X 3 8 dX6_of_7 rfl rfl rfl ?_
      refine g_iconst X (nI 2) 9 dX6_of_8 rfl (by decide +kernel) ?_
      refine g_ialdT X 6 (12 + k) 0 (sR cI sc wa ra fa nw nr nf S T st fe fo C9) (2) (nI (T (5 * k + 2))) 10 rfl (sR_w (by omega)) rfl (by omega) (by decide) (vwn_at (by decide)) dX6_of_9 rfl ?_
      refine g_icmp_ge X 13 82 dX6_of_10 rfl (by decide) (nI_leI (by omega) (by omega)) (fun h10 => ?_) (fun h10 => absurd (Nat.le_refl _) h10)
      have h2 := pnW_le hT
      have h3 : T (5 * k + 4) * pnW T k ≤ 9 * 96 := Nat.mul_le_mul hT.2.2.2.2.2 h2
      have h1 := addW_le hs hT
      refine g_aload_n X 1 83 dX6_of_82 rfl rfl rfl ?_
      refine g_iconst X (nI 2) 84 dX6_of_83 rfl (by decide +kernel) ?_
      refine g_aload_n X 3 85 dX6_of_84 rfl rfl rfl ?_
      refine g_iconst X (nI 4) 86 dX6_of_85 rfl (by decide +kernel) ?_
      refine g_ialdT X 6 (12 + k) 0 (sR cI sc wa ra fa nw nr nf S T st fe fo C9) (4) (nI (T (5 * k + 4))) 87 rfl (sR_w (by omega)) rfl (by omega) (by decide) (vwn_at (by decide)) dX6_of_86 rfl ?_
      refine g_aload_n X 3 88 dX6_of_87 rfl rfl rfl ?_
      refine g_iconst X (nI 2) 89 dX6_of_88 rfl (by decide +kernel) ?_
      refine g_ialdT X 6 (12 + k) 0 (sR cI sc wa ra fa nw nr nf S T st fe fo C9) (2) (nI (T (5 * k + 2))) 90 rfl (sR_w (by omega)) rfl (by omega) (by decide) (vwn_at (by decide)) dX6_of_89 rfl ?_
      refine g_imul X (nI ((T (5 * k + 4)) * (T (5 * k + 2)))) 91 dX6_of_90 rfl (pk_mul _ _) ?_
      refine g_aload_n X 3 92 dX6_of_91 rfl rfl rfl ?_
      refine g_iconst X (nI 3) 93 dX6_of_92 rfl (by decide +kernel) ?_
      refine g_ialdT X 6 (12 + k) 0 (sR cI sc wa ra fa nw nr nf S T st fe fo C9) (3) (nI (T (5 * k + 3))) 94 rfl (sR_w (by omega)) rfl (by omega) (by decide) (vwn_at (by decide)) dX6_of_93 rfl ?_
      refine g_imul X (nI (((T (5 * k + 4)) * (T (5 * k + 2))) * (T (5 * k + 3)))) 95 dX6_of_94 rfl (pk_mul _ _) ?_
      refine g_eqi (y := nI (T (5 * k + 4) * pnW T k)) (congrArg nI (Nat.mul_assoc _ _ _)) ?_
      refine g_aload_n X 1 96 dX6_of_95 rfl rfl rfl ?_
      refine g_iconst X (nI 0) 97 dX6_of_96 rfl (by decide +kernel) ?_
      refine g_iald X 0 0 (0) (nI (addW S T k)) 98 rfl rfl (by omega) (by decide) rfl dX6_of_97 rfl ?_
      refine g_icmp_le X 101 119 dX6_of_98 rfl (by decide) (nI_leI (by omega) (by omega)) (fun hq => ?_) (fun hq => ?_)
      · refine g_iconst X (nI 0) 120 dX6_of_119 rfl (by decide +kernel) ?_
        refine g_iast (ws' := ((q, .inl (cI, 3, .inl (a3 (addW S T k) (mxW S T k) (brW S T k)))) :: (ma, .inr (6, [.int (nI (Sf 0)), .int (nI (Sf 1)), .int (nI (Sf 2)), .int (nI (Sf 3)), .ref so, .ref wo, .ref ro, .ref fx])) :: (so, .inl (cJ, 12, refs (orf 12 sc))) :: (wo, .inl (cJ, nw, refs (orf nw wa))) :: (ro, .inl (cJ, nr, refs (orf nr ra))) :: (fx, .inl (cJ, nf, refs (orf nf fa))) :: sR cI sc wa ra fa nw nr nf S T st fe fo C9)) X 0 0 (2) (a3 (addW S T k) (mxW S T k) (brW S T k)) 121 rfl rfl (by omega) (by decide) (a3_u2.trans (by rw [show brW S T k = 0 from by unfold brW; omega]; rfl)) dX6_of_120 rfl rfl ?_
        refine g_aload_n X 1 122 dX6_of_121 rfl rfl rfl ?_
        refine g_w (kc' := rm_X6_of.cells) (ks' := rm_X6_of.slots) (by have h9 : rm_X6_of.cells = 1 := rfl; omega) (by have h9 : rm_X6_of.slots = 3 := rfl; omega) ?_
        exact ret _ _ _ _ dX6_of_122 rfl
      · refine g_aload_n X 3 102 dX6_of_101 rfl rfl rfl ?_
        refine g_iconst X (nI 4) 103 dX6_of_102 rfl (by decide +kernel) ?_
        refine g_ialdT X 6 (12 + k) 0 (sR cI sc wa ra fa nw nr nf S T st fe fo C9) (4) (nI (T (5 * k + 4))) 104 rfl (sR_w (by omega)) rfl (by omega) (by decide) (vwn_at (by decide)) dX6_of_103 rfl ?_
        refine g_aload_n X 3 105 dX6_of_104 rfl rfl rfl ?_
        refine g_iconst X (nI 2) 106 dX6_of_105 rfl (by decide +kernel) ?_
        refine g_ialdT X 6 (12 + k) 0 (sR cI sc wa ra fa nw nr nf S T st fe fo C9) (2) (nI (T (5 * k + 2))) 107 rfl (sR_w (by omega)) rfl (by omega) (by decide) (vwn_at (by decide)) dX6_of_106 rfl ?_
        refine g_imul X (nI ((T (5 * k + 4)) * (T (5 * k + 2)))) 108 dX6_of_107 rfl (pk_mul _ _) ?_
        refine g_aload_n X 3 109 dX6_of_108 rfl rfl rfl ?_
        refine g_iconst X (nI 3) 110 dX6_of_109 rfl (by decide +kernel) ?_
        refine g_ialdT X 6 (12 + k) 0 (sR cI sc wa ra fa nw nr nf S T st fe fo C9) (3) (nI (T (5 * k + 3))) 111 rfl (sR_w (by omega)) rfl (by omega) (by decide) (vwn_at (by decide)) dX6_of_110 rfl ?_
        refine g_imul X (nI (((T (5 * k + 4)) * (T (5 * k + 2))) * (T (5 * k + 3)))) 112 dX6_of_111 rfl (pk_mul _ _) ?_
        refine g_eqi (y := nI (T (5 * k + 4) * pnW T k)) (congrArg nI (Nat.mul_assoc _ _ _)) ?_
        refine g_aload_n X 1 113 dX6_of_112 rfl rfl rfl ?_
        refine g_iconst X (nI 0) 114 dX6_of_113 rfl (by decide +kernel) ?_
        refine g_iald X 0 0 (0) (nI (addW S T k)) 115 rfl rfl (by omega) (by decide) rfl dX6_of_114 rfl ?_
        refine g_isub X (nI ((T (5 * k + 4) * pnW T k) - (addW S T k))) 116 dX6_of_115 rfl (pk_sub (by omega)) ?_
        refine g_goto X 120 dX6_of_116 (by decide) ?_
        refine g_iast (ws' := ((q, .inl (cI, 3, .inl (a3 (addW S T k) (mxW S T k) (brW S T k)))) :: (ma, .inr (6, [.int (nI (Sf 0)), .int (nI (Sf 1)), .int (nI (Sf 2)), .int (nI (Sf 3)), .ref so, .ref wo, .ref ro, .ref fx])) :: (so, .inl (cJ, 12, refs (orf 12 sc))) :: (wo, .inl (cJ, nw, refs (orf nw wa))) :: (ro, .inl (cJ, nr, refs (orf nr ra))) :: (fx, .inl (cJ, nf, refs (orf nf fa))) :: sR cI sc wa ra fa nw nr nf S T st fe fo C9)) X 0 0 (2) (a3 (addW S T k) (mxW S T k) (brW S T k)) 121 rfl rfl (by omega) (by decide) a3_u2 dX6_of_120 rfl rfl ?_
        refine g_aload_n X 1 122 dX6_of_121 rfl rfl rfl ?_
        refine g_w (kc' := rm_X6_of.cells) (ks' := rm_X6_of.slots) (by have h9 : rm_X6_of.cells = 1 := rfl; omega) (by have h9 : rm_X6_of.slots = 3 := rfl; omega) ?_
        exact ret _ _ _ _ dX6_of_122 rfl
    · intro i hi ih_i 
      refine g_iload_n X 0 7 dX6_of_6 rfl rfl rfl ?_
      refine g_aload_n X 3 8 dX6_of_7 rfl rfl rfl ?_
      refine g_iconst X (nI 2) 9 dX6_of_8 rfl (by decide +kernel) ?_
      refine g_ialdT X 6 (12 + k) 0 (sR cI sc wa ra fa nw nr nf S T st fe fo C9) (2) (nI (T (5 * k + 2))) 10 rfl (sR_w (by omega)) rfl (by omega) (by decide) (vwn_at (by decide)) dX6_of_9 rfl ?_
      refine g_icmp_ge X 13 82 dX6_of_10 rfl (by decide) (nI_leI (by omega) (by omega)) (fun h10 => absurd h10 (by omega)) (fun h10 => ?_)
      refine g_iconst X (nI 0) 14 dX6_of_13 rfl (by decide +kernel) ?_
      refine g_istore X [(4, .int (nI 0)), (3, .int (nI i)), (2, .ref q), (0, .ref ma), (1, .ref (wa k))] 16 dX6_of_14 rfl (by decide) rfl ?_
      have M : ∀ j : Nat, j ≤ T (5 * k + 3) → G p l e rm_X6_of s m args below meth c Q D A 6 1 3 ((q, .inl (cI, 3, .inl (a3 (sm (fun c1 => sm (colS S T k c1) (T (5 * k + 3))) i + sm (colS S T k i) j) (max (mx (fun c1 => mx (colS S T k c1) (T (5 * k + 3))) i) (mx (colS S T k i) j)) 0))) :: (ma, .inr (6, [.int (nI (Sf 0)), .int (nI (Sf 1)), .int (nI (Sf 2)), .int (nI (Sf 3)), .ref so, .ref wo, .ref ro, .ref fx])) :: (so, .inl (cJ, 12, refs (orf 12 sc))) :: (wo, .inl (cJ, nw, refs (orf nw wa))) :: (ro, .inl (cJ, nr, refs (orf nr ra))) :: (fx, .inl (cJ, nf, refs (orf nf fa))) :: sR cI sc wa ra fa nw nr nf S T st fe fo C9) [(4, .int (nI j)), (3, .int (nI i)), (2, .ref q), (0, .ref ma), (1, .ref (wa k))] 16 [] := by
        refine g_down _ ?_ ?_
        · refine g_iload X 0 18 dX6_of_16 rfl rfl ?_
          refine g_aload_n X 4 19 dX6_of_18 rfl rfl rfl ?_
          refine g_iconst X (nI 3) 20 dX6_of_19 rfl (by decide +kernel) ?_
          refine g_ialdT X 6 (12 + k) 0 (sR cI sc wa ra fa nw nr nf S T st fe fo C9) (3) (nI (T (5 * k + 3))) 21 rfl (sR_w (by omega)) rfl (by omega) (by decide) (vwn_at (by decide)) dX6_of_20 rfl ?_
          refine g_icmp_ge X 24 76 dX6_of_21 rfl (by decide) (nI_leI (by omega) (by omega)) (fun h21 => ?_) (fun h21 => absurd (Nat.le_refl _) h21)
          refine g_iinc X 1 (nI (i + 1)) [(3, .int (nI (i + 1))), (4, .int (nI (T (5 * k + 3)))), (2, .ref q), (0, .ref ma), (1, .ref (wa k))] 79 dX6_of_76 rfl rfl (nI_inc _) (by decide) rfl ?_
          refine g_goto X 6 dX6_of_79 (by decide) ?_
          refine g_lv (lv' := [(3, .int (nI (i + 1))), (2, .ref q), (0, .ref ma), (1, .ref (wa k))]) [0, 2, 3, 4] rfl ?_
          exact ih_i
        · intro j hj ih_j 
          refine g_iload X 0 18 dX6_of_16 rfl rfl ?_
          refine g_aload_n X 4 19 dX6_of_18 rfl rfl rfl ?_
          refine g_iconst X (nI 3) 20 dX6_of_19 rfl (by decide +kernel) ?_
          refine g_ialdT X 6 (12 + k) 0 (sR cI sc wa ra fa nw nr nf S T st fe fo C9) (3) (nI (T (5 * k + 3))) 21 rfl (sR_w (by omega)) rfl (by omega) (by decide) (vwn_at (by decide)) dX6_of_20 rfl ?_
          refine g_icmp_ge X 24 76 dX6_of_21 rfl (by decide) (nI_leI (by omega) (by omega)) (fun h21 => absurd h21 (by omega)) (fun h21 => ?_)
          have hm1 : mx (fun c1 => mx (colS S T k c1) (T (5 * k + 3))) i ≤ 20 := mx_le i (fun c1 hc1 => mx_le _ (fun j1 hj1 => col_le hs hT (by omega) hj1))
          have hm2 : mx (colS S T k i) j ≤ 20 := mx_le j (fun j1 hj1 => col_le hs hT hi (by omega))
          have hm3 : colS S T k i j ≤ 20 := col_le hs hT hi hj
          refine g_aload_n X 3 25 dX6_of_24 rfl rfl rfl ?_
          refine g_get X hiX6 1 4 28 rfl rfl (by decide) (List.mem_of_getElem? (i := 2) rfl) rfl dX6_of_25 rfl ?_
          refine g_aload_n X 4 29 dX6_of_28 rfl rfl rfl ?_
          refine g_iconst X (nI 0) 30 dX6_of_29 rfl (by decide +kernel) ?_
          refine g_ialdT X 6 (12 + k) 0 (sR cI sc wa ra fa nw nr nf S T st fe fo C9) (0) (nI (T (5 * k))) 31 rfl (sR_w (by omega)) rfl (by omega) (by decide) (vwn_at (by decide)) dX6_of_30 rfl ?_
          refine g_iload_n X 1 32 dX6_of_31 rfl rfl rfl ?_
          refine g_iadd X (nI ((T (5 * k)) + i)) 33 dX6_of_32 rfl (nI_add _ _) ?_
          refine g_aald X 2 2 ((T (5 * k)) + i) (sc ((T (5 * k)) + i)) 34 rfl rfl (by omega) (by decide) (orf_at (by omega)) dX6_of_33 rfl ?_
          refine g_aload_n X 4 35 dX6_of_34 rfl rfl rfl ?_
          refine g_iconst X (nI 1) 36 dX6_of_35 rfl (by decide +kernel) ?_
          refine g_ialdT X 6 (12 + k) 0 (sR cI sc wa ra fa nw nr nf S T st fe fo C9) (1) (nI (T (5 * k + 1))) 37 rfl (sR_w (by omega)) rfl (by omega) (by decide) (vwn_at (by decide)) dX6_of_36 rfl ?_
          refine g_iload X 0 39 dX6_of_37 rfl rfl ?_
          refine g_iadd X (nI ((T (5 * k + 1)) + j)) 40 dX6_of_39 rfl (nI_add _ _) ?_
          refine g_ialdT X 6 ((T (5 * k)) + i) 0 (sR cI sc wa ra fa nw nr nf S T st fe fo C9) ((T (5 * k + 1)) + j) (nI (colS S T k i j)) 41 rfl (sR_c (by omega)) rfl (by omega) (by decide) (vcl_at (by omega)) dX6_of_40 rfl ?_
          refine g_istore X [(5, .int (nI (colS S T k i j))), (4, .int (nI j)), (3, .int (nI i)), (2, .ref q), (0, .ref ma), (1, .ref (wa k))] 43 dX6_of_41 rfl (by decide) rfl ?_
          refine g_aload_n X 3 44 dX6_of_43 rfl rfl rfl ?_
          refine g_iconst X (nI 0) 45 dX6_of_44 rfl (by decide +kernel) ?_
          refine g_dup2 X 46 dX6_of_45 rfl rfl rfl ?_
          refine g_iald X 0 0 (0) (nI (sm (fun c1 => sm (colS S T k c1) (T (5 * k + 3))) i + sm (colS S T k i) j)) 47 rfl rfl (by omega) (by decide) rfl dX6_of_46 rfl ?_
          refine g_iload X 0 49 dX6_of_47 rfl rfl ?_
          refine g_iadd X (nI ((sm (fun c1 => sm (colS S T k c1) (T (5 * k + 3))) i + sm (colS S T k i) j) + (colS S T k i j))) 50 dX6_of_49 rfl (nI_add _ _) ?_
          refine g_iast (ws' := ((q, .inl (cI, 3, .inl (a3 (sm (fun c1 => sm (colS S T k c1) (T (5 * k + 3))) i + sm (colS S T k i) (j + 1)) (max (mx (fun c1 => mx (colS S T k c1) (T (5 * k + 3))) i) (mx (colS S T k i) j)) 0))) :: (ma, .inr (6, [.int (nI (Sf 0)), .int (nI (Sf 1)), .int (nI (Sf 2)), .int (nI (Sf 3)), .ref so, .ref wo, .ref ro, .ref fx])) :: (so, .inl (cJ, 12, refs (orf 12 sc))) :: (wo, .inl (cJ, nw, refs (orf nw wa))) :: (ro, .inl (cJ, nr, refs (orf nr ra))) :: (fx, .inl (cJ, nf, refs (orf nf fa))) :: sR cI sc wa ra fa nw nr nf S T st fe fo C9)) X 0 0 (0) (a3 (sm (fun c1 => sm (colS S T k c1) (T (5 * k + 3))) i + sm (colS S T k i) (j + 1)) (max (mx (fun c1 => mx (colS S T k c1) (T (5 * k + 3))) i) (mx (colS S T k i) j)) 0) 51 rfl rfl (by omega) (by decide) (a3_u0.trans (by rw [Nat.add_assoc]; rfl)) dX6_of_50 rfl rfl ?_
          refine g_aload_n X 3 52 dX6_of_51 rfl rfl rfl ?_
          refine g_iconst X (nI 1) 53 dX6_of_52 rfl (by decide +kernel) ?_
          refine g_iload X 0 55 dX6_of_53 rfl rfl ?_
          refine g_aload_n X 3 56 dX6_of_55 rfl rfl rfl ?_
          refine g_iconst X (nI 1) 57 dX6_of_56 rfl (by decide +kernel) ?_
          refine g_iald X 0 0 (1) (nI (max (mx (fun c1 => mx (colS S T k c1) (T (5 * k + 3))) i) (mx (colS S T k i) j))) 58 rfl rfl (by omega) (by decide) rfl dX6_of_57 rfl ?_
          refine g_icmp_le X 61 66 dX6_of_58 rfl (by decide) (nI_leI (by omega) (by omega)) (fun hq => ?_) (fun hq => ?_)
          · refine g_aload_n X 3 67 dX6_of_66 rfl rfl rfl ?_
            refine g_iconst X (nI 1) 68 dX6_of_67 rfl (by decide +kernel) ?_
            refine g_iald X 0 0 (1) (nI (max (mx (fun c1 => mx (colS S T k c1) (T (5 * k + 3))) i) (mx (colS S T k i) j))) 69 rfl rfl (by omega) (by decide) rfl dX6_of_68 rfl ?_
            refine g_iast (ws' := ((q, .inl (cI, 3, .inl (a3 (sm (fun c1 => sm (colS S T k c1) (T (5 * k + 3))) i + sm (colS S T k i) (j + 1)) (max (mx (fun c1 => mx (colS S T k c1) (T (5 * k + 3))) i) (mx (colS S T k i) (j + 1))) 0))) :: (ma, .inr (6, [.int (nI (Sf 0)), .int (nI (Sf 1)), .int (nI (Sf 2)), .int (nI (Sf 3)), .ref so, .ref wo, .ref ro, .ref fx])) :: (so, .inl (cJ, 12, refs (orf 12 sc))) :: (wo, .inl (cJ, nw, refs (orf nw wa))) :: (ro, .inl (cJ, nr, refs (orf nr ra))) :: (fx, .inl (cJ, nf, refs (orf nf fa))) :: sR cI sc wa ra fa nw nr nf S T st fe fo C9)) X 0 0 (1) (a3 (sm (fun c1 => sm (colS S T k c1) (T (5 * k + 3))) i + sm (colS S T k i) (j + 1)) (max (mx (fun c1 => mx (colS S T k c1) (T (5 * k + 3))) i) (mx (colS S T k i) (j + 1))) 0) 70 rfl rfl (by omega) (by decide) (a3_u1.trans (by rw [mx_s (colS S T k i) j]; congr 1; omega)) dX6_of_69 rfl rfl ?_
            refine g_iinc X 1 (nI (j + 1)) [(4, .int (nI (j + 1))), (5, .int (nI (colS S T k i j))), (3, .int (nI i)), (2, .ref q), (0, .ref ma), (1, .ref (wa k))] 73 dX6_of_70 rfl rfl (nI_inc _) (by decide) rfl ?_
            refine g_goto X 16 dX6_of_73 (by decide) ?_
            refine g_lv (lv' := [(4, .int (nI (j + 1))), (3, .int (nI i)), (2, .ref q), (0, .ref ma), (1, .ref (wa k))]) [0, 2, 3, 4, 5] rfl ?_
            exact ih_j
          · refine g_iload X 0 63 dX6_of_61 rfl rfl ?_
            refine g_goto X 69 dX6_of_63 (by decide) ?_
            refine g_iast (ws' := ((q, .inl (cI, 3, .inl (a3 (sm (fun c1 => sm (colS S T k c1) (T (5 * k + 3))) i + sm (colS S T k i) (j + 1)) (max (mx (fun c1 => mx (colS S T k c1) (T (5 * k + 3))) i) (mx (colS S T k i) (j + 1))) 0))) :: (ma, .inr (6, [.int (nI (Sf 0)), .int (nI (Sf 1)), .int (nI (Sf 2)), .int (nI (Sf 3)), .ref so, .ref wo, .ref ro, .ref fx])) :: (so, .inl (cJ, 12, refs (orf 12 sc))) :: (wo, .inl (cJ, nw, refs (orf nw wa))) :: (ro, .inl (cJ, nr, refs (orf nr ra))) :: (fx, .inl (cJ, nf, refs (orf nf fa))) :: sR cI sc wa ra fa nw nr nf S T st fe fo C9)) X 0 0 (1) (a3 (sm (fun c1 => sm (colS S T k c1) (T (5 * k + 3))) i + sm (colS S T k i) (j + 1)) (max (mx (fun c1 => mx (colS S T k c1) (T (5 * k + 3))) i) (mx (colS S T k i) (j + 1))) 0) 70 rfl rfl (by omega) (by decide) (a3_u1.trans (by rw [mx_s (colS S T k i) j]; congr 1; omega)) dX6_of_69 rfl rfl ?_
            refine g_iinc X 1 (nI (j + 1)) [(4, .int (nI (j + 1))), (5, .int (nI (colS S T k i j))), (3, .int (nI i)), (2, .ref q), (0, .ref ma), (1, .ref (wa k))] 73 dX6_of_70 rfl rfl (nI_inc _) (by decide) rfl ?_
            refine g_goto X 16 dX6_of_73 (by decide) ?_
            refine g_lv (lv' := [(4, .int (nI (j + 1))), (3, .int (nI i)), (2, .ref q), (0, .ref ma), (1, .ref (wa k))]) [0, 2, 3, 4, 5] rfl ?_
            exact ih_j
      have M0 := M 0 (Nat.zero_le _)
      rw [show max (mx (fun c1 => mx (colS S T k c1) (T (5 * k + 3))) i) (mx (colS S T k i) 0) = mx (fun c1 => mx (colS S T k c1) (T (5 * k + 3))) i from Nat.max_eq_left (Nat.zero_le _)] at M0
      exact M0
  exact L 0 (Nat.zero_le _)

abbrev rm_X6_bring : Room := { frames := 1, cells := 6, slots := 18, locals := 25 }
set_option maxHeartbeats 4000000 in
set_option maxRecDepth 100000 in
/-- what all windows bring -/
theorem m_X6_bring (l : Launch) (D : va_G) (cI cZ cJ : ClassId) (ma so wo ro fx : Nat) (sc wa ra fa : Nat → Nat) (nw nr nf : Nat) (S T st fe fo Sf : Nat → Nat) (C9 : va_W) (hs : sootOk S) (hn : nw ≤ 6) (hT : ∀ k : Nat, k < nw → winOk T k) : MIF fT l yX6_bring wsX6_bring rm_X6_bring D (gT cI cZ cJ) ((ma, .inr (6, [.int (nI (Sf 0)), .int (nI (Sf 1)), .int (nI (Sf 2)), .int (nI (Sf 3)), .ref so, .ref wo, .ref ro, .ref fx])) :: (so, .inl (cJ, 12, refs (orf 12 sc))) :: (wo, .inl (cJ, nw, refs (orf nw wa))) :: (ro, .inl (cJ, nr, refs (orf nr ra))) :: (fx, .inl (cJ, nf, refs (orf nf fa))) :: sR cI sc wa ra fa nw nr nf S T st fe fo C9) [.ref ma] (fun r u => r = nI (allB S T nw) ∧ u = ((ma, .inr (6, [.int (nI (Sf 0)), .int (nI (Sf 1)), .int (nI (Sf 2)), .int (nI (Sf 3)), .ref so, .ref wo, .ref ro, .ref fx])) :: (so, .inl (cJ, 12, refs (orf 12 sc))) :: (wo, .inl (cJ, nw, refs (orf nw wa))) :: (ro, .inl (cJ, nr, refs (orf nr ra))) :: (fx, .inl (cJ, nf, refs (orf nf fa))) :: sR cI sc wa ra fa nw nr nf S T st fe fo C9)) := by
  refine MIF_of [(0, .ref ma)] (by decide) rfl (Nat.le_of_ble_eq_true rfl) rfl ?_
  intro p e s m args below meth c A Q X hF ret
  have hiX6 : ∀ w ∈ wsX60, w ∈ wsX6_bring := (fun _ h => List.mem_cons_of_mem _ (List.mem_append_right _ h))
  refine g_iconst X (nI 0) 1 dX6_bring_0 rfl (by decide +kernel) ?_
  refine g_istore_n X [(1, .int (nI 0)), (0, .ref ma)] 2 dX6_bring_1 rfl rfl (by decide) rfl ?_
  refine g_aload_n X 1 3 dX6_bring_2 rfl rfl rfl ?_
  refine g_get X hiX6 0 5 6 rfl rfl (by decide) (List.mem_of_getElem? (i := 1) rfl) rfl dX6_bring_3 rfl ?_
  refine g_astore_n X [(2, .ref wo), (1, .int (nI 0)), (0, .ref ma)] 7 dX6_bring_6 rfl rfl (by decide) rfl ?_
  refine g_aload_n X 0 8 dX6_bring_7 rfl rfl rfl ?_
  refine g_alen X 2 2 9 rfl rfl dX6_bring_8 rfl ?_
  refine g_istore_n X [(3, .int (nI nw)), (2, .ref wo), (1, .int (nI 0)), (0, .ref ma)] 10 dX6_bring_9 rfl rfl (by decide) rfl ?_
  refine g_iconst X (nI 0) 11 dX6_bring_10 rfl (by decide +kernel) ?_
  refine g_istore X [(4, .int (nI 0)), (3, .int (nI nw)), (2, .ref wo), (1, .int (nI 0)), (0, .ref ma)] 13 dX6_bring_11 rfl (by decide) rfl ?_
  have L : ∀ j : Nat, j ≤ nw → G p l e rm_X6_bring s m args below meth c Q D A 6 (j * 1) (j * 3) ((ma, .inr (6, [.int (nI (Sf 0)), .int (nI (Sf 1)), .int (nI (Sf 2)), .int (nI (Sf 3)), .ref so, .ref wo, .ref ro, .ref fx])) :: (so, .inl (cJ, 12, refs (orf 12 sc))) :: (wo, .inl (cJ, nw, refs (orf nw wa))) :: (ro, .inl (cJ, nr, refs (orf nr ra))) :: (fx, .inl (cJ, nf, refs (orf nf fa))) :: sR cI sc wa ra fa nw nr nf S T st fe fo C9) [(4, .int (nI j)), (3, .int (nI nw)), (2, .ref wo), (1, .int (nI (sm (brW S T) j))), (0, .ref ma)] 13 [] := by
    refine g_down _ ?_ ?_
    · refine g_iload X 0 15 dX6_bring_13 rfl rfl ?_
      refine g_iload_n X 1 16 dX6_bring_15 rfl rfl rfl ?_
      refine g_icmp_ge X 19 42 dX6_bring_16 rfl (by decide) (nI_leI (by omega) (by omega)) (fun h16 => ?_) (fun h16 => absurd (Nat.le_refl _) h16)
      refine g_iload_n X 3 43 dX6_bring_42 rfl rfl rfl ?_
      refine g_w (kc' := rm_X6_bring.cells) (ks' := rm_X6_bring.slots) (by have h9 : rm_X6_bring.cells = 6 := rfl; omega) (by have h9 : rm_X6_bring.slots = 18 := rfl; omega) ?_
      exact ret _ _ _ _ dX6_bring_43 rfl ⟨rfl, rfl⟩
    · intro j hj ih_j 
      refine g_iload X 0 15 dX6_bring_13 rfl rfl ?_
      refine g_iload_n X 1 16 dX6_bring_15 rfl rfl rfl ?_
      refine g_icmp_ge X 19 42 dX6_bring_16 rfl (by decide) (nI_leI (by omega) (by omega)) (fun h16 => absurd h16 (by omega)) (fun h16 => ?_)
      refine g_aload_n X 2 20 dX6_bring_19 rfl rfl rfl ?_
      refine g_iload X 0 22 dX6_bring_20 rfl rfl ?_
      refine g_aald X 2 2 (j) (wa j) 23 rfl rfl (by omega) (by omega) (orf_at (by omega)) dX6_bring_22 rfl ?_
      refine g_astore X [(5, .ref (wa j)), (4, .int (nI j)), (3, .int (nI nw)), (2, .ref wo), (1, .int (nI (sm (brW S T) j))), (0, .ref ma)] 25 dX6_bring_23 rfl (by decide) rfl ?_
      refine g_iload_n X 4 26 dX6_bring_25 rfl rfl rfl ?_
      refine g_aload_n X 5 27 dX6_bring_26 rfl rfl rfl ?_
      refine g_aload X 0 29 dX6_bring_27 rfl rfl ?_
      refine g_sVr X okT trivial (m_X6_of l D cI cZ cJ ma so wo ro fx sc wa ra fa nw nr nf S T st fe fo Sf C9 j hs (hT j hj) hj hn) 32 (j * 1 + 1) (j * 3 + 3) [] rfl gX6_bring_X6_of rfl (n := 1) (by decide +kernel) rfl ⟨Nat.le_of_ble_eq_true rfl, Nat.le_of_ble_eq_true rfl⟩ (ci := 6) 0 rfl rfl rfl (Nat.le_of_ble_eq_true rfl) dX6_bring_29 rfl (by have h9 : rm_X6_of.cells = 1 := rfl; omega) (by have h9 : rm_X6_of.slots = 3 := rfl; omega) ⟨(by have h9 : rm_X6_bring.cells = 6 := rfl; omega), (by have h9 : rm_X6_bring.slots = 18 := rfl; omega)⟩ (fun r9 u9 h9 => ?_)
      subst h9
      refine g_eqw (ws' := ((r9, .inl (cI, 3, .inl (a3 (addW S T j) (mxW S T j) (brW S T j)))) :: (ma, .inr (6, [.int (nI (Sf 0)), .int (nI (Sf 1)), .int (nI (Sf 2)), .int (nI (Sf 3)), .ref so, .ref wo, .ref ro, .ref fx])) :: (so, .inl (cJ, 12, refs (orf 12 sc))) :: (wo, .inl (cJ, nw, refs (orf nw wa))) :: (ro, .inl (cJ, nr, refs (orf nr ra))) :: (fx, .inl (cJ, nf, refs (orf nf fa))) :: sR cI sc wa ra fa nw nr nf S T st fe fo C9)) rfl ?_
      refine g_iconst X (nI 2) 33 dX6_bring_32 rfl (by decide +kernel) ?_
      refine g_iald X 0 0 (2) (nI (brW S T j)) 34 rfl rfl (by omega) (by decide) rfl dX6_bring_33 rfl ?_
      refine g_iadd X (nI ((sm (brW S T) j) + (brW S T j))) 35 dX6_bring_34 rfl (nI_add _ _) ?_
      refine g_istore_n X [(1, .int (nI ((sm (brW S T) j) + (brW S T j)))), (5, .ref (wa j)), (4, .int (nI j)), (3, .int (nI nw)), (2, .ref wo), (0, .ref ma)] 36 dX6_bring_35 rfl rfl (by decide) rfl ?_
      refine g_perm (ws' := ((ma, .inr (6, [.int (nI (Sf 0)), .int (nI (Sf 1)), .int (nI (Sf 2)), .int (nI (Sf 3)), .ref so, .ref wo, .ref ro, .ref fx])) :: (so, .inl (cJ, 12, refs (orf 12 sc))) :: (wo, .inl (cJ, nw, refs (orf nw wa))) :: (ro, .inl (cJ, nr, refs (orf nr ra))) :: (fx, .inl (cJ, nf, refs (orf nf fa))) :: sR cI sc wa ra fa nw nr nf S T st fe fo C9)) [(r9, .inl (cI, 3, .inl (a3 (addW S T j) (mxW S T j) (brW S T j))))] (perm_ct (fun _ _ => by simp only [List.count_append, List.count_cons, List.count_nil]; omega)) ?_
      refine g_iinc X 2 (nI (j + 1)) [(4, .int (nI (j + 1))), (1, .int (nI ((sm (brW S T) j) + (brW S T j)))), (5, .ref (wa j)), (3, .int (nI nw)), (2, .ref wo), (0, .ref ma)] 39 dX6_bring_36 rfl rfl (nI_inc _) (by decide) rfl ?_
      refine g_goto X 13 dX6_bring_39 (by decide) ?_
      refine g_lv (lv' := [(4, .int (nI (j + 1))), (3, .int (nI nw)), (2, .ref wo), (1, .int (nI ((sm (brW S T) j) + (brW S T j)))), (0, .ref ma)]) [0, 3, 4, 1, 5] rfl ?_
      refine g_w (kc' := ((j + 1) * 1)) (ks' := ((j + 1) * 3)) (by omega) (by omega) ?_
      exact ih_j
  exact L 0 (Nat.zero_le _)

abbrev rm_X6_next : Room := { frames := 1, cells := 0, slots := 0, locals := 25 }
set_option maxHeartbeats 4000000 in
set_option maxRecDepth 100000 in
/-- when the next feast comes -/
theorem m_X6_next (l : Launch) (D : va_G) (cI cZ cJ : ClassId) (ma so wo ro fx : Nat) (sc wa ra fa : Nat → Nat) (nw nr nf : Nat) (S T st fe fo Sf : Nat → Nat) (C9 : va_W) (hf : feOk fe nf) (ho : ∀ k : Nat, k < nf → fo k < fe k) (hd : Sf 0 < 2 ^ 28) : MIF fT l yX6_next wsX6_next rm_X6_next D (gT cI cZ cJ) ((ma, .inr (6, [.int (nI (Sf 0)), .int (nI (Sf 1)), .int (nI (Sf 2)), .int (nI (Sf 3)), .ref so, .ref wo, .ref ro, .ref fx])) :: (so, .inl (cJ, 12, refs (orf 12 sc))) :: (wo, .inl (cJ, nw, refs (orf nw wa))) :: (ro, .inl (cJ, nr, refs (orf nr ra))) :: (fx, .inl (cJ, nf, refs (orf nf fa))) :: sR cI sc wa ra fa nw nr nf S T st fe fo C9) [.ref ma] (fun r u => r = nxF fe fo nf (Sf 0) ∧ u = ((ma, .inr (6, [.int (nI (Sf 0)), .int (nI (Sf 1)), .int (nI (Sf 2)), .int (nI (Sf 3)), .ref so, .ref wo, .ref ro, .ref fx])) :: (so, .inl (cJ, 12, refs (orf 12 sc))) :: (wo, .inl (cJ, nw, refs (orf nw wa))) :: (ro, .inl (cJ, nr, refs (orf nr ra))) :: (fx, .inl (cJ, nf, refs (orf nf fa))) :: sR cI sc wa ra fa nw nr nf S T st fe fo C9)) := by
  refine MIF_of [(0, .ref ma)] (by decide) rfl (Nat.le_of_ble_eq_true rfl) rfl ?_
  intro p e s m args below meth c A Q X hF ret
  have hiX6 : ∀ w ∈ wsX60, w ∈ wsX6_next := (fun _ h => List.mem_cons_of_mem _ (List.mem_append_right _ h))
  refine g_iconst X (nI 0) 1 dX6_next_0 rfl (by decide +kernel) ?_
  refine g_istore_n X [(1, .int (nI 0)), (0, .ref ma)] 2 dX6_next_1 rfl rfl (by decide) rfl ?_
  have L : ∀ j : Nat, j ≤ 61 → nxF fe fo nf (Sf 0) = nxR fe fo nf (Sf 0) (61 - j) j → G p l e rm_X6_next s m args below meth c Q D A 2 0 0 ((ma, .inr (6, [.int (nI (Sf 0)), .int (nI (Sf 1)), .int (nI (Sf 2)), .int (nI (Sf 3)), .ref so, .ref wo, .ref ro, .ref fx])) :: (so, .inl (cJ, 12, refs (orf 12 sc))) :: (wo, .inl (cJ, nw, refs (orf nw wa))) :: (ro, .inl (cJ, nr, refs (orf nr ra))) :: (fx, .inl (cJ, nf, refs (orf nf fa))) :: sR cI sc wa ra fa nw nr nf S T st fe fo C9) [(1, .int (nI j)), (0, .ref ma)] 2 [] := by
    refine g_down _ ?_ ?_
    · intro hnx
      refine g_iload_n X 0 3 dX6_next_2 rfl rfl rfl ?_
      refine g_bipush X (nI 61) 5 dX6_next_3 rfl (by decide +kernel) ?_
      refine g_icmp_ge X 8 27 dX6_next_5 rfl (by decide) (nI_leI (by omega) (by omega)) (fun h5 => ?_) (fun h5 => absurd (Nat.le_refl _) h5)
      refine g_iload_n X 0 28 dX6_next_27 rfl rfl rfl ?_
      refine g_bipush X (nI 61) 30 dX6_next_28 rfl (by decide +kernel) ?_
      refine g_icmp_ne X 33 37 dX6_next_30 rfl (by decide) (nI_eq (by omega) (by omega)) (fun h30 => absurd rfl h30) (fun h30 => ?_)
      refine g_iconst X (nIm 1) 34 dX6_next_33 rfl (by decide +kernel) ?_
      refine g_goto X 38 dX6_next_34 (by decide) ?_
      refine g_eqi (y := nxF fe fo nf (Sf 0)) (by rw [hnx]; rfl) ?_
      refine g_w (kc' := rm_X6_next.cells) (ks' := rm_X6_next.slots) (by have h9 : rm_X6_next.cells = 0 := rfl; omega) (by have h9 : rm_X6_next.slots = 0 := rfl; omega) ?_
      exact ret _ _ _ _ dX6_next_38 rfl ⟨rfl, rfl⟩
    · intro j hj ih_j hnx
      refine g_iload_n X 0 3 dX6_next_2 rfl rfl rfl ?_
      refine g_bipush X (nI 61) 5 dX6_next_3 rfl (by decide +kernel) ?_
      refine g_icmp_ge X 8 27 dX6_next_5 rfl (by decide) (nI_leI (by omega) (by omega)) (fun h5 => absurd h5 (by omega)) (fun h5 => ?_)
      refine g_aload_n X 1 9 dX6_next_8 rfl rfl rfl ?_
      refine g_aload_n X 1 10 dX6_next_9 rfl rfl rfl ?_
      refine g_get X hiX6 0 0 13 rfl rfl (by decide) (List.mem_of_getElem? (i := 1) rfl) rfl dX6_next_10 rfl ?_
      refine g_iload_n X 0 14 dX6_next_13 rfl rfl rfl ?_
      refine g_iadd X (nI ((Sf 0) + j)) 15 dX6_next_14 rfl (nI_add _ _) ?_
      rw [show 61 - j = (61 - (j + 1)) + 1 by omega] at hnx
      refine g_sVi X okT trivial (m_X6_isFeast l D cI cZ cJ ma so wo ro fx sc wa ra fa nw nr nf S T st fe fo Sf C9 (Sf 0 + j) hf ho (by omega)) 18 0 0 [] rfl gX6_next_X6_isFeast rfl (n := 1) (by decide +kernel) rfl ⟨Nat.le_of_ble_eq_true rfl, Nat.le_of_ble_eq_true rfl⟩ (ci := 6) 0 rfl rfl rfl (Nat.le_of_ble_eq_true rfl) dX6_next_15 rfl (Nat.le_of_ble_eq_true rfl) (Nat.le_of_ble_eq_true rfl) ⟨(Nat.le_of_ble_eq_true rfl), (Nat.le_of_ble_eq_true rfl)⟩ (fun r9 u9 h9 => ?_)
      obtain ⟨rfl, rfl⟩ := h9
      refine g_eqw (ws' := ((ma, .inr (6, [.int (nI (Sf 0)), .int (nI (Sf 1)), .int (nI (Sf 2)), .int (nI (Sf 3)), .ref so, .ref wo, .ref ro, .ref fx])) :: (so, .inl (cJ, 12, refs (orf 12 sc))) :: (wo, .inl (cJ, nw, refs (orf nw wa))) :: (ro, .inl (cJ, nr, refs (orf nr ra))) :: (fx, .inl (cJ, nf, refs (orf nf fa))) :: sR cI sc wa ra fa nw nr nf S T st fe fo C9)) rfl ?_
      refine g_if_ne X 21 27 dX6_next_18 rfl (by decide) (bn_eq0 _) (fun hq => ?_) (fun hq => ?_)
      · refine g_iload_n X 0 28 dX6_next_27 rfl rfl rfl ?_
        refine g_bipush X (nI 61) 30 dX6_next_28 rfl (by decide +kernel) ?_
        refine g_icmp_ne X 33 37 dX6_next_30 rfl (by decide) (nI_eq (by omega) (by omega)) (fun h30 => ?_) (fun h30 => absurd h30 (by omega))
        refine g_iload_n X 0 38 dX6_next_37 rfl rfl rfl ?_
        refine g_eqi (y := nxF fe fo nf (Sf 0)) (by rw [hnx, nxR_t (by simpa using hq)]) ?_
        refine g_w (kc' := rm_X6_next.cells) (ks' := rm_X6_next.slots) (by have h9 : rm_X6_next.cells = 0 := rfl; omega) (by have h9 : rm_X6_next.slots = 0 := rfl; omega) ?_
        exact ret _ _ _ _ dX6_next_38 rfl ⟨rfl, rfl⟩
      · refine g_iinc X 0 (nI (j + 1)) [(1, .int (nI (j + 1))), (0, .ref ma)] 24 dX6_next_21 rfl rfl (nI_inc _) (by decide) rfl ?_
        refine g_goto X 2 dX6_next_24 (by decide) ?_
        exact ih_j (by rw [hnx, nxR_f hq])
  exact L 0 (Nat.zero_le _) rfl
