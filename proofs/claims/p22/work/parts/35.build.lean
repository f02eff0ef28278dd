/-! BUILD: a cathedral that cells choose, done to both -/
def fNS : (Nat → Prop) → State → Prop := fun _ U => va_Nw (.methodLinkNest RL 82 yX6_init RL) U
theorem ok_fNS : okF fNS := ⟨fun _ _ _ _ _ h => va_Nw.same rfl rfl h, fun _ _ _ _ _ _ h _ _ _ hW => va_Nw.warmM hW h⟩
def fB (sb L : Nat) (xs : Nat → Int32) : (Nat → Prop) → State → Prop := fun A U => fA A U ∧ fNS A U ∧ gSc sb L xs A U
theorem ok_fB (sb L : Nat) (xs : Nat → Int32) : okF (fB sb L xs) := ⟨fun A U g mk a h => ⟨ok_fA.1 A U g mk a h.1, ok_fNS.1 A U g mk a h.2.1, (okSc sb L xs).1 A U g mk a h.2.2⟩, fun A A1 s U H locs h hS hA hU hW => ⟨ok_fA.2 A A1 s U H locs h.1 hS hA hU hW, ok_fNS.2 A A1 s U H locs h.2.1 hS hA hU hW, (okSc sb L xs).2 A A1 s U H locs h.2.2 hS hA hU hW⟩⟩

abbrev rm_L_build : Room := { frames := 8, cells := 1600, slots := 5100, locals := 197 }
set_option maxHeartbeats 4000000 in
set_option maxRecDepth 100000 in
/-- a cathedral that cells choose -/
theorem m_L_build (l : Launch) (D : va_G) (cI cZ cJ : ClassId) (hfl : l.stackTraces = false) (ad : Nat → Nat) (sb L : Nat) (xs : Nat → Int32) (hL : L ≤ 260) : MRF (fB sb L xs) l yL_build wsL_build rm_L_build D (gT cI cZ cJ) ((gW ad cI cZ (fun _ => 0) (fun _ => 0) (fun _ => 0) (fun _ => 0) (fun _ => 0) 0 0 0)) [.ref (ad 0), .ref sb] (fun r u => ∃ (ma so wo ro fx : Nat) (sc wa ra fa : Nat → Nat) (nw nr nf : Nat) (S T st fe fo : Nat → Nat), IV S T st fe fo nw nr nf 252 ∧ r = ma ∧ u = ((ma, .inr (6, [.int (nI (S 0)), .int (nI (S 1)), .int (nI (S 2)), .int (nI (S 3)), .ref so, .ref wo, .ref ro, .ref fx])) :: (so, .inl (cJ, 12, refs (orf 12 sc))) :: (wo, .inl (cJ, nw, refs (orf nw wa))) :: (ro, .inl (cJ, nr, refs (orf nr ra))) :: (fx, .inl (cJ, nf, refs (orf nf fa))) :: sR cI sc wa ra fa nw nr nf S T st fe fo (gW ad cI cZ S T st fe fo nw nr nf))) := by
  refine MRF_of [(0, .ref (ad 0)), (1, .ref sb)] (by decide) (Or.inl ⟨_, rfl⟩) rfl (Nat.le_of_ble_eq_true rfl) rfl ?_
  intro p e s m args below meth c A Q X hF ret
  have hiX6 : ∀ w ∈ wsX60, w ∈ wsL_build := (fun _ h => List.mem_cons_of_mem _ (List.mem_append_left _ (List.mem_append_left _ (List.mem_append_left _ (List.mem_append_left _ (List.mem_append_left _ (List.mem_append_left _ (List.mem_append_left _ (List.mem_append_left _ (List.mem_append_left _ (List.mem_append_right _ h)))))))))))
  refine g_newo X 3 hiX6 tyX6 tyX6_ok (List.mem_of_getElem? (i := 1) rfl) (List.mem_of_getElem? (i := 2) rfl) (List.mem_of_getElem? (i := 3) rfl) (ci := 6) (fs := [.int 0, .int 0, .int 0, .int 0, .null, .null, .null, .null]) rfl (fun j9 hj9 => by rcases (show j9 = 0 ∨ j9 = 1 ∨ j9 = 2 ∨ j9 = 3 ∨ j9 = 4 ∨ j9 = 5 ∨ j9 = 6 ∨ j9 = 7 by omega) with rfl | rfl | rfl | rfl | rfl | rfl | rfl | rfl <;> rfl) (Nat.le_of_ble_eq_true rfl) (Nat.le_of_ble_eq_true rfl) dL_build_0 rfl (fun ma => ?_)
  refine g_dup X 4 dL_build_3 rfl rfl ?_
  refine g_sNv X ok_fAO hF.1.2 (m_X6_init l D cI cZ cJ ma (gW ad cI cZ (fun _ => 0) (fun _ => 0) (fun _ => 0) (fun _ => 0) (fun _ => 0) 0 0 0)) 7 17 116 [] rfl gL_build_X6_init_n82 rfl hF.2.1 (List.mem_of_getElem? (i := 3) rfl) (List.mem_of_getElem? (i := 4) rfl) rfl ⟨by decide, by decide, rfl⟩ ⟨Nat.le_of_ble_eq_true rfl, Nat.le_of_ble_eq_true rfl⟩ rfl (Nat.le_of_ble_eq_true rfl) dL_build_4 rfl (Nat.le_of_ble_eq_true rfl) (Nat.le_of_ble_eq_true rfl) ⟨(Nat.le_of_ble_eq_true rfl), (Nat.le_of_ble_eq_true rfl)⟩ (fun u9 h9 => ?_)
  obtain ⟨so, wo, ro, fx, sc, rfl⟩ := h9
  refine g_eqw (ws' := ((ma, .inr (6, [.int (nI ((fun _ => 0) 0)), .int (nI ((fun _ => 0) 1)), .int (nI ((fun _ => 0) 2)), .int (nI ((fun _ => 0) 3)), .ref so, .ref wo, .ref ro, .ref fx])) :: (so, .inl (cJ, 12, refs (orf 12 sc))) :: (wo, .inl (cJ, 0, refs (orf 0 (fun _ => 0)))) :: (ro, .inl (cJ, 0, refs (orf 0 (fun _ => 0)))) :: (fx, .inl (cJ, 0, refs (orf 0 (fun _ => 0)))) :: sR cI sc (fun _ => 0) (fun _ => 0) (fun _ => 0) 0 0 0 (fun _ => 0) (fun _ => 0) (fun _ => 0) (fun _ => 0) (fun _ => 0) (gW ad cI cZ (fun _ => 0) (fun _ => 0) (fun _ => 0) (fun _ => 0) (fun _ => 0) 0 0 0))) rfl ?_
  refine g_astore_n X [(2, .ref ma), (0, .ref (ad 0)), (1, .ref sb)] 8 dL_build_7 rfl rfl (by decide) rfl ?_
  refine g_bipush X (nI 24) 10 dL_build_8 rfl (by decide +kernel) ?_
  refine g_aload_n X 2 11 dL_build_10 rfl rfl rfl ?_
  refine g_iconst X (nI 0) 12 dL_build_11 rfl (by decide +kernel) ?_
  refine g_s0i X (okSc sb L xs) hF.2.2 (m_L_cell l D cI cZ cJ sb L xs 0 hL (by omega)) 15 17 116 gL_build_L_cell rfl (n := 2) (by decide +kernel) rfl ⟨Nat.le_of_ble_eq_true rfl, Nat.le_of_ble_eq_true rfl⟩ rfl (Nat.le_of_ble_eq_true rfl) dL_build_12 rfl (Nat.le_refl _) (Nat.le_refl _) ⟨(Nat.le_of_ble_eq_true rfl), (Nat.le_of_ble_eq_true rfl)⟩ (fun cx u9 h9 => ?_)
  refine g_bipush X (nI 40) 17 dL_build_15 rfl (by decide +kernel) ?_
  refine g_s0i X okT trivial (m_L_below l D cI cZ cJ (cx) 40 (by omega) (by omega)) 20 17 116 gL_build_L_below rfl (n := 2) (by decide +kernel) rfl ⟨Nat.le_of_ble_eq_true rfl, Nat.le_of_ble_eq_true rfl⟩ rfl (Nat.le_of_ble_eq_true rfl) dL_build_17 rfl (Nat.le_refl _) (Nat.le_refl _) ⟨(Nat.le_of_ble_eq_true rfl), (Nat.le_of_ble_eq_true rfl)⟩ (fun r9 u9 h9 => ?_)
  obtain ⟨rfl, -⟩ := h9
  refine g_iadd X (nI (24 + (bw (cx) 40))) 21 dL_build_20 rfl (nI_add _ _) ?_
  obtain ⟨nn, hnn, hb63⟩ : ∃ nn : Nat, 24 + bw cx 40 = nn ∧ nn ≤ 63 := ⟨_, rfl, by have := bw_lt (v := cx) (n := 40) (by decide); omega⟩
  refine g_eqi (y := nI nn) (congrArg nI hnn) ?_
  refine g_istore_n X [(3, .int (nI nn)), (2, .ref ma), (0, .ref (ad 0)), (1, .ref sb)] 22 dL_build_21 rfl rfl (by decide) rfl ?_
  refine g_iconst X (nI 0) 23 dL_build_22 rfl (by decide +kernel) ?_
  refine g_istore X [(4, .int (nI 0)), (3, .int (nI nn)), (2, .ref ma), (0, .ref (ad 0)), (1, .ref sb)] 25 dL_build_23 rfl (by decide) rfl ?_
  refine g_lv (lv' := [(4, .int (nI 0)), (3, .int (nI nn)), (2, .ref ma), (1, .ref sb), (0, .ref (ad 0))]) [0, 1, 2, 4, 3] rfl ?_
  have L1 : ∀ j : Nat, j ≤ nn → ∀ (wo ro fx : Nat) (wa ra fa : Nat → Nat) (nw nr nf : Nat) (S T st fe fo : Nat → Nat), IV S T st fe fo nw nr nf (j * 4) → G p l e rm_L_build s m args below meth c Q D A 5 (j * 25 + 17) (j * 78 + 116) ((ma, .inr (6, [.int (nI (S 0)), .int (nI (S 1)), .int (nI (S 2)), .int (nI (S 3)), .ref so, .ref wo, .ref ro, .ref fx])) :: (so, .inl (cJ, 12, refs (orf 12 sc))) :: (wo, .inl (cJ, nw, refs (orf nw wa))) :: (ro, .inl (cJ, nr, refs (orf nr ra))) :: (fx, .inl (cJ, nf, refs (orf nf fa))) :: sR cI sc wa ra fa nw nr nf S T st fe fo (gW ad cI cZ S T st fe fo nw nr nf)) [(4, .int (nI j)), (3, .int (nI nn)), (2, .ref ma), (1, .ref sb), (0, .ref (ad 0))] 25 [] := by
    refine g_down _ ?_ ?_
    · intro wo ro fx wa ra fa nw nr nf S T st fe fo hI
      refine g_iload X 0 27 dL_build_25 rfl rfl ?_
      refine g_iload_n X 1 28 dL_build_27 rfl rfl rfl ?_
      refine g_icmp_ge X 31 71 dL_build_28 rfl (by decide) (nI_leI (by omega) (by omega)) (fun h28 => ?_) (fun h28 => absurd (Nat.le_refl _) h28)
      refine g_aload_n X 2 72 dL_build_71 rfl rfl rfl ?_
      refine g_w (kc' := rm_L_build.cells) (ks' := rm_L_build.slots) (by have h9 : rm_L_build.cells = 1600 := rfl; omega) (by have h9 : rm_L_build.slots = 5100 := rfl; omega) ?_
      exact ret _ _ _ _ dL_build_72 ⟨ma, so, wo, ro, fx, sc, wa, ra, fa, nw, nr, nf, S, T, st, fe, fo, iv_w hI (by omega), rfl, rfl⟩
    · intro j hj ih_j wo ro fx wa ra fa nw nr nf S T st fe fo hI
      refine g_iload X 0 27 dL_build_25 rfl rfl ?_
      refine g_iload_n X 1 28 dL_build_27 rfl rfl rfl ?_
      refine g_icmp_ge X 31 71 dL_build_28 rfl (by decide) (nI_leI (by omega) (by omega)) (fun h28 => absurd h28 (by omega)) (fun h28 => ?_)
      refine g_aload_n X 4 32 dL_build_31 rfl rfl rfl ?_
      refine g_aload_n X 2 33 dL_build_32 rfl rfl rfl ?_
      refine g_aload_n X 3 34 dL_build_33 rfl rfl rfl ?_
      refine g_iload X 0 36 dL_build_34 rfl rfl ?_
      refine g_bipush X (nI 16) 38 dL_build_36 rfl (by decide +kernel) ?_
      refine g_irem X (nI (j % 16)) 39 dL_build_38 rfl (nI_ne0 (by omega) (by omega)) (pk_rem (by omega) (by omega) (by omega)) ?_
      refine g_s0i X (okSc sb L xs) hF.2.2 (m_L_cell l D cI cZ cJ sb L xs (j % 16) hL (by omega)) 42 (j * 25 + 17) (j * 78 + 116) gL_build_L_cell rfl (n := 2) (by decide +kernel) rfl ⟨Nat.le_of_ble_eq_true rfl, Nat.le_of_ble_eq_true rfl⟩ rfl (Nat.le_of_ble_eq_true rfl) dL_build_39 rfl (Nat.le_refl _) (Nat.le_refl _) ⟨(by have h9 : rm_L_build.cells = 1600 := rfl; omega), (by have h9 : rm_L_build.slots = 5100 := rfl; omega)⟩ (fun cx u9 h9 => ?_)
      refine g_iload X 0 44 dL_build_42 rfl rfl ?_
      refine g_bipush X (nI 16) 46 dL_build_44 rfl (by decide +kernel) ?_
      refine g_idiv X (nI (j / 16)) 47 dL_build_46 rfl (nI_ne0 (by omega) (by omega)) (pk_div (by omega) (by omega) (by omega)) ?_
      refine g_iconst X (nI 3) 48 dL_build_47 rfl (by decide +kernel) ?_
      refine g_imul X (nI ((j / 16) * 3)) 49 dL_build_48 rfl (pk_mul _ _) ?_
      refine g_ishr X 50 dL_build_49 rfl ?_
      refine g_sipush X (nI 491) 53 dL_build_50 rfl (by decide +kernel) ?_
      refine g_iload X 0 55 dL_build_53 rfl rfl ?_
      refine g_imul X (nI (491 * j)) 56 dL_build_55 rfl (pk_mul _ _) ?_
      refine g_iadd X ((cx >>> ((nI ((j / 16) * 3)) &&& 31)) + (nI (491 * j))) 57 dL_build_56 rfl rfl ?_
      refine g_sSi X ok_fA hF.1 (m_L_act l D cI cZ cJ hfl ma so wo ro fx sc wa ra fa nw nr nf (j * 4) S T st fe fo ad ((cx >>> ((nI ((j / 16) * 3)) &&& 31)) + (nI (491 * j))) hI (by omega)) 60 (j * 25 + 42) (j * 78 + 194) [] rfl gL_build_L_act rfl (n := 3) (by decide +kernel) rfl ⟨Nat.le_of_ble_eq_true rfl, Nat.le_of_ble_eq_true rfl⟩ rfl (Nat.le_of_ble_eq_true rfl) dL_build_57 rfl (by have h9 : rm_L_act.cells = 25 := rfl; omega) (by have h9 : rm_L_act.slots = 78 := rfl; omega) ⟨(by have h9 : rm_L_build.cells = 1600 := rfl; omega), (by have h9 : rm_L_build.slots = 5100 := rfl; omega)⟩ (fun r9 u9 h9 => ?_)
      obtain ⟨rfl, wo, ro, fx, wa, ra, fa, nw, nr, nf, S, T, st, fe, fo, hI, rfl⟩ := h9
      refine g_eqw (ws' := ((ma, .inr (6, [.int (nI (S 0)), .int (nI (S 1)), .int (nI (S 2)), .int (nI (S 3)), .ref so, .ref wo, .ref ro, .ref fx])) :: (so, .inl (cJ, 12, refs (orf 12 sc))) :: (wo, .inl (cJ, nw, refs (orf nw wa))) :: (ro, .inl (cJ, nr, refs (orf nr ra))) :: (fx, .inl (cJ, nf, refs (orf nf fa))) :: sR cI sc wa ra fa nw nr nf S T st fe fo (gW ad cI cZ S T st fe fo nw nr nf))) rfl ?_
      refine g_if_ne X 63 65 dL_build_60 rfl (by decide) (nz_eq (by omega)) (fun h60 => ?_) (fun h60 => absurd h60 (by decide))
      refine g_iinc X 0 (nI (j + 1)) [(4, .int (nI (j + 1))), (3, .int (nI nn)), (2, .ref ma), (1, .ref sb), (0, .ref (ad 0))] 68 dL_build_65 rfl rfl (nI_inc _) (by decide) rfl ?_
      refine g_goto X 25 dL_build_68 (by decide) ?_
      refine g_w (kc' := ((j + 1) * 25 + 17)) (ks' := ((j + 1) * 78 + 116)) (by omega) (by omega) ?_
      exact ih_j wo ro fx wa ra fa nw nr nf S T st fe fo (iv_w hI (by omega))
  exact L1 0 (Nat.zero_le _) wo ro fx (fun _ => 0) (fun _ => 0) (fun _ => 0) 0 0 0 (fun _ => 0) (fun _ => 0) (fun _ => 0) (fun _ => 0) (fun _ => 0) iv_0
