/-! THE GLASS -/

abbrev rm_X2_at : Room := { frames := 0, cells := 0, slots := 0, locals := 0 }
set_option maxHeartbeats 4000000 in
set_option maxRecDepth 100000 in
/-- Glass.at: the soot there -/
theorem m_X2_at (l : Launch) (D : va_G) (cI cZ cJ : ClassId) (g a co ro : Nat) (S : Nat → Nat) (hc : co < 12) (hr : ro < 8) : MI l yX2_at wsX2_at rm_X2_at D (gT cI cZ cJ) [(g, .inr (2, [.ref a])), (a, .inl (cI, 96, .inl (vs S)))] [.ref g, .int (nI co), .int (nI ro)] (fun r u => r = nI (S (4 + (co * 8 + ro))) ∧ u = [(g, .inr (2, [.ref a])), (a, .inl (cI, 96, .inl (vs S)))]) := by
  refine MI_of [(0, .ref g), (1, .int (nI co)), (2, .int (nI ro))] (by decide) rfl (Nat.le_of_ble_eq_true rfl) rfl ?_
  intro p e s m args below meth c A Q X ret
  have hiX2 : ∀ w ∈ wsX20, w ∈ wsX2_at := (fun _ h => List.mem_cons_of_mem _ (List.mem_append_right _ h))
  refine g_aload_n X 0 1 dX2_at_0 rfl rfl rfl ?_
  refine g_get X hiX2 0 0 4 rfl rfl (by decide) (List.mem_of_getElem? (i := 1) rfl) rfl dX2_at_1 rfl ?_
  refine g_iload_n X 1 5 dX2_at_4 rfl rfl rfl ?_
  refine g_bipush X (nI 8) 7 dX2_at_5 rfl (by decide +kernel) ?_
  refine g_imul X (nI (co * 8)) 8 dX2_at_7 rfl (pk_mul _ _) ?_
  refine g_iload_n X 2 9 dX2_at_8 rfl rfl rfl ?_
  refine g_iadd X (nI ((co * 8) + ro)) 10 dX2_at_9 rfl (nI_add _ _) ?_
  refine g_iald X 1 0 ((co * 8) + ro) (nI (S (4 + (co * 8 + ro)))) 11 rfl rfl (by omega) (by decide) (vs_at (by omega)) dX2_at_10 rfl ?_
  exact ret _ _ _ _ dX2_at_11 rfl ⟨rfl, rfl⟩

abbrev rm_X2_broughtTo : Room := { frames := 1, cells := 0, slots := 0, locals := 21 }
set_option maxHeartbeats 4000000 in
set_option maxRecDepth 100000 in
/-- what the wind brings -/
theorem m_X2_broughtTo (l : Launch) (D : va_G) (cI cZ cJ : ClassId) (co wd : Nat) (hc : co < 12) (hw : windOk wd) : MI l yX2_broughtTo wsX2_broughtTo rm_X2_broughtTo D (gT cI cZ cJ) [] [.int (nI co), .int (nI wd)] (fun r u => r = nI (bl wd co) ∧ u = []) := by
  refine MI_of [(0, .int (nI co)), (1, .int (nI wd))] (by decide) rfl (Nat.le_of_ble_eq_true rfl) rfl ?_
  intro p e s m args below meth c A Q X ret
  refine g_iload_n X 1 1 dX2_broughtTo_0 rfl rfl rfl ?_
  refine g_if_lt X 4 12 dX2_broughtTo_1 rfl (by decide) (wd_lt hw) (fun h => ?_) (fun h => ?_)
  · refine g_iload_n X 1 13 dX2_broughtTo_12 rfl rfl rfl ?_
    refine g_ineg X 14 dX2_broughtTo_13 rfl ?_
    refine g_eqi (y := nI (2 ^ 32 - wd)) (nI_neg (by unfold windOk at hw; omega)) ?_
    refine g_bipush X (nI 11) 16 dX2_broughtTo_14 rfl (by decide +kernel) ?_
    refine g_iload_n X 0 17 dX2_broughtTo_16 rfl rfl rfl ?_
    refine g_isub X (nI (11 - co)) 18 dX2_broughtTo_17 rfl (pk_sub (by omega)) ?_
    refine g_iconst X (nI 2) 19 dX2_broughtTo_18 rfl (by decide +kernel) ?_
    refine g_idiv X (nI ((11 - co) / 2)) 20 dX2_broughtTo_19 rfl (nI_ne0 (by omega) (by omega)) (pk_div (by omega) (by omega) (by omega)) ?_
    refine g_isub X ((nI (2 ^ 32 - wd)) - (nI ((11 - co) / 2))) 21 dX2_broughtTo_20 rfl rfl ?_
    refine g_istore_n X [(2, .int ((nI (2 ^ 32 - wd)) - (nI ((11 - co) / 2)))), (0, .int (nI co)), (1, .int (nI wd))] 22 dX2_broughtTo_21 rfl rfl (by decide) rfl ?_
    refine g_iconst X (nI 0) 23 dX2_broughtTo_22 rfl (by decide +kernel) ?_
    refine g_iload_n X 0 24 dX2_broughtTo_23 rfl rfl rfl ?_
    refine g_max X (nI (bl wd co)) 27 (List.mem_of_getElem? (i := 1) rfl) (List.mem_of_getElem? (i := 2) rfl) (List.mem_of_getElem? (i := 3) rfl) (List.mem_of_getElem? (i := 4) rfl) (Nat.le_of_ble_eq_true rfl) (Nat.le_of_ble_eq_true rfl) (Nat.zero_le _) (Nat.zero_le _) (by rw [bl, if_neg h]; exact nI_max0 (by unfold windOk at hw; omega) (by omega)) dX2_broughtTo_24 rfl ?_
    exact ret _ _ _ _ dX2_broughtTo_27 rfl ⟨rfl, rfl⟩
  · refine g_iload_n X 1 5 dX2_broughtTo_4 rfl rfl rfl ?_
    refine g_iload_n X 0 6 dX2_broughtTo_5 rfl rfl rfl ?_
    refine g_iconst X (nI 2) 7 dX2_broughtTo_6 rfl (by decide +kernel) ?_
    refine g_idiv X (nI (co / 2)) 8 dX2_broughtTo_7 rfl (nI_ne0 (by omega) (by omega)) (pk_div (by omega) (by omega) (by omega)) ?_
    refine g_isub X ((nI wd) - (nI (co / 2))) 9 dX2_broughtTo_8 rfl rfl ?_
    refine g_goto X 21 dX2_broughtTo_9 (by decide) ?_
    refine g_istore_n X [(2, .int ((nI wd) - (nI (co / 2)))), (0, .int (nI co)), (1, .int (nI wd))] 22 dX2_broughtTo_21 rfl rfl (by decide) rfl ?_
    refine g_iconst X (nI 0) 23 dX2_broughtTo_22 rfl (by decide +kernel) ?_
    refine g_iload_n X 0 24 dX2_broughtTo_23 rfl rfl rfl ?_
    have h9 : wd ≤ 5 := by omega
    refine g_max X (nI (bl wd co)) 27 (List.mem_of_getElem? (i := 1) rfl) (List.mem_of_getElem? (i := 2) rfl) (List.mem_of_getElem? (i := 3) rfl) (List.mem_of_getElem? (i := 4) rfl) (Nat.le_of_ble_eq_true rfl) (Nat.le_of_ble_eq_true rfl) (Nat.zero_le _) (Nat.zero_le _) (by rw [bl, if_pos h9]; exact nI_max0 (by omega) (by omega)) dX2_broughtTo_24 rfl ?_
    exact ret _ _ _ _ dX2_broughtTo_27 rfl ⟨rfl, rfl⟩

abbrev rm_X2_gather : Room := { frames := 2, cells := 0, slots := 0, locals := 43 }
set_option maxHeartbeats 4000000 in
set_option maxRecDepth 100000 in
/-- a day's soot -/
theorem m_X2_gather (l : Launch) (D : va_G) (cI cZ cJ : ClassId) (g a : Nat) (S : Nat → Nat) (hs : sootOk S) (hw : windOk (S 1)) : MV l yX2_gather wsX2_gather rm_X2_gather D (gT cI cZ cJ) [(g, .inr (2, [.ref a])), (a, .inl (cI, 96, .inl (vs S)))] [.ref g, .int (nI (S 1))] (fun u => u = [(g, .inr (2, [.ref a])), (a, .inl (cI, 96, .inl (vs (gt S))))]) := by
  refine MV_of [(0, .ref g), (1, .int (nI (S 1)))] (by decide) rfl (Nat.le_of_ble_eq_true rfl) rfl ?_
  intro p e s m args below meth c A Q X ret
  have hiX2 : ∀ w ∈ wsX20, w ∈ wsX2_gather := (fun _ h => List.mem_cons_of_mem _ (List.mem_append_right _ h))
  refine g_iconst X (nI 0) 1 dX2_gather_0 rfl (by decide +kernel) ?_
  refine g_istore_n X [(2, .int (nI 0)), (0, .ref g), (1, .int (nI (S 1)))] 2 dX2_gather_1 rfl rfl (by decide) rfl ?_
  have L : ∀ i : Nat, i ≤ 12 → G p l e rm_X2_gather s m args below meth c Q D A 6 0 0 [(g, .inr (2, [.ref a])), (a, .inl (cI, 96, .inl (vs (gtU (i * 8) S))))] [(2, .int (nI i)), (0, .ref g), (1, .int (nI (S 1)))] 2 [] := by
    refine g_down _ ?_ ?_
    · refine g_iload_n X 0 3 dX2_gather_2 rfl rfl rfl ?_
      refine g_bipush X (nI 12) 5 dX2_gather_3 rfl (by decide +kernel) ?_
      refine g_icmp_ge X 8 68 dX2_gather_5 rfl (by decide) (nI_leI (by omega) (by omega)) (fun h5 => ?_) (fun h5 => absurd (Nat.le_refl _) h5)
      exact ret _ _ _ dX2_gather_68 rfl
    · intro i hi ih_i 
      refine g_iload_n X 0 3 dX2_gather_2 rfl rfl rfl ?_
      refine g_bipush X (nI 12) 5 dX2_gather_3 rfl (by decide +kernel) ?_
      refine g_icmp_ge X 8 68 dX2_gather_5 rfl (by decide) (nI_leI (by omega) (by omega)) (fun h5 => absurd h5 (by omega)) (fun h5 => ?_)
      refine g_iconst X (nI 1) 9 dX2_gather_8 rfl (by decide +kernel) ?_
      refine g_iload_n X 0 10 dX2_gather_9 rfl rfl rfl ?_
      refine g_iload_n X 2 11 dX2_gather_10 rfl rfl rfl ?_
      refine g_callSi (ws' := [(g, .inr (2, [.ref a])), (a, .inl (cI, 96, .inl (vs (gtU (i * 8) S))))]) X (m_X2_broughtTo l D cI cZ cJ i (S 1) hi hw) 14 [] gX2_gather_X2_broughtTo (n := 2) rfl (by decide +kernel) rfl ⟨Nat.le_of_ble_eq_true rfl, Nat.le_of_ble_eq_true rfl⟩ rfl (Nat.le_of_ble_eq_true rfl) rfl (by decide +kernel) rfl rfl dX2_gather_11 rfl ⟨Nat.le_of_ble_eq_true rfl, Nat.le_of_ble_eq_true rfl⟩ ?_
      refine g_iadd X (nI (1 + (bl (S 1) i))) 15 dX2_gather_14 rfl (nI_add _ _) ?_
      refine g_istore_n X [(3, .int (nI (1 + (bl (S 1) i)))), (2, .int (nI i)), (0, .ref g), (1, .int (nI (S 1)))] 16 dX2_gather_15 rfl rfl (by decide) rfl ?_
      refine g_iconst X (nI 0) 17 dX2_gather_16 rfl (by decide +kernel) ?_
      refine g_istore X [(4, .int (nI 0)), (3, .int (nI (1 + (bl (S 1) i)))), (2, .int (nI i)), (0, .ref g), (1, .int (nI (S 1)))] 19 dX2_gather_17 rfl (by decide) rfl ?_
      have M : ∀ j : Nat, j ≤ 8 → G p l e rm_X2_gather s m args below meth c Q D A 6 0 0 [(g, .inr (2, [.ref a])), (a, .inl (cI, 96, .inl (vs (gtU (i * 8 + j) S))))] [(4, .int (nI j)), (3, .int (nI (1 + bl (S 1) i))), (2, .int (nI i)), (0, .ref g), (1, .int (nI (S 1)))] 19 [] := by
        refine g_down _ ?_ ?_
        · refine g_iload X 0 21 dX2_gather_19 rfl rfl ?_
          refine g_bipush X (nI 8) 23 dX2_gather_21 rfl (by decide +kernel) ?_
          refine g_icmp_ge X 26 62 dX2_gather_23 rfl (by decide) (nI_leI (by omega) (by omega)) (fun h23 => ?_) (fun h23 => absurd (Nat.le_refl _) h23)
          refine g_iinc X 2 (nI (i + 1)) [(2, .int (nI (i + 1))), (4, .int (nI 8)), (3, .int (nI (1 + bl (S 1) i))), (0, .ref g), (1, .int (nI (S 1)))] 65 dX2_gather_62 rfl rfl (nI_inc _) (by decide) rfl ?_
          refine g_goto X 2 dX2_gather_65 (by decide) ?_
          refine g_lv (lv' := [(2, .int (nI (i + 1))), (0, .ref g), (1, .int (nI (S 1)))]) [0, 3, 4] rfl ?_
          exact (by rw [show (i + 1) * 8 = i * 8 + 8 by omega] at ih_i; exact ih_i)
        · intro j hj ih_j 
          refine g_iload X 0 21 dX2_gather_19 rfl rfl ?_
          refine g_bipush X (nI 8) 23 dX2_gather_21 rfl (by decide +kernel) ?_
          refine g_icmp_ge X 26 62 dX2_gather_23 rfl (by decide) (nI_leI (by omega) (by omega)) (fun h23 => absurd h23 (by omega)) (fun h23 => ?_)
          have hb := bl_le (c := i) hw
          have h20 := hs (i * 8 + j) (by omega)
          refine g_iload_n X 2 27 dX2_gather_26 rfl rfl rfl ?_
          refine g_bipush X (nI 8) 29 dX2_gather_27 rfl (by decide +kernel) ?_
          refine g_imul X (nI (i * 8)) 30 dX2_gather_29 rfl (pk_mul _ _) ?_
          refine g_iload X 0 32 dX2_gather_30 rfl rfl ?_
          refine g_iadd X (nI ((i * 8) + j)) 33 dX2_gather_32 rfl (nI_add _ _) ?_
          refine g_istore X [(5, .int (nI ((i * 8) + j))), (4, .int (nI j)), (3, .int (nI (1 + bl (S 1) i))), (2, .int (nI i)), (0, .ref g), (1, .int (nI (S 1)))] 35 dX2_gather_33 rfl (by decide) rfl ?_
          refine g_aload_n X 4 36 dX2_gather_35 rfl rfl rfl ?_
          refine g_get X hiX2 0 0 39 rfl rfl (by decide) (List.mem_of_getElem? (i := 1) rfl) rfl dX2_gather_36 rfl ?_
          refine g_iload X 0 41 dX2_gather_39 rfl rfl ?_
          refine g_bipush X (nI 20) 43 dX2_gather_41 rfl (by decide +kernel) ?_
          refine g_aload_n X 4 44 dX2_gather_43 rfl rfl rfl ?_
          refine g_get X hiX2 0 0 47 rfl rfl (by decide) (List.mem_of_getElem? (i := 1) rfl) rfl dX2_gather_44 rfl ?_
          refine g_iload X 0 49 dX2_gather_47 rfl rfl ?_
          refine g_iald X 1 0 ((i * 8) + j) (nI (S (4 + (i * 8 + j)))) 50 rfl rfl (by omega) (by decide) ((vs_at (by omega)).trans (congrArg nI (gtU_hi (by omega)))) dX2_gather_49 rfl ?_
          refine g_iload_n X 2 51 dX2_gather_50 rfl rfl rfl ?_
          refine g_iadd X (nI ((S (4 + (i * 8 + j))) + (1 + bl (S 1) i))) 52 dX2_gather_51 rfl (nI_add _ _) ?_
          refine g_min X (nI (min 20 (S (4 + (i * 8 + j)) + (1 + bl (S 1) i)))) 55 (List.mem_of_getElem? (i := 2) rfl) (List.mem_of_getElem? (i := 3) rfl) (List.mem_of_getElem? (i := 4) rfl) (List.mem_of_getElem? (i := 5) rfl) (Nat.le_of_ble_eq_true rfl) (Nat.le_of_ble_eq_true rfl) (Nat.zero_le _) (Nat.zero_le _) (nI_min (by omega) (by omega)) dX2_gather_52 rfl ?_
          refine g_iast (ws' := [(g, .inr (2, [.ref a])), (a, .inl (cI, 96, .inl (vs (gtU (i * 8 + (j + 1)) S))))]) X 1 0 ((i * 8) + j) (vs (gtU (i * 8 + (j + 1)) S)) 56 rfl rfl (by omega) (by decide) ((vs_up (by omega)).trans (congrArg vs (gtU_s9 (by omega)))) dX2_gather_55 rfl rfl ?_
          refine g_iinc X 1 (nI (j + 1)) [(4, .int (nI (j + 1))), (5, .int (nI ((i * 8) + j))), (3, .int (nI (1 + bl (S 1) i))), (2, .int (nI i)), (0, .ref g), (1, .int (nI (S 1)))] 59 dX2_gather_56 rfl rfl (nI_inc _) (by decide) rfl ?_
          refine g_goto X 19 dX2_gather_59 (by decide) ?_
          refine g_lv (lv' := [(4, .int (nI (j + 1))), (3, .int (nI (1 + bl (S 1) i))), (2, .int (nI i)), (0, .ref g), (1, .int (nI (S 1)))]) [0, 2, 3, 4, 5] rfl ?_
          exact ih_j
      exact M 0 (Nat.zero_le _)
  have L0 := L 0 (Nat.zero_le _)
  rw [show 0 * 8 = 0 from rfl, gtU_0] at L0
  exact L0

abbrev rm_X2_takeOff : Room := { frames := 1, cells := 0, slots := 0, locals := 21 }
set_option maxHeartbeats 4000000 in
set_option maxRecDepth 100000 in
/-- takes off what is there, no more than t -/
theorem m_X2_takeOff (l : Launch) (D : va_G) (cI cZ cJ : ClassId) (g a co ro t : Nat) (S : Nat → Nat) (hc : co < 12) (hr : ro < 8) (hs : sootOk S) (ht : t < 2 ^ 30) : MI l yX2_takeOff wsX2_takeOff rm_X2_takeOff D (gT cI cZ cJ) [(g, .inr (2, [.ref a])), (a, .inl (cI, 96, .inl (vs S)))] [.ref g, .int (nI co), .int (nI ro), .int (nI t)] (fun r u => r = nI (min t (S (4 + (co * 8 + ro)))) ∧ u = [(g, .inr (2, [.ref a])), (a, .inl (cI, 96, .inl (vs (up S (4 + (co * 8 + ro)) (S (4 + (co * 8 + ro)) - min t (S (4 + (co * 8 + ro))))))))]) := by
  refine MI_of [(0, .ref g), (1, .int (nI co)), (2, .int (nI ro)), (3, .int (nI t))] (by decide) rfl (Nat.le_of_ble_eq_true rfl) rfl ?_
  intro p e s m args below meth c A Q X ret
  have hiX2 : ∀ w ∈ wsX20, w ∈ wsX2_takeOff := (fun _ h => List.mem_cons_of_mem _ (List.mem_append_right _ h))
  have h20 := hs (co * 8 + ro) (by omega)
  refine g_iload_n X 1 1 dX2_takeOff_0 rfl rfl rfl ?_
  refine g_bipush X (nI 8) 3 dX2_takeOff_1 rfl (by decide +kernel) ?_
  refine g_imul X (nI (co * 8)) 4 dX2_takeOff_3 rfl (pk_mul _ _) ?_
  refine g_iload_n X 2 5 dX2_takeOff_4 rfl rfl rfl ?_
  refine g_iadd X (nI ((co * 8) + ro)) 6 dX2_takeOff_5 rfl (nI_add _ _) ?_
  refine g_istore X [(4, .int (nI ((co * 8) + ro))), (0, .ref g), (1, .int (nI co)), (2, .int (nI ro)), (3, .int (nI t))] 8 dX2_takeOff_6 rfl (by decide) rfl ?_
  refine g_iload_n X 4 9 dX2_takeOff_8 rfl rfl rfl ?_
  refine g_aload_n X 1 10 dX2_takeOff_9 rfl rfl rfl ?_
  refine g_get X hiX2 0 0 13 rfl rfl (by decide) (List.mem_of_getElem? (i := 1) rfl) rfl dX2_takeOff_10 rfl ?_
  refine g_iload X 0 15 dX2_takeOff_13 rfl rfl ?_
  refine g_iald X 1 0 ((co * 8) + ro) (nI (S (4 + (co * 8 + ro)))) 16 rfl rfl (by omega) (by decide) (vs_at (by omega)) dX2_takeOff_15 rfl ?_
  refine g_min X (nI (min t (S (4 + (co * 8 + ro))))) 19 (List.mem_of_getElem? (i := 2) rfl) (List.mem_of_getElem? (i := 3) rfl) (List.mem_of_getElem? (i := 4) rfl) (List.mem_of_getElem? (i := 5) rfl) (Nat.le_of_ble_eq_true rfl) (Nat.le_of_ble_eq_true rfl) (Nat.zero_le _) (Nat.zero_le _) (nI_min (by omega) (by omega)) dX2_takeOff_16 rfl ?_
  refine g_istore X [(5, .int (nI (min t (S (4 + (co * 8 + ro)))))), (4, .int (nI ((co * 8) + ro))), (0, .ref g), (1, .int (nI co)), (2, .int (nI ro)), (3, .int (nI t))] 21 dX2_takeOff_19 rfl (by decide) rfl ?_
  refine g_aload_n X 2 22 dX2_takeOff_21 rfl rfl rfl ?_
  refine g_get X hiX2 0 0 25 rfl rfl (by decide) (List.mem_of_getElem? (i := 1) rfl) rfl dX2_takeOff_22 rfl ?_
  refine g_iload X 1 27 dX2_takeOff_25 rfl rfl ?_
  refine g_dup2 X 28 dX2_takeOff_27 rfl rfl rfl ?_
  refine g_iald X 1 0 ((co * 8) + ro) (nI (S (4 + (co * 8 + ro)))) 29 rfl rfl (by omega) (by decide) (vs_at (by omega)) dX2_takeOff_28 rfl ?_
  refine g_iload X 0 31 dX2_takeOff_29 rfl rfl ?_
  refine g_isub X (nI ((S (4 + (co * 8 + ro))) - (min t (S (4 + (co * 8 + ro)))))) 32 dX2_takeOff_31 rfl (pk_sub (by omega)) ?_
  refine g_iast (ws' := [(g, .inr (2, [.ref a])), (a, .inl (cI, 96, .inl (vs (up S (4 + (co * 8 + ro)) (S (4 + (co * 8 + ro)) - min t (S (4 + (co * 8 + ro))))))))]) X 1 0 ((co * 8) + ro) (vs (up S (4 + (co * 8 + ro)) (S (4 + (co * 8 + ro)) - min t (S (4 + (co * 8 + ro)))))) 33 rfl rfl (by omega) (by decide) (vs_up (by omega)) dX2_takeOff_32 rfl rfl ?_
  refine g_iload X 0 35 dX2_takeOff_33 rfl rfl ?_
  exact ret _ _ _ _ dX2_takeOff_35 rfl ⟨rfl, rfl⟩

abbrev rm_X2_total : Room := { frames := 0, cells := 0, slots := 0, locals := 0 }
set_option maxHeartbeats 4000000 in
set_option maxRecDepth 100000 in
/-- all soot -/
theorem m_X2_total (l : Launch) (D : va_G) (cI cZ cJ : ClassId) (g a : Nat) (S : Nat → Nat)  : MI l yX2_total wsX2_total rm_X2_total D (gT cI cZ cJ) [(g, .inr (2, [.ref a])), (a, .inl (cI, 96, .inl (vs S)))] [.ref g] (fun r u => r = nI (allS S) ∧ u = [(g, .inr (2, [.ref a])), (a, .inl (cI, 96, .inl (vs S)))]) := by
  refine MI_of [(0, .ref g)] (by decide) rfl (Nat.le_of_ble_eq_true rfl) rfl ?_
  intro p e s m args below meth c A Q X ret
  have hiX2 : ∀ w ∈ wsX20, w ∈ wsX2_total := (fun _ h => List.mem_cons_of_mem _ (List.mem_append_right _ h))
  refine g_iconst X (nI 0) 1 dX2_total_0 rfl (by decide +kernel) ?_
  refine g_istore_n X [(1, .int (nI 0)), (0, .ref g)] 2 dX2_total_1 rfl rfl (by decide) rfl ?_
  refine g_iconst X (nI 0) 3 dX2_total_2 rfl (by decide +kernel) ?_
  refine g_istore_n X [(2, .int (nI 0)), (1, .int (nI 0)), (0, .ref g)] 4 dX2_total_3 rfl rfl (by decide) rfl ?_
  have L : ∀ j : Nat, j ≤ 96 → G p l e rm_X2_total s m args below meth c Q D A 3 0 0 [(g, .inr (2, [.ref a])), (a, .inl (cI, 96, .inl (vs S)))] [(2, .int (nI j)), (1, .int (nI (sm (fun k => S (4 + k)) j))), (0, .ref g)] 4 [] := by
    refine g_down _ ?_ ?_
    · refine g_iload_n X 0 5 dX2_total_4 rfl rfl rfl ?_
      refine g_bipush X (nI 96) 7 dX2_total_5 rfl (by decide +kernel) ?_
      refine g_icmp_ge X 10 25 dX2_total_7 rfl (by decide) (nI_leI (by omega) (by omega)) (fun h7 => ?_) (fun h7 => absurd (Nat.le_refl _) h7)
      refine g_iload_n X 1 26 dX2_total_25 rfl rfl rfl ?_
      exact ret _ _ _ _ dX2_total_26 rfl ⟨rfl, rfl⟩
    · intro j hj ih_j 
      refine g_iload_n X 0 5 dX2_total_4 rfl rfl rfl ?_
      refine g_bipush X (nI 96) 7 dX2_total_5 rfl (by decide +kernel) ?_
      refine g_icmp_ge X 10 25 dX2_total_7 rfl (by decide) (nI_leI (by omega) (by omega)) (fun h7 => absurd h7 (by omega)) (fun h7 => ?_)
      refine g_iload_n X 1 11 dX2_total_10 rfl rfl rfl ?_
      refine g_aload_n X 2 12 dX2_total_11 rfl rfl rfl ?_
      refine g_get X hiX2 0 0 15 rfl rfl (by decide) (List.mem_of_getElem? (i := 1) rfl) rfl dX2_total_12 rfl ?_
      refine g_iload_n X 0 16 dX2_total_15 rfl rfl rfl ?_
      refine g_iald X 1 0 (j) (nI (S (4 + j))) 17 rfl rfl (by omega) (by decide) (vs_at (by omega)) dX2_total_16 rfl ?_
      refine g_iadd X (nI ((sm (fun k => S (4 + k)) j) + (S (4 + j)))) 18 dX2_total_17 rfl (nI_add _ _) ?_
      refine g_istore_n X [(1, .int (nI ((sm (fun k => S (4 + k)) j) + (S (4 + j))))), (2, .int (nI j)), (0, .ref g)] 19 dX2_total_18 rfl rfl (by decide) rfl ?_
      refine g_iinc X 1 (nI (j + 1)) [(2, .int (nI (j + 1))), (1, .int (nI ((sm (fun k => S (4 + k)) j) + (S (4 + j))))), (0, .ref g)] 22 dX2_total_19 rfl rfl (nI_inc _) (by decide) rfl ?_
      refine g_goto X 4 dX2_total_22 (by decide) ?_
      exact ih_j
  exact L 0 (Nat.zero_le _)

abbrev rm_X2_cleanPanes : Room := { frames := 0, cells := 0, slots := 0, locals := 0 }
set_option maxHeartbeats 4000000 in
set_option maxRecDepth 100000 in
/-- panes without soot -/
theorem m_X2_cleanPanes (l : Launch) (D : va_G) (cI cZ cJ : ClassId) (g a : Nat) (S : Nat → Nat) (hs : sootOk S) : MI l yX2_cleanPanes wsX2_cleanPanes rm_X2_cleanPanes D (gT cI cZ cJ) [(g, .inr (2, [.ref a])), (a, .inl (cI, 96, .inl (vs S)))] [.ref g] (fun r u => r = nI (clnS S) ∧ u = [(g, .inr (2, [.ref a])), (a, .inl (cI, 96, .inl (vs S)))]) := by
  refine MI_of [(0, .ref g)] (by decide) rfl (Nat.le_of_ble_eq_true rfl) rfl ?_
  intro p e s m args below meth c A Q X ret
  have hiX2 : ∀ w ∈ wsX20, w ∈ wsX2_cleanPanes := (fun _ h => List.mem_cons_of_mem _ (List.mem_append_right _ h))
  refine g_iconst X (nI 0) 1 dX2_cleanPanes_0 rfl (by decide +kernel) ?_
  refine g_istore_n X [(1, .int (nI 0)), (0, .ref g)] 2 dX2_cleanPanes_1 rfl rfl (by decide) rfl ?_
  refine g_iconst X (nI 0) 3 dX2_cleanPanes_2 rfl (by decide +kernel) ?_
  refine g_istore_n X [(2, .int (nI 0)), (1, .int (nI 0)), (0, .ref g)] 4 dX2_cleanPanes_3 rfl rfl (by decide) rfl ?_
  have L : ∀ j : Nat, j ≤ 96 → G p l e rm_X2_cleanPanes s m args below meth c Q D A 3 0 0 [(g, .inr (2, [.ref a])), (a, .inl (cI, 96, .inl (vs S)))] [(2, .int (nI j)), (1, .int (nI (sm (fun k => if S (4 + k) = 0 then 1 else 0) j))), (0, .ref g)] 4 [] := by
    refine g_down _ ?_ ?_
    · refine g_iload_n X 0 5 dX2_cleanPanes_4 rfl rfl rfl ?_
      refine g_bipush X (nI 96) 7 dX2_cleanPanes_5 rfl (by decide +kernel) ?_
      refine g_icmp_ge X 10 28 dX2_cleanPanes_7 rfl (by decide) (nI_leI (by omega) (by omega)) (fun h7 => ?_) (fun h7 => absurd (Nat.le_refl _) h7)
      refine g_iload_n X 1 29 dX2_cleanPanes_28 rfl rfl rfl ?_
      exact ret _ _ _ _ dX2_cleanPanes_29 rfl ⟨rfl, rfl⟩
    · intro j hj ih_j 
      refine g_iload_n X 0 5 dX2_cleanPanes_4 rfl rfl rfl ?_
      refine g_bipush X (nI 96) 7 dX2_cleanPanes_5 rfl (by decide +kernel) ?_
      refine g_icmp_ge X 10 28 dX2_cleanPanes_7 rfl (by decide) (nI_leI (by omega) (by omega)) (fun h7 => absurd h7 (by omega)) (fun h7 => ?_)
      have h20 := hs j hj
      refine g_aload_n X 2 11 dX2_cleanPanes_10 rfl rfl rfl ?_
      refine g_get X hiX2 0 0 14 rfl rfl (by decide) (List.mem_of_getElem? (i := 1) rfl) rfl dX2_cleanPanes_11 rfl ?_
      refine g_iload_n X 0 15 dX2_cleanPanes_14 rfl rfl rfl ?_
      refine g_iald X 1 0 (j) (nI (S (4 + j))) 16 rfl rfl (by omega) (by decide) (vs_at (by omega)) dX2_cleanPanes_15 rfl ?_
      refine g_if_ne X 19 22 dX2_cleanPanes_16 rfl (by decide) (nz_eq (by omega)) (fun hz => ?_) (fun hz => ?_)
      · refine g_iinc X 0 (nI (j + 1)) [(2, .int (nI (j + 1))), (1, .int (nI (sm (fun k => if S (4 + k) = 0 then 1 else 0) j))), (0, .ref g)] 25 dX2_cleanPanes_22 rfl rfl (nI_inc _) (by decide) rfl ?_
        refine g_goto X 4 dX2_cleanPanes_25 (by decide) ?_
        exact (by rw [show sm (fun k => if S (4 + k) = 0 then 1 else 0) (j + 1) = sm (fun k => if S (4 + k) = 0 then 1 else 0) j by rw [sm_s]; simp [hz]] at ih_j; exact ih_j)
      · refine g_iinc X 1 (nI (sm (fun k => if S (4 + k) = 0 then 1 else 0) j + 1)) [(1, .int (nI (sm (fun k => if S (4 + k) = 0 then 1 else 0) j + 1))), (2, .int (nI j)), (0, .ref g)] 22 dX2_cleanPanes_19 rfl rfl (nI_inc _) (by decide) rfl ?_
        refine g_iinc X 1 (nI (j + 1)) [(2, .int (nI (j + 1))), (1, .int (nI (sm (fun k => if S (4 + k) = 0 then 1 else 0) j + 1))), (0, .ref g)] 25 dX2_cleanPanes_22 rfl rfl (nI_inc _) (by decide) rfl ?_
        refine g_goto X 4 dX2_cleanPanes_25 (by decide) ?_
        exact (by rw [show sm (fun k => if S (4 + k) = 0 then 1 else 0) (j + 1) = sm (fun k => if S (4 + k) = 0 then 1 else 0) j + 1 by rw [sm_s]; simp [hz]] at ih_j; exact ih_j)
  exact L 0 (Nat.zero_le _)
