/-! THE ROPES -/

theorem nI_decN {a k : Nat} (h : k ≤ a) : nI a + Int32.ofInt (-(k : Int)) = nI (a - k) := by
  have h1 : Int32.ofInt (-(k : Int)) = -(nI k) := by
    show Int32.ofInt (-(k : Int)) = -(Int32.ofNat k)
    rw [Int32.ofInt_neg]
    rfl
  rw [h1, ← Int32.sub_eq_add_neg, pk_sub h]

abbrev rm_X3_put : Room := { frames := 0, cells := 0, slots := 0, locals := 0 }
set_option maxHeartbeats 4000000 in
set_option maxRecDepth 100000 in
/-- a new rope -/
theorem m_X3_put (l : Launch) (D : va_G) (cI cZ cJ : ClassId) (b b0 b1 b2 b3 b4 b5 n : Nat) (S st : Nat → Nat) (x t wy : Nat) (hn : n < 6) (hw : wy ≤ 1) : MI l yX3_put wsX3_put rm_X3_put D (gT cI cZ cJ) [(b, .inr (3, [.int (nI n), .ref b0, .ref b1, .ref b2, .ref b3, .ref b4, .ref b5])), (b0, .inl (cI, 6, .inl (vr 0 S))), (b1, .inl (cI, 6, .inl (vr 1 S))), (b2, .inl (cI, 6, .inl (v6 st))), (b3, .inl (cZ, 6, .inl (vw n S))), (b4, .inl (cI, 6, .inl (vr 3 S))), (b5, .inl (cI, 6, .inl (vr 4 S)))] [.ref b, .int (nI x), .int (nI t), .int (nI (1 - wy))] (fun r u => r = nI n ∧ u = [(b, .inr (3, [.int (nI (n + 1)), .ref b0, .ref b1, .ref b2, .ref b3, .ref b4, .ref b5])), (b0, .inl (cI, 6, .inl (vr 0 (ptR S n x wy)))), (b1, .inl (cI, 6, .inl (vr 1 (ptR S n x wy)))), (b2, .inl (cI, 6, .inl (v6 (up st n t)))), (b3, .inl (cZ, 6, .inl (vw (n + 1) (ptR S n x wy)))), (b4, .inl (cI, 6, .inl (vr 3 (ptR S n x wy)))), (b5, .inl (cI, 6, .inl (vr 4 (ptR S n x wy))))]) := by
  refine MI_of [(0, .ref b), (1, .int (nI x)), (2, .int (nI t)), (3, .int (nI (1 - wy)))] (by decide) rfl (Nat.le_of_ble_eq_true rfl) rfl ?_
  intro p e s m args below meth c A Q X ret
  have hiX3 : ∀ w ∈ wsX30, w ∈ wsX3_put := (fun _ h => List.mem_cons_of_mem _ (List.mem_append_right _ h))
  refine g_aload_n X 0 1 dX3_put_0 rfl rfl rfl ?_
  refine g_get X hiX3 0 1 4 rfl rfl (by decide) (List.mem_of_getElem? (i := 1) rfl) rfl dX3_put_1 rfl ?_
  refine g_aload_n X 0 5 dX3_put_4 rfl rfl rfl ?_
  refine g_get X hiX3 0 0 8 rfl rfl (by decide) (List.mem_of_getElem? (i := 2) rfl) rfl dX3_put_5 rfl ?_
  refine g_iload_n X 1 9 dX3_put_8 rfl rfl rfl ?_
  refine g_iast (ws' := [(b, .inr (3, [.int (nI n), .ref b0, .ref b1, .ref b2, .ref b3, .ref b4, .ref b5])), (b0, .inl (cI, 6, .inl (vr 0 (ptR S n x wy)))), (b1, .inl (cI, 6, .inl (vr 1 S))), (b2, .inl (cI, 6, .inl (v6 st))), (b3, .inl (cZ, 6, .inl (vw n S))), (b4, .inl (cI, 6, .inl (vr 3 S))), (b5, .inl (cI, 6, .inl (vr 4 S)))]) X 1 0 (n) (vr 0 (ptR S n x wy)) 10 rfl rfl (by omega) (by decide) (vr_p0 hn) dX3_put_9 rfl rfl ?_
  refine g_aload_n X 0 11 dX3_put_10 rfl rfl rfl ?_
  refine g_get X hiX3 0 3 14 rfl rfl (by decide) (List.mem_of_getElem? (i := 3) rfl) rfl dX3_put_11 rfl ?_
  refine g_aload_n X 0 15 dX3_put_14 rfl rfl rfl ?_
  refine g_get X hiX3 0 0 18 rfl rfl (by decide) (List.mem_of_getElem? (i := 2) rfl) rfl dX3_put_15 rfl ?_
  refine g_iload_n X 2 19 dX3_put_18 rfl rfl rfl ?_
  refine g_iast (ws' := [(b, .inr (3, [.int (nI n), .ref b0, .ref b1, .ref b2, .ref b3, .ref b4, .ref b5])), (b0, .inl (cI, 6, .inl (vr 0 (ptR S n x wy)))), (b1, .inl (cI, 6, .inl (vr 1 S))), (b2, .inl (cI, 6, .inl (v6 (up st n t)))), (b3, .inl (cZ, 6, .inl (vw n S))), (b4, .inl (cI, 6, .inl (vr 3 S))), (b5, .inl (cI, 6, .inl (vr 4 S)))]) X 3 0 (n) (v6 (up st n t)) 20 rfl rfl (by omega) (by decide) (v6_up hn) dX3_put_19 rfl rfl ?_
  refine g_aload_n X 0 21 dX3_put_20 rfl rfl rfl ?_
  refine g_get X hiX3 0 4 24 rfl rfl (by decide) (List.mem_of_getElem? (i := 4) rfl) rfl dX3_put_21 rfl ?_
  refine g_aload_n X 0 25 dX3_put_24 rfl rfl rfl ?_
  refine g_get X hiX3 0 0 28 rfl rfl (by decide) (List.mem_of_getElem? (i := 2) rfl) rfl dX3_put_25 rfl ?_
  refine g_iload_n X 3 29 dX3_put_28 rfl rfl rfl ?_
  refine g_zast (ws' := [(b, .inr (3, [.int (nI n), .ref b0, .ref b1, .ref b2, .ref b3, .ref b4, .ref b5])), (b0, .inl (cI, 6, .inl (vr 0 (ptR S n x wy)))), (b1, .inl (cI, 6, .inl (vr 1 S))), (b2, .inl (cI, 6, .inl (v6 (up st n t)))), (b3, .inl (cZ, 6, .inl (vw (n + 1) (ptR S n x wy)))), (b4, .inl (cI, 6, .inl (vr 3 S))), (b5, .inl (cI, 6, .inl (vr 4 S)))]) X 4 1 (n) (vw (n + 1) (ptR S n x wy)) 30 rfl rfl (by omega) (by decide) (vw_p hw) dX3_put_29 rfl rfl ?_
  refine g_aload_n X 0 31 dX3_put_30 rfl rfl rfl ?_
  refine g_dup X 32 dX3_put_31 rfl rfl ?_
  refine g_get X hiX3 0 0 35 rfl rfl (by decide) (List.mem_of_getElem? (i := 2) rfl) rfl dX3_put_32 rfl ?_
  refine g_iconst X (nI 1) 36 dX3_put_35 rfl (by decide +kernel) ?_
  refine g_iadd X (nI (n + 1)) 37 dX3_put_36 rfl (nI_add _ _) ?_
  refine g_put (ws' := [(b, .inr (3, [.int (nI (n + 1)), .ref b0, .ref b1, .ref b2, .ref b3, .ref b4, .ref b5])), (b0, .inl (cI, 6, .inl (vr 0 (ptR S n x wy)))), (b1, .inl (cI, 6, .inl (vr 1 S))), (b2, .inl (cI, 6, .inl (v6 (up st n t)))), (b3, .inl (cZ, 6, .inl (vw (n + 1) (ptR S n x wy)))), (b4, .inl (cI, 6, .inl (vr 3 S))), (b5, .inl (cI, 6, .inl (vr 4 S)))]) X hiX3 tyX3 tyX3_ok nmX3 0 0 40 rfl rfl (by decide) (List.mem_of_getElem? (i := 2) rfl) rfl (ty := .int) (by decide +kernel) rfl rfl (Nat.le_of_ble_eq_true rfl) dX3_put_37 rfl rfl ?_
  refine g_aload_n X 0 41 dX3_put_40 rfl rfl rfl ?_
  refine g_get X hiX3 0 0 44 rfl rfl (by decide) (List.mem_of_getElem? (i := 2) rfl) rfl dX3_put_41 rfl ?_
  refine g_iconst X (nI 1) 45 dX3_put_44 rfl (by decide +kernel) ?_
  refine g_isub X (nI ((n + 1) - 1)) 46 dX3_put_45 rfl (pk_sub (by omega)) ?_
  exact ret _ _ _ _ dX3_put_46 rfl ⟨rfl, by rw [vr_po (q := 1) (by decide) (by decide) (by decide), vr_po (q := 3) (by decide) (by decide) (by decide), vr_po (q := 4) (by decide) (by decide) (by decide)]⟩

abbrev rm_X3_number : Room := { frames := 0, cells := 0, slots := 0, locals := 0 }
set_option maxHeartbeats 4000000 in
set_option maxRecDepth 100000 in
/-- what told() tells -/
theorem m_X3_number (l : Launch) (D : va_G) (cI cZ cJ : ClassId) (b b0 b1 b2 b3 b4 b5 n : Nat) (S st : Nat → Nat) (rp wh : Nat) (hn : n ≤ 6) (hk : rp < n) (hy : S (100 + 5 * rp + 2) ≤ 1) (hw : wh < 6) : MI l yX3_number wsX3_number rm_X3_number D (gT cI cZ cJ) [(b, .inr (3, [.int (nI n), .ref b0, .ref b1, .ref b2, .ref b3, .ref b4, .ref b5])), (b0, .inl (cI, 6, .inl (vr 0 S))), (b1, .inl (cI, 6, .inl (vr 1 S))), (b2, .inl (cI, 6, .inl (v6 st))), (b3, .inl (cZ, 6, .inl (vw n S))), (b4, .inl (cI, 6, .inl (vr 3 S))), (b5, .inl (cI, 6, .inl (vr 4 S)))] [.ref b, .int (nI rp), .int (nI wh)] (fun r u => r = nI (tld S st rp wh) ∧ u = [(b, .inr (3, [.int (nI n), .ref b0, .ref b1, .ref b2, .ref b3, .ref b4, .ref b5])), (b0, .inl (cI, 6, .inl (vr 0 S))), (b1, .inl (cI, 6, .inl (vr 1 S))), (b2, .inl (cI, 6, .inl (v6 st))), (b3, .inl (cZ, 6, .inl (vw n S))), (b4, .inl (cI, 6, .inl (vr 3 S))), (b5, .inl (cI, 6, .inl (vr 4 S)))]) := by
  refine MI_of [(0, .ref b), (1, .int (nI rp)), (2, .int (nI wh))] (by decide) rfl (Nat.le_of_ble_eq_true rfl) rfl ?_
  intro p e s m args below meth c A Q X ret
  have hiX3 : ∀ w ∈ wsX30, w ∈ wsX3_number := (fun _ h => List.mem_cons_of_mem _ (List.mem_append_right _ h))
  refine g_iload_n X 2 1 dX3_number_0 rfl rfl rfl ?_
  rcases (show wh = 0 ∨ wh = 1 ∨ wh = 2 ∨ wh = 3 ∨ wh = 4 ∨ wh = 5 by omega) with rfl | rfl | rfl | rfl | rfl | rfl
  · refine g_tableIn X 36 dX3_number_1 0 (by decide +kernel) (by decide) (by decide) rfl (by decide) ?_
    refine g_aload_n X 0 37 dX3_number_36 rfl rfl rfl ?_
    refine g_get X hiX3 0 1 40 rfl rfl (by decide) (List.mem_of_getElem? (i := 1) rfl) rfl dX3_number_37 rfl ?_
    refine g_iload_n X 1 41 dX3_number_40 rfl rfl rfl ?_
    refine g_iald X 1 0 (rp) (nI (S (100 + 5 * rp))) 42 rfl rfl (by omega) (by decide) (vr_at (by omega)) dX3_number_41 rfl ?_
    exact ret _ _ _ _ dX3_number_42 rfl ⟨rfl, rfl⟩
  · refine g_tableIn X 43 dX3_number_1 1 (by decide +kernel) (by decide) (by decide) rfl (by decide) ?_
    refine g_aload_n X 0 44 dX3_number_43 rfl rfl rfl ?_
    refine g_get X hiX3 0 2 47 rfl rfl (by decide) (List.mem_of_getElem? (i := 2) rfl) rfl dX3_number_44 rfl ?_
    refine g_iload_n X 1 48 dX3_number_47 rfl rfl rfl ?_
    refine g_iald X 2 0 (rp) (nI (S (100 + 5 * rp + 1))) 49 rfl rfl (by omega) (by decide) (vr_at (by omega)) dX3_number_48 rfl ?_
    exact ret _ _ _ _ dX3_number_49 rfl ⟨rfl, rfl⟩
  · refine g_tableIn X 50 dX3_number_1 2 (by decide +kernel) (by decide) (by decide) rfl (by decide) ?_
    refine g_aload_n X 0 51 dX3_number_50 rfl rfl rfl ?_
    refine g_get X hiX3 0 3 54 rfl rfl (by decide) (List.mem_of_getElem? (i := 3) rfl) rfl dX3_number_51 rfl ?_
    refine g_iload_n X 1 55 dX3_number_54 rfl rfl rfl ?_
    refine g_iald X 3 0 (rp) (nI (st rp)) 56 rfl rfl (by omega) (by decide) (v6_at (by omega)) dX3_number_55 rfl ?_
    exact ret _ _ _ _ dX3_number_56 rfl ⟨rfl, rfl⟩
  · refine g_tableIn X 57 dX3_number_1 3 (by decide +kernel) (by decide) (by decide) rfl (by decide) ?_
    refine g_aload_n X 0 58 dX3_number_57 rfl rfl rfl ?_
    refine g_get X hiX3 0 4 61 rfl rfl (by decide) (List.mem_of_getElem? (i := 4) rfl) rfl dX3_number_58 rfl ?_
    refine g_iload_n X 1 62 dX3_number_61 rfl rfl rfl ?_
    refine g_zald X 4 1 (rp) (nI (1 - S (100 + 5 * rp + 2))) 63 rfl rfl (by omega) (by decide) (vw_at hk) dX3_number_62 rfl ?_
    refine g_if_eq X 66 70 dX3_number_63 rfl (by decide) (nz_eq (by omega)) (fun hq => ?_) (fun hq => ?_)
    · refine g_iconst X (nI 1) 71 dX3_number_70 rfl (by decide +kernel) ?_
      refine g_eqi (y := nI (S (100 + 5 * rp + 2))) (congrArg nI (by omega)) ?_
      exact ret _ _ _ _ dX3_number_71 rfl ⟨rfl, rfl⟩
    · refine g_iconst X (nI 0) 67 dX3_number_66 rfl (by decide +kernel) ?_
      refine g_goto X 71 dX3_number_67 (by decide) ?_
      refine g_eqi (y := nI (S (100 + 5 * rp + 2))) (congrArg nI (by omega)) ?_
      exact ret _ _ _ _ dX3_number_71 rfl ⟨rfl, rfl⟩
  · refine g_tableIn X 72 dX3_number_1 4 (by decide +kernel) (by decide) (by decide) rfl (by decide) ?_
    refine g_aload_n X 0 73 dX3_number_72 rfl rfl rfl ?_
    refine g_get X hiX3 0 5 76 rfl rfl (by decide) (List.mem_of_getElem? (i := 5) rfl) rfl dX3_number_73 rfl ?_
    refine g_iload_n X 1 77 dX3_number_76 rfl rfl rfl ?_
    refine g_iald X 5 0 (rp) (nI (S (100 + 5 * rp + 3))) 78 rfl rfl (by omega) (by decide) (vr_at (by omega)) dX3_number_77 rfl ?_
    exact ret _ _ _ _ dX3_number_78 rfl ⟨rfl, rfl⟩
  · refine g_tableOut X 79 dX3_number_1 (by decide +kernel) (by decide) ?_
    refine g_aload_n X 0 80 dX3_number_79 rfl rfl rfl ?_
    refine g_get X hiX3 0 6 83 rfl rfl (by decide) (List.mem_of_getElem? (i := 6) rfl) rfl dX3_number_80 rfl ?_
    refine g_iload_n X 1 84 dX3_number_83 rfl rfl rfl ?_
    refine g_iald X 6 0 (rp) (nI (S (100 + 5 * rp + 4))) 85 rfl rfl (by omega) (by decide) (vr_at (by omega)) dX3_number_84 rfl ?_
    exact ret _ _ _ _ dX3_number_85 rfl ⟨rfl, rfl⟩

abbrev rm_X3_allCleaned : Room := { frames := 0, cells := 0, slots := 0, locals := 0 }
set_option maxHeartbeats 4000000 in
set_option maxRecDepth 100000 in
/-- soot cleaned off by all ropes -/
theorem m_X3_allCleaned (l : Launch) (D : va_G) (cI cZ cJ : ClassId) (b b0 b1 b2 b3 b4 b5 n : Nat) (S st : Nat → Nat) (hn : n ≤ 6) : MI l yX3_allCleaned wsX3_allCleaned rm_X3_allCleaned D (gT cI cZ cJ) [(b, .inr (3, [.int (nI n), .ref b0, .ref b1, .ref b2, .ref b3, .ref b4, .ref b5])), (b0, .inl (cI, 6, .inl (vr 0 S))), (b1, .inl (cI, 6, .inl (vr 1 S))), (b2, .inl (cI, 6, .inl (v6 st))), (b3, .inl (cZ, 6, .inl (vw n S))), (b4, .inl (cI, 6, .inl (vr 3 S))), (b5, .inl (cI, 6, .inl (vr 4 S)))] [.ref b] (fun r u => r = nI (cldS S n) ∧ u = [(b, .inr (3, [.int (nI n), .ref b0, .ref b1, .ref b2, .ref b3, .ref b4, .ref b5])), (b0, .inl (cI, 6, .inl (vr 0 S))), (b1, .inl (cI, 6, .inl (vr 1 S))), (b2, .inl (cI, 6, .inl (v6 st))), (b3, .inl (cZ, 6, .inl (vw n S))), (b4, .inl (cI, 6, .inl (vr 3 S))), (b5, .inl (cI, 6, .inl (vr 4 S)))]) := by
  refine MI_of [(0, .ref b)] (by decide) rfl (Nat.le_of_ble_eq_true rfl) rfl ?_
  intro p e s m args below meth c A Q X ret
  have hiX3 : ∀ w ∈ wsX30, w ∈ wsX3_allCleaned := (fun _ h => List.mem_cons_of_mem _ (List.mem_append_right _ h))
  refine g_iconst X (nI 0) 1 dX3_allCleaned_0 rfl (by decide +kernel) ?_
  refine g_istore_n X [(1, .int (nI 0)), (0, .ref b)] 2 dX3_allCleaned_1 rfl rfl (by decide) rfl ?_
  refine g_iconst X (nI 0) 3 dX3_allCleaned_2 rfl (by decide +kernel) ?_
  refine g_istore_n X [(2, .int (nI 0)), (1, .int (nI 0)), (0, .ref b)] 4 dX3_allCleaned_3 rfl rfl (by decide) rfl ?_
  have L : ∀ j : Nat, j ≤ n → G p l e rm_X3_allCleaned s m args below meth c Q D A 3 0 0 [(b, .inr (3, [.int (nI n), .ref b0, .ref b1, .ref b2, .ref b3, .ref b4, .ref b5])), (b0, .inl (cI, 6, .inl (vr 0 S))), (b1, .inl (cI, 6, .inl (vr 1 S))), (b2, .inl (cI, 6, .inl (v6 st))), (b3, .inl (cZ, 6, .inl (vw n S))), (b4, .inl (cI, 6, .inl (vr 3 S))), (b5, .inl (cI, 6, .inl (vr 4 S)))] [(2, .int (nI j)), (1, .int (nI (sm (fun r => S (100 + 5 * r + 3)) j))), (0, .ref b)] 4 [] := by
    refine g_down _ ?_ ?_
    · refine g_iload_n X 0 5 dX3_allCleaned_4 rfl rfl rfl ?_
      refine g_aload_n X 2 6 dX3_allCleaned_5 rfl rfl rfl ?_
      refine g_get X hiX3 0 0 9 rfl rfl (by decide) (List.mem_of_getElem? (i := 1) rfl) rfl dX3_allCleaned_6 rfl ?_
      refine g_icmp_ge X 12 27 dX3_allCleaned_9 rfl (by decide) (nI_leI (by omega) (by omega)) (fun h9 => ?_) (fun h9 => absurd (Nat.le_refl _) h9)
      refine g_iload_n X 1 28 dX3_allCleaned_27 rfl rfl rfl ?_
      exact ret _ _ _ _ dX3_allCleaned_28 rfl ⟨rfl, rfl⟩
    · intro j hj ih_j 
      refine g_iload_n X 0 5 dX3_allCleaned_4 rfl rfl rfl ?_
      refine g_aload_n X 2 6 dX3_allCleaned_5 rfl rfl rfl ?_
      refine g_get X hiX3 0 0 9 rfl rfl (by decide) (List.mem_of_getElem? (i := 1) rfl) rfl dX3_allCleaned_6 rfl ?_
      refine g_icmp_ge X 12 27 dX3_allCleaned_9 rfl (by decide) (nI_leI (by omega) (by omega)) (fun h9 => absurd h9 (by omega)) (fun h9 => ?_)
      refine g_iload_n X 1 13 dX3_allCleaned_12 rfl rfl rfl ?_
      refine g_aload_n X 2 14 dX3_allCleaned_13 rfl rfl rfl ?_
      refine g_get X hiX3 0 5 17 rfl rfl (by decide) (List.mem_of_getElem? (i := 2) rfl) rfl dX3_allCleaned_14 rfl ?_
      refine g_iload_n X 0 18 dX3_allCleaned_17 rfl rfl rfl ?_
      refine g_iald X 5 0 (j) (nI (S (100 + 5 * j + 3))) 19 rfl rfl (by omega) (by decide) (vr_at (by omega)) dX3_allCleaned_18 rfl ?_
      refine g_iadd X (nI ((sm (fun r => S (100 + 5 * r + 3)) j) + (S (100 + 5 * j + 3)))) 20 dX3_allCleaned_19 rfl (nI_add _ _) ?_
      refine g_istore_n X [(1, .int (nI ((sm (fun r => S (100 + 5 * r + 3)) j) + (S (100 + 5 * j + 3))))), (2, .int (nI j)), (0, .ref b)] 21 dX3_allCleaned_20 rfl rfl (by decide) rfl ?_
      refine g_iinc X 1 (nI (j + 1)) [(2, .int (nI (j + 1))), (1, .int (nI ((sm (fun r => S (100 + 5 * r + 3)) j) + (S (100 + 5 * j + 3))))), (0, .ref b)] 24 dX3_allCleaned_21 rfl rfl (nI_inc _) (by decide) rfl ?_
      refine g_goto X 4 dX3_allCleaned_24 (by decide) ?_
      exact ih_j
  exact L 0 (Nat.zero_le _)

abbrev rm_X3_hangAt : Room := { frames := 0, cells := 0, slots := 0, locals := 0 }
set_option maxHeartbeats 4000000 in
set_option maxRecDepth 100000 in
/-- does a rope hang there -/
theorem m_X3_hangAt (l : Launch) (D : va_G) (cI cZ cJ : ClassId) (b b0 b1 b2 b3 b4 b5 n : Nat) (S st : Nat → Nat) (pl : Nat) (hn : n ≤ 6) (hc : ∀ r : Nat, r < n → S (100 + 5 * r) < 12) (hp : pl < 12) : MI l yX3_hangAt wsX3_hangAt rm_X3_hangAt D (gT cI cZ cJ) [(b, .inr (3, [.int (nI n), .ref b0, .ref b1, .ref b2, .ref b3, .ref b4, .ref b5])), (b0, .inl (cI, 6, .inl (vr 0 S))), (b1, .inl (cI, 6, .inl (vr 1 S))), (b2, .inl (cI, 6, .inl (v6 st))), (b3, .inl (cZ, 6, .inl (vw n S))), (b4, .inl (cI, 6, .inl (vr 3 S))), (b5, .inl (cI, 6, .inl (vr 4 S)))] [.ref b, .int (nI pl)] (fun r u => r = nI (bn (hung S n pl)) ∧ u = [(b, .inr (3, [.int (nI n), .ref b0, .ref b1, .ref b2, .ref b3, .ref b4, .ref b5])), (b0, .inl (cI, 6, .inl (vr 0 S))), (b1, .inl (cI, 6, .inl (vr 1 S))), (b2, .inl (cI, 6, .inl (v6 st))), (b3, .inl (cZ, 6, .inl (vw n S))), (b4, .inl (cI, 6, .inl (vr 3 S))), (b5, .inl (cI, 6, .inl (vr 4 S)))]) := by
  refine MI_of [(0, .ref b), (1, .int (nI pl))] (by decide) rfl (Nat.le_of_ble_eq_true rfl) rfl ?_
  intro p e s m args below meth c A Q X ret
  have hiX3 : ∀ w ∈ wsX30, w ∈ wsX3_hangAt := (fun _ h => List.mem_cons_of_mem _ (List.mem_append_right _ h))
  refine g_iconst X (nI 0) 1 dX3_hangAt_0 rfl (by decide +kernel) ?_
  refine g_istore_n X [(2, .int (nI 0)), (0, .ref b), (1, .int (nI pl))] 2 dX3_hangAt_1 rfl rfl (by decide) rfl ?_
  have L : ∀ j : Nat, j ≤ n → (∀ r : Nat, r < j → ¬ S (100 + 5 * r) = pl) → G p l e rm_X3_hangAt s m args below meth c Q D A 3 0 0 [(b, .inr (3, [.int (nI n), .ref b0, .ref b1, .ref b2, .ref b3, .ref b4, .ref b5])), (b0, .inl (cI, 6, .inl (vr 0 S))), (b1, .inl (cI, 6, .inl (vr 1 S))), (b2, .inl (cI, 6, .inl (v6 st))), (b3, .inl (cZ, 6, .inl (vw n S))), (b4, .inl (cI, 6, .inl (vr 3 S))), (b5, .inl (cI, 6, .inl (vr 4 S)))] [(2, .int (nI j)), (0, .ref b), (1, .int (nI pl))] 2 [] := by
    refine g_down _ ?_ ?_
    · intro hno
      refine g_iload_n X 0 3 dX3_hangAt_2 rfl rfl rfl ?_
      refine g_aload_n X 1 4 dX3_hangAt_3 rfl rfl rfl ?_
      refine g_get X hiX3 0 0 7 rfl rfl (by decide) (List.mem_of_getElem? (i := 1) rfl) rfl dX3_hangAt_4 rfl ?_
      refine g_icmp_ge X 10 28 dX3_hangAt_7 rfl (by decide) (nI_leI (by omega) (by omega)) (fun h7 => ?_) (fun h7 => absurd (Nat.le_refl _) h7)
      refine g_iconst X (nI 0) 29 dX3_hangAt_28 rfl (by decide +kernel) ?_
      refine g_eqi (y := nI (bn (hung S n pl))) (by rw [hung_f hno]; rfl) ?_
      exact ret _ _ _ _ dX3_hangAt_29 (bn_nar _) ⟨rfl, rfl⟩
    · intro j hj ih_j hno
      refine g_iload_n X 0 3 dX3_hangAt_2 rfl rfl rfl ?_
      refine g_aload_n X 1 4 dX3_hangAt_3 rfl rfl rfl ?_
      refine g_get X hiX3 0 0 7 rfl rfl (by decide) (List.mem_of_getElem? (i := 1) rfl) rfl dX3_hangAt_4 rfl ?_
      refine g_icmp_ge X 10 28 dX3_hangAt_7 rfl (by decide) (nI_leI (by omega) (by omega)) (fun h7 => absurd h7 (by omega)) (fun h7 => ?_)
      have hcj := hc j hj
      refine g_aload_n X 1 11 dX3_hangAt_10 rfl rfl rfl ?_
      refine g_get X hiX3 0 1 14 rfl rfl (by decide) (List.mem_of_getElem? (i := 2) rfl) rfl dX3_hangAt_11 rfl ?_
      refine g_iload_n X 0 15 dX3_hangAt_14 rfl rfl rfl ?_
      refine g_iald X 1 0 (j) (nI (S (100 + 5 * j))) 16 rfl rfl (by omega) (by decide) (vr_at (by omega)) dX3_hangAt_15 rfl ?_
      refine g_iload_n X 2 17 dX3_hangAt_16 rfl rfl rfl ?_
      refine g_icmp_ne X 20 22 dX3_hangAt_17 rfl (by decide) (nI_eq (by omega) (by omega)) (fun hq => ?_) (fun hq => ?_)
      · refine g_iinc X 0 (nI (j + 1)) [(2, .int (nI (j + 1))), (0, .ref b), (1, .int (nI pl))] 25 dX3_hangAt_22 rfl rfl (nI_inc _) (by decide) rfl ?_
        refine g_goto X 2 dX3_hangAt_25 (by decide) ?_
        exact ih_j (lt_s hno hq)
      · refine g_iconst X (nI 1) 21 dX3_hangAt_20 rfl (by decide +kernel) ?_
        refine g_eqi (y := nI (bn (hung S n pl))) (by rw [hung_t hj hq]; rfl) ?_
        exact ret _ _ _ _ dX3_hangAt_21 (bn_nar _) ⟨rfl, rfl⟩
  exact L 0 (Nat.zero_le _) (fun r hr => absurd hr (Nat.not_lt_zero r))

abbrev rm_X3_rehang : Room := { frames := 0, cells := 0, slots := 0, locals := 0 }
set_option maxHeartbeats 4000000 in
set_option maxRecDepth 100000 in
/-- a rope is moved -/
theorem m_X3_rehang (l : Launch) (D : va_G) (cI cZ cJ : ClassId) (b b0 b1 b2 b3 b4 b5 n : Nat) (S st : Nat → Nat) (rp pl : Nat) (hk : rp < 6) : MV l yX3_rehang wsX3_rehang rm_X3_rehang D (gT cI cZ cJ) [(b, .inr (3, [.int (nI n), .ref b0, .ref b1, .ref b2, .ref b3, .ref b4, .ref b5])), (b0, .inl (cI, 6, .inl (vr 0 S))), (b1, .inl (cI, 6, .inl (vr 1 S))), (b2, .inl (cI, 6, .inl (v6 st))), (b3, .inl (cZ, 6, .inl (vw n S))), (b4, .inl (cI, 6, .inl (vr 3 S))), (b5, .inl (cI, 6, .inl (vr 4 S)))] [.ref b, .int (nI rp), .int (nI pl)] (fun u => u = [(b, .inr (3, [.int (nI n), .ref b0, .ref b1, .ref b2, .ref b3, .ref b4, .ref b5])), (b0, .inl (cI, 6, .inl (vr 0 (reh S rp pl)))), (b1, .inl (cI, 6, .inl (vr 1 (reh S rp pl)))), (b2, .inl (cI, 6, .inl (v6 st))), (b3, .inl (cZ, 6, .inl (vw n (reh S rp pl)))), (b4, .inl (cI, 6, .inl (vr 3 (reh S rp pl)))), (b5, .inl (cI, 6, .inl (vr 4 (reh S rp pl))))]) := by
  refine MV_of [(0, .ref b), (1, .int (nI rp)), (2, .int (nI pl))] (by decide) rfl (Nat.le_of_ble_eq_true rfl) rfl ?_
  intro p e s m args below meth c A Q X ret
  have hiX3 : ∀ w ∈ wsX30, w ∈ wsX3_rehang := (fun _ h => List.mem_cons_of_mem _ (List.mem_append_right _ h))
  refine g_aload_n X 0 1 dX3_rehang_0 rfl rfl rfl ?_
  refine g_get X hiX3 0 1 4 rfl rfl (by decide) (List.mem_of_getElem? (i := 1) rfl) rfl dX3_rehang_1 rfl ?_
  refine g_iload_n X 1 5 dX3_rehang_4 rfl rfl rfl ?_
  refine g_iload_n X 2 6 dX3_rehang_5 rfl rfl rfl ?_
  refine g_iast (ws' := [(b, .inr (3, [.int (nI n), .ref b0, .ref b1, .ref b2, .ref b3, .ref b4, .ref b5])), (b0, .inl (cI, 6, .inl (vr 0 (reh S rp pl)))), (b1, .inl (cI, 6, .inl (vr 1 S))), (b2, .inl (cI, 6, .inl (v6 st))), (b3, .inl (cZ, 6, .inl (vw n S))), (b4, .inl (cI, 6, .inl (vr 3 S))), (b5, .inl (cI, 6, .inl (vr 4 S)))]) X 1 0 (rp) (vr 0 (reh S rp pl)) 7 rfl rfl (by omega) (by decide) (reh_0 hk) dX3_rehang_6 rfl rfl ?_
  refine g_aload_n X 0 8 dX3_rehang_7 rfl rfl rfl ?_
  refine g_get X hiX3 0 2 11 rfl rfl (by decide) (List.mem_of_getElem? (i := 2) rfl) rfl dX3_rehang_8 rfl ?_
  refine g_iload_n X 1 12 dX3_rehang_11 rfl rfl rfl ?_
  refine g_iconst X (nI 0) 13 dX3_rehang_12 rfl (by decide +kernel) ?_
  refine g_iast (ws' := [(b, .inr (3, [.int (nI n), .ref b0, .ref b1, .ref b2, .ref b3, .ref b4, .ref b5])), (b0, .inl (cI, 6, .inl (vr 0 (reh S rp pl)))), (b1, .inl (cI, 6, .inl (vr 1 (reh S rp pl)))), (b2, .inl (cI, 6, .inl (v6 st))), (b3, .inl (cZ, 6, .inl (vw n S))), (b4, .inl (cI, 6, .inl (vr 3 S))), (b5, .inl (cI, 6, .inl (vr 4 S)))]) X 2 0 (rp) (vr 1 (reh S rp pl)) 14 rfl rfl (by omega) (by decide) (reh_1 hk) dX3_rehang_13 rfl rfl ?_
  refine g_aload_n X 0 15 dX3_rehang_14 rfl rfl rfl ?_
  refine g_get X hiX3 0 6 18 rfl rfl (by decide) (List.mem_of_getElem? (i := 3) rfl) rfl dX3_rehang_15 rfl ?_
  refine g_iload_n X 1 19 dX3_rehang_18 rfl rfl rfl ?_
  refine g_dup2 X 20 dX3_rehang_19 rfl rfl rfl ?_
  refine g_iald X 6 0 (rp) (nI (S (100 + 5 * rp + 4))) 21 rfl rfl (by omega) (by decide) (vr_at hk) dX3_rehang_20 rfl ?_
  refine g_iconst X (nI 1) 22 dX3_rehang_21 rfl (by decide +kernel) ?_
  refine g_iadd X (nI ((S (100 + 5 * rp + 4)) + 1)) 23 dX3_rehang_22 rfl (nI_add _ _) ?_
  refine g_iast (ws' := [(b, .inr (3, [.int (nI n), .ref b0, .ref b1, .ref b2, .ref b3, .ref b4, .ref b5])), (b0, .inl (cI, 6, .inl (vr 0 (reh S rp pl)))), (b1, .inl (cI, 6, .inl (vr 1 (reh S rp pl)))), (b2, .inl (cI, 6, .inl (v6 st))), (b3, .inl (cZ, 6, .inl (vw n S))), (b4, .inl (cI, 6, .inl (vr 3 S))), (b5, .inl (cI, 6, .inl (vr 4 (reh S rp pl))))]) X 6 0 (rp) (vr 4 (reh S rp pl)) 24 rfl rfl (by omega) (by decide) (reh_4 hk) dX3_rehang_23 rfl rfl ?_
  exact ret _ _ _ dX3_rehang_24 (by rw [reh_3, reh_w])

abbrev rm_X3_nextFreeColumn : Room := { frames := 1, cells := 0, slots := 0, locals := 22 }
set_option maxHeartbeats 4000000 in
set_option maxRecDepth 100000 in
/-- the next column of its way at which no rope hangs -/
theorem m_X3_nextFreeColumn (l : Launch) (D : va_G) (cI cZ cJ : ClassId) (b b0 b1 b2 b3 b4 b5 n : Nat) (S st : Nat → Nat) (rp : Nat) (hg : Gw S n) (hk : rp < n) : MI l yX3_nextFreeColumn wsX3_nextFreeColumn rm_X3_nextFreeColumn D (gT cI cZ cJ) [(b, .inr (3, [.int (nI n), .ref b0, .ref b1, .ref b2, .ref b3, .ref b4, .ref b5])), (b0, .inl (cI, 6, .inl (vr 0 S))), (b1, .inl (cI, 6, .inl (vr 1 S))), (b2, .inl (cI, 6, .inl (v6 st))), (b3, .inl (cZ, 6, .inl (vw n S))), (b4, .inl (cI, 6, .inl (vr 3 S))), (b5, .inl (cI, 6, .inl (vr 4 S)))] [.ref b, .int (nI rp)] (fun r u => r = nI (nfc S n rp) ∧ u = [(b, .inr (3, [.int (nI n), .ref b0, .ref b1, .ref b2, .ref b3, .ref b4, .ref b5])), (b0, .inl (cI, 6, .inl (vr 0 S))), (b1, .inl (cI, 6, .inl (vr 1 S))), (b2, .inl (cI, 6, .inl (v6 st))), (b3, .inl (cZ, 6, .inl (vw n S))), (b4, .inl (cI, 6, .inl (vr 3 S))), (b5, .inl (cI, 6, .inl (vr 4 S)))]) := by
  refine MI_of [(0, .ref b), (1, .int (nI rp))] (by decide) rfl (Nat.le_of_ble_eq_true rfl) rfl ?_
  intro p e s m args below meth c A Q X ret
  have hiX3 : ∀ w ∈ wsX30, w ∈ wsX3_nextFreeColumn := (fun _ h => List.mem_cons_of_mem _ (List.mem_append_right _ h))
  have hn : n ≤ 6 := hg.1
  have h3 := hg.2.2 rp hk
  have hwy := wyS_le S rp
  refine g_aload_n X 0 1 dX3_nextFreeColumn_0 rfl rfl rfl ?_
  refine g_get X hiX3 0 4 4 rfl rfl (by decide) (List.mem_of_getElem? (i := 1) rfl) rfl dX3_nextFreeColumn_1 rfl ?_
  refine g_iload_n X 1 5 dX3_nextFreeColumn_4 rfl rfl rfl ?_
  refine g_zald X 4 1 (rp) (nI (1 - S (100 + 5 * rp + 2))) 6 rfl rfl (by omega) (by decide) (vw_at hk) dX3_nextFreeColumn_5 rfl ?_
  refine g_if_eq X 9 13 dX3_nextFreeColumn_6 rfl (by decide) (nz_eq (by omega)) (fun hq => ?_) (fun hq => ?_)
  · refine g_bipush X (nI 11) 15 dX3_nextFreeColumn_13 rfl (by decide +kernel) ?_
    refine g_eqi (y := nI (wyS S rp)) (by unfold wyS; rw [if_neg (by omega)]) ?_
    refine g_istore_n X [(2, .int (nI (wyS S rp))), (0, .ref b), (1, .int (nI rp))] 16 dX3_nextFreeColumn_15 rfl rfl (by decide) rfl ?_
    refine g_aload_n X 1 17 dX3_nextFreeColumn_16 rfl rfl rfl ?_
    refine g_get X hiX3 0 1 20 rfl rfl (by decide) (List.mem_of_getElem? (i := 2) rfl) rfl dX3_nextFreeColumn_17 rfl ?_
    refine g_iload_n X 2 21 dX3_nextFreeColumn_20 rfl rfl rfl ?_
    refine g_iald X 1 0 (rp) (nI (S (100 + 5 * rp))) 22 rfl rfl (by omega) (by decide) (vr_at (by omega)) dX3_nextFreeColumn_21 rfl ?_
    refine g_istore_n X [(3, .int (nI (S (100 + 5 * rp)))), (2, .int (nI (wyS S rp))), (0, .ref b), (1, .int (nI rp))] 23 dX3_nextFreeColumn_22 rfl rfl (by decide) rfl ?_
    refine g_iconst X (nI 1) 24 dX3_nextFreeColumn_23 rfl (by decide +kernel) ?_
    refine g_istore X [(4, .int (nI 1)), (3, .int (nI (S (100 + 5 * rp)))), (2, .int (nI (wyS S rp))), (0, .ref b), (1, .int (nI rp))] 26 dX3_nextFreeColumn_24 rfl (by decide) rfl ?_
    have L : ∀ j : Nat, j ≤ 11 → nfc S n rp = nfR S n rp (11 - j) (cyc S rp j) → G p l e rm_X3_nextFreeColumn s m args below meth c Q D A 5 0 0 [(b, .inr (3, [.int (nI n), .ref b0, .ref b1, .ref b2, .ref b3, .ref b4, .ref b5])), (b0, .inl (cI, 6, .inl (vr 0 S))), (b1, .inl (cI, 6, .inl (vr 1 S))), (b2, .inl (cI, 6, .inl (v6 st))), (b3, .inl (cZ, 6, .inl (vw n S))), (b4, .inl (cI, 6, .inl (vr 3 S))), (b5, .inl (cI, 6, .inl (vr 4 S)))] [(4, .int (nI (j + 1))), (3, .int (nI (cyc S rp j))), (2, .int (nI (wyS S rp))), (0, .ref b), (1, .int (nI rp))] 26 [] := by
      refine g_down _ ?_ ?_
      · intro hnx
        refine g_iload X 0 28 dX3_nextFreeColumn_26 rfl rfl ?_
        refine g_bipush X (nI 12) 30 dX3_nextFreeColumn_28 rfl (by decide +kernel) ?_
        refine g_icmp_ge X 33 56 dX3_nextFreeColumn_30 rfl (by decide) (nI_leI (by omega) (by omega)) (fun h30 => ?_) (fun h30 => absurd h30 (by decide))
        refine g_aload_n X 3 57 dX3_nextFreeColumn_56 rfl rfl rfl ?_
        refine g_get X hiX3 0 1 60 rfl rfl (by decide) (List.mem_of_getElem? (i := 2) rfl) rfl dX3_nextFreeColumn_57 rfl ?_
        refine g_iload_n X 4 61 dX3_nextFreeColumn_60 rfl rfl rfl ?_
        refine g_iald X 1 0 (rp) (nI (S (100 + 5 * rp))) 62 rfl rfl (by omega) (by decide) (vr_at (by omega)) dX3_nextFreeColumn_61 rfl ?_
        exact ret _ _ _ _ dX3_nextFreeColumn_62 rfl ⟨by rw [hnx]; rfl, rfl⟩
      · intro j hj ih_j hnx
        refine g_iload X 0 28 dX3_nextFreeColumn_26 rfl rfl ?_
        refine g_bipush X (nI 12) 30 dX3_nextFreeColumn_28 rfl (by decide +kernel) ?_
        refine g_icmp_ge X 33 56 dX3_nextFreeColumn_30 rfl (by decide) (nI_leI (by omega) (by omega)) (fun h30 => absurd h30 (by omega)) (fun h30 => ?_)
        have hcy := cyc_lt h3.1 j
        refine g_iload_n X 1 34 dX3_nextFreeColumn_33 rfl rfl rfl ?_
        refine g_iload_n X 2 35 dX3_nextFreeColumn_34 rfl rfl rfl ?_
        refine g_iadd X (nI ((cyc S rp j) + (wyS S rp))) 36 dX3_nextFreeColumn_35 rfl (nI_add _ _) ?_
        refine g_bipush X (nI 12) 38 dX3_nextFreeColumn_36 rfl (by decide +kernel) ?_
        refine g_irem X (nI (((cyc S rp j) + (wyS S rp)) % 12)) 39 dX3_nextFreeColumn_38 rfl (nI_ne0 (by omega) (by omega)) (pk_rem (by omega) (by omega) (by omega)) ?_
        refine g_istore_n X [(3, .int (nI (((cyc S rp j) + (wyS S rp)) % 12))), (4, .int (nI (j + 1))), (2, .int (nI (wyS S rp))), (0, .ref b), (1, .int (nI rp))] 40 dX3_nextFreeColumn_39 rfl rfl (by decide) rfl ?_
        refine g_aload_n X 3 41 dX3_nextFreeColumn_40 rfl rfl rfl ?_
        refine g_iload_n X 0 42 dX3_nextFreeColumn_41 rfl rfl rfl ?_
        rw [show 11 - j = (11 - (j + 1)) + 1 by omega] at hnx
        refine g_callVi (ws' := [(b, .inr (3, [.int (nI n), .ref b0, .ref b1, .ref b2, .ref b3, .ref b4, .ref b5])), (b0, .inl (cI, 6, .inl (vr 0 S))), (b1, .inl (cI, 6, .inl (vr 1 S))), (b2, .inl (cI, 6, .inl (v6 st))), (b3, .inl (cZ, 6, .inl (vw n S))), (b4, .inl (cI, 6, .inl (vr 3 S))), (b5, .inl (cI, 6, .inl (vr 4 S)))]) X (m_X3_hangAt l D cI cZ cJ b b0 b1 b2 b3 b4 b5 n S st ((cyc S rp j + wyS S rp) % 12) hn (fun r hr => (hg.2.2 r hr).1) (Nat.mod_lt _ (by decide))) 45 [0, 1, 2, 3, 4, 5, 6] gX3_nextFreeColumn_X3_hangAt (n := 1) rfl (by decide +kernel) rfl ⟨Nat.le_of_ble_eq_true rfl, Nat.le_of_ble_eq_true rfl⟩ (ci := 3) (q0 := 0) rfl rfl rfl (Nat.le_of_ble_eq_true rfl) rfl (by decide +kernel) rfl rfl dX3_nextFreeColumn_42 rfl ⟨Nat.le_of_ble_eq_true rfl, Nat.le_of_ble_eq_true rfl⟩ ?_
        refine g_if_ne X 48 50 dX3_nextFreeColumn_45 rfl (by decide) (bn_eq0 _) (fun hh => ?_) (fun hh => ?_)
        · refine g_iinc X 1 (nI (j + 1 + 1)) [(4, .int (nI (j + 1 + 1))), (3, .int (nI (((cyc S rp j) + (wyS S rp)) % 12))), (2, .int (nI (wyS S rp))), (0, .ref b), (1, .int (nI rp))] 53 dX3_nextFreeColumn_50 rfl rfl (nI_inc _) (by decide) rfl ?_
          refine g_goto X 26 dX3_nextFreeColumn_53 (by decide) ?_
          exact ih_j (by rw [hnx, nfR_t (by simpa using hh)]; rfl)
        · refine g_iload_n X 0 49 dX3_nextFreeColumn_48 rfl rfl rfl ?_
          exact ret _ _ _ _ dX3_nextFreeColumn_49 rfl ⟨by rw [hnx, nfR_f hh], rfl⟩
    exact L 0 (Nat.zero_le _) rfl
  · refine g_iconst X (nI 1) 10 dX3_nextFreeColumn_9 rfl (by decide +kernel) ?_
    refine g_goto X 15 dX3_nextFreeColumn_10 (by decide) ?_
    refine g_eqi (y := nI (wyS S rp)) (by unfold wyS; rw [if_pos (by omega)]) ?_
    refine g_istore_n X [(2, .int (nI (wyS S rp))), (0, .ref b), (1, .int (nI rp))] 16 dX3_nextFreeColumn_15 rfl rfl (by decide) rfl ?_
    refine g_aload_n X 1 17 dX3_nextFreeColumn_16 rfl rfl rfl ?_
    refine g_get X hiX3 0 1 20 rfl rfl (by decide) (List.mem_of_getElem? (i := 2) rfl) rfl dX3_nextFreeColumn_17 rfl ?_
    refine g_iload_n X 2 21 dX3_nextFreeColumn_20 rfl rfl rfl ?_
    refine g_iald X 1 0 (rp) (nI (S (100 + 5 * rp))) 22 rfl rfl (by omega) (by decide) (vr_at (by omega)) dX3_nextFreeColumn_21 rfl ?_
    refine g_istore_n X [(3, .int (nI (S (100 + 5 * rp)))), (2, .int (nI (wyS S rp))), (0, .ref b), (1, .int (nI rp))] 23 dX3_nextFreeColumn_22 rfl rfl (by decide) rfl ?_
    refine g_iconst X (nI 1) 24 dX3_nextFreeColumn_23 rfl (by decide +kernel) ?_
    refine g_istore X [(4, .int (nI 1)), (3, .int (nI (S (100 + 5 * rp)))), (2, .int (nI (wyS S rp))), (0, .ref b), (1, .int (nI rp))] 26 dX3_nextFreeColumn_24 rfl (by decide) rfl ?_
    have L : ∀ j : Nat, j ≤ 11 → nfc S n rp = nfR S n rp (11 - j) (cyc S rp j) → G p l e rm_X3_nextFreeColumn s m args below meth c Q D A 5 0 0 [(b, .inr (3, [.int (nI n), .ref b0, .ref b1, .ref b2, .ref b3, .ref b4, .ref b5])), (b0, .inl (cI, 6, .inl (vr 0 S))), (b1, .inl (cI, 6, .inl (vr 1 S))), (b2, .inl (cI, 6, .inl (v6 st))), (b3, .inl (cZ, 6, .inl (vw n S))), (b4, .inl (cI, 6, .inl (vr 3 S))), (b5, .inl (cI, 6, .inl (vr 4 S)))] [(4, .int (nI (j + 1))), (3, .int (nI (cyc S rp j))), (2, .int (nI (wyS S rp))), (0, .ref b), (1, .int (nI rp))] 26 [] := by
      refine g_down _ ?_ ?_
      · intro hnx
        refine g_iload X 0 28 dX3_nextFreeColumn_26 rfl rfl ?_
        refine g_bipush X (nI 12) 30 dX3_nextFreeColumn_28 rfl (by decide +kernel) ?_
        refine g_icmp_ge X 33 56 dX3_nextFreeColumn_30 rfl (by decide) (nI_leI (by omega) (by omega)) (fun h30 => ?_) (fun h30 => absurd h30 (by decide))
        refine g_aload_n X 3 57 dX3_nextFreeColumn_56 rfl rfl rfl ?_
        refine g_get X hiX3 0 1 60 rfl rfl (by decide) (List.mem_of_getElem? (i := 2) rfl) rfl dX3_nextFreeColumn_57 rfl ?_
        refine g_iload_n X 4 61 dX3_nextFreeColumn_60 rfl rfl rfl ?_
        refine g_iald X 1 0 (rp) (nI (S (100 + 5 * rp))) 62 rfl rfl (by omega) (by decide) (vr_at (by omega)) dX3_nextFreeColumn_61 rfl ?_
        exact ret _ _ _ _ dX3_nextFreeColumn_62 rfl ⟨by rw [hnx]; rfl, rfl⟩
      · intro j hj ih_j hnx
        refine g_iload X 0 28 dX3_nextFreeColumn_26 rfl rfl ?_
        refine g_bipush X (nI 12) 30 dX3_nextFreeColumn_28 rfl (by decide +kernel) ?_
        refine g_icmp_ge X 33 56 dX3_nextFreeColumn_30 rfl (by decide) (nI_leI (by omega) (by omega)) (fun h30 => absurd h30 (by omega)) (fun h30 => ?_)
        have hcy := cyc_lt h3.1 j
        refine g_iload_n X 1 34 dX3_nextFreeColumn_33 rfl rfl rfl ?_
        refine g_iload_n X 2 35 dX3_nextFreeColumn_34 rfl rfl rfl ?_
        refine g_iadd X (nI ((cyc S rp j) + (wyS S rp))) 36 dX3_nextFreeColumn_35 rfl (nI_add _ _) ?_
        refine g_bipush X (nI 12) 38 dX3_nextFreeColumn_36 rfl (by decide +kernel) ?_
        refine g_irem X (nI (((cyc S rp j) + (wyS S rp)) % 12)) 39 dX3_nextFreeColumn_38 rfl (nI_ne0 (by omega) (by omega)) (pk_rem (by omega) (by omega) (by omega)) ?_
        refine g_istore_n X [(3, .int (nI (((cyc S rp j) + (wyS S rp)) % 12))), (4, .int (nI (j + 1))), (2, .int (nI (wyS S rp))), (0, .ref b), (1, .int (nI rp))] 40 dX3_nextFreeColumn_39 rfl rfl (by decide) rfl ?_
        refine g_aload_n X 3 41 dX3_nextFreeColumn_40 rfl rfl rfl ?_
        refine g_iload_n X 0 42 dX3_nextFreeColumn_41 rfl rfl rfl ?_
        rw [show 11 - j = (11 - (j + 1)) + 1 by omega] at hnx
        refine g_callVi (ws' := [(b, .inr (3, [.int (nI n), .ref b0, .ref b1, .ref b2, .ref b3, .ref b4, .ref b5])), (b0, .inl (cI, 6, .inl (vr 0 S))), (b1, .inl (cI, 6, .inl (vr 1 S))), (b2, .inl (cI, 6, .inl (v6 st))), (b3, .inl (cZ, 6, .inl (vw n S))), (b4, .inl (cI, 6, .inl (vr 3 S))), (b5, .inl (cI, 6, .inl (vr 4 S)))]) X (m_X3_hangAt l D cI cZ cJ b b0 b1 b2 b3 b4 b5 n S st ((cyc S rp j + wyS S rp) % 12) hn (fun r hr => (hg.2.2 r hr).1) (Nat.mod_lt _ (by decide))) 45 [0, 1, 2, 3, 4, 5, 6] gX3_nextFreeColumn_X3_hangAt (n := 1) rfl (by decide +kernel) rfl ⟨Nat.le_of_ble_eq_true rfl, Nat.le_of_ble_eq_true rfl⟩ (ci := 3) (q0 := 0) rfl rfl rfl (Nat.le_of_ble_eq_true rfl) rfl (by decide +kernel) rfl rfl dX3_nextFreeColumn_42 rfl ⟨Nat.le_of_ble_eq_true rfl, Nat.le_of_ble_eq_true rfl⟩ ?_
        refine g_if_ne X 48 50 dX3_nextFreeColumn_45 rfl (by decide) (bn_eq0 _) (fun hh => ?_) (fun hh => ?_)
        · refine g_iinc X 1 (nI (j + 1 + 1)) [(4, .int (nI (j + 1 + 1))), (3, .int (nI (((cyc S rp j) + (wyS S rp)) % 12))), (2, .int (nI (wyS S rp))), (0, .ref b), (1, .int (nI rp))] 53 dX3_nextFreeColumn_50 rfl rfl (nI_inc _) (by decide) rfl ?_
          refine g_goto X 26 dX3_nextFreeColumn_53 (by decide) ?_
          exact ih_j (by rw [hnx, nfR_t (by simpa using hh)]; rfl)
        · refine g_iload_n X 0 49 dX3_nextFreeColumn_48 rfl rfl rfl ?_
          exact ret _ _ _ _ dX3_nextFreeColumn_49 rfl ⟨by rw [hnx, nfR_f hh], rfl⟩
    exact L 0 (Nat.zero_le _) rfl

abbrev rm_X3_workOnOne : Room := { frames := 2, cells := 0, slots := 0, locals := 46 }
set_option maxHeartbeats 4000000 in
set_option maxRecDepth 100000 in
/-- a day of one rope -/
theorem m_X3_workOnOne (l : Launch) (D : va_G) (cI cZ cJ : ClassId) (b b0 b1 b2 b3 b4 b5 n : Nat) (S st : Nat → Nat) (g a : Nat) (rp : Nat) (hg : Gw S n) (hk : rp < n) (hst : st rp ≤ 30) : MV l yX3_workOnOne wsX3_workOnOne rm_X3_workOnOne D (gT cI cZ cJ) [(b, .inr (3, [.int (nI n), .ref b0, .ref b1, .ref b2, .ref b3, .ref b4, .ref b5])), (b0, .inl (cI, 6, .inl (vr 0 S))), (b1, .inl (cI, 6, .inl (vr 1 S))), (b2, .inl (cI, 6, .inl (v6 st))), (b3, .inl (cZ, 6, .inl (vw n S))), (b4, .inl (cI, 6, .inl (vr 3 S))), (b5, .inl (cI, 6, .inl (vr 4 S))), (g, .inr (2, [.ref a])), (a, .inl (cI, 96, .inl (vs S)))] [.ref b, .int (nI rp), .ref g] (fun u => u = [(b, .inr (3, [.int (nI n), .ref b0, .ref b1, .ref b2, .ref b3, .ref b4, .ref b5])), (b0, .inl (cI, 6, .inl (vr 0 (wk n rp 31 (st rp) S)))), (b1, .inl (cI, 6, .inl (vr 1 (wk n rp 31 (st rp) S)))), (b2, .inl (cI, 6, .inl (v6 st))), (b3, .inl (cZ, 6, .inl (vw n (wk n rp 31 (st rp) S)))), (b4, .inl (cI, 6, .inl (vr 3 (wk n rp 31 (st rp) S)))), (b5, .inl (cI, 6, .inl (vr 4 (wk n rp 31 (st rp) S)))), (g, .inr (2, [.ref a])), (a, .inl (cI, 96, .inl (vs (wk n rp 31 (st rp) S))))]) := by
  refine MV_of [(0, .ref b), (1, .int (nI rp)), (2, .ref g)] (by decide) rfl (Nat.le_of_ble_eq_true rfl) rfl ?_
  intro p e s m args below meth c A Q X ret
  have hiX3 : ∀ w ∈ wsX30, w ∈ wsX3_workOnOne := (fun _ h => List.mem_cons_of_mem _ (List.mem_append_left _ (List.mem_append_right _ h)))
  have hn : n ≤ 6 := hg.1
  refine g_aload_n X 0 1 dX3_workOnOne_0 rfl rfl rfl ?_
  refine g_get X hiX3 0 3 4 rfl rfl (by decide) (List.mem_of_getElem? (i := 1) rfl) rfl dX3_workOnOne_1 rfl ?_
  refine g_iload_n X 1 5 dX3_workOnOne_4 rfl rfl rfl ?_
  refine g_iald X 3 0 (rp) (nI (st rp)) 6 rfl rfl (by omega) (by decide) (v6_at (by omega)) dX3_workOnOne_5 rfl ?_
  refine g_istore_n X [(3, .int (nI (st rp))), (0, .ref b), (1, .int (nI rp)), (2, .ref g)] 7 dX3_workOnOne_6 rfl rfl (by decide) rfl ?_
  refine g_iconst X (nI 0) 8 dX3_workOnOne_7 rfl (by decide +kernel) ?_
  refine g_istore X [(4, .int (nI 0)), (3, .int (nI (st rp))), (0, .ref b), (1, .int (nI rp)), (2, .ref g)] 10 dX3_workOnOne_8 rfl (by decide) rfl ?_
  have L : ∀ j : Nat, j ≤ 30 → ∀ (S1 : Nat → Nat) (lf : Nat), Gw S1 n → lf ≤ 30 - j → wk n rp (30 - j + 1) lf S1 = wk n rp 31 (st rp) S → G p l e rm_X3_workOnOne s m args below meth c Q D A 6 0 0 [(b, .inr (3, [.int (nI n), .ref b0, .ref b1, .ref b2, .ref b3, .ref b4, .ref b5])), (b0, .inl (cI, 6, .inl (vr 0 S1))), (b1, .inl (cI, 6, .inl (vr 1 S1))), (b2, .inl (cI, 6, .inl (v6 st))), (b3, .inl (cZ, 6, .inl (vw n S1))), (b4, .inl (cI, 6, .inl (vr 3 S1))), (b5, .inl (cI, 6, .inl (vr 4 S1))), (g, .inr (2, [.ref a])), (a, .inl (cI, 96, .inl (vs S1)))] [(4, .int (nI j)), (3, .int (nI lf)), (0, .ref b), (1, .int (nI rp)), (2, .ref g)] 10 [] := by
    refine g_down _ ?_ ?_
    · intro S1 lf hg1 hlf hq
      refine g_iload X 0 12 dX3_workOnOne_10 rfl rfl ?_
      refine g_bipush X (nI 30) 14 dX3_workOnOne_12 rfl (by decide +kernel) ?_
      refine g_icmp_ge X 17 112 dX3_workOnOne_14 rfl (by decide) (nI_leI (by omega) (by omega)) (fun h14 => ?_) (fun h14 => absurd (Nat.le_refl _) h14)
      have h0 : lf = 0 := by omega
      subst h0
      rw [wk_0] at hq
      exact ret _ _ _ dX3_workOnOne_112 (by rw [← hq])
    · intro j hj ih_j S1 lf hg1 hlf hq
      refine g_iload X 0 12 dX3_workOnOne_10 rfl rfl ?_
      refine g_bipush X (nI 30) 14 dX3_workOnOne_12 rfl (by decide +kernel) ?_
      refine g_icmp_ge X 17 112 dX3_workOnOne_14 rfl (by decide) (nI_leI (by omega) (by omega)) (fun h14 => absurd h14 (by omega)) (fun h14 => ?_)
      have h3 := hg1.2.2 rp hk
      have hpn := pnR_lt hg1 hk
      have hof : ofR S1 rp lf ≤ lf := Nat.min_le_left _ _
      refine g_aload_n X 4 18 dX3_workOnOne_17 rfl rfl rfl ?_
      refine g_aload_n X 2 19 dX3_workOnOne_18 rfl rfl rfl ?_
      refine g_get X hiX3 0 1 22 rfl rfl (by decide) (List.mem_of_getElem? (i := 2) rfl) rfl dX3_workOnOne_19 rfl ?_
      refine g_iload_n X 3 23 dX3_workOnOne_22 rfl rfl rfl ?_
      refine g_iald X 1 0 (rp) (nI (S1 (100 + 5 * rp))) 24 rfl rfl (by omega) (by decide) (vr_at (by omega)) dX3_workOnOne_23 rfl ?_
      refine g_aload_n X 2 25 dX3_workOnOne_24 rfl rfl rfl ?_
      refine g_get X hiX3 0 2 28 rfl rfl (by decide) (List.mem_of_getElem? (i := 3) rfl) rfl dX3_workOnOne_25 rfl ?_
      refine g_iload_n X 3 29 dX3_workOnOne_28 rfl rfl rfl ?_
      refine g_iald X 2 0 (rp) (nI (S1 (100 + 5 * rp + 1))) 30 rfl rfl (by omega) (by decide) (vr_at (by omega)) dX3_workOnOne_29 rfl ?_
      refine g_iload_n X 1 31 dX3_workOnOne_30 rfl rfl rfl ?_
      refine g_callVi (ws' := [(b, .inr (3, [.int (nI n), .ref b0, .ref b1, .ref b2, .ref b3, .ref b4, .ref b5])), (b0, .inl (cI, 6, .inl (vr 0 S1))), (b1, .inl (cI, 6, .inl (vr 1 S1))), (b2, .inl (cI, 6, .inl (v6 st))), (b3, .inl (cZ, 6, .inl (vw n S1))), (b4, .inl (cI, 6, .inl (vr 3 S1))), (b5, .inl (cI, 6, .inl (vr 4 S1))), (g, .inr (2, [.ref a])), (a, .inl (cI, 96, .inl (vs (tkS S1 rp lf))))]) X (m_X2_takeOff l D cI cZ cJ g a (S1 (100 + 5 * rp)) (S1 (100 + 5 * rp + 1)) lf S1 h3.1 h3.2.1 hg1.2.1 (by omega)) 34 [7, 8] gX3_workOnOne_X2_takeOff (n := 3) rfl (by decide +kernel) rfl ⟨Nat.le_of_ble_eq_true rfl, Nat.le_of_ble_eq_true rfl⟩ (ci := 2) (q0 := 0) rfl rfl rfl (Nat.le_of_ble_eq_true rfl) rfl (by decide +kernel) rfl (by rw [tk_s]; rfl) dX3_workOnOne_31 rfl ⟨Nat.le_of_ble_eq_true rfl, Nat.le_of_ble_eq_true rfl⟩ ?_
      refine g_eqi (y := nI (ofR S1 rp lf)) rfl ?_
      refine g_istore X [(5, .int (nI (ofR S1 rp lf))), (4, .int (nI j)), (3, .int (nI lf)), (0, .ref b), (1, .int (nI rp)), (2, .ref g)] 36 dX3_workOnOne_34 rfl (by decide) rfl ?_
      refine g_aload_n X 3 37 dX3_workOnOne_36 rfl rfl rfl ?_
      refine g_get X hiX3 0 5 40 rfl rfl (by decide) (List.mem_of_getElem? (i := 4) rfl) rfl dX3_workOnOne_37 rfl ?_
      refine g_iload_n X 4 41 dX3_workOnOne_40 rfl rfl rfl ?_
      refine g_dup2 X 42 dX3_workOnOne_41 rfl rfl rfl ?_
      refine g_iald X 5 0 (rp) (nI (S1 (100 + 5 * rp + 3))) 43 rfl rfl (by omega) (by decide) (vr_at (by omega)) dX3_workOnOne_42 rfl ?_
      refine g_iload X 0 45 dX3_workOnOne_43 rfl rfl ?_
      refine g_iadd X (nI ((S1 (100 + 5 * rp + 3)) + (ofR S1 rp lf))) 46 dX3_workOnOne_45 rfl (nI_add _ _) ?_
      refine g_iast (ws' := [(b, .inr (3, [.int (nI n), .ref b0, .ref b1, .ref b2, .ref b3, .ref b4, .ref b5])), (b0, .inl (cI, 6, .inl (vr 0 (tkS S1 rp lf)))), (b1, .inl (cI, 6, .inl (vr 1 (tkS S1 rp lf)))), (b2, .inl (cI, 6, .inl (v6 st))), (b3, .inl (cZ, 6, .inl (vw n (tkS S1 rp lf)))), (b4, .inl (cI, 6, .inl (vr 3 (tkS S1 rp lf)))), (b5, .inl (cI, 6, .inl (vr 4 (tkS S1 rp lf)))), (g, .inr (2, [.ref a])), (a, .inl (cI, 96, .inl (vs (tkS S1 rp lf))))]) X 5 0 (rp) (vr 3 (tkS S1 rp lf)) 47 rfl rfl (by omega) (by decide) (tk_3 hg1 hk) dX3_workOnOne_46 rfl (by rw [tk_q (q := 0) hg1 hk (by decide) (by decide), tk_q (q := 1) hg1 hk (by decide) (by decide), tk_q (q := 4) hg1 hk (by decide) (by decide), tk_w hg1 hk]; rfl) ?_
      have hg2 := tkS_gw (lf := lf) hg1 hk
      have e1 : tkS S1 rp lf (100 + 5 * rp + 1) = S1 (100 + 5 * rp + 1) := tkS_hi hg1 hk (by omega) (by omega)
      refine g_iload_n X 2 48 dX3_workOnOne_47 rfl rfl rfl ?_
      refine g_iload X 0 50 dX3_workOnOne_48 rfl rfl ?_
      refine g_isub X (nI (lf - (ofR S1 rp lf))) 51 dX3_workOnOne_50 rfl (pk_sub (by omega)) ?_
      refine g_istore_n X [(3, .int (nI (lf - (ofR S1 rp lf)))), (5, .int (nI (ofR S1 rp lf))), (4, .int (nI j)), (0, .ref b), (1, .int (nI rp)), (2, .ref g)] 52 dX3_workOnOne_51 rfl rfl (by decide) rfl ?_
      refine g_iload_n X 0 53 dX3_workOnOne_52 rfl rfl rfl ?_
      refine g_if_ne X 56 57 dX3_workOnOne_53 rfl (by decide) (nz_eq (by omega)) (fun hz => ?_) (fun hz => ?_)
      · refine g_aload_n X 3 58 dX3_workOnOne_57 rfl rfl rfl ?_
        refine g_get X hiX3 0 2 61 rfl rfl (by decide) (List.mem_of_getElem? (i := 3) rfl) rfl dX3_workOnOne_58 rfl ?_
        refine g_iload_n X 4 62 dX3_workOnOne_61 rfl rfl rfl ?_
        refine g_iald X 2 0 (rp) (nI (S1 (100 + 5 * rp + 1))) 63 rfl rfl (by omega) (by decide) ((vr_at (by omega)).trans (congrArg nI e1)) dX3_workOnOne_62 rfl ?_
        refine g_bipush X (nI 7) 65 dX3_workOnOne_63 rfl (by decide +kernel) ?_
        refine g_icmp_ge X 68 84 dX3_workOnOne_65 rfl (by decide) (nI_leI (by omega) (by omega)) (fun h7 => ?_) (fun h7 => ?_)
        · refine g_iload_n X 0 85 dX3_workOnOne_84 rfl rfl rfl ?_
          refine g_iconst X (nI 3) 86 dX3_workOnOne_85 rfl (by decide +kernel) ?_
          refine g_icmp_lt X 89 105 dX3_workOnOne_86 rfl (by decide) (nI_ltI (by omega) (by omega)) (fun h3l => ?_) (fun h3l => ?_)
          · exact ret _ _ _ dX3_workOnOne_105 (by rw [← hq, wk_end hz (by omega) h3l])
          · refine g_aload_n X 3 90 dX3_workOnOne_89 rfl rfl rfl ?_
            refine g_iload_n X 4 91 dX3_workOnOne_90 rfl rfl rfl ?_
            refine g_aload_n X 3 92 dX3_workOnOne_91 rfl rfl rfl ?_
            refine g_iload_n X 4 93 dX3_workOnOne_92 rfl rfl rfl ?_
            refine g_callVi (ws' := [(b, .inr (3, [.int (nI n), .ref b0, .ref b1, .ref b2, .ref b3, .ref b4, .ref b5])), (b0, .inl (cI, 6, .inl (vr 0 (tkS S1 rp lf)))), (b1, .inl (cI, 6, .inl (vr 1 (tkS S1 rp lf)))), (b2, .inl (cI, 6, .inl (v6 st))), (b3, .inl (cZ, 6, .inl (vw n (tkS S1 rp lf)))), (b4, .inl (cI, 6, .inl (vr 3 (tkS S1 rp lf)))), (b5, .inl (cI, 6, .inl (vr 4 (tkS S1 rp lf)))), (g, .inr (2, [.ref a])), (a, .inl (cI, 96, .inl (vs (tkS S1 rp lf))))]) X (m_X3_nextFreeColumn l D cI cZ cJ b b0 b1 b2 b3 b4 b5 n (tkS S1 rp lf) st rp hg2 hk) 96 [0, 1, 2, 3, 4, 5, 6] gX3_workOnOne_X3_nextFreeColumn (n := 1) rfl (by decide +kernel) rfl ⟨Nat.le_of_ble_eq_true rfl, Nat.le_of_ble_eq_true rfl⟩ (ci := 3) (q0 := 0) rfl rfl rfl (Nat.le_of_ble_eq_true rfl) rfl (by decide +kernel) rfl rfl dX3_workOnOne_93 rfl ⟨Nat.le_of_ble_eq_true rfl, Nat.le_of_ble_eq_true rfl⟩ ?_
            refine g_callVv (ws' := [(b, .inr (3, [.int (nI n), .ref b0, .ref b1, .ref b2, .ref b3, .ref b4, .ref b5])), (b0, .inl (cI, 6, .inl (vr 0 (reh (tkS S1 rp lf) rp (nfc (tkS S1 rp lf) n rp))))), (b1, .inl (cI, 6, .inl (vr 1 (reh (tkS S1 rp lf) rp (nfc (tkS S1 rp lf) n rp))))), (b2, .inl (cI, 6, .inl (v6 st))), (b3, .inl (cZ, 6, .inl (vw n (reh (tkS S1 rp lf) rp (nfc (tkS S1 rp lf) n rp))))), (b4, .inl (cI, 6, .inl (vr 3 (reh (tkS S1 rp lf) rp (nfc (tkS S1 rp lf) n rp))))), (b5, .inl (cI, 6, .inl (vr 4 (reh (tkS S1 rp lf) rp (nfc (tkS S1 rp lf) n rp))))), (g, .inr (2, [.ref a])), (a, .inl (cI, 96, .inl (vs (reh (tkS S1 rp lf) rp (nfc (tkS S1 rp lf) n rp)))))]) X (m_X3_rehang l D cI cZ cJ b b0 b1 b2 b3 b4 b5 n (tkS S1 rp lf) st rp (nfc (tkS S1 rp lf) n rp) (by omega)) 99 [0, 1, 2, 3, 4, 5, 6] gX3_workOnOne_X3_rehang (n := 2) rfl (by decide +kernel) rfl ⟨Nat.le_of_ble_eq_true rfl, Nat.le_of_ble_eq_true rfl⟩ (ci := 3) (q0 := 0) rfl rfl rfl (Nat.le_of_ble_eq_true rfl) rfl (by decide +kernel) rfl (by rw [reh_s]; rfl) dX3_workOnOne_96 rfl ⟨Nat.le_of_ble_eq_true rfl, Nat.le_of_ble_eq_true rfl⟩ ?_
            refine g_iinc X 0 (nI (lf - (ofR S1 rp lf) - 3)) [(3, .int (nI (lf - (ofR S1 rp lf) - 3))), (5, .int (nI (ofR S1 rp lf))), (4, .int (nI j)), (0, .ref b), (1, .int (nI rp)), (2, .ref g)] 102 dX3_workOnOne_99 rfl rfl (nI_decN (k := 3) (by omega)) (by decide) rfl ?_
            refine g_goto X 106 dX3_workOnOne_102 (by decide) ?_
            refine g_iinc X 2 (nI (j + 1)) [(4, .int (nI (j + 1))), (3, .int (nI (lf - (ofR S1 rp lf) - 3))), (5, .int (nI (ofR S1 rp lf))), (0, .ref b), (1, .int (nI rp)), (2, .ref g)] 109 dX3_workOnOne_106 rfl rfl (nI_inc _) (by decide) rfl ?_
            refine g_goto X 10 dX3_workOnOne_109 (by decide) ?_
            refine g_lv (lv' := [(4, .int (nI (j + 1))), (3, .int (nI (lf - (ofR S1 rp lf) - 3))), (0, .ref b), (1, .int (nI rp)), (2, .ref g)]) [0, 1, 3, 4, 5] rfl ?_
            exact ih_j _ _ (reh_gw hg2 (nfR_lt (hg2.2.2 rp hk).1 _ _)) (by omega) (by rw [show 30 - (j + 1) + 1 = 30 - j by omega, ← wk_move hz (by omega) h3l]; exact hq)
        · refine g_aload_n X 3 69 dX3_workOnOne_68 rfl rfl rfl ?_
          refine g_get X hiX3 0 2 72 rfl rfl (by decide) (List.mem_of_getElem? (i := 3) rfl) rfl dX3_workOnOne_69 rfl ?_
          refine g_iload_n X 4 73 dX3_workOnOne_72 rfl rfl rfl ?_
          refine g_dup2 X 74 dX3_workOnOne_73 rfl rfl rfl ?_
          refine g_iald X 2 0 (rp) (nI (S1 (100 + 5 * rp + 1))) 75 rfl rfl (by omega) (by decide) ((vr_at (by omega)).trans (congrArg nI e1)) dX3_workOnOne_74 rfl ?_
          refine g_iconst X (nI 1) 76 dX3_workOnOne_75 rfl (by decide +kernel) ?_
          refine g_iadd X (nI ((S1 (100 + 5 * rp + 1)) + 1)) 77 dX3_workOnOne_76 rfl (nI_add _ _) ?_
          refine g_iast (ws' := [(b, .inr (3, [.int (nI n), .ref b0, .ref b1, .ref b2, .ref b3, .ref b4, .ref b5])), (b0, .inl (cI, 6, .inl (vr 0 (dnS (tkS S1 rp lf) rp)))), (b1, .inl (cI, 6, .inl (vr 1 (dnS (tkS S1 rp lf) rp)))), (b2, .inl (cI, 6, .inl (v6 st))), (b3, .inl (cZ, 6, .inl (vw n (dnS (tkS S1 rp lf) rp)))), (b4, .inl (cI, 6, .inl (vr 3 (dnS (tkS S1 rp lf) rp)))), (b5, .inl (cI, 6, .inl (vr 4 (dnS (tkS S1 rp lf) rp)))), (g, .inr (2, [.ref a])), (a, .inl (cI, 96, .inl (vs (dnS (tkS S1 rp lf) rp))))]) X 2 0 (rp) (vr 1 (dnS (tkS S1 rp lf) rp)) 78 rfl rfl (by omega) (by decide) (by rw [← e1]; exact dn_1 (by omega)) dX3_workOnOne_77 rfl (by rw [dn_q (q := 0) (by decide) (by decide), dn_q (q := 3) (by decide) (by decide), dn_q (q := 4) (by decide) (by decide), dn_w, dn_s]; rfl) ?_
          refine g_iinc X 0 (nI (lf - (ofR S1 rp lf) - 1)) [(3, .int (nI (lf - (ofR S1 rp lf) - 1))), (5, .int (nI (ofR S1 rp lf))), (4, .int (nI j)), (0, .ref b), (1, .int (nI rp)), (2, .ref g)] 81 dX3_workOnOne_78 rfl rfl (nI_dec (by omega)) (by decide) rfl ?_
          refine g_goto X 106 dX3_workOnOne_81 (by decide) ?_
          refine g_iinc X 2 (nI (j + 1)) [(4, .int (nI (j + 1))), (3, .int (nI (lf - (ofR S1 rp lf) - 1))), (5, .int (nI (ofR S1 rp lf))), (0, .ref b), (1, .int (nI rp)), (2, .ref g)] 109 dX3_workOnOne_106 rfl rfl (nI_inc _) (by decide) rfl ?_
          refine g_goto X 10 dX3_workOnOne_109 (by decide) ?_
          refine g_lv (lv' := [(4, .int (nI (j + 1))), (3, .int (nI (lf - (ofR S1 rp lf) - 1))), (0, .ref b), (1, .int (nI rp)), (2, .ref g)]) [0, 1, 3, 4, 5] rfl ?_
          exact ih_j _ _ (dnS_gw hg2 (by omega)) (by omega) (by rw [show 30 - (j + 1) + 1 = 30 - j by omega, ← wk_down hz (by omega)]; exact hq)
      · exact ret _ _ _ dX3_workOnOne_56 (by rw [← hq, wk_stop hz])
  exact L 0 (Nat.zero_le _) S (st rp) hg (by omega) rfl

abbrev rm_X3_work : Room := { frames := 3, cells := 0, slots := 0, locals := 71 }
set_option maxHeartbeats 4000000 in
set_option maxRecDepth 100000 in
/-- a day of all ropes -/
theorem m_X3_work (l : Launch) (D : va_G) (cI cZ cJ : ClassId) (b b0 b1 b2 b3 b4 b5 n : Nat) (S st : Nat → Nat) (g a : Nat) (hg : Gw S n) (hst : ∀ r : Nat, r < n → st r ≤ 30) : MV l yX3_work wsX3_work rm_X3_work D (gT cI cZ cJ) [(b, .inr (3, [.int (nI n), .ref b0, .ref b1, .ref b2, .ref b3, .ref b4, .ref b5])), (b0, .inl (cI, 6, .inl (vr 0 S))), (b1, .inl (cI, 6, .inl (vr 1 S))), (b2, .inl (cI, 6, .inl (v6 st))), (b3, .inl (cZ, 6, .inl (vw n S))), (b4, .inl (cI, 6, .inl (vr 3 S))), (b5, .inl (cI, 6, .inl (vr 4 S))), (g, .inr (2, [.ref a])), (a, .inl (cI, 96, .inl (vs S)))] [.ref b, .ref g] (fun u => u = [(b, .inr (3, [.int (nI n), .ref b0, .ref b1, .ref b2, .ref b3, .ref b4, .ref b5])), (b0, .inl (cI, 6, .inl (vr 0 (wkA n st S n)))), (b1, .inl (cI, 6, .inl (vr 1 (wkA n st S n)))), (b2, .inl (cI, 6, .inl (v6 st))), (b3, .inl (cZ, 6, .inl (vw n (wkA n st S n)))), (b4, .inl (cI, 6, .inl (vr 3 (wkA n st S n)))), (b5, .inl (cI, 6, .inl (vr 4 (wkA n st S n)))), (g, .inr (2, [.ref a])), (a, .inl (cI, 96, .inl (vs (wkA n st S n))))]) := by
  refine MV_of [(0, .ref b), (1, .ref g)] (by decide) rfl (Nat.le_of_ble_eq_true rfl) rfl ?_
  intro p e s m args below meth c A Q X ret
  have hiX3 : ∀ w ∈ wsX30, w ∈ wsX3_work := (fun _ h => List.mem_cons_of_mem _ (List.mem_append_left _ (List.mem_append_right _ h)))
  refine g_iconst X (nI 0) 1 dX3_work_0 rfl (by decide +kernel) ?_
  refine g_istore_n X [(2, .int (nI 0)), (0, .ref b), (1, .ref g)] 2 dX3_work_1 rfl rfl (by decide) rfl ?_
  have hn : n ≤ 6 := hg.1
  have L : ∀ j : Nat, j ≤ n → G p l e rm_X3_work s m args below meth c Q D A 3 0 0 [(b, .inr (3, [.int (nI n), .ref b0, .ref b1, .ref b2, .ref b3, .ref b4, .ref b5])), (b0, .inl (cI, 6, .inl (vr 0 (wkA n st S j)))), (b1, .inl (cI, 6, .inl (vr 1 (wkA n st S j)))), (b2, .inl (cI, 6, .inl (v6 st))), (b3, .inl (cZ, 6, .inl (vw n (wkA n st S j)))), (b4, .inl (cI, 6, .inl (vr 3 (wkA n st S j)))), (b5, .inl (cI, 6, .inl (vr 4 (wkA n st S j)))), (g, .inr (2, [.ref a])), (a, .inl (cI, 96, .inl (vs (wkA n st S j))))] [(2, .int (nI j)), (0, .ref b), (1, .ref g)] 2 [] := by
    refine g_down _ ?_ ?_
    · refine g_iload_n X 0 3 dX3_work_2 rfl rfl rfl ?_
      refine g_aload_n X 1 4 dX3_work_3 rfl rfl rfl ?_
      refine g_get X hiX3 0 0 7 rfl rfl (by decide) (List.mem_of_getElem? (i := 1) rfl) rfl dX3_work_4 rfl ?_
      refine g_icmp_ge X 10 22 dX3_work_7 rfl (by decide) (nI_leI (by omega) (by omega)) (fun h7 => ?_) (fun h7 => absurd (Nat.le_refl _) h7)
      exact ret _ _ _ dX3_work_22 rfl
    · intro j hj ih_j 
      refine g_iload_n X 0 3 dX3_work_2 rfl rfl rfl ?_
      refine g_aload_n X 1 4 dX3_work_3 rfl rfl rfl ?_
      refine g_get X hiX3 0 0 7 rfl rfl (by decide) (List.mem_of_getElem? (i := 1) rfl) rfl dX3_work_4 rfl ?_
      refine g_icmp_ge X 10 22 dX3_work_7 rfl (by decide) (nI_leI (by omega) (by omega)) (fun h7 => absurd h7 (by omega)) (fun h7 => ?_)
      refine g_aload_n X 1 11 dX3_work_10 rfl rfl rfl ?_
      refine g_iload_n X 0 12 dX3_work_11 rfl rfl rfl ?_
      refine g_aload_n X 2 13 dX3_work_12 rfl rfl rfl ?_
      refine g_callVv (ws' := [(b, .inr (3, [.int (nI n), .ref b0, .ref b1, .ref b2, .ref b3, .ref b4, .ref b5])), (b0, .inl (cI, 6, .inl (vr 0 (wk n j 31 (st j) (wkA n st S j))))), (b1, .inl (cI, 6, .inl (vr 1 (wk n j 31 (st j) (wkA n st S j))))), (b2, .inl (cI, 6, .inl (v6 st))), (b3, .inl (cZ, 6, .inl (vw n (wk n j 31 (st j) (wkA n st S j))))), (b4, .inl (cI, 6, .inl (vr 3 (wk n j 31 (st j) (wkA n st S j))))), (b5, .inl (cI, 6, .inl (vr 4 (wk n j 31 (st j) (wkA n st S j))))), (g, .inr (2, [.ref a])), (a, .inl (cI, 96, .inl (vs (wk n j 31 (st j) (wkA n st S j)))))]) X (m_X3_workOnOne l D cI cZ cJ b b0 b1 b2 b3 b4 b5 n (wkA n st S j) st g a j (wkA_gw hg j (by omega)) hj (hst j hj)) 16 [0, 1, 2, 3, 4, 5, 6, 7, 8] gX3_work_X3_workOnOne (n := 2) rfl (by decide +kernel) rfl ⟨Nat.le_of_ble_eq_true rfl, Nat.le_of_ble_eq_true rfl⟩ (ci := 3) (q0 := 0) rfl rfl rfl (Nat.le_of_ble_eq_true rfl) rfl (by decide +kernel) rfl rfl dX3_work_13 rfl ⟨Nat.le_of_ble_eq_true rfl, Nat.le_of_ble_eq_true rfl⟩ ?_
      refine g_iinc X 0 (nI (j + 1)) [(2, .int (nI (j + 1))), (0, .ref b), (1, .ref g)] 19 dX3_work_16 rfl rfl (nI_inc _) (by decide) rfl ?_
      refine g_goto X 2 dX3_work_19 (by decide) ?_
      exact ih_j
  exact L 0 (Nat.zero_le _)
