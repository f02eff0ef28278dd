/-! THE FEASTS -/

abbrev rm_X1_put : Room := { frames := 0, cells := 0, slots := 0, locals := 0 }
set_option maxHeartbeats 4000000 in
set_option maxRecDepth 100000 in
/-- a new feast -/
theorem m_X1_put (l : Launch) (D : va_G) (cI cZ cJ : ClassId) (f f0 f1 n : Nat) (fe fo : Nat → Nat) (dv rm : Nat) (hn : n < 4) : MI l yX1_put wsX1_put rm_X1_put D (gT cI cZ cJ) [(f, .inr (1, [.int (nI n), .ref f0, .ref f1])), (f0, .inl (cI, 4, .inl (v4 fe))), (f1, .inl (cI, 4, .inl (v4 fo)))] [.ref f, .int (nI dv), .int (nI rm)] (fun r u => r = nI n ∧ u = [(f, .inr (1, [.int (nI (n + 1)), .ref f0, .ref f1])), (f0, .inl (cI, 4, .inl (v4 (up fe n dv)))), (f1, .inl (cI, 4, .inl (v4 (up fo n rm))))]) := by
  refine MI_of [(0, .ref f), (1, .int (nI dv)), (2, .int (nI rm))] (by decide) rfl (Nat.le_of_ble_eq_true rfl) rfl ?_
  intro p e s m args below meth c A Q X ret
  have hiX1 : ∀ w ∈ wsX10, w ∈ wsX1_put := (fun _ h => List.mem_cons_of_mem _ (List.mem_append_right _ h))
  refine g_aload_n X 0 1 dX1_put_0 rfl rfl rfl ?_
  refine g_get X hiX1 0 1 4 rfl rfl (by decide) (List.mem_of_getElem? (i := 1) rfl) rfl dX1_put_1 rfl ?_
  refine g_aload_n X 0 5 dX1_put_4 rfl rfl rfl ?_
  refine g_get X hiX1 0 0 8 rfl rfl (by decide) (List.mem_of_getElem? (i := 2) rfl) rfl dX1_put_5 rfl ?_
  refine g_iload_n X 1 9 dX1_put_8 rfl rfl rfl ?_
  refine g_iast (ws' := [(f, .inr (1, [.int (nI n), .ref f0, .ref f1])), (f0, .inl (cI, 4, .inl (v4 (up fe n dv)))), (f1, .inl (cI, 4, .inl (v4 fo)))]) X 1 0 (n) (v4 (up fe n dv)) 10 rfl rfl (by omega) (by decide) (v4_up hn) dX1_put_9 rfl rfl ?_
  refine g_aload_n X 0 11 dX1_put_10 rfl rfl rfl ?_
  refine g_get X hiX1 0 2 14 rfl rfl (by decide) (List.mem_of_getElem? (i := 3) rfl) rfl dX1_put_11 rfl ?_
  refine g_aload_n X 0 15 dX1_put_14 rfl rfl rfl ?_
  refine g_get X hiX1 0 0 18 rfl rfl (by decide) (List.mem_of_getElem? (i := 2) rfl) rfl dX1_put_15 rfl ?_
  refine g_iload_n X 2 19 dX1_put_18 rfl rfl rfl ?_
  refine g_iast (ws' := [(f, .inr (1, [.int (nI n), .ref f0, .ref f1])), (f0, .inl (cI, 4, .inl (v4 (up fe n dv)))), (f1, .inl (cI, 4, .inl (v4 (up fo n rm))))]) X 2 0 (n) (v4 (up fo n rm)) 20 rfl rfl (by omega) (by decide) (v4_up hn) dX1_put_19 rfl rfl ?_
  refine g_aload_n X 0 21 dX1_put_20 rfl rfl rfl ?_
  refine g_dup X 22 dX1_put_21 rfl rfl ?_
  refine g_get X hiX1 0 0 25 rfl rfl (by decide) (List.mem_of_getElem? (i := 2) rfl) rfl dX1_put_22 rfl ?_
  refine g_iconst X (nI 1) 26 dX1_put_25 rfl (by decide +kernel) ?_
  refine g_iadd X (nI (n + 1)) 27 dX1_put_26 rfl (nI_add _ _) ?_
  refine g_put (ws' := [(f, .inr (1, [.int (nI (n + 1)), .ref f0, .ref f1])), (f0, .inl (cI, 4, .inl (v4 (up fe n dv)))), (f1, .inl (cI, 4, .inl (v4 (up fo n rm))))]) X hiX1 tyX1 tyX1_ok nmX1 0 0 30 rfl rfl (by decide) (List.mem_of_getElem? (i := 2) rfl) rfl (ty := .int) (by decide +kernel) rfl rfl (Nat.le_of_ble_eq_true rfl) dX1_put_27 rfl rfl ?_
  refine g_aload_n X 0 31 dX1_put_30 rfl rfl rfl ?_
  refine g_get X hiX1 0 0 34 rfl rfl (by decide) (List.mem_of_getElem? (i := 2) rfl) rfl dX1_put_31 rfl ?_
  refine g_iconst X (nI 1) 35 dX1_put_34 rfl (by decide +kernel) ?_
  refine g_isub X (nI ((n + 1) - 1)) 36 dX1_put_35 rfl (pk_sub (by omega)) ?_
  exact ret _ _ _ _ dX1_put_36 rfl ⟨rfl, rfl⟩

abbrev rm_X1_areOn : Room := { frames := 0, cells := 0, slots := 0, locals := 0 }
set_option maxHeartbeats 4000000 in
set_option maxRecDepth 100000 in
/-- is a feast on this day -/
theorem m_X1_areOn (l : Launch) (D : va_G) (cI cZ cJ : ClassId) (f f0 f1 n : Nat) (fe fo : Nat → Nat) (dy : Nat) (hf : feOk fe n) (hd : dy < 2 ^ 30) (ho : ∀ k : Nat, k < n → fo k < 2 ^ 30) : MI l yX1_areOn wsX1_areOn rm_X1_areOn D (gT cI cZ cJ) [(f, .inr (1, [.int (nI n), .ref f0, .ref f1])), (f0, .inl (cI, 4, .inl (v4 fe))), (f1, .inl (cI, 4, .inl (v4 fo)))] [.ref f, .int (nI dy)] (fun r u => r = nI (bn (feastOn fe fo n dy)) ∧ u = [(f, .inr (1, [.int (nI n), .ref f0, .ref f1])), (f0, .inl (cI, 4, .inl (v4 fe))), (f1, .inl (cI, 4, .inl (v4 fo)))]) := by
  refine MI_of [(0, .ref f), (1, .int (nI dy))] (by decide) rfl (Nat.le_of_ble_eq_true rfl) rfl ?_
  intro p e s m args below meth c A Q X ret
  have hiX1 : ∀ w ∈ wsX10, w ∈ wsX1_areOn := (fun _ h => List.mem_cons_of_mem _ (List.mem_append_right _ h))
  have hn4 : n ≤ 4 := hf.1
  refine g_iconst X (nI 0) 1 dX1_areOn_0 rfl (by decide +kernel) ?_
  refine g_istore_n X [(2, .int (nI 0)), (0, .ref f), (1, .int (nI dy))] 2 dX1_areOn_1 rfl rfl (by decide) rfl ?_
  have L : ∀ j : Nat, j ≤ n → (∀ k : Nat, k < j → ¬ dy % fe k = fo k) → G p l e rm_X1_areOn s m args below meth c Q D A 4 0 0 [(f, .inr (1, [.int (nI n), .ref f0, .ref f1])), (f0, .inl (cI, 4, .inl (v4 fe))), (f1, .inl (cI, 4, .inl (v4 fo)))] [(2, .int (nI j)), (0, .ref f), (1, .int (nI dy))] 2 [] := by
    refine g_down _ ?_ ?_
    · intro hno
      refine g_iload_n X 0 3 dX1_areOn_2 rfl rfl rfl ?_
      refine g_aload_n X 1 4 dX1_areOn_3 rfl rfl rfl ?_
      refine g_get X hiX1 0 0 7 rfl rfl (by decide) (List.mem_of_getElem? (i := 1) rfl) rfl dX1_areOn_4 rfl ?_
      refine g_icmp_ge X 10 42 dX1_areOn_7 rfl (by decide) (nI_leI (by omega) (by omega)) (fun h7 => ?_) (fun h7 => absurd (Nat.le_refl _) h7)
      refine g_iconst X (nI 0) 43 dX1_areOn_42 rfl (by decide +kernel) ?_
      refine g_eqi (y := nI (bn (feastOn fe fo n dy))) (by rw [feast_f hno]; rfl) ?_
      exact ret _ _ _ _ dX1_areOn_43 (bn_nar _) ⟨rfl, rfl⟩
    · intro j hj ih_j hno
      refine g_iload_n X 0 3 dX1_areOn_2 rfl rfl rfl ?_
      refine g_aload_n X 1 4 dX1_areOn_3 rfl rfl rfl ?_
      refine g_get X hiX1 0 0 7 rfl rfl (by decide) (List.mem_of_getElem? (i := 1) rfl) rfl dX1_areOn_4 rfl ?_
      refine g_icmp_ge X 10 42 dX1_areOn_7 rfl (by decide) (nI_leI (by omega) (by omega)) (fun h7 => absurd h7 (by omega)) (fun h7 => ?_)
      have hfj := hf.2 j hj
      have hoj := ho j hj
      have hmod : dy % fe j < fe j := Nat.mod_lt _ (by omega)
      refine g_aload_n X 1 11 dX1_areOn_10 rfl rfl rfl ?_
      refine g_get X hiX1 0 1 14 rfl rfl (by decide) (List.mem_of_getElem? (i := 2) rfl) rfl dX1_areOn_11 rfl ?_
      refine g_iload_n X 0 15 dX1_areOn_14 rfl rfl rfl ?_
      refine g_iald X 1 0 (j) (nI (fe j)) 16 rfl rfl (by omega) (by decide) (v4_at (by omega)) dX1_areOn_15 rfl ?_
      refine g_istore_n X [(3, .int (nI (fe j))), (2, .int (nI j)), (0, .ref f), (1, .int (nI dy))] 17 dX1_areOn_16 rfl rfl (by decide) rfl ?_
      refine g_iload_n X 0 18 dX1_areOn_17 rfl rfl rfl ?_
      refine g_iconst X (nI 2) 19 dX1_areOn_18 rfl (by decide +kernel) ?_
      refine g_icmp_lt X 22 36 dX1_areOn_19 rfl (by decide) (nI_ltI (by omega) (by omega)) (fun h19 => absurd h19 (by omega)) (fun h19 => ?_)
      refine g_iload_n X 3 23 dX1_areOn_22 rfl rfl rfl ?_
      refine g_iload_n X 0 24 dX1_areOn_23 rfl rfl rfl ?_
      refine g_irem X (nI (dy % (fe j))) 25 dX1_areOn_24 rfl (nI_ne0 (by omega) (by omega)) (pk_rem (by omega) (by omega) (by omega)) ?_
      refine g_aload_n X 2 26 dX1_areOn_25 rfl rfl rfl ?_
      refine g_get X hiX1 0 2 29 rfl rfl (by decide) (List.mem_of_getElem? (i := 3) rfl) rfl dX1_areOn_26 rfl ?_
      refine g_iload_n X 1 30 dX1_areOn_29 rfl rfl rfl ?_
      refine g_iald X 2 0 (j) (nI (fo j)) 31 rfl rfl (by omega) (by decide) (v4_at (by omega)) dX1_areOn_30 rfl ?_
      refine g_icmp_ne X 34 36 dX1_areOn_31 rfl (by decide) (nI_eq (by omega) (by omega)) (fun hq => ?_) (fun hq => ?_)
      · refine g_iinc X 1 (nI (j + 1)) [(2, .int (nI (j + 1))), (3, .int (nI (fe j))), (0, .ref f), (1, .int (nI dy))] 39 dX1_areOn_36 rfl rfl (nI_inc _) (by decide) rfl ?_
        refine g_goto X 2 dX1_areOn_39 (by decide) ?_
        refine g_lv (lv' := [(2, .int (nI (j + 1))), (0, .ref f), (1, .int (nI dy))]) [0, 2, 3] rfl ?_
        exact ih_j (lt_s hno hq)
      · refine g_iconst X (nI 1) 35 dX1_areOn_34 rfl (by decide +kernel) ?_
        refine g_eqi (y := nI (bn (feastOn fe fo n dy))) (by rw [feast_t hj hq]; rfl) ?_
        exact ret _ _ _ _ dX1_areOn_35 (bn_nar _) ⟨rfl, rfl⟩
  exact L 0 (Nat.zero_le _) (fun k hk => absurd hk (Nat.not_lt_zero k))

abbrev rm_X1_daysUntil : Room := { frames := 1, cells := 0, slots := 0, locals := 23 }
set_option maxHeartbeats 4000000 in
set_option maxRecDepth 100000 in
/-- behind how many days the next feast -/
theorem m_X1_daysUntil (l : Launch) (D : va_G) (cI cZ cJ : ClassId) (f f0 f1 n : Nat) (fe fo : Nat → Nat) (dy : Nat) (hf : feOk fe n) (hd : dy < 2 ^ 29) (ho : ∀ k : Nat, k < n → fo k < 2 ^ 30) : MI l yX1_daysUntil wsX1_daysUntil rm_X1_daysUntil D (gT cI cZ cJ) [(f, .inr (1, [.int (nI n), .ref f0, .ref f1])), (f0, .inl (cI, 4, .inl (v4 fe))), (f1, .inl (cI, 4, .inl (v4 fo)))] [.ref f, .int (nI dy)] (fun r u => r = nxF fe fo n dy ∧ u = [(f, .inr (1, [.int (nI n), .ref f0, .ref f1])), (f0, .inl (cI, 4, .inl (v4 fe))), (f1, .inl (cI, 4, .inl (v4 fo)))]) := by
  refine MI_of [(0, .ref f), (1, .int (nI dy))] (by decide) rfl (Nat.le_of_ble_eq_true rfl) rfl ?_
  intro p e s m args below meth c A Q X ret
  refine g_iconst X (nI 0) 1 dX1_daysUntil_0 rfl (by decide +kernel) ?_
  refine g_istore_n X [(2, .int (nI 0)), (0, .ref f), (1, .int (nI dy))] 2 dX1_daysUntil_1 rfl rfl (by decide) rfl ?_
  have L : ∀ j : Nat, j ≤ 61 → nxF fe fo n dy = nxR fe fo n dy (61 - j) j → G p l e rm_X1_daysUntil s m args below meth c Q D A 3 0 0 [(f, .inr (1, [.int (nI n), .ref f0, .ref f1])), (f0, .inl (cI, 4, .inl (v4 fe))), (f1, .inl (cI, 4, .inl (v4 fo)))] [(2, .int (nI j)), (0, .ref f), (1, .int (nI dy))] 2 [] := by
    refine g_down _ ?_ ?_
    · intro hnx
      refine g_iload_n X 0 3 dX1_daysUntil_2 rfl rfl rfl ?_
      refine g_bipush X (nI 60) 5 dX1_daysUntil_3 rfl (by decide +kernel) ?_
      refine g_icmp_gt X 8 26 dX1_daysUntil_5 rfl (by decide) (nI_ltI (by omega) (by omega)) (fun h5 => ?_) (fun h5 => absurd h5 (by decide))
      refine g_iconst X (nIm 1) 27 dX1_daysUntil_26 rfl (by decide +kernel) ?_
      refine g_eqi (y := nxF fe fo n dy) (by rw [hnx]; rfl) ?_
      exact ret _ _ _ _ dX1_daysUntil_27 rfl ⟨rfl, rfl⟩
    · intro j hj ih_j hnx
      refine g_iload_n X 0 3 dX1_daysUntil_2 rfl rfl rfl ?_
      refine g_bipush X (nI 60) 5 dX1_daysUntil_3 rfl (by decide +kernel) ?_
      refine g_icmp_gt X 8 26 dX1_daysUntil_5 rfl (by decide) (nI_ltI (by omega) (by omega)) (fun h5 => absurd h5 (by omega)) (fun h5 => ?_)
      refine g_aload_n X 1 9 dX1_daysUntil_8 rfl rfl rfl ?_
      refine g_iload_n X 2 10 dX1_daysUntil_9 rfl rfl rfl ?_
      refine g_iload_n X 0 11 dX1_daysUntil_10 rfl rfl rfl ?_
      refine g_iadd X (nI (dy + j)) 12 dX1_daysUntil_11 rfl (nI_add _ _) ?_
      rw [show 61 - j = (61 - (j + 1)) + 1 by omega] at hnx
      refine g_callVi (ws' := [(f, .inr (1, [.int (nI n), .ref f0, .ref f1])), (f0, .inl (cI, 4, .inl (v4 fe))), (f1, .inl (cI, 4, .inl (v4 fo)))]) X (m_X1_areOn l D cI cZ cJ f f0 f1 n fe fo (dy + j) hf (by omega) ho) 15 [0, 1, 2] gX1_daysUntil_X1_areOn (n := 1) rfl (by decide +kernel) rfl ⟨Nat.le_of_ble_eq_true rfl, Nat.le_of_ble_eq_true rfl⟩ (ci := 1) (q0 := 0) rfl rfl rfl (Nat.le_of_ble_eq_true rfl) rfl (by decide +kernel) rfl rfl dX1_daysUntil_12 rfl ⟨Nat.le_of_ble_eq_true rfl, Nat.le_of_ble_eq_true rfl⟩ ?_
      refine g_if_eq X 18 20 dX1_daysUntil_15 rfl (by decide) (bn_eq0 _) (fun hq => ?_) (fun hq => ?_)
      · refine g_iinc X 0 (nI (j + 1)) [(2, .int (nI (j + 1))), (0, .ref f), (1, .int (nI dy))] 23 dX1_daysUntil_20 rfl rfl (nI_inc _) (by decide) rfl ?_
        refine g_goto X 2 dX1_daysUntil_23 (by decide) ?_
        exact ih_j (by rw [hnx, nxR_f hq])
      · refine g_iload_n X 0 19 dX1_daysUntil_18 rfl rfl rfl ?_
        refine g_eqi (y := nxF fe fo n dy) (by rw [hnx, nxR_t (by simpa using hq)]) ?_
        exact ret _ _ _ _ dX1_daysUntil_19 rfl ⟨rfl, rfl⟩
  exact L 0 (Nat.zero_le _) rfl
