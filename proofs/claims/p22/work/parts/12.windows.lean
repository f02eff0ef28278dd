/-! THE WINDOWS -/

abbrev rm_X4_put : Room := { frames := 0, cells := 0, slots := 0, locals := 0 }
set_option maxHeartbeats 4000000 in
set_option maxRecDepth 100000 in
/-- a new window -/
theorem m_X4_put (l : Launch) (D : va_G) (cI cZ cJ : ClassId) (v v0 v1 v2 v3 v4 n : Nat) (T : Nat → Nat) (x y w h o : Nat) (hn : n < 6) : MI l yX4_put wsX4_put rm_X4_put D (gT cI cZ cJ) [(v, .inr (4, [.int (nI n), .ref v0, .ref v1, .ref v2, .ref v3, .ref v4])), (v0, .inl (cI, 6, .inl (vt 0 T))), (v1, .inl (cI, 6, .inl (vt 1 T))), (v2, .inl (cI, 6, .inl (vt 2 T))), (v3, .inl (cI, 6, .inl (vt 3 T))), (v4, .inl (cI, 6, .inl (vt 4 T)))] [.ref v, .int (nI x), .int (nI y), .int (nI w), .int (nI h), .int (nI o)] (fun r u => r = nI n ∧ u = [(v, .inr (4, [.int (nI (n + 1)), .ref v0, .ref v1, .ref v2, .ref v3, .ref v4])), (v0, .inl (cI, 6, .inl (vt 0 (ptT T n x y w h o)))), (v1, .inl (cI, 6, .inl (vt 1 (ptT T n x y w h o)))), (v2, .inl (cI, 6, .inl (vt 2 (ptT T n x y w h o)))), (v3, .inl (cI, 6, .inl (vt 3 (ptT T n x y w h o)))), (v4, .inl (cI, 6, .inl (vt 4 (ptT T n x y w h o))))]) := by
  refine MI_of [(0, .ref v), (1, .int (nI x)), (2, .int (nI y)), (3, .int (nI w)), (4, .int (nI h)), (5, .int (nI o))] (by decide) rfl (Nat.le_of_ble_eq_true rfl) rfl ?_
  intro p e s m args below meth c A Q X ret
  have hiX4 : ∀ w ∈ wsX40, w ∈ wsX4_put := (fun _ h => List.mem_cons_of_mem _ (List.mem_append_right _ h))
  refine g_aload_n X 0 1 dX4_put_0 rfl rfl rfl ?_
  refine g_get X hiX4 0 1 4 rfl rfl (by decide) (List.mem_of_getElem? (i := 1) rfl) rfl dX4_put_1 rfl ?_
  refine g_aload_n X 0 5 dX4_put_4 rfl rfl rfl ?_
  refine g_get X hiX4 0 0 8 rfl rfl (by decide) (List.mem_of_getElem? (i := 2) rfl) rfl dX4_put_5 rfl ?_
  refine g_iload_n X 1 9 dX4_put_8 rfl rfl rfl ?_
  refine g_iast (ws' := [(v, .inr (4, [.int (nI n), .ref v0, .ref v1, .ref v2, .ref v3, .ref v4])), (v0, .inl (cI, 6, .inl (vt 0 (ptT T n x y w h o)))), (v1, .inl (cI, 6, .inl (vt 1 T))), (v2, .inl (cI, 6, .inl (vt 2 T))), (v3, .inl (cI, 6, .inl (vt 3 T))), (v4, .inl (cI, 6, .inl (vt 4 T)))]) X 1 0 (n) (vt 0 (ptT T n x y w h o)) 10 rfl rfl (by omega) (by decide) (vt_p0 hn) dX4_put_9 rfl rfl ?_
  refine g_aload_n X 0 11 dX4_put_10 rfl rfl rfl ?_
  refine g_get X hiX4 0 2 14 rfl rfl (by decide) (List.mem_of_getElem? (i := 3) rfl) rfl dX4_put_11 rfl ?_
  refine g_aload_n X 0 15 dX4_put_14 rfl rfl rfl ?_
  refine g_get X hiX4 0 0 18 rfl rfl (by decide) (List.mem_of_getElem? (i := 2) rfl) rfl dX4_put_15 rfl ?_
  refine g_iload_n X 2 19 dX4_put_18 rfl rfl rfl ?_
  refine g_iast (ws' := [(v, .inr (4, [.int (nI n), .ref v0, .ref v1, .ref v2, .ref v3, .ref v4])), (v0, .inl (cI, 6, .inl (vt 0 (ptT T n x y w h o)))), (v1, .inl (cI, 6, .inl (vt 1 (ptT T n x y w h o)))), (v2, .inl (cI, 6, .inl (vt 2 T))), (v3, .inl (cI, 6, .inl (vt 3 T))), (v4, .inl (cI, 6, .inl (vt 4 T)))]) X 2 0 (n) (vt 1 (ptT T n x y w h o)) 20 rfl rfl (by omega) (by decide) (vt_p1 hn) dX4_put_19 rfl rfl ?_
  refine g_aload_n X 0 21 dX4_put_20 rfl rfl rfl ?_
  refine g_get X hiX4 0 3 24 rfl rfl (by decide) (List.mem_of_getElem? (i := 4) rfl) rfl dX4_put_21 rfl ?_
  refine g_aload_n X 0 25 dX4_put_24 rfl rfl rfl ?_
  refine g_get X hiX4 0 0 28 rfl rfl (by decide) (List.mem_of_getElem? (i := 2) rfl) rfl dX4_put_25 rfl ?_
  refine g_iload_n X 3 29 dX4_put_28 rfl rfl rfl ?_
  refine g_iast (ws' := [(v, .inr (4, [.int (nI n), .ref v0, .ref v1, .ref v2, .ref v3, .ref v4])), (v0, .inl (cI, 6, .inl (vt 0 (ptT T n x y w h o)))), (v1, .inl (cI, 6, .inl (vt 1 (ptT T n x y w h o)))), (v2, .inl (cI, 6, .inl (vt 2 (ptT T n x y w h o)))), (v3, .inl (cI, 6, .inl (vt 3 T))), (v4, .inl (cI, 6, .inl (vt 4 T)))]) X 3 0 (n) (vt 2 (ptT T n x y w h o)) 30 rfl rfl (by omega) (by decide) (vt_p2 hn) dX4_put_29 rfl rfl ?_
  refine g_aload_n X 0 31 dX4_put_30 rfl rfl rfl ?_
  refine g_get X hiX4 0 4 34 rfl rfl (by decide) (List.mem_of_getElem? (i := 5) rfl) rfl dX4_put_31 rfl ?_
  refine g_aload_n X 0 35 dX4_put_34 rfl rfl rfl ?_
  refine g_get X hiX4 0 0 38 rfl rfl (by decide) (List.mem_of_getElem? (i := 2) rfl) rfl dX4_put_35 rfl ?_
  refine g_iload X 4 40 dX4_put_38 rfl rfl ?_
  refine g_iast (ws' := [(v, .inr (4, [.int (nI n), .ref v0, .ref v1, .ref v2, .ref v3, .ref v4])), (v0, .inl (cI, 6, .inl (vt 0 (ptT T n x y w h o)))), (v1, .inl (cI, 6, .inl (vt 1 (ptT T n x y w h o)))), (v2, .inl (cI, 6, .inl (vt 2 (ptT T n x y w h o)))), (v3, .inl (cI, 6, .inl (vt 3 (ptT T n x y w h o)))), (v4, .inl (cI, 6, .inl (vt 4 T)))]) X 4 0 (n) (vt 3 (ptT T n x y w h o)) 41 rfl rfl (by omega) (by decide) (vt_p3 hn) dX4_put_40 rfl rfl ?_
  refine g_aload_n X 0 42 dX4_put_41 rfl rfl rfl ?_
  refine g_get X hiX4 0 5 45 rfl rfl (by decide) (List.mem_of_getElem? (i := 6) rfl) rfl dX4_put_42 rfl ?_
  refine g_aload_n X 0 46 dX4_put_45 rfl rfl rfl ?_
  refine g_get X hiX4 0 0 49 rfl rfl (by decide) (List.mem_of_getElem? (i := 2) rfl) rfl dX4_put_46 rfl ?_
  refine g_iload X 5 51 dX4_put_49 rfl rfl ?_
  refine g_iast (ws' := [(v, .inr (4, [.int (nI n), .ref v0, .ref v1, .ref v2, .ref v3, .ref v4])), (v0, .inl (cI, 6, .inl (vt 0 (ptT T n x y w h o)))), (v1, .inl (cI, 6, .inl (vt 1 (ptT T n x y w h o)))), (v2, .inl (cI, 6, .inl (vt 2 (ptT T n x y w h o)))), (v3, .inl (cI, 6, .inl (vt 3 (ptT T n x y w h o)))), (v4, .inl (cI, 6, .inl (vt 4 (ptT T n x y w h o))))]) X 5 0 (n) (vt 4 (ptT T n x y w h o)) 52 rfl rfl (by omega) (by decide) (vt_p4 hn) dX4_put_51 rfl rfl ?_
  refine g_aload_n X 0 53 dX4_put_52 rfl rfl rfl ?_
  refine g_dup X 54 dX4_put_53 rfl rfl ?_
  refine g_get X hiX4 0 0 57 rfl rfl (by decide) (List.mem_of_getElem? (i := 2) rfl) rfl dX4_put_54 rfl ?_
  refine g_iconst X (nI 1) 58 dX4_put_57 rfl (by decide +kernel) ?_
  refine g_iadd X (nI (n + 1)) 59 dX4_put_58 rfl (nI_add _ _) ?_
  refine g_put (ws' := [(v, .inr (4, [.int (nI (n + 1)), .ref v0, .ref v1, .ref v2, .ref v3, .ref v4])), (v0, .inl (cI, 6, .inl (vt 0 (ptT T n x y w h o)))), (v1, .inl (cI, 6, .inl (vt 1 (ptT T n x y w h o)))), (v2, .inl (cI, 6, .inl (vt 2 (ptT T n x y w h o)))), (v3, .inl (cI, 6, .inl (vt 3 (ptT T n x y w h o)))), (v4, .inl (cI, 6, .inl (vt 4 (ptT T n x y w h o))))]) X hiX4 tyX4 tyX4_ok nmX4 0 0 62 rfl rfl (by decide) (List.mem_of_getElem? (i := 2) rfl) rfl (ty := .int) (by decide +kernel) rfl rfl (Nat.le_of_ble_eq_true rfl) dX4_put_59 rfl rfl ?_
  refine g_aload_n X 0 63 dX4_put_62 rfl rfl rfl ?_
  refine g_get X hiX4 0 0 66 rfl rfl (by decide) (List.mem_of_getElem? (i := 2) rfl) rfl dX4_put_63 rfl ?_
  refine g_iconst X (nI 1) 67 dX4_put_66 rfl (by decide +kernel) ?_
  refine g_isub X (nI ((n + 1) - 1)) 68 dX4_put_67 rfl (pk_sub (by omega)) ?_
  exact ret _ _ _ _ dX4_put_68 rfl ⟨rfl, rfl⟩

abbrev rm_X4_panes : Room := { frames := 0, cells := 0, slots := 0, locals := 0 }
set_option maxHeartbeats 4000000 in
set_option maxRecDepth 100000 in
/-- how many panes -/
theorem m_X4_panes (l : Launch) (D : va_G) (cI cZ cJ : ClassId) (v v0 v1 v2 v3 v4 n : Nat) (T : Nat → Nat) (wi : Nat) (hk : wi < 6) : MI l yX4_panes wsX4_panes rm_X4_panes D (gT cI cZ cJ) [(v, .inr (4, [.int (nI n), .ref v0, .ref v1, .ref v2, .ref v3, .ref v4])), (v0, .inl (cI, 6, .inl (vt 0 T))), (v1, .inl (cI, 6, .inl (vt 1 T))), (v2, .inl (cI, 6, .inl (vt 2 T))), (v3, .inl (cI, 6, .inl (vt 3 T))), (v4, .inl (cI, 6, .inl (vt 4 T)))] [.ref v, .int (nI wi)] (fun r u => r = nI (pnW T wi) ∧ u = [(v, .inr (4, [.int (nI n), .ref v0, .ref v1, .ref v2, .ref v3, .ref v4])), (v0, .inl (cI, 6, .inl (vt 0 T))), (v1, .inl (cI, 6, .inl (vt 1 T))), (v2, .inl (cI, 6, .inl (vt 2 T))), (v3, .inl (cI, 6, .inl (vt 3 T))), (v4, .inl (cI, 6, .inl (vt 4 T)))]) := by
  refine MI_of [(0, .ref v), (1, .int (nI wi))] (by decide) rfl (Nat.le_of_ble_eq_true rfl) rfl ?_
  intro p e s m args below meth c A Q X ret
  have hiX4 : ∀ w ∈ wsX40, w ∈ wsX4_panes := (fun _ h => List.mem_cons_of_mem _ (List.mem_append_right _ h))
  refine g_aload_n X 0 1 dX4_panes_0 rfl rfl rfl ?_
  refine g_get X hiX4 0 3 4 rfl rfl (by decide) (List.mem_of_getElem? (i := 1) rfl) rfl dX4_panes_1 rfl ?_
  refine g_iload_n X 1 5 dX4_panes_4 rfl rfl rfl ?_
  refine g_iald X 3 0 (wi) (nI (T (5 * wi + 2))) 6 rfl rfl (by omega) (by decide) (vt_at hk) dX4_panes_5 rfl ?_
  refine g_aload_n X 0 7 dX4_panes_6 rfl rfl rfl ?_
  refine g_get X hiX4 0 4 10 rfl rfl (by decide) (List.mem_of_getElem? (i := 2) rfl) rfl dX4_panes_7 rfl ?_
  refine g_iload_n X 1 11 dX4_panes_10 rfl rfl rfl ?_
  refine g_iald X 4 0 (wi) (nI (T (5 * wi + 3))) 12 rfl rfl (by omega) (by decide) (vt_at hk) dX4_panes_11 rfl ?_
  refine g_imul X (nI ((T (5 * wi + 2)) * (T (5 * wi + 3)))) 13 dX4_panes_12 rfl (pk_mul _ _) ?_
  exact ret _ _ _ _ dX4_panes_13 rfl ⟨rfl, rfl⟩

abbrev rm_X4_added : Room := { frames := 1, cells := 0, slots := 0, locals := 22 }
set_option maxHeartbeats 4000000 in
set_option maxRecDepth 100000 in
/-- the soot of a window, added -/
theorem m_X4_added (l : Launch) (D : va_G) (cI cZ cJ : ClassId) (v v0 v1 v2 v3 v4 n : Nat) (T : Nat → Nat) (g a : Nat) (S : Nat → Nat) (wi : Nat) (hs : sootOk S) (hT : winOk T wi) (hk : wi < 6) : MI l yX4_added wsX4_added rm_X4_added D (gT cI cZ cJ) [(v, .inr (4, [.int (nI n), .ref v0, .ref v1, .ref v2, .ref v3, .ref v4])), (v0, .inl (cI, 6, .inl (vt 0 T))), (v1, .inl (cI, 6, .inl (vt 1 T))), (v2, .inl (cI, 6, .inl (vt 2 T))), (v3, .inl (cI, 6, .inl (vt 3 T))), (v4, .inl (cI, 6, .inl (vt 4 T))), (g, .inr (2, [.ref a])), (a, .inl (cI, 96, .inl (vs S)))] [.ref v, .int (nI wi), .ref g] (fun r u => r = nI (addW S T wi) ∧ u = [(v, .inr (4, [.int (nI n), .ref v0, .ref v1, .ref v2, .ref v3, .ref v4])), (v0, .inl (cI, 6, .inl (vt 0 T))), (v1, .inl (cI, 6, .inl (vt 1 T))), (v2, .inl (cI, 6, .inl (vt 2 T))), (v3, .inl (cI, 6, .inl (vt 3 T))), (v4, .inl (cI, 6, .inl (vt 4 T))), (g, .inr (2, [.ref a])), (a, .inl (cI, 96, .inl (vs S)))]) := by
  refine MI_of [(0, .ref v), (1, .int (nI wi)), (2, .ref g)] (by decide) rfl (Nat.le_of_ble_eq_true rfl) rfl ?_
  intro p e s m args below meth c A Q X ret
  have hiX4 : ∀ w ∈ wsX40, w ∈ wsX4_added := (fun _ h => List.mem_cons_of_mem _ (List.mem_append_left _ (List.mem_append_right _ h)))
  have hT9 := hT
  unfold winOk at hT9
  refine g_iconst X (nI 0) 1 dX4_added_0 rfl (by decide +kernel) ?_
  refine g_istore_n X [(3, .int (nI 0)), (0, .ref v), (1, .int (nI wi)), (2, .ref g)] 2 dX4_added_1 rfl rfl (by decide) rfl ?_
  refine g_aload_n X 1 3 dX4_added_2 rfl rfl rfl ?_
  refine g_get X hiX4 0 1 6 rfl rfl (by decide) (List.mem_of_getElem? (i := 1) rfl) rfl dX4_added_3 rfl ?_
  refine g_iload_n X 2 7 dX4_added_6 rfl rfl rfl ?_
  refine g_iald X 1 0 (wi) (nI (T (5 * wi))) 8 rfl rfl (by omega) (by decide) (vt_at hk) dX4_added_7 rfl ?_
  refine g_istore X [(4, .int (nI (T (5 * wi)))), (3, .int (nI 0)), (0, .ref v), (1, .int (nI wi)), (2, .ref g)] 10 dX4_added_8 rfl (by decide) rfl ?_
  have L : ∀ i : Nat, i ≤ T (5 * wi + 2) → G p l e rm_X4_added s m args below meth c Q D A 6 0 0 [(v, .inr (4, [.int (nI n), .ref v0, .ref v1, .ref v2, .ref v3, .ref v4])), (v0, .inl (cI, 6, .inl (vt 0 T))), (v1, .inl (cI, 6, .inl (vt 1 T))), (v2, .inl (cI, 6, .inl (vt 2 T))), (v3, .inl (cI, 6, .inl (vt 3 T))), (v4, .inl (cI, 6, .inl (vt 4 T))), (g, .inr (2, [.ref a])), (a, .inl (cI, 96, .inl (vs S)))] [(4, .int (nI (T (5 * wi) + i))), (3, .int (nI (sm (fun c1 => sm (colS S T wi c1) (T (5 * wi + 3))) i))), (0, .ref v), (1, .int (nI wi)), (2, .ref g)] 10 [] := by
    refine g_down _ ?_ ?_
    · refine g_iload X 0 12 dX4_added_10 rfl rfl ?_
      refine g_aload_n X 2 13 dX4_added_12 rfl rfl rfl ?_
      refine g_get X hiX4 0 1 16 rfl rfl (by decide) (List.mem_of_getElem? (i := 1) rfl) rfl dX4_added_13 rfl ?_
      refine g_iload_n X 3 17 dX4_added_16 rfl rfl rfl ?_
      refine g_iald X 1 0 (wi) (nI (T (5 * wi))) 18 rfl rfl (by omega) (by decide) (vt_at hk) dX4_added_17 rfl ?_
      refine g_aload_n X 2 19 dX4_added_18 rfl rfl rfl ?_
      refine g_get X hiX4 0 3 22 rfl rfl (by decide) (List.mem_of_getElem? (i := 2) rfl) rfl dX4_added_19 rfl ?_
      refine g_iload_n X 3 23 dX4_added_22 rfl rfl rfl ?_
      refine g_iald X 3 0 (wi) (nI (T (5 * wi + 2))) 24 rfl rfl (by omega) (by decide) (vt_at hk) dX4_added_23 rfl ?_
      refine g_iadd X (nI ((T (5 * wi)) + (T (5 * wi + 2)))) 25 dX4_added_24 rfl (nI_add _ _) ?_
      refine g_icmp_ge X 28 77 dX4_added_25 rfl (by decide) (nI_leI (by omega) (by omega)) (fun h25 => ?_) (fun h25 => absurd (Nat.le_refl _) h25)
      refine g_iload_n X 1 78 dX4_added_77 rfl rfl rfl ?_
      exact ret _ _ _ _ dX4_added_78 rfl ⟨rfl, rfl⟩
    · intro i hi ih_i 
      refine g_iload X 0 12 dX4_added_10 rfl rfl ?_
      refine g_aload_n X 2 13 dX4_added_12 rfl rfl rfl ?_
      refine g_get X hiX4 0 1 16 rfl rfl (by decide) (List.mem_of_getElem? (i := 1) rfl) rfl dX4_added_13 rfl ?_
      refine g_iload_n X 3 17 dX4_added_16 rfl rfl rfl ?_
      refine g_iald X 1 0 (wi) (nI (T (5 * wi))) 18 rfl rfl (by omega) (by decide) (vt_at hk) dX4_added_17 rfl ?_
      refine g_aload_n X 2 19 dX4_added_18 rfl rfl rfl ?_
      refine g_get X hiX4 0 3 22 rfl rfl (by decide) (List.mem_of_getElem? (i := 2) rfl) rfl dX4_added_19 rfl ?_
      refine g_iload_n X 3 23 dX4_added_22 rfl rfl rfl ?_
      refine g_iald X 3 0 (wi) (nI (T (5 * wi + 2))) 24 rfl rfl (by omega) (by decide) (vt_at hk) dX4_added_23 rfl ?_
      refine g_iadd X (nI ((T (5 * wi)) + (T (5 * wi + 2)))) 25 dX4_added_24 rfl (nI_add _ _) ?_
      refine g_icmp_ge X 28 77 dX4_added_25 rfl (by decide) (nI_leI (by omega) (by omega)) (fun h25 => absurd h25 (by omega)) (fun h25 => ?_)
      refine g_aload_n X 2 29 dX4_added_28 rfl rfl rfl ?_
      refine g_get X hiX4 0 2 32 rfl rfl (by decide) (List.mem_of_getElem? (i := 3) rfl) rfl dX4_added_29 rfl ?_
      refine g_iload_n X 3 33 dX4_added_32 rfl rfl rfl ?_
      refine g_iald X 2 0 (wi) (nI (T (5 * wi + 1))) 34 rfl rfl (by omega) (by decide) (vt_at hk) dX4_added_33 rfl ?_
      refine g_istore X [(5, .int (nI (T (5 * wi + 1)))), (4, .int (nI (T (5 * wi) + i))), (3, .int (nI (sm (fun c1 => sm (colS S T wi c1) (T (5 * wi + 3))) i))), (0, .ref v), (1, .int (nI wi)), (2, .ref g)] 36 dX4_added_34 rfl (by decide) rfl ?_
      have M : ∀ j : Nat, j ≤ T (5 * wi + 3) → G p l e rm_X4_added s m args below meth c Q D A 6 0 0 [(v, .inr (4, [.int (nI n), .ref v0, .ref v1, .ref v2, .ref v3, .ref v4])), (v0, .inl (cI, 6, .inl (vt 0 T))), (v1, .inl (cI, 6, .inl (vt 1 T))), (v2, .inl (cI, 6, .inl (vt 2 T))), (v3, .inl (cI, 6, .inl (vt 3 T))), (v4, .inl (cI, 6, .inl (vt 4 T))), (g, .inr (2, [.ref a])), (a, .inl (cI, 96, .inl (vs S)))] [(5, .int (nI (T (5 * wi + 1) + j))), (4, .int (nI (T (5 * wi) + i))), (3, .int (nI (sm (fun c1 => sm (colS S T wi c1) (T (5 * wi + 3))) i + sm (colS S T wi i) j))), (0, .ref v), (1, .int (nI wi)), (2, .ref g)] 36 [] := by
        refine g_down _ ?_ ?_
        · refine g_iload X 0 38 dX4_added_36 rfl rfl ?_
          refine g_aload_n X 3 39 dX4_added_38 rfl rfl rfl ?_
          refine g_get X hiX4 0 2 42 rfl rfl (by decide) (List.mem_of_getElem? (i := 3) rfl) rfl dX4_added_39 rfl ?_
          refine g_iload_n X 4 43 dX4_added_42 rfl rfl rfl ?_
          refine g_iald X 2 0 (wi) (nI (T (5 * wi + 1))) 44 rfl rfl (by omega) (by decide) (vt_at hk) dX4_added_43 rfl ?_
          refine g_aload_n X 3 45 dX4_added_44 rfl rfl rfl ?_
          refine g_get X hiX4 0 4 48 rfl rfl (by decide) (List.mem_of_getElem? (i := 4) rfl) rfl dX4_added_45 rfl ?_
          refine g_iload_n X 4 49 dX4_added_48 rfl rfl rfl ?_
          refine g_iald X 4 0 (wi) (nI (T (5 * wi + 3))) 50 rfl rfl (by omega) (by decide) (vt_at hk) dX4_added_49 rfl ?_
          refine g_iadd X (nI ((T (5 * wi + 1)) + (T (5 * wi + 3)))) 51 dX4_added_50 rfl (nI_add _ _) ?_
          refine g_icmp_ge X 54 71 dX4_added_51 rfl (by decide) (nI_leI (by omega) (by omega)) (fun h51 => ?_) (fun h51 => absurd (Nat.le_refl _) h51)
          refine g_iinc X 1 (nI (T (5 * wi) + i + 1)) [(4, .int (nI (T (5 * wi) + i + 1))), (5, .int (nI (T (5 * wi + 1) + (T (5 * wi + 3))))), (3, .int (nI (sm (fun c1 => sm (colS S T wi c1) (T (5 * wi + 3))) i + sm (colS S T wi i) (T (5 * wi + 3))))), (0, .ref v), (1, .int (nI wi)), (2, .ref g)] 74 dX4_added_71 rfl rfl (nI_inc _) (by decide) rfl ?_
          refine g_goto X 10 dX4_added_74 (by decide) ?_
          refine g_lv (lv' := [(4, .int (nI (T (5 * wi) + i + 1))), (3, .int (nI (sm (fun c1 => sm (colS S T wi c1) (T (5 * wi + 3))) i + sm (colS S T wi i) (T (5 * wi + 3))))), (0, .ref v), (1, .int (nI wi)), (2, .ref g)]) [0, 2, 3, 4, 5] rfl ?_
          exact ih_i
        · intro j hj ih_j 
          refine g_iload X 0 38 dX4_added_36 rfl rfl ?_
          refine g_aload_n X 3 39 dX4_added_38 rfl rfl rfl ?_
          refine g_get X hiX4 0 2 42 rfl rfl (by decide) (List.mem_of_getElem? (i := 3) rfl) rfl dX4_added_39 rfl ?_
          refine g_iload_n X 4 43 dX4_added_42 rfl rfl rfl ?_
          refine g_iald X 2 0 (wi) (nI (T (5 * wi + 1))) 44 rfl rfl (by omega) (by decide) (vt_at hk) dX4_added_43 rfl ?_
          refine g_aload_n X 3 45 dX4_added_44 rfl rfl rfl ?_
          refine g_get X hiX4 0 4 48 rfl rfl (by decide) (List.mem_of_getElem? (i := 4) rfl) rfl dX4_added_45 rfl ?_
          refine g_iload_n X 4 49 dX4_added_48 rfl rfl rfl ?_
          refine g_iald X 4 0 (wi) (nI (T (5 * wi + 3))) 50 rfl rfl (by omega) (by decide) (vt_at hk) dX4_added_49 rfl ?_
          refine g_iadd X (nI ((T (5 * wi + 1)) + (T (5 * wi + 3)))) 51 dX4_added_50 rfl (nI_add _ _) ?_
          refine g_icmp_ge X 54 71 dX4_added_51 rfl (by decide) (nI_leI (by omega) (by omega)) (fun h51 => absurd h51 (by omega)) (fun h51 => ?_)
          refine g_iload_n X 2 55 dX4_added_54 rfl rfl rfl ?_
          refine g_aload_n X 5 56 dX4_added_55 rfl rfl rfl ?_
          refine g_iload X 1 58 dX4_added_56 rfl rfl ?_
          refine g_iload X 0 60 dX4_added_58 rfl rfl ?_
          refine g_callVi (ws' := [(v, .inr (4, [.int (nI n), .ref v0, .ref v1, .ref v2, .ref v3, .ref v4])), (v0, .inl (cI, 6, .inl (vt 0 T))), (v1, .inl (cI, 6, .inl (vt 1 T))), (v2, .inl (cI, 6, .inl (vt 2 T))), (v3, .inl (cI, 6, .inl (vt 3 T))), (v4, .inl (cI, 6, .inl (vt 4 T))), (g, .inr (2, [.ref a])), (a, .inl (cI, 96, .inl (vs S)))]) X (m_X2_at l D cI cZ cJ g a (T (5 * wi) + i) (T (5 * wi + 1) + j) S (by omega) (by omega)) 63 [6, 7] gX4_added_X2_at (n := 2) rfl (by decide +kernel) rfl ⟨Nat.le_of_ble_eq_true rfl, Nat.le_of_ble_eq_true rfl⟩ (ci := 2) (q0 := 0) rfl rfl rfl (Nat.le_of_ble_eq_true rfl) rfl (by decide +kernel) rfl rfl dX4_added_60 rfl ⟨Nat.le_of_ble_eq_true rfl, Nat.le_of_ble_eq_true rfl⟩ ?_
          refine g_iadd X (nI ((sm (fun c1 => sm (colS S T wi c1) (T (5 * wi + 3))) i + sm (colS S T wi i) j) + (S (4 + ((T (5 * wi) + i) * 8 + (T (5 * wi + 1) + j)))))) 64 dX4_added_63 rfl (nI_add _ _) ?_
          refine g_eqi (y := nI (sm (fun c1 => sm (colS S T wi c1) (T (5 * wi + 3))) i + sm (colS S T wi i) (j + 1))) (by rw [Nat.add_assoc]; rfl) ?_
          refine g_istore_n X [(3, .int (nI (sm (fun c1 => sm (colS S T wi c1) (T (5 * wi + 3))) i + sm (colS S T wi i) (j + 1)))), (5, .int (nI (T (5 * wi + 1) + j))), (4, .int (nI (T (5 * wi) + i))), (0, .ref v), (1, .int (nI wi)), (2, .ref g)] 65 dX4_added_64 rfl rfl (by decide) rfl ?_
          refine g_iinc X 1 (nI (T (5 * wi + 1) + j + 1)) [(5, .int (nI (T (5 * wi + 1) + j + 1))), (3, .int (nI (sm (fun c1 => sm (colS S T wi c1) (T (5 * wi + 3))) i + sm (colS S T wi i) (j + 1)))), (4, .int (nI (T (5 * wi) + i))), (0, .ref v), (1, .int (nI wi)), (2, .ref g)] 68 dX4_added_65 rfl rfl (nI_inc _) (by decide) rfl ?_
          refine g_goto X 36 dX4_added_68 (by decide) ?_
          refine g_lv (lv' := [(5, .int (nI (T (5 * wi + 1) + j + 1))), (4, .int (nI (T (5 * wi) + i))), (3, .int (nI (sm (fun c1 => sm (colS S T wi c1) (T (5 * wi + 3))) i + sm (colS S T wi i) (j + 1)))), (0, .ref v), (1, .int (nI wi)), (2, .ref g)]) [0, 2, 1, 3, 4, 5] rfl ?_
          exact ih_j
      exact M 0 (Nat.zero_le _)
  exact L 0 (Nat.zero_le _)

abbrev rm_X4_darkest : Room := { frames := 1, cells := 0, slots := 0, locals := 22 }
set_option maxHeartbeats 4000000 in
set_option maxRecDepth 100000 in
/-- the most soot on a pane of a window -/
theorem m_X4_darkest (l : Launch) (D : va_G) (cI cZ cJ : ClassId) (v v0 v1 v2 v3 v4 n : Nat) (T : Nat → Nat) (g a : Nat) (S : Nat → Nat) (wi : Nat) (hs : sootOk S) (hT : winOk T wi) (hk : wi < 6) : MI l yX4_darkest wsX4_darkest rm_X4_darkest D (gT cI cZ cJ) [(v, .inr (4, [.int (nI n), .ref v0, .ref v1, .ref v2, .ref v3, .ref v4])), (v0, .inl (cI, 6, .inl (vt 0 T))), (v1, .inl (cI, 6, .inl (vt 1 T))), (v2, .inl (cI, 6, .inl (vt 2 T))), (v3, .inl (cI, 6, .inl (vt 3 T))), (v4, .inl (cI, 6, .inl (vt 4 T))), (g, .inr (2, [.ref a])), (a, .inl (cI, 96, .inl (vs S)))] [.ref v, .int (nI wi), .ref g] (fun r u => r = nI (mxW S T wi) ∧ u = [(v, .inr (4, [.int (nI n), .ref v0, .ref v1, .ref v2, .ref v3, .ref v4])), (v0, .inl (cI, 6, .inl (vt 0 T))), (v1, .inl (cI, 6, .inl (vt 1 T))), (v2, .inl (cI, 6, .inl (vt 2 T))), (v3, .inl (cI, 6, .inl (vt 3 T))), (v4, .inl (cI, 6, .inl (vt 4 T))), (g, .inr (2, [.ref a])), (a, .inl (cI, 96, .inl (vs S)))]) := by
  refine MI_of [(0, .ref v), (1, .int (nI wi)), (2, .ref g)] (by decide) rfl (Nat.le_of_ble_eq_true rfl) rfl ?_
  intro p e s m args below meth c A Q X ret
  have hiX4 : ∀ w ∈ wsX40, w ∈ wsX4_darkest := (fun _ h => List.mem_cons_of_mem _ (List.mem_append_left _ (List.mem_append_right _ h)))
  have hT9 := hT
  unfold winOk at hT9
  refine g_iconst X (nI 0) 1 dX4_darkest_0 rfl (by decide +kernel) ?_
  refine g_istore_n X [(3, .int (nI 0)), (0, .ref v), (1, .int (nI wi)), (2, .ref g)] 2 dX4_darkest_1 rfl rfl (by decide) rfl ?_
  refine g_aload_n X 1 3 dX4_darkest_2 rfl rfl rfl ?_
  refine g_get X hiX4 0 1 6 rfl rfl (by decide) (List.mem_of_getElem? (i := 1) rfl) rfl dX4_darkest_3 rfl ?_
  refine g_iload_n X 2 7 dX4_darkest_6 rfl rfl rfl ?_
  refine g_iald X 1 0 (wi) (nI (T (5 * wi))) 8 rfl rfl (by omega) (by decide) (vt_at hk) dX4_darkest_7 rfl ?_
  refine g_istore X [(4, .int (nI (T (5 * wi)))), (3, .int (nI 0)), (0, .ref v), (1, .int (nI wi)), (2, .ref g)] 10 dX4_darkest_8 rfl (by decide) rfl ?_
  have L : ∀ i : Nat, i ≤ T (5 * wi + 2) → G p l e rm_X4_darkest s m args below meth c Q D A 6 0 0 [(v, .inr (4, [.int (nI n), .ref v0, .ref v1, .ref v2, .ref v3, .ref v4])), (v0, .inl (cI, 6, .inl (vt 0 T))), (v1, .inl (cI, 6, .inl (vt 1 T))), (v2, .inl (cI, 6, .inl (vt 2 T))), (v3, .inl (cI, 6, .inl (vt 3 T))), (v4, .inl (cI, 6, .inl (vt 4 T))), (g, .inr (2, [.ref a])), (a, .inl (cI, 96, .inl (vs S)))] [(4, .int (nI (T (5 * wi) + i))), (3, .int (nI (mx (fun c1 => mx (colS S T wi c1) (T (5 * wi + 3))) i))), (0, .ref v), (1, .int (nI wi)), (2, .ref g)] 10 [] := by
    refine g_down _ ?_ ?_
    · refine g_iload X 0 12 dX4_darkest_10 rfl rfl ?_
      refine g_aload_n X 2 13 dX4_darkest_12 rfl rfl rfl ?_
      refine g_get X hiX4 0 1 16 rfl rfl (by decide) (List.mem_of_getElem? (i := 1) rfl) rfl dX4_darkest_13 rfl ?_
      refine g_iload_n X 3 17 dX4_darkest_16 rfl rfl rfl ?_
      refine g_iald X 1 0 (wi) (nI (T (5 * wi))) 18 rfl rfl (by omega) (by decide) (vt_at hk) dX4_darkest_17 rfl ?_
      refine g_aload_n X 2 19 dX4_darkest_18 rfl rfl rfl ?_
      refine g_get X hiX4 0 3 22 rfl rfl (by decide) (List.mem_of_getElem? (i := 2) rfl) rfl dX4_darkest_19 rfl ?_
      refine g_iload_n X 3 23 dX4_darkest_22 rfl rfl rfl ?_
      refine g_iald X 3 0 (wi) (nI (T (5 * wi + 2))) 24 rfl rfl (by omega) (by decide) (vt_at hk) dX4_darkest_23 rfl ?_
      refine g_iadd X (nI ((T (5 * wi)) + (T (5 * wi + 2)))) 25 dX4_darkest_24 rfl (nI_add _ _) ?_
      refine g_icmp_ge X 28 79 dX4_darkest_25 rfl (by decide) (nI_leI (by omega) (by omega)) (fun h25 => ?_) (fun h25 => absurd (Nat.le_refl _) h25)
      refine g_iload_n X 1 80 dX4_darkest_79 rfl rfl rfl ?_
      exact ret _ _ _ _ dX4_darkest_80 rfl ⟨rfl, rfl⟩
    · intro i hi ih_i 
      refine g_iload X 0 12 dX4_darkest_10 rfl rfl ?_
      refine g_aload_n X 2 13 dX4_darkest_12 rfl rfl rfl ?_
      refine g_get X hiX4 0 1 16 rfl rfl (by decide) (List.mem_of_getElem? (i := 1) rfl) rfl dX4_darkest_13 rfl ?_
      refine g_iload_n X 3 17 dX4_darkest_16 rfl rfl rfl ?_
      refine g_iald X 1 0 (wi) (nI (T (5 * wi))) 18 rfl rfl (by omega) (by decide) (vt_at hk) dX4_darkest_17 rfl ?_
      refine g_aload_n X 2 19 dX4_darkest_18 rfl rfl rfl ?_
      refine g_get X hiX4 0 3 22 rfl rfl (by decide) (List.mem_of_getElem? (i := 2) rfl) rfl dX4_darkest_19 rfl ?_
      refine g_iload_n X 3 23 dX4_darkest_22 rfl rfl rfl ?_
      refine g_iald X 3 0 (wi) (nI (T (5 * wi + 2))) 24 rfl rfl (by omega) (by decide) (vt_at hk) dX4_darkest_23 rfl ?_
      refine g_iadd X (nI ((T (5 * wi)) + (T (5 * wi + 2)))) 25 dX4_darkest_24 rfl (nI_add _ _) ?_
      refine g_icmp_ge X 28 79 dX4_darkest_25 rfl (by decide) (nI_leI (by omega) (by omega)) (fun h25 => absurd h25 (by omega)) (fun h25 => ?_)
      refine g_aload_n X 2 29 dX4_darkest_28 rfl rfl rfl ?_
      refine g_get X hiX4 0 2 32 rfl rfl (by decide) (List.mem_of_getElem? (i := 3) rfl) rfl dX4_darkest_29 rfl ?_
      refine g_iload_n X 3 33 dX4_darkest_32 rfl rfl rfl ?_
      refine g_iald X 2 0 (wi) (nI (T (5 * wi + 1))) 34 rfl rfl (by omega) (by decide) (vt_at hk) dX4_darkest_33 rfl ?_
      refine g_istore X [(5, .int (nI (T (5 * wi + 1)))), (4, .int (nI (T (5 * wi) + i))), (3, .int (nI (mx (fun c1 => mx (colS S T wi c1) (T (5 * wi + 3))) i))), (0, .ref v), (1, .int (nI wi)), (2, .ref g)] 36 dX4_darkest_34 rfl (by decide) rfl ?_
      have M : ∀ j : Nat, j ≤ T (5 * wi + 3) → G p l e rm_X4_darkest s m args below meth c Q D A 6 0 0 [(v, .inr (4, [.int (nI n), .ref v0, .ref v1, .ref v2, .ref v3, .ref v4])), (v0, .inl (cI, 6, .inl (vt 0 T))), (v1, .inl (cI, 6, .inl (vt 1 T))), (v2, .inl (cI, 6, .inl (vt 2 T))), (v3, .inl (cI, 6, .inl (vt 3 T))), (v4, .inl (cI, 6, .inl (vt 4 T))), (g, .inr (2, [.ref a])), (a, .inl (cI, 96, .inl (vs S)))] [(5, .int (nI (T (5 * wi + 1) + j))), (4, .int (nI (T (5 * wi) + i))), (3, .int (nI (max (mx (fun c1 => mx (colS S T wi c1) (T (5 * wi + 3))) i) (mx (colS S T wi i) j)))), (0, .ref v), (1, .int (nI wi)), (2, .ref g)] 36 [] := by
        refine g_down _ ?_ ?_
        · refine g_iload X 0 38 dX4_darkest_36 rfl rfl ?_
          refine g_aload_n X 3 39 dX4_darkest_38 rfl rfl rfl ?_
          refine g_get X hiX4 0 2 42 rfl rfl (by decide) (List.mem_of_getElem? (i := 3) rfl) rfl dX4_darkest_39 rfl ?_
          refine g_iload_n X 4 43 dX4_darkest_42 rfl rfl rfl ?_
          refine g_iald X 2 0 (wi) (nI (T (5 * wi + 1))) 44 rfl rfl (by omega) (by decide) (vt_at hk) dX4_darkest_43 rfl ?_
          refine g_aload_n X 3 45 dX4_darkest_44 rfl rfl rfl ?_
          refine g_get X hiX4 0 4 48 rfl rfl (by decide) (List.mem_of_getElem? (i := 4) rfl) rfl dX4_darkest_45 rfl ?_
          refine g_iload_n X 4 49 dX4_darkest_48 rfl rfl rfl ?_
          refine g_iald X 4 0 (wi) (nI (T (5 * wi + 3))) 50 rfl rfl (by omega) (by decide) (vt_at hk) dX4_darkest_49 rfl ?_
          refine g_iadd X (nI ((T (5 * wi + 1)) + (T (5 * wi + 3)))) 51 dX4_darkest_50 rfl (nI_add _ _) ?_
          refine g_icmp_ge X 54 73 dX4_darkest_51 rfl (by decide) (nI_leI (by omega) (by omega)) (fun h51 => ?_) (fun h51 => absurd (Nat.le_refl _) h51)
          refine g_iinc X 1 (nI (T (5 * wi) + i + 1)) [(4, .int (nI (T (5 * wi) + i + 1))), (5, .int (nI (T (5 * wi + 1) + (T (5 * wi + 3))))), (3, .int (nI (max (mx (fun c1 => mx (colS S T wi c1) (T (5 * wi + 3))) i) (mx (colS S T wi i) (T (5 * wi + 3)))))), (0, .ref v), (1, .int (nI wi)), (2, .ref g)] 76 dX4_darkest_73 rfl rfl (nI_inc _) (by decide) rfl ?_
          refine g_goto X 10 dX4_darkest_76 (by decide) ?_
          refine g_lv (lv' := [(4, .int (nI (T (5 * wi) + i + 1))), (3, .int (nI (max (mx (fun c1 => mx (colS S T wi c1) (T (5 * wi + 3))) i) (mx (colS S T wi i) (T (5 * wi + 3)))))), (0, .ref v), (1, .int (nI wi)), (2, .ref g)]) [0, 2, 3, 4, 5] rfl ?_
          exact ih_i
        · intro j hj ih_j 
          refine g_iload X 0 38 dX4_darkest_36 rfl rfl ?_
          refine g_aload_n X 3 39 dX4_darkest_38 rfl rfl rfl ?_
          refine g_get X hiX4 0 2 42 rfl rfl (by decide) (List.mem_of_getElem? (i := 3) rfl) rfl dX4_darkest_39 rfl ?_
          refine g_iload_n X 4 43 dX4_darkest_42 rfl rfl rfl ?_
          refine g_iald X 2 0 (wi) (nI (T (5 * wi + 1))) 44 rfl rfl (by omega) (by decide) (vt_at hk) dX4_darkest_43 rfl ?_
          refine g_aload_n X 3 45 dX4_darkest_44 rfl rfl rfl ?_
          refine g_get X hiX4 0 4 48 rfl rfl (by decide) (List.mem_of_getElem? (i := 4) rfl) rfl dX4_darkest_45 rfl ?_
          refine g_iload_n X 4 49 dX4_darkest_48 rfl rfl rfl ?_
          refine g_iald X 4 0 (wi) (nI (T (5 * wi + 3))) 50 rfl rfl (by omega) (by decide) (vt_at hk) dX4_darkest_49 rfl ?_
          refine g_iadd X (nI ((T (5 * wi + 1)) + (T (5 * wi + 3)))) 51 dX4_darkest_50 rfl (nI_add _ _) ?_
          refine g_icmp_ge X 54 73 dX4_darkest_51 rfl (by decide) (nI_leI (by omega) (by omega)) (fun h51 => absurd h51 (by omega)) (fun h51 => ?_)
          refine g_iload_n X 2 55 dX4_darkest_54 rfl rfl rfl ?_
          refine g_aload_n X 5 56 dX4_darkest_55 rfl rfl rfl ?_
          refine g_iload X 1 58 dX4_darkest_56 rfl rfl ?_
          refine g_iload X 0 60 dX4_darkest_58 rfl rfl ?_
          have hm1 : mx (fun c1 => mx (colS S T wi c1) (T (5 * wi + 3))) i ≤ 20 := mx_le i (fun c1 hc1 => mx_le _ (fun j1 hj1 => col_le hs hT (by omega) hj1))
          have hm2 : mx (colS S T wi i) j ≤ 20 := mx_le j (fun j1 hj1 => col_le hs hT hi (by omega))
          have hm3 : S (4 + ((T (5 * wi) + i) * 8 + (T (5 * wi + 1) + j))) ≤ 20 := col_le hs hT hi hj
          refine g_callVi (ws' := [(v, .inr (4, [.int (nI n), .ref v0, .ref v1, .ref v2, .ref v3, .ref v4])), (v0, .inl (cI, 6, .inl (vt 0 T))), (v1, .inl (cI, 6, .inl (vt 1 T))), (v2, .inl (cI, 6, .inl (vt 2 T))), (v3, .inl (cI, 6, .inl (vt 3 T))), (v4, .inl (cI, 6, .inl (vt 4 T))), (g, .inr (2, [.ref a])), (a, .inl (cI, 96, .inl (vs S)))]) X (m_X2_at l D cI cZ cJ g a (T (5 * wi) + i) (T (5 * wi + 1) + j) S (by omega) (by omega)) 63 [6, 7] gX4_darkest_X2_at (n := 2) rfl (by decide +kernel) rfl ⟨Nat.le_of_ble_eq_true rfl, Nat.le_of_ble_eq_true rfl⟩ (ci := 2) (q0 := 0) rfl rfl rfl (Nat.le_of_ble_eq_true rfl) rfl (by decide +kernel) rfl rfl dX4_darkest_60 rfl ⟨Nat.le_of_ble_eq_true rfl, Nat.le_of_ble_eq_true rfl⟩ ?_
          refine g_max X (nI (max (max (mx (fun c1 => mx (colS S T wi c1) (T (5 * wi + 3))) i) (mx (colS S T wi i) j)) (S (4 + ((T (5 * wi) + i) * 8 + (T (5 * wi + 1) + j)))))) 66 (List.mem_of_getElem? (i := 5) rfl) (List.mem_of_getElem? (i := 6) rfl) (List.mem_of_getElem? (i := 7) rfl) (List.mem_of_getElem? (i := 8) rfl) (Nat.le_of_ble_eq_true rfl) (Nat.le_of_ble_eq_true rfl) (Nat.zero_le _) (Nat.zero_le _) (nI_max (by omega) (by omega)) dX4_darkest_63 rfl ?_
          refine g_eqi (y := nI (max (mx (fun c1 => mx (colS S T wi c1) (T (5 * wi + 3))) i) (mx (colS S T wi i) (j + 1)))) (by rw [Nat.max_assoc]; rfl) ?_
          refine g_istore_n X [(3, .int (nI (max (mx (fun c1 => mx (colS S T wi c1) (T (5 * wi + 3))) i) (mx (colS S T wi i) (j + 1))))), (5, .int (nI (T (5 * wi + 1) + j))), (4, .int (nI (T (5 * wi) + i))), (0, .ref v), (1, .int (nI wi)), (2, .ref g)] 67 dX4_darkest_66 rfl rfl (by decide) rfl ?_
          refine g_iinc X 1 (nI (T (5 * wi + 1) + j + 1)) [(5, .int (nI (T (5 * wi + 1) + j + 1))), (3, .int (nI (max (mx (fun c1 => mx (colS S T wi c1) (T (5 * wi + 3))) i) (mx (colS S T wi i) (j + 1))))), (4, .int (nI (T (5 * wi) + i))), (0, .ref v), (1, .int (nI wi)), (2, .ref g)] 70 dX4_darkest_67 rfl rfl (nI_inc _) (by decide) rfl ?_
          refine g_goto X 36 dX4_darkest_70 (by decide) ?_
          refine g_lv (lv' := [(5, .int (nI (T (5 * wi + 1) + j + 1))), (4, .int (nI (T (5 * wi) + i))), (3, .int (nI (max (mx (fun c1 => mx (colS S T wi c1) (T (5 * wi + 3))) i) (mx (colS S T wi i) (j + 1))))), (0, .ref v), (1, .int (nI wi)), (2, .ref g)]) [0, 2, 1, 3, 4, 5] rfl ?_
          exact ih_j
      have M0 := M 0 (Nat.zero_le _)
      rw [show max (mx (fun c1 => mx (colS S T wi c1) (T (5 * wi + 3))) i) (mx (colS S T wi i) 0) = mx (fun c1 => mx (colS S T wi c1) (T (5 * wi + 3))) i from Nat.max_eq_left (Nat.zero_le _)] at M0
      exact M0
  exact L 0 (Nat.zero_le _)

abbrev rm_X4_wipeOff : Room := { frames := 2, cells := 0, slots := 0, locals := 46 }
set_option maxHeartbeats 4000000 in
set_option maxRecDepth 100000 in
/-- wipes a window clean -/
theorem m_X4_wipeOff (l : Launch) (D : va_G) (cI cZ cJ : ClassId) (v v0 v1 v2 v3 v4 n : Nat) (T : Nat → Nat) (g a : Nat) (S : Nat → Nat) (wi : Nat) (hs : sootOk S) (hT : winOk T wi) (hk : wi < 6) : MI l yX4_wipeOff wsX4_wipeOff rm_X4_wipeOff D (gT cI cZ cJ) [(v, .inr (4, [.int (nI n), .ref v0, .ref v1, .ref v2, .ref v3, .ref v4])), (v0, .inl (cI, 6, .inl (vt 0 T))), (v1, .inl (cI, 6, .inl (vt 1 T))), (v2, .inl (cI, 6, .inl (vt 2 T))), (v3, .inl (cI, 6, .inl (vt 3 T))), (v4, .inl (cI, 6, .inl (vt 4 T))), (g, .inr (2, [.ref a])), (a, .inl (cI, 96, .inl (vs S)))] [.ref v, .int (nI wi), .ref g] (fun r u => r = nI (addW S T wi) ∧ u = [(v, .inr (4, [.int (nI n), .ref v0, .ref v1, .ref v2, .ref v3, .ref v4])), (v0, .inl (cI, 6, .inl (vt 0 T))), (v1, .inl (cI, 6, .inl (vt 1 T))), (v2, .inl (cI, 6, .inl (vt 2 T))), (v3, .inl (cI, 6, .inl (vt 3 T))), (v4, .inl (cI, 6, .inl (vt 4 T))), (g, .inr (2, [.ref a])), (a, .inl (cI, 96, .inl (vs (wp S T wi))))]) := by
  refine MI_of [(0, .ref v), (1, .int (nI wi)), (2, .ref g)] (by decide) rfl (Nat.le_of_ble_eq_true rfl) rfl ?_
  intro p e s m args below meth c A Q X ret
  have hiX4 : ∀ w ∈ wsX40, w ∈ wsX4_wipeOff := (fun _ h => List.mem_cons_of_mem _ (List.mem_append_left _ (List.mem_append_right _ h)))
  have hT9 := hT
  unfold winOk at hT9
  refine g_iconst X (nI 0) 1 dX4_wipeOff_0 rfl (by decide +kernel) ?_
  refine g_istore_n X [(3, .int (nI 0)), (0, .ref v), (1, .int (nI wi)), (2, .ref g)] 2 dX4_wipeOff_1 rfl rfl (by decide) rfl ?_
  refine g_aload_n X 1 3 dX4_wipeOff_2 rfl rfl rfl ?_
  refine g_get X hiX4 0 1 6 rfl rfl (by decide) (List.mem_of_getElem? (i := 1) rfl) rfl dX4_wipeOff_3 rfl ?_
  refine g_iload_n X 2 7 dX4_wipeOff_6 rfl rfl rfl ?_
  refine g_iald X 1 0 (wi) (nI (T (5 * wi))) 8 rfl rfl (by omega) (by decide) (vt_at hk) dX4_wipeOff_7 rfl ?_
  refine g_istore X [(4, .int (nI (T (5 * wi)))), (3, .int (nI 0)), (0, .ref v), (1, .int (nI wi)), (2, .ref g)] 10 dX4_wipeOff_8 rfl (by decide) rfl ?_
  have L : ∀ i : Nat, i ≤ T (5 * wi + 2) → G p l e rm_X4_wipeOff s m args below meth c Q D A 6 0 0 [(v, .inr (4, [.int (nI n), .ref v0, .ref v1, .ref v2, .ref v3, .ref v4])), (v0, .inl (cI, 6, .inl (vt 0 T))), (v1, .inl (cI, 6, .inl (vt 1 T))), (v2, .inl (cI, 6, .inl (vt 2 T))), (v3, .inl (cI, 6, .inl (vt 3 T))), (v4, .inl (cI, 6, .inl (vt 4 T))), (g, .inr (2, [.ref a])), (a, .inl (cI, 96, .inl (vs (wpU T wi i 0 S))))] [(4, .int (nI (T (5 * wi) + i))), (3, .int (nI (sm (fun c1 => sm (colS S T wi c1) (T (5 * wi + 3))) i))), (0, .ref v), (1, .int (nI wi)), (2, .ref g)] 10 [] := by
    refine g_down _ ?_ ?_
    · refine g_iload X 0 12 dX4_wipeOff_10 rfl rfl ?_
      refine g_aload_n X 2 13 dX4_wipeOff_12 rfl rfl rfl ?_
      refine g_get X hiX4 0 1 16 rfl rfl (by decide) (List.mem_of_getElem? (i := 1) rfl) rfl dX4_wipeOff_13 rfl ?_
      refine g_iload_n X 3 17 dX4_wipeOff_16 rfl rfl rfl ?_
      refine g_iald X 1 0 (wi) (nI (T (5 * wi))) 18 rfl rfl (by omega) (by decide) (vt_at hk) dX4_wipeOff_17 rfl ?_
      refine g_aload_n X 2 19 dX4_wipeOff_18 rfl rfl rfl ?_
      refine g_get X hiX4 0 3 22 rfl rfl (by decide) (List.mem_of_getElem? (i := 2) rfl) rfl dX4_wipeOff_19 rfl ?_
      refine g_iload_n X 3 23 dX4_wipeOff_22 rfl rfl rfl ?_
      refine g_iald X 3 0 (wi) (nI (T (5 * wi + 2))) 24 rfl rfl (by omega) (by decide) (vt_at hk) dX4_wipeOff_23 rfl ?_
      refine g_iadd X (nI ((T (5 * wi)) + (T (5 * wi + 2)))) 25 dX4_wipeOff_24 rfl (nI_add _ _) ?_
      refine g_icmp_ge X 28 79 dX4_wipeOff_25 rfl (by decide) (nI_leI (by omega) (by omega)) (fun h25 => ?_) (fun h25 => absurd (Nat.le_refl _) h25)
      refine g_iload_n X 1 80 dX4_wipeOff_79 rfl rfl rfl ?_
      exact ret _ _ _ _ dX4_wipeOff_80 rfl ⟨rfl, rfl⟩
    · intro i hi ih_i 
      refine g_iload X 0 12 dX4_wipeOff_10 rfl rfl ?_
      refine g_aload_n X 2 13 dX4_wipeOff_12 rfl rfl rfl ?_
      refine g_get X hiX4 0 1 16 rfl rfl (by decide) (List.mem_of_getElem? (i := 1) rfl) rfl dX4_wipeOff_13 rfl ?_
      refine g_iload_n X 3 17 dX4_wipeOff_16 rfl rfl rfl ?_
      refine g_iald X 1 0 (wi) (nI (T (5 * wi))) 18 rfl rfl (by omega) (by decide) (vt_at hk) dX4_wipeOff_17 rfl ?_
      refine g_aload_n X 2 19 dX4_wipeOff_18 rfl rfl rfl ?_
      refine g_get X hiX4 0 3 22 rfl rfl (by decide) (List.mem_of_getElem? (i := 2) rfl) rfl dX4_wipeOff_19 rfl ?_
      refine g_iload_n X 3 23 dX4_wipeOff_22 rfl rfl rfl ?_
      refine g_iald X 3 0 (wi) (nI (T (5 * wi + 2))) 24 rfl rfl (by omega) (by decide) (vt_at hk) dX4_wipeOff_23 rfl ?_
      refine g_iadd X (nI ((T (5 * wi)) + (T (5 * wi + 2)))) 25 dX4_wipeOff_24 rfl (nI_add _ _) ?_
      refine g_icmp_ge X 28 79 dX4_wipeOff_25 rfl (by decide) (nI_leI (by omega) (by omega)) (fun h25 => absurd h25 (by omega)) (fun h25 => ?_)
      refine g_aload_n X 2 29 dX4_wipeOff_28 rfl rfl rfl ?_
      refine g_get X hiX4 0 2 32 rfl rfl (by decide) (List.mem_of_getElem? (i := 3) rfl) rfl dX4_wipeOff_29 rfl ?_
      refine g_iload_n X 3 33 dX4_wipeOff_32 rfl rfl rfl ?_
      refine g_iald X 2 0 (wi) (nI (T (5 * wi + 1))) 34 rfl rfl (by omega) (by decide) (vt_at hk) dX4_wipeOff_33 rfl ?_
      refine g_istore X [(5, .int (nI (T (5 * wi + 1)))), (4, .int (nI (T (5 * wi) + i))), (3, .int (nI (sm (fun c1 => sm (colS S T wi c1) (T (5 * wi + 3))) i))), (0, .ref v), (1, .int (nI wi)), (2, .ref g)] 36 dX4_wipeOff_34 rfl (by decide) rfl ?_
      have M : ∀ j : Nat, j ≤ T (5 * wi + 3) → G p l e rm_X4_wipeOff s m args below meth c Q D A 6 0 0 [(v, .inr (4, [.int (nI n), .ref v0, .ref v1, .ref v2, .ref v3, .ref v4])), (v0, .inl (cI, 6, .inl (vt 0 T))), (v1, .inl (cI, 6, .inl (vt 1 T))), (v2, .inl (cI, 6, .inl (vt 2 T))), (v3, .inl (cI, 6, .inl (vt 3 T))), (v4, .inl (cI, 6, .inl (vt 4 T))), (g, .inr (2, [.ref a])), (a, .inl (cI, 96, .inl (vs (wpU T wi i j S))))] [(5, .int (nI (T (5 * wi + 1) + j))), (4, .int (nI (T (5 * wi) + i))), (3, .int (nI (sm (fun c1 => sm (colS S T wi c1) (T (5 * wi + 3))) i + sm (colS S T wi i) j))), (0, .ref v), (1, .int (nI wi)), (2, .ref g)] 36 [] := by
        refine g_down _ ?_ ?_
        · refine g_iload X 0 38 dX4_wipeOff_36 rfl rfl ?_
          refine g_aload_n X 3 39 dX4_wipeOff_38 rfl rfl rfl ?_
          refine g_get X hiX4 0 2 42 rfl rfl (by decide) (List.mem_of_getElem? (i := 3) rfl) rfl dX4_wipeOff_39 rfl ?_
          refine g_iload_n X 4 43 dX4_wipeOff_42 rfl rfl rfl ?_
          refine g_iald X 2 0 (wi) (nI (T (5 * wi + 1))) 44 rfl rfl (by omega) (by decide) (vt_at hk) dX4_wipeOff_43 rfl ?_
          refine g_aload_n X 3 45 dX4_wipeOff_44 rfl rfl rfl ?_
          refine g_get X hiX4 0 4 48 rfl rfl (by decide) (List.mem_of_getElem? (i := 4) rfl) rfl dX4_wipeOff_45 rfl ?_
          refine g_iload_n X 4 49 dX4_wipeOff_48 rfl rfl rfl ?_
          refine g_iald X 4 0 (wi) (nI (T (5 * wi + 3))) 50 rfl rfl (by omega) (by decide) (vt_at hk) dX4_wipeOff_49 rfl ?_
          refine g_iadd X (nI ((T (5 * wi + 1)) + (T (5 * wi + 3)))) 51 dX4_wipeOff_50 rfl (nI_add _ _) ?_
          refine g_icmp_ge X 54 73 dX4_wipeOff_51 rfl (by decide) (nI_leI (by omega) (by omega)) (fun h51 => ?_) (fun h51 => absurd (Nat.le_refl _) h51)
          refine g_iinc X 1 (nI (T (5 * wi) + i + 1)) [(4, .int (nI (T (5 * wi) + i + 1))), (5, .int (nI (T (5 * wi + 1) + (T (5 * wi + 3))))), (3, .int (nI (sm (fun c1 => sm (colS S T wi c1) (T (5 * wi + 3))) i + sm (colS S T wi i) (T (5 * wi + 3))))), (0, .ref v), (1, .int (nI wi)), (2, .ref g)] 76 dX4_wipeOff_73 rfl rfl (nI_inc _) (by decide) rfl ?_
          refine g_goto X 10 dX4_wipeOff_76 (by decide) ?_
          refine g_lv (lv' := [(4, .int (nI (T (5 * wi) + i + 1))), (3, .int (nI (sm (fun c1 => sm (colS S T wi c1) (T (5 * wi + 3))) i + sm (colS S T wi i) (T (5 * wi + 3))))), (0, .ref v), (1, .int (nI wi)), (2, .ref g)]) [0, 2, 3, 4, 5] rfl ?_
          exact (by rw [wpU_r]; exact ih_i)
        · intro j hj ih_j 
          refine g_iload X 0 38 dX4_wipeOff_36 rfl rfl ?_
          refine g_aload_n X 3 39 dX4_wipeOff_38 rfl rfl rfl ?_
          refine g_get X hiX4 0 2 42 rfl rfl (by decide) (List.mem_of_getElem? (i := 3) rfl) rfl dX4_wipeOff_39 rfl ?_
          refine g_iload_n X 4 43 dX4_wipeOff_42 rfl rfl rfl ?_
          refine g_iald X 2 0 (wi) (nI (T (5 * wi + 1))) 44 rfl rfl (by omega) (by decide) (vt_at hk) dX4_wipeOff_43 rfl ?_
          refine g_aload_n X 3 45 dX4_wipeOff_44 rfl rfl rfl ?_
          refine g_get X hiX4 0 4 48 rfl rfl (by decide) (List.mem_of_getElem? (i := 4) rfl) rfl dX4_wipeOff_45 rfl ?_
          refine g_iload_n X 4 49 dX4_wipeOff_48 rfl rfl rfl ?_
          refine g_iald X 4 0 (wi) (nI (T (5 * wi + 3))) 50 rfl rfl (by omega) (by decide) (vt_at hk) dX4_wipeOff_49 rfl ?_
          refine g_iadd X (nI ((T (5 * wi + 1)) + (T (5 * wi + 3)))) 51 dX4_wipeOff_50 rfl (nI_add _ _) ?_
          refine g_icmp_ge X 54 73 dX4_wipeOff_51 rfl (by decide) (nI_leI (by omega) (by omega)) (fun h51 => absurd h51 (by omega)) (fun h51 => ?_)
          refine g_iload_n X 2 55 dX4_wipeOff_54 rfl rfl rfl ?_
          refine g_aload_n X 5 56 dX4_wipeOff_55 rfl rfl rfl ?_
          refine g_iload X 1 58 dX4_wipeOff_56 rfl rfl ?_
          refine g_iload X 0 60 dX4_wipeOff_58 rfl rfl ?_
          refine g_bipush X (nI 20) 62 dX4_wipeOff_60 rfl (by decide +kernel) ?_
          have hc2 := col_le hs hT hi hj
          refine g_callVi (ws' := [(v, .inr (4, [.int (nI n), .ref v0, .ref v1, .ref v2, .ref v3, .ref v4])), (v0, .inl (cI, 6, .inl (vt 0 T))), (v1, .inl (cI, 6, .inl (vt 1 T))), (v2, .inl (cI, 6, .inl (vt 2 T))), (v3, .inl (cI, 6, .inl (vt 3 T))), (v4, .inl (cI, 6, .inl (vt 4 T))), (g, .inr (2, [.ref a])), (a, .inl (cI, 96, .inl (vs (wpU T wi i (j + 1) S))))]) X (m_X2_takeOff l D cI cZ cJ g a (T (5 * wi) + i) (T (5 * wi + 1) + j) 20 (wpU T wi i j S) (by omega) (by omega) (wpU_ok hs) (by decide)) 65 [6, 7] gX4_wipeOff_X2_takeOff (n := 3) rfl (by decide +kernel) rfl ⟨Nat.le_of_ble_eq_true rfl, Nat.le_of_ble_eq_true rfl⟩ (ci := 2) (q0 := 0) rfl rfl rfl (Nat.le_of_ble_eq_true rfl) rfl (by decide +kernel) rfl (by rw [← wpU_s (S := S) hT hi hj (show (wpU T wi i j S) (4 + ((T (5 * wi) + i) * 8 + (T (5 * wi + 1) + j))) - min 20 ((wpU T wi i j S) (4 + ((T (5 * wi) + i) * 8 + (T (5 * wi + 1) + j)))) = 0 by rw [wpU_at hT hi hj]; omega)]; rfl) dX4_wipeOff_62 rfl ⟨Nat.le_of_ble_eq_true rfl, Nat.le_of_ble_eq_true rfl⟩ ?_
          refine g_eqi (y := nI (colS S T wi i j)) (by rw [wpU_at hT hi hj]; congr 1; omega) ?_
          refine g_iadd X (nI ((sm (fun c1 => sm (colS S T wi c1) (T (5 * wi + 3))) i + sm (colS S T wi i) j) + (colS S T wi i j))) 66 dX4_wipeOff_65 rfl (nI_add _ _) ?_
          refine g_eqi (y := nI (sm (fun c1 => sm (colS S T wi c1) (T (5 * wi + 3))) i + sm (colS S T wi i) (j + 1))) (by rw [Nat.add_assoc]; rfl) ?_
          refine g_istore_n X [(3, .int (nI (sm (fun c1 => sm (colS S T wi c1) (T (5 * wi + 3))) i + sm (colS S T wi i) (j + 1)))), (5, .int (nI (T (5 * wi + 1) + j))), (4, .int (nI (T (5 * wi) + i))), (0, .ref v), (1, .int (nI wi)), (2, .ref g)] 67 dX4_wipeOff_66 rfl rfl (by decide) rfl ?_
          refine g_iinc X 1 (nI (T (5 * wi + 1) + j + 1)) [(5, .int (nI (T (5 * wi + 1) + j + 1))), (3, .int (nI (sm (fun c1 => sm (colS S T wi c1) (T (5 * wi + 3))) i + sm (colS S T wi i) (j + 1)))), (4, .int (nI (T (5 * wi) + i))), (0, .ref v), (1, .int (nI wi)), (2, .ref g)] 70 dX4_wipeOff_67 rfl rfl (nI_inc _) (by decide) rfl ?_
          refine g_goto X 36 dX4_wipeOff_70 (by decide) ?_
          refine g_lv (lv' := [(5, .int (nI (T (5 * wi + 1) + j + 1))), (4, .int (nI (T (5 * wi) + i))), (3, .int (nI (sm (fun c1 => sm (colS S T wi c1) (T (5 * wi + 3))) i + sm (colS S T wi i) (j + 1)))), (0, .ref v), (1, .int (nI wi)), (2, .ref g)]) [0, 2, 1, 3, 4, 5] rfl ?_
          exact ih_j
      exact M 0 (Nat.zero_le _)
  have L0 := L 0 (Nat.zero_le _)
  rw [wpU_0] at L0
  exact L0

abbrev rm_X4_brings : Room := { frames := 2, cells := 0, slots := 0, locals := 47 }
set_option maxHeartbeats 4000000 in
set_option maxRecDepth 100000 in
/-- the coins that a window would bring -/
theorem m_X4_brings (l : Launch) (D : va_G) (cI cZ cJ : ClassId) (v v0 v1 v2 v3 v4 n : Nat) (T : Nat → Nat) (g a : Nat) (S : Nat → Nat) (wi : Nat) (hs : sootOk S) (hT : winOk T wi) (hk : wi < 6) : MI l yX4_brings wsX4_brings rm_X4_brings D (gT cI cZ cJ) [(v, .inr (4, [.int (nI n), .ref v0, .ref v1, .ref v2, .ref v3, .ref v4])), (v0, .inl (cI, 6, .inl (vt 0 T))), (v1, .inl (cI, 6, .inl (vt 1 T))), (v2, .inl (cI, 6, .inl (vt 2 T))), (v3, .inl (cI, 6, .inl (vt 3 T))), (v4, .inl (cI, 6, .inl (vt 4 T))), (g, .inr (2, [.ref a])), (a, .inl (cI, 96, .inl (vs S)))] [.ref v, .int (nI wi), .ref g] (fun r u => r = nI (brW S T wi) ∧ u = [(v, .inr (4, [.int (nI n), .ref v0, .ref v1, .ref v2, .ref v3, .ref v4])), (v0, .inl (cI, 6, .inl (vt 0 T))), (v1, .inl (cI, 6, .inl (vt 1 T))), (v2, .inl (cI, 6, .inl (vt 2 T))), (v3, .inl (cI, 6, .inl (vt 3 T))), (v4, .inl (cI, 6, .inl (vt 4 T))), (g, .inr (2, [.ref a])), (a, .inl (cI, 96, .inl (vs S)))]) := by
  refine MI_of [(0, .ref v), (1, .int (nI wi)), (2, .ref g)] (by decide) rfl (Nat.le_of_ble_eq_true rfl) rfl ?_
  intro p e s m args below meth c A Q X ret
  have hiX4 : ∀ w ∈ wsX40, w ∈ wsX4_brings := (fun _ h => List.mem_cons_of_mem _ (List.mem_append_left _ (List.mem_append_right _ h)))
  have h1 := addW_le hs hT
  have h2 := pnW_le hT
  have h3 : T (5 * wi + 4) * pnW T wi ≤ 9 * 96 := Nat.mul_le_mul hT.2.2.2.2.2 h2
  refine g_iconst X (nI 0) 1 dX4_brings_0 rfl (by decide +kernel) ?_
  refine g_aload_n X 0 2 dX4_brings_1 rfl rfl rfl ?_
  refine g_get X hiX4 0 5 5 rfl rfl (by decide) (List.mem_of_getElem? (i := 1) rfl) rfl dX4_brings_2 rfl ?_
  refine g_iload_n X 1 6 dX4_brings_5 rfl rfl rfl ?_
  refine g_iald X 5 0 (wi) (nI (T (5 * wi + 4))) 7 rfl rfl (by omega) (by decide) (vt_at hk) dX4_brings_6 rfl ?_
  refine g_aload_n X 0 8 dX4_brings_7 rfl rfl rfl ?_
  refine g_iload_n X 1 9 dX4_brings_8 rfl rfl rfl ?_
  refine g_callVi (ws' := [(v, .inr (4, [.int (nI n), .ref v0, .ref v1, .ref v2, .ref v3, .ref v4])), (v0, .inl (cI, 6, .inl (vt 0 T))), (v1, .inl (cI, 6, .inl (vt 1 T))), (v2, .inl (cI, 6, .inl (vt 2 T))), (v3, .inl (cI, 6, .inl (vt 3 T))), (v4, .inl (cI, 6, .inl (vt 4 T))), (g, .inr (2, [.ref a])), (a, .inl (cI, 96, .inl (vs S)))]) X (m_X4_panes l D cI cZ cJ v v0 v1 v2 v3 v4 n T wi hk) 12 [0, 1, 2, 3, 4, 5] gX4_brings_X4_panes (n := 1) rfl (by decide +kernel) rfl ⟨Nat.le_of_ble_eq_true rfl, Nat.le_of_ble_eq_true rfl⟩ (ci := 4) (q0 := 0) rfl rfl rfl (Nat.le_of_ble_eq_true rfl) rfl (by decide +kernel) rfl rfl dX4_brings_9 rfl ⟨Nat.le_of_ble_eq_true rfl, Nat.le_of_ble_eq_true rfl⟩ ?_
  refine g_imul X (nI ((T (5 * wi + 4)) * (pnW T wi))) 13 dX4_brings_12 rfl (pk_mul _ _) ?_
  refine g_aload_n X 0 14 dX4_brings_13 rfl rfl rfl ?_
  refine g_iload_n X 1 15 dX4_brings_14 rfl rfl rfl ?_
  refine g_aload_n X 2 16 dX4_brings_15 rfl rfl rfl ?_
  refine g_callVi (ws' := [(v, .inr (4, [.int (nI n), .ref v0, .ref v1, .ref v2, .ref v3, .ref v4])), (v0, .inl (cI, 6, .inl (vt 0 T))), (v1, .inl (cI, 6, .inl (vt 1 T))), (v2, .inl (cI, 6, .inl (vt 2 T))), (v3, .inl (cI, 6, .inl (vt 3 T))), (v4, .inl (cI, 6, .inl (vt 4 T))), (g, .inr (2, [.ref a])), (a, .inl (cI, 96, .inl (vs S)))]) X (m_X4_added l D cI cZ cJ v v0 v1 v2 v3 v4 n T g a S wi hs hT hk) 19 [0, 1, 2, 3, 4, 5, 6, 7] gX4_brings_X4_added (n := 2) rfl (by decide +kernel) rfl ⟨Nat.le_of_ble_eq_true rfl, Nat.le_of_ble_eq_true rfl⟩ (ci := 4) (q0 := 0) rfl rfl rfl (Nat.le_of_ble_eq_true rfl) rfl (by decide +kernel) rfl rfl dX4_brings_16 rfl ⟨Nat.le_of_ble_eq_true rfl, Nat.le_of_ble_eq_true rfl⟩ ?_
  refine g_isub X ((nI ((T (5 * wi + 4)) * (pnW T wi))) - (nI (addW S T wi))) 20 dX4_brings_19 rfl rfl ?_
  refine g_max X (nI (brW S T wi)) 23 (List.mem_of_getElem? (i := 2) rfl) (List.mem_of_getElem? (i := 3) rfl) (List.mem_of_getElem? (i := 4) rfl) (List.mem_of_getElem? (i := 5) rfl) (Nat.le_of_ble_eq_true rfl) (Nat.le_of_ble_eq_true rfl) (Nat.zero_le _) (Nat.zero_le _) (nI_max0 (by omega) (by omega)) dX4_brings_20 rfl ?_
  exact ret _ _ _ _ dX4_brings_23 rfl ⟨rfl, rfl⟩

abbrev rm_X4_allBring : Room := { frames := 3, cells := 0, slots := 0, locals := 69 }
set_option maxHeartbeats 4000000 in
set_option maxRecDepth 100000 in
/-- what all windows would bring -/
theorem m_X4_allBring (l : Launch) (D : va_G) (cI cZ cJ : ClassId) (v v0 v1 v2 v3 v4 n : Nat) (T : Nat → Nat) (g a : Nat) (S : Nat → Nat) (hs : sootOk S) (hn : n ≤ 6) (hT : ∀ k : Nat, k < n → winOk T k) : MI l yX4_allBring wsX4_allBring rm_X4_allBring D (gT cI cZ cJ) [(v, .inr (4, [.int (nI n), .ref v0, .ref v1, .ref v2, .ref v3, .ref v4])), (v0, .inl (cI, 6, .inl (vt 0 T))), (v1, .inl (cI, 6, .inl (vt 1 T))), (v2, .inl (cI, 6, .inl (vt 2 T))), (v3, .inl (cI, 6, .inl (vt 3 T))), (v4, .inl (cI, 6, .inl (vt 4 T))), (g, .inr (2, [.ref a])), (a, .inl (cI, 96, .inl (vs S)))] [.ref v, .ref g] (fun r u => r = nI (allB S T n) ∧ u = [(v, .inr (4, [.int (nI n), .ref v0, .ref v1, .ref v2, .ref v3, .ref v4])), (v0, .inl (cI, 6, .inl (vt 0 T))), (v1, .inl (cI, 6, .inl (vt 1 T))), (v2, .inl (cI, 6, .inl (vt 2 T))), (v3, .inl (cI, 6, .inl (vt 3 T))), (v4, .inl (cI, 6, .inl (vt 4 T))), (g, .inr (2, [.ref a])), (a, .inl (cI, 96, .inl (vs S)))]) := by
  refine MI_of [(0, .ref v), (1, .ref g)] (by decide) rfl (Nat.le_of_ble_eq_true rfl) rfl ?_
  intro p e s m args below meth c A Q X ret
  have hiX4 : ∀ w ∈ wsX40, w ∈ wsX4_allBring := (fun _ h => List.mem_cons_of_mem _ (List.mem_append_left _ (List.mem_append_right _ h)))
  refine g_iconst X (nI 0) 1 dX4_allBring_0 rfl (by decide +kernel) ?_
  refine g_istore_n X [(2, .int (nI 0)), (0, .ref v), (1, .ref g)] 2 dX4_allBring_1 rfl rfl (by decide) rfl ?_
  refine g_iconst X (nI 0) 3 dX4_allBring_2 rfl (by decide +kernel) ?_
  refine g_istore_n X [(3, .int (nI 0)), (2, .int (nI 0)), (0, .ref v), (1, .ref g)] 4 dX4_allBring_3 rfl rfl (by decide) rfl ?_
  have L : ∀ j : Nat, j ≤ n → G p l e rm_X4_allBring s m args below meth c Q D A 4 0 0 [(v, .inr (4, [.int (nI n), .ref v0, .ref v1, .ref v2, .ref v3, .ref v4])), (v0, .inl (cI, 6, .inl (vt 0 T))), (v1, .inl (cI, 6, .inl (vt 1 T))), (v2, .inl (cI, 6, .inl (vt 2 T))), (v3, .inl (cI, 6, .inl (vt 3 T))), (v4, .inl (cI, 6, .inl (vt 4 T))), (g, .inr (2, [.ref a])), (a, .inl (cI, 96, .inl (vs S)))] [(3, .int (nI j)), (2, .int (nI (sm (brW S T) j))), (0, .ref v), (1, .ref g)] 4 [] := by
    refine g_down _ ?_ ?_
    · refine g_iload_n X 0 5 dX4_allBring_4 rfl rfl rfl ?_
      refine g_aload_n X 2 6 dX4_allBring_5 rfl rfl rfl ?_
      refine g_get X hiX4 0 0 9 rfl rfl (by decide) (List.mem_of_getElem? (i := 1) rfl) rfl dX4_allBring_6 rfl ?_
      refine g_icmp_ge X 12 27 dX4_allBring_9 rfl (by decide) (nI_leI (by omega) (by omega)) (fun h9 => ?_) (fun h9 => absurd (Nat.le_refl _) h9)
      refine g_iload_n X 1 28 dX4_allBring_27 rfl rfl rfl ?_
      exact ret _ _ _ _ dX4_allBring_28 rfl ⟨rfl, rfl⟩
    · intro j hj ih_j 
      refine g_iload_n X 0 5 dX4_allBring_4 rfl rfl rfl ?_
      refine g_aload_n X 2 6 dX4_allBring_5 rfl rfl rfl ?_
      refine g_get X hiX4 0 0 9 rfl rfl (by decide) (List.mem_of_getElem? (i := 1) rfl) rfl dX4_allBring_6 rfl ?_
      refine g_icmp_ge X 12 27 dX4_allBring_9 rfl (by decide) (nI_leI (by omega) (by omega)) (fun h9 => absurd h9 (by omega)) (fun h9 => ?_)
      refine g_iload_n X 1 13 dX4_allBring_12 rfl rfl rfl ?_
      refine g_aload_n X 2 14 dX4_allBring_13 rfl rfl rfl ?_
      refine g_iload_n X 0 15 dX4_allBring_14 rfl rfl rfl ?_
      refine g_aload_n X 3 16 dX4_allBring_15 rfl rfl rfl ?_
      refine g_callVi (ws' := [(v, .inr (4, [.int (nI n), .ref v0, .ref v1, .ref v2, .ref v3, .ref v4])), (v0, .inl (cI, 6, .inl (vt 0 T))), (v1, .inl (cI, 6, .inl (vt 1 T))), (v2, .inl (cI, 6, .inl (vt 2 T))), (v3, .inl (cI, 6, .inl (vt 3 T))), (v4, .inl (cI, 6, .inl (vt 4 T))), (g, .inr (2, [.ref a])), (a, .inl (cI, 96, .inl (vs S)))]) X (m_X4_brings l D cI cZ cJ v v0 v1 v2 v3 v4 n T g a S j hs (hT j hj) (by omega)) 19 [0, 1, 2, 3, 4, 5, 6, 7] gX4_allBring_X4_brings (n := 2) rfl (by decide +kernel) rfl ⟨Nat.le_of_ble_eq_true rfl, Nat.le_of_ble_eq_true rfl⟩ (ci := 4) (q0 := 0) rfl rfl rfl (Nat.le_of_ble_eq_true rfl) rfl (by decide +kernel) rfl rfl dX4_allBring_16 rfl ⟨Nat.le_of_ble_eq_true rfl, Nat.le_of_ble_eq_true rfl⟩ ?_
      refine g_iadd X (nI ((sm (brW S T) j) + (brW S T j))) 20 dX4_allBring_19 rfl (nI_add _ _) ?_
      refine g_istore_n X [(2, .int (nI ((sm (brW S T) j) + (brW S T j)))), (3, .int (nI j)), (0, .ref v), (1, .ref g)] 21 dX4_allBring_20 rfl rfl (by decide) rfl ?_
      refine g_iinc X 1 (nI (j + 1)) [(3, .int (nI (j + 1))), (2, .int (nI ((sm (brW S T) j) + (brW S T j)))), (0, .ref v), (1, .ref g)] 24 dX4_allBring_21 rfl rfl (nI_inc _) (by decide) rfl ?_
      refine g_goto X 4 dX4_allBring_24 (by decide) ?_
      exact ih_j
  exact L 0 (Nat.zero_le _)

abbrev rm_X4_number : Room := { frames := 3, cells := 0, slots := 0, locals := 69 }
set_option maxHeartbeats 4000000 in
set_option maxRecDepth 100000 in
/-- what about() tells -/
theorem m_X4_number (l : Launch) (D : va_G) (cI cZ cJ : ClassId) (v v0 v1 v2 v3 v4 n : Nat) (T : Nat → Nat) (g a : Nat) (S : Nat → Nat) (wi wh : Nat) (hs : sootOk S) (hT : winOk T wi) (hk : wi < 6) (hw : wh < 8) : MI l yX4_number wsX4_number rm_X4_number D (gT cI cZ cJ) [(v, .inr (4, [.int (nI n), .ref v0, .ref v1, .ref v2, .ref v3, .ref v4])), (v0, .inl (cI, 6, .inl (vt 0 T))), (v1, .inl (cI, 6, .inl (vt 1 T))), (v2, .inl (cI, 6, .inl (vt 2 T))), (v3, .inl (cI, 6, .inl (vt 3 T))), (v4, .inl (cI, 6, .inl (vt 4 T))), (g, .inr (2, [.ref a])), (a, .inl (cI, 96, .inl (vs S)))] [.ref v, .int (nI wi), .int (nI wh), .ref g] (fun r u => r = nI (abt S T wi wh) ∧ u = [(v, .inr (4, [.int (nI n), .ref v0, .ref v1, .ref v2, .ref v3, .ref v4])), (v0, .inl (cI, 6, .inl (vt 0 T))), (v1, .inl (cI, 6, .inl (vt 1 T))), (v2, .inl (cI, 6, .inl (vt 2 T))), (v3, .inl (cI, 6, .inl (vt 3 T))), (v4, .inl (cI, 6, .inl (vt 4 T))), (g, .inr (2, [.ref a])), (a, .inl (cI, 96, .inl (vs S)))]) := by
  refine MI_of [(0, .ref v), (1, .int (nI wi)), (2, .int (nI wh)), (3, .ref g)] (by decide) rfl (Nat.le_of_ble_eq_true rfl) rfl ?_
  intro p e s m args below meth c A Q X ret
  have hiX4 : ∀ w ∈ wsX40, w ∈ wsX4_number := (fun _ h => List.mem_cons_of_mem _ (List.mem_append_left _ (List.mem_append_right _ h)))
  refine g_iload_n X 2 1 dX4_number_0 rfl rfl rfl ?_
  rcases (show wh = 0 ∨ wh = 1 ∨ wh = 2 ∨ wh = 3 ∨ wh = 4 ∨ wh = 5 ∨ wh = 6 ∨ wh = 7 by omega) with rfl | rfl | rfl | rfl | rfl | rfl | rfl | rfl
  · refine g_tableIn X 44 dX4_number_1 0 (by decide +kernel) (by decide) (by decide) rfl (by decide) ?_
    refine g_aload_n X 0 45 dX4_number_44 rfl rfl rfl ?_
    refine g_get X hiX4 0 1 48 rfl rfl (by decide) (List.mem_of_getElem? (i := 1) rfl) rfl dX4_number_45 rfl ?_
    refine g_iload_n X 1 49 dX4_number_48 rfl rfl rfl ?_
    refine g_iald X 1 0 (wi) (nI (T (5 * wi + 0))) 50 rfl rfl (by omega) (by decide) (vt_at hk) dX4_number_49 rfl ?_
    exact ret _ _ _ _ dX4_number_50 rfl ⟨rfl, rfl⟩
  · refine g_tableIn X 51 dX4_number_1 1 (by decide +kernel) (by decide) (by decide) rfl (by decide) ?_
    refine g_aload_n X 0 52 dX4_number_51 rfl rfl rfl ?_
    refine g_get X hiX4 0 2 55 rfl rfl (by decide) (List.mem_of_getElem? (i := 2) rfl) rfl dX4_number_52 rfl ?_
    refine g_iload_n X 1 56 dX4_number_55 rfl rfl rfl ?_
    refine g_iald X 2 0 (wi) (nI (T (5 * wi + 1))) 57 rfl rfl (by omega) (by decide) (vt_at hk) dX4_number_56 rfl ?_
    exact ret _ _ _ _ dX4_number_57 rfl ⟨rfl, rfl⟩
  · refine g_tableIn X 58 dX4_number_1 2 (by decide +kernel) (by decide) (by decide) rfl (by decide) ?_
    refine g_aload_n X 0 59 dX4_number_58 rfl rfl rfl ?_
    refine g_get X hiX4 0 3 62 rfl rfl (by decide) (List.mem_of_getElem? (i := 3) rfl) rfl dX4_number_59 rfl ?_
    refine g_iload_n X 1 63 dX4_number_62 rfl rfl rfl ?_
    refine g_iald X 3 0 (wi) (nI (T (5 * wi + 2))) 64 rfl rfl (by omega) (by decide) (vt_at hk) dX4_number_63 rfl ?_
    exact ret _ _ _ _ dX4_number_64 rfl ⟨rfl, rfl⟩
  · refine g_tableIn X 65 dX4_number_1 3 (by decide +kernel) (by decide) (by decide) rfl (by decide) ?_
    refine g_aload_n X 0 66 dX4_number_65 rfl rfl rfl ?_
    refine g_get X hiX4 0 4 69 rfl rfl (by decide) (List.mem_of_getElem? (i := 4) rfl) rfl dX4_number_66 rfl ?_
    refine g_iload_n X 1 70 dX4_number_69 rfl rfl rfl ?_
    refine g_iald X 4 0 (wi) (nI (T (5 * wi + 3))) 71 rfl rfl (by omega) (by decide) (vt_at hk) dX4_number_70 rfl ?_
    exact ret _ _ _ _ dX4_number_71 rfl ⟨rfl, rfl⟩
  · refine g_tableIn X 72 dX4_number_1 4 (by decide +kernel) (by decide) (by decide) rfl (by decide) ?_
    refine g_aload_n X 0 73 dX4_number_72 rfl rfl rfl ?_
    refine g_get X hiX4 0 5 76 rfl rfl (by decide) (List.mem_of_getElem? (i := 5) rfl) rfl dX4_number_73 rfl ?_
    refine g_iload_n X 1 77 dX4_number_76 rfl rfl rfl ?_
    refine g_iald X 5 0 (wi) (nI (T (5 * wi + 4))) 78 rfl rfl (by omega) (by decide) (vt_at hk) dX4_number_77 rfl ?_
    exact ret _ _ _ _ dX4_number_78 rfl ⟨rfl, rfl⟩
  · refine g_tableIn X 79 dX4_number_1 5 (by decide +kernel) (by decide) (by decide) rfl (by decide) ?_
    refine g_aload_n X 0 80 dX4_number_79 rfl rfl rfl ?_
    refine g_iload_n X 1 81 dX4_number_80 rfl rfl rfl ?_
    refine g_aload_n X 3 82 dX4_number_81 rfl rfl rfl ?_
    refine g_callVi (ws' := [(v, .inr (4, [.int (nI n), .ref v0, .ref v1, .ref v2, .ref v3, .ref v4])), (v0, .inl (cI, 6, .inl (vt 0 T))), (v1, .inl (cI, 6, .inl (vt 1 T))), (v2, .inl (cI, 6, .inl (vt 2 T))), (v3, .inl (cI, 6, .inl (vt 3 T))), (v4, .inl (cI, 6, .inl (vt 4 T))), (g, .inr (2, [.ref a])), (a, .inl (cI, 96, .inl (vs S)))]) X (m_X4_added l D cI cZ cJ v v0 v1 v2 v3 v4 n T g a S wi hs hT hk) 85 [0, 1, 2, 3, 4, 5, 6, 7] gX4_number_X4_added (n := 2) rfl (by decide +kernel) rfl ⟨Nat.le_of_ble_eq_true rfl, Nat.le_of_ble_eq_true rfl⟩ (ci := 4) (q0 := 0) rfl rfl rfl (Nat.le_of_ble_eq_true rfl) rfl (by decide +kernel) rfl rfl dX4_number_82 rfl ⟨Nat.le_of_ble_eq_true rfl, Nat.le_of_ble_eq_true rfl⟩ ?_
    exact ret _ _ _ _ dX4_number_85 rfl ⟨rfl, rfl⟩
  · refine g_tableIn X 86 dX4_number_1 6 (by decide +kernel) (by decide) (by decide) rfl (by decide) ?_
    refine g_aload_n X 0 87 dX4_number_86 rfl rfl rfl ?_
    refine g_iload_n X 1 88 dX4_number_87 rfl rfl rfl ?_
    refine g_aload_n X 3 89 dX4_number_88 rfl rfl rfl ?_
    refine g_callVi (ws' := [(v, .inr (4, [.int (nI n), .ref v0, .ref v1, .ref v2, .ref v3, .ref v4])), (v0, .inl (cI, 6, .inl (vt 0 T))), (v1, .inl (cI, 6, .inl (vt 1 T))), (v2, .inl (cI, 6, .inl (vt 2 T))), (v3, .inl (cI, 6, .inl (vt 3 T))), (v4, .inl (cI, 6, .inl (vt 4 T))), (g, .inr (2, [.ref a])), (a, .inl (cI, 96, .inl (vs S)))]) X (m_X4_darkest l D cI cZ cJ v v0 v1 v2 v3 v4 n T g a S wi hs hT hk) 92 [0, 1, 2, 3, 4, 5, 6, 7] gX4_number_X4_darkest (n := 2) rfl (by decide +kernel) rfl ⟨Nat.le_of_ble_eq_true rfl, Nat.le_of_ble_eq_true rfl⟩ (ci := 4) (q0 := 0) rfl rfl rfl (Nat.le_of_ble_eq_true rfl) rfl (by decide +kernel) rfl rfl dX4_number_89 rfl ⟨Nat.le_of_ble_eq_true rfl, Nat.le_of_ble_eq_true rfl⟩ ?_
    exact ret _ _ _ _ dX4_number_92 rfl ⟨rfl, rfl⟩
  · refine g_tableOut X 93 dX4_number_1 (by decide +kernel) (by decide) ?_
    refine g_aload_n X 0 94 dX4_number_93 rfl rfl rfl ?_
    refine g_iload_n X 1 95 dX4_number_94 rfl rfl rfl ?_
    refine g_aload_n X 3 96 dX4_number_95 rfl rfl rfl ?_
    refine g_callVi (ws' := [(v, .inr (4, [.int (nI n), .ref v0, .ref v1, .ref v2, .ref v3, .ref v4])), (v0, .inl (cI, 6, .inl (vt 0 T))), (v1, .inl (cI, 6, .inl (vt 1 T))), (v2, .inl (cI, 6, .inl (vt 2 T))), (v3, .inl (cI, 6, .inl (vt 3 T))), (v4, .inl (cI, 6, .inl (vt 4 T))), (g, .inr (2, [.ref a])), (a, .inl (cI, 96, .inl (vs S)))]) X (m_X4_brings l D cI cZ cJ v v0 v1 v2 v3 v4 n T g a S wi hs hT hk) 99 [0, 1, 2, 3, 4, 5, 6, 7] gX4_number_X4_brings (n := 2) rfl (by decide +kernel) rfl ⟨Nat.le_of_ble_eq_true rfl, Nat.le_of_ble_eq_true rfl⟩ (ci := 4) (q0 := 0) rfl rfl rfl (Nat.le_of_ble_eq_true rfl) rfl (by decide +kernel) rfl rfl dX4_number_96 rfl ⟨Nat.le_of_ble_eq_true rfl, Nat.le_of_ble_eq_true rfl⟩ ?_
    exact ret _ _ _ _ dX4_number_99 rfl ⟨rfl, rfl⟩
