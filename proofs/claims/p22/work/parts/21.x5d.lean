/-! THE CLASS: MEAN -/

abbrev rm_X5_mean : Room := { frames := 1, cells := 0, slots := 0, locals := 22 }
set_option maxHeartbeats 4000000 in
set_option maxRecDepth 100000 in
/-- mean -/
theorem m_X5_mean (l : Launch) (D : va_G) (cI cZ cJ : ClassId) (gr v f k ak : Nat) (g a b : Nat) (S : Nat → Nat)  : MDN l yX5_mean wsX5_mean rm_X5_mean D (gT cI cZ cJ) [(gr, .inr (5, [.ref v, .ref f, .ref k, .ref ak])), (k, .inr (0, [.ref g, .ref b, .int (nI (S 1)), .int (nI (S 0)), .int (nI (S 2)), .int (nI (S 3))])), (g, .inr (2, [.ref a])), (a, .inl (cI, 96, .inl (vs S)))] [.ref gr] (fun r9 u9 => r9 = FP.ddiv (FP.i2d (nI (allS S))) 4636455816377925632 ∧ u9 = [(gr, .inr (5, [.ref v, .ref f, .ref k, .ref ak])), (k, .inr (0, [.ref g, .ref b, .int (nI (S 1)), .int (nI (S 0)), .int (nI (S 2)), .int (nI (S 3))])), (g, .inr (2, [.ref a])), (a, .inl (cI, 96, .inl (vs S)))]) := by
  refine MDN_of [(0, .ref gr)] (by decide) rfl (Nat.le_of_ble_eq_true rfl) rfl ?_
  intro p e s m args below meth c A Q X hN ret
  have hiX0 : ∀ w ∈ wsX00, w ∈ wsX5_mean := (fun _ h => List.mem_cons_of_mem _ (List.mem_append_left _ (List.mem_append_right _ h)))
  have hiX5 : ∀ w ∈ wsX50, w ∈ wsX5_mean := (fun _ h => List.mem_cons_of_mem _ (List.mem_append_left _ (List.mem_append_left _ (List.mem_append_right _ h))))
  refine g_aload_n X 0 1 dX5_mean_0 rfl rfl rfl ?_
  refine g_get X hiX5 0 2 4 rfl rfl (by decide) (List.mem_of_getElem? (i := 1) rfl) rfl dX5_mean_1 rfl ?_
  refine g_getN X hN hiX0 1 0 7 rfl rfl (by decide) (by decide +kernel) rfl dX5_mean_4 rfl ?_
  refine g_callVi (ws' := [(gr, .inr (5, [.ref v, .ref f, .ref k, .ref ak])), (k, .inr (0, [.ref g, .ref b, .int (nI (S 1)), .int (nI (S 0)), .int (nI (S 2)), .int (nI (S 3))])), (g, .inr (2, [.ref a])), (a, .inl (cI, 96, .inl (vs S)))]) X (m_X2_total l D cI cZ cJ g a S) 10 [2, 3] gX5_mean_X2_total (n := 0) rfl (by decide +kernel) rfl ⟨Nat.le_of_ble_eq_true rfl, Nat.le_of_ble_eq_true rfl⟩ (ci := 2) (q0 := 0) rfl rfl rfl (Nat.le_of_ble_eq_true rfl) rfl (by decide +kernel) rfl rfl dX5_mean_7 rfl ⟨Nat.le_of_ble_eq_true rfl, Nat.le_of_ble_eq_true rfl⟩ ?_
  refine g_i2d X 11 dX5_mean_10 rfl ?_
  refine g_ldc2d X 4636455816377925632 14 (List.mem_of_getElem? (i := 2) rfl) dX5_mean_11 rfl ?_
  refine g_ddiv X 15 dX5_mean_14 rfl (mean_n _) ?_
  exact ret _ _ _ _ dX5_mean_15 ⟨rfl, rfl⟩
