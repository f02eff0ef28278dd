/-! WHAT THE TABLES SAY AT THE ENTRY -/
theorem gC_in : ∀ q ∈ gNestM, gHM q ∈ lw_tbl := by decide +kernel
theorem gC_of {b : Nat} {s : State} (hts : ∀ w ∈ lw_tbl, w.before #[Value.ref b] s = true) : gC s := fun q hq => va_Nw.of rfl (hts _ (gC_in q hq))
theorem gH_in : ∀ q ∈ gNestF, gH q ∈ lw_tbl := by decide +kernel
theorem gH_of {b : Nat} {s : State} (hts : ∀ w ∈ lw_tbl, w.before #[Value.ref b] s = true) : ∀ q ∈ gNestF, va_Nw (gH q) s := fun q hq => va_Nw.of rfl (hts _ (gH_in q hq))
theorem gOdd_in : ∀ w ∈ gOdd, w ∈ lw_tbl := by decide +kernel
theorem gOdd_of {b : Nat} {s : State} (hts : ∀ w ∈ lw_tbl, w.before #[Value.ref b] s = true) : ∀ w ∈ gOdd, va_Nw w s := fun w hw => va_Nw.of (List.all_eq_true.mp gOdd_tab w hw) (hts _ (gOdd_in w hw))
theorem gNc_of {b : Nat} {s : State} (h : (Jvm.Cond.and given_1 narrow_1).before #[Value.ref b] s = true) : ∀ x ∈ gExc, ∀ y ∈ gExc, x ≠ y → va_Nc x y s := by
  have hs := flat_of_before _ h
  intro x hx y hy hxy
  simp only [gExc, List.mem_cons, List.not_mem_nil, or_false] at hx hy
  rcases hx with rfl | rfl | rfl <;> rcases hy with rfl | rfl | rfl <;> first | exact absurd rfl hxy | exact va_Nc.of (hs _ (by decide +kernel))
theorem gZ_of {b : Nat} {s : State} {A : Nat → Prop} (hA : ∀ a : Nat, a < s.heap.size → ¬ A a) (hts : ∀ w ∈ lw_tbl, w.before #[Value.ref b] s = true) (h : (Jvm.Cond.and given_1 narrow_1).before #[Value.ref b] s = true) : vx_Zq Bundle.tN "UNASSIGNED_STACK" Bundle.steD A s s.heap ∧ vx_Zq Bundle.tN "SUPPRESSED_SENTINEL" Bundle.listD A s s.heap := by
  have hs := flat_of_before _ h
  exact ⟨vx_Zqof (hts _ (by decide +kernel)) (hts _ (by decide +kernel)) (hs _ (by decide +kernel)) hA, vx_Zqof (hts _ (by decide +kernel)) (hts _ (by decide +kernel)) (hs _ (by decide +kernel)) hA⟩
theorem gS_of {b : Nat} {s : State} (hts : ∀ w ∈ lw_tbl, w.before #[Value.ref b] s = true) (h : (Jvm.Cond.and given_1 narrow_1).before #[Value.ref b] s = true) : ∀ q ∈ gStrs, ∃ a : Nat, vk_R "GlassRopes" q.1 q.2 a s := by
  have hs := flat_of_before _ h
  have key : ∀ (k : Nat) (tx : String), (Cond.stringRef "GlassRopes" k tx).before #[Value.ref b] s = true → (Cond.exactly (.string "GlassRopes" k) "java/lang/String").before #[Value.ref b] s = true → ∃ a : Nat, vk_R "GlassRopes" k tx a s := fun k tx h1 h2 => by
    obtain ⟨a, c, cA, kA, q1, -⟩ := Cond.exactly_spec (args := #[Value.ref b]) (first := s) (o := none) (s := s) (idx := []) (t := .string "GlassRopes" k) (cls := "java/lang/String") h2
    exact ⟨a, vk_R.of h1 q1⟩
  intro q hq
  simp only [gStrs, List.mem_cons, List.not_mem_nil, or_false] at hq
  rcases hq with rfl | rfl | rfl | rfl | rfl | rfl | rfl | rfl | rfl | rfl | rfl | rfl | rfl | rfl | rfl | rfl | rfl | rfl | rfl <;> exact key _ _ (hts _ (by decide +kernel)) (hs _ (by decide +kernel))
