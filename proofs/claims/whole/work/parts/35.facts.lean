/-! WHAT THE TABLES SAY AT THE ENTRY -/
theorem gC_in : ∀ q ∈ gNestM, gHM q ∈ lw_tbl := by decide +kernel
theorem gC_of {b : Nat} {s : State} (hts : ∀ w ∈ lw_tbl, w.before #[Value.ref b] s = true) : gC s := fun q hq => va_Nw.of rfl (hts _ (gC_in q hq))
theorem gH_in : ∀ q ∈ gNestF, gH q ∈ lw_tbl := by decide +kernel
theorem gH_of {b : Nat} {s : State} (hts : ∀ w ∈ lw_tbl, w.before #[Value.ref b] s = true) : ∀ q ∈ gNestF, va_Nw (gH q) s := fun q hq => va_Nw.of rfl (hts _ (gH_in q hq))
theorem gOdd_in : ∀ w ∈ gOdd, w ∈ lw_tbl := by decide +kernel
theorem gOdd_of {b : Nat} {s : State} (hts : ∀ w ∈ lw_tbl, w.before #[Value.ref b] s = true) : ∀ w ∈ gOdd, va_Nw w s := fun w hw => va_Nw.of (List.all_eq_true.mp gOdd_tab w hw) (hts _ (gOdd_in w hw))
