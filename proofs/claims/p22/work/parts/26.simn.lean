/-! THE SIM: sums, new rows, a new Sim -/
theorem orf_up {n : Nat} {ad : Nat → Nat} : va_up (orf n ad) n (some (ad n)) = orf (n + 1) ad := by
  funext i
  unfold va_up orf
  by_cases h : i = n
  · subst h; simp
  · have : i < n ↔ i < n + 1 := by omega
    simp only [if_neg h, this]
theorem orf_new {n a : Nat} {ad : Nat → Nat} : va_up (orf n ad) n (some a) = orf (n + 1) (up ad n a) := by
  funext i
  unfold va_up orf up
  by_cases h : i = n
  · subst h; simp
  · have : i < n ↔ i < n + 1 := by omega
    simp only [if_neg h, this]
theorem orf_0 {ad : Nat → Nat} : (fun _ => none) = orf 0 ad := by
  funext i
  unfold orf
  rw [if_neg (Nat.not_lt_zero i)]

abbrev rm_X6_sums : Room := { frames := 0, cells := 1, slots := 3, locals := 0 }
set_option maxHeartbeats 4000000 in
set_option maxRecDepth 100000 in
/-- all soot, clean panes, what ropes cleaned -/
theorem m_X6_sums (l : Launch) (D : va_G) (cI cZ cJ : ClassId) (ma so wo ro fx : Nat) (sc wa ra fa : Nat → Nat) (nw nr nf : Nat) (S T st fe fo Sf : Nat → Nat) (C9 : va_W) (hs : sootOk S) (hn : nr ≤ 6) : MRF fT l yX6_sums wsX6_sums rm_X6_sums D (gT cI cZ cJ) ((ma, .inr (6, [.int (nI (Sf 0)), .int (nI (Sf 1)), .int (nI (Sf 2)), .int (nI (Sf 3)), .ref so, .ref wo, .ref ro, .ref fx])) :: (so, .inl (cJ, 12, refs (orf 12 sc))) :: (wo, .inl (cJ, nw, refs (orf nw wa))) :: (ro, .inl (cJ, nr, refs (orf nr ra))) :: (fx, .inl (cJ, nf, refs (orf nf fa))) :: sR cI sc wa ra fa nw nr nf S T st fe fo C9) [.ref ma] (fun r u => u = (r, .inl (cI, 3, .inl (a3 (allS S) (clnS S) (cldS S nr)))) :: ((ma, .inr (6, [.int (nI (Sf 0)), .int (nI (Sf 1)), .int (nI (Sf 2)), .int (nI (Sf 3)), .ref so, .ref wo, .ref ro, .ref fx])) :: (so, .inl (cJ, 12, refs (orf 12 sc))) :: (wo, .inl (cJ, nw, refs (orf nw wa))) :: (ro, .inl (cJ, nr, refs (orf nr ra))) :: (fx, .inl (cJ, nf, refs (orf nf fa))) :: sR cI sc wa ra fa nw nr nf S T st fe fo C9)) := by
  refine MRF_of [(0, .ref ma)] (by decide) (Or.inr ⟨_, rfl⟩) rfl (Nat.le_of_ble_eq_true rfl) rfl ?_
  intro p e s m args below meth c A Q X hF ret
  have hiX6 : ∀ w ∈ wsX60, w ∈ wsX6_sums := (fun _ h => List.mem_cons_of_mem _ (List.mem_append_right _ h))
  refine g_iconst X (nI 3) 1 dX6_sums_0 rfl (by decide +kernel) ?_
  refine g_newf (ty := .int) X 0 (3) (3, .inl (fun _ => 0)) 3 rfl rfl va_u_int (List.mem_of_getElem? (i := 1) rfl) (fun _ => rfl) (by decide) (Nat.le_of_ble_eq_true rfl) (Nat.le_of_ble_eq_true rfl) (Nat.le_of_ble_eq_true rfl) dX6_sums_1 rfl (fun q => ?_)
  refine g_eqw (ws' := ((q, .inl (cI, 3, .inl (a3 0 0 0))) :: (ma, .inr (6, [.int (nI (Sf 0)), .int (nI (Sf 1)), .int (nI (Sf 2)), .int (nI (Sf 3)), .ref so, .ref wo, .ref ro, .ref fx])) :: (so, .inl (cJ, 12, refs (orf 12 sc))) :: (wo, .inl (cJ, nw, refs (orf nw wa))) :: (ro, .inl (cJ, nr, refs (orf nr ra))) :: (fx, .inl (cJ, nf, refs (orf nf fa))) :: sR cI sc wa ra fa nw nr nf S T st fe fo C9)) (by rw [← a3_z]) ?_
  refine g_astore_n X [(1, .ref q), (0, .ref ma)] 4 dX6_sums_3 rfl rfl (by decide) rfl ?_
  refine g_aload_n X 1 5 dX6_sums_4 rfl rfl rfl ?_
  refine g_get X hiX6 1 4 8 rfl rfl (by decide) (List.mem_of_getElem? (i := 2) rfl) rfl dX6_sums_5 rfl ?_
  refine g_astore_n X [(2, .ref so), (1, .ref q), (0, .ref ma)] 9 dX6_sums_8 rfl rfl (by decide) rfl ?_
  refine g_aload_n X 0 10 dX6_sums_9 rfl rfl rfl ?_
  refine g_alen X 2 2 11 rfl rfl dX6_sums_10 rfl ?_
  refine g_istore_n X [(3, .int (nI 12)), (2, .ref so), (1, .ref q), (0, .ref ma)] 12 dX6_sums_11 rfl rfl (by decide) rfl ?_
  refine g_iconst X (nI 0) 13 dX6_sums_12 rfl (by decide +kernel) ?_
  refine g_istore X [(4, .int (nI 0)), (3, .int (nI 12)), (2, .ref so), (1, .ref q), (0, .ref ma)] 15 dX6_sums_13 rfl (by decide) rfl ?_
  have L : ∀ i : Nat, i ≤ 12 → G p l e rm_X6_sums s m args below meth c Q D A 10 1 3 ((q, .inl (cI, 3, .inl (a3 (sm (fun x9 => S (4 + x9)) (i * 8)) (sm (fun x9 => if S (4 + x9) = 0 then 1 else 0) (i * 8)) 0))) :: (ma, .inr (6, [.int (nI (Sf 0)), .int (nI (Sf 1)), .int (nI (Sf 2)), .int (nI (Sf 3)), .ref so, .ref wo, .ref ro, .ref fx])) :: (so, .inl (cJ, 12, refs (orf 12 sc))) :: (wo, .inl (cJ, nw, refs (orf nw wa))) :: (ro, .inl (cJ, nr, refs (orf nr ra))) :: (fx, .inl (cJ, nf, refs (orf nf fa))) :: sR cI sc wa ra fa nw nr nf S T st fe fo C9) [(4, .int (nI i)), (3, .int (nI 12)), (2, .ref so), (1, .ref q), (0, .ref ma)] 15 [] := by
    refine g_down _ ?_ ?_
    · refine g_iload X 0 17 dX6_sums_15 rfl rfl ?_
      refine g_iload_n X 1 18 dX6_sums_17 rfl rfl rfl ?_
      refine g_icmp_ge X 21 89 dX6_sums_18 rfl (by decide) (nI_leI (by omega) (by omega)) (fun h18 => ?_) (fun h18 => absurd (Nat.le_refl _) h18)
      refine g_aload_n X 4 90 dX6_sums_89 rfl rfl rfl ?_
      refine g_get X hiX6 1 6 93 rfl rfl (by decide) (List.mem_of_getElem? (i := 3) rfl) rfl dX6_sums_90 rfl ?_
      refine g_astore_n X [(2, .ref ro), (4, .int (nI 12)), (3, .int (nI 12)), (1, .ref q), (0, .ref ma)] 94 dX6_sums_93 rfl rfl (by decide) rfl ?_
      refine g_aload_n X 0 95 dX6_sums_94 rfl rfl rfl ?_
      refine g_alen X 4 2 96 rfl rfl dX6_sums_95 rfl ?_
      refine g_istore_n X [(3, .int (nI nr)), (2, .ref ro), (4, .int (nI 12)), (1, .ref q), (0, .ref ma)] 97 dX6_sums_96 rfl rfl (by decide) rfl ?_
      refine g_iconst X (nI 0) 98 dX6_sums_97 rfl (by decide +kernel) ?_
      refine g_istore X [(4, .int (nI 0)), (3, .int (nI nr)), (2, .ref ro), (1, .ref q), (0, .ref ma)] 100 dX6_sums_98 rfl (by decide) rfl ?_
      have L2 : ∀ j : Nat, j ≤ nr → G p l e rm_X6_sums s m args below meth c Q D A 10 1 3 ((q, .inl (cI, 3, .inl (a3 (allS S) (clnS S) (sm (fun x9 => S (100 + 5 * x9 + 3)) j)))) :: (ma, .inr (6, [.int (nI (Sf 0)), .int (nI (Sf 1)), .int (nI (Sf 2)), .int (nI (Sf 3)), .ref so, .ref wo, .ref ro, .ref fx])) :: (so, .inl (cJ, 12, refs (orf 12 sc))) :: (wo, .inl (cJ, nw, refs (orf nw wa))) :: (ro, .inl (cJ, nr, refs (orf nr ra))) :: (fx, .inl (cJ, nf, refs (orf nf fa))) :: sR cI sc wa ra fa nw nr nf S T st fe fo C9) [(4, .int (nI j)), (3, .int (nI nr)), (2, .ref ro), (1, .ref q), (0, .ref ma)] 100 [] := by
        refine g_down _ ?_ ?_
        · refine g_iload X 0 102 dX6_sums_100 rfl rfl ?_
          refine g_iload_n X 1 103 dX6_sums_102 rfl rfl rfl ?_
          refine g_icmp_ge X 106 128 dX6_sums_103 rfl (by decide) (nI_leI (by omega) (by omega)) (fun h103 => ?_) (fun h103 => absurd (Nat.le_refl _) h103)
          refine g_aload_n X 3 129 dX6_sums_128 rfl rfl rfl ?_
          refine g_w (kc' := rm_X6_sums.cells) (ks' := rm_X6_sums.slots) (by have h9 : rm_X6_sums.cells = 1 := rfl; omega) (by have h9 : rm_X6_sums.slots = 3 := rfl; omega) ?_
          exact ret _ _ _ _ dX6_sums_129 rfl
        · intro j hj ih_j 
          refine g_iload X 0 102 dX6_sums_100 rfl rfl ?_
          refine g_iload_n X 1 103 dX6_sums_102 rfl rfl rfl ?_
          refine g_icmp_ge X 106 128 dX6_sums_103 rfl (by decide) (nI_leI (by omega) (by omega)) (fun h103 => absurd h103 (by omega)) (fun h103 => ?_)
          refine g_aload_n X 2 107 dX6_sums_106 rfl rfl rfl ?_
          refine g_iload X 0 109 dX6_sums_107 rfl rfl ?_
          refine g_aald X 4 2 (j) (ra j) 110 rfl rfl (by omega) (by omega) (orf_at (by omega)) dX6_sums_109 rfl ?_
          refine g_astore X [(5, .ref (ra j)), (4, .int (nI j)), (3, .int (nI nr)), (2, .ref ro), (1, .ref q), (0, .ref ma)] 112 dX6_sums_110 rfl (by decide) rfl ?_
          refine g_aload_n X 4 113 dX6_sums_112 rfl rfl rfl ?_
          refine g_iconst X (nI 2) 114 dX6_sums_113 rfl (by decide +kernel) ?_
          refine g_dup2 X 115 dX6_sums_114 rfl rfl rfl ?_
          refine g_iald X 0 0 (2) (nI (sm (fun x9 => S (100 + 5 * x9 + 3)) j)) 116 rfl rfl (by omega) (by decide) rfl dX6_sums_115 rfl ?_
          refine g_aload X 0 118 dX6_sums_116 rfl rfl ?_
          refine g_iconst X (nI 4) 119 dX6_sums_118 rfl (by decide +kernel) ?_
          refine g_ialdT X 6 (12 + (nw + j)) 0 (sR cI sc wa ra fa nw nr nf S T st fe fo C9) (4) (nI (S (100 + 5 * j + 3))) 120 rfl (sR_r (by omega)) rfl (by omega) (by decide) vrp_4 dX6_sums_119 rfl ?_
          refine g_iadd X (nI ((sm (fun x9 => S (100 + 5 * x9 + 3)) j) + (S (100 + 5 * j + 3)))) 121 dX6_sums_120 rfl (nI_add _ _) ?_
          refine g_iast (ws' := ((q, .inl (cI, 3, .inl (a3 (allS S) (clnS S) (sm (fun x9 => S (100 + 5 * x9 + 3)) (j + 1))))) :: (ma, .inr (6, [.int (nI (Sf 0)), .int (nI (Sf 1)), .int (nI (Sf 2)), .int (nI (Sf 3)), .ref so, .ref wo, .ref ro, .ref fx])) :: (so, .inl (cJ, 12, refs (orf 12 sc))) :: (wo, .inl (cJ, nw, refs (orf nw wa))) :: (ro, .inl (cJ, nr, refs (orf nr ra))) :: (fx, .inl (cJ, nf, refs (orf nf fa))) :: sR cI sc wa ra fa nw nr nf S T st fe fo C9)) X 0 0 (2) (a3 (allS S) (clnS S) (sm (fun x9 => S (100 + 5 * x9 + 3)) (j + 1))) 122 rfl rfl (by omega) (by decide) a3_u2 dX6_sums_121 rfl rfl ?_
          refine g_iinc X 1 (nI (j + 1)) [(4, .int (nI (j + 1))), (5, .ref (ra j)), (3, .int (nI nr)), (2, .ref ro), (1, .ref q), (0, .ref ma)] 125 dX6_sums_122 rfl rfl (nI_inc _) (by decide) rfl ?_
          refine g_goto X 100 dX6_sums_125 (by decide) ?_
          refine g_lv (lv' := [(4, .int (nI (j + 1))), (3, .int (nI nr)), (2, .ref ro), (1, .ref q), (0, .ref ma)]) [0, 2, 3, 4, 5] rfl ?_
          exact ih_j
      exact L2 0 (Nat.zero_le _)
    · intro i hi ih_i 
      refine g_iload X 0 17 dX6_sums_15 rfl rfl ?_
      refine g_iload_n X 1 18 dX6_sums_17 rfl rfl rfl ?_
      refine g_icmp_ge X 21 89 dX6_sums_18 rfl (by decide) (nI_leI (by omega) (by omega)) (fun h18 => absurd h18 (by omega)) (fun h18 => ?_)
      refine g_aload_n X 2 22 dX6_sums_21 rfl rfl rfl ?_
      refine g_iload X 0 24 dX6_sums_22 rfl rfl ?_
      refine g_aald X 2 2 (i) (sc i) 25 rfl rfl (by omega) (by decide) (orf_at (by omega)) dX6_sums_24 rfl ?_
      refine g_astore X [(5, .ref (sc i)), (4, .int (nI i)), (3, .int (nI 12)), (2, .ref so), (1, .ref q), (0, .ref ma)] 27 dX6_sums_25 rfl (by decide) rfl ?_
      refine g_aload X 0 29 dX6_sums_27 rfl rfl ?_
      refine g_astore X [(6, .ref (sc i)), (5, .ref (sc i)), (4, .int (nI i)), (3, .int (nI 12)), (2, .ref so), (1, .ref q), (0, .ref ma)] 31 dX6_sums_29 rfl (by decide) rfl ?_
      refine g_aload X 0 33 dX6_sums_31 rfl rfl ?_
      refine g_alenT X 6 i 0 (sR cI sc wa ra fa nw nr nf S T st fe fo C9) 34 rfl (sR_c (by omega)) rfl dX6_sums_33 rfl ?_
      refine g_istore X [(7, .int (nI 8)), (6, .ref (sc i)), (5, .ref (sc i)), (4, .int (nI i)), (3, .int (nI 12)), (2, .ref so), (1, .ref q), (0, .ref ma)] 36 dX6_sums_34 rfl (by decide) rfl ?_
      refine g_iconst X (nI 0) 37 dX6_sums_36 rfl (by decide +kernel) ?_
      refine g_istore X [(8, .int (nI 0)), (7, .int (nI 8)), (6, .ref (sc i)), (5, .ref (sc i)), (4, .int (nI i)), (3, .int (nI 12)), (2, .ref so), (1, .ref q), (0, .ref ma)] 39 dX6_sums_37 rfl (by decide) rfl ?_
      refine g_lv (lv' := [(8, .int (nI 0)), (7, .int (nI 8)), (6, .ref (sc i)), (4, .int (nI i)), (3, .int (nI 12)), (2, .ref so), (1, .ref q), (0, .ref ma)]) [0, 1, 2, 4, 5, 6, 7, 8] rfl ?_
      have M : ∀ j : Nat, j ≤ 8 → G p l e rm_X6_sums s m args below meth c Q D A 10 1 3 ((q, .inl (cI, 3, .inl (a3 (sm (fun x9 => S (4 + x9)) (i * 8 + j)) (sm (fun x9 => if S (4 + x9) = 0 then 1 else 0) (i * 8 + j)) 0))) :: (ma, .inr (6, [.int (nI (Sf 0)), .int (nI (Sf 1)), .int (nI (Sf 2)), .int (nI (Sf 3)), .ref so, .ref wo, .ref ro, .ref fx])) :: (so, .inl (cJ, 12, refs (orf 12 sc))) :: (wo, .inl (cJ, nw, refs (orf nw wa))) :: (ro, .inl (cJ, nr, refs (orf nr ra))) :: (fx, .inl (cJ, nf, refs (orf nf fa))) :: sR cI sc wa ra fa nw nr nf S T st fe fo C9) [(8, .int (nI j)), (7, .int (nI 8)), (6, .ref (sc i)), (4, .int (nI i)), (3, .int (nI 12)), (2, .ref so), (1, .ref q), (0, .ref ma)] 39 [] := by
        refine g_down _ ?_ ?_
        · refine g_iload X 0 41 dX6_sums_39 rfl rfl ?_
          refine g_iload X 1 43 dX6_sums_41 rfl rfl ?_
          refine g_icmp_ge X 46 83 dX6_sums_43 rfl (by decide) (nI_leI (by omega) (by omega)) (fun h43 => ?_) (fun h43 => absurd (Nat.le_refl _) h43)
          refine g_iinc X 3 (nI (i + 1)) [(4, .int (nI (i + 1))), (8, .int (nI 8)), (7, .int (nI 8)), (6, .ref (sc i)), (3, .int (nI 12)), (2, .ref so), (1, .ref q), (0, .ref ma)] 86 dX6_sums_83 rfl rfl (nI_inc _) (by decide) rfl ?_
          refine g_goto X 15 dX6_sums_86 (by decide) ?_
          refine g_lv (lv' := [(4, .int (nI (i + 1))), (3, .int (nI 12)), (2, .ref so), (1, .ref q), (0, .ref ma)]) [0, 4, 5, 6, 7] rfl ?_
          exact (by rw [show (i + 1) * 8 = i * 8 + 8 by omega] at ih_i; exact ih_i)
        · intro j hj ih_j 
          refine g_iload X 0 41 dX6_sums_39 rfl rfl ?_
          refine g_iload X 1 43 dX6_sums_41 rfl rfl ?_
          refine g_icmp_ge X 46 83 dX6_sums_43 rfl (by decide) (nI_leI (by omega) (by omega)) (fun h43 => absurd h43 (by omega)) (fun h43 => ?_)
          have h20 := hs (i * 8 + j) (by omega)
          refine g_aload X 2 48 dX6_sums_46 rfl rfl ?_
          refine g_iload X 0 50 dX6_sums_48 rfl rfl ?_
          refine g_ialdT X 6 i 0 (sR cI sc wa ra fa nw nr nf S T st fe fo C9) (j) (nI (S (4 + (i * 8 + j)))) 51 rfl (sR_c (by omega)) rfl (by omega) (by decide) (vcl_at (by omega)) dX6_sums_50 rfl ?_
          refine g_istore X [(9, .int (nI (S (4 + (i * 8 + j))))), (8, .int (nI j)), (7, .int (nI 8)), (6, .ref (sc i)), (4, .int (nI i)), (3, .int (nI 12)), (2, .ref so), (1, .ref q), (0, .ref ma)] 53 dX6_sums_51 rfl (by decide) rfl ?_
          refine g_aload_n X 7 54 dX6_sums_53 rfl rfl rfl ?_
          refine g_iconst X (nI 0) 55 dX6_sums_54 rfl (by decide +kernel) ?_
          refine g_dup2 X 56 dX6_sums_55 rfl rfl rfl ?_
          refine g_iald X 0 0 (0) (nI (sm (fun x9 => S (4 + x9)) (i * 8 + j))) 57 rfl rfl (by omega) (by decide) rfl dX6_sums_56 rfl ?_
          refine g_iload X 0 59 dX6_sums_57 rfl rfl ?_
          refine g_iadd X (nI ((sm (fun x9 => S (4 + x9)) (i * 8 + j)) + (S (4 + (i * 8 + j))))) 60 dX6_sums_59 rfl (nI_add _ _) ?_
          refine g_iast (ws' := ((q, .inl (cI, 3, .inl (a3 (sm (fun x9 => S (4 + x9)) (i * 8 + (j + 1))) (sm (fun x9 => if S (4 + x9) = 0 then 1 else 0) (i * 8 + j)) 0))) :: (ma, .inr (6, [.int (nI (Sf 0)), .int (nI (Sf 1)), .int (nI (Sf 2)), .int (nI (Sf 3)), .ref so, .ref wo, .ref ro, .ref fx])) :: (so, .inl (cJ, 12, refs (orf 12 sc))) :: (wo, .inl (cJ, nw, refs (orf nw wa))) :: (ro, .inl (cJ, nr, refs (orf nr ra))) :: (fx, .inl (cJ, nf, refs (orf nf fa))) :: sR cI sc wa ra fa nw nr nf S T st fe fo C9)) X 0 0 (0) (a3 (sm (fun x9 => S (4 + x9)) (i * 8 + (j + 1))) (sm (fun x9 => if S (4 + x9) = 0 then 1 else 0) (i * 8 + j)) 0) 61 rfl rfl (by omega) (by decide) a3_u0 dX6_sums_60 rfl rfl ?_
          refine g_aload_n X 7 62 dX6_sums_61 rfl rfl rfl ?_
          refine g_iconst X (nI 1) 63 dX6_sums_62 rfl (by decide +kernel) ?_
          refine g_dup2 X 64 dX6_sums_63 rfl rfl rfl ?_
          refine g_iald X 0 0 (1) (nI (sm (fun x9 => if S (4 + x9) = 0 then 1 else 0) (i * 8 + j))) 65 rfl rfl (by omega) (by decide) rfl dX6_sums_64 rfl ?_
          refine g_iload X 0 67 dX6_sums_65 rfl rfl ?_
          refine g_if_ne X 70 74 dX6_sums_67 rfl (by decide) (nz_eq (by omega)) (fun hz => ?_) (fun hz => ?_)
          · refine g_iconst X (nI 0) 75 dX6_sums_74 rfl (by decide +kernel) ?_
            refine g_iadd X (nI ((sm (fun x9 => if S (4 + x9) = 0 then 1 else 0) (i * 8 + j)) + 0)) 76 dX6_sums_75 rfl (nI_add _ _) ?_
            refine g_iast (ws' := ((q, .inl (cI, 3, .inl (a3 (sm (fun x9 => S (4 + x9)) (i * 8 + (j + 1))) (sm (fun x9 => if S (4 + x9) = 0 then 1 else 0) (i * 8 + (j + 1))) 0))) :: (ma, .inr (6, [.int (nI (Sf 0)), .int (nI (Sf 1)), .int (nI (Sf 2)), .int (nI (Sf 3)), .ref so, .ref wo, .ref ro, .ref fx])) :: (so, .inl (cJ, 12, refs (orf 12 sc))) :: (wo, .inl (cJ, nw, refs (orf nw wa))) :: (ro, .inl (cJ, nr, refs (orf nr ra))) :: (fx, .inl (cJ, nf, refs (orf nf fa))) :: sR cI sc wa ra fa nw nr nf S T st fe fo C9)) X 0 0 (1) (a3 (sm (fun x9 => S (4 + x9)) (i * 8 + (j + 1))) (sm (fun x9 => if S (4 + x9) = 0 then 1 else 0) (i * 8 + (j + 1))) 0) 77 rfl rfl (by omega) (by decide) (a3_u1.trans (by rw [show sm (fun x9 => if S (4 + x9) = 0 then 1 else 0) (i * 8 + (j + 1)) = sm (fun x9 => if S (4 + x9) = 0 then 1 else 0) (i * 8 + j) + 0 from by rw [← Nat.add_assoc, sm_s]; simp [hz]])) dX6_sums_76 rfl rfl ?_
            refine g_iinc X 1 (nI (j + 1)) [(8, .int (nI (j + 1))), (9, .int (nI (S (4 + (i * 8 + j))))), (7, .int (nI 8)), (6, .ref (sc i)), (4, .int (nI i)), (3, .int (nI 12)), (2, .ref so), (1, .ref q), (0, .ref ma)] 80 dX6_sums_77 rfl rfl (nI_inc _) (by decide) rfl ?_
            refine g_goto X 39 dX6_sums_80 (by decide) ?_
            refine g_lv (lv' := [(8, .int (nI (j + 1))), (7, .int (nI 8)), (6, .ref (sc i)), (4, .int (nI i)), (3, .int (nI 12)), (2, .ref so), (1, .ref q), (0, .ref ma)]) [0, 2, 3, 4, 5, 6, 7, 8] rfl ?_
            exact ih_j
          · refine g_iconst X (nI 1) 71 dX6_sums_70 rfl (by decide +kernel) ?_
            refine g_goto X 75 dX6_sums_71 (by decide) ?_
            refine g_iadd X (nI ((sm (fun x9 => if S (4 + x9) = 0 then 1 else 0) (i * 8 + j)) + 1)) 76 dX6_sums_75 rfl (nI_add _ _) ?_
            refine g_iast (ws' := ((q, .inl (cI, 3, .inl (a3 (sm (fun x9 => S (4 + x9)) (i * 8 + (j + 1))) (sm (fun x9 => if S (4 + x9) = 0 then 1 else 0) (i * 8 + (j + 1))) 0))) :: (ma, .inr (6, [.int (nI (Sf 0)), .int (nI (Sf 1)), .int (nI (Sf 2)), .int (nI (Sf 3)), .ref so, .ref wo, .ref ro, .ref fx])) :: (so, .inl (cJ, 12, refs (orf 12 sc))) :: (wo, .inl (cJ, nw, refs (orf nw wa))) :: (ro, .inl (cJ, nr, refs (orf nr ra))) :: (fx, .inl (cJ, nf, refs (orf nf fa))) :: sR cI sc wa ra fa nw nr nf S T st fe fo C9)) X 0 0 (1) (a3 (sm (fun x9 => S (4 + x9)) (i * 8 + (j + 1))) (sm (fun x9 => if S (4 + x9) = 0 then 1 else 0) (i * 8 + (j + 1))) 0) 77 rfl rfl (by omega) (by decide) (a3_u1.trans (by rw [show sm (fun x9 => if S (4 + x9) = 0 then 1 else 0) (i * 8 + (j + 1)) = sm (fun x9 => if S (4 + x9) = 0 then 1 else 0) (i * 8 + j) + 1 from by rw [← Nat.add_assoc, sm_s]; simp [hz]])) dX6_sums_76 rfl rfl ?_
            refine g_iinc X 1 (nI (j + 1)) [(8, .int (nI (j + 1))), (9, .int (nI (S (4 + (i * 8 + j))))), (7, .int (nI 8)), (6, .ref (sc i)), (4, .int (nI i)), (3, .int (nI 12)), (2, .ref so), (1, .ref q), (0, .ref ma)] 80 dX6_sums_77 rfl rfl (nI_inc _) (by decide) rfl ?_
            refine g_goto X 39 dX6_sums_80 (by decide) ?_
            refine g_lv (lv' := [(8, .int (nI (j + 1))), (7, .int (nI 8)), (6, .ref (sc i)), (4, .int (nI i)), (3, .int (nI 12)), (2, .ref so), (1, .ref q), (0, .ref ma)]) [0, 2, 3, 4, 5, 6, 7, 8] rfl ?_
            exact ih_j
      exact M 0 (Nat.zero_le _)
  have L0 := L 0 (Nat.zero_le _)
  rw [show 0 * 8 = 0 from rfl] at L0
  exact L0

def fAO : (Nat → Prop) → State → Prop := fun _ U => va_AOA .int U
theorem va_AOA.moved {t : FieldType} {u U : State} (hvm : u.vm.Alike U.vm) (h : va_AOA t u) : va_AOA t U := by
  obtain ⟨comp, c, k, h1, h2, h3, h4, h5⟩ := arrayOverA_spec h
  obtain ⟨k', hk', he⟩ := hvm.2.2 _ _ h3
  have hi : (U.vm.classes.findIdx? fun (x : Class) => match x.kind with | .array component _ => component == comp | _ => false) = some c := by
    rw [hvm.findIdx?_eq _ (fun _ => rfl)]
    exact h2
  have hkind : k'.kind = .array comp (.array t) := by rw [he]; exact h4
  have f1 : U.vm.findClass (FieldType.array t).toString = some comp := by rw [hvm.findClass]; exact h1
  have f2 : U.vm.findClass ("[" ++ (FieldType.array t).toString) = some c := by rw [hvm.findClass]; exact h5
  unfold va_AOA Cond.before Cond.holds
  simp only [Cond.value]
  rw [f1, Option.bind_some]
  refine (congrArg (fun o : Option Nat => (o.bind (fun c => (U.vm.classes[c]?).map fun (k : Class) => match k.kind with | .array _ ty => decide (ty = FieldType.array t) && decide (U.vm.findClass ("[" ++ (FieldType.array t).toString) = some c) | _ => false) == some true)) hi).trans ?_
  simp [hk', hkind, f2]
theorem ok_fAO : okF fAO := ⟨fun A U g mk a h => va_AOA.moved (u := U) (U := U.calling g mk a) (Vm.Alike.refl U.vm) h, fun A A1 s U H locs h hS hA hU hW => va_AOA.moved hW.alike h⟩

abbrev rm_X6_with : Room := { frames := 0, cells := 1, slots := 7, locals := 0 }
set_option maxHeartbeats 4000000 in
set_option maxRecDepth 100000 in
/-- one row more -/
theorem m_X6_with (l : Launch) (D : va_G) (cI cZ cJ : ClassId) (o la n kk : Nat) (wa : Nat → Nat) (ff : Nat → Nat → Int32) (gg : Nat → Int32) (C9 : va_W) (hn : n ≤ 6) : MRF fAO l yX6_with wsX6_with rm_X6_with D (gT cI cZ cJ) ((o, .inl (cJ, n, refs (orf n wa))) :: (la, .inl (cI, kk, .inl gg)) :: (rwL n (fun i9 => (wa i9, .inl (cI, kk, .inl (ff i9)))) ++ C9)) [.ref o, .ref la] (fun r u => u = (r, .inl (cJ, n + 1, refs (orf (n + 1) (up wa n la)))) :: ((o, .inl (cJ, n, refs (orf n wa))) :: (la, .inl (cI, kk, .inl gg)) :: (rwL n (fun i9 => (wa i9, .inl (cI, kk, .inl (ff i9)))) ++ C9))) := by
  refine MRF_of [(0, .ref o), (1, .ref la)] (by decide) (Or.inr ⟨_, rfl⟩) rfl (Nat.le_of_ble_eq_true rfl) rfl ?_
  intro p e s m args below meth c A Q X hF ret
  refine g_aload_n X 0 1 dX6_with_0 rfl rfl rfl ?_
  refine g_alen X 0 2 2 rfl rfl dX6_with_1 rfl ?_
  refine g_iconst X (nI 1) 3 dX6_with_2 rfl (by decide +kernel) ?_
  refine g_iadd X (nI (n + 1)) 4 dX6_with_3 rfl (nI_add _ _) ?_
  refine g_anew X hF 2 (n + 1) 7 rfl (List.mem_of_getElem? (i := 1) rfl) (by omega) (Nat.le_of_ble_eq_true rfl) (by have h9 : rm_X6_with.slots = 7 := rfl; omega) dX6_with_4 rfl (fun q => ?_)
  refine g_w (kc' := 1) (ks' := 7) (Nat.le_refl _) (by omega) ?_
  refine g_eqw (ws' := ((q, .inl (cJ, n + 1, refs (orf 0 wa))) :: (o, .inl (cJ, n, refs (orf n wa))) :: (la, .inl (cI, kk, .inl gg)) :: (rwL n (fun i9 => (wa i9, .inl (cI, kk, .inl (ff i9)))) ++ C9))) (by rw [← orf_0]) ?_
  refine g_astore_n X [(2, .ref q), (0, .ref o), (1, .ref la)] 8 dX6_with_7 rfl rfl (by decide) rfl ?_
  refine g_iconst X (nI 0) 9 dX6_with_8 rfl (by decide +kernel) ?_
  refine g_istore_n X [(3, .int (nI 0)), (2, .ref q), (0, .ref o), (1, .ref la)] 10 dX6_with_9 rfl rfl (by decide) rfl ?_
  have L : ∀ j : Nat, j ≤ n → G p l e rm_X6_with s m args below meth c Q D A 4 1 7 ((q, .inl (cJ, n + 1, refs (orf j wa))) :: (o, .inl (cJ, n, refs (orf n wa))) :: (la, .inl (cI, kk, .inl gg)) :: (rwL n (fun i9 => (wa i9, .inl (cI, kk, .inl (ff i9)))) ++ C9)) [(3, .int (nI j)), (2, .ref q), (0, .ref o), (1, .ref la)] 10 [] := by
    refine g_down _ ?_ ?_
    · refine g_iload_n X 0 11 dX6_with_10 rfl rfl rfl ?_
      refine g_aload_n X 2 12 dX6_with_11 rfl rfl rfl ?_
      refine g_alen X 1 2 13 rfl rfl dX6_with_12 rfl ?_
      refine g_icmp_ge X 16 28 dX6_with_13 rfl (by decide) (nI_leI (by omega) (by omega)) (fun h13 => ?_) (fun h13 => absurd (Nat.le_refl _) h13)
      refine g_aload_n X 1 29 dX6_with_28 rfl rfl rfl ?_
      refine g_aload_n X 2 30 dX6_with_29 rfl rfl rfl ?_
      refine g_alen X 1 2 31 rfl rfl dX6_with_30 rfl ?_
      refine g_aload_n X 3 32 dX6_with_31 rfl rfl rfl ?_
      refine g_aast (ws' := ((q, .inl (cJ, n + 1, refs (orf (n + 1) (up wa n la)))) :: (o, .inl (cJ, n, refs (orf n wa))) :: (la, .inl (cI, kk, .inl gg)) :: (rwL n (fun i9 => (wa i9, .inl (cI, kk, .inl (ff i9)))) ++ C9))) X hF 0 2 (2) 0 (n) (orf (n + 1) (up wa n la)) 33 rfl rfl rfl rfl (by omega) (by omega) orf_new dX6_with_32 rfl rfl ?_
      refine g_aload_n X 1 34 dX6_with_33 rfl rfl rfl ?_
      refine g_w (kc' := rm_X6_with.cells) (ks' := rm_X6_with.slots) (by have h9 : rm_X6_with.cells = 1 := rfl; omega) (by have h9 : rm_X6_with.slots = 7 := rfl; omega) ?_
      exact ret _ _ _ _ dX6_with_34 rfl
    · intro j hj ih_j 
      refine g_iload_n X 0 11 dX6_with_10 rfl rfl rfl ?_
      refine g_aload_n X 2 12 dX6_with_11 rfl rfl rfl ?_
      refine g_alen X 1 2 13 rfl rfl dX6_with_12 rfl ?_
      refine g_icmp_ge X 16 28 dX6_with_13 rfl (by decide) (nI_leI (by omega) (by omega)) (fun h13 => absurd h13 (by omega)) (fun h13 => ?_)
      refine g_aload_n X 1 17 dX6_with_16 rfl rfl rfl ?_
      refine g_iload_n X 0 18 dX6_with_17 rfl rfl rfl ?_
      refine g_aload_n X 2 19 dX6_with_18 rfl rfl rfl ?_
      refine g_iload_n X 0 20 dX6_with_19 rfl rfl rfl ?_
      refine g_aald X 1 2 (j) (wa j) 21 rfl rfl (by omega) (by omega) (orf_at (by omega)) dX6_with_20 rfl ?_
      refine g_aast (ws' := ((q, .inl (cJ, n + 1, refs (orf (j + 1) wa))) :: (o, .inl (cJ, n, refs (orf n wa))) :: (la, .inl (cI, kk, .inl gg)) :: (rwL n (fun i9 => (wa i9, .inl (cI, kk, .inl (ff i9)))) ++ C9))) X hF 0 2 (3 + j) 0 (j) (orf (j + 1) wa) 22 rfl rfl (drop_at rfl (ap_l rwL_len (rwL_at hj))) rfl (by omega) (by omega) orf_up dX6_with_21 rfl rfl ?_
      refine g_iinc X 0 (nI (j + 1)) [(3, .int (nI (j + 1))), (2, .ref q), (0, .ref o), (1, .ref la)] 25 dX6_with_22 rfl rfl (nI_inc _) (by decide) rfl ?_
      refine g_goto X 10 dX6_with_25 (by decide) ?_
      exact ih_j
  exact L 0 (Nat.zero_le _)

theorem sim_p {ma so wo ro fx : Nat} {sc : Nat → Nat} {cI cJ : ClassId} {C9 : va_W} : List.Perm ((fx, .inl (cJ, 0, refs (fun _ => none))) :: (ro, .inl (cJ, 0, refs (fun _ => none))) :: (wo, .inl (cJ, 0, refs (fun _ => none))) :: (so, .inl (cJ, 12, refs (orf 12 sc))) :: (ma, .inr (6, [.int 0, .int 0, .int 0, .int 0, .ref so, .ref wo, .ref ro, .ref fx])) :: (C9 ++ rwL 12 (fun i => (sc i, .inl (cI, 8, .inl (fun _ => 0)))))) (((ma, .inr (6, [.int (nI ((fun _ => 0) 0)), .int (nI ((fun _ => 0) 1)), .int (nI ((fun _ => 0) 2)), .int (nI ((fun _ => 0) 3)), .ref so, .ref wo, .ref ro, .ref fx])) :: (so, .inl (cJ, 12, refs (orf 12 sc))) :: (wo, .inl (cJ, 0, refs (orf 0 (fun _ => 0)))) :: (ro, .inl (cJ, 0, refs (orf 0 (fun _ => 0)))) :: (fx, .inl (cJ, 0, refs (orf 0 (fun _ => 0)))) :: sR cI sc (fun _ => 0) (fun _ => 0) (fun _ => 0) 0 0 0 (fun _ => 0) (fun _ => 0) (fun _ => 0) (fun _ => 0) (fun _ => 0) C9) ++ []) := by
  have hc : ∀ i : Nat, vcl (fun _ => 0) i = fun _ => 0 := fun i => by funext j; unfold vcl; split <;> rfl
  have hz : nI 0 = 0 := nI_0
  unfold sR
  simp only [rwL_0, hc, hz, ← orf_0, List.nil_append, List.append_nil]
  exact perm_ct (fun _ _ => by simp only [List.count_append, List.count_cons, List.count_nil]; ac_rfl)

abbrev rm_X6_init : Room := { frames := 1, cells := 16, slots := 108, locals := 20 }
set_option maxHeartbeats 4000000 in
set_option maxRecDepth 100000 in
/-- a new Sim -/
theorem m_X6_init (l : Launch) (D : va_G) (cI cZ cJ : ClassId) (ma : Nat) (C9 : va_W)  : MVF fAO l yX6_init wsX6_init rm_X6_init D (gT cI cZ cJ) ((ma, .inr (6, [.int 0, .int 0, .int 0, .int 0, .null, .null, .null, .null])) :: C9) [.ref ma] (fun u => ∃ (so wo ro fx : Nat) (sc : Nat → Nat), u = ((ma, .inr (6, [.int (nI ((fun _ => 0) 0)), .int (nI ((fun _ => 0) 1)), .int (nI ((fun _ => 0) 2)), .int (nI ((fun _ => 0) 3)), .ref so, .ref wo, .ref ro, .ref fx])) :: (so, .inl (cJ, 12, refs (orf 12 sc))) :: (wo, .inl (cJ, 0, refs (orf 0 (fun _ => 0)))) :: (ro, .inl (cJ, 0, refs (orf 0 (fun _ => 0)))) :: (fx, .inl (cJ, 0, refs (orf 0 (fun _ => 0)))) :: sR cI sc (fun _ => 0) (fun _ => 0) (fun _ => 0) 0 0 0 (fun _ => 0) (fun _ => 0) (fun _ => 0) (fun _ => 0) (fun _ => 0) C9)) := by
  refine MVF_of [(0, .ref ma)] (by decide) rfl (Nat.le_of_ble_eq_true rfl) rfl ?_
  intro p e s m args below meth c A Q X hF ret
  have hiX6 : ∀ w ∈ wsX60, w ∈ wsX6_init := (fun _ h => List.mem_cons_of_mem _ (List.mem_append_right _ h))
  refine g_aload_n X 0 1 dX6_init_0 rfl rfl rfl ?_
  refine g_objInit X 4 (List.mem_of_getElem? (i := 1) rfl) (List.mem_of_getElem? (i := 2) rfl) (List.mem_of_getElem? (i := 3) rfl) (Nat.le_of_ble_eq_true rfl) (Nat.le_of_ble_eq_true rfl) dX6_init_1 rfl ?_
  refine g_aload_n X 0 5 dX6_init_4 rfl rfl rfl ?_
  refine g_bipush X (nI 12) 7 dX6_init_5 rfl (by decide +kernel) ?_
  refine g_bipush X (nI 8) 9 dX6_init_7 rfl (by decide +kernel) ?_
  refine g_mna X hF 2 0 12 8 13 rfl rfl (List.mem_of_getElem? (i := 4) rfl) (List.mem_of_getElem? (i := 5) rfl) (by decide) (by decide) (Nat.le_of_ble_eq_true rfl) (Nat.le_of_ble_eq_true rfl) dX6_init_9 rfl (fun so sc => ?_)
  refine g_eqw (ws' := ((so, .inl (cJ, 12, refs (orf 12 sc))) :: (ma, .inr (6, [.int 0, .int 0, .int 0, .int 0, .null, .null, .null, .null])) :: (C9 ++ rwL 12 (fun i => (sc i, .inl (cI, 8, .inl (fun _ => 0))))))) rfl ?_
  refine g_put (ws' := ((so, .inl (cJ, 12, refs (orf 12 sc))) :: (ma, .inr (6, [.int 0, .int 0, .int 0, .int 0, .ref so, .null, .null, .null])) :: (C9 ++ rwL 12 (fun i => (sc i, .inl (cI, 8, .inl (fun _ => 0))))))) X hiX6 tyX6 tyX6_ok nmX6 1 4 16 rfl rfl (by decide) (List.mem_of_getElem? (i := 6) rfl) rfl (ty := .array (.array .int)) (by decide +kernel) rfl rfl (Nat.le_of_ble_eq_true rfl) dX6_init_13 rfl rfl ?_
  refine g_aload_n X 0 17 dX6_init_16 rfl rfl rfl ?_
  refine g_iconst X (nI 0) 18 dX6_init_17 rfl (by decide +kernel) ?_
  refine g_anew X hF 2 (0) 21 rfl (List.mem_of_getElem? (i := 7) rfl) (by decide) (Nat.le_of_ble_eq_true rfl) (Nat.le_of_ble_eq_true rfl) dX6_init_18 rfl (fun wo => ?_)
  refine g_put (ws' := ((wo, .inl (cJ, 0, refs (fun _ => none))) :: (so, .inl (cJ, 12, refs (orf 12 sc))) :: (ma, .inr (6, [.int 0, .int 0, .int 0, .int 0, .ref so, .ref wo, .null, .null])) :: (C9 ++ rwL 12 (fun i => (sc i, .inl (cI, 8, .inl (fun _ => 0))))))) X hiX6 tyX6 tyX6_ok nmX6 2 5 24 rfl rfl (by decide) (List.mem_of_getElem? (i := 8) rfl) rfl (ty := .array (.array .int)) (by decide +kernel) rfl rfl (Nat.le_of_ble_eq_true rfl) dX6_init_21 rfl rfl ?_
  refine g_aload_n X 0 25 dX6_init_24 rfl rfl rfl ?_
  refine g_iconst X (nI 0) 26 dX6_init_25 rfl (by decide +kernel) ?_
  refine g_anew X hF 2 (0) 29 rfl (List.mem_of_getElem? (i := 7) rfl) (by decide) (Nat.le_of_ble_eq_true rfl) (Nat.le_of_ble_eq_true rfl) dX6_init_26 rfl (fun ro => ?_)
  refine g_put (ws' := ((ro, .inl (cJ, 0, refs (fun _ => none))) :: (wo, .inl (cJ, 0, refs (fun _ => none))) :: (so, .inl (cJ, 12, refs (orf 12 sc))) :: (ma, .inr (6, [.int 0, .int 0, .int 0, .int 0, .ref so, .ref wo, .ref ro, .null])) :: (C9 ++ rwL 12 (fun i => (sc i, .inl (cI, 8, .inl (fun _ => 0))))))) X hiX6 tyX6 tyX6_ok nmX6 3 6 32 rfl rfl (by decide) (List.mem_of_getElem? (i := 9) rfl) rfl (ty := .array (.array .int)) (by decide +kernel) rfl rfl (Nat.le_of_ble_eq_true rfl) dX6_init_29 rfl rfl ?_
  refine g_aload_n X 0 33 dX6_init_32 rfl rfl rfl ?_
  refine g_iconst X (nI 0) 34 dX6_init_33 rfl (by decide +kernel) ?_
  refine g_anew X hF 2 (0) 37 rfl (List.mem_of_getElem? (i := 7) rfl) (by decide) (Nat.le_of_ble_eq_true rfl) (Nat.le_of_ble_eq_true rfl) dX6_init_34 rfl (fun fx => ?_)
  refine g_put (ws' := ((fx, .inl (cJ, 0, refs (fun _ => none))) :: (ro, .inl (cJ, 0, refs (fun _ => none))) :: (wo, .inl (cJ, 0, refs (fun _ => none))) :: (so, .inl (cJ, 12, refs (orf 12 sc))) :: (ma, .inr (6, [.int 0, .int 0, .int 0, .int 0, .ref so, .ref wo, .ref ro, .ref fx])) :: (C9 ++ rwL 12 (fun i => (sc i, .inl (cI, 8, .inl (fun _ => 0))))))) X hiX6 tyX6 tyX6_ok nmX6 4 7 40 rfl rfl (by decide) (List.mem_of_getElem? (i := 10) rfl) rfl (ty := .array (.array .int)) (by decide +kernel) rfl rfl (Nat.le_of_ble_eq_true rfl) dX6_init_37 rfl rfl ?_
  refine g_perm (ws' := ((ma, .inr (6, [.int (nI ((fun _ => 0) 0)), .int (nI ((fun _ => 0) 1)), .int (nI ((fun _ => 0) 2)), .int (nI ((fun _ => 0) 3)), .ref so, .ref wo, .ref ro, .ref fx])) :: (so, .inl (cJ, 12, refs (orf 12 sc))) :: (wo, .inl (cJ, 0, refs (orf 0 (fun _ => 0)))) :: (ro, .inl (cJ, 0, refs (orf 0 (fun _ => 0)))) :: (fx, .inl (cJ, 0, refs (orf 0 (fun _ => 0)))) :: sR cI sc (fun _ => 0) (fun _ => 0) (fun _ => 0) 0 0 0 (fun _ => 0) (fun _ => 0) (fun _ => 0) (fun _ => 0) (fun _ => 0) C9)) [] sim_p ?_
  refine g_w (kc' := rm_X6_init.cells) (ks' := rm_X6_init.slots) (by have h9 : rm_X6_init.cells = 16 := rfl; omega) (by have h9 : rm_X6_init.slots = 108 := rfl; omega) ?_
  exact ret _ _ _ dX6_init_40 ⟨so, wo, ro, fx, sc, rfl⟩
