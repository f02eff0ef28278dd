/-! THE SIM: days, and the comparison with the class -/
def ctV (S T : Nat → Nat) (nw nr nf k : Nat) : Nat → Int32 := fun j => if j < k then nI (cnt S T nw nr nf j) else 0
theorem ctV_0 {S T : Nat → Nat} {nw nr nf : Nat} : (fun _ => 0) = ctV S T nw nr nf 0 := by
  funext j
  unfold ctV
  rw [if_neg (Nat.not_lt_zero j)]
theorem ctV_s {S T : Nat → Nat} {nw nr nf k v : Nat} (h : v = cnt S T nw nr nf k) : upd (ctV S T nw nr nf k) k (nI v) = ctV S T nw nr nf (k + 1) := by
  subst h
  funext j
  unfold upd ctV
  by_cases hj : j = k
  · subst hj; simp
  · have : j < k ↔ j < k + 1 := by omega
    simp only [if_neg hj, this]
theorem ctV_at {S T : Nat → Nat} {nw nr nf k j : Nat} (h : j < k) : ctV S T nw nr nf k j = nI (cnt S T nw nr nf j) := if_pos h

abbrev rm_X6_behind : Room := { frames := 3, cells := 24, slots := 72, locals := 78 }
set_option maxHeartbeats 4000000 in
set_option maxRecDepth 100000 in
/-- some days -/
theorem m_X6_behind (l : Launch) (D : va_G) (cI cZ cJ : ClassId) (ma so wo ro fx : Nat) (sc wa ra fa : Nat → Nat) (nw nr nf : Nat) (S T st fe fo : Nat → Nat) (C9 : va_W) (dn : Nat) (hg : Gd S nr) (hs : stOk T st fe fo nw nr nf) (ho : ∀ k : Nat, k < nf → fo k < fe k) (hd : S 0 < 2 ^ 27) (hk : dn ≤ 4) : MRF fT l yX6_behind wsX6_behind rm_X6_behind D (gT cI cZ cJ) ((ma, .inr (6, [.int (nI (S 0)), .int (nI (S 1)), .int (nI (S 2)), .int (nI (S 3)), .ref so, .ref wo, .ref ro, .ref fx])) :: (so, .inl (cJ, 12, refs (orf 12 sc))) :: (wo, .inl (cJ, nw, refs (orf nw wa))) :: (ro, .inl (cJ, nr, refs (orf nr ra))) :: (fx, .inl (cJ, nf, refs (orf nf fa))) :: sR cI sc wa ra fa nw nr nf S T st fe fo C9) [.ref ma, .int (nI dn)] (fun r u => r = ma ∧ u = ((ma, .inr (6, [.int (nI ((daysS T st fe fo nw nr nf S dn) 0)), .int (nI ((daysS T st fe fo nw nr nf S dn) 1)), .int (nI ((daysS T st fe fo nw nr nf S dn) 2)), .int (nI ((daysS T st fe fo nw nr nf S dn) 3)), .ref so, .ref wo, .ref ro, .ref fx])) :: (so, .inl (cJ, 12, refs (orf 12 sc))) :: (wo, .inl (cJ, nw, refs (orf nw wa))) :: (ro, .inl (cJ, nr, refs (orf nr ra))) :: (fx, .inl (cJ, nf, refs (orf nf fa))) :: sR cI sc wa ra fa nw nr nf (daysS T st fe fo nw nr nf S dn) T st fe fo C9)) := by
  refine MRF_of [(0, .ref ma), (1, .int (nI dn))] (by decide) (Or.inl ⟨_, rfl⟩) rfl (Nat.le_of_ble_eq_true rfl) rfl ?_
  intro p e s m args below meth c A Q X hF ret
  refine g_iconst X (nI 0) 1 dX6_behind_0 rfl (by decide +kernel) ?_
  refine g_istore_n X [(2, .int (nI 0)), (0, .ref ma), (1, .int (nI dn))] 2 dX6_behind_1 rfl rfl (by decide) rfl ?_
  have L : ∀ j : Nat, j ≤ dn → G p l e rm_X6_behind s m args below meth c Q D A 3 (j * 6) (j * 18) ((ma, .inr (6, [.int (nI ((daysS T st fe fo nw nr nf S j) 0)), .int (nI ((daysS T st fe fo nw nr nf S j) 1)), .int (nI ((daysS T st fe fo nw nr nf S j) 2)), .int (nI ((daysS T st fe fo nw nr nf S j) 3)), .ref so, .ref wo, .ref ro, .ref fx])) :: (so, .inl (cJ, 12, refs (orf 12 sc))) :: (wo, .inl (cJ, nw, refs (orf nw wa))) :: (ro, .inl (cJ, nr, refs (orf nr ra))) :: (fx, .inl (cJ, nf, refs (orf nf fa))) :: sR cI sc wa ra fa nw nr nf (daysS T st fe fo nw nr nf S j) T st fe fo C9) [(2, .int (nI j)), (0, .ref ma), (1, .int (nI dn))] 2 [] := by
    refine g_down _ ?_ ?_
    · refine g_iload_n X 0 3 dX6_behind_2 rfl rfl rfl ?_
      refine g_iload_n X 2 4 dX6_behind_3 rfl rfl rfl ?_
      refine g_icmp_ge X 7 17 dX6_behind_4 rfl (by decide) (nI_leI (by omega) (by omega)) (fun h4 => ?_) (fun h4 => absurd (Nat.le_refl _) h4)
      refine g_aload_n X 1 18 dX6_behind_17 rfl rfl rfl ?_
      refine g_w (kc' := rm_X6_behind.cells) (ks' := rm_X6_behind.slots) (by have h9 : rm_X6_behind.cells = 24 := rfl; omega) (by have h9 : rm_X6_behind.slots = 72 := rfl; omega) ?_
      exact ret _ _ _ _ dX6_behind_18 ⟨rfl, rfl⟩
    · intro j hj ih_j 
      refine g_iload_n X 0 3 dX6_behind_2 rfl rfl rfl ?_
      refine g_iload_n X 2 4 dX6_behind_3 rfl rfl rfl ?_
      refine g_icmp_ge X 7 17 dX6_behind_4 rfl (by decide) (nI_leI (by omega) (by omega)) (fun h4 => absurd h4 (by omega)) (fun h4 => ?_)
      refine g_aload_n X 1 8 dX6_behind_7 rfl rfl rfl ?_
      refine g_sVv X okT trivial (m_X6_pass l D cI cZ cJ ma so wo ro fx sc wa ra fa nw nr nf (daysS T st fe fo nw nr nf S j) T st fe fo C9 (daysS_gd hg j) hs ho (by rw [daysS_0 hg]; omega)) 11 (j * 6 + 6) (j * 18 + 18) [] rfl gX6_behind_X6_pass rfl (n := 0) (by decide +kernel) rfl ⟨Nat.le_of_ble_eq_true rfl, Nat.le_of_ble_eq_true rfl⟩ (ci := 6) 0 rfl rfl rfl (Nat.le_of_ble_eq_true rfl) dX6_behind_8 rfl (by have h9 : rm_X6_pass.cells = 6 := rfl; omega) (by have h9 : rm_X6_pass.slots = 18 := rfl; omega) ⟨(by have h9 : rm_X6_behind.cells = 24 := rfl; omega), (by have h9 : rm_X6_behind.slots = 72 := rfl; omega)⟩ (fun u9 h9 => ?_)
      subst h9
      refine g_eqw (ws' := ((ma, .inr (6, [.int (nI ((daysS T st fe fo nw nr nf S (j + 1)) 0)), .int (nI ((daysS T st fe fo nw nr nf S (j + 1)) 1)), .int (nI ((daysS T st fe fo nw nr nf S (j + 1)) 2)), .int (nI ((daysS T st fe fo nw nr nf S (j + 1)) 3)), .ref so, .ref wo, .ref ro, .ref fx])) :: (so, .inl (cJ, 12, refs (orf 12 sc))) :: (wo, .inl (cJ, nw, refs (orf nw wa))) :: (ro, .inl (cJ, nr, refs (orf nr ra))) :: (fx, .inl (cJ, nf, refs (orf nf fa))) :: sR cI sc wa ra fa nw nr nf (daysS T st fe fo nw nr nf S (j + 1)) T st fe fo C9)) rfl ?_
      refine g_iinc X 0 (nI (j + 1)) [(2, .int (nI (j + 1))), (0, .ref ma), (1, .int (nI dn))] 14 dX6_behind_11 rfl rfl (nI_inc _) (by decide) rfl ?_
      refine g_goto X 2 dX6_behind_14 (by decide) ?_
      refine g_w (kc' := ((j + 1) * 6)) (ks' := ((j + 1) * 18)) (by omega) (by omega) ?_
      exact ih_j
  exact L 0 (Nat.zero_le _)

abbrev rm_X6_isSame : Room := { frames := 7, cells := 230, slots := 1400, locals := 134 }
set_option maxHeartbeats 4000000 in
set_option maxRecDepth 100000 in
/-- both tell the same -/
theorem m_X6_isSame (l : Launch) (D : va_G) (cI cZ cJ : ClassId) (hfl : l.stackTraces = false) (ma so wo ro fx : Nat) (sc wa ra fa : Nat → Nat) (nw nr nf : Nat) (S T st fe fo ad : Nat → Nat) (hg : Gd S nr) (hs : stOk T st fe fo nw nr nf) (ho : ∀ k : Nat, k < nf → fo k < fe k) (hd : S 0 < 2 ^ 27) : MIF gN l yX6_isSame wsX6_isSame rm_X6_isSame D (gT cI cZ cJ) ((ma, .inr (6, [.int (nI (S 0)), .int (nI (S 1)), .int (nI (S 2)), .int (nI (S 3)), .ref so, .ref wo, .ref ro, .ref fx])) :: (so, .inl (cJ, 12, refs (orf 12 sc))) :: (wo, .inl (cJ, nw, refs (orf nw wa))) :: (ro, .inl (cJ, nr, refs (orf nr ra))) :: (fx, .inl (cJ, nf, refs (orf nf fa))) :: sR cI sc wa ra fa nw nr nf S T st fe fo (gW ad cI cZ S T st fe fo nw nr nf)) [.ref ma, .ref (ad 0)] (fun r u => r = nI 1 ∧ u = ((ma, .inr (6, [.int (nI (S 0)), .int (nI (S 1)), .int (nI (S 2)), .int (nI (S 3)), .ref so, .ref wo, .ref ro, .ref fx])) :: (so, .inl (cJ, 12, refs (orf 12 sc))) :: (wo, .inl (cJ, nw, refs (orf nw wa))) :: (ro, .inl (cJ, nr, refs (orf nr ra))) :: (fx, .inl (cJ, nf, refs (orf nf fa))) :: sR cI sc wa ra fa nw nr nf S T st fe fo (gW ad cI cZ S T st fe fo nw nr nf))) := by
  refine MIF_of [(0, .ref ma), (1, .ref (ad 0))] (by decide) rfl (Nat.le_of_ble_eq_true rfl) rfl ?_
  intro p e s m args below meth c A Q X hF ret
  have hiX6 : ∀ w ∈ wsX60, w ∈ wsX6_isSame := (fun _ h => List.mem_cons_of_mem _ (List.mem_append_left _ (List.mem_append_left _ (List.mem_append_left _ (List.mem_append_left _ (List.mem_append_left _ (List.mem_append_left _ (List.mem_append_left _ (List.mem_append_left _ (List.mem_append_right _ h))))))))))
  have hw9 := hg.1.2.1
  have hn : nr ≤ 6 := hg.1.1
  have hnw : nw ≤ 6 := hs.1
  have ho30 : ∀ j : Nat, j < nf → fo j < 2 ^ 30 := hs.2.2.2.2
  refine g_aload_n X 0 1 dX6_isSame_0 rfl rfl rfl ?_
  refine g_sVr X okT trivial (m_X6_sums l D cI cZ cJ ma so wo ro fx sc wa ra fa nw nr nf S T st fe fo S (gW ad cI cZ S T st fe fo nw nr nf) hw9 hn) 4 1 3 [] rfl gX6_isSame_X6_sums rfl (n := 0) (by decide +kernel) rfl ⟨Nat.le_of_ble_eq_true rfl, Nat.le_of_ble_eq_true rfl⟩ (ci := 6) 0 rfl rfl rfl (Nat.le_of_ble_eq_true rfl) dX6_isSame_1 rfl (Nat.le_of_ble_eq_true rfl) (Nat.le_of_ble_eq_true rfl) ⟨(Nat.le_of_ble_eq_true rfl), (Nat.le_of_ble_eq_true rfl)⟩ (fun r9 u9 h9 => ?_)
  subst h9
  refine g_eqw (ws' := ((r9, .inl (cI, 3, .inl (a3 (allS S) (clnS S) (cldS S nr)))) :: (ma, .inr (6, [.int (nI (S 0)), .int (nI (S 1)), .int (nI (S 2)), .int (nI (S 3)), .ref so, .ref wo, .ref ro, .ref fx])) :: (so, .inl (cJ, 12, refs (orf 12 sc))) :: (wo, .inl (cJ, nw, refs (orf nw wa))) :: (ro, .inl (cJ, nr, refs (orf nr ra))) :: (fx, .inl (cJ, nf, refs (orf nf fa))) :: sR cI sc wa ra fa nw nr nf S T st fe fo (gW ad cI cZ S T st fe fo nw nr nf))) rfl ?_
  refine g_astore_n X [(2, .ref r9), (0, .ref ma), (1, .ref (ad 0))] 5 dX6_isSame_4 rfl rfl (by decide) rfl ?_
  refine g_bipush X (nI 11) 7 dX6_isSame_5 rfl (by decide +kernel) ?_
  refine g_newf (ty := .int) X 0 (11) (11, .inl (fun _ => 0)) 9 rfl rfl va_u_int (List.mem_of_getElem? (i := 1) rfl) (fun _ => rfl) (by decide) (Nat.le_of_ble_eq_true rfl) (Nat.le_of_ble_eq_true rfl) (Nat.le_of_ble_eq_true rfl) dX6_isSame_7 rfl (fun q => ?_)
  refine g_eqw (ws' := ((q, .inl (cI, 11, .inl (ctV S T nw nr nf 0))) :: (r9, .inl (cI, 3, .inl (a3 (allS S) (clnS S) (cldS S nr)))) :: (ma, .inr (6, [.int (nI (S 0)), .int (nI (S 1)), .int (nI (S 2)), .int (nI (S 3)), .ref so, .ref wo, .ref ro, .ref fx])) :: (so, .inl (cJ, 12, refs (orf 12 sc))) :: (wo, .inl (cJ, nw, refs (orf nw wa))) :: (ro, .inl (cJ, nr, refs (orf nr ra))) :: (fx, .inl (cJ, nf, refs (orf nf fa))) :: sR cI sc wa ra fa nw nr nf S T st fe fo (gW ad cI cZ S T st fe fo nw nr nf))) (by rw [← ctV_0]) ?_
  refine g_dup X 10 dX6_isSame_9 rfl rfl ?_
  refine g_iconst X (nI 0) 11 dX6_isSame_10 rfl (by decide +kernel) ?_
  refine g_aload_n X 1 12 dX6_isSame_11 rfl rfl rfl ?_
  refine g_get X hiX6 2 0 15 rfl rfl (by decide) (List.mem_of_getElem? (i := 2) rfl) rfl dX6_isSame_12 rfl ?_
  refine g_iast (ws' := ((q, .inl (cI, 11, .inl (ctV S T nw nr nf 1))) :: (r9, .inl (cI, 3, .inl (a3 (allS S) (clnS S) (cldS S nr)))) :: (ma, .inr (6, [.int (nI (S 0)), .int (nI (S 1)), .int (nI (S 2)), .int (nI (S 3)), .ref so, .ref wo, .ref ro, .ref fx])) :: (so, .inl (cJ, 12, refs (orf 12 sc))) :: (wo, .inl (cJ, nw, refs (orf nw wa))) :: (ro, .inl (cJ, nr, refs (orf nr ra))) :: (fx, .inl (cJ, nf, refs (orf nf fa))) :: sR cI sc wa ra fa nw nr nf S T st fe fo (gW ad cI cZ S T st fe fo nw nr nf))) X 0 0 (0) (ctV S T nw nr nf 1) 16 rfl rfl (by decide) (by decide) (ctV_s (k := 0) rfl) dX6_isSame_15 rfl rfl ?_
  refine g_dup X 17 dX6_isSame_16 rfl rfl ?_
  refine g_iconst X (nI 1) 18 dX6_isSame_17 rfl (by decide +kernel) ?_
  refine g_aload_n X 1 19 dX6_isSame_18 rfl rfl rfl ?_
  refine g_get X hiX6 2 5 22 rfl rfl (by decide) (List.mem_of_getElem? (i := 3) rfl) rfl dX6_isSame_19 rfl ?_
  refine g_alen X 4 2 23 rfl rfl dX6_isSame_22 rfl ?_
  refine g_iast (ws' := ((q, .inl (cI, 11, .inl (ctV S T nw nr nf 2))) :: (r9, .inl (cI, 3, .inl (a3 (allS S) (clnS S) (cldS S nr)))) :: (ma, .inr (6, [.int (nI (S 0)), .int (nI (S 1)), .int (nI (S 2)), .int (nI (S 3)), .ref so, .ref wo, .ref ro, .ref fx])) :: (so, .inl (cJ, 12, refs (orf 12 sc))) :: (wo, .inl (cJ, nw, refs (orf nw wa))) :: (ro, .inl (cJ, nr, refs (orf nr ra))) :: (fx, .inl (cJ, nf, refs (orf nf fa))) :: sR cI sc wa ra fa nw nr nf S T st fe fo (gW ad cI cZ S T st fe fo nw nr nf))) X 0 0 (1) (ctV S T nw nr nf 2) 24 rfl rfl (by decide) (by decide) (ctV_s (k := 1) rfl) dX6_isSame_23 rfl rfl ?_
  refine g_dup X 25 dX6_isSame_24 rfl rfl ?_
  refine g_iconst X (nI 2) 26 dX6_isSame_25 rfl (by decide +kernel) ?_
  refine g_aload_n X 1 27 dX6_isSame_26 rfl rfl rfl ?_
  refine g_get X hiX6 2 6 30 rfl rfl (by decide) (List.mem_of_getElem? (i := 4) rfl) rfl dX6_isSame_27 rfl ?_
  refine g_alen X 5 2 31 rfl rfl dX6_isSame_30 rfl ?_
  refine g_iast (ws' := ((q, .inl (cI, 11, .inl (ctV S T nw nr nf 3))) :: (r9, .inl (cI, 3, .inl (a3 (allS S) (clnS S) (cldS S nr)))) :: (ma, .inr (6, [.int (nI (S 0)), .int (nI (S 1)), .int (nI (S 2)), .int (nI (S 3)), .ref so, .ref wo, .ref ro, .ref fx])) :: (so, .inl (cJ, 12, refs (orf 12 sc))) :: (wo, .inl (cJ, nw, refs (orf nw wa))) :: (ro, .inl (cJ, nr, refs (orf nr ra))) :: (fx, .inl (cJ, nf, refs (orf nf fa))) :: sR cI sc wa ra fa nw nr nf S T st fe fo (gW ad cI cZ S T st fe fo nw nr nf))) X 0 0 (2) (ctV S T nw nr nf 3) 32 rfl rfl (by decide) (by decide) (ctV_s (k := 2) rfl) dX6_isSame_31 rfl rfl ?_
  refine g_dup X 33 dX6_isSame_32 rfl rfl ?_
  refine g_iconst X (nI 3) 34 dX6_isSame_33 rfl (by decide +kernel) ?_
  refine g_aload_n X 1 35 dX6_isSame_34 rfl rfl rfl ?_
  refine g_get X hiX6 2 7 38 rfl rfl (by decide) (List.mem_of_getElem? (i := 5) rfl) rfl dX6_isSame_35 rfl ?_
  refine g_alen X 6 2 39 rfl rfl dX6_isSame_38 rfl ?_
  refine g_iast (ws' := ((q, .inl (cI, 11, .inl (ctV S T nw nr nf 4))) :: (r9, .inl (cI, 3, .inl (a3 (allS S) (clnS S) (cldS S nr)))) :: (ma, .inr (6, [.int (nI (S 0)), .int (nI (S 1)), .int (nI (S 2)), .int (nI (S 3)), .ref so, .ref wo, .ref ro, .ref fx])) :: (so, .inl (cJ, 12, refs (orf 12 sc))) :: (wo, .inl (cJ, nw, refs (orf nw wa))) :: (ro, .inl (cJ, nr, refs (orf nr ra))) :: (fx, .inl (cJ, nf, refs (orf nf fa))) :: sR cI sc wa ra fa nw nr nf S T st fe fo (gW ad cI cZ S T st fe fo nw nr nf))) X 0 0 (3) (ctV S T nw nr nf 4) 40 rfl rfl (by decide) (by decide) (ctV_s (k := 3) rfl) dX6_isSame_39 rfl rfl ?_
  refine g_dup X 41 dX6_isSame_40 rfl rfl ?_
  refine g_iconst X (nI 4) 42 dX6_isSame_41 rfl (by decide +kernel) ?_
  refine g_aload_n X 1 43 dX6_isSame_42 rfl rfl rfl ?_
  refine g_get X hiX6 2 1 46 rfl rfl (by decide) (List.mem_of_getElem? (i := 6) rfl) rfl dX6_isSame_43 rfl ?_
  refine g_iast (ws' := ((q, .inl (cI, 11, .inl (ctV S T nw nr nf 5))) :: (r9, .inl (cI, 3, .inl (a3 (allS S) (clnS S) (cldS S nr)))) :: (ma, .inr (6, [.int (nI (S 0)), .int (nI (S 1)), .int (nI (S 2)), .int (nI (S 3)), .ref so, .ref wo, .ref ro, .ref fx])) :: (so, .inl (cJ, 12, refs (orf 12 sc))) :: (wo, .inl (cJ, nw, refs (orf nw wa))) :: (ro, .inl (cJ, nr, refs (orf nr ra))) :: (fx, .inl (cJ, nf, refs (orf nf fa))) :: sR cI sc wa ra fa nw nr nf S T st fe fo (gW ad cI cZ S T st fe fo nw nr nf))) X 0 0 (4) (ctV S T nw nr nf 5) 47 rfl rfl (by decide) (by decide) (ctV_s (k := 4) rfl) dX6_isSame_46 rfl rfl ?_
  refine g_dup X 48 dX6_isSame_47 rfl rfl ?_
  refine g_iconst X (nI 5) 49 dX6_isSame_48 rfl (by decide +kernel) ?_
  refine g_aload_n X 0 50 dX6_isSame_49 rfl rfl rfl ?_
  refine g_iconst X (nI 0) 51 dX6_isSame_50 rfl (by decide +kernel) ?_
  refine g_iald X 1 0 (0) (nI (allS S)) 52 rfl rfl (by omega) (by decide) rfl dX6_isSame_51 rfl ?_
  refine g_iast (ws' := ((q, .inl (cI, 11, .inl (ctV S T nw nr nf 6))) :: (r9, .inl (cI, 3, .inl (a3 (allS S) (clnS S) (cldS S nr)))) :: (ma, .inr (6, [.int (nI (S 0)), .int (nI (S 1)), .int (nI (S 2)), .int (nI (S 3)), .ref so, .ref wo, .ref ro, .ref fx])) :: (so, .inl (cJ, 12, refs (orf 12 sc))) :: (wo, .inl (cJ, nw, refs (orf nw wa))) :: (ro, .inl (cJ, nr, refs (orf nr ra))) :: (fx, .inl (cJ, nf, refs (orf nf fa))) :: sR cI sc wa ra fa nw nr nf S T st fe fo (gW ad cI cZ S T st fe fo nw nr nf))) X 0 0 (5) (ctV S T nw nr nf 6) 53 rfl rfl (by decide) (by decide) (ctV_s (k := 5) rfl) dX6_isSame_52 rfl rfl ?_
  refine g_dup X 54 dX6_isSame_53 rfl rfl ?_
  refine g_bipush X (nI 6) 56 dX6_isSame_54 rfl (by decide +kernel) ?_
  refine g_aload_n X 0 57 dX6_isSame_56 rfl rfl rfl ?_
  refine g_iconst X (nI 1) 58 dX6_isSame_57 rfl (by decide +kernel) ?_
  refine g_iald X 1 0 (1) (nI (clnS S)) 59 rfl rfl (by omega) (by decide) rfl dX6_isSame_58 rfl ?_
  refine g_iast (ws' := ((q, .inl (cI, 11, .inl (ctV S T nw nr nf 7))) :: (r9, .inl (cI, 3, .inl (a3 (allS S) (clnS S) (cldS S nr)))) :: (ma, .inr (6, [.int (nI (S 0)), .int (nI (S 1)), .int (nI (S 2)), .int (nI (S 3)), .ref so, .ref wo, .ref ro, .ref fx])) :: (so, .inl (cJ, 12, refs (orf 12 sc))) :: (wo, .inl (cJ, nw, refs (orf nw wa))) :: (ro, .inl (cJ, nr, refs (orf nr ra))) :: (fx, .inl (cJ, nf, refs (orf nf fa))) :: sR cI sc wa ra fa nw nr nf S T st fe fo (gW ad cI cZ S T st fe fo nw nr nf))) X 0 0 (6) (ctV S T nw nr nf 7) 60 rfl rfl (by decide) (by decide) (ctV_s (k := 6) rfl) dX6_isSame_59 rfl rfl ?_
  refine g_dup X 61 dX6_isSame_60 rfl rfl ?_
  refine g_bipush X (nI 7) 63 dX6_isSame_61 rfl (by decide +kernel) ?_
  refine g_aload_n X 0 64 dX6_isSame_63 rfl rfl rfl ?_
  refine g_iconst X (nI 2) 65 dX6_isSame_64 rfl (by decide +kernel) ?_
  refine g_iald X 1 0 (2) (nI (cldS S nr)) 66 rfl rfl (by omega) (by decide) rfl dX6_isSame_65 rfl ?_
  refine g_iast (ws' := ((q, .inl (cI, 11, .inl (ctV S T nw nr nf 8))) :: (r9, .inl (cI, 3, .inl (a3 (allS S) (clnS S) (cldS S nr)))) :: (ma, .inr (6, [.int (nI (S 0)), .int (nI (S 1)), .int (nI (S 2)), .int (nI (S 3)), .ref so, .ref wo, .ref ro, .ref fx])) :: (so, .inl (cJ, 12, refs (orf 12 sc))) :: (wo, .inl (cJ, nw, refs (orf nw wa))) :: (ro, .inl (cJ, nr, refs (orf nr ra))) :: (fx, .inl (cJ, nf, refs (orf nf fa))) :: sR cI sc wa ra fa nw nr nf S T st fe fo (gW ad cI cZ S T st fe fo nw nr nf))) X 0 0 (7) (ctV S T nw nr nf 8) 67 rfl rfl (by decide) (by decide) (ctV_s (k := 7) rfl) dX6_isSame_66 rfl rfl ?_
  refine g_dup X 68 dX6_isSame_67 rfl rfl ?_
  refine g_bipush X (nI 8) 70 dX6_isSame_68 rfl (by decide +kernel) ?_
  refine g_aload_n X 1 71 dX6_isSame_70 rfl rfl rfl ?_
  refine g_get X hiX6 2 2 74 rfl rfl (by decide) (List.mem_of_getElem? (i := 7) rfl) rfl dX6_isSame_71 rfl ?_
  refine g_iast (ws' := ((q, .inl (cI, 11, .inl (ctV S T nw nr nf 9))) :: (r9, .inl (cI, 3, .inl (a3 (allS S) (clnS S) (cldS S nr)))) :: (ma, .inr (6, [.int (nI (S 0)), .int (nI (S 1)), .int (nI (S 2)), .int (nI (S 3)), .ref so, .ref wo, .ref ro, .ref fx])) :: (so, .inl (cJ, 12, refs (orf 12 sc))) :: (wo, .inl (cJ, nw, refs (orf nw wa))) :: (ro, .inl (cJ, nr, refs (orf nr ra))) :: (fx, .inl (cJ, nf, refs (orf nf fa))) :: sR cI sc wa ra fa nw nr nf S T st fe fo (gW ad cI cZ S T st fe fo nw nr nf))) X 0 0 (8) (ctV S T nw nr nf 9) 75 rfl rfl (by decide) (by decide) (ctV_s (k := 8) rfl) dX6_isSame_74 rfl rfl ?_
  refine g_dup X 76 dX6_isSame_75 rfl rfl ?_
  refine g_bipush X (nI 9) 78 dX6_isSame_76 rfl (by decide +kernel) ?_
  refine g_aload_n X 1 79 dX6_isSame_78 rfl rfl rfl ?_
  refine g_get X hiX6 2 3 82 rfl rfl (by decide) (List.mem_of_getElem? (i := 8) rfl) rfl dX6_isSame_79 rfl ?_
  refine g_iast (ws' := ((q, .inl (cI, 11, .inl (ctV S T nw nr nf 10))) :: (r9, .inl (cI, 3, .inl (a3 (allS S) (clnS S) (cldS S nr)))) :: (ma, .inr (6, [.int (nI (S 0)), .int (nI (S 1)), .int (nI (S 2)), .int (nI (S 3)), .ref so, .ref wo, .ref ro, .ref fx])) :: (so, .inl (cJ, 12, refs (orf 12 sc))) :: (wo, .inl (cJ, nw, refs (orf nw wa))) :: (ro, .inl (cJ, nr, refs (orf nr ra))) :: (fx, .inl (cJ, nf, refs (orf nf fa))) :: sR cI sc wa ra fa nw nr nf S T st fe fo (gW ad cI cZ S T st fe fo nw nr nf))) X 0 0 (9) (ctV S T nw nr nf 10) 83 rfl rfl (by decide) (by decide) (ctV_s (k := 9) rfl) dX6_isSame_82 rfl rfl ?_
  refine g_dup X 84 dX6_isSame_83 rfl rfl ?_
  refine g_bipush X (nI 10) 86 dX6_isSame_84 rfl (by decide +kernel) ?_
  refine g_aload_n X 1 87 dX6_isSame_86 rfl rfl rfl ?_
  refine g_sVi X okT trivial (m_X6_bring l D cI cZ cJ ma so wo ro fx sc wa ra fa nw nr nf S T st fe fo S (gW ad cI cZ S T st fe fo nw nr nf) hw9 hnw hs.2.1) 90 8 32 [(q, .inl (cI, 11, .inl (ctV S T nw nr nf 10))), (r9, .inl (cI, 3, .inl (a3 (allS S) (clnS S) (cldS S nr))))] rfl gX6_isSame_X6_bring rfl (n := 0) (by decide +kernel) rfl ⟨Nat.le_of_ble_eq_true rfl, Nat.le_of_ble_eq_true rfl⟩ (ci := 6) 0 rfl rfl rfl (Nat.le_of_ble_eq_true rfl) dX6_isSame_87 rfl (Nat.le_of_ble_eq_true rfl) (Nat.le_of_ble_eq_true rfl) ⟨(Nat.le_of_ble_eq_true rfl), (Nat.le_of_ble_eq_true rfl)⟩ (fun r9 u9 h9 => ?_)
  obtain ⟨rfl, rfl⟩ := h9
  refine g_eqw (ws' := ((q, .inl (cI, 11, .inl (ctV S T nw nr nf 10))) :: (r9, .inl (cI, 3, .inl (a3 (allS S) (clnS S) (cldS S nr)))) :: (ma, .inr (6, [.int (nI (S 0)), .int (nI (S 1)), .int (nI (S 2)), .int (nI (S 3)), .ref so, .ref wo, .ref ro, .ref fx])) :: (so, .inl (cJ, 12, refs (orf 12 sc))) :: (wo, .inl (cJ, nw, refs (orf nw wa))) :: (ro, .inl (cJ, nr, refs (orf nr ra))) :: (fx, .inl (cJ, nf, refs (orf nf fa))) :: sR cI sc wa ra fa nw nr nf S T st fe fo (gW ad cI cZ S T st fe fo nw nr nf))) rfl ?_
  refine g_iast (ws' := ((q, .inl (cI, 11, .inl (ctV S T nw nr nf 11))) :: (r9, .inl (cI, 3, .inl (a3 (allS S) (clnS S) (cldS S nr)))) :: (ma, .inr (6, [.int (nI (S 0)), .int (nI (S 1)), .int (nI (S 2)), .int (nI (S 3)), .ref so, .ref wo, .ref ro, .ref fx])) :: (so, .inl (cJ, 12, refs (orf 12 sc))) :: (wo, .inl (cJ, nw, refs (orf nw wa))) :: (ro, .inl (cJ, nr, refs (orf nr ra))) :: (fx, .inl (cJ, nf, refs (orf nf fa))) :: sR cI sc wa ra fa nw nr nf S T st fe fo (gW ad cI cZ S T st fe fo nw nr nf))) X 0 0 (10) (ctV S T nw nr nf 11) 91 rfl rfl (by decide) (by decide) (ctV_s (k := 10) rfl) dX6_isSame_90 rfl rfl ?_
  refine g_astore_n X [(3, .ref q), (2, .ref r9), (0, .ref ma), (1, .ref (ad 0))] 92 dX6_isSame_91 rfl rfl (by decide) rfl ?_
  refine g_iconst X (nI 0) 93 dX6_isSame_92 rfl (by decide +kernel) ?_
  refine g_istore X [(4, .int (nI 0)), (3, .ref q), (2, .ref r9), (0, .ref ma), (1, .ref (ad 0))] 95 dX6_isSame_93 rfl (by decide) rfl ?_
  have L : ∀ j : Nat, j ≤ 11 → G p l e rm_X6_isSame s m args below meth c Q D A 7 (j * 1 + 8) (j * 6 + 32) ((q, .inl (cI, 11, .inl (ctV S T nw nr nf 11))) :: (r9, .inl (cI, 3, .inl (a3 (allS S) (clnS S) (cldS S nr)))) :: (ma, .inr (6, [.int (nI (S 0)), .int (nI (S 1)), .int (nI (S 2)), .int (nI (S 3)), .ref so, .ref wo, .ref ro, .ref fx])) :: (so, .inl (cJ, 12, refs (orf 12 sc))) :: (wo, .inl (cJ, nw, refs (orf nw wa))) :: (ro, .inl (cJ, nr, refs (orf nr ra))) :: (fx, .inl (cJ, nf, refs (orf nf fa))) :: sR cI sc wa ra fa nw nr nf S T st fe fo (gW ad cI cZ S T st fe fo nw nr nf)) [(4, .int (nI j)), (3, .ref q), (2, .ref r9), (0, .ref ma), (1, .ref (ad 0))] 95 [] := by
    refine g_down _ ?_ ?_
    · refine g_iload X 0 97 dX6_isSame_95 rfl rfl ?_
      refine g_bipush X (nI 11) 99 dX6_isSame_97 rfl (by decide +kernel) ?_
      refine g_icmp_ge X 102 123 dX6_isSame_99 rfl (by decide) (nI_leI (by omega) (by omega)) (fun h99 => ?_) (fun h99 => absurd (Nat.le_refl _) h99)
      refine g_w (kc' := 19) (ks' := 98) (by omega) (by omega) ?_
      refine g_iconst X (nI 0) 124 dX6_isSame_123 rfl (by decide +kernel) ?_
      refine g_istore X [(4, .int (nI 0)), (3, .ref q), (2, .ref r9), (0, .ref ma), (1, .ref (ad 0))] 126 dX6_isSame_124 rfl (by decide) rfl ?_
      have LX : ∀ i : Nat, i ≤ 12 → G p l e rm_X6_isSame s m args below meth c Q D A 7 (i * 8 + 19) (i * 48 + 98) ((q, .inl (cI, 11, .inl (ctV S T nw nr nf 11))) :: (r9, .inl (cI, 3, .inl (a3 (allS S) (clnS S) (cldS S nr)))) :: (ma, .inr (6, [.int (nI (S 0)), .int (nI (S 1)), .int (nI (S 2)), .int (nI (S 3)), .ref so, .ref wo, .ref ro, .ref fx])) :: (so, .inl (cJ, 12, refs (orf 12 sc))) :: (wo, .inl (cJ, nw, refs (orf nw wa))) :: (ro, .inl (cJ, nr, refs (orf nr ra))) :: (fx, .inl (cJ, nf, refs (orf nf fa))) :: sR cI sc wa ra fa nw nr nf S T st fe fo (gW ad cI cZ S T st fe fo nw nr nf)) [(4, .int (nI i)), (3, .ref q), (2, .ref r9), (0, .ref ma), (1, .ref (ad 0))] 126 [] := by
        refine g_down _ ?_ ?_
        · refine g_iload X 0 128 dX6_isSame_126 rfl rfl ?_
          refine g_bipush X (nI 12) 130 dX6_isSame_128 rfl (by decide +kernel) ?_
          refine g_icmp_ge X 133 178 dX6_isSame_130 rfl (by decide) (nI_leI (by omega) (by omega)) (fun h130 => ?_) (fun h130 => absurd (Nat.le_refl _) h130)
          refine g_w (kc' := 115) (ks' := 674) (by omega) (by omega) ?_
          refine g_iconst X (nI 0) 179 dX6_isSame_178 rfl (by decide +kernel) ?_
          refine g_istore X [(4, .int (nI 0)), (3, .ref q), (2, .ref r9), (0, .ref ma), (1, .ref (ad 0))] 181 dX6_isSame_179 rfl (by decide) rfl ?_
          have LW : ∀ w : Nat, w ≤ nw → G p l e rm_X6_isSame s m args below meth c Q D A 7 (w * 9 + 115) (w * 51 + 674) ((q, .inl (cI, 11, .inl (ctV S T nw nr nf 11))) :: (r9, .inl (cI, 3, .inl (a3 (allS S) (clnS S) (cldS S nr)))) :: (ma, .inr (6, [.int (nI (S 0)), .int (nI (S 1)), .int (nI (S 2)), .int (nI (S 3)), .ref so, .ref wo, .ref ro, .ref fx])) :: (so, .inl (cJ, 12, refs (orf 12 sc))) :: (wo, .inl (cJ, nw, refs (orf nw wa))) :: (ro, .inl (cJ, nr, refs (orf nr ra))) :: (fx, .inl (cJ, nf, refs (orf nf fa))) :: sR cI sc wa ra fa nw nr nf S T st fe fo (gW ad cI cZ S T st fe fo nw nr nf)) [(4, .int (nI w)), (3, .ref q), (2, .ref r9), (0, .ref ma), (1, .ref (ad 0))] 181 [] := by
            refine g_down _ ?_ ?_
            · refine g_iload X 0 183 dX6_isSame_181 rfl rfl ?_
              refine g_aload_n X 3 184 dX6_isSame_183 rfl rfl rfl ?_
              refine g_get X hiX6 2 5 187 rfl rfl (by decide) (List.mem_of_getElem? (i := 3) rfl) rfl dX6_isSame_184 rfl ?_
              refine g_alen X 4 2 188 rfl rfl dX6_isSame_187 rfl ?_
              refine g_icmp_ge X 191 265 dX6_isSame_188 rfl (by decide) (nI_leI (by omega) (by omega)) (fun h188 => ?_) (fun h188 => absurd (Nat.le_refl _) h188)
              refine g_w (kc' := 169) (ks' := 980) (by omega) (by omega) ?_
              refine g_iconst X (nI 0) 266 dX6_isSame_265 rfl (by decide +kernel) ?_
              refine g_istore X [(4, .int (nI 0)), (3, .ref q), (2, .ref r9), (0, .ref ma), (1, .ref (ad 0))] 268 dX6_isSame_266 rfl (by decide) rfl ?_
              have LR : ∀ r : Nat, r ≤ nr → G p l e rm_X6_isSame s m args below meth c Q D A 7 (r * 6 + 169) (r * 36 + 980) ((q, .inl (cI, 11, .inl (ctV S T nw nr nf 11))) :: (r9, .inl (cI, 3, .inl (a3 (allS S) (clnS S) (cldS S nr)))) :: (ma, .inr (6, [.int (nI (S 0)), .int (nI (S 1)), .int (nI (S 2)), .int (nI (S 3)), .ref so, .ref wo, .ref ro, .ref fx])) :: (so, .inl (cJ, 12, refs (orf 12 sc))) :: (wo, .inl (cJ, nw, refs (orf nw wa))) :: (ro, .inl (cJ, nr, refs (orf nr ra))) :: (fx, .inl (cJ, nf, refs (orf nf fa))) :: sR cI sc wa ra fa nw nr nf S T st fe fo (gW ad cI cZ S T st fe fo nw nr nf)) [(4, .int (nI r)), (3, .ref q), (2, .ref r9), (0, .ref ma), (1, .ref (ad 0))] 268 [] := by
                refine g_down _ ?_ ?_
                · refine g_iload X 0 270 dX6_isSame_268 rfl rfl ?_
                  refine g_aload_n X 3 271 dX6_isSame_270 rfl rfl rfl ?_
                  refine g_get X hiX6 2 6 274 rfl rfl (by decide) (List.mem_of_getElem? (i := 4) rfl) rfl dX6_isSame_271 rfl ?_
                  refine g_alen X 5 2 275 rfl rfl dX6_isSame_274 rfl ?_
                  refine g_icmp_ge X 278 323 dX6_isSame_275 rfl (by decide) (nI_leI (by omega) (by omega)) (fun h275 => ?_) (fun h275 => absurd (Nat.le_refl _) h275)
                  refine g_w (kc' := 205) (ks' := 1196) (by omega) (by omega) ?_
                  refine g_aload_n X 4 324 dX6_isSame_323 rfl rfl rfl ?_
                  refine g_cwds X hF (cw_mean l D cI cZ cJ ad S T st fe fo nw nr nf) 327 205 1196 [(q, .inl (cI, 11, .inl (ctV S T nw nr nf 11))), (r9, .inl (cI, 3, .inl (a3 (allS S) (clnS S) (cldS S nr)))), (ma, .inr (6, [.int (nI (S 0)), .int (nI (S 1)), .int (nI (S 2)), .int (nI (S 3)), .ref so, .ref wo, .ref ro, .ref fx])), (so, .inl (cJ, 12, refs (orf 12 sc))), (wo, .inl (cJ, nw, refs (orf nw wa))), (ro, .inl (cJ, nr, refs (orf nr ra))), (fx, .inl (cJ, nf, refs (orf nf fa)))] rfl gX6_isSame_X5_mean rfl (n := 0) (by decide +kernel) rfl ⟨Nat.le_of_ble_eq_true rfl, Nat.le_of_ble_eq_true rfl⟩ rfl rfl (Nat.le_of_ble_eq_true rfl) dX6_isSame_324 rfl (Nat.le_of_ble_eq_true rfl) (Nat.le_of_ble_eq_true rfl) ⟨(Nat.le_of_ble_eq_true rfl), (Nat.le_of_ble_eq_true rfl)⟩ ?_
                  refine g_aload_n X 2 328 dX6_isSame_327 rfl rfl rfl ?_
                  refine g_iconst X (nI 0) 329 dX6_isSame_328 rfl (by decide +kernel) ?_
                  refine g_iald X 1 0 (0) (nI (allS S)) 330 rfl rfl (by omega) (by decide) rfl dX6_isSame_329 rfl ?_
                  refine g_i2d X 331 dX6_isSame_330 rfl ?_
                  refine g_ldc2d X 4636455816377925632 334 (List.mem_of_getElem? (i := 10) rfl) dX6_isSame_331 rfl ?_
                  refine g_ddiv X 335 dX6_isSame_334 rfl (mean_n _) ?_
                  refine g_dcmp X 336 dX6_isSame_335 rfl ?_
                  refine g_eqi (y := nI 0) (mean_c _ _) ?_
                  refine g_if_ne X 339 374 dX6_isSame_336 rfl (by decide) (nz_eq (by decide)) (fun h9 => absurd rfl h9) (fun _ => ?_)
                  refine g_aload_n X 4 340 dX6_isSame_339 rfl rfl rfl ?_
                  refine g_cwns X hF (cw_next l D cI cZ cJ ad S T st fe fo nw nr nf hs.2.2.2.1 ho30 (by omega)) 343 205 1196 [(q, .inl (cI, 11, .inl (ctV S T nw nr nf 11))), (r9, .inl (cI, 3, .inl (a3 (allS S) (clnS S) (cldS S nr)))), (ma, .inr (6, [.int (nI (S 0)), .int (nI (S 1)), .int (nI (S 2)), .int (nI (S 3)), .ref so, .ref wo, .ref ro, .ref fx])), (so, .inl (cJ, 12, refs (orf 12 sc))), (wo, .inl (cJ, nw, refs (orf nw wa))), (ro, .inl (cJ, nr, refs (orf nr ra))), (fx, .inl (cJ, nf, refs (orf nf fa)))] rfl gX6_isSame_X5_next rfl (n := 0) (by decide +kernel) rfl ⟨Nat.le_of_ble_eq_true rfl, Nat.le_of_ble_eq_true rfl⟩ rfl rfl (Nat.le_of_ble_eq_true rfl) dX6_isSame_340 rfl (Nat.le_of_ble_eq_true rfl) (Nat.le_of_ble_eq_true rfl) ⟨(Nat.le_of_ble_eq_true rfl), (Nat.le_of_ble_eq_true rfl)⟩ ?_
                  refine g_aload_n X 3 344 dX6_isSame_343 rfl rfl rfl ?_
                  refine g_sVi X okT trivial (m_X6_next l D cI cZ cJ ma so wo ro fx sc wa ra fa nw nr nf S T st fe fo S (gW ad cI cZ S T st fe fo nw nr nf) hs.2.2.2.1 ho (by omega)) 347 205 1196 [(q, .inl (cI, 11, .inl (ctV S T nw nr nf 11))), (r9, .inl (cI, 3, .inl (a3 (allS S) (clnS S) (cldS S nr))))] rfl gX6_isSame_X6_next rfl (n := 0) (by decide +kernel) rfl ⟨Nat.le_of_ble_eq_true rfl, Nat.le_of_ble_eq_true rfl⟩ (ci := 6) 0 rfl rfl rfl (Nat.le_of_ble_eq_true rfl) dX6_isSame_344 rfl (Nat.le_of_ble_eq_true rfl) (Nat.le_of_ble_eq_true rfl) ⟨(Nat.le_of_ble_eq_true rfl), (Nat.le_of_ble_eq_true rfl)⟩ (fun r9 u9 h9 => ?_)
                  obtain ⟨rfl, rfl⟩ := h9
                  refine g_eqw (ws' := ((q, .inl (cI, 11, .inl (ctV S T nw nr nf 11))) :: (r9, .inl (cI, 3, .inl (a3 (allS S) (clnS S) (cldS S nr)))) :: (ma, .inr (6, [.int (nI (S 0)), .int (nI (S 1)), .int (nI (S 2)), .int (nI (S 3)), .ref so, .ref wo, .ref ro, .ref fx])) :: (so, .inl (cJ, 12, refs (orf 12 sc))) :: (wo, .inl (cJ, nw, refs (orf nw wa))) :: (ro, .inl (cJ, nr, refs (orf nr ra))) :: (fx, .inl (cJ, nf, refs (orf nf fa))) :: sR cI sc wa ra fa nw nr nf S T st fe fo (gW ad cI cZ S T st fe fo nw nr nf))) rfl ?_
                  refine g_icmp_ne X 350 374 dX6_isSame_347 rfl (by decide) Iff.rfl (fun h9 => absurd rfl h9) (fun _ => ?_)
                  refine g_aload_n X 4 351 dX6_isSame_350 rfl rfl rfl ?_
                  refine g_bipush X (nI 7) 353 dX6_isSame_351 rfl (by decide +kernel) ?_
                  refine g_cws (ws' := ((q, .inl (cI, 11, .inl (ctV S T nw nr nf 11))) :: (r9, .inl (cI, 3, .inl (a3 (allS S) (clnS S) (cldS S nr)))) :: (ma, .inr (6, [.int (nI (S 0)), .int (nI (S 1)), .int (nI (S 2)), .int (nI (S 3)), .ref so, .ref wo, .ref ro, .ref fx])) :: (so, .inl (cJ, 12, refs (orf 12 sc))) :: (wo, .inl (cJ, nw, refs (orf nw wa))) :: (ro, .inl (cJ, nr, refs (orf nr ra))) :: (fx, .inl (cJ, nf, refs (orf nf fa))) :: sR cI sc wa ra fa nw nr nf S T st fe fo (gW ad cI cZ S T st fe fo nw nr nf))) X hF (cw_isFeast l hfl D cI cZ cJ ad S T st fe fo nw nr nf 7 hs.2.2.2.1 ho30 (by omega) (by decide)) 356 206 1202 [(q, .inl (cI, 11, .inl (ctV S T nw nr nf 11))), (r9, .inl (cI, 3, .inl (a3 (allS S) (clnS S) (cldS S nr)))), (ma, .inr (6, [.int (nI (S 0)), .int (nI (S 1)), .int (nI (S 2)), .int (nI (S 3)), .ref so, .ref wo, .ref ro, .ref fx])), (so, .inl (cJ, 12, refs (orf 12 sc))), (wo, .inl (cJ, nw, refs (orf nw wa))), (ro, .inl (cJ, nr, refs (orf nr ra))), (fx, .inl (cJ, nf, refs (orf nf fa)))] rfl gX6_isSame_X5_isFeast rfl (n := 1) (by decide +kernel) rfl ⟨Nat.le_of_ble_eq_true rfl, Nat.le_of_ble_eq_true rfl⟩ rfl rfl (Nat.le_of_ble_eq_true rfl) dX6_isSame_353 rfl (Nat.le_of_ble_eq_true rfl) (Nat.le_of_ble_eq_true rfl) ⟨(Nat.le_of_ble_eq_true rfl), (Nat.le_of_ble_eq_true rfl)⟩ rfl ?_
                  refine g_aload_n X 3 357 dX6_isSame_356 rfl rfl rfl ?_
                  refine g_aload_n X 3 358 dX6_isSame_357 rfl rfl rfl ?_
                  refine g_get X hiX6 2 0 361 rfl rfl (by decide) (List.mem_of_getElem? (i := 2) rfl) rfl dX6_isSame_358 rfl ?_
                  refine g_bipush X (nI 7) 363 dX6_isSame_361 rfl (by decide +kernel) ?_
                  refine g_iadd X (nI ((S 0) + 7)) 364 dX6_isSame_363 rfl (nI_add _ _) ?_
                  refine g_sVi X okT trivial (m_X6_isFeast l D cI cZ cJ ma so wo ro fx sc wa ra fa nw nr nf S T st fe fo S (gW ad cI cZ S T st fe fo nw nr nf) (S 0 + 7) hs.2.2.2.1 ho (by omega)) 367 206 1202 [(q, .inl (cI, 11, .inl (ctV S T nw nr nf 11))), (r9, .inl (cI, 3, .inl (a3 (allS S) (clnS S) (cldS S nr))))] rfl gX6_isSame_X6_isFeast rfl (n := 1) (by decide +kernel) rfl ⟨Nat.le_of_ble_eq_true rfl, Nat.le_of_ble_eq_true rfl⟩ (ci := 6) 0 rfl rfl rfl (Nat.le_of_ble_eq_true rfl) dX6_isSame_364 rfl (Nat.le_of_ble_eq_true rfl) (Nat.le_of_ble_eq_true rfl) ⟨(Nat.le_of_ble_eq_true rfl), (Nat.le_of_ble_eq_true rfl)⟩ (fun r9 u9 h9 => ?_)
                  obtain ⟨rfl, rfl⟩ := h9
                  refine g_eqw (ws' := ((q, .inl (cI, 11, .inl (ctV S T nw nr nf 11))) :: (r9, .inl (cI, 3, .inl (a3 (allS S) (clnS S) (cldS S nr)))) :: (ma, .inr (6, [.int (nI (S 0)), .int (nI (S 1)), .int (nI (S 2)), .int (nI (S 3)), .ref so, .ref wo, .ref ro, .ref fx])) :: (so, .inl (cJ, 12, refs (orf 12 sc))) :: (wo, .inl (cJ, nw, refs (orf nw wa))) :: (ro, .inl (cJ, nr, refs (orf nr ra))) :: (fx, .inl (cJ, nf, refs (orf nf fa))) :: sR cI sc wa ra fa nw nr nf S T st fe fo (gW ad cI cZ S T st fe fo nw nr nf))) rfl ?_
                  refine g_icmp_ne X 370 374 dX6_isSame_367 rfl (by decide) Iff.rfl (fun h9 => absurd rfl h9) (fun _ => ?_)
                  refine g_iconst X (nI 1) 371 dX6_isSame_370 rfl (by decide +kernel) ?_
                  refine g_goto X 375 dX6_isSame_371 (by decide) ?_
                  refine g_perm (ws' := ((r9, .inl (cI, 3, .inl (a3 (allS S) (clnS S) (cldS S nr)))) :: (ma, .inr (6, [.int (nI (S 0)), .int (nI (S 1)), .int (nI (S 2)), .int (nI (S 3)), .ref so, .ref wo, .ref ro, .ref fx])) :: (so, .inl (cJ, 12, refs (orf 12 sc))) :: (wo, .inl (cJ, nw, refs (orf nw wa))) :: (ro, .inl (cJ, nr, refs (orf nr ra))) :: (fx, .inl (cJ, nf, refs (orf nf fa))) :: sR cI sc wa ra fa nw nr nf S T st fe fo (gW ad cI cZ S T st fe fo nw nr nf))) [(q, .inl (cI, 11, .inl (ctV S T nw nr nf 11)))] (perm_ct (fun _ _ => by simp only [List.count_append, List.count_cons, List.count_nil]; omega)) ?_
                  refine g_perm (ws' := ((ma, .inr (6, [.int (nI (S 0)), .int (nI (S 1)), .int (nI (S 2)), .int (nI (S 3)), .ref so, .ref wo, .ref ro, .ref fx])) :: (so, .inl (cJ, 12, refs (orf 12 sc))) :: (wo, .inl (cJ, nw, refs (orf nw wa))) :: (ro, .inl (cJ, nr, refs (orf nr ra))) :: (fx, .inl (cJ, nf, refs (orf nf fa))) :: sR cI sc wa ra fa nw nr nf S T st fe fo (gW ad cI cZ S T st fe fo nw nr nf))) [(r9, .inl (cI, 3, .inl (a3 (allS S) (clnS S) (cldS S nr))))] (perm_ct (fun _ _ => by simp only [List.count_append, List.count_cons, List.count_nil]; omega)) ?_
                  refine g_w (kc' := rm_X6_isSame.cells) (ks' := rm_X6_isSame.slots) (by have h9 : rm_X6_isSame.cells = 230 := rfl; omega) (by have h9 : rm_X6_isSame.slots = 1400 := rfl; omega) ?_
                  exact ret _ _ _ _ dX6_isSame_375 rfl ⟨rfl, rfl⟩
                · intro r hr ih_r 
                  refine g_iload X 0 270 dX6_isSame_268 rfl rfl ?_
                  refine g_aload_n X 3 271 dX6_isSame_270 rfl rfl rfl ?_
                  refine g_get X hiX6 2 6 274 rfl rfl (by decide) (List.mem_of_getElem? (i := 4) rfl) rfl dX6_isSame_271 rfl ?_
                  refine g_alen X 5 2 275 rfl rfl dX6_isSame_274 rfl ?_
                  refine g_icmp_ge X 278 323 dX6_isSame_275 rfl (by decide) (nI_leI (by omega) (by omega)) (fun h275 => absurd h275 (by omega)) (fun h275 => ?_)
                  refine g_iconst X (nI 0) 279 dX6_isSame_278 rfl (by decide +kernel) ?_
                  refine g_istore X [(5, .int (nI 0)), (4, .int (nI r)), (3, .ref q), (2, .ref r9), (0, .ref ma), (1, .ref (ad 0))] 281 dX6_isSame_279 rfl (by decide) rfl ?_
                  have MR : ∀ j : Nat, j ≤ 6 → G p l e rm_X6_isSame s m args below meth c Q D A 7 (r * 6 + j * 1 + 169) (r * 36 + j * 6 + 980) ((q, .inl (cI, 11, .inl (ctV S T nw nr nf 11))) :: (r9, .inl (cI, 3, .inl (a3 (allS S) (clnS S) (cldS S nr)))) :: (ma, .inr (6, [.int (nI (S 0)), .int (nI (S 1)), .int (nI (S 2)), .int (nI (S 3)), .ref so, .ref wo, .ref ro, .ref fx])) :: (so, .inl (cJ, 12, refs (orf 12 sc))) :: (wo, .inl (cJ, nw, refs (orf nw wa))) :: (ro, .inl (cJ, nr, refs (orf nr ra))) :: (fx, .inl (cJ, nf, refs (orf nf fa))) :: sR cI sc wa ra fa nw nr nf S T st fe fo (gW ad cI cZ S T st fe fo nw nr nf)) [(5, .int (nI j)), (4, .int (nI r)), (3, .ref q), (2, .ref r9), (0, .ref ma), (1, .ref (ad 0))] 281 [] := by
                    refine g_down _ ?_ ?_
                    · refine g_iload X 0 283 dX6_isSame_281 rfl rfl ?_
                      refine g_bipush X (nI 6) 285 dX6_isSame_283 rfl (by decide +kernel) ?_
                      refine g_icmp_ge X 288 317 dX6_isSame_285 rfl (by decide) (nI_leI (by omega) (by omega)) (fun h285 => ?_) (fun h285 => absurd (Nat.le_refl _) h285)
                      refine g_iinc X 1 (nI (r + 1)) [(4, .int (nI (r + 1))), (5, .int (nI 6)), (3, .ref q), (2, .ref r9), (0, .ref ma), (1, .ref (ad 0))] 320 dX6_isSame_317 rfl rfl (nI_inc _) (by decide) rfl ?_
                      refine g_goto X 268 dX6_isSame_320 (by decide) ?_
                      refine g_lv (lv' := [(4, .int (nI (r + 1))), (3, .ref q), (2, .ref r9), (0, .ref ma), (1, .ref (ad 0))]) [0, 2, 3, 4, 5] rfl ?_
                      refine g_w (kc' := ((r + 1) * 6 + 169)) (ks' := ((r + 1) * 36 + 980)) (by omega) (by omega) ?_
                      exact ih_r
                    · intro j hj ih_j 
                      refine g_iload X 0 283 dX6_isSame_281 rfl rfl ?_
                      refine g_bipush X (nI 6) 285 dX6_isSame_283 rfl (by decide +kernel) ?_
                      refine g_icmp_ge X 288 317 dX6_isSame_285 rfl (by decide) (nI_leI (by omega) (by omega)) (fun h285 => absurd h285 (by omega)) (fun h285 => ?_)
                      refine g_aload_n X 5 289 dX6_isSame_288 rfl rfl rfl ?_
                      refine g_iload X 1 291 dX6_isSame_289 rfl rfl ?_
                      refine g_iload X 0 293 dX6_isSame_291 rfl rfl ?_
                      refine g_cws (ws' := ((q, .inl (cI, 11, .inl (ctV S T nw nr nf 11))) :: (r9, .inl (cI, 3, .inl (a3 (allS S) (clnS S) (cldS S nr)))) :: (ma, .inr (6, [.int (nI (S 0)), .int (nI (S 1)), .int (nI (S 2)), .int (nI (S 3)), .ref so, .ref wo, .ref ro, .ref fx])) :: (so, .inl (cJ, 12, refs (orf 12 sc))) :: (wo, .inl (cJ, nw, refs (orf nw wa))) :: (ro, .inl (cJ, nr, refs (orf nr ra))) :: (fx, .inl (cJ, nf, refs (orf nf fa))) :: sR cI sc wa ra fa nw nr nf S T st fe fo (gW ad cI cZ S T st fe fo nw nr nf))) X hF (cw_told l hfl D cI cZ cJ ad S T st fe fo nw nr nf r j hg.1 hr hj) 296 (r * 6 + j * 1 + 170) (r * 36 + j * 6 + 986) [(q, .inl (cI, 11, .inl (ctV S T nw nr nf 11))), (r9, .inl (cI, 3, .inl (a3 (allS S) (clnS S) (cldS S nr)))), (ma, .inr (6, [.int (nI (S 0)), .int (nI (S 1)), .int (nI (S 2)), .int (nI (S 3)), .ref so, .ref wo, .ref ro, .ref fx])), (so, .inl (cJ, 12, refs (orf 12 sc))), (wo, .inl (cJ, nw, refs (orf nw wa))), (ro, .inl (cJ, nr, refs (orf nr ra))), (fx, .inl (cJ, nf, refs (orf nf fa)))] rfl gX6_isSame_X5_told rfl (n := 2) (by decide +kernel) rfl ⟨Nat.le_of_ble_eq_true rfl, Nat.le_of_ble_eq_true rfl⟩ rfl rfl (Nat.le_of_ble_eq_true rfl) dX6_isSame_293 rfl (by have h9 : rm_X5_told.cells = 1 := rfl; omega) (by have h9 : rm_X5_told.slots = 6 := rfl; omega) ⟨(by have h9 : rm_X6_isSame.cells = 230 := rfl; omega), (by have h9 : rm_X6_isSame.slots = 1400 := rfl; omega)⟩ rfl ?_
                      refine g_aload_n X 4 297 dX6_isSame_296 rfl rfl rfl ?_
                      refine g_get X hiX6 2 6 300 rfl rfl (by decide) (List.mem_of_getElem? (i := 4) rfl) rfl dX6_isSame_297 rfl ?_
                      refine g_iload X 1 302 dX6_isSame_300 rfl rfl ?_
                      refine g_aald X 5 2 (r) (ra r) 303 rfl rfl (by omega) (by omega) (orf_at (by omega)) dX6_isSame_302 rfl ?_
                      refine g_iload X 0 305 dX6_isSame_303 rfl rfl ?_
                      refine g_ialdT X 7 (12 + (nw + r)) 0 (sR cI sc wa ra fa nw nr nf S T st fe fo (gW ad cI cZ S T st fe fo nw nr nf)) (j) (nI (tld S st r j)) 306 rfl (sR_r (by omega)) rfl (by omega) (by decide) (vrp_at (by omega)) dX6_isSame_305 rfl ?_
                      refine g_icmp_eq X 309 311 dX6_isSame_306 rfl (by decide) Iff.rfl (fun _ => ?_) (fun h9 => absurd rfl h9)
                      refine g_iinc X 0 (nI (j + 1)) [(5, .int (nI (j + 1))), (4, .int (nI r)), (3, .ref q), (2, .ref r9), (0, .ref ma), (1, .ref (ad 0))] 314 dX6_isSame_311 rfl rfl (nI_inc _) (by decide) rfl ?_
                      refine g_goto X 281 dX6_isSame_314 (by decide) ?_
                      refine g_w (kc' := (r * 6 + (j + 1) * 1 + 169)) (ks' := (r * 36 + (j + 1) * 6 + 980)) (by omega) (by omega) ?_
                      exact ih_j
                  have M0 := MR 0 (Nat.zero_le _)
                  rw [show r * 6 + 0 * 1 + 169 = r * 6 + 169 by omega, show r * 36 + 0 * 6 + 980 = r * 36 + 980 by omega] at M0
                  exact M0
              exact LR 0 (Nat.zero_le _)
            · intro w hw ih_w 
              refine g_iload X 0 183 dX6_isSame_181 rfl rfl ?_
              refine g_aload_n X 3 184 dX6_isSame_183 rfl rfl rfl ?_
              refine g_get X hiX6 2 5 187 rfl rfl (by decide) (List.mem_of_getElem? (i := 3) rfl) rfl dX6_isSame_184 rfl ?_
              refine g_alen X 4 2 188 rfl rfl dX6_isSame_187 rfl ?_
              refine g_icmp_ge X 191 265 dX6_isSame_188 rfl (by decide) (nI_leI (by omega) (by omega)) (fun h188 => absurd h188 (by omega)) (fun h188 => ?_)
              refine g_aload_n X 3 192 dX6_isSame_191 rfl rfl rfl ?_
              refine g_aload_n X 3 193 dX6_isSame_192 rfl rfl rfl ?_
              refine g_get X hiX6 2 5 196 rfl rfl (by decide) (List.mem_of_getElem? (i := 3) rfl) rfl dX6_isSame_193 rfl ?_
              refine g_iload X 0 198 dX6_isSame_196 rfl rfl ?_
              refine g_aald X 4 2 (w) (wa w) 199 rfl rfl (by omega) (by omega) (orf_at (by omega)) dX6_isSame_198 rfl ?_
              refine g_sVr X okT trivial (m_X6_of l D cI cZ cJ ma so wo ro fx sc wa ra fa nw nr nf S T st fe fo S (gW ad cI cZ S T st fe fo nw nr nf) w hw9 (hs.2.1 w hw) hw hnw) 202 (w * 9 + 116) (w * 51 + 677) [(q, .inl (cI, 11, .inl (ctV S T nw nr nf 11))), (r9, .inl (cI, 3, .inl (a3 (allS S) (clnS S) (cldS S nr))))] rfl gX6_isSame_X6_of rfl (n := 1) (by decide +kernel) rfl ⟨Nat.le_of_ble_eq_true rfl, Nat.le_of_ble_eq_true rfl⟩ (ci := 6) 0 rfl rfl rfl (Nat.le_of_ble_eq_true rfl) dX6_isSame_199 rfl (by have h9 : rm_X6_of.cells = 1 := rfl; omega) (by have h9 : rm_X6_of.slots = 3 := rfl; omega) ⟨(by have h9 : rm_X6_isSame.cells = 230 := rfl; omega), (by have h9 : rm_X6_isSame.slots = 1400 := rfl; omega)⟩ (fun r8 u9 h9 => ?_)
              subst h9
              refine g_eqw (ws' := ((q, .inl (cI, 11, .inl (ctV S T nw nr nf 11))) :: (r9, .inl (cI, 3, .inl (a3 (allS S) (clnS S) (cldS S nr)))) :: (r8, .inl (cI, 3, .inl (a3 (addW S T w) (mxW S T w) (brW S T w)))) :: (ma, .inr (6, [.int (nI (S 0)), .int (nI (S 1)), .int (nI (S 2)), .int (nI (S 3)), .ref so, .ref wo, .ref ro, .ref fx])) :: (so, .inl (cJ, 12, refs (orf 12 sc))) :: (wo, .inl (cJ, nw, refs (orf nw wa))) :: (ro, .inl (cJ, nr, refs (orf nr ra))) :: (fx, .inl (cJ, nf, refs (orf nf fa))) :: sR cI sc wa ra fa nw nr nf S T st fe fo (gW ad cI cZ S T st fe fo nw nr nf))) rfl ?_
              refine g_astore X [(5, .ref r8), (4, .int (nI w)), (3, .ref q), (2, .ref r9), (0, .ref ma), (1, .ref (ad 0))] 204 dX6_isSame_202 rfl (by decide) rfl ?_
              refine g_iconst X (nI 0) 205 dX6_isSame_204 rfl (by decide +kernel) ?_
              refine g_istore X [(6, .int (nI 0)), (5, .ref r8), (4, .int (nI w)), (3, .ref q), (2, .ref r9), (0, .ref ma), (1, .ref (ad 0))] 207 dX6_isSame_205 rfl (by decide) rfl ?_
              have MW : ∀ j : Nat, j ≤ 8 → G p l e rm_X6_isSame s m args below meth c Q D A 7 (w * 9 + 1 + j * 1 + 115) (w * 51 + 3 + j * 6 + 674) ((q, .inl (cI, 11, .inl (ctV S T nw nr nf 11))) :: (r9, .inl (cI, 3, .inl (a3 (allS S) (clnS S) (cldS S nr)))) :: (r8, .inl (cI, 3, .inl (a3 (addW S T w) (mxW S T w) (brW S T w)))) :: (ma, .inr (6, [.int (nI (S 0)), .int (nI (S 1)), .int (nI (S 2)), .int (nI (S 3)), .ref so, .ref wo, .ref ro, .ref fx])) :: (so, .inl (cJ, 12, refs (orf 12 sc))) :: (wo, .inl (cJ, nw, refs (orf nw wa))) :: (ro, .inl (cJ, nr, refs (orf nr ra))) :: (fx, .inl (cJ, nf, refs (orf nf fa))) :: sR cI sc wa ra fa nw nr nf S T st fe fo (gW ad cI cZ S T st fe fo nw nr nf)) [(6, .int (nI j)), (5, .ref r8), (4, .int (nI w)), (3, .ref q), (2, .ref r9), (0, .ref ma), (1, .ref (ad 0))] 207 [] := by
                refine g_down _ ?_ ?_
                · refine g_iload X 0 209 dX6_isSame_207 rfl rfl ?_
                  refine g_bipush X (nI 8) 211 dX6_isSame_209 rfl (by decide +kernel) ?_
                  refine g_icmp_ge X 214 259 dX6_isSame_211 rfl (by decide) (nI_leI (by omega) (by omega)) (fun h211 => ?_) (fun h211 => absurd (Nat.le_refl _) h211)
                  refine g_iinc X 2 (nI (w + 1)) [(4, .int (nI (w + 1))), (6, .int (nI 8)), (5, .ref r8), (3, .ref q), (2, .ref r9), (0, .ref ma), (1, .ref (ad 0))] 262 dX6_isSame_259 rfl rfl (nI_inc _) (by decide) rfl ?_
                  refine g_goto X 181 dX6_isSame_262 (by decide) ?_
                  refine g_perm (ws' := ((q, .inl (cI, 11, .inl (ctV S T nw nr nf 11))) :: (r9, .inl (cI, 3, .inl (a3 (allS S) (clnS S) (cldS S nr)))) :: (ma, .inr (6, [.int (nI (S 0)), .int (nI (S 1)), .int (nI (S 2)), .int (nI (S 3)), .ref so, .ref wo, .ref ro, .ref fx])) :: (so, .inl (cJ, 12, refs (orf 12 sc))) :: (wo, .inl (cJ, nw, refs (orf nw wa))) :: (ro, .inl (cJ, nr, refs (orf nr ra))) :: (fx, .inl (cJ, nf, refs (orf nf fa))) :: sR cI sc wa ra fa nw nr nf S T st fe fo (gW ad cI cZ S T st fe fo nw nr nf))) [(r8, .inl (cI, 3, .inl (a3 (addW S T w) (mxW S T w) (brW S T w))))] (perm_ct (fun _ _ => by simp only [List.count_append, List.count_cons, List.count_nil]; omega)) ?_
                  refine g_lv (lv' := [(4, .int (nI (w + 1))), (3, .ref q), (2, .ref r9), (0, .ref ma), (1, .ref (ad 0))]) [0, 3, 4, 5, 6] rfl ?_
                  refine g_w (kc' := ((w + 1) * 9 + 115)) (ks' := ((w + 1) * 51 + 674)) (by omega) (by omega) ?_
                  exact ih_w
                · intro j hj ih_j 
                  refine g_iload X 0 209 dX6_isSame_207 rfl rfl ?_
                  refine g_bipush X (nI 8) 211 dX6_isSame_209 rfl (by decide +kernel) ?_
                  refine g_icmp_ge X 214 259 dX6_isSame_211 rfl (by decide) (nI_leI (by omega) (by omega)) (fun h211 => absurd h211 (by omega)) (fun h211 => ?_)
                  refine g_aload_n X 6 215 dX6_isSame_214 rfl rfl rfl ?_
                  refine g_iload X 2 217 dX6_isSame_215 rfl rfl ?_
                  refine g_iload X 0 219 dX6_isSame_217 rfl rfl ?_
                  refine g_cws (ws' := ((q, .inl (cI, 11, .inl (ctV S T nw nr nf 11))) :: (r9, .inl (cI, 3, .inl (a3 (allS S) (clnS S) (cldS S nr)))) :: (r8, .inl (cI, 3, .inl (a3 (addW S T w) (mxW S T w) (brW S T w)))) :: (ma, .inr (6, [.int (nI (S 0)), .int (nI (S 1)), .int (nI (S 2)), .int (nI (S 3)), .ref so, .ref wo, .ref ro, .ref fx])) :: (so, .inl (cJ, 12, refs (orf 12 sc))) :: (wo, .inl (cJ, nw, refs (orf nw wa))) :: (ro, .inl (cJ, nr, refs (orf nr ra))) :: (fx, .inl (cJ, nf, refs (orf nf fa))) :: sR cI sc wa ra fa nw nr nf S T st fe fo (gW ad cI cZ S T st fe fo nw nr nf))) X hF (cw_about l hfl D cI cZ cJ ad S T st fe fo nw nr nf w j hw9 hnw hs.2.1 hw hj) 222 (w * 9 + 1 + j * 1 + 116) (w * 51 + 3 + j * 6 + 680) [(q, .inl (cI, 11, .inl (ctV S T nw nr nf 11))), (r9, .inl (cI, 3, .inl (a3 (allS S) (clnS S) (cldS S nr)))), (r8, .inl (cI, 3, .inl (a3 (addW S T w) (mxW S T w) (brW S T w)))), (ma, .inr (6, [.int (nI (S 0)), .int (nI (S 1)), .int (nI (S 2)), .int (nI (S 3)), .ref so, .ref wo, .ref ro, .ref fx])), (so, .inl (cJ, 12, refs (orf 12 sc))), (wo, .inl (cJ, nw, refs (orf nw wa))), (ro, .inl (cJ, nr, refs (orf nr ra))), (fx, .inl (cJ, nf, refs (orf nf fa)))] rfl gX6_isSame_X5_about rfl (n := 2) (by decide +kernel) rfl ⟨Nat.le_of_ble_eq_true rfl, Nat.le_of_ble_eq_true rfl⟩ rfl rfl (Nat.le_of_ble_eq_true rfl) dX6_isSame_219 rfl (by have h9 : rm_X5_about.cells = 1 := rfl; omega) (by have h9 : rm_X5_about.slots = 6 := rfl; omega) ⟨(by have h9 : rm_X6_isSame.cells = 230 := rfl; omega), (by have h9 : rm_X6_isSame.slots = 1400 := rfl; omega)⟩ rfl ?_
                  refine g_iload X 0 224 dX6_isSame_222 rfl rfl ?_
                  refine g_iconst X (nI 5) 225 dX6_isSame_224 rfl (by decide +kernel) ?_
                  refine g_icmp_ge X 228 241 dX6_isSame_225 rfl (by decide) (nI_leI (by omega) (by omega)) (fun h225 => ?_) (fun h225 => ?_)
                  · refine g_aload X 1 243 dX6_isSame_241 rfl rfl ?_
                    refine g_iload X 0 245 dX6_isSame_243 rfl rfl ?_
                    refine g_iconst X (nI 5) 246 dX6_isSame_245 rfl (by decide +kernel) ?_
                    refine g_isub X (nI (j - 5)) 247 dX6_isSame_246 rfl (pk_sub (by omega)) ?_
                    rcases (show j = 5 ∨ j = 6 ∨ j = 7 by omega) with rfl | rfl | rfl
                    · refine g_iald X 2 0 (5 - 5) (nI (addW S T w)) 248 rfl rfl (by decide) (by decide) rfl dX6_isSame_247 rfl ?_
                      refine g_icmp_eq X 251 253 dX6_isSame_248 rfl (by decide) Iff.rfl (fun _ => ?_) (fun h9 => absurd rfl h9)
                      refine g_iinc X 0 (nI (5 + 1)) [(6, .int (nI (5 + 1))), (5, .ref r8), (4, .int (nI w)), (3, .ref q), (2, .ref r9), (0, .ref ma), (1, .ref (ad 0))] 256 dX6_isSame_253 rfl rfl (nI_inc _) (by decide) rfl ?_
                      refine g_goto X 207 dX6_isSame_256 (by decide) ?_
                      refine g_w (kc' := (w * 9 + 1 + (5 + 1) * 1 + 115)) (ks' := (w * 51 + 3 + (5 + 1) * 6 + 674)) (by omega) (by omega) ?_
                      exact ih_j
                    · refine g_iald X 2 0 (6 - 5) (nI (mxW S T w)) 248 rfl rfl (by decide) (by decide) rfl dX6_isSame_247 rfl ?_
                      refine g_icmp_eq X 251 253 dX6_isSame_248 rfl (by decide) Iff.rfl (fun _ => ?_) (fun h9 => absurd rfl h9)
                      refine g_iinc X 0 (nI (6 + 1)) [(6, .int (nI (6 + 1))), (5, .ref r8), (4, .int (nI w)), (3, .ref q), (2, .ref r9), (0, .ref ma), (1, .ref (ad 0))] 256 dX6_isSame_253 rfl rfl (nI_inc _) (by decide) rfl ?_
                      refine g_goto X 207 dX6_isSame_256 (by decide) ?_
                      refine g_w (kc' := (w * 9 + 1 + (6 + 1) * 1 + 115)) (ks' := (w * 51 + 3 + (6 + 1) * 6 + 674)) (by omega) (by omega) ?_
                      exact ih_j
                    · refine g_iald X 2 0 (7 - 5) (nI (brW S T w)) 248 rfl rfl (by decide) (by decide) rfl dX6_isSame_247 rfl ?_
                      refine g_icmp_eq X 251 253 dX6_isSame_248 rfl (by decide) Iff.rfl (fun _ => ?_) (fun h9 => absurd rfl h9)
                      refine g_iinc X 0 (nI (7 + 1)) [(6, .int (nI (7 + 1))), (5, .ref r8), (4, .int (nI w)), (3, .ref q), (2, .ref r9), (0, .ref ma), (1, .ref (ad 0))] 256 dX6_isSame_253 rfl rfl (nI_inc _) (by decide) rfl ?_
                      refine g_goto X 207 dX6_isSame_256 (by decide) ?_
                      refine g_w (kc' := (w * 9 + 1 + (7 + 1) * 1 + 115)) (ks' := (w * 51 + 3 + (7 + 1) * 6 + 674)) (by omega) (by omega) ?_
                      exact ih_j
                  · refine g_aload_n X 5 229 dX6_isSame_228 rfl rfl rfl ?_
                    refine g_get X hiX6 3 5 232 rfl rfl (by decide) (List.mem_of_getElem? (i := 3) rfl) rfl dX6_isSame_229 rfl ?_
                    refine g_iload X 2 234 dX6_isSame_232 rfl rfl ?_
                    refine g_aald X 5 2 (w) (wa w) 235 rfl rfl (by omega) (by omega) (orf_at (by omega)) dX6_isSame_234 rfl ?_
                    refine g_iload X 0 237 dX6_isSame_235 rfl rfl ?_
                    refine g_ialdT X 8 (12 + w) 0 (sR cI sc wa ra fa nw nr nf S T st fe fo (gW ad cI cZ S T st fe fo nw nr nf)) (j) (nI (T (5 * w + j))) 238 rfl (sR_w (by omega)) rfl (by omega) (by decide) (vwn_at (by omega)) dX6_isSame_237 rfl ?_
                    refine g_goto X 248 dX6_isSame_238 (by decide) ?_
                    refine g_eqi (y := nI (abt S T w j)) (by unfold abt; rw [if_neg (by omega), if_neg (by omega), if_neg (by omega)]) ?_
                    refine g_icmp_eq X 251 253 dX6_isSame_248 rfl (by decide) Iff.rfl (fun _ => ?_) (fun h9 => absurd rfl h9)
                    refine g_iinc X 0 (nI (j + 1)) [(6, .int (nI (j + 1))), (5, .ref r8), (4, .int (nI w)), (3, .ref q), (2, .ref r9), (0, .ref ma), (1, .ref (ad 0))] 256 dX6_isSame_253 rfl rfl (nI_inc _) (by decide) rfl ?_
                    refine g_goto X 207 dX6_isSame_256 (by decide) ?_
                    refine g_w (kc' := (w * 9 + 1 + (j + 1) * 1 + 115)) (ks' := (w * 51 + 3 + (j + 1) * 6 + 674)) (by omega) (by omega) ?_
                    exact ih_j
              have M0 := MW 0 (Nat.zero_le _)
              rw [show w * 9 + 1 + 0 * 1 + 115 = w * 9 + 116 by omega, show w * 51 + 3 + 0 * 6 + 674 = w * 51 + 677 by omega] at M0
              exact M0
          exact LW 0 (Nat.zero_le _)
        · intro i hi ih_i 
          refine g_iload X 0 128 dX6_isSame_126 rfl rfl ?_
          refine g_bipush X (nI 12) 130 dX6_isSame_128 rfl (by decide +kernel) ?_
          refine g_icmp_ge X 133 178 dX6_isSame_130 rfl (by decide) (nI_leI (by omega) (by omega)) (fun h130 => absurd h130 (by omega)) (fun h130 => ?_)
          refine g_iconst X (nI 0) 134 dX6_isSame_133 rfl (by decide +kernel) ?_
          refine g_istore X [(5, .int (nI 0)), (4, .int (nI i)), (3, .ref q), (2, .ref r9), (0, .ref ma), (1, .ref (ad 0))] 136 dX6_isSame_134 rfl (by decide) rfl ?_
          have MX : ∀ j : Nat, j ≤ 8 → G p l e rm_X6_isSame s m args below meth c Q D A 7 (i * 8 + j * 1 + 19) (i * 48 + j * 6 + 98) ((q, .inl (cI, 11, .inl (ctV S T nw nr nf 11))) :: (r9, .inl (cI, 3, .inl (a3 (allS S) (clnS S) (cldS S nr)))) :: (ma, .inr (6, [.int (nI (S 0)), .int (nI (S 1)), .int (nI (S 2)), .int (nI (S 3)), .ref so, .ref wo, .ref ro, .ref fx])) :: (so, .inl (cJ, 12, refs (orf 12 sc))) :: (wo, .inl (cJ, nw, refs (orf nw wa))) :: (ro, .inl (cJ, nr, refs (orf nr ra))) :: (fx, .inl (cJ, nf, refs (orf nf fa))) :: sR cI sc wa ra fa nw nr nf S T st fe fo (gW ad cI cZ S T st fe fo nw nr nf)) [(5, .int (nI j)), (4, .int (nI i)), (3, .ref q), (2, .ref r9), (0, .ref ma), (1, .ref (ad 0))] 136 [] := by
            refine g_down _ ?_ ?_
            · refine g_iload X 0 138 dX6_isSame_136 rfl rfl ?_
              refine g_bipush X (nI 8) 140 dX6_isSame_138 rfl (by decide +kernel) ?_
              refine g_icmp_ge X 143 172 dX6_isSame_140 rfl (by decide) (nI_leI (by omega) (by omega)) (fun h140 => ?_) (fun h140 => absurd (Nat.le_refl _) h140)
              refine g_iinc X 1 (nI (i + 1)) [(4, .int (nI (i + 1))), (5, .int (nI 8)), (3, .ref q), (2, .ref r9), (0, .ref ma), (1, .ref (ad 0))] 175 dX6_isSame_172 rfl rfl (nI_inc _) (by decide) rfl ?_
              refine g_goto X 126 dX6_isSame_175 (by decide) ?_
              refine g_lv (lv' := [(4, .int (nI (i + 1))), (3, .ref q), (2, .ref r9), (0, .ref ma), (1, .ref (ad 0))]) [0, 2, 3, 4, 5] rfl ?_
              refine g_w (kc' := ((i + 1) * 8 + 19)) (ks' := ((i + 1) * 48 + 98)) (by omega) (by omega) ?_
              exact ih_i
            · intro j hj ih_j 
              refine g_iload X 0 138 dX6_isSame_136 rfl rfl ?_
              refine g_bipush X (nI 8) 140 dX6_isSame_138 rfl (by decide +kernel) ?_
              refine g_icmp_ge X 143 172 dX6_isSame_140 rfl (by decide) (nI_leI (by omega) (by omega)) (fun h140 => absurd h140 (by omega)) (fun h140 => ?_)
              refine g_aload_n X 5 144 dX6_isSame_143 rfl rfl rfl ?_
              refine g_iload X 1 146 dX6_isSame_144 rfl rfl ?_
              refine g_iload X 0 148 dX6_isSame_146 rfl rfl ?_
              refine g_cws (ws' := ((q, .inl (cI, 11, .inl (ctV S T nw nr nf 11))) :: (r9, .inl (cI, 3, .inl (a3 (allS S) (clnS S) (cldS S nr)))) :: (ma, .inr (6, [.int (nI (S 0)), .int (nI (S 1)), .int (nI (S 2)), .int (nI (S 3)), .ref so, .ref wo, .ref ro, .ref fx])) :: (so, .inl (cJ, 12, refs (orf 12 sc))) :: (wo, .inl (cJ, nw, refs (orf nw wa))) :: (ro, .inl (cJ, nr, refs (orf nr ra))) :: (fx, .inl (cJ, nf, refs (orf nf fa))) :: sR cI sc wa ra fa nw nr nf S T st fe fo (gW ad cI cZ S T st fe fo nw nr nf))) X hF (cw_soot l hfl D cI cZ cJ ad S T st fe fo nw nr nf i j hi hj) 151 (i * 8 + j * 1 + 20) (i * 48 + j * 6 + 104) [(q, .inl (cI, 11, .inl (ctV S T nw nr nf 11))), (r9, .inl (cI, 3, .inl (a3 (allS S) (clnS S) (cldS S nr)))), (ma, .inr (6, [.int (nI (S 0)), .int (nI (S 1)), .int (nI (S 2)), .int (nI (S 3)), .ref so, .ref wo, .ref ro, .ref fx])), (so, .inl (cJ, 12, refs (orf 12 sc))), (wo, .inl (cJ, nw, refs (orf nw wa))), (ro, .inl (cJ, nr, refs (orf nr ra))), (fx, .inl (cJ, nf, refs (orf nf fa)))] rfl gX6_isSame_X5_soot rfl (n := 2) (by decide +kernel) rfl ⟨Nat.le_of_ble_eq_true rfl, Nat.le_of_ble_eq_true rfl⟩ rfl rfl (Nat.le_of_ble_eq_true rfl) dX6_isSame_148 rfl (by have h9 : rm_X5_soot.cells = 1 := rfl; omega) (by have h9 : rm_X5_soot.slots = 6 := rfl; omega) ⟨(by have h9 : rm_X6_isSame.cells = 230 := rfl; omega), (by have h9 : rm_X6_isSame.slots = 1400 := rfl; omega)⟩ rfl ?_
              refine g_aload_n X 4 152 dX6_isSame_151 rfl rfl rfl ?_
              refine g_get X hiX6 2 4 155 rfl rfl (by decide) (List.mem_of_getElem? (i := 9) rfl) rfl dX6_isSame_152 rfl ?_
              refine g_iload X 1 157 dX6_isSame_155 rfl rfl ?_
              refine g_aald X 3 2 (i) (sc i) 158 rfl rfl (by omega) (by decide) (orf_at (by omega)) dX6_isSame_157 rfl ?_
              refine g_iload X 0 160 dX6_isSame_158 rfl rfl ?_
              refine g_ialdT X 7 i 0 (sR cI sc wa ra fa nw nr nf S T st fe fo (gW ad cI cZ S T st fe fo nw nr nf)) (j) (nI (S (4 + (i * 8 + j)))) 161 rfl (sR_c (by omega)) rfl (by omega) (by decide) (vcl_at (by omega)) dX6_isSame_160 rfl ?_
              refine g_icmp_eq X 164 166 dX6_isSame_161 rfl (by decide) Iff.rfl (fun _ => ?_) (fun h9 => absurd rfl h9)
              refine g_iinc X 0 (nI (j + 1)) [(5, .int (nI (j + 1))), (4, .int (nI i)), (3, .ref q), (2, .ref r9), (0, .ref ma), (1, .ref (ad 0))] 169 dX6_isSame_166 rfl rfl (nI_inc _) (by decide) rfl ?_
              refine g_goto X 136 dX6_isSame_169 (by decide) ?_
              refine g_w (kc' := (i * 8 + (j + 1) * 1 + 19)) (ks' := (i * 48 + (j + 1) * 6 + 98)) (by omega) (by omega) ?_
              exact ih_j
          have M0 := MX 0 (Nat.zero_le _)
          rw [show i * 8 + 0 * 1 + 19 = i * 8 + 19 by omega, show i * 48 + 0 * 6 + 98 = i * 48 + 98 by omega] at M0
          exact M0
      exact LX 0 (Nat.zero_le _)
    · intro j hj ih_j 
      refine g_iload X 0 97 dX6_isSame_95 rfl rfl ?_
      refine g_bipush X (nI 11) 99 dX6_isSame_97 rfl (by decide +kernel) ?_
      refine g_icmp_ge X 102 123 dX6_isSame_99 rfl (by decide) (nI_leI (by omega) (by omega)) (fun h99 => absurd h99 (by omega)) (fun h99 => ?_)
      refine g_aload_n X 4 103 dX6_isSame_102 rfl rfl rfl ?_
      refine g_iload X 0 105 dX6_isSame_103 rfl rfl ?_
      refine g_cws (ws' := ((q, .inl (cI, 11, .inl (ctV S T nw nr nf 11))) :: (r9, .inl (cI, 3, .inl (a3 (allS S) (clnS S) (cldS S nr)))) :: (ma, .inr (6, [.int (nI (S 0)), .int (nI (S 1)), .int (nI (S 2)), .int (nI (S 3)), .ref so, .ref wo, .ref ro, .ref fx])) :: (so, .inl (cJ, 12, refs (orf 12 sc))) :: (wo, .inl (cJ, nw, refs (orf nw wa))) :: (ro, .inl (cJ, nr, refs (orf nr ra))) :: (fx, .inl (cJ, nf, refs (orf nf fa))) :: sR cI sc wa ra fa nw nr nf S T st fe fo (gW ad cI cZ S T st fe fo nw nr nf))) X hF (cw_count l hfl D cI cZ cJ ad S T st fe fo nw nr nf j hg hs hj) 108 (j * 1 + 9) (j * 6 + 38) [(q, .inl (cI, 11, .inl (ctV S T nw nr nf 11))), (r9, .inl (cI, 3, .inl (a3 (allS S) (clnS S) (cldS S nr)))), (ma, .inr (6, [.int (nI (S 0)), .int (nI (S 1)), .int (nI (S 2)), .int (nI (S 3)), .ref so, .ref wo, .ref ro, .ref fx])), (so, .inl (cJ, 12, refs (orf 12 sc))), (wo, .inl (cJ, nw, refs (orf nw wa))), (ro, .inl (cJ, nr, refs (orf nr ra))), (fx, .inl (cJ, nf, refs (orf nf fa)))] rfl gX6_isSame_X5_count rfl (n := 1) (by decide +kernel) rfl ⟨Nat.le_of_ble_eq_true rfl, Nat.le_of_ble_eq_true rfl⟩ rfl rfl (Nat.le_of_ble_eq_true rfl) dX6_isSame_105 rfl (by have h9 : rm_X5_count.cells = 1 := rfl; omega) (by have h9 : rm_X5_count.slots = 6 := rfl; omega) ⟨(by have h9 : rm_X6_isSame.cells = 230 := rfl; omega), (by have h9 : rm_X6_isSame.slots = 1400 := rfl; omega)⟩ rfl ?_
      refine g_aload_n X 1 109 dX6_isSame_108 rfl rfl rfl ?_
      refine g_iload X 0 111 dX6_isSame_109 rfl rfl ?_
      refine g_iald X 0 0 (j) (nI (cnt S T nw nr nf j)) 112 rfl rfl (by omega) (by decide) (ctV_at (by omega)) dX6_isSame_111 rfl ?_
      refine g_icmp_eq X 115 117 dX6_isSame_112 rfl (by decide) Iff.rfl (fun _ => ?_) (fun h9 => absurd rfl h9)
      refine g_iinc X 0 (nI (j + 1)) [(4, .int (nI (j + 1))), (3, .ref q), (2, .ref r9), (0, .ref ma), (1, .ref (ad 0))] 120 dX6_isSame_117 rfl rfl (nI_inc _) (by decide) rfl ?_
      refine g_goto X 95 dX6_isSame_120 (by decide) ?_
      refine g_w (kc' := ((j + 1) * 1 + 8)) (ks' := ((j + 1) * 6 + 32)) (by omega) (by omega) ?_
      exact ih_j
  exact L 0 (Nat.zero_le _)
