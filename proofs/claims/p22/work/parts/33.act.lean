/-! WHAT A NUMBER CHOOSES, done to both -/
def fA : (Nat → Prop) → State → Prop := fun A U => gN A U ∧ va_AOA .int U
theorem ok_fA : okF fA := ⟨fun A U g mk a h => ⟨okN.1 A U g mk a h.1, ok_fAO.1 A U g mk a h.2⟩, fun A A1 s U H locs h hS hA hU hW => ⟨okN.2 A A1 s U H locs h.1 hS hA hU hW, ok_fAO.2 A A1 s U H locs h.2 hS hA hU hW⟩⟩

theorem wind_in {q : Nat} (h : q < 11) : inR (nI q - nI 5) (nIm 5) (nI 5) := by
  rcases (show q = 0 ∨ q = 1 ∨ q = 2 ∨ q = 3 ∨ q = 4 ∨ q = 5 ∨ q = 6 ∨ q = 7 ∨ q = 8 ∨ q = 9 ∨ q = 10 by omega) with rfl | rfl | rfl | rfl | rfl | rfl | rfl | rfl | rfl | rfl | rfl <;> decide +kernel

abbrev rm_L_act : Room := { frames := 7, cells := 25, slots := 78, locals := 161 }
set_option maxHeartbeats 4000000 in
set_option maxRecDepth 100000 in
/-- what a number chooses -/
theorem m_L_act (l : Launch) (D : va_G) (cI cZ cJ : ClassId) (hfl : l.stackTraces = false) (ma so wo ro fx : Nat) (sc wa ra fa : Nat → Nat) (nw nr nf b9 : Nat) (S T st fe fo ad : Nat → Nat) (x : Int32) (hI : IV S T st fe fo nw nr nf b9) (hb : b9 < 2 ^ 20) : MIF fA l yL_act wsL_act rm_L_act D (gT cI cZ cJ) ((ma, .inr (6, [.int (nI (S 0)), .int (nI (S 1)), .int (nI (S 2)), .int (nI (S 3)), .ref so, .ref wo, .ref ro, .ref fx])) :: (so, .inl (cJ, 12, refs (orf 12 sc))) :: (wo, .inl (cJ, nw, refs (orf nw wa))) :: (ro, .inl (cJ, nr, refs (orf nr ra))) :: (fx, .inl (cJ, nf, refs (orf nf fa))) :: sR cI sc wa ra fa nw nr nf S T st fe fo (gW ad cI cZ S T st fe fo nw nr nf)) [.ref (ad 0), .ref ma, .int x] (fun r u => r = nI 1 ∧ ∃ (wo ro fx : Nat) (wa ra fa : Nat → Nat) (nw nr nf : Nat) (S T st fe fo : Nat → Nat), IV S T st fe fo nw nr nf (b9 + 4) ∧ u = ((ma, .inr (6, [.int (nI (S 0)), .int (nI (S 1)), .int (nI (S 2)), .int (nI (S 3)), .ref so, .ref wo, .ref ro, .ref fx])) :: (so, .inl (cJ, 12, refs (orf 12 sc))) :: (wo, .inl (cJ, nw, refs (orf nw wa))) :: (ro, .inl (cJ, nr, refs (orf nr ra))) :: (fx, .inl (cJ, nf, refs (orf nf fa))) :: sR cI sc wa ra fa nw nr nf S T st fe fo (gW ad cI cZ S T st fe fo nw nr nf))) := by
  refine MIF_of [(0, .ref (ad 0)), (1, .ref ma), (2, .int x)] (by decide) rfl (Nat.le_of_ble_eq_true rfl) rfl ?_
  intro p e s m args below meth c A Q X hF ret
  have hiX6 : ∀ w ∈ wsX60, w ∈ wsL_act := (fun _ h => List.mem_cons_of_mem _ (List.mem_append_left _ (List.mem_append_left _ (List.mem_append_left _ (List.mem_append_left _ (List.mem_append_left _ (List.mem_append_left _ (List.mem_append_left _ (List.mem_append_left _ (List.mem_append_left _ (List.mem_append_right _ h)))))))))))
  obtain ⟨hg, hs, ho, hz, hdc, hd0⟩ := id hI
  have hn : nr ≤ 6 := hg.1.1
  have hnw : nw ≤ 6 := hs.1
  have hnf : nf ≤ 4 := hs.2.2.2.1.1
  have hw9 := hg.1.2.1
  refine g_iload_n X 2 1 dL_act_0 rfl rfl rfl ?_
  refine g_iconst X (nI 1) 2 dL_act_1 rfl (by decide +kernel) ?_
  refine g_ishr X 3 dL_act_2 rfl ?_
  refine g_bipush X (nI 12) 5 dL_act_3 rfl (by decide +kernel) ?_
  refine g_s0i X okT trivial (m_L_below l D cI cZ cJ (x >>> ((nI 1) &&& 31)) 12 (by omega) (by omega)) 8 0 0 gL_act_L_below rfl (n := 2) (by decide +kernel) rfl ⟨Nat.le_of_ble_eq_true rfl, Nat.le_of_ble_eq_true rfl⟩ rfl (Nat.le_of_ble_eq_true rfl) dL_act_5 rfl (Nat.le_refl _) (Nat.le_refl _) ⟨(Nat.le_of_ble_eq_true rfl), (Nat.le_of_ble_eq_true rfl)⟩ (fun r9 u9 h9 => ?_)
  obtain ⟨rfl, -⟩ := h9
  obtain ⟨col, hcol⟩ : ∃ col : Nat, bw (x >>> ((nI 1) &&& 31)) 12 = col := ⟨_, rfl⟩
  have hbcol : col < 12 := by rw [← hcol]; exact bw_lt (by decide)
  refine g_eqi (y := nI col) (congrArg nI hcol) ?_
  refine g_istore_n X [(3, .int (nI col)), (0, .ref (ad 0)), (1, .ref ma), (2, .int x)] 9 dL_act_8 rfl rfl (by decide) rfl ?_
  refine g_iload_n X 3 10 dL_act_9 rfl rfl rfl ?_
  refine g_bipush X (nI 9) 12 dL_act_10 rfl (by decide +kernel) ?_
  refine g_ishr X 13 dL_act_12 rfl ?_
  refine g_bipush X (nI 18) 15 dL_act_13 rfl (by decide +kernel) ?_
  refine g_s0i X okT trivial (m_L_below l D cI cZ cJ (x >>> ((nI 9) &&& 31)) 18 (by omega) (by omega)) 18 0 0 gL_act_L_below rfl (n := 2) (by decide +kernel) rfl ⟨Nat.le_of_ble_eq_true rfl, Nat.le_of_ble_eq_true rfl⟩ rfl (Nat.le_of_ble_eq_true rfl) dL_act_15 rfl (Nat.le_refl _) (Nat.le_refl _) ⟨(Nat.le_of_ble_eq_true rfl), (Nat.le_of_ble_eq_true rfl)⟩ (fun r9 u9 h9 => ?_)
  obtain ⟨rfl, -⟩ := h9
  obtain ⟨sw, hsw⟩ : ∃ sw : Nat, bw (x >>> ((nI 9) &&& 31)) 18 = sw := ⟨_, rfl⟩
  have hbsw : sw < 18 := by rw [← hsw]; exact bw_lt (by decide)
  refine g_eqi (y := nI sw) (congrArg nI hsw) ?_
  have K76 : G p l e rm_L_act s m args below meth c Q D A 17 0 0 ((ma, .inr (6, [.int (nI (S 0)), .int (nI (S 1)), .int (nI (S 2)), .int (nI (S 3)), .ref so, .ref wo, .ref ro, .ref fx])) :: (so, .inl (cJ, 12, refs (orf 12 sc))) :: (wo, .inl (cJ, nw, refs (orf nw wa))) :: (ro, .inl (cJ, nr, refs (orf nr ra))) :: (fx, .inl (cJ, nf, refs (orf nf fa))) :: sR cI sc wa ra fa nw nr nf S T st fe fo (gW ad cI cZ S T st fe fo nw nr nf)) [(3, .int (nI col)), (0, .ref (ad 0)), (1, .ref ma), (2, .int x)] 76 [] := by
    refine g_aload_n X 2 77 dL_act_76 rfl rfl rfl ?_
    refine g_get X hiX6 0 5 80 rfl rfl (by decide) (List.mem_of_getElem? (i := 1) rfl) rfl dL_act_77 rfl ?_
    refine g_alen X 2 2 81 rfl rfl dL_act_80 rfl ?_
    refine g_bipush X (nI 6) 83 dL_act_81 rfl (by decide +kernel) ?_
    refine g_icmp_ne X 86 88 dL_act_83 rfl (by decide) (nI_eq (by omega) (by omega)) (fun h6 => ?_) (fun h6 => ?_)
    · have hnw5 : nw < 6 := by omega
      refine g_iconst X (nI 1) 89 dL_act_88 rfl (by decide +kernel) ?_
      refine g_iload_n X 3 90 dL_act_89 rfl rfl rfl ?_
      refine g_iconst X (nI 3) 91 dL_act_90 rfl (by decide +kernel) ?_
      refine g_ishr X 92 dL_act_91 rfl ?_
      refine g_iload_n X 3 93 dL_act_92 rfl rfl rfl ?_
      refine g_iconst X (nI 2) 94 dL_act_93 rfl (by decide +kernel) ?_
      refine g_s0i X okT trivial (m_L_below l D cI cZ cJ (x) 2 (by omega) (by omega)) 97 0 0 gL_act_L_below rfl (n := 2) (by decide +kernel) rfl ⟨Nat.le_of_ble_eq_true rfl, Nat.le_of_ble_eq_true rfl⟩ rfl (Nat.le_of_ble_eq_true rfl) dL_act_94 rfl (Nat.le_refl _) (Nat.le_refl _) ⟨(Nat.le_of_ble_eq_true rfl), (Nat.le_of_ble_eq_true rfl)⟩ (fun r9 u9 h9 => ?_)
      obtain ⟨rfl, -⟩ := h9
      obtain ⟨bx, hbx⟩ : ∃ bx : Nat, bw (x) 2 = bx := ⟨_, rfl⟩
      have hbbx : bx < 2 := by rw [← hbx]; exact bw_lt (by decide)
      refine g_eqi (y := nI bx) (congrArg nI hbx) ?_
      have K110 : ∀ ww : Nat, 1 ≤ ww → ww ≤ 12 → G p l e rm_L_act s m args below meth c Q D A 17 0 0 ((ma, .inr (6, [.int (nI (S 0)), .int (nI (S 1)), .int (nI (S 2)), .int (nI (S 3)), .ref so, .ref wo, .ref ro, .ref fx])) :: (so, .inl (cJ, 12, refs (orf 12 sc))) :: (wo, .inl (cJ, nw, refs (orf nw wa))) :: (ro, .inl (cJ, nr, refs (orf nr ra))) :: (fx, .inl (cJ, nf, refs (orf nf fa))) :: sR cI sc wa ra fa nw nr nf S T st fe fo (gW ad cI cZ S T st fe fo nw nr nf)) [(3, .int (nI col)), (0, .ref (ad 0)), (1, .ref ma), (2, .int x)] 110 [.int (nI ww)] := by
        intro ww hw1 hw12
        refine g_istore X [(4, .int (nI ww)), (3, .int (nI col)), (0, .ref (ad 0)), (1, .ref ma), (2, .int x)] 112 dL_act_110 rfl (by decide) rfl ?_
        refine g_iconst X (nI 1) 113 dL_act_112 rfl (by decide +kernel) ?_
        refine g_iload_n X 4 114 dL_act_113 rfl rfl rfl ?_
        refine g_iconst X (nI 4) 115 dL_act_114 rfl (by decide +kernel) ?_
        refine g_ishr X 116 dL_act_115 rfl ?_
        refine g_bipush X (nI 8) 118 dL_act_116 rfl (by decide +kernel) ?_
        refine g_s0i X okT trivial (m_L_below l D cI cZ cJ (x >>> ((nI 4) &&& 31)) 8 (by omega) (by omega)) 121 0 0 gL_act_L_below rfl (n := 2) (by decide +kernel) rfl ⟨Nat.le_of_ble_eq_true rfl, Nat.le_of_ble_eq_true rfl⟩ rfl (Nat.le_of_ble_eq_true rfl) dL_act_118 rfl (Nat.le_refl _) (Nat.le_refl _) ⟨(Nat.le_of_ble_eq_true rfl), (Nat.le_of_ble_eq_true rfl)⟩ (fun r9 u9 h9 => ?_)
        obtain ⟨rfl, -⟩ := h9
        obtain ⟨hd, hhd⟩ : ∃ hd : Nat, bw (x >>> ((nI 4) &&& 31)) 8 = hd := ⟨_, rfl⟩
        have hbhd : hd < 8 := by rw [← hhd]; exact bw_lt (by decide)
        refine g_eqi (y := nI hd) (congrArg nI hhd) ?_
        refine g_iadd X (nI (1 + hd)) 122 dL_act_121 rfl (nI_add _ _) ?_
        obtain ⟨hh, hhe, hh1, hh8⟩ : ∃ hh : Nat, 1 + hd = hh ∧ 1 ≤ hh ∧ hh ≤ 8 := ⟨_, rfl, by omega, by omega⟩
        refine g_eqi (y := nI hh) (congrArg nI hhe) ?_
        refine g_istore X [(5, .int (nI hh)), (4, .int (nI ww)), (3, .int (nI col)), (0, .ref (ad 0)), (1, .ref ma), (2, .int x)] 124 dL_act_122 rfl (by decide) rfl ?_
        refine g_iconst X (nI 5) 125 dL_act_124 rfl (by decide +kernel) ?_
        refine g_newf (ty := .int) X 0 (5) (5, .inl (fun _ => 0)) 127 rfl rfl va_u_int (List.mem_of_getElem? (i := 2) rfl) (fun _ => rfl) (by decide) (Nat.le_of_ble_eq_true rfl) (Nat.le_of_ble_eq_true rfl) (Nat.le_of_ble_eq_true rfl) dL_act_125 rfl (fun its => ?_)
        refine g_eqw (ws' := ((its, .inl (cI, 5, .inl (lst []))) :: (ma, .inr (6, [.int (nI (S 0)), .int (nI (S 1)), .int (nI (S 2)), .int (nI (S 3)), .ref so, .ref wo, .ref ro, .ref fx])) :: (so, .inl (cJ, 12, refs (orf 12 sc))) :: (wo, .inl (cJ, nw, refs (orf nw wa))) :: (ro, .inl (cJ, nr, refs (orf nr ra))) :: (fx, .inl (cJ, nf, refs (orf nf fa))) :: sR cI sc wa ra fa nw nr nf S T st fe fo (gW ad cI cZ S T st fe fo nw nr nf))) (by rw [← lst_0]) ?_
        refine g_dup X 128 dL_act_127 rfl rfl ?_
        refine g_iconst X (nI 0) 129 dL_act_128 rfl (by decide +kernel) ?_
        refine g_iload_n X 5 130 dL_act_129 rfl rfl rfl ?_
        refine g_iconst X (nI 1) 131 dL_act_130 rfl (by decide +kernel) ?_
        refine g_ishr X 132 dL_act_131 rfl ?_
        refine g_bipush X (nI 13) 134 dL_act_132 rfl (by decide +kernel) ?_
        refine g_iload X 1 136 dL_act_134 rfl rfl ?_
        refine g_isub X (nI (13 - ww)) 137 dL_act_136 rfl (pk_sub (by omega)) ?_
        refine g_s0i X okT trivial (m_L_below l D cI cZ cJ (x >>> ((nI 1) &&& 31)) (13 - ww) (by omega) (by omega)) 140 1 5 gL_act_L_below rfl (n := 2) (by decide +kernel) rfl ⟨Nat.le_of_ble_eq_true rfl, Nat.le_of_ble_eq_true rfl⟩ rfl (Nat.le_of_ble_eq_true rfl) dL_act_137 rfl (Nat.le_refl _) (Nat.le_refl _) ⟨(Nat.le_of_ble_eq_true rfl), (Nat.le_of_ble_eq_true rfl)⟩ (fun r9 u9 h9 => ?_)
        obtain ⟨rfl, -⟩ := h9
        obtain ⟨wx, hwx⟩ : ∃ wx : Nat, bw (x >>> ((nI 1) &&& 31)) (13 - ww) = wx := ⟨_, rfl⟩
        have hbwx : wx < 13 - ww := by rw [← hwx]; exact bw_lt (by omega)
        refine g_eqi (y := nI wx) (congrArg nI hwx) ?_
        refine g_iast (ws' := ((its, .inl (cI, 5, .inl (lst [wx]))) :: (ma, .inr (6, [.int (nI (S 0)), .int (nI (S 1)), .int (nI (S 2)), .int (nI (S 3)), .ref so, .ref wo, .ref ro, .ref fx])) :: (so, .inl (cJ, 12, refs (orf 12 sc))) :: (wo, .inl (cJ, nw, refs (orf nw wa))) :: (ro, .inl (cJ, nr, refs (orf nr ra))) :: (fx, .inl (cJ, nf, refs (orf nf fa))) :: sR cI sc wa ra fa nw nr nf S T st fe fo (gW ad cI cZ S T st fe fo nw nr nf))) X 0 0 (0) (lst [wx]) 141 rfl rfl (by decide) (by decide) (lst_s (k := 0) rfl rfl) dL_act_140 rfl rfl ?_
        refine g_dup X 142 dL_act_141 rfl rfl ?_
        refine g_iconst X (nI 1) 143 dL_act_142 rfl (by decide +kernel) ?_
        refine g_iload_n X 5 144 dL_act_143 rfl rfl rfl ?_
        refine g_iconst X (nI 2) 145 dL_act_144 rfl (by decide +kernel) ?_
        refine g_ishr X 146 dL_act_145 rfl ?_
        refine g_bipush X (nI 9) 148 dL_act_146 rfl (by decide +kernel) ?_
        refine g_iload X 0 150 dL_act_148 rfl rfl ?_
        refine g_isub X (nI (9 - hh)) 151 dL_act_150 rfl (pk_sub (by omega)) ?_
        refine g_s0i X okT trivial (m_L_below l D cI cZ cJ (x >>> ((nI 2) &&& 31)) (9 - hh) (by omega) (by omega)) 154 1 5 gL_act_L_below rfl (n := 2) (by decide +kernel) rfl ⟨Nat.le_of_ble_eq_true rfl, Nat.le_of_ble_eq_true rfl⟩ rfl (Nat.le_of_ble_eq_true rfl) dL_act_151 rfl (Nat.le_refl _) (Nat.le_refl _) ⟨(Nat.le_of_ble_eq_true rfl), (Nat.le_of_ble_eq_true rfl)⟩ (fun r9 u9 h9 => ?_)
        obtain ⟨rfl, -⟩ := h9
        obtain ⟨wy, hwy⟩ : ∃ wy : Nat, bw (x >>> ((nI 2) &&& 31)) (9 - hh) = wy := ⟨_, rfl⟩
        have hbwy : wy < 9 - hh := by rw [← hwy]; exact bw_lt (by omega)
        refine g_eqi (y := nI wy) (congrArg nI hwy) ?_
        refine g_iast (ws' := ((its, .inl (cI, 5, .inl (lst [wx, wy]))) :: (ma, .inr (6, [.int (nI (S 0)), .int (nI (S 1)), .int (nI (S 2)), .int (nI (S 3)), .ref so, .ref wo, .ref ro, .ref fx])) :: (so, .inl (cJ, 12, refs (orf 12 sc))) :: (wo, .inl (cJ, nw, refs (orf nw wa))) :: (ro, .inl (cJ, nr, refs (orf nr ra))) :: (fx, .inl (cJ, nf, refs (orf nf fa))) :: sR cI sc wa ra fa nw nr nf S T st fe fo (gW ad cI cZ S T st fe fo nw nr nf))) X 0 0 (1) (lst [wx, wy]) 155 rfl rfl (by decide) (by decide) (lst_s (k := 1) rfl rfl) dL_act_154 rfl rfl ?_
        refine g_dup X 156 dL_act_155 rfl rfl ?_
        refine g_iconst X (nI 2) 157 dL_act_156 rfl (by decide +kernel) ?_
        refine g_iload X 1 159 dL_act_157 rfl rfl ?_
        refine g_iast (ws' := ((its, .inl (cI, 5, .inl (lst [wx, wy, ww]))) :: (ma, .inr (6, [.int (nI (S 0)), .int (nI (S 1)), .int (nI (S 2)), .int (nI (S 3)), .ref so, .ref wo, .ref ro, .ref fx])) :: (so, .inl (cJ, 12, refs (orf 12 sc))) :: (wo, .inl (cJ, nw, refs (orf nw wa))) :: (ro, .inl (cJ, nr, refs (orf nr ra))) :: (fx, .inl (cJ, nf, refs (orf nf fa))) :: sR cI sc wa ra fa nw nr nf S T st fe fo (gW ad cI cZ S T st fe fo nw nr nf))) X 0 0 (2) (lst [wx, wy, ww]) 160 rfl rfl (by decide) (by decide) (lst_s (k := 2) rfl rfl) dL_act_159 rfl rfl ?_
        refine g_dup X 161 dL_act_160 rfl rfl ?_
        refine g_iconst X (nI 3) 162 dL_act_161 rfl (by decide +kernel) ?_
        refine g_iload X 0 164 dL_act_162 rfl rfl ?_
        refine g_iast (ws' := ((its, .inl (cI, 5, .inl (lst [wx, wy, ww, hh]))) :: (ma, .inr (6, [.int (nI (S 0)), .int (nI (S 1)), .int (nI (S 2)), .int (nI (S 3)), .ref so, .ref wo, .ref ro, .ref fx])) :: (so, .inl (cJ, 12, refs (orf 12 sc))) :: (wo, .inl (cJ, nw, refs (orf nw wa))) :: (ro, .inl (cJ, nr, refs (orf nr ra))) :: (fx, .inl (cJ, nf, refs (orf nf fa))) :: sR cI sc wa ra fa nw nr nf S T st fe fo (gW ad cI cZ S T st fe fo nw nr nf))) X 0 0 (3) (lst [wx, wy, ww, hh]) 165 rfl rfl (by decide) (by decide) (lst_s (k := 3) rfl rfl) dL_act_164 rfl rfl ?_
        refine g_dup X 166 dL_act_165 rfl rfl ?_
        refine g_iconst X (nI 4) 167 dL_act_166 rfl (by decide +kernel) ?_
        refine g_iconst X (nI 1) 168 dL_act_167 rfl (by decide +kernel) ?_
        refine g_iload_n X 5 169 dL_act_168 rfl rfl rfl ?_
        refine g_iconst X (nI 5) 170 dL_act_169 rfl (by decide +kernel) ?_
        refine g_ishr X 171 dL_act_170 rfl ?_
        refine g_bipush X (nI 9) 173 dL_act_171 rfl (by decide +kernel) ?_
        refine g_s0i X okT trivial (m_L_below l D cI cZ cJ (x >>> ((nI 5) &&& 31)) 9 (by omega) (by omega)) 176 1 5 gL_act_L_below rfl (n := 2) (by decide +kernel) rfl ⟨Nat.le_of_ble_eq_true rfl, Nat.le_of_ble_eq_true rfl⟩ rfl (Nat.le_of_ble_eq_true rfl) dL_act_173 rfl (Nat.le_refl _) (Nat.le_refl _) ⟨(Nat.le_of_ble_eq_true rfl), (Nat.le_of_ble_eq_true rfl)⟩ (fun r9 u9 h9 => ?_)
        obtain ⟨rfl, -⟩ := h9
        obtain ⟨wq, hwq⟩ : ∃ wq : Nat, bw (x >>> ((nI 5) &&& 31)) 9 = wq := ⟨_, rfl⟩
        have hbwq : wq < 9 := by rw [← hwq]; exact bw_lt (by decide)
        refine g_eqi (y := nI wq) (congrArg nI hwq) ?_
        refine g_iadd X (nI (1 + wq)) 177 dL_act_176 rfl (nI_add _ _) ?_
        obtain ⟨oo, hoe, ho1, ho9⟩ : ∃ oo : Nat, 1 + wq = oo ∧ 1 ≤ oo ∧ oo ≤ 9 := ⟨_, rfl, by omega, by omega⟩
        refine g_eqi (y := nI oo) (congrArg nI hoe) ?_
        refine g_iast (ws' := ((its, .inl (cI, 5, .inl (lst [wx, wy, ww, hh, oo]))) :: (ma, .inr (6, [.int (nI (S 0)), .int (nI (S 1)), .int (nI (S 2)), .int (nI (S 3)), .ref so, .ref wo, .ref ro, .ref fx])) :: (so, .inl (cJ, 12, refs (orf 12 sc))) :: (wo, .inl (cJ, nw, refs (orf nw wa))) :: (ro, .inl (cJ, nr, refs (orf nr ra))) :: (fx, .inl (cJ, nf, refs (orf nf fa))) :: sR cI sc wa ra fa nw nr nf S T st fe fo (gW ad cI cZ S T st fe fo nw nr nf))) X 0 0 (4) (lst [wx, wy, ww, hh, oo]) 178 rfl rfl (by decide) (by decide) (lst_s (k := 4) rfl rfl) dL_act_177 rfl rfl ?_
        refine g_astore X [(6, .ref its), (5, .int (nI hh)), (4, .int (nI ww)), (3, .int (nI col)), (0, .ref (ad 0)), (1, .ref ma), (2, .int x)] 180 dL_act_178 rfl (by decide) rfl ?_
        refine g_aload_n X 5 181 dL_act_180 rfl rfl rfl ?_
        refine g_aload_n X 5 182 dL_act_181 rfl rfl rfl ?_
        refine g_get X hiX6 1 5 185 rfl rfl (by decide) (List.mem_of_getElem? (i := 1) rfl) rfl dL_act_182 rfl ?_
        refine g_aload X 0 187 dL_act_185 rfl rfl ?_
        refine g_perm (ws' := ((ma, .inr (6, [.int (nI (S 0)), .int (nI (S 1)), .int (nI (S 2)), .int (nI (S 3)), .ref so, .ref wo, .ref ro, .ref fx])) :: (so, .inl (cJ, 12, refs (orf 12 sc))) :: (ro, .inl (cJ, nr, refs (orf nr ra))) :: (fx, .inl (cJ, nf, refs (orf nf fa))) :: (wo, .inl (cJ, nw, refs (orf nw wa))) :: (its, .inl (cI, 5, .inl (lst [wx, wy, ww, hh, oo]))) :: (rwL nw (fun i9 => (wa i9, .inl (cI, 5, .inl (vwn T i9)))) ++ (rwL 12 (fun i9 => (sc i9, .inl (cI, 8, .inl (vcl S i9)))) ++ (rwL nr (fun i9 => (ra i9, .inl (cI, 6, .inl (vrp S st i9)))) ++ (rwL nf (fun i9 => (fa i9, .inl (cI, 2, .inl (vfe fe fo i9)))) ++ (gW ad cI cZ S T st fe fo nw nr nf))))))) [] win_p ?_
        refine g_sSr X ok_fAO hF.2 (m_X6_with l D cI cZ cJ wo its nw 5 wa (vwn T) (lst [wx, wy, ww, hh, oo]) (rwL 12 (fun i9 => (sc i9, .inl (cI, 8, .inl (vcl S i9)))) ++ (rwL nr (fun i9 => (ra i9, .inl (cI, 6, .inl (vrp S st i9)))) ++ (rwL nf (fun i9 => (fa i9, .inl (cI, 2, .inl (vfe fe fo i9)))) ++ (gW ad cI cZ S T st fe fo nw nr nf)))) hnw) 190 2 12 [(ma, .inr (6, [.int (nI (S 0)), .int (nI (S 1)), .int (nI (S 2)), .int (nI (S 3)), .ref so, .ref wo, .ref ro, .ref fx])), (so, .inl (cJ, 12, refs (orf 12 sc))), (ro, .inl (cJ, nr, refs (orf nr ra))), (fx, .inl (cJ, nf, refs (orf nf fa)))] rfl gL_act_X6_with rfl (n := 2) (by decide +kernel) rfl ⟨Nat.le_of_ble_eq_true rfl, Nat.le_of_ble_eq_true rfl⟩ rfl (Nat.le_of_ble_eq_true rfl) dL_act_187 rfl (Nat.le_of_ble_eq_true rfl) (Nat.le_of_ble_eq_true rfl) ⟨(Nat.le_of_ble_eq_true rfl), (Nat.le_of_ble_eq_true rfl)⟩ (fun r9 u9 h9 => ?_)
        subst h9
        refine g_eqw (ws' := ((ma, .inr (6, [.int (nI (S 0)), .int (nI (S 1)), .int (nI (S 2)), .int (nI (S 3)), .ref so, .ref wo, .ref ro, .ref fx])) :: (so, .inl (cJ, 12, refs (orf 12 sc))) :: (ro, .inl (cJ, nr, refs (orf nr ra))) :: (fx, .inl (cJ, nf, refs (orf nf fa))) :: (r9, .inl (cJ, nw + 1, refs (orf (nw + 1) (up wa nw its)))) :: (wo, .inl (cJ, nw, refs (orf nw wa))) :: (its, .inl (cI, 5, .inl (lst [wx, wy, ww, hh, oo]))) :: (rwL nw (fun i9 => (wa i9, .inl (cI, 5, .inl (vwn T i9)))) ++ (rwL 12 (fun i9 => (sc i9, .inl (cI, 8, .inl (vcl S i9)))) ++ (rwL nr (fun i9 => (ra i9, .inl (cI, 6, .inl (vrp S st i9)))) ++ (rwL nf (fun i9 => (fa i9, .inl (cI, 2, .inl (vfe fe fo i9)))) ++ (gW ad cI cZ S T st fe fo nw nr nf))))))) rfl ?_
        refine g_put (ws' := ((ma, .inr (6, [.int (nI (S 0)), .int (nI (S 1)), .int (nI (S 2)), .int (nI (S 3)), .ref so, .ref r9, .ref ro, .ref fx])) :: (so, .inl (cJ, 12, refs (orf 12 sc))) :: (ro, .inl (cJ, nr, refs (orf nr ra))) :: (fx, .inl (cJ, nf, refs (orf nf fa))) :: (r9, .inl (cJ, nw + 1, refs (orf (nw + 1) (up wa nw its)))) :: (wo, .inl (cJ, nw, refs (orf nw wa))) :: (its, .inl (cI, 5, .inl (lst [wx, wy, ww, hh, oo]))) :: (rwL nw (fun i9 => (wa i9, .inl (cI, 5, .inl (vwn T i9)))) ++ (rwL 12 (fun i9 => (sc i9, .inl (cI, 8, .inl (vcl S i9)))) ++ (rwL nr (fun i9 => (ra i9, .inl (cI, 6, .inl (vrp S st i9)))) ++ (rwL nf (fun i9 => (fa i9, .inl (cI, 2, .inl (vfe fe fo i9)))) ++ (gW ad cI cZ S T st fe fo nw nr nf))))))) X hiX6 tyX6 tyX6_ok nmX6 0 5 193 rfl rfl (by decide) (List.mem_of_getElem? (i := 1) rfl) rfl (ty := .array (.array .int)) (by decide +kernel) rfl rfl (Nat.le_of_ble_eq_true rfl) dL_act_190 rfl rfl ?_
        refine g_perm (ws' := ((ma, .inr (6, [.int (nI (S 0)), .int (nI (S 1)), .int (nI (S 2)), .int (nI (S 3)), .ref so, .ref r9, .ref ro, .ref fx])) :: (so, .inl (cJ, 12, refs (orf 12 sc))) :: (r9, .inl (cJ, nw + 1, refs (orf (nw + 1) (up wa nw its)))) :: (ro, .inl (cJ, nr, refs (orf nr ra))) :: (fx, .inl (cJ, nf, refs (orf nf fa))) :: sR cI sc (up wa nw its) ra fa (nw + 1) nr nf S (ptT T nw wx wy ww hh oo) st fe fo (gW ad cI cZ S T st fe fo nw nr nf))) [(wo, .inl (cJ, nw, refs (orf nw wa)))] win_q ?_
        refine g_aload_n X 4 194 dL_act_193 rfl rfl rfl ?_
        refine g_aload X 0 196 dL_act_194 rfl rfl ?_
        refine g_iconst X (nI 0) 197 dL_act_196 rfl (by decide +kernel) ?_
        refine g_ialdT X 5 (12 + nw) 0 (sR cI sc (up wa nw its) ra fa (nw + 1) nr nf S (ptT T nw wx wy ww hh oo) st fe fo (gW ad cI cZ S T st fe fo nw nr nf)) (0) (nI wx) 198 rfl sR_wl rfl (by decide) (by decide) ((congrFun lst_w 0).symm) dL_act_197 rfl ?_
        refine g_aload X 0 200 dL_act_198 rfl rfl ?_
        refine g_iconst X (nI 1) 201 dL_act_200 rfl (by decide +kernel) ?_
        refine g_ialdT X 5 (12 + nw) 0 (sR cI sc (up wa nw its) ra fa (nw + 1) nr nf S (ptT T nw wx wy ww hh oo) st fe fo (gW ad cI cZ S T st fe fo nw nr nf)) (1) (nI wy) 202 rfl sR_wl rfl (by decide) (by decide) ((congrFun lst_w 1).symm) dL_act_201 rfl ?_
        refine g_iload X 2 204 dL_act_202 rfl rfl ?_
        refine g_iload X 1 206 dL_act_204 rfl rfl ?_
        refine g_aload X 0 208 dL_act_206 rfl rfl ?_
        refine g_iconst X (nI 4) 209 dL_act_208 rfl (by decide +kernel) ?_
        refine g_ialdT X 5 (12 + nw) 0 (sR cI sc (up wa nw its) ra fa (nw + 1) nr nf S (ptT T nw wx wy ww hh oo) st fe fo (gW ad cI cZ S T st fe fo nw nr nf)) (4) (nI oo) 210 rfl sR_wl rfl (by decide) (by decide) ((congrFun lst_w 4).symm) dL_act_209 rfl ?_
        refine g_cws (ws' := ((ma, .inr (6, [.int (nI (S 0)), .int (nI (S 1)), .int (nI (S 2)), .int (nI (S 3)), .ref so, .ref r9, .ref ro, .ref fx])) :: (so, .inl (cJ, 12, refs (orf 12 sc))) :: (r9, .inl (cJ, nw + 1, refs (orf (nw + 1) (up wa nw its)))) :: (ro, .inl (cJ, nr, refs (orf nr ra))) :: (fx, .inl (cJ, nf, refs (orf nf fa))) :: sR cI sc (up wa nw its) ra fa (nw + 1) nr nf S (ptT T nw wx wy ww hh oo) st fe fo (gW ad cI cZ S (ptT T nw wx wy ww hh oo) st fe fo (nw + 1) nr nf))) X hF.1 (cw_window l hfl D cI cZ cJ ad S T st fe fo nw nr nf wx wy ww hh oo hnw5 hw1 (by omega) hh1 (by omega) ho1 ho9) 213 3 18 [(ma, .inr (6, [.int (nI (S 0)), .int (nI (S 1)), .int (nI (S 2)), .int (nI (S 3)), .ref so, .ref r9, .ref ro, .ref fx])), (so, .inl (cJ, 12, refs (orf 12 sc))), (r9, .inl (cJ, nw + 1, refs (orf (nw + 1) (up wa nw its)))), (ro, .inl (cJ, nr, refs (orf nr ra))), (fx, .inl (cJ, nf, refs (orf nf fa)))] rfl gL_act_X5_window rfl (n := 5) (by decide +kernel) rfl ⟨Nat.le_of_ble_eq_true rfl, Nat.le_of_ble_eq_true rfl⟩ rfl rfl (Nat.le_of_ble_eq_true rfl) dL_act_210 rfl (Nat.le_of_ble_eq_true rfl) (Nat.le_of_ble_eq_true rfl) ⟨(Nat.le_of_ble_eq_true rfl), (Nat.le_of_ble_eq_true rfl)⟩ rfl ?_
        refine g_aload_n X 5 214 dL_act_213 rfl rfl rfl ?_
        refine g_get X hiX6 0 5 217 rfl rfl (by decide) (List.mem_of_getElem? (i := 1) rfl) rfl dL_act_214 rfl ?_
        refine g_alen X 2 2 218 rfl rfl dL_act_217 rfl ?_
        refine g_iconst X (nI 1) 219 dL_act_218 rfl (by decide +kernel) ?_
        refine g_isub X (nI ((nw + 1) - 1)) 220 dL_act_219 rfl (pk_sub (by omega)) ?_
        refine g_icmp_ne X 223 227 dL_act_220 rfl (by decide) Iff.rfl (fun h9 => absurd rfl h9) (fun _ => ?_)
        refine g_iconst X (nI 1) 224 dL_act_223 rfl (by decide +kernel) ?_
        refine g_goto X 228 dL_act_224 (by decide) ?_
        refine g_w (kc' := rm_L_act.cells) (ks' := rm_L_act.slots) (by have h9 : rm_L_act.cells = 25 := rfl; omega) (by have h9 : rm_L_act.slots = 78 := rfl; omega) ?_
        exact ret _ _ _ _ dL_act_228 rfl ⟨rfl, r9, ro, fx, (up wa nw its), ra, fa, (nw + 1), nr, nf, S, (ptT T nw wx wy ww hh oo), st, fe, fo, iv_w (iv_window hI hnw5 hw1 (by omega) hh1 (by omega) ho1 ho9) (by omega), rfl⟩
      refine g_if_ne X 100 105 dL_act_97 rfl (by decide) (nz_eq (by omega)) (fun h97 => ?_) (fun h97 => ?_)
      · refine g_iconst X (nI 4) 106 dL_act_105 rfl (by decide +kernel) ?_
        refine g_s0i X okT trivial (m_L_below l D cI cZ cJ (x >>> ((nI 3) &&& 31)) 4 (by omega) (by omega)) 109 0 0 gL_act_L_below rfl (n := 2) (by decide +kernel) rfl ⟨Nat.le_of_ble_eq_true rfl, Nat.le_of_ble_eq_true rfl⟩ rfl (Nat.le_of_ble_eq_true rfl) dL_act_106 rfl (Nat.le_refl _) (Nat.le_refl _) ⟨(Nat.le_of_ble_eq_true rfl), (Nat.le_of_ble_eq_true rfl)⟩ (fun r9 u9 h9 => ?_)
        obtain ⟨rfl, -⟩ := h9
        obtain ⟨wd, hwd⟩ : ∃ wd : Nat, bw (x >>> ((nI 3) &&& 31)) 4 = wd := ⟨_, rfl⟩
        have hbwd : wd < 4 := by rw [← hwd]; exact bw_lt (by decide)
        refine g_eqi (y := nI wd) (congrArg nI hwd) ?_
        refine g_iadd X (nI (1 + wd)) 110 dL_act_109 rfl (nI_add _ _) ?_
        exact K110 _ (by omega) (by omega)
      · refine g_bipush X (nI 12) 102 dL_act_100 rfl (by decide +kernel) ?_
        refine g_goto X 106 dL_act_102 (by decide) ?_
        refine g_s0i X okT trivial (m_L_below l D cI cZ cJ (x >>> ((nI 3) &&& 31)) 12 (by omega) (by omega)) 109 0 0 gL_act_L_below rfl (n := 2) (by decide +kernel) rfl ⟨Nat.le_of_ble_eq_true rfl, Nat.le_of_ble_eq_true rfl⟩ rfl (Nat.le_of_ble_eq_true rfl) dL_act_106 rfl (Nat.le_refl _) (Nat.le_refl _) ⟨(Nat.le_of_ble_eq_true rfl), (Nat.le_of_ble_eq_true rfl)⟩ (fun r9 u9 h9 => ?_)
        obtain ⟨rfl, -⟩ := h9
        obtain ⟨wd, hwd⟩ : ∃ wd : Nat, bw (x >>> ((nI 3) &&& 31)) 12 = wd := ⟨_, rfl⟩
        have hbwd : wd < 12 := by rw [← hwd]; exact bw_lt (by decide)
        refine g_eqi (y := nI wd) (congrArg nI hwd) ?_
        refine g_iadd X (nI (1 + wd)) 110 dL_act_109 rfl (nI_add _ _) ?_
        exact K110 _ (by omega) (by omega)
    · refine g_iconst X (nI 1) 87 dL_act_86 rfl (by decide +kernel) ?_
      refine g_w (kc' := rm_L_act.cells) (ks' := rm_L_act.slots) (by have h9 : rm_L_act.cells = 25 := rfl; omega) (by have h9 : rm_L_act.slots = 78 := rfl; omega) ?_
      exact ret _ _ _ _ dL_act_87 rfl ⟨rfl, wo, ro, fx, wa, ra, fa, nw, nr, nf, S, T, st, fe, fo, iv_w hI (by omega), rfl⟩
  have K229 : G p l e rm_L_act s m args below meth c Q D A 17 0 0 ((ma, .inr (6, [.int (nI (S 0)), .int (nI (S 1)), .int (nI (S 2)), .int (nI (S 3)), .ref so, .ref wo, .ref ro, .ref fx])) :: (so, .inl (cJ, 12, refs (orf 12 sc))) :: (wo, .inl (cJ, nw, refs (orf nw wa))) :: (ro, .inl (cJ, nr, refs (orf nr ra))) :: (fx, .inl (cJ, nf, refs (orf nf fa))) :: sR cI sc wa ra fa nw nr nf S T st fe fo (gW ad cI cZ S T st fe fo nw nr nf)) [(3, .int (nI col)), (0, .ref (ad 0)), (1, .ref ma), (2, .int x)] 229 [] := by
    refine g_aload_n X 2 230 dL_act_229 rfl rfl rfl ?_
    refine g_get X hiX6 0 6 233 rfl rfl (by decide) (List.mem_of_getElem? (i := 3) rfl) rfl dL_act_230 rfl ?_
    refine g_alen X 3 2 234 rfl rfl dL_act_233 rfl ?_
    refine g_bipush X (nI 6) 236 dL_act_234 rfl (by decide +kernel) ?_
    refine g_icmp_eq X 239 247 dL_act_236 rfl (by decide) (nI_eq (by omega) (by omega)) (fun h6 => ?_) (fun h6 => ?_)
    · refine g_iconst X (nI 1) 248 dL_act_247 rfl (by decide +kernel) ?_
      refine g_w (kc' := rm_L_act.cells) (ks' := rm_L_act.slots) (by have h9 : rm_L_act.cells = 25 := rfl; omega) (by have h9 : rm_L_act.slots = 78 := rfl; omega) ?_
      exact ret _ _ _ _ dL_act_248 rfl ⟨rfl, wo, ro, fx, wa, ra, fa, nw, nr, nf, S, T, st, fe, fo, iv_w hI (by omega), rfl⟩
    · have hnr5 : nr < 6 := by omega
      refine g_aload_n X 2 240 dL_act_239 rfl rfl rfl ?_
      refine g_iload_n X 0 241 dL_act_240 rfl rfl rfl ?_
      refine g_sVi X okT trivial (m_X6_ropeAt l D cI cZ cJ ma so wo ro fx sc wa ra fa nw nr nf S T st fe fo S (gW ad cI cZ S T st fe fo nw nr nf) col hg.1 hbcol) 244 0 0 [] rfl gL_act_X6_ropeAt rfl (n := 1) (by decide +kernel) rfl ⟨Nat.le_of_ble_eq_true rfl, Nat.le_of_ble_eq_true rfl⟩ (ci := 6) 0 rfl rfl rfl (Nat.le_of_ble_eq_true rfl) dL_act_241 rfl (Nat.le_of_ble_eq_true rfl) (Nat.le_of_ble_eq_true rfl) ⟨(Nat.le_of_ble_eq_true rfl), (Nat.le_of_ble_eq_true rfl)⟩ (fun r9 u9 h9 => ?_)
      obtain ⟨hra, rfl⟩ := h9
      refine g_eqw (ws' := ((ma, .inr (6, [.int (nI (S 0)), .int (nI (S 1)), .int (nI (S 2)), .int (nI (S 3)), .ref so, .ref wo, .ref ro, .ref fx])) :: (so, .inl (cJ, 12, refs (orf 12 sc))) :: (wo, .inl (cJ, nw, refs (orf nw wa))) :: (ro, .inl (cJ, nr, refs (orf nr ra))) :: (fx, .inl (cJ, nf, refs (orf nf fa))) :: sR cI sc wa ra fa nw nr nf S T st fe fo (gW ad cI cZ S T st fe fo nw nr nf))) rfl ?_
      obtain ⟨-, k9, hk9, rfl⟩ | ⟨hh0, rfl⟩ := hra
      · refine g_if_lt X 247 249 dL_act_244 rfl (by decide) (nz_lt (by omega)) (fun h244 => False.elim h244) (fun h244 => ?_)
        refine g_iconst X (nI 1) 248 dL_act_247 rfl (by decide +kernel) ?_
        refine g_w (kc' := rm_L_act.cells) (ks' := rm_L_act.slots) (by have h9 : rm_L_act.cells = 25 := rfl; omega) (by have h9 : rm_L_act.slots = 78 := rfl; omega) ?_
        exact ret _ _ _ _ dL_act_248 rfl ⟨rfl, wo, ro, fx, wa, ra, fa, nw, nr, nf, S, T, st, fe, fo, iv_w hI (by omega), rfl⟩
      · refine g_if_lt X 247 249 dL_act_244 rfl (by decide) Iff.rfl (fun h244 => ?_) (fun h244 => absurd nIm1_lt h244)
        refine g_bipush X (nI 6) 251 dL_act_249 rfl (by decide +kernel) ?_
        refine g_newf (ty := .int) X 0 (6) (6, .inl (fun _ => 0)) 253 rfl rfl va_u_int (List.mem_of_getElem? (i := 2) rfl) (fun _ => rfl) (by decide) (Nat.le_of_ble_eq_true rfl) (Nat.le_of_ble_eq_true rfl) (Nat.le_of_ble_eq_true rfl) dL_act_251 rfl (fun its => ?_)
        refine g_eqw (ws' := ((its, .inl (cI, 6, .inl (lst []))) :: (ma, .inr (6, [.int (nI (S 0)), .int (nI (S 1)), .int (nI (S 2)), .int (nI (S 3)), .ref so, .ref wo, .ref ro, .ref fx])) :: (so, .inl (cJ, 12, refs (orf 12 sc))) :: (wo, .inl (cJ, nw, refs (orf nw wa))) :: (ro, .inl (cJ, nr, refs (orf nr ra))) :: (fx, .inl (cJ, nf, refs (orf nf fa))) :: sR cI sc wa ra fa nw nr nf S T st fe fo (gW ad cI cZ S T st fe fo nw nr nf))) (by rw [← lst_0]) ?_
        refine g_dup X 254 dL_act_253 rfl rfl ?_
        refine g_iconst X (nI 0) 255 dL_act_254 rfl (by decide +kernel) ?_
        refine g_iload_n X 0 256 dL_act_255 rfl rfl rfl ?_
        refine g_iast (ws' := ((its, .inl (cI, 6, .inl (lst [col]))) :: (ma, .inr (6, [.int (nI (S 0)), .int (nI (S 1)), .int (nI (S 2)), .int (nI (S 3)), .ref so, .ref wo, .ref ro, .ref fx])) :: (so, .inl (cJ, 12, refs (orf 12 sc))) :: (wo, .inl (cJ, nw, refs (orf nw wa))) :: (ro, .inl (cJ, nr, refs (orf nr ra))) :: (fx, .inl (cJ, nf, refs (orf nf fa))) :: sR cI sc wa ra fa nw nr nf S T st fe fo (gW ad cI cZ S T st fe fo nw nr nf))) X 0 0 (0) (lst [col]) 257 rfl rfl (by decide) (by decide) (lst_s (k := 0) rfl rfl) dL_act_256 rfl rfl ?_
        refine g_dup X 258 dL_act_257 rfl rfl ?_
        refine g_iconst X (nI 1) 259 dL_act_258 rfl (by decide +kernel) ?_
        refine g_iconst X (nI 0) 260 dL_act_259 rfl (by decide +kernel) ?_
        refine g_iast (ws' := ((its, .inl (cI, 6, .inl (lst [col, 0]))) :: (ma, .inr (6, [.int (nI (S 0)), .int (nI (S 1)), .int (nI (S 2)), .int (nI (S 3)), .ref so, .ref wo, .ref ro, .ref fx])) :: (so, .inl (cJ, 12, refs (orf 12 sc))) :: (wo, .inl (cJ, nw, refs (orf nw wa))) :: (ro, .inl (cJ, nr, refs (orf nr ra))) :: (fx, .inl (cJ, nf, refs (orf nf fa))) :: sR cI sc wa ra fa nw nr nf S T st fe fo (gW ad cI cZ S T st fe fo nw nr nf))) X 0 0 (1) (lst [col, 0]) 261 rfl rfl (by decide) (by decide) (lst_s (k := 1) rfl rfl) dL_act_260 rfl rfl ?_
        refine g_dup X 262 dL_act_261 rfl rfl ?_
        refine g_iconst X (nI 2) 263 dL_act_262 rfl (by decide +kernel) ?_
        refine g_iconst X (nI 1) 264 dL_act_263 rfl (by decide +kernel) ?_
        refine g_iload_n X 3 265 dL_act_264 rfl rfl rfl ?_
        refine g_iconst X (nI 3) 266 dL_act_265 rfl (by decide +kernel) ?_
        refine g_ishr X 267 dL_act_266 rfl ?_
        refine g_bipush X (nI 30) 269 dL_act_267 rfl (by decide +kernel) ?_
        refine g_s0i X okT trivial (m_L_below l D cI cZ cJ (x >>> ((nI 3) &&& 31)) 30 (by omega) (by omega)) 272 1 6 gL_act_L_below rfl (n := 2) (by decide +kernel) rfl ⟨Nat.le_of_ble_eq_true rfl, Nat.le_of_ble_eq_true rfl⟩ rfl (Nat.le_of_ble_eq_true rfl) dL_act_269 rfl (Nat.le_refl _) (Nat.le_refl _) ⟨(Nat.le_of_ble_eq_true rfl), (Nat.le_of_ble_eq_true rfl)⟩ (fun r9 u9 h9 => ?_)
        obtain ⟨rfl, -⟩ := h9
        obtain ⟨tq, htq⟩ : ∃ tq : Nat, bw (x >>> ((nI 3) &&& 31)) 30 = tq := ⟨_, rfl⟩
        have hbtq : tq < 30 := by rw [← htq]; exact bw_lt (by decide)
        refine g_eqi (y := nI tq) (congrArg nI htq) ?_
        refine g_iadd X (nI (1 + tq)) 273 dL_act_272 rfl (nI_add _ _) ?_
        obtain ⟨tt, hte, ht1, ht30⟩ : ∃ tt : Nat, 1 + tq = tt ∧ 1 ≤ tt ∧ tt ≤ 30 := ⟨_, rfl, by omega, by omega⟩
        refine g_eqi (y := nI tt) (congrArg nI hte) ?_
        refine g_iast (ws' := ((its, .inl (cI, 6, .inl (lst [col, 0, tt]))) :: (ma, .inr (6, [.int (nI (S 0)), .int (nI (S 1)), .int (nI (S 2)), .int (nI (S 3)), .ref so, .ref wo, .ref ro, .ref fx])) :: (so, .inl (cJ, 12, refs (orf 12 sc))) :: (wo, .inl (cJ, nw, refs (orf nw wa))) :: (ro, .inl (cJ, nr, refs (orf nr ra))) :: (fx, .inl (cJ, nf, refs (orf nf fa))) :: sR cI sc wa ra fa nw nr nf S T st fe fo (gW ad cI cZ S T st fe fo nw nr nf))) X 0 0 (2) (lst [col, 0, tt]) 274 rfl rfl (by decide) (by decide) (lst_s (k := 2) rfl rfl) dL_act_273 rfl rfl ?_
        refine g_dup X 275 dL_act_274 rfl rfl ?_
        refine g_iconst X (nI 3) 276 dL_act_275 rfl (by decide +kernel) ?_
        refine g_iload_n X 3 277 dL_act_276 rfl rfl rfl ?_
        refine g_iconst X (nI 2) 278 dL_act_277 rfl (by decide +kernel) ?_
        refine g_ishr X 279 dL_act_278 rfl ?_
        refine g_iconst X (nI 2) 280 dL_act_279 rfl (by decide +kernel) ?_
        refine g_s0i X okT trivial (m_L_below l D cI cZ cJ (x >>> ((nI 2) &&& 31)) 2 (by omega) (by omega)) 283 1 6 gL_act_L_below rfl (n := 2) (by decide +kernel) rfl ⟨Nat.le_of_ble_eq_true rfl, Nat.le_of_ble_eq_true rfl⟩ rfl (Nat.le_of_ble_eq_true rfl) dL_act_280 rfl (Nat.le_refl _) (Nat.le_refl _) ⟨(Nat.le_of_ble_eq_true rfl), (Nat.le_of_ble_eq_true rfl)⟩ (fun r9 u9 h9 => ?_)
        obtain ⟨rfl, -⟩ := h9
        obtain ⟨wy, hwy⟩ : ∃ wy : Nat, bw (x >>> ((nI 2) &&& 31)) 2 = wy := ⟨_, rfl⟩
        have hbwy : wy < 2 := by rw [← hwy]; exact bw_lt (by decide)
        refine g_eqi (y := nI wy) (congrArg nI hwy) ?_
        refine g_iast (ws' := ((its, .inl (cI, 6, .inl (lst [col, 0, tt, wy]))) :: (ma, .inr (6, [.int (nI (S 0)), .int (nI (S 1)), .int (nI (S 2)), .int (nI (S 3)), .ref so, .ref wo, .ref ro, .ref fx])) :: (so, .inl (cJ, 12, refs (orf 12 sc))) :: (wo, .inl (cJ, nw, refs (orf nw wa))) :: (ro, .inl (cJ, nr, refs (orf nr ra))) :: (fx, .inl (cJ, nf, refs (orf nf fa))) :: sR cI sc wa ra fa nw nr nf S T st fe fo (gW ad cI cZ S T st fe fo nw nr nf))) X 0 0 (3) (lst [col, 0, tt, wy]) 284 rfl rfl (by decide) (by decide) (lst_s (k := 3) rfl rfl) dL_act_283 rfl rfl ?_
        refine g_dup X 285 dL_act_284 rfl rfl ?_
        refine g_iconst X (nI 4) 286 dL_act_285 rfl (by decide +kernel) ?_
        refine g_iconst X (nI 0) 287 dL_act_286 rfl (by decide +kernel) ?_
        refine g_iast (ws' := ((its, .inl (cI, 6, .inl (lst [col, 0, tt, wy, 0]))) :: (ma, .inr (6, [.int (nI (S 0)), .int (nI (S 1)), .int (nI (S 2)), .int (nI (S 3)), .ref so, .ref wo, .ref ro, .ref fx])) :: (so, .inl (cJ, 12, refs (orf 12 sc))) :: (wo, .inl (cJ, nw, refs (orf nw wa))) :: (ro, .inl (cJ, nr, refs (orf nr ra))) :: (fx, .inl (cJ, nf, refs (orf nf fa))) :: sR cI sc wa ra fa nw nr nf S T st fe fo (gW ad cI cZ S T st fe fo nw nr nf))) X 0 0 (4) (lst [col, 0, tt, wy, 0]) 288 rfl rfl (by decide) (by decide) (lst_s (k := 4) rfl rfl) dL_act_287 rfl rfl ?_
        refine g_dup X 289 dL_act_288 rfl rfl ?_
        refine g_iconst X (nI 5) 290 dL_act_289 rfl (by decide +kernel) ?_
        refine g_iconst X (nI 0) 291 dL_act_290 rfl (by decide +kernel) ?_
        refine g_iast (ws' := ((its, .inl (cI, 6, .inl (lst [col, 0, tt, wy, 0, 0]))) :: (ma, .inr (6, [.int (nI (S 0)), .int (nI (S 1)), .int (nI (S 2)), .int (nI (S 3)), .ref so, .ref wo, .ref ro, .ref fx])) :: (so, .inl (cJ, 12, refs (orf 12 sc))) :: (wo, .inl (cJ, nw, refs (orf nw wa))) :: (ro, .inl (cJ, nr, refs (orf nr ra))) :: (fx, .inl (cJ, nf, refs (orf nf fa))) :: sR cI sc wa ra fa nw nr nf S T st fe fo (gW ad cI cZ S T st fe fo nw nr nf))) X 0 0 (5) (lst [col, 0, tt, wy, 0, 0]) 292 rfl rfl (by decide) (by decide) (lst_s (k := 5) rfl rfl) dL_act_291 rfl rfl ?_
        refine g_astore X [(7, .ref its), (3, .int (nI col)), (0, .ref (ad 0)), (1, .ref ma), (2, .int x)] 294 dL_act_292 rfl (by decide) rfl ?_
        refine g_aload_n X 3 295 dL_act_294 rfl rfl rfl ?_
        refine g_aload_n X 3 296 dL_act_295 rfl rfl rfl ?_
        refine g_get X hiX6 1 6 299 rfl rfl (by decide) (List.mem_of_getElem? (i := 3) rfl) rfl dL_act_296 rfl ?_
        refine g_aload X 0 301 dL_act_299 rfl rfl ?_
        refine g_perm (ws' := ((ma, .inr (6, [.int (nI (S 0)), .int (nI (S 1)), .int (nI (S 2)), .int (nI (S 3)), .ref so, .ref wo, .ref ro, .ref fx])) :: (so, .inl (cJ, 12, refs (orf 12 sc))) :: (wo, .inl (cJ, nw, refs (orf nw wa))) :: (fx, .inl (cJ, nf, refs (orf nf fa))) :: (ro, .inl (cJ, nr, refs (orf nr ra))) :: (its, .inl (cI, 6, .inl (lst [col, 0, tt, wy, 0, 0]))) :: (rwL nr (fun i9 => (ra i9, .inl (cI, 6, .inl (vrp S st i9)))) ++ (rwL 12 (fun i9 => (sc i9, .inl (cI, 8, .inl (vcl S i9)))) ++ (rwL nw (fun i9 => (wa i9, .inl (cI, 5, .inl (vwn T i9)))) ++ (rwL nf (fun i9 => (fa i9, .inl (cI, 2, .inl (vfe fe fo i9)))) ++ (gW ad cI cZ S T st fe fo nw nr nf))))))) [] rop_p ?_
        refine g_sSr X ok_fAO hF.2 (m_X6_with l D cI cZ cJ ro its nr 6 ra (vrp S st) (lst [col, 0, tt, wy, 0, 0]) (rwL 12 (fun i9 => (sc i9, .inl (cI, 8, .inl (vcl S i9)))) ++ (rwL nw (fun i9 => (wa i9, .inl (cI, 5, .inl (vwn T i9)))) ++ (rwL nf (fun i9 => (fa i9, .inl (cI, 2, .inl (vfe fe fo i9)))) ++ (gW ad cI cZ S T st fe fo nw nr nf)))) hn) 304 2 13 [(ma, .inr (6, [.int (nI (S 0)), .int (nI (S 1)), .int (nI (S 2)), .int (nI (S 3)), .ref so, .ref wo, .ref ro, .ref fx])), (so, .inl (cJ, 12, refs (orf 12 sc))), (wo, .inl (cJ, nw, refs (orf nw wa))), (fx, .inl (cJ, nf, refs (orf nf fa)))] rfl gL_act_X6_with rfl (n := 2) (by decide +kernel) rfl ⟨Nat.le_of_ble_eq_true rfl, Nat.le_of_ble_eq_true rfl⟩ rfl (Nat.le_of_ble_eq_true rfl) dL_act_301 rfl (Nat.le_of_ble_eq_true rfl) (Nat.le_of_ble_eq_true rfl) ⟨(Nat.le_of_ble_eq_true rfl), (Nat.le_of_ble_eq_true rfl)⟩ (fun r9 u9 h9 => ?_)
        subst h9
        refine g_eqw (ws' := ((ma, .inr (6, [.int (nI (S 0)), .int (nI (S 1)), .int (nI (S 2)), .int (nI (S 3)), .ref so, .ref wo, .ref ro, .ref fx])) :: (so, .inl (cJ, 12, refs (orf 12 sc))) :: (wo, .inl (cJ, nw, refs (orf nw wa))) :: (fx, .inl (cJ, nf, refs (orf nf fa))) :: (r9, .inl (cJ, nr + 1, refs (orf (nr + 1) (up ra nr its)))) :: (ro, .inl (cJ, nr, refs (orf nr ra))) :: (its, .inl (cI, 6, .inl (lst [col, 0, tt, wy, 0, 0]))) :: (rwL nr (fun i9 => (ra i9, .inl (cI, 6, .inl (vrp S st i9)))) ++ (rwL 12 (fun i9 => (sc i9, .inl (cI, 8, .inl (vcl S i9)))) ++ (rwL nw (fun i9 => (wa i9, .inl (cI, 5, .inl (vwn T i9)))) ++ (rwL nf (fun i9 => (fa i9, .inl (cI, 2, .inl (vfe fe fo i9)))) ++ (gW ad cI cZ S T st fe fo nw nr nf))))))) rfl ?_
        refine g_put (ws' := ((ma, .inr (6, [.int (nI (S 0)), .int (nI (S 1)), .int (nI (S 2)), .int (nI (S 3)), .ref so, .ref wo, .ref r9, .ref fx])) :: (so, .inl (cJ, 12, refs (orf 12 sc))) :: (wo, .inl (cJ, nw, refs (orf nw wa))) :: (fx, .inl (cJ, nf, refs (orf nf fa))) :: (r9, .inl (cJ, nr + 1, refs (orf (nr + 1) (up ra nr its)))) :: (ro, .inl (cJ, nr, refs (orf nr ra))) :: (its, .inl (cI, 6, .inl (lst [col, 0, tt, wy, 0, 0]))) :: (rwL nr (fun i9 => (ra i9, .inl (cI, 6, .inl (vrp S st i9)))) ++ (rwL 12 (fun i9 => (sc i9, .inl (cI, 8, .inl (vcl S i9)))) ++ (rwL nw (fun i9 => (wa i9, .inl (cI, 5, .inl (vwn T i9)))) ++ (rwL nf (fun i9 => (fa i9, .inl (cI, 2, .inl (vfe fe fo i9)))) ++ (gW ad cI cZ S T st fe fo nw nr nf))))))) X hiX6 tyX6 tyX6_ok nmX6 0 6 307 rfl rfl (by decide) (List.mem_of_getElem? (i := 3) rfl) rfl (ty := .array (.array .int)) (by decide +kernel) rfl rfl (Nat.le_of_ble_eq_true rfl) dL_act_304 rfl rfl ?_
        refine g_perm (ws' := ((ma, .inr (6, [.int (nI (S 0)), .int (nI (S 1)), .int (nI (S 2)), .int (nI (S 3)), .ref so, .ref wo, .ref r9, .ref fx])) :: (so, .inl (cJ, 12, refs (orf 12 sc))) :: (wo, .inl (cJ, nw, refs (orf nw wa))) :: (r9, .inl (cJ, nr + 1, refs (orf (nr + 1) (up ra nr its)))) :: (fx, .inl (cJ, nf, refs (orf nf fa))) :: sR cI sc wa (up ra nr its) fa nw (nr + 1) nf (ptR S nr col wy) T (up st nr tt) fe fo (gW ad cI cZ S T st fe fo nw nr nf))) [(ro, .inl (cJ, nr, refs (orf nr ra)))] (rop_q hz) ?_
        refine g_aload_n X 2 308 dL_act_307 rfl rfl rfl ?_
        refine g_iload_n X 1 309 dL_act_308 rfl rfl rfl ?_
        refine g_aload X 0 311 dL_act_309 rfl rfl ?_
        refine g_iconst X (nI 2) 312 dL_act_311 rfl (by decide +kernel) ?_
        refine g_ialdT X 5 (12 + (nw + nr)) 0 (sR cI sc wa (up ra nr its) fa nw (nr + 1) nf (ptR S nr col wy) T (up st nr tt) fe fo (gW ad cI cZ S T st fe fo nw nr nf)) (2) (nI tt) 313 rfl sR_rl rfl (by decide) (by decide) ((congrFun (lst_r hz) 2).symm) dL_act_312 rfl ?_
        refine g_aload X 0 315 dL_act_313 rfl rfl ?_
        refine g_iconst X (nI 3) 316 dL_act_315 rfl (by decide +kernel) ?_
        refine g_ialdT X 5 (12 + (nw + nr)) 0 (sR cI sc wa (up ra nr its) fa nw (nr + 1) nf (ptR S nr col wy) T (up st nr tt) fe fo (gW ad cI cZ S T st fe fo nw nr nf)) (3) (nI wy) 317 rfl sR_rl rfl (by decide) (by decide) ((congrFun (lst_r hz) 3).symm) dL_act_316 rfl ?_
        refine g_if_ne X 320 324 dL_act_317 rfl (by decide) (nz_eq (by omega)) (fun h317 => ?_) (fun h317 => ?_)
        · refine g_iconst X (nI 0) 325 dL_act_324 rfl (by decide +kernel) ?_
          refine g_eqi (y := nI (1 - wy)) (congrArg nI (by omega)) ?_
          refine g_cws (ws' := ((ma, .inr (6, [.int (nI (S 0)), .int (nI (S 1)), .int (nI (S 2)), .int (nI (S 3)), .ref so, .ref wo, .ref r9, .ref fx])) :: (so, .inl (cJ, 12, refs (orf 12 sc))) :: (wo, .inl (cJ, nw, refs (orf nw wa))) :: (r9, .inl (cJ, nr + 1, refs (orf (nr + 1) (up ra nr its)))) :: (fx, .inl (cJ, nf, refs (orf nf fa))) :: sR cI sc wa (up ra nr its) fa nw (nr + 1) nf (ptR S nr col wy) T (up st nr tt) fe fo (gW ad cI cZ (ptR S nr col wy) T (up st nr tt) fe fo nw (nr + 1) nf))) X hF.1 (cw_rope l hfl D cI cZ cJ ad S T st fe fo nw nr nf col tt wy hg.1 hnr5 hbcol ht1 ht30 (by omega) hh0) 328 3 19 [(ma, .inr (6, [.int (nI (S 0)), .int (nI (S 1)), .int (nI (S 2)), .int (nI (S 3)), .ref so, .ref wo, .ref r9, .ref fx])), (so, .inl (cJ, 12, refs (orf 12 sc))), (wo, .inl (cJ, nw, refs (orf nw wa))), (r9, .inl (cJ, nr + 1, refs (orf (nr + 1) (up ra nr its)))), (fx, .inl (cJ, nf, refs (orf nf fa)))] rfl gL_act_X5_rope rfl (n := 3) (by decide +kernel) rfl ⟨Nat.le_of_ble_eq_true rfl, Nat.le_of_ble_eq_true rfl⟩ rfl rfl (Nat.le_of_ble_eq_true rfl) dL_act_325 rfl (Nat.le_of_ble_eq_true rfl) (Nat.le_of_ble_eq_true rfl) ⟨(Nat.le_of_ble_eq_true rfl), (Nat.le_of_ble_eq_true rfl)⟩ rfl ?_
          refine g_aload_n X 3 329 dL_act_328 rfl rfl rfl ?_
          refine g_get X hiX6 0 6 332 rfl rfl (by decide) (List.mem_of_getElem? (i := 3) rfl) rfl dL_act_329 rfl ?_
          refine g_alen X 3 2 333 rfl rfl dL_act_332 rfl ?_
          refine g_iconst X (nI 1) 334 dL_act_333 rfl (by decide +kernel) ?_
          refine g_isub X (nI ((nr + 1) - 1)) 335 dL_act_334 rfl (pk_sub (by omega)) ?_
          refine g_icmp_ne X 338 342 dL_act_335 rfl (by decide) Iff.rfl (fun h9 => absurd rfl h9) (fun _ => ?_)
          refine g_iconst X (nI 1) 339 dL_act_338 rfl (by decide +kernel) ?_
          refine g_goto X 343 dL_act_339 (by decide) ?_
          refine g_eqw (ws' := ((ma, .inr (6, [.int (nI ((ptR S nr col wy) 0)), .int (nI ((ptR S nr col wy) 1)), .int (nI ((ptR S nr col wy) 2)), .int (nI ((ptR S nr col wy) 3)), .ref so, .ref wo, .ref r9, .ref fx])) :: (so, .inl (cJ, 12, refs (orf 12 sc))) :: (wo, .inl (cJ, nw, refs (orf nw wa))) :: (r9, .inl (cJ, nr + 1, refs (orf (nr + 1) (up ra nr its)))) :: (fx, .inl (cJ, nf, refs (orf nf fa))) :: sR cI sc wa (up ra nr its) fa nw (nr + 1) nf (ptR S nr col wy) T (up st nr tt) fe fo (gW ad cI cZ (ptR S nr col wy) T (up st nr tt) fe fo nw (nr + 1) nf))) (by rw [ptR_lo (k := 0) (by decide), ptR_lo (k := 1) (by decide), ptR_lo (k := 2) (by decide), ptR_lo (k := 3) (by decide)]) ?_
          refine g_w (kc' := rm_L_act.cells) (ks' := rm_L_act.slots) (by have h9 : rm_L_act.cells = 25 := rfl; omega) (by have h9 : rm_L_act.slots = 78 := rfl; omega) ?_
          exact ret _ _ _ _ dL_act_343 rfl ⟨rfl, wo, r9, fx, wa, (up ra nr its), fa, nw, (nr + 1), nf, (ptR S nr col wy), T, (up st nr tt), fe, fo, iv_w (iv_rope hI hnr5 hbcol ht1 ht30 (by omega) hh0) (by omega), rfl⟩
        · refine g_iconst X (nI 1) 321 dL_act_320 rfl (by decide +kernel) ?_
          refine g_goto X 325 dL_act_321 (by decide) ?_
          refine g_eqi (y := nI (1 - wy)) (congrArg nI (by omega)) ?_
          refine g_cws (ws' := ((ma, .inr (6, [.int (nI (S 0)), .int (nI (S 1)), .int (nI (S 2)), .int (nI (S 3)), .ref so, .ref wo, .ref r9, .ref fx])) :: (so, .inl (cJ, 12, refs (orf 12 sc))) :: (wo, .inl (cJ, nw, refs (orf nw wa))) :: (r9, .inl (cJ, nr + 1, refs (orf (nr + 1) (up ra nr its)))) :: (fx, .inl (cJ, nf, refs (orf nf fa))) :: sR cI sc wa (up ra nr its) fa nw (nr + 1) nf (ptR S nr col wy) T (up st nr tt) fe fo (gW ad cI cZ (ptR S nr col wy) T (up st nr tt) fe fo nw (nr + 1) nf))) X hF.1 (cw_rope l hfl D cI cZ cJ ad S T st fe fo nw nr nf col tt wy hg.1 hnr5 hbcol ht1 ht30 (by omega) hh0) 328 3 19 [(ma, .inr (6, [.int (nI (S 0)), .int (nI (S 1)), .int (nI (S 2)), .int (nI (S 3)), .ref so, .ref wo, .ref r9, .ref fx])), (so, .inl (cJ, 12, refs (orf 12 sc))), (wo, .inl (cJ, nw, refs (orf nw wa))), (r9, .inl (cJ, nr + 1, refs (orf (nr + 1) (up ra nr its)))), (fx, .inl (cJ, nf, refs (orf nf fa)))] rfl gL_act_X5_rope rfl (n := 3) (by decide +kernel) rfl ⟨Nat.le_of_ble_eq_true rfl, Nat.le_of_ble_eq_true rfl⟩ rfl rfl (Nat.le_of_ble_eq_true rfl) dL_act_325 rfl (Nat.le_of_ble_eq_true rfl) (Nat.le_of_ble_eq_true rfl) ⟨(Nat.le_of_ble_eq_true rfl), (Nat.le_of_ble_eq_true rfl)⟩ rfl ?_
          refine g_aload_n X 3 329 dL_act_328 rfl rfl rfl ?_
          refine g_get X hiX6 0 6 332 rfl rfl (by decide) (List.mem_of_getElem? (i := 3) rfl) rfl dL_act_329 rfl ?_
          refine g_alen X 3 2 333 rfl rfl dL_act_332 rfl ?_
          refine g_iconst X (nI 1) 334 dL_act_333 rfl (by decide +kernel) ?_
          refine g_isub X (nI ((nr + 1) - 1)) 335 dL_act_334 rfl (pk_sub (by omega)) ?_
          refine g_icmp_ne X 338 342 dL_act_335 rfl (by decide) Iff.rfl (fun h9 => absurd rfl h9) (fun _ => ?_)
          refine g_iconst X (nI 1) 339 dL_act_338 rfl (by decide +kernel) ?_
          refine g_goto X 343 dL_act_339 (by decide) ?_
          refine g_eqw (ws' := ((ma, .inr (6, [.int (nI ((ptR S nr col wy) 0)), .int (nI ((ptR S nr col wy) 1)), .int (nI ((ptR S nr col wy) 2)), .int (nI ((ptR S nr col wy) 3)), .ref so, .ref wo, .ref r9, .ref fx])) :: (so, .inl (cJ, 12, refs (orf 12 sc))) :: (wo, .inl (cJ, nw, refs (orf nw wa))) :: (r9, .inl (cJ, nr + 1, refs (orf (nr + 1) (up ra nr its)))) :: (fx, .inl (cJ, nf, refs (orf nf fa))) :: sR cI sc wa (up ra nr its) fa nw (nr + 1) nf (ptR S nr col wy) T (up st nr tt) fe fo (gW ad cI cZ (ptR S nr col wy) T (up st nr tt) fe fo nw (nr + 1) nf))) (by rw [ptR_lo (k := 0) (by decide), ptR_lo (k := 1) (by decide), ptR_lo (k := 2) (by decide), ptR_lo (k := 3) (by decide)]) ?_
          refine g_w (kc' := rm_L_act.cells) (ks' := rm_L_act.slots) (by have h9 : rm_L_act.cells = 25 := rfl; omega) (by have h9 : rm_L_act.slots = 78 := rfl; omega) ?_
          exact ret _ _ _ _ dL_act_343 rfl ⟨rfl, wo, r9, fx, wa, (up ra nr its), fa, nw, (nr + 1), nf, (ptR S nr col wy), T, (up st nr tt), fe, fo, iv_w (iv_rope hI hnr5 hbcol ht1 ht30 (by omega) hh0) (by omega), rfl⟩
  have K344 : G p l e rm_L_act s m args below meth c Q D A 17 0 0 ((ma, .inr (6, [.int (nI (S 0)), .int (nI (S 1)), .int (nI (S 2)), .int (nI (S 3)), .ref so, .ref wo, .ref ro, .ref fx])) :: (so, .inl (cJ, 12, refs (orf 12 sc))) :: (wo, .inl (cJ, nw, refs (orf nw wa))) :: (ro, .inl (cJ, nr, refs (orf nr ra))) :: (fx, .inl (cJ, nf, refs (orf nf fa))) :: sR cI sc wa ra fa nw nr nf S T st fe fo (gW ad cI cZ S T st fe fo nw nr nf)) [(3, .int (nI col)), (0, .ref (ad 0)), (1, .ref ma), (2, .int x)] 344 [] := by
    refine g_aload_n X 2 345 dL_act_344 rfl rfl rfl ?_
    refine g_get X hiX6 0 7 348 rfl rfl (by decide) (List.mem_of_getElem? (i := 4) rfl) rfl dL_act_345 rfl ?_
    refine g_alen X 4 2 349 rfl rfl dL_act_348 rfl ?_
    refine g_iconst X (nI 4) 350 dL_act_349 rfl (by decide +kernel) ?_
    refine g_icmp_ne X 353 355 dL_act_350 rfl (by decide) (nI_eq (by omega) (by omega)) (fun h4 => ?_) (fun h4 => ?_)
    · have hnf3 : nf < 4 := by omega
      refine g_iconst X (nI 2) 356 dL_act_355 rfl (by decide +kernel) ?_
      refine g_iload_n X 3 357 dL_act_356 rfl rfl rfl ?_
      refine g_iconst X (nI 1) 358 dL_act_357 rfl (by decide +kernel) ?_
      refine g_ishr X 359 dL_act_358 rfl ?_
      refine g_bipush X (nI 29) 361 dL_act_359 rfl (by decide +kernel) ?_
      refine g_s0i X okT trivial (m_L_below l D cI cZ cJ (x >>> ((nI 1) &&& 31)) 29 (by omega) (by omega)) 364 0 0 gL_act_L_below rfl (n := 2) (by decide +kernel) rfl ⟨Nat.le_of_ble_eq_true rfl, Nat.le_of_ble_eq_true rfl⟩ rfl (Nat.le_of_ble_eq_true rfl) dL_act_361 rfl (Nat.le_refl _) (Nat.le_refl _) ⟨(Nat.le_of_ble_eq_true rfl), (Nat.le_of_ble_eq_true rfl)⟩ (fun r9 u9 h9 => ?_)
      obtain ⟨rfl, -⟩ := h9
      obtain ⟨eq9, heq9⟩ : ∃ eq9 : Nat, bw (x >>> ((nI 1) &&& 31)) 29 = eq9 := ⟨_, rfl⟩
      have hbeq9 : eq9 < 29 := by rw [← heq9]; exact bw_lt (by decide)
      refine g_eqi (y := nI eq9) (congrArg nI heq9) ?_
      refine g_iadd X (nI (2 + eq9)) 365 dL_act_364 rfl (nI_add _ _) ?_
      obtain ⟨ev, hee, he2, he30⟩ : ∃ ev : Nat, 2 + eq9 = ev ∧ 2 ≤ ev ∧ ev ≤ 30 := ⟨_, rfl, by omega, by omega⟩
      refine g_eqi (y := nI ev) (congrArg nI hee) ?_
      refine g_istore X [(8, .int (nI ev)), (3, .int (nI col)), (0, .ref (ad 0)), (1, .ref ma), (2, .int x)] 367 dL_act_365 rfl (by decide) rfl ?_
      refine g_aload_n X 3 368 dL_act_367 rfl rfl rfl ?_
      refine g_aload_n X 3 369 dL_act_368 rfl rfl rfl ?_
      refine g_get X hiX6 0 7 372 rfl rfl (by decide) (List.mem_of_getElem? (i := 4) rfl) rfl dL_act_369 rfl ?_
      refine g_iconst X (nI 2) 373 dL_act_372 rfl (by decide +kernel) ?_
      refine g_newf (ty := .int) X 0 (2) (2, .inl (fun _ => 0)) 375 rfl rfl va_u_int (List.mem_of_getElem? (i := 2) rfl) (fun _ => rfl) (by decide) (Nat.le_of_ble_eq_true rfl) (Nat.le_of_ble_eq_true rfl) (Nat.le_of_ble_eq_true rfl) dL_act_373 rfl (fun its => ?_)
      refine g_eqw (ws' := ((its, .inl (cI, 2, .inl (lst []))) :: (ma, .inr (6, [.int (nI (S 0)), .int (nI (S 1)), .int (nI (S 2)), .int (nI (S 3)), .ref so, .ref wo, .ref ro, .ref fx])) :: (so, .inl (cJ, 12, refs (orf 12 sc))) :: (wo, .inl (cJ, nw, refs (orf nw wa))) :: (ro, .inl (cJ, nr, refs (orf nr ra))) :: (fx, .inl (cJ, nf, refs (orf nf fa))) :: sR cI sc wa ra fa nw nr nf S T st fe fo (gW ad cI cZ S T st fe fo nw nr nf))) (by rw [← lst_0]) ?_
      refine g_dup X 376 dL_act_375 rfl rfl ?_
      refine g_iconst X (nI 0) 377 dL_act_376 rfl (by decide +kernel) ?_
      refine g_iload X 0 379 dL_act_377 rfl rfl ?_
      refine g_iast (ws' := ((its, .inl (cI, 2, .inl (lst [ev]))) :: (ma, .inr (6, [.int (nI (S 0)), .int (nI (S 1)), .int (nI (S 2)), .int (nI (S 3)), .ref so, .ref wo, .ref ro, .ref fx])) :: (so, .inl (cJ, 12, refs (orf 12 sc))) :: (wo, .inl (cJ, nw, refs (orf nw wa))) :: (ro, .inl (cJ, nr, refs (orf nr ra))) :: (fx, .inl (cJ, nf, refs (orf nf fa))) :: sR cI sc wa ra fa nw nr nf S T st fe fo (gW ad cI cZ S T st fe fo nw nr nf))) X 0 0 (0) (lst [ev]) 380 rfl rfl (by decide) (by decide) (lst_s (k := 0) rfl rfl) dL_act_379 rfl rfl ?_
      refine g_dup X 381 dL_act_380 rfl rfl ?_
      refine g_iconst X (nI 1) 382 dL_act_381 rfl (by decide +kernel) ?_
      refine g_iload_n X 4 383 dL_act_382 rfl rfl rfl ?_
      refine g_iconst X (nI 4) 384 dL_act_383 rfl (by decide +kernel) ?_
      refine g_ishr X 385 dL_act_384 rfl ?_
      refine g_iload X 0 387 dL_act_385 rfl rfl ?_
      refine g_s0i X okT trivial (m_L_below l D cI cZ cJ (x >>> ((nI 4) &&& 31)) ev (by omega) (by omega)) 390 1 2 gL_act_L_below rfl (n := 2) (by decide +kernel) rfl ⟨Nat.le_of_ble_eq_true rfl, Nat.le_of_ble_eq_true rfl⟩ rfl (Nat.le_of_ble_eq_true rfl) dL_act_387 rfl (Nat.le_refl _) (Nat.le_refl _) ⟨(Nat.le_of_ble_eq_true rfl), (Nat.le_of_ble_eq_true rfl)⟩ (fun r9 u9 h9 => ?_)
      obtain ⟨rfl, -⟩ := h9
      obtain ⟨on, hon⟩ : ∃ on : Nat, bw (x >>> ((nI 4) &&& 31)) ev = on := ⟨_, rfl⟩
      have hbon : on < ev := by rw [← hon]; exact bw_lt (by omega)
      refine g_eqi (y := nI on) (congrArg nI hon) ?_
      refine g_iast (ws' := ((its, .inl (cI, 2, .inl (lst [ev, on]))) :: (ma, .inr (6, [.int (nI (S 0)), .int (nI (S 1)), .int (nI (S 2)), .int (nI (S 3)), .ref so, .ref wo, .ref ro, .ref fx])) :: (so, .inl (cJ, 12, refs (orf 12 sc))) :: (wo, .inl (cJ, nw, refs (orf nw wa))) :: (ro, .inl (cJ, nr, refs (orf nr ra))) :: (fx, .inl (cJ, nf, refs (orf nf fa))) :: sR cI sc wa ra fa nw nr nf S T st fe fo (gW ad cI cZ S T st fe fo nw nr nf))) X 0 0 (1) (lst [ev, on]) 391 rfl rfl (by decide) (by decide) (lst_s (k := 1) rfl rfl) dL_act_390 rfl rfl ?_
      refine g_perm (ws' := ((ma, .inr (6, [.int (nI (S 0)), .int (nI (S 1)), .int (nI (S 2)), .int (nI (S 3)), .ref so, .ref wo, .ref ro, .ref fx])) :: (so, .inl (cJ, 12, refs (orf 12 sc))) :: (wo, .inl (cJ, nw, refs (orf nw wa))) :: (ro, .inl (cJ, nr, refs (orf nr ra))) :: (fx, .inl (cJ, nf, refs (orf nf fa))) :: (its, .inl (cI, 2, .inl (lst [ev, on]))) :: (rwL nf (fun i9 => (fa i9, .inl (cI, 2, .inl (vfe fe fo i9)))) ++ (rwL 12 (fun i9 => (sc i9, .inl (cI, 8, .inl (vcl S i9)))) ++ (rwL nw (fun i9 => (wa i9, .inl (cI, 5, .inl (vwn T i9)))) ++ (rwL nr (fun i9 => (ra i9, .inl (cI, 6, .inl (vrp S st i9)))) ++ (gW ad cI cZ S T st fe fo nw nr nf))))))) [] fea_p ?_
      refine g_sSr X ok_fAO hF.2 (m_X6_with l D cI cZ cJ fx its nf 2 fa (vfe fe fo) (lst [ev, on]) (rwL 12 (fun i9 => (sc i9, .inl (cI, 8, .inl (vcl S i9)))) ++ (rwL nw (fun i9 => (wa i9, .inl (cI, 5, .inl (vwn T i9)))) ++ (rwL nr (fun i9 => (ra i9, .inl (cI, 6, .inl (vrp S st i9)))) ++ (gW ad cI cZ S T st fe fo nw nr nf)))) (by omega)) 394 2 9 [(ma, .inr (6, [.int (nI (S 0)), .int (nI (S 1)), .int (nI (S 2)), .int (nI (S 3)), .ref so, .ref wo, .ref ro, .ref fx])), (so, .inl (cJ, 12, refs (orf 12 sc))), (wo, .inl (cJ, nw, refs (orf nw wa))), (ro, .inl (cJ, nr, refs (orf nr ra)))] rfl gL_act_X6_with rfl (n := 2) (by decide +kernel) rfl ⟨Nat.le_of_ble_eq_true rfl, Nat.le_of_ble_eq_true rfl⟩ rfl (Nat.le_of_ble_eq_true rfl) dL_act_391 rfl (Nat.le_of_ble_eq_true rfl) (Nat.le_of_ble_eq_true rfl) ⟨(Nat.le_of_ble_eq_true rfl), (Nat.le_of_ble_eq_true rfl)⟩ (fun r9 u9 h9 => ?_)
      subst h9
      refine g_eqw (ws' := ((ma, .inr (6, [.int (nI (S 0)), .int (nI (S 1)), .int (nI (S 2)), .int (nI (S 3)), .ref so, .ref wo, .ref ro, .ref fx])) :: (so, .inl (cJ, 12, refs (orf 12 sc))) :: (wo, .inl (cJ, nw, refs (orf nw wa))) :: (ro, .inl (cJ, nr, refs (orf nr ra))) :: (r9, .inl (cJ, nf + 1, refs (orf (nf + 1) (up fa nf its)))) :: (fx, .inl (cJ, nf, refs (orf nf fa))) :: (its, .inl (cI, 2, .inl (lst [ev, on]))) :: (rwL nf (fun i9 => (fa i9, .inl (cI, 2, .inl (vfe fe fo i9)))) ++ (rwL 12 (fun i9 => (sc i9, .inl (cI, 8, .inl (vcl S i9)))) ++ (rwL nw (fun i9 => (wa i9, .inl (cI, 5, .inl (vwn T i9)))) ++ (rwL nr (fun i9 => (ra i9, .inl (cI, 6, .inl (vrp S st i9)))) ++ (gW ad cI cZ S T st fe fo nw nr nf))))))) rfl ?_
      refine g_put (ws' := ((ma, .inr (6, [.int (nI (S 0)), .int (nI (S 1)), .int (nI (S 2)), .int (nI (S 3)), .ref so, .ref wo, .ref ro, .ref r9])) :: (so, .inl (cJ, 12, refs (orf 12 sc))) :: (wo, .inl (cJ, nw, refs (orf nw wa))) :: (ro, .inl (cJ, nr, refs (orf nr ra))) :: (r9, .inl (cJ, nf + 1, refs (orf (nf + 1) (up fa nf its)))) :: (fx, .inl (cJ, nf, refs (orf nf fa))) :: (its, .inl (cI, 2, .inl (lst [ev, on]))) :: (rwL nf (fun i9 => (fa i9, .inl (cI, 2, .inl (vfe fe fo i9)))) ++ (rwL 12 (fun i9 => (sc i9, .inl (cI, 8, .inl (vcl S i9)))) ++ (rwL nw (fun i9 => (wa i9, .inl (cI, 5, .inl (vwn T i9)))) ++ (rwL nr (fun i9 => (ra i9, .inl (cI, 6, .inl (vrp S st i9)))) ++ (gW ad cI cZ S T st fe fo nw nr nf))))))) X hiX6 tyX6 tyX6_ok nmX6 0 7 397 rfl rfl (by decide) (List.mem_of_getElem? (i := 4) rfl) rfl (ty := .array (.array .int)) (by decide +kernel) rfl rfl (Nat.le_of_ble_eq_true rfl) dL_act_394 rfl rfl ?_
      refine g_perm (ws' := ((ma, .inr (6, [.int (nI (S 0)), .int (nI (S 1)), .int (nI (S 2)), .int (nI (S 3)), .ref so, .ref wo, .ref ro, .ref r9])) :: (so, .inl (cJ, 12, refs (orf 12 sc))) :: (wo, .inl (cJ, nw, refs (orf nw wa))) :: (ro, .inl (cJ, nr, refs (orf nr ra))) :: (r9, .inl (cJ, nf + 1, refs (orf (nf + 1) (up fa nf its)))) :: sR cI sc wa ra (up fa nf its) nw nr (nf + 1) S T st (up fe nf ev) (up fo nf on) (gW ad cI cZ S T st fe fo nw nr nf))) [(fx, .inl (cJ, nf, refs (orf nf fa)))] fea_q ?_
      refine g_aload_n X 2 398 dL_act_397 rfl rfl rfl ?_
      refine g_iload X 0 400 dL_act_398 rfl rfl ?_
      refine g_iload_n X 4 401 dL_act_400 rfl rfl rfl ?_
      refine g_iconst X (nI 4) 402 dL_act_401 rfl (by decide +kernel) ?_
      refine g_ishr X 403 dL_act_402 rfl ?_
      refine g_iload X 0 405 dL_act_403 rfl rfl ?_
      refine g_s0i X okT trivial (m_L_below l D cI cZ cJ (x >>> ((nI 4) &&& 31)) ev (by omega) (by omega)) 408 2 9 gL_act_L_below rfl (n := 2) (by decide +kernel) rfl ⟨Nat.le_of_ble_eq_true rfl, Nat.le_of_ble_eq_true rfl⟩ rfl (Nat.le_of_ble_eq_true rfl) dL_act_405 rfl (Nat.le_refl _) (Nat.le_refl _) ⟨(Nat.le_of_ble_eq_true rfl), (Nat.le_of_ble_eq_true rfl)⟩ (fun r9 u9 h9 => ?_)
      obtain ⟨rfl, -⟩ := h9
      refine g_eqi (y := nI on) (congrArg nI hon) ?_
      refine g_cws (ws' := ((ma, .inr (6, [.int (nI (S 0)), .int (nI (S 1)), .int (nI (S 2)), .int (nI (S 3)), .ref so, .ref wo, .ref ro, .ref r9])) :: (so, .inl (cJ, 12, refs (orf 12 sc))) :: (wo, .inl (cJ, nw, refs (orf nw wa))) :: (ro, .inl (cJ, nr, refs (orf nr ra))) :: (r9, .inl (cJ, nf + 1, refs (orf (nf + 1) (up fa nf its)))) :: sR cI sc wa ra (up fa nf its) nw nr (nf + 1) S T st (up fe nf ev) (up fo nf on) (gW ad cI cZ S T st (up fe nf ev) (up fo nf on) nw nr (nf + 1)))) X hF.1 (cw_feast l hfl D cI cZ cJ ad S T st fe fo nw nr nf ev on hnf3 he2 he30 hbon) 411 3 15 [(ma, .inr (6, [.int (nI (S 0)), .int (nI (S 1)), .int (nI (S 2)), .int (nI (S 3)), .ref so, .ref wo, .ref ro, .ref r9])), (so, .inl (cJ, 12, refs (orf 12 sc))), (wo, .inl (cJ, nw, refs (orf nw wa))), (ro, .inl (cJ, nr, refs (orf nr ra))), (r9, .inl (cJ, nf + 1, refs (orf (nf + 1) (up fa nf its))))] rfl gL_act_X5_feast rfl (n := 2) (by decide +kernel) rfl ⟨Nat.le_of_ble_eq_true rfl, Nat.le_of_ble_eq_true rfl⟩ rfl rfl (Nat.le_of_ble_eq_true rfl) dL_act_408 rfl (Nat.le_of_ble_eq_true rfl) (Nat.le_of_ble_eq_true rfl) ⟨(Nat.le_of_ble_eq_true rfl), (Nat.le_of_ble_eq_true rfl)⟩ rfl ?_
      refine g_aload_n X 3 412 dL_act_411 rfl rfl rfl ?_
      refine g_get X hiX6 0 7 415 rfl rfl (by decide) (List.mem_of_getElem? (i := 4) rfl) rfl dL_act_412 rfl ?_
      refine g_alen X 4 2 416 rfl rfl dL_act_415 rfl ?_
      refine g_iconst X (nI 1) 417 dL_act_416 rfl (by decide +kernel) ?_
      refine g_isub X (nI ((nf + 1) - 1)) 418 dL_act_417 rfl (pk_sub (by omega)) ?_
      refine g_icmp_ne X 421 425 dL_act_418 rfl (by decide) Iff.rfl (fun h9 => absurd rfl h9) (fun _ => ?_)
      refine g_iconst X (nI 1) 422 dL_act_421 rfl (by decide +kernel) ?_
      refine g_goto X 426 dL_act_422 (by decide) ?_
      refine g_w (kc' := rm_L_act.cells) (ks' := rm_L_act.slots) (by have h9 : rm_L_act.cells = 25 := rfl; omega) (by have h9 : rm_L_act.slots = 78 := rfl; omega) ?_
      exact ret _ _ _ _ dL_act_426 rfl ⟨rfl, wo, ro, r9, wa, ra, (up fa nf its), nw, nr, (nf + 1), S, T, st, (up fe nf ev), (up fo nf on), iv_w (iv_feast hI hnf3 he2 he30 hbon) (by omega), rfl⟩
    · refine g_iconst X (nI 1) 354 dL_act_353 rfl (by decide +kernel) ?_
      refine g_w (kc' := rm_L_act.cells) (ks' := rm_L_act.slots) (by have h9 : rm_L_act.cells = 25 := rfl; omega) (by have h9 : rm_L_act.slots = 78 := rfl; omega) ?_
      exact ret _ _ _ _ dL_act_354 rfl ⟨rfl, wo, ro, fx, wa, ra, fa, nw, nr, nf, S, T, st, fe, fo, iv_w hI (by omega), rfl⟩
  have K427 : G p l e rm_L_act s m args below meth c Q D A 17 0 0 ((ma, .inr (6, [.int (nI (S 0)), .int (nI (S 1)), .int (nI (S 2)), .int (nI (S 3)), .ref so, .ref wo, .ref ro, .ref fx])) :: (so, .inl (cJ, 12, refs (orf 12 sc))) :: (wo, .inl (cJ, nw, refs (orf nw wa))) :: (ro, .inl (cJ, nr, refs (orf nr ra))) :: (fx, .inl (cJ, nf, refs (orf nf fa))) :: sR cI sc wa ra fa nw nr nf S T st fe fo (gW ad cI cZ S T st fe fo nw nr nf)) [(3, .int (nI col)), (0, .ref (ad 0)), (1, .ref ma), (2, .int x)] 427 [] := by
    refine g_aload_n X 2 428 dL_act_427 rfl rfl rfl ?_
    refine g_get X hiX6 0 1 431 rfl rfl (by decide) (List.mem_of_getElem? (i := 5) rfl) rfl dL_act_428 rfl ?_
    refine g_istore X [(9, .int (nI (S 1))), (3, .int (nI col)), (0, .ref (ad 0)), (1, .ref ma), (2, .int x)] 433 dL_act_431 rfl (by decide) rfl ?_
    refine g_aload_n X 3 434 dL_act_433 rfl rfl rfl ?_
    refine g_iload_n X 4 435 dL_act_434 rfl rfl rfl ?_
    refine g_iconst X (nI 2) 436 dL_act_435 rfl (by decide +kernel) ?_
    refine g_ishr X 437 dL_act_436 rfl ?_
    refine g_bipush X (nI 11) 439 dL_act_437 rfl (by decide +kernel) ?_
    refine g_s0i X okT trivial (m_L_below l D cI cZ cJ (x >>> ((nI 2) &&& 31)) 11 (by omega) (by omega)) 442 0 0 gL_act_L_below rfl (n := 2) (by decide +kernel) rfl ⟨Nat.le_of_ble_eq_true rfl, Nat.le_of_ble_eq_true rfl⟩ rfl (Nat.le_of_ble_eq_true rfl) dL_act_439 rfl (Nat.le_refl _) (Nat.le_refl _) ⟨(Nat.le_of_ble_eq_true rfl), (Nat.le_of_ble_eq_true rfl)⟩ (fun r9 u9 h9 => ?_)
    obtain ⟨rfl, -⟩ := h9
    obtain ⟨wq, hwq⟩ : ∃ wq : Nat, bw (x >>> ((nI 2) &&& 31)) 11 = wq := ⟨_, rfl⟩
    have hbwq : wq < 11 := by rw [← hwq]; exact bw_lt (by decide)
    refine g_eqi (y := nI wq) (congrArg nI hwq) ?_
    refine g_iconst X (nI 5) 443 dL_act_442 rfl (by decide +kernel) ?_
    refine g_isub X ((nI wq) - (nI 5)) 444 dL_act_443 rfl rfl ?_
    obtain ⟨wv, hwv⟩ : ∃ wv : Int32, nI wq - nI 5 = wv := ⟨_, rfl⟩
    refine g_eqi (y := wv) hwv ?_
    have hwi : inR wv (nIm 5) (nI 5) := by rw [← hwv]; exact wind_in (by omega)
    refine g_put (ws' := ((ma, .inr (6, [.int (nI (S 0)), .int wv, .int (nI (S 2)), .int (nI (S 3)), .ref so, .ref wo, .ref ro, .ref fx])) :: (so, .inl (cJ, 12, refs (orf 12 sc))) :: (wo, .inl (cJ, nw, refs (orf nw wa))) :: (ro, .inl (cJ, nr, refs (orf nr ra))) :: (fx, .inl (cJ, nf, refs (orf nf fa))) :: sR cI sc wa ra fa nw nr nf S T st fe fo (gW ad cI cZ S T st fe fo nw nr nf))) X hiX6 tyX6 tyX6_ok nmX6 0 1 447 rfl rfl (by decide) (List.mem_of_getElem? (i := 5) rfl) rfl (ty := .int) (by decide +kernel) rfl rfl (Nat.le_of_ble_eq_true rfl) dL_act_444 rfl rfl ?_
    refine g_aload_n X 2 448 dL_act_447 rfl rfl rfl ?_
    refine g_aload_n X 3 449 dL_act_448 rfl rfl rfl ?_
    refine g_get X hiX6 0 1 452 rfl rfl (by decide) (List.mem_of_getElem? (i := 5) rfl) rfl dL_act_449 rfl ?_
    refine g_cws (ws' := ((ma, .inr (6, [.int (nI (S 0)), .int wv, .int (nI (S 2)), .int (nI (S 3)), .ref so, .ref wo, .ref ro, .ref fx])) :: (so, .inl (cJ, 12, refs (orf 12 sc))) :: (wo, .inl (cJ, nw, refs (orf nw wa))) :: (ro, .inl (cJ, nr, refs (orf nr ra))) :: (fx, .inl (cJ, nf, refs (orf nf fa))) :: sR cI sc wa ra fa nw nr nf S T st fe fo (gW ad cI cZ (up S 1 (wdN wv)) T st fe fo nw nr nf))) X hF.1 (cw_setWind l hfl D cI cZ cJ ad S T st fe fo nw nr nf wv hwi) 455 1 6 [(ma, .inr (6, [.int (nI (S 0)), .int wv, .int (nI (S 2)), .int (nI (S 3)), .ref so, .ref wo, .ref ro, .ref fx])), (so, .inl (cJ, 12, refs (orf 12 sc))), (wo, .inl (cJ, nw, refs (orf nw wa))), (ro, .inl (cJ, nr, refs (orf nr ra))), (fx, .inl (cJ, nf, refs (orf nf fa)))] rfl gL_act_X5_setWind rfl (n := 1) (by decide +kernel) rfl ⟨Nat.le_of_ble_eq_true rfl, Nat.le_of_ble_eq_true rfl⟩ rfl rfl (Nat.le_of_ble_eq_true rfl) dL_act_452 rfl (Nat.le_of_ble_eq_true rfl) (Nat.le_of_ble_eq_true rfl) ⟨(Nat.le_of_ble_eq_true rfl), (Nat.le_of_ble_eq_true rfl)⟩ rfl ?_
    refine g_iload X 0 457 dL_act_455 rfl rfl ?_
    refine g_icmp_ne X 460 464 dL_act_457 rfl (by decide) Iff.rfl (fun h9 => absurd rfl h9) (fun _ => ?_)
    refine g_iconst X (nI 1) 461 dL_act_460 rfl (by decide +kernel) ?_
    refine g_goto X 465 dL_act_461 (by decide) ?_
    refine g_eqw (ws' := ((ma, .inr (6, [.int (nI ((up S 1 (wdN wv)) 0)), .int (nI ((up S 1 (wdN wv)) 1)), .int (nI ((up S 1 (wdN wv)) 2)), .int (nI ((up S 1 (wdN wv)) 3)), .ref so, .ref wo, .ref ro, .ref fx])) :: (so, .inl (cJ, 12, refs (orf 12 sc))) :: (wo, .inl (cJ, nw, refs (orf nw wa))) :: (ro, .inl (cJ, nr, refs (orf nr ra))) :: (fx, .inl (cJ, nf, refs (orf nf fa))) :: sR cI sc wa ra fa nw nr nf (up S 1 (wdN wv)) T st fe fo (gW ad cI cZ (up S 1 (wdN wv)) T st fe fo nw nr nf))) (by rw [up_s, wdN_nI, up_n (j := 0) (by decide), up_n (j := 2) (by decide), up_n (j := 3) (by decide), ← sR_lo (p := 1) (by decide)]) ?_
    refine g_w (kc' := rm_L_act.cells) (ks' := rm_L_act.slots) (by have h9 : rm_L_act.cells = 25 := rfl; omega) (by have h9 : rm_L_act.slots = 78 := rfl; omega) ?_
    exact ret _ _ _ _ dL_act_465 rfl ⟨rfl, wo, ro, fx, wa, ra, fa, nw, nr, nf, (up S 1 (wdN wv)), T, st, fe, fo, iv_w (iv_lo hI rfl (wdN_ok hwi)) (by omega), rfl⟩
  have K466 : G p l e rm_L_act s m args below meth c Q D A 17 0 0 ((ma, .inr (6, [.int (nI (S 0)), .int (nI (S 1)), .int (nI (S 2)), .int (nI (S 3)), .ref so, .ref wo, .ref ro, .ref fx])) :: (so, .inl (cJ, 12, refs (orf 12 sc))) :: (wo, .inl (cJ, nw, refs (orf nw wa))) :: (ro, .inl (cJ, nr, refs (orf nr ra))) :: (fx, .inl (cJ, nf, refs (orf nf fa))) :: sR cI sc wa ra fa nw nr nf S T st fe fo (gW ad cI cZ S T st fe fo nw nr nf)) [(3, .int (nI col)), (0, .ref (ad 0)), (1, .ref ma), (2, .int x)] 466 [] := by
    refine g_aload_n X 2 467 dL_act_466 rfl rfl rfl ?_
    refine g_get X hiX6 0 6 470 rfl rfl (by decide) (List.mem_of_getElem? (i := 3) rfl) rfl dL_act_467 rfl ?_
    refine g_alen X 3 2 471 rfl rfl dL_act_470 rfl ?_
    refine g_if_eq X 474 482 dL_act_471 rfl (by decide) (nz_eq (by omega)) (fun h0 => ?_) (fun h0 => ?_)
    · refine g_iconst X (nI 1) 483 dL_act_482 rfl (by decide +kernel) ?_
      refine g_w (kc' := rm_L_act.cells) (ks' := rm_L_act.slots) (by have h9 : rm_L_act.cells = 25 := rfl; omega) (by have h9 : rm_L_act.slots = 78 := rfl; omega) ?_
      exact ret _ _ _ _ dL_act_483 rfl ⟨rfl, wo, ro, fx, wa, ra, fa, nw, nr, nf, S, T, st, fe, fo, iv_w hI (by omega), rfl⟩
    · refine g_aload_n X 2 475 dL_act_474 rfl rfl rfl ?_
      refine g_iload_n X 0 476 dL_act_475 rfl rfl rfl ?_
      refine g_sVi X okT trivial (m_X6_ropeAt l D cI cZ cJ ma so wo ro fx sc wa ra fa nw nr nf S T st fe fo S (gW ad cI cZ S T st fe fo nw nr nf) col hg.1 hbcol) 479 0 0 [] rfl gL_act_X6_ropeAt rfl (n := 1) (by decide +kernel) rfl ⟨Nat.le_of_ble_eq_true rfl, Nat.le_of_ble_eq_true rfl⟩ (ci := 6) 0 rfl rfl rfl (Nat.le_of_ble_eq_true rfl) dL_act_476 rfl (Nat.le_of_ble_eq_true rfl) (Nat.le_of_ble_eq_true rfl) ⟨(Nat.le_of_ble_eq_true rfl), (Nat.le_of_ble_eq_true rfl)⟩ (fun r9 u9 h9 => ?_)
      obtain ⟨hra, rfl⟩ := h9
      refine g_eqw (ws' := ((ma, .inr (6, [.int (nI (S 0)), .int (nI (S 1)), .int (nI (S 2)), .int (nI (S 3)), .ref so, .ref wo, .ref ro, .ref fx])) :: (so, .inl (cJ, 12, refs (orf 12 sc))) :: (wo, .inl (cJ, nw, refs (orf nw wa))) :: (ro, .inl (cJ, nr, refs (orf nr ra))) :: (fx, .inl (cJ, nf, refs (orf nf fa))) :: sR cI sc wa ra fa nw nr nf S T st fe fo (gW ad cI cZ S T st fe fo nw nr nf))) rfl ?_
      obtain ⟨-, k9, hk9, rfl⟩ | ⟨hh0, rfl⟩ := hra
      · refine g_if_lt X 482 484 dL_act_479 rfl (by decide) (nz_lt (by omega)) (fun h479 => False.elim h479) (fun h479 => ?_)
        refine g_iconst X (nI 1) 483 dL_act_482 rfl (by decide +kernel) ?_
        refine g_w (kc' := rm_L_act.cells) (ks' := rm_L_act.slots) (by have h9 : rm_L_act.cells = 25 := rfl; omega) (by have h9 : rm_L_act.slots = 78 := rfl; omega) ?_
        exact ret _ _ _ _ dL_act_483 rfl ⟨rfl, wo, ro, fx, wa, ra, fa, nw, nr, nf, S, T, st, fe, fo, iv_w hI (by omega), rfl⟩
      · refine g_if_lt X 482 484 dL_act_479 rfl (by decide) Iff.rfl (fun h479 => ?_) (fun h479 => absurd nIm1_lt h479)
        refine g_aload_n X 2 485 dL_act_484 rfl rfl rfl ?_
        refine g_get X hiX6 0 6 488 rfl rfl (by decide) (List.mem_of_getElem? (i := 3) rfl) rfl dL_act_485 rfl ?_
        refine g_iload_n X 3 489 dL_act_488 rfl rfl rfl ?_
        refine g_iconst X (nI 4) 490 dL_act_489 rfl (by decide +kernel) ?_
        refine g_ishr X 491 dL_act_490 rfl ?_
        refine g_aload_n X 2 492 dL_act_491 rfl rfl rfl ?_
        refine g_get X hiX6 0 6 495 rfl rfl (by decide) (List.mem_of_getElem? (i := 3) rfl) rfl dL_act_492 rfl ?_
        refine g_alen X 3 2 496 rfl rfl dL_act_495 rfl ?_
        refine g_s0i X okT trivial (m_L_below l D cI cZ cJ (x >>> ((nI 4) &&& 31)) nr (by omega) (by omega)) 499 0 0 gL_act_L_below rfl (n := 2) (by decide +kernel) rfl ⟨Nat.le_of_ble_eq_true rfl, Nat.le_of_ble_eq_true rfl⟩ rfl (Nat.le_of_ble_eq_true rfl) dL_act_496 rfl (Nat.le_refl _) (Nat.le_refl _) ⟨(Nat.le_of_ble_eq_true rfl), (Nat.le_of_ble_eq_true rfl)⟩ (fun r9 u9 h9 => ?_)
        obtain ⟨rfl, -⟩ := h9
        obtain ⟨rk, hrk⟩ : ∃ rk : Nat, bw (x >>> ((nI 4) &&& 31)) nr = rk := ⟨_, rfl⟩
        have hbrk : rk < nr := by rw [← hrk]; exact bw_lt (by omega)
        refine g_eqi (y := nI rk) (congrArg nI hrk) ?_
        refine g_aald X 3 2 (rk) (ra rk) 500 rfl rfl (by omega) (by omega) (orf_at (by omega)) dL_act_499 rfl ?_
        refine g_astore X [(10, .ref (ra rk)), (3, .int (nI col)), (0, .ref (ad 0)), (1, .ref ma), (2, .int x)] 502 dL_act_500 rfl (by decide) rfl ?_
        refine g_aload X 0 504 dL_act_502 rfl rfl ?_
        refine g_iconst X (nI 0) 505 dL_act_504 rfl (by decide +kernel) ?_
        refine g_ialdT X 5 (12 + (nw + rk)) 0 (sR cI sc wa ra fa nw nr nf S T st fe fo (gW ad cI cZ S T st fe fo nw nr nf)) (0) (nI (S (100 + 5 * rk))) 506 rfl (sR_r (by omega)) rfl (by omega) (by decide) vrp_0 dL_act_505 rfl ?_
        refine g_istore X [(11, .int (nI (S (100 + 5 * rk)))), (10, .ref (ra rk)), (3, .int (nI col)), (0, .ref (ad 0)), (1, .ref ma), (2, .int x)] 508 dL_act_506 rfl (by decide) rfl ?_
        refine g_aload X 1 510 dL_act_508 rfl rfl ?_
        refine g_iconst X (nI 0) 511 dL_act_510 rfl (by decide +kernel) ?_
        refine g_iload_n X 2 512 dL_act_511 rfl rfl rfl ?_
        refine g_iastT (ws' := ((ma, .inr (6, [.int (nI (S 0)), .int (nI (S 1)), .int (nI (S 2)), .int (nI (S 3)), .ref so, .ref wo, .ref ro, .ref fx])) :: (so, .inl (cJ, 12, refs (orf 12 sc))) :: (wo, .inl (cJ, nw, refs (orf nw wa))) :: (ro, .inl (cJ, nr, refs (orf nr ra))) :: (fx, .inl (cJ, nf, refs (orf nf fa))) :: sR cI sc wa ra fa nw nr nf (up S (100 + 5 * rk) col) T st fe fo (gW ad cI cZ S T st fe fo nw nr nf))) X 5 (12 + (nw + rk)) 0 (sR cI sc wa ra fa nw nr nf S T st fe fo (gW ad cI cZ S T st fe fo nw nr nf)) (sR cI sc wa ra fa nw nr nf (up S (100 + 5 * rk) col) T st fe fo (gW ad cI cZ S T st fe fo nw nr nf)) (0) (vrp (up S (100 + 5 * rk) col) st rk) 513 rfl (by simp) (sR_r (by omega)) rfl (by omega) (by decide) vrp_u0 (sR_rs hbrk (fun _ hj => vcl_lo hj (Or.inr (by omega))) (fun _ _ h => vrp_o (by omega))) dL_act_512 rfl rfl ?_
        refine g_aload X 1 515 dL_act_513 rfl rfl ?_
        refine g_iconst X (nI 1) 516 dL_act_515 rfl (by decide +kernel) ?_
        refine g_iconst X (nI 0) 517 dL_act_516 rfl (by decide +kernel) ?_
        refine g_iastT (ws' := ((ma, .inr (6, [.int (nI (S 0)), .int (nI (S 1)), .int (nI (S 2)), .int (nI (S 3)), .ref so, .ref wo, .ref ro, .ref fx])) :: (so, .inl (cJ, 12, refs (orf 12 sc))) :: (wo, .inl (cJ, nw, refs (orf nw wa))) :: (ro, .inl (cJ, nr, refs (orf nr ra))) :: (fx, .inl (cJ, nf, refs (orf nf fa))) :: sR cI sc wa ra fa nw nr nf (up (up S (100 + 5 * rk) col) (100 + 5 * rk + 1) 0) T st fe fo (gW ad cI cZ S T st fe fo nw nr nf))) X 5 (12 + (nw + rk)) 0 (sR cI sc wa ra fa nw nr nf (up S (100 + 5 * rk) col) T st fe fo (gW ad cI cZ S T st fe fo nw nr nf)) (sR cI sc wa ra fa nw nr nf (up (up S (100 + 5 * rk) col) (100 + 5 * rk + 1) 0) T st fe fo (gW ad cI cZ S T st fe fo nw nr nf)) (1) (vrp (up (up S (100 + 5 * rk) col) (100 + 5 * rk + 1) 0) st rk) 518 rfl (by simp) (sR_r (by omega)) rfl (by omega) (by decide) vrp_u1 (sR_rs hbrk (fun _ hj => vcl_lo hj (Or.inr (by omega))) (fun _ _ h => vrp_o (by omega))) dL_act_517 rfl rfl ?_
        refine g_aload X 1 520 dL_act_518 rfl rfl ?_
        refine g_iconst X (nI 5) 521 dL_act_520 rfl (by decide +kernel) ?_
        refine g_dup2 X 522 dL_act_521 rfl rfl rfl ?_
        refine g_ialdT X 5 (12 + (nw + rk)) 0 (sR cI sc wa ra fa nw nr nf (up (up S (100 + 5 * rk) col) (100 + 5 * rk + 1) 0) T st fe fo (gW ad cI cZ S T st fe fo nw nr nf)) (5) (nI (S (100 + 5 * rk + 4))) 523 rfl (sR_r (by omega)) rfl (by omega) (by decide) (vrp_5.trans (congrArg nI ((up_n (by omega)).trans (up_n (by omega))))) dL_act_522 rfl ?_
        refine g_iconst X (nI 1) 524 dL_act_523 rfl (by decide +kernel) ?_
        refine g_iadd X (nI ((S (100 + 5 * rk + 4)) + 1)) 525 dL_act_524 rfl (nI_add _ _) ?_
        refine g_iastT (ws' := ((ma, .inr (6, [.int (nI (S 0)), .int (nI (S 1)), .int (nI (S 2)), .int (nI (S 3)), .ref so, .ref wo, .ref ro, .ref fx])) :: (so, .inl (cJ, 12, refs (orf 12 sc))) :: (wo, .inl (cJ, nw, refs (orf nw wa))) :: (ro, .inl (cJ, nr, refs (orf nr ra))) :: (fx, .inl (cJ, nf, refs (orf nf fa))) :: sR cI sc wa ra fa nw nr nf (up (up (up S (100 + 5 * rk) col) (100 + 5 * rk + 1) 0) (100 + 5 * rk + 4) (S (100 + 5 * rk + 4) + 1)) T st fe fo (gW ad cI cZ S T st fe fo nw nr nf))) X 5 (12 + (nw + rk)) 0 (sR cI sc wa ra fa nw nr nf (up (up S (100 + 5 * rk) col) (100 + 5 * rk + 1) 0) T st fe fo (gW ad cI cZ S T st fe fo nw nr nf)) (sR cI sc wa ra fa nw nr nf (up (up (up S (100 + 5 * rk) col) (100 + 5 * rk + 1) 0) (100 + 5 * rk + 4) (S (100 + 5 * rk + 4) + 1)) T st fe fo (gW ad cI cZ S T st fe fo nw nr nf)) (5) (vrp (up (up (up S (100 + 5 * rk) col) (100 + 5 * rk + 1) 0) (100 + 5 * rk + 4) (S (100 + 5 * rk + 4) + 1)) st rk) 526 rfl (by simp) (sR_r (by omega)) rfl (by omega) (by decide) vrp_u5 (sR_rs hbrk (fun _ hj => vcl_lo hj (Or.inr (by omega))) (fun _ _ h => vrp_o (by omega))) dL_act_525 rfl rfl ?_
        refine g_eqw (ws' := ((ma, .inr (6, [.int (nI (S 0)), .int (nI (S 1)), .int (nI (S 2)), .int (nI (S 3)), .ref so, .ref wo, .ref ro, .ref fx])) :: (so, .inl (cJ, 12, refs (orf 12 sc))) :: (wo, .inl (cJ, nw, refs (orf nw wa))) :: (ro, .inl (cJ, nr, refs (orf nr ra))) :: (fx, .inl (cJ, nf, refs (orf nf fa))) :: sR cI sc wa ra fa nw nr nf (reh S rk col) T st fe fo (gW ad cI cZ S T st fe fo nw nr nf))) rfl ?_
        refine g_aload_n X 3 527 dL_act_526 rfl rfl rfl ?_
        refine g_iload_n X 5 528 dL_act_527 rfl rfl rfl ?_
        refine g_iconst X (nI 4) 529 dL_act_528 rfl (by decide +kernel) ?_
        refine g_ishr X 530 dL_act_529 rfl ?_
        refine g_aload_n X 4 531 dL_act_530 rfl rfl rfl ?_
        refine g_get X hiX6 0 6 534 rfl rfl (by decide) (List.mem_of_getElem? (i := 3) rfl) rfl dL_act_531 rfl ?_
        refine g_alen X 3 2 535 rfl rfl dL_act_534 rfl ?_
        refine g_s0i X okT trivial (m_L_below l D cI cZ cJ (x >>> ((nI 4) &&& 31)) nr (by omega) (by omega)) 538 0 0 gL_act_L_below rfl (n := 2) (by decide +kernel) rfl ⟨Nat.le_of_ble_eq_true rfl, Nat.le_of_ble_eq_true rfl⟩ rfl (Nat.le_of_ble_eq_true rfl) dL_act_535 rfl (Nat.le_refl _) (Nat.le_refl _) ⟨(Nat.le_of_ble_eq_true rfl), (Nat.le_of_ble_eq_true rfl)⟩ (fun r9 u9 h9 => ?_)
        obtain ⟨rfl, -⟩ := h9
        refine g_eqi (y := nI rk) (congrArg nI hrk) ?_
        refine g_iload_n X 2 539 dL_act_538 rfl rfl rfl ?_
        refine g_cws (ws' := ((ma, .inr (6, [.int (nI (S 0)), .int (nI (S 1)), .int (nI (S 2)), .int (nI (S 3)), .ref so, .ref wo, .ref ro, .ref fx])) :: (so, .inl (cJ, 12, refs (orf 12 sc))) :: (wo, .inl (cJ, nw, refs (orf nw wa))) :: (ro, .inl (cJ, nr, refs (orf nr ra))) :: (fx, .inl (cJ, nf, refs (orf nf fa))) :: sR cI sc wa ra fa nw nr nf (reh S rk col) T st fe fo (gW ad cI cZ (reh S rk col) T st fe fo nw nr nf))) X hF.1 (cw_move l hfl D cI cZ cJ ad S T st fe fo nw nr nf rk col hg.1 hbrk hbcol hh0) 542 1 6 [(ma, .inr (6, [.int (nI (S 0)), .int (nI (S 1)), .int (nI (S 2)), .int (nI (S 3)), .ref so, .ref wo, .ref ro, .ref fx])), (so, .inl (cJ, 12, refs (orf 12 sc))), (wo, .inl (cJ, nw, refs (orf nw wa))), (ro, .inl (cJ, nr, refs (orf nr ra))), (fx, .inl (cJ, nf, refs (orf nf fa)))] rfl gL_act_X5_move rfl (n := 2) (by decide +kernel) rfl ⟨Nat.le_of_ble_eq_true rfl, Nat.le_of_ble_eq_true rfl⟩ rfl rfl (Nat.le_of_ble_eq_true rfl) dL_act_539 rfl (Nat.le_of_ble_eq_true rfl) (Nat.le_of_ble_eq_true rfl) ⟨(Nat.le_of_ble_eq_true rfl), (Nat.le_of_ble_eq_true rfl)⟩ rfl ?_
        refine g_iload X 0 544 dL_act_542 rfl rfl ?_
        refine g_icmp_ne X 547 551 dL_act_544 rfl (by decide) Iff.rfl (fun h9 => absurd rfl h9) (fun _ => ?_)
        refine g_iconst X (nI 1) 548 dL_act_547 rfl (by decide +kernel) ?_
        refine g_goto X 552 dL_act_548 (by decide) ?_
        refine g_eqw (ws' := ((ma, .inr (6, [.int (nI ((reh S rk col) 0)), .int (nI ((reh S rk col) 1)), .int (nI ((reh S rk col) 2)), .int (nI ((reh S rk col) 3)), .ref so, .ref wo, .ref ro, .ref fx])) :: (so, .inl (cJ, 12, refs (orf 12 sc))) :: (wo, .inl (cJ, nw, refs (orf nw wa))) :: (ro, .inl (cJ, nr, refs (orf nr ra))) :: (fx, .inl (cJ, nf, refs (orf nf fa))) :: sR cI sc wa ra fa nw nr nf (reh S rk col) T st fe fo (gW ad cI cZ (reh S rk col) T st fe fo nw nr nf))) (by rw [reh_lo (k := 0) (by decide), reh_lo (k := 1) (by decide), reh_lo (k := 2) (by decide), reh_lo (k := 3) (by decide)]) ?_
        refine g_w (kc' := rm_L_act.cells) (ks' := rm_L_act.slots) (by have h9 : rm_L_act.cells = 25 := rfl; omega) (by have h9 : rm_L_act.slots = 78 := rfl; omega) ?_
        exact ret _ _ _ _ dL_act_552 rfl ⟨rfl, wo, ro, fx, wa, ra, fa, nw, nr, nf, (reh S rk col), T, st, fe, fo, iv_w (iv_move hI hbrk hbcol hh0) (by omega), rfl⟩
  have K553 : G p l e rm_L_act s m args below meth c Q D A 17 0 0 ((ma, .inr (6, [.int (nI (S 0)), .int (nI (S 1)), .int (nI (S 2)), .int (nI (S 3)), .ref so, .ref wo, .ref ro, .ref fx])) :: (so, .inl (cJ, 12, refs (orf 12 sc))) :: (wo, .inl (cJ, nw, refs (orf nw wa))) :: (ro, .inl (cJ, nr, refs (orf nr ra))) :: (fx, .inl (cJ, nf, refs (orf nf fa))) :: sR cI sc wa ra fa nw nr nf S T st fe fo (gW ad cI cZ S T st fe fo nw nr nf)) [(3, .int (nI col)), (0, .ref (ad 0)), (1, .ref ma), (2, .int x)] 553 [] := by
    refine g_aload_n X 2 554 dL_act_553 rfl rfl rfl ?_
    refine g_get X hiX6 0 6 557 rfl rfl (by decide) (List.mem_of_getElem? (i := 3) rfl) rfl dL_act_554 rfl ?_
    refine g_alen X 3 2 558 rfl rfl dL_act_557 rfl ?_
    refine g_if_ne X 561 563 dL_act_558 rfl (by decide) (nz_eq (by omega)) (fun h0 => ?_) (fun h0 => ?_)
    · refine g_aload_n X 2 564 dL_act_563 rfl rfl rfl ?_
      refine g_get X hiX6 0 6 567 rfl rfl (by decide) (List.mem_of_getElem? (i := 3) rfl) rfl dL_act_564 rfl ?_
      refine g_iload_n X 3 568 dL_act_567 rfl rfl rfl ?_
      refine g_iconst X (nI 4) 569 dL_act_568 rfl (by decide +kernel) ?_
      refine g_ishr X 570 dL_act_569 rfl ?_
      refine g_aload_n X 2 571 dL_act_570 rfl rfl rfl ?_
      refine g_get X hiX6 0 6 574 rfl rfl (by decide) (List.mem_of_getElem? (i := 3) rfl) rfl dL_act_571 rfl ?_
      refine g_alen X 3 2 575 rfl rfl dL_act_574 rfl ?_
      refine g_s0i X okT trivial (m_L_below l D cI cZ cJ (x >>> ((nI 4) &&& 31)) nr (by omega) (by omega)) 578 0 0 gL_act_L_below rfl (n := 2) (by decide +kernel) rfl ⟨Nat.le_of_ble_eq_true rfl, Nat.le_of_ble_eq_true rfl⟩ rfl (Nat.le_of_ble_eq_true rfl) dL_act_575 rfl (Nat.le_refl _) (Nat.le_refl _) ⟨(Nat.le_of_ble_eq_true rfl), (Nat.le_of_ble_eq_true rfl)⟩ (fun r9 u9 h9 => ?_)
      obtain ⟨rfl, -⟩ := h9
      obtain ⟨rk, hrk⟩ : ∃ rk : Nat, bw (x >>> ((nI 4) &&& 31)) nr = rk := ⟨_, rfl⟩
      have hbrk : rk < nr := by rw [← hrk]; exact bw_lt (by omega)
      refine g_eqi (y := nI rk) (congrArg nI hrk) ?_
      refine g_aald X 3 2 (rk) (ra rk) 579 rfl rfl (by omega) (by omega) (orf_at (by omega)) dL_act_578 rfl ?_
      have hwy1 := (hg.1.2.2 rk hbrk).2.2
      refine g_astore X [(12, .ref (ra rk)), (3, .int (nI col)), (0, .ref (ad 0)), (1, .ref ma), (2, .int x)] 581 dL_act_579 rfl (by decide) rfl ?_
      refine g_aload X 0 583 dL_act_581 rfl rfl ?_
      refine g_iconst X (nI 3) 584 dL_act_583 rfl (by decide +kernel) ?_
      refine g_iconst X (nI 1) 585 dL_act_584 rfl (by decide +kernel) ?_
      refine g_aload X 0 587 dL_act_585 rfl rfl ?_
      refine g_iconst X (nI 3) 588 dL_act_587 rfl (by decide +kernel) ?_
      refine g_ialdT X 5 (12 + (nw + rk)) 0 (sR cI sc wa ra fa nw nr nf S T st fe fo (gW ad cI cZ S T st fe fo nw nr nf)) (3) (nI (S (100 + 5 * rk + 2))) 589 rfl (sR_r (by omega)) rfl (by omega) (by decide) vrp_3 dL_act_588 rfl ?_
      refine g_isub X (nI (1 - (S (100 + 5 * rk + 2)))) 590 dL_act_589 rfl (pk_sub (by omega)) ?_
      refine g_iastT (ws' := ((ma, .inr (6, [.int (nI (S 0)), .int (nI (S 1)), .int (nI (S 2)), .int (nI (S 3)), .ref so, .ref wo, .ref ro, .ref fx])) :: (so, .inl (cJ, 12, refs (orf 12 sc))) :: (wo, .inl (cJ, nw, refs (orf nw wa))) :: (ro, .inl (cJ, nr, refs (orf nr ra))) :: (fx, .inl (cJ, nf, refs (orf nf fa))) :: sR cI sc wa ra fa nw nr nf (up S (100 + 5 * rk + 2) (1 - S (100 + 5 * rk + 2))) T st fe fo (gW ad cI cZ S T st fe fo nw nr nf))) X 5 (12 + (nw + rk)) 0 (sR cI sc wa ra fa nw nr nf S T st fe fo (gW ad cI cZ S T st fe fo nw nr nf)) (sR cI sc wa ra fa nw nr nf (up S (100 + 5 * rk + 2) (1 - S (100 + 5 * rk + 2))) T st fe fo (gW ad cI cZ S T st fe fo nw nr nf)) (3) (vrp (up S (100 + 5 * rk + 2) (1 - S (100 + 5 * rk + 2))) st rk) 591 rfl (by simp) (sR_r (by omega)) rfl (by omega) (by decide) vrp_u3 (sR_rs hbrk (fun _ hj => vcl_lo hj (Or.inr (by omega))) (fun _ _ h => vrp_o (by omega))) dL_act_590 rfl rfl ?_
      refine g_aload_n X 2 592 dL_act_591 rfl rfl rfl ?_
      refine g_iload_n X 4 593 dL_act_592 rfl rfl rfl ?_
      refine g_iconst X (nI 4) 594 dL_act_593 rfl (by decide +kernel) ?_
      refine g_ishr X 595 dL_act_594 rfl ?_
      refine g_aload_n X 3 596 dL_act_595 rfl rfl rfl ?_
      refine g_get X hiX6 0 6 599 rfl rfl (by decide) (List.mem_of_getElem? (i := 3) rfl) rfl dL_act_596 rfl ?_
      refine g_alen X 3 2 600 rfl rfl dL_act_599 rfl ?_
      refine g_s0i X okT trivial (m_L_below l D cI cZ cJ (x >>> ((nI 4) &&& 31)) nr (by omega) (by omega)) 603 0 0 gL_act_L_below rfl (n := 2) (by decide +kernel) rfl ⟨Nat.le_of_ble_eq_true rfl, Nat.le_of_ble_eq_true rfl⟩ rfl (Nat.le_of_ble_eq_true rfl) dL_act_600 rfl (Nat.le_refl _) (Nat.le_refl _) ⟨(Nat.le_of_ble_eq_true rfl), (Nat.le_of_ble_eq_true rfl)⟩ (fun r9 u9 h9 => ?_)
      obtain ⟨rfl, -⟩ := h9
      refine g_eqi (y := nI rk) (congrArg nI hrk) ?_
      refine g_cws (ws' := ((ma, .inr (6, [.int (nI (S 0)), .int (nI (S 1)), .int (nI (S 2)), .int (nI (S 3)), .ref so, .ref wo, .ref ro, .ref fx])) :: (so, .inl (cJ, 12, refs (orf 12 sc))) :: (wo, .inl (cJ, nw, refs (orf nw wa))) :: (ro, .inl (cJ, nr, refs (orf nr ra))) :: (fx, .inl (cJ, nf, refs (orf nf fa))) :: sR cI sc wa ra fa nw nr nf (up S (100 + 5 * rk + 2) (1 - S (100 + 5 * rk + 2))) T st fe fo (gW ad cI cZ (up S (100 + 5 * rk + 2) (1 - S (100 + 5 * rk + 2))) T st fe fo nw nr nf))) X hF.1 (cw_turn l hfl D cI cZ cJ ad S T st fe fo nw nr nf rk hg.1 hbrk) 606 1 6 [(ma, .inr (6, [.int (nI (S 0)), .int (nI (S 1)), .int (nI (S 2)), .int (nI (S 3)), .ref so, .ref wo, .ref ro, .ref fx])), (so, .inl (cJ, 12, refs (orf 12 sc))), (wo, .inl (cJ, nw, refs (orf nw wa))), (ro, .inl (cJ, nr, refs (orf nr ra))), (fx, .inl (cJ, nf, refs (orf nf fa)))] rfl gL_act_X5_turn rfl (n := 1) (by decide +kernel) rfl ⟨Nat.le_of_ble_eq_true rfl, Nat.le_of_ble_eq_true rfl⟩ rfl rfl (Nat.le_of_ble_eq_true rfl) dL_act_603 rfl (Nat.le_of_ble_eq_true rfl) (Nat.le_of_ble_eq_true rfl) ⟨(Nat.le_of_ble_eq_true rfl), (Nat.le_of_ble_eq_true rfl)⟩ rfl ?_
      refine g_aload X 0 608 dL_act_606 rfl rfl ?_
      refine g_iconst X (nI 3) 609 dL_act_608 rfl (by decide +kernel) ?_
      refine g_ialdT X 5 (12 + (nw + rk)) 0 (sR cI sc wa ra fa nw nr nf (up S (100 + 5 * rk + 2) (1 - S (100 + 5 * rk + 2))) T st fe fo (gW ad cI cZ (up S (100 + 5 * rk + 2) (1 - S (100 + 5 * rk + 2))) T st fe fo nw nr nf)) (3) (nI (1 - S (100 + 5 * rk + 2))) 610 rfl (sR_r (by omega)) rfl (by omega) (by decide) (vrp_3.trans (congrArg nI (up_s _ _ _))) dL_act_609 rfl ?_
      refine g_if_ne X 613 617 dL_act_610 rfl (by decide) (nz_eq (by omega)) (fun h610 => ?_) (fun h610 => ?_)
      · refine g_iconst X (nI 0) 618 dL_act_617 rfl (by decide +kernel) ?_
        refine g_icmp_ne X 621 625 dL_act_618 rfl (by decide) (nI_eq (by omega) (by omega)) (fun h618 => absurd (by omega) h618) (fun h618 => ?_)
        refine g_iconst X (nI 1) 622 dL_act_621 rfl (by decide +kernel) ?_
        refine g_goto X 626 dL_act_622 (by decide) ?_
        refine g_eqw (ws' := ((ma, .inr (6, [.int (nI ((up S (100 + 5 * rk + 2) (1 - S (100 + 5 * rk + 2))) 0)), .int (nI ((up S (100 + 5 * rk + 2) (1 - S (100 + 5 * rk + 2))) 1)), .int (nI ((up S (100 + 5 * rk + 2) (1 - S (100 + 5 * rk + 2))) 2)), .int (nI ((up S (100 + 5 * rk + 2) (1 - S (100 + 5 * rk + 2))) 3)), .ref so, .ref wo, .ref ro, .ref fx])) :: (so, .inl (cJ, 12, refs (orf 12 sc))) :: (wo, .inl (cJ, nw, refs (orf nw wa))) :: (ro, .inl (cJ, nr, refs (orf nr ra))) :: (fx, .inl (cJ, nf, refs (orf nf fa))) :: sR cI sc wa ra fa nw nr nf (up S (100 + 5 * rk + 2) (1 - S (100 + 5 * rk + 2))) T st fe fo (gW ad cI cZ (up S (100 + 5 * rk + 2) (1 - S (100 + 5 * rk + 2))) T st fe fo nw nr nf))) (by rw [up_n (j := 0) (by omega), up_n (j := 1) (by omega), up_n (j := 2) (by omega), up_n (j := 3) (by omega)]) ?_
        refine g_w (kc' := rm_L_act.cells) (ks' := rm_L_act.slots) (by have h9 : rm_L_act.cells = 25 := rfl; omega) (by have h9 : rm_L_act.slots = 78 := rfl; omega) ?_
        exact ret _ _ _ _ dL_act_626 rfl ⟨rfl, wo, ro, fx, wa, ra, fa, nw, nr, nf, (up S (100 + 5 * rk + 2) (1 - S (100 + 5 * rk + 2))), T, st, fe, fo, iv_w (iv_turn hI hbrk) (by omega), rfl⟩
      · refine g_iconst X (nI 1) 614 dL_act_613 rfl (by decide +kernel) ?_
        refine g_goto X 618 dL_act_614 (by decide) ?_
        refine g_icmp_ne X 621 625 dL_act_618 rfl (by decide) (nI_eq (by omega) (by omega)) (fun h618 => absurd (by omega) h618) (fun h618 => ?_)
        refine g_iconst X (nI 1) 622 dL_act_621 rfl (by decide +kernel) ?_
        refine g_goto X 626 dL_act_622 (by decide) ?_
        refine g_eqw (ws' := ((ma, .inr (6, [.int (nI ((up S (100 + 5 * rk + 2) (1 - S (100 + 5 * rk + 2))) 0)), .int (nI ((up S (100 + 5 * rk + 2) (1 - S (100 + 5 * rk + 2))) 1)), .int (nI ((up S (100 + 5 * rk + 2) (1 - S (100 + 5 * rk + 2))) 2)), .int (nI ((up S (100 + 5 * rk + 2) (1 - S (100 + 5 * rk + 2))) 3)), .ref so, .ref wo, .ref ro, .ref fx])) :: (so, .inl (cJ, 12, refs (orf 12 sc))) :: (wo, .inl (cJ, nw, refs (orf nw wa))) :: (ro, .inl (cJ, nr, refs (orf nr ra))) :: (fx, .inl (cJ, nf, refs (orf nf fa))) :: sR cI sc wa ra fa nw nr nf (up S (100 + 5 * rk + 2) (1 - S (100 + 5 * rk + 2))) T st fe fo (gW ad cI cZ (up S (100 + 5 * rk + 2) (1 - S (100 + 5 * rk + 2))) T st fe fo nw nr nf))) (by rw [up_n (j := 0) (by omega), up_n (j := 1) (by omega), up_n (j := 2) (by omega), up_n (j := 3) (by omega)]) ?_
        refine g_w (kc' := rm_L_act.cells) (ks' := rm_L_act.slots) (by have h9 : rm_L_act.cells = 25 := rfl; omega) (by have h9 : rm_L_act.slots = 78 := rfl; omega) ?_
        exact ret _ _ _ _ dL_act_626 rfl ⟨rfl, wo, ro, fx, wa, ra, fa, nw, nr, nf, (up S (100 + 5 * rk + 2) (1 - S (100 + 5 * rk + 2))), T, st, fe, fo, iv_w (iv_turn hI hbrk) (by omega), rfl⟩
    · refine g_iconst X (nI 1) 562 dL_act_561 rfl (by decide +kernel) ?_
      refine g_w (kc' := rm_L_act.cells) (ks' := rm_L_act.slots) (by have h9 : rm_L_act.cells = 25 := rfl; omega) (by have h9 : rm_L_act.slots = 78 := rfl; omega) ?_
      exact ret _ _ _ _ dL_act_562 rfl ⟨rfl, wo, ro, fx, wa, ra, fa, nw, nr, nf, S, T, st, fe, fo, iv_w hI (by omega), rfl⟩
  have K627 : G p l e rm_L_act s m args below meth c Q D A 17 0 0 ((ma, .inr (6, [.int (nI (S 0)), .int (nI (S 1)), .int (nI (S 2)), .int (nI (S 3)), .ref so, .ref wo, .ref ro, .ref fx])) :: (so, .inl (cJ, 12, refs (orf 12 sc))) :: (wo, .inl (cJ, nw, refs (orf nw wa))) :: (ro, .inl (cJ, nr, refs (orf nr ra))) :: (fx, .inl (cJ, nf, refs (orf nf fa))) :: sR cI sc wa ra fa nw nr nf S T st fe fo (gW ad cI cZ S T st fe fo nw nr nf)) [(3, .int (nI col)), (0, .ref (ad 0)), (1, .ref ma), (2, .int x)] 627 [] := by
    refine g_aload_n X 2 628 dL_act_627 rfl rfl rfl ?_
    refine g_get X hiX6 0 5 631 rfl rfl (by decide) (List.mem_of_getElem? (i := 1) rfl) rfl dL_act_628 rfl ?_
    refine g_alen X 2 2 632 rfl rfl dL_act_631 rfl ?_
    refine g_if_ne X 635 637 dL_act_632 rfl (by decide) (nz_eq (by omega)) (fun h0 => ?_) (fun h0 => ?_)
    · refine g_aload_n X 2 638 dL_act_637 rfl rfl rfl ?_
      refine g_get X hiX6 0 5 641 rfl rfl (by decide) (List.mem_of_getElem? (i := 1) rfl) rfl dL_act_638 rfl ?_
      refine g_iload_n X 3 642 dL_act_641 rfl rfl rfl ?_
      refine g_iconst X (nI 4) 643 dL_act_642 rfl (by decide +kernel) ?_
      refine g_ishr X 644 dL_act_643 rfl ?_
      refine g_aload_n X 2 645 dL_act_644 rfl rfl rfl ?_
      refine g_get X hiX6 0 5 648 rfl rfl (by decide) (List.mem_of_getElem? (i := 1) rfl) rfl dL_act_645 rfl ?_
      refine g_alen X 2 2 649 rfl rfl dL_act_648 rfl ?_
      refine g_s0i X okT trivial (m_L_below l D cI cZ cJ (x >>> ((nI 4) &&& 31)) nw (by omega) (by omega)) 652 0 0 gL_act_L_below rfl (n := 2) (by decide +kernel) rfl ⟨Nat.le_of_ble_eq_true rfl, Nat.le_of_ble_eq_true rfl⟩ rfl (Nat.le_of_ble_eq_true rfl) dL_act_649 rfl (Nat.le_refl _) (Nat.le_refl _) ⟨(Nat.le_of_ble_eq_true rfl), (Nat.le_of_ble_eq_true rfl)⟩ (fun r9 u9 h9 => ?_)
      obtain ⟨rfl, -⟩ := h9
      obtain ⟨wk9, hwk9⟩ : ∃ wk9 : Nat, bw (x >>> ((nI 4) &&& 31)) nw = wk9 := ⟨_, rfl⟩
      have hbwk9 : wk9 < nw := by rw [← hwk9]; exact bw_lt (by omega)
      refine g_eqi (y := nI wk9) (congrArg nI hwk9) ?_
      refine g_aald X 2 2 (wk9) (wa wk9) 653 rfl rfl (by omega) (by omega) (orf_at (by omega)) dL_act_652 rfl ?_
      have hT9 := hs.2.1 wk9 hbwk9
      have hT8 := hT9
      unfold winOk at hT8
      refine g_astore X [(13, .ref (wa wk9)), (3, .int (nI col)), (0, .ref (ad 0)), (1, .ref ma), (2, .int x)] 655 dL_act_653 rfl (by decide) rfl ?_
      refine g_aload_n X 3 656 dL_act_655 rfl rfl rfl ?_
      refine g_aload X 0 658 dL_act_656 rfl rfl ?_
      refine g_sVr X okT trivial (m_X6_of l D cI cZ cJ ma so wo ro fx sc wa ra fa nw nr nf S T st fe fo S (gW ad cI cZ S T st fe fo nw nr nf) wk9 hw9 hT9 hbwk9 hnw) 661 1 3 [] rfl gL_act_X6_of rfl (n := 1) (by decide +kernel) rfl ⟨Nat.le_of_ble_eq_true rfl, Nat.le_of_ble_eq_true rfl⟩ (ci := 6) 0 rfl rfl rfl (Nat.le_of_ble_eq_true rfl) dL_act_658 rfl (Nat.le_of_ble_eq_true rfl) (Nat.le_of_ble_eq_true rfl) ⟨(Nat.le_of_ble_eq_true rfl), (Nat.le_of_ble_eq_true rfl)⟩ (fun r9 u9 h9 => ?_)
      subst h9
      refine g_eqw (ws' := ((r9, .inl (cI, 3, .inl (a3 (addW S T wk9) (mxW S T wk9) (brW S T wk9)))) :: (ma, .inr (6, [.int (nI (S 0)), .int (nI (S 1)), .int (nI (S 2)), .int (nI (S 3)), .ref so, .ref wo, .ref ro, .ref fx])) :: (so, .inl (cJ, 12, refs (orf 12 sc))) :: (wo, .inl (cJ, nw, refs (orf nw wa))) :: (ro, .inl (cJ, nr, refs (orf nr ra))) :: (fx, .inl (cJ, nf, refs (orf nf fa))) :: sR cI sc wa ra fa nw nr nf S T st fe fo (gW ad cI cZ S T st fe fo nw nr nf))) rfl ?_
      refine g_iconst X (nI 0) 662 dL_act_661 rfl (by decide +kernel) ?_
      refine g_iald X 0 0 (0) (nI (addW S T wk9)) 663 rfl rfl (by decide) (by decide) rfl dL_act_662 rfl ?_
      refine g_perm (ws' := ((ma, .inr (6, [.int (nI (S 0)), .int (nI (S 1)), .int (nI (S 2)), .int (nI (S 3)), .ref so, .ref wo, .ref ro, .ref fx])) :: (so, .inl (cJ, 12, refs (orf 12 sc))) :: (wo, .inl (cJ, nw, refs (orf nw wa))) :: (ro, .inl (cJ, nr, refs (orf nr ra))) :: (fx, .inl (cJ, nf, refs (orf nf fa))) :: sR cI sc wa ra fa nw nr nf S T st fe fo (gW ad cI cZ S T st fe fo nw nr nf))) [(r9, .inl (cI, 3, .inl (a3 (addW S T wk9) (mxW S T wk9) (brW S T wk9))))] (perm_ct (fun _ _ => by simp only [List.count_append, List.count_cons, List.count_nil]; omega)) ?_
      refine g_istore X [(14, .int (nI (addW S T wk9))), (13, .ref (wa wk9)), (3, .int (nI col)), (0, .ref (ad 0)), (1, .ref ma), (2, .int x)] 665 dL_act_663 rfl (by decide) rfl ?_
      refine g_iconst X (nI 0) 666 dL_act_665 rfl (by decide +kernel) ?_
      refine g_istore X [(15, .int (nI 0)), (14, .int (nI (addW S T wk9))), (13, .ref (wa wk9)), (3, .int (nI col)), (0, .ref (ad 0)), (1, .ref ma), (2, .int x)] 668 dL_act_666 rfl (by decide) rfl ?_
      have L : ∀ i : Nat, i ≤ T (5 * wk9 + 2) → G p l e rm_L_act s m args below meth c Q D A 17 1 3 ((ma, .inr (6, [.int (nI (S 0)), .int (nI (S 1)), .int (nI (S 2)), .int (nI (S 3)), .ref so, .ref wo, .ref ro, .ref fx])) :: (so, .inl (cJ, 12, refs (orf 12 sc))) :: (wo, .inl (cJ, nw, refs (orf nw wa))) :: (ro, .inl (cJ, nr, refs (orf nr ra))) :: (fx, .inl (cJ, nf, refs (orf nf fa))) :: sR cI sc wa ra fa nw nr nf (wpU T wk9 i 0 S) T st fe fo (gW ad cI cZ S T st fe fo nw nr nf)) [(15, .int (nI i)), (14, .int (nI (addW S T wk9))), (13, .ref (wa wk9)), (3, .int (nI col)), (0, .ref (ad 0)), (1, .ref ma), (2, .int x)] 668 [] := by
        refine g_down _ ?_ ?_
        · refine g_iload X 0 670 dL_act_668 rfl rfl ?_
          refine g_aload X 2 672 dL_act_670 rfl rfl ?_
          refine g_iconst X (nI 2) 673 dL_act_672 rfl (by decide +kernel) ?_
          refine g_ialdT X 5 (12 + wk9) 0 (sR cI sc wa ra fa nw nr nf (wpU T wk9 (T (5 * wk9 + 2)) 0 S) T st fe fo (gW ad cI cZ S T st fe fo nw nr nf)) (2) (nI (T (5 * wk9 + 2))) 674 rfl (sR_w (by omega)) rfl (by omega) (by decide) (vwn_at (by decide)) dL_act_673 rfl ?_
          refine g_icmp_ge X 677 722 dL_act_674 rfl (by decide) (nI_leI (by omega) (by omega)) (fun h674 => ?_) (fun h674 => absurd (Nat.le_refl _) h674)
          refine g_aload_n X 4 723 dL_act_722 rfl rfl rfl ?_
          refine g_iload_n X 6 724 dL_act_723 rfl rfl rfl ?_
          refine g_iconst X (nI 4) 725 dL_act_724 rfl (by decide +kernel) ?_
          refine g_ishr X 726 dL_act_725 rfl ?_
          refine g_aload_n X 5 727 dL_act_726 rfl rfl rfl ?_
          refine g_get X hiX6 0 5 730 rfl rfl (by decide) (List.mem_of_getElem? (i := 1) rfl) rfl dL_act_727 rfl ?_
          refine g_alen X 2 2 731 rfl rfl dL_act_730 rfl ?_
          refine g_s0i X okT trivial (m_L_below l D cI cZ cJ (x >>> ((nI 4) &&& 31)) nw (by omega) (by omega)) 734 1 3 gL_act_L_below rfl (n := 2) (by decide +kernel) rfl ⟨Nat.le_of_ble_eq_true rfl, Nat.le_of_ble_eq_true rfl⟩ rfl (Nat.le_of_ble_eq_true rfl) dL_act_731 rfl (Nat.le_refl _) (Nat.le_refl _) ⟨(Nat.le_of_ble_eq_true rfl), (Nat.le_of_ble_eq_true rfl)⟩ (fun r9 u9 h9 => ?_)
          obtain ⟨rfl, -⟩ := h9
          refine g_eqi (y := nI wk9) (congrArg nI hwk9) ?_
          refine g_eqw (ws' := ((ma, .inr (6, [.int (nI (S 0)), .int (nI (S 1)), .int (nI (S 2)), .int (nI (S 3)), .ref so, .ref wo, .ref ro, .ref fx])) :: (so, .inl (cJ, 12, refs (orf 12 sc))) :: (wo, .inl (cJ, nw, refs (orf nw wa))) :: (ro, .inl (cJ, nr, refs (orf nr ra))) :: (fx, .inl (cJ, nf, refs (orf nf fa))) :: sR cI sc wa ra fa nw nr nf (wp S T wk9) T st fe fo (gW ad cI cZ S T st fe fo nw nr nf))) rfl ?_
          refine g_cws (ws' := ((ma, .inr (6, [.int (nI (S 0)), .int (nI (S 1)), .int (nI (S 2)), .int (nI (S 3)), .ref so, .ref wo, .ref ro, .ref fx])) :: (so, .inl (cJ, 12, refs (orf 12 sc))) :: (wo, .inl (cJ, nw, refs (orf nw wa))) :: (ro, .inl (cJ, nr, refs (orf nr ra))) :: (fx, .inl (cJ, nf, refs (orf nf fa))) :: sR cI sc wa ra fa nw nr nf (wp S T wk9) T st fe fo (gW ad cI cZ (wp S T wk9) T st fe fo nw nr nf))) X hF.1 (cw_wipe l hfl D cI cZ cJ ad S T st fe fo nw nr nf wk9 hw9 hnw hs.2.1 hbwk9) 737 2 9 [(ma, .inr (6, [.int (nI (S 0)), .int (nI (S 1)), .int (nI (S 2)), .int (nI (S 3)), .ref so, .ref wo, .ref ro, .ref fx])), (so, .inl (cJ, 12, refs (orf 12 sc))), (wo, .inl (cJ, nw, refs (orf nw wa))), (ro, .inl (cJ, nr, refs (orf nr ra))), (fx, .inl (cJ, nf, refs (orf nf fa)))] rfl gL_act_X5_wipe rfl (n := 1) (by decide +kernel) rfl ⟨Nat.le_of_ble_eq_true rfl, Nat.le_of_ble_eq_true rfl⟩ rfl rfl (Nat.le_of_ble_eq_true rfl) dL_act_734 rfl (Nat.le_of_ble_eq_true rfl) (Nat.le_of_ble_eq_true rfl) ⟨(Nat.le_of_ble_eq_true rfl), (Nat.le_of_ble_eq_true rfl)⟩ rfl ?_
          refine g_iload X 1 739 dL_act_737 rfl rfl ?_
          refine g_icmp_ne X 742 746 dL_act_739 rfl (by decide) Iff.rfl (fun h9 => absurd rfl h9) (fun _ => ?_)
          refine g_iconst X (nI 1) 743 dL_act_742 rfl (by decide +kernel) ?_
          refine g_goto X 747 dL_act_743 (by decide) ?_
          refine g_eqw (ws' := ((ma, .inr (6, [.int (nI ((wp S T wk9) 0)), .int (nI ((wp S T wk9) 1)), .int (nI ((wp S T wk9) 2)), .int (nI ((wp S T wk9) 3)), .ref so, .ref wo, .ref ro, .ref fx])) :: (so, .inl (cJ, 12, refs (orf 12 sc))) :: (wo, .inl (cJ, nw, refs (orf nw wa))) :: (ro, .inl (cJ, nr, refs (orf nr ra))) :: (fx, .inl (cJ, nf, refs (orf nf fa))) :: sR cI sc wa ra fa nw nr nf (wp S T wk9) T st fe fo (gW ad cI cZ (wp S T wk9) T st fe fo nw nr nf))) (by rw [wp_lo (k := 0) (by decide), wp_lo (k := 1) (by decide), wp_lo (k := 2) (by decide), wp_lo (k := 3) (by decide)]) ?_
          refine g_w (kc' := rm_L_act.cells) (ks' := rm_L_act.slots) (by have h9 : rm_L_act.cells = 25 := rfl; omega) (by have h9 : rm_L_act.slots = 78 := rfl; omega) ?_
          exact ret _ _ _ _ dL_act_747 rfl ⟨rfl, wo, ro, fx, wa, ra, fa, nw, nr, nf, (wp S T wk9), T, st, fe, fo, iv_w (iv_wipe hI) (by omega), rfl⟩
        · intro i hi ih_i 
          refine g_iload X 0 670 dL_act_668 rfl rfl ?_
          refine g_aload X 2 672 dL_act_670 rfl rfl ?_
          refine g_iconst X (nI 2) 673 dL_act_672 rfl (by decide +kernel) ?_
          refine g_ialdT X 5 (12 + wk9) 0 (sR cI sc wa ra fa nw nr nf (wpU T wk9 i 0 S) T st fe fo (gW ad cI cZ S T st fe fo nw nr nf)) (2) (nI (T (5 * wk9 + 2))) 674 rfl (sR_w (by omega)) rfl (by omega) (by decide) (vwn_at (by decide)) dL_act_673 rfl ?_
          refine g_icmp_ge X 677 722 dL_act_674 rfl (by decide) (nI_leI (by omega) (by omega)) (fun h674 => absurd h674 (by omega)) (fun h674 => ?_)
          refine g_iconst X (nI 0) 678 dL_act_677 rfl (by decide +kernel) ?_
          refine g_istore X [(16, .int (nI 0)), (15, .int (nI i)), (14, .int (nI (addW S T wk9))), (13, .ref (wa wk9)), (3, .int (nI col)), (0, .ref (ad 0)), (1, .ref ma), (2, .int x)] 680 dL_act_678 rfl (by decide) rfl ?_
          have M : ∀ j : Nat, j ≤ T (5 * wk9 + 3) → G p l e rm_L_act s m args below meth c Q D A 17 1 3 ((ma, .inr (6, [.int (nI (S 0)), .int (nI (S 1)), .int (nI (S 2)), .int (nI (S 3)), .ref so, .ref wo, .ref ro, .ref fx])) :: (so, .inl (cJ, 12, refs (orf 12 sc))) :: (wo, .inl (cJ, nw, refs (orf nw wa))) :: (ro, .inl (cJ, nr, refs (orf nr ra))) :: (fx, .inl (cJ, nf, refs (orf nf fa))) :: sR cI sc wa ra fa nw nr nf (wpU T wk9 i j S) T st fe fo (gW ad cI cZ S T st fe fo nw nr nf)) [(16, .int (nI j)), (15, .int (nI i)), (14, .int (nI (addW S T wk9))), (13, .ref (wa wk9)), (3, .int (nI col)), (0, .ref (ad 0)), (1, .ref ma), (2, .int x)] 680 [] := by
            refine g_down _ ?_ ?_
            · refine g_iload X 0 682 dL_act_680 rfl rfl ?_
              refine g_aload X 3 684 dL_act_682 rfl rfl ?_
              refine g_iconst X (nI 3) 685 dL_act_684 rfl (by decide +kernel) ?_
              refine g_ialdT X 5 (12 + wk9) 0 (sR cI sc wa ra fa nw nr nf (wpU T wk9 i (T (5 * wk9 + 3)) S) T st fe fo (gW ad cI cZ S T st fe fo nw nr nf)) (3) (nI (T (5 * wk9 + 3))) 686 rfl (sR_w (by omega)) rfl (by omega) (by decide) (vwn_at (by decide)) dL_act_685 rfl ?_
              refine g_icmp_ge X 689 716 dL_act_686 rfl (by decide) (nI_leI (by omega) (by omega)) (fun h686 => ?_) (fun h686 => absurd (Nat.le_refl _) h686)
              refine g_iinc X 1 (nI (i + 1)) [(15, .int (nI (i + 1))), (16, .int (nI (T (5 * wk9 + 3)))), (14, .int (nI (addW S T wk9))), (13, .ref (wa wk9)), (3, .int (nI col)), (0, .ref (ad 0)), (1, .ref ma), (2, .int x)] 719 dL_act_716 rfl rfl (nI_inc _) (by decide) rfl ?_
              refine g_goto X 668 dL_act_719 (by decide) ?_
              refine g_lv (lv' := [(15, .int (nI (i + 1))), (14, .int (nI (addW S T wk9))), (13, .ref (wa wk9)), (3, .int (nI col)), (0, .ref (ad 0)), (1, .ref ma), (2, .int x)]) [0, 2, 3, 4, 5, 6, 7] rfl ?_
              exact (by rw [wpU_r]; exact ih_i)
            · intro j hj ih_j 
              refine g_iload X 0 682 dL_act_680 rfl rfl ?_
              refine g_aload X 3 684 dL_act_682 rfl rfl ?_
              refine g_iconst X (nI 3) 685 dL_act_684 rfl (by decide +kernel) ?_
              refine g_ialdT X 5 (12 + wk9) 0 (sR cI sc wa ra fa nw nr nf (wpU T wk9 i j S) T st fe fo (gW ad cI cZ S T st fe fo nw nr nf)) (3) (nI (T (5 * wk9 + 3))) 686 rfl (sR_w (by omega)) rfl (by omega) (by decide) (vwn_at (by decide)) dL_act_685 rfl ?_
              refine g_icmp_ge X 689 716 dL_act_686 rfl (by decide) (nI_leI (by omega) (by omega)) (fun h686 => absurd h686 (by omega)) (fun h686 => ?_)
              refine g_aload_n X 6 690 dL_act_689 rfl rfl rfl ?_
              refine g_get X hiX6 0 4 693 rfl rfl (by decide) (List.mem_of_getElem? (i := 6) rfl) rfl dL_act_690 rfl ?_
              refine g_aload X 3 695 dL_act_693 rfl rfl ?_
              refine g_iconst X (nI 0) 696 dL_act_695 rfl (by decide +kernel) ?_
              refine g_ialdT X 5 (12 + wk9) 0 (sR cI sc wa ra fa nw nr nf (wpU T wk9 i j S) T st fe fo (gW ad cI cZ S T st fe fo nw nr nf)) (0) (nI (T (5 * wk9))) 697 rfl (sR_w (by omega)) rfl (by omega) (by decide) (vwn_at (by decide)) dL_act_696 rfl ?_
              refine g_iload X 1 699 dL_act_697 rfl rfl ?_
              refine g_iadd X (nI ((T (5 * wk9)) + i)) 700 dL_act_699 rfl (nI_add _ _) ?_
              refine g_aald X 1 2 ((T (5 * wk9)) + i) (sc ((T (5 * wk9)) + i)) 701 rfl rfl (by omega) (by decide) (orf_at (by omega)) dL_act_700 rfl ?_
              refine g_aload X 3 703 dL_act_701 rfl rfl ?_
              refine g_iconst X (nI 1) 704 dL_act_703 rfl (by decide +kernel) ?_
              refine g_ialdT X 5 (12 + wk9) 0 (sR cI sc wa ra fa nw nr nf (wpU T wk9 i j S) T st fe fo (gW ad cI cZ S T st fe fo nw nr nf)) (1) (nI (T (5 * wk9 + 1))) 705 rfl (sR_w (by omega)) rfl (by omega) (by decide) (vwn_at (by decide)) dL_act_704 rfl ?_
              refine g_iload X 0 707 dL_act_705 rfl rfl ?_
              refine g_iadd X (nI ((T (5 * wk9 + 1)) + j)) 708 dL_act_707 rfl (nI_add _ _) ?_
              refine g_iconst X (nI 0) 709 dL_act_708 rfl (by decide +kernel) ?_
              refine g_iastT (ws' := ((ma, .inr (6, [.int (nI (S 0)), .int (nI (S 1)), .int (nI (S 2)), .int (nI (S 3)), .ref so, .ref wo, .ref ro, .ref fx])) :: (so, .inl (cJ, 12, refs (orf 12 sc))) :: (wo, .inl (cJ, nw, refs (orf nw wa))) :: (ro, .inl (cJ, nr, refs (orf nr ra))) :: (fx, .inl (cJ, nf, refs (orf nf fa))) :: sR cI sc wa ra fa nw nr nf (up (wpU T wk9 i j S) (4 + ((T (5 * wk9) + i) * 8 + (T (5 * wk9 + 1) + j))) 0) T st fe fo (gW ad cI cZ S T st fe fo nw nr nf))) X 5 ((T (5 * wk9)) + i) 0 (sR cI sc wa ra fa nw nr nf (wpU T wk9 i j S) T st fe fo (gW ad cI cZ S T st fe fo nw nr nf)) (sR cI sc wa ra fa nw nr nf (up (wpU T wk9 i j S) (4 + ((T (5 * wk9) + i) * 8 + (T (5 * wk9 + 1) + j))) 0) T st fe fo (gW ad cI cZ S T st fe fo nw nr nf)) ((T (5 * wk9 + 1)) + j) (vcl (up (wpU T wk9 i j S) (4 + ((T (5 * wk9) + i) * 8 + (T (5 * wk9 + 1) + j))) 0) (T (5 * wk9) + i)) 710 rfl (by simp) (sR_c (by omega)) rfl (by omega) (by decide) (vcl_up (by omega)) (sR_cs (by omega) (fun _ _ h => vcl_o (by omega) h) (fun _ _ => vrp_o (Or.inl (by omega)))) dL_act_709 rfl rfl ?_
              refine g_eqw (ws' := ((ma, .inr (6, [.int (nI (S 0)), .int (nI (S 1)), .int (nI (S 2)), .int (nI (S 3)), .ref so, .ref wo, .ref ro, .ref fx])) :: (so, .inl (cJ, 12, refs (orf 12 sc))) :: (wo, .inl (cJ, nw, refs (orf nw wa))) :: (ro, .inl (cJ, nr, refs (orf nr ra))) :: (fx, .inl (cJ, nf, refs (orf nf fa))) :: sR cI sc wa ra fa nw nr nf (wpU T wk9 i (j + 1) S) T st fe fo (gW ad cI cZ S T st fe fo nw nr nf))) (by rw [wpU_s hT9 hi hj rfl]) ?_
              refine g_iinc X 0 (nI (j + 1)) [(16, .int (nI (j + 1))), (15, .int (nI i)), (14, .int (nI (addW S T wk9))), (13, .ref (wa wk9)), (3, .int (nI col)), (0, .ref (ad 0)), (1, .ref ma), (2, .int x)] 713 dL_act_710 rfl rfl (nI_inc _) (by decide) rfl ?_
              refine g_goto X 680 dL_act_713 (by decide) ?_
              exact ih_j
          exact M 0 (Nat.zero_le _)
      have L0 := L 0 (Nat.zero_le _)
      rw [wpU_0] at L0
      exact L0
    · refine g_iconst X (nI 1) 636 dL_act_635 rfl (by decide +kernel) ?_
      refine g_w (kc' := rm_L_act.cells) (ks' := rm_L_act.slots) (by have h9 : rm_L_act.cells = 25 := rfl; omega) (by have h9 : rm_L_act.slots = 78 := rfl; omega) ?_
      exact ret _ _ _ _ dL_act_636 rfl ⟨rfl, wo, ro, fx, wa, ra, fa, nw, nr, nf, S, T, st, fe, fo, iv_w hI (by omega), rfl⟩
  have K748 : G p l e rm_L_act s m args below meth c Q D A 17 0 0 ((ma, .inr (6, [.int (nI (S 0)), .int (nI (S 1)), .int (nI (S 2)), .int (nI (S 3)), .ref so, .ref wo, .ref ro, .ref fx])) :: (so, .inl (cJ, 12, refs (orf 12 sc))) :: (wo, .inl (cJ, nw, refs (orf nw wa))) :: (ro, .inl (cJ, nr, refs (orf nr ra))) :: (fx, .inl (cJ, nf, refs (orf nf fa))) :: sR cI sc wa ra fa nw nr nf S T st fe fo (gW ad cI cZ S T st fe fo nw nr nf)) [(3, .int (nI col)), (0, .ref (ad 0)), (1, .ref ma), (2, .int x)] 748 [] := by
    refine g_iconst X (nI 1) 749 dL_act_748 rfl (by decide +kernel) ?_
    refine g_iload_n X 3 750 dL_act_749 rfl rfl rfl ?_
    refine g_iconst X (nI 2) 751 dL_act_750 rfl (by decide +kernel) ?_
    refine g_ishr X 752 dL_act_751 rfl ?_
    refine g_iconst X (nI 4) 753 dL_act_752 rfl (by decide +kernel) ?_
    refine g_s0i X okT trivial (m_L_below l D cI cZ cJ (x >>> ((nI 2) &&& 31)) 4 (by omega) (by omega)) 756 0 0 gL_act_L_below rfl (n := 2) (by decide +kernel) rfl ⟨Nat.le_of_ble_eq_true rfl, Nat.le_of_ble_eq_true rfl⟩ rfl (Nat.le_of_ble_eq_true rfl) dL_act_753 rfl (Nat.le_refl _) (Nat.le_refl _) ⟨(Nat.le_of_ble_eq_true rfl), (Nat.le_of_ble_eq_true rfl)⟩ (fun r9 u9 h9 => ?_)
    obtain ⟨rfl, -⟩ := h9
    obtain ⟨dq, hdq⟩ : ∃ dq : Nat, bw (x >>> ((nI 2) &&& 31)) 4 = dq := ⟨_, rfl⟩
    have hbdq : dq < 4 := by rw [← hdq]; exact bw_lt (by decide)
    refine g_eqi (y := nI dq) (congrArg nI hdq) ?_
    refine g_iadd X (nI (1 + dq)) 757 dL_act_756 rfl (nI_add _ _) ?_
    obtain ⟨dn, hde, hd1, hd4⟩ : ∃ dn : Nat, 1 + dq = dn ∧ 1 ≤ dn ∧ dn ≤ 4 := ⟨_, rfl, by omega, by omega⟩
    refine g_eqi (y := nI dn) (congrArg nI hde) ?_
    refine g_istore X [(15, .int (nI dn)), (3, .int (nI col)), (0, .ref (ad 0)), (1, .ref ma), (2, .int x)] 759 dL_act_757 rfl (by decide) rfl ?_
    refine g_aload_n X 3 760 dL_act_759 rfl rfl rfl ?_
    refine g_get X hiX6 0 2 763 rfl rfl (by decide) (List.mem_of_getElem? (i := 7) rfl) rfl dL_act_760 rfl ?_
    refine g_istore X [(16, .int (nI (S 2))), (15, .int (nI dn)), (3, .int (nI col)), (0, .ref (ad 0)), (1, .ref ma), (2, .int x)] 765 dL_act_763 rfl (by decide) rfl ?_
    refine g_aload_n X 4 766 dL_act_765 rfl rfl rfl ?_
    refine g_iload X 1 768 dL_act_766 rfl rfl ?_
    refine g_sVr X okT trivial (m_X6_behind l D cI cZ cJ ma so wo ro fx sc wa ra fa nw nr nf S T st fe fo (gW ad cI cZ S T st fe fo nw nr nf) dn hg hs ho (by omega) hd4) 771 24 72 [] rfl gL_act_X6_behind rfl (n := 1) (by decide +kernel) rfl ⟨Nat.le_of_ble_eq_true rfl, Nat.le_of_ble_eq_true rfl⟩ (ci := 6) 0 rfl rfl rfl (Nat.le_of_ble_eq_true rfl) dL_act_768 rfl (Nat.le_of_ble_eq_true rfl) (Nat.le_of_ble_eq_true rfl) ⟨(Nat.le_of_ble_eq_true rfl), (Nat.le_of_ble_eq_true rfl)⟩ (fun r9 u9 h9 => ?_)
    obtain ⟨-, rfl⟩ := h9
    refine g_eqw (ws' := ((ma, .inr (6, [.int (nI ((daysS T st fe fo nw nr nf S dn) 0)), .int (nI ((daysS T st fe fo nw nr nf S dn) 1)), .int (nI ((daysS T st fe fo nw nr nf S dn) 2)), .int (nI ((daysS T st fe fo nw nr nf S dn) 3)), .ref so, .ref wo, .ref ro, .ref fx])) :: (so, .inl (cJ, 12, refs (orf 12 sc))) :: (wo, .inl (cJ, nw, refs (orf nw wa))) :: (ro, .inl (cJ, nr, refs (orf nr ra))) :: (fx, .inl (cJ, nf, refs (orf nf fa))) :: sR cI sc wa ra fa nw nr nf (daysS T st fe fo nw nr nf S dn) T st fe fo (gW ad cI cZ S T st fe fo nw nr nf))) rfl ?_
    refine g_pop X 772 dL_act_771 rfl rfl ?_
    refine g_aload_n X 3 773 dL_act_772 rfl rfl rfl ?_
    refine g_iload X 1 775 dL_act_773 rfl rfl ?_
    refine g_cws (ws' := ((ma, .inr (6, [.int (nI ((daysS T st fe fo nw nr nf S dn) 0)), .int (nI ((daysS T st fe fo nw nr nf S dn) 1)), .int (nI ((daysS T st fe fo nw nr nf S dn) 2)), .int (nI ((daysS T st fe fo nw nr nf S dn) 3)), .ref so, .ref wo, .ref ro, .ref fx])) :: (so, .inl (cJ, 12, refs (orf 12 sc))) :: (wo, .inl (cJ, nw, refs (orf nw wa))) :: (ro, .inl (cJ, nr, refs (orf nr ra))) :: (fx, .inl (cJ, nf, refs (orf nf fa))) :: sR cI sc wa ra fa nw nr nf (daysS T st fe fo nw nr nf S dn) T st fe fo (gW ad cI cZ (daysS T st fe fo nw nr nf S dn) T st fe fo nw nr nf))) X hF.1 (cw_pass l hfl D cI cZ cJ ad S T st fe fo nw nr nf dn hg hs (by omega) hd1 (by omega)) 778 25 78 [(ma, .inr (6, [.int (nI ((daysS T st fe fo nw nr nf S dn) 0)), .int (nI ((daysS T st fe fo nw nr nf S dn) 1)), .int (nI ((daysS T st fe fo nw nr nf S dn) 2)), .int (nI ((daysS T st fe fo nw nr nf S dn) 3)), .ref so, .ref wo, .ref ro, .ref fx])), (so, .inl (cJ, 12, refs (orf 12 sc))), (wo, .inl (cJ, nw, refs (orf nw wa))), (ro, .inl (cJ, nr, refs (orf nr ra))), (fx, .inl (cJ, nf, refs (orf nf fa)))] rfl gL_act_X5_pass rfl (n := 1) (by decide +kernel) rfl ⟨Nat.le_of_ble_eq_true rfl, Nat.le_of_ble_eq_true rfl⟩ rfl rfl (Nat.le_of_ble_eq_true rfl) dL_act_775 rfl (Nat.le_of_ble_eq_true rfl) (Nat.le_of_ble_eq_true rfl) ⟨(Nat.le_of_ble_eq_true rfl), (Nat.le_of_ble_eq_true rfl)⟩ rfl ?_
    refine g_aload_n X 4 779 dL_act_778 rfl rfl rfl ?_
    refine g_get X hiX6 0 2 782 rfl rfl (by decide) (List.mem_of_getElem? (i := 7) rfl) rfl dL_act_779 rfl ?_
    refine g_iload X 0 784 dL_act_782 rfl rfl ?_
    refine g_isub X ((nI ((daysS T st fe fo nw nr nf S dn) 2)) - (nI (S 2))) 785 dL_act_784 rfl rfl ?_
    refine g_icmp_ne X 788 792 dL_act_785 rfl (by decide) Iff.rfl (fun h9 => absurd rfl h9) (fun _ => ?_)
    refine g_iconst X (nI 1) 789 dL_act_788 rfl (by decide +kernel) ?_
    refine g_goto X 793 dL_act_789 (by decide) ?_
    refine g_w (kc' := rm_L_act.cells) (ks' := rm_L_act.slots) (by have h9 : rm_L_act.cells = 25 := rfl; omega) (by have h9 : rm_L_act.slots = 78 := rfl; omega) ?_
    exact ret _ _ _ _ dL_act_793 rfl ⟨rfl, wo, ro, fx, wa, ra, fa, nw, nr, nf, (daysS T st fe fo nw nr nf S dn), T, st, fe, fo, iv_w (iv_days hI dn) (by omega), rfl⟩
  rcases (show sw = 0 ∨ sw = 1 ∨ sw = 2 ∨ sw = 3 ∨ sw = 4 ∨ sw = 5 ∨ sw = 6 ∨ sw = 7 ∨ sw = 8 ∨ sw = 9 ∨ sw = 10 ∨ sw = 11 ∨ sw = 12 ∨ sw = 13 ∨ sw = 14 ∨ sw = 15 ∨ sw = 16 ∨ sw = 17 by omega) with rfl | rfl | rfl | rfl | rfl | rfl | rfl | rfl | rfl | rfl | rfl | rfl | rfl | rfl | rfl | rfl | rfl | rfl
  · refine g_tableIn X 76 dL_act_18 0 (by decide +kernel) (by decide) (by decide) rfl (by decide) ?_
    exact K76
  · refine g_tableIn X 76 dL_act_18 1 (by decide +kernel) (by decide) (by decide) rfl (by decide) ?_
    exact K76
  · refine g_tableIn X 229 dL_act_18 2 (by decide +kernel) (by decide) (by decide) rfl (by decide) ?_
    exact K229
  · refine g_tableIn X 229 dL_act_18 3 (by decide +kernel) (by decide) (by decide) rfl (by decide) ?_
    exact K229
  · refine g_tableIn X 344 dL_act_18 4 (by decide +kernel) (by decide) (by decide) rfl (by decide) ?_
    exact K344
  · refine g_tableIn X 427 dL_act_18 5 (by decide +kernel) (by decide) (by decide) rfl (by decide) ?_
    exact K427
  · refine g_tableIn X 427 dL_act_18 6 (by decide +kernel) (by decide) (by decide) rfl (by decide) ?_
    exact K427
  · refine g_tableIn X 466 dL_act_18 7 (by decide +kernel) (by decide) (by decide) rfl (by decide) ?_
    exact K466
  · refine g_tableIn X 466 dL_act_18 8 (by decide +kernel) (by decide) (by decide) rfl (by decide) ?_
    exact K466
  · refine g_tableIn X 553 dL_act_18 9 (by decide +kernel) (by decide) (by decide) rfl (by decide) ?_
    exact K553
  · refine g_tableIn X 627 dL_act_18 10 (by decide +kernel) (by decide) (by decide) rfl (by decide) ?_
    exact K627
  · refine g_tableOut X 748 dL_act_18 (by decide +kernel) (by decide) ?_
    exact K748
  · refine g_tableOut X 748 dL_act_18 (by decide +kernel) (by decide) ?_
    exact K748
  · refine g_tableOut X 748 dL_act_18 (by decide +kernel) (by decide) ?_
    exact K748
  · refine g_tableOut X 748 dL_act_18 (by decide +kernel) (by decide) ?_
    exact K748
  · refine g_tableOut X 748 dL_act_18 (by decide +kernel) (by decide) ?_
    exact K748
  · refine g_tableOut X 748 dL_act_18 (by decide +kernel) (by decide) ?_
    exact K748
  · refine g_tableOut X 748 dL_act_18 (by decide +kernel) (by decide) ?_
    exact K748
