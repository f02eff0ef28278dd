/-! THE SIM: A DAY -/

abbrev rm_X6_pass : Room := { frames := 2, cells := 6, slots := 18, locals := 50 }
set_option maxHeartbeats 4000000 in
set_option maxRecDepth 100000 in
/-- a day -/
theorem m_X6_pass (l : Launch) (D : va_G) (cI cZ cJ : ClassId) (ma so wo ro fx : Nat) (sc wa ra fa : Nat → Nat) (nw nr nf : Nat) (S T st fe fo : Nat → Nat) (C9 : va_W) (hg : Gd S nr) (hs : stOk T st fe fo nw nr nf) (ho : ∀ k : Nat, k < nf → fo k < fe k) (hd : S 0 < 2 ^ 28) : MVF fT l yX6_pass wsX6_pass rm_X6_pass D (gT cI cZ cJ) ((ma, .inr (6, [.int (nI (S 0)), .int (nI (S 1)), .int (nI (S 2)), .int (nI (S 3)), .ref so, .ref wo, .ref ro, .ref fx])) :: (so, .inl (cJ, 12, refs (orf 12 sc))) :: (wo, .inl (cJ, nw, refs (orf nw wa))) :: (ro, .inl (cJ, nr, refs (orf nr ra))) :: (fx, .inl (cJ, nf, refs (orf nf fa))) :: sR cI sc wa ra fa nw nr nf S T st fe fo C9) [.ref ma] (fun u => u = ((ma, .inr (6, [.int (nI ((dayS T st fe fo nw nr nf S) 0)), .int (nI ((dayS T st fe fo nw nr nf S) 1)), .int (nI ((dayS T st fe fo nw nr nf S) 2)), .int (nI ((dayS T st fe fo nw nr nf S) 3)), .ref so, .ref wo, .ref ro, .ref fx])) :: (so, .inl (cJ, 12, refs (orf 12 sc))) :: (wo, .inl (cJ, nw, refs (orf nw wa))) :: (ro, .inl (cJ, nr, refs (orf nr ra))) :: (fx, .inl (cJ, nf, refs (orf nf fa))) :: sR cI sc wa ra fa nw nr nf (dayS T st fe fo nw nr nf S) T st fe fo C9)) := by
  refine MVF_of [(0, .ref ma)] (by decide) rfl (Nat.le_of_ble_eq_true rfl) rfl ?_
  intro p e s m args below meth c A Q X hF ret
  have hiX6 : ∀ w ∈ wsX60, w ∈ wsX6_pass := (fun _ h => List.mem_cons_of_mem _ (List.mem_append_right _ h))
  have hn : nr ≤ 6 := hg.1.1
  have hg2 := gt_gw hg.1
  have hw := hg.2
  refine g_iconst X (nI 0) 1 dX6_pass_0 rfl (by decide +kernel) ?_
  refine g_istore_n X [(1, .int (nI 0)), (0, .ref ma)] 2 dX6_pass_1 rfl rfl (by decide) rfl ?_
  have L : ∀ i : Nat, i ≤ 12 → G p l e rm_X6_pass s m args below meth c Q D A 9 0 0 ((ma, .inr (6, [.int (nI (S 0)), .int (nI (S 1)), .int (nI (S 2)), .int (nI (S 3)), .ref so, .ref wo, .ref ro, .ref fx])) :: (so, .inl (cJ, 12, refs (orf 12 sc))) :: (wo, .inl (cJ, nw, refs (orf nw wa))) :: (ro, .inl (cJ, nr, refs (orf nr ra))) :: (fx, .inl (cJ, nf, refs (orf nf fa))) :: sR cI sc wa ra fa nw nr nf (gtU (i * 8) S) T st fe fo C9) [(1, .int (nI i)), (0, .ref ma)] 2 [] := by
    refine g_down _ ?_ ?_
    · refine g_iload_n X 0 3 dX6_pass_2 rfl rfl rfl ?_
      refine g_bipush X (nI 12) 5 dX6_pass_3 rfl (by decide +kernel) ?_
      refine g_icmp_ge X 8 118 dX6_pass_5 rfl (by decide) (nI_leI (by omega) (by omega)) (fun h5 => ?_) (fun h5 => absurd (Nat.le_refl _) h5)
      refine g_eqw (ws' := ((ma, .inr (6, [.int (nI ((gt S) 0)), .int (nI ((gt S) 1)), .int (nI ((gt S) 2)), .int (nI ((gt S) 3)), .ref so, .ref wo, .ref ro, .ref fx])) :: (so, .inl (cJ, 12, refs (orf 12 sc))) :: (wo, .inl (cJ, nw, refs (orf nw wa))) :: (ro, .inl (cJ, nr, refs (orf nr ra))) :: (fx, .inl (cJ, nf, refs (orf nf fa))) :: sR cI sc wa ra fa nw nr nf (gt S) T st fe fo C9)) (by simp only [gt_0, gt_1, gt_2, gt_3]; rfl) ?_
      refine g_aload_n X 1 119 dX6_pass_118 rfl rfl rfl ?_
      refine g_aload_n X 1 120 dX6_pass_119 rfl rfl rfl ?_
      refine g_get X hiX6 0 0 123 rfl rfl (by decide) (List.mem_of_getElem? (i := 3) rfl) rfl dX6_pass_120 rfl ?_
      refine g_sVi X okT trivial (m_X6_isFeast l D cI cZ cJ ma so wo ro fx sc wa ra fa nw nr nf (gt S) T st fe fo (gt S) C9 (gt S 0) hs.2.2.2.1 ho (by rw [gt_0]; omega)) 126 0 0 [] rfl gX6_pass_X6_isFeast rfl (n := 1) (by decide +kernel) rfl ⟨Nat.le_of_ble_eq_true rfl, Nat.le_of_ble_eq_true rfl⟩ (ci := 6) 0 rfl rfl rfl (Nat.le_of_ble_eq_true rfl) dX6_pass_123 rfl (Nat.le_of_ble_eq_true rfl) (Nat.le_of_ble_eq_true rfl) ⟨(Nat.le_of_ble_eq_true rfl), (Nat.le_of_ble_eq_true rfl)⟩ (fun r9 u9 h9 => ?_)
      obtain ⟨rfl, rfl⟩ := h9
      refine g_eqw (ws' := ((ma, .inr (6, [.int (nI ((gt S) 0)), .int (nI ((gt S) 1)), .int (nI ((gt S) 2)), .int (nI ((gt S) 3)), .ref so, .ref wo, .ref ro, .ref fx])) :: (so, .inl (cJ, 12, refs (orf 12 sc))) :: (wo, .inl (cJ, nw, refs (orf nw wa))) :: (ro, .inl (cJ, nr, refs (orf nr ra))) :: (fx, .inl (cJ, nf, refs (orf nf fa))) :: sR cI sc wa ra fa nw nr nf (gt S) T st fe fo C9)) rfl ?_
      refine g_if_eq X 129 155 dX6_pass_126 rfl (by decide) (bn_eq0 _) (fun hq => ?_) (fun hq => ?_)
      · refine g_aload_n X 1 156 dX6_pass_155 rfl rfl rfl ?_
        refine g_get X hiX6 0 6 159 rfl rfl (by decide) (List.mem_of_getElem? (i := 6) rfl) rfl dX6_pass_156 rfl ?_
        refine g_astore_n X [(1, .ref ro), (0, .ref ma)] 160 dX6_pass_159 rfl rfl (by decide) rfl ?_
        refine g_aload_n X 0 161 dX6_pass_160 rfl rfl rfl ?_
        refine g_alen X 3 2 162 rfl rfl dX6_pass_161 rfl ?_
        refine g_istore_n X [(2, .int (nI nr)), (1, .ref ro), (0, .ref ma)] 163 dX6_pass_162 rfl rfl (by decide) rfl ?_
        refine g_iconst X (nI 0) 164 dX6_pass_163 rfl (by decide +kernel) ?_
        refine g_istore_n X [(3, .int (nI 0)), (2, .int (nI nr)), (1, .ref ro), (0, .ref ma)] 165 dX6_pass_164 rfl rfl (by decide) rfl ?_
        have LR : ∀ r : Nat, r ≤ nr → G p l e rm_X6_pass s m args below meth c Q D A 9 0 0 ((ma, .inr (6, [.int (nI ((gt S) 0)), .int (nI ((gt S) 1)), .int (nI ((gt S) 2)), .int (nI ((gt S) 3)), .ref so, .ref wo, .ref ro, .ref fx])) :: (so, .inl (cJ, 12, refs (orf 12 sc))) :: (wo, .inl (cJ, nw, refs (orf nw wa))) :: (ro, .inl (cJ, nr, refs (orf nr ra))) :: (fx, .inl (cJ, nf, refs (orf nf fa))) :: sR cI sc wa ra fa nw nr nf (wkA nr st (gt S) r) T st fe fo C9) [(3, .int (nI r)), (2, .int (nI nr)), (1, .ref ro), (0, .ref ma)] 165 [] := by
          refine g_down _ ?_ ?_
          · refine g_iload_n X 0 166 dX6_pass_165 rfl rfl rfl ?_
            refine g_iload_n X 1 167 dX6_pass_166 rfl rfl rfl ?_
            refine g_icmp_ge X 170 388 dX6_pass_167 rfl (by decide) (nI_leI (by omega) (by omega)) (fun h167 => ?_) (fun h167 => absurd (Nat.le_refl _) h167)
            refine g_eqw (ws' := ((ma, .inr (6, [.int (nI ((wkA nr st (gt S) nr) 0)), .int (nI ((wkA nr st (gt S) nr) 1)), .int (nI ((wkA nr st (gt S) nr) 2)), .int (nI ((wkA nr st (gt S) nr) 3)), .ref so, .ref wo, .ref ro, .ref fx])) :: (so, .inl (cJ, 12, refs (orf 12 sc))) :: (wo, .inl (cJ, nw, refs (orf nw wa))) :: (ro, .inl (cJ, nr, refs (orf nr ra))) :: (fx, .inl (cJ, nf, refs (orf nf fa))) :: sR cI sc wa ra fa nw nr nf (wkA nr st (gt S) nr) T st fe fo C9)) (by rw [wkA_lo (i := 0) (by decide) hg2 nr (Nat.le_refl _), wkA_lo (i := 1) (by decide) hg2 nr (Nat.le_refl _), wkA_lo (i := 2) (by decide) hg2 nr (Nat.le_refl _), wkA_lo (i := 3) (by decide) hg2 nr (Nat.le_refl _)]) ?_
            refine g_aload_n X 3 389 dX6_pass_388 rfl rfl rfl ?_
            refine g_dup X 390 dX6_pass_389 rfl rfl ?_
            refine g_get X hiX6 0 0 393 rfl rfl (by decide) (List.mem_of_getElem? (i := 3) rfl) rfl dX6_pass_390 rfl ?_
            refine g_iconst X (nI 1) 394 dX6_pass_393 rfl (by decide +kernel) ?_
            refine g_iadd X (nI (((wkA nr st (gt S) nr) 0) + 1)) 395 dX6_pass_394 rfl (nI_add _ _) ?_
            refine g_put (ws' := ((ma, .inr (6, [.int (nI (((wkA nr st (gt S) nr) 0) + 1)), .int (nI ((wkA nr st (gt S) nr) 1)), .int (nI ((wkA nr st (gt S) nr) 2)), .int (nI ((wkA nr st (gt S) nr) 3)), .ref so, .ref wo, .ref ro, .ref fx])) :: (so, .inl (cJ, 12, refs (orf 12 sc))) :: (wo, .inl (cJ, nw, refs (orf nw wa))) :: (ro, .inl (cJ, nr, refs (orf nr ra))) :: (fx, .inl (cJ, nf, refs (orf nf fa))) :: sR cI sc wa ra fa nw nr nf (wkA nr st (gt S) nr) T st fe fo C9)) X hiX6 tyX6 tyX6_ok nmX6 0 0 398 rfl rfl (by decide) (List.mem_of_getElem? (i := 3) rfl) rfl (ty := .int) (by decide +kernel) rfl rfl (Nat.le_of_ble_eq_true rfl) dX6_pass_395 rfl rfl ?_
            refine g_w (kc' := rm_X6_pass.cells) (ks' := rm_X6_pass.slots) (by have h9 : rm_X6_pass.cells = 6 := rfl; omega) (by have h9 : rm_X6_pass.slots = 18 := rfl; omega) ?_
            exact ret _ _ _ dX6_pass_398 (by rw [dayS_w hq]; unfold dyW; rw [← sR_lo (p := 0) (by decide)]; rfl)
          · intro r hr ih_r 
            refine g_iload_n X 0 166 dX6_pass_165 rfl rfl rfl ?_
            refine g_iload_n X 1 167 dX6_pass_166 rfl rfl rfl ?_
            refine g_icmp_ge X 170 388 dX6_pass_167 rfl (by decide) (nI_leI (by omega) (by omega)) (fun h167 => absurd h167 (by omega)) (fun h167 => ?_)
            have hgr := wkA_gw (st := st) hg2 r (by omega)
            refine g_aload_n X 2 171 dX6_pass_170 rfl rfl rfl ?_
            refine g_iload_n X 0 172 dX6_pass_171 rfl rfl rfl ?_
            refine g_aald X 3 2 (r) (ra r) 173 rfl rfl (by omega) (by omega) (orf_at (by omega)) dX6_pass_172 rfl ?_
            refine g_astore X [(4, .ref (ra r)), (3, .int (nI r)), (2, .int (nI nr)), (1, .ref ro), (0, .ref ma)] 175 dX6_pass_173 rfl (by decide) rfl ?_
            refine g_aload X 0 177 dX6_pass_175 rfl rfl ?_
            refine g_iconst X (nI 2) 178 dX6_pass_177 rfl (by decide +kernel) ?_
            refine g_ialdT X 5 (12 + (nw + r)) 0 (sR cI sc wa ra fa nw nr nf (wkA nr st (gt S) r) T st fe fo C9) (2) (nI (st r)) 179 rfl (sR_r (by omega)) rfl (by omega) (by decide) vrp_2 dX6_pass_178 rfl ?_
            refine g_istore X [(5, .int (nI (st r))), (4, .ref (ra r)), (3, .int (nI r)), (2, .int (nI nr)), (1, .ref ro), (0, .ref ma)] 181 dX6_pass_179 rfl (by decide) rfl ?_
            refine g_iconst X (nI 0) 182 dX6_pass_181 rfl (by decide +kernel) ?_
            refine g_istore X [(6, .int (nI 0)), (5, .int (nI (st r))), (4, .ref (ra r)), (3, .int (nI r)), (2, .int (nI nr)), (1, .ref ro), (0, .ref ma)] 184 dX6_pass_182 rfl (by decide) rfl ?_
            have LK : ∀ kk : Nat, kk ≤ 31 → ∀ (S1 : Nat → Nat) (lf b9 : Nat), Gw S1 nr → ((b9 = 0 ∧ lf < 31 - kk ∧ wk nr r (31 - kk) lf S1 = wk nr r 31 (st r) (wkA nr st (gt S) r)) ∨ (b9 = 1 ∧ S1 = wk nr r 31 (st r) (wkA nr st (gt S) r))) → G p l e rm_X6_pass s m args below meth c Q D A 9 0 0 ((ma, .inr (6, [.int (nI ((gt S) 0)), .int (nI ((gt S) 1)), .int (nI ((gt S) 2)), .int (nI ((gt S) 3)), .ref so, .ref wo, .ref ro, .ref fx])) :: (so, .inl (cJ, 12, refs (orf 12 sc))) :: (wo, .inl (cJ, nw, refs (orf nw wa))) :: (ro, .inl (cJ, nr, refs (orf nr ra))) :: (fx, .inl (cJ, nf, refs (orf nf fa))) :: sR cI sc wa ra fa nw nr nf S1 T st fe fo C9) [(6, .int (nI b9)), (5, .int (nI lf)), (4, .ref (ra r)), (3, .int (nI r)), (2, .int (nI nr)), (1, .ref ro), (0, .ref ma)] 184 [] := by
              refine g_down _ ?_ ?_
              · intro S1 lf b9 hg1 hb9
                obtain ⟨-, hlf, -⟩ | ⟨rfl, rfl⟩ := hb9
                · exact absurd hlf (by omega)
                · refine g_iload X 0 186 dX6_pass_184 rfl rfl ?_
                  refine g_if_ne X 189 382 dX6_pass_186 rfl (by decide) (nz_eq (by omega)) (fun h186 => ?_) (fun h186 => absurd h186 (by decide))
                  refine g_iinc X 3 (nI (r + 1)) [(3, .int (nI (r + 1))), (6, .int (nI 1)), (5, .int (nI lf)), (4, .ref (ra r)), (2, .int (nI nr)), (1, .ref ro), (0, .ref ma)] 385 dX6_pass_382 rfl rfl (nI_inc _) (by decide) rfl ?_
                  refine g_goto X 165 dX6_pass_385 (by decide) ?_
                  refine g_lv (lv' := [(3, .int (nI (r + 1))), (2, .int (nI nr)), (1, .ref ro), (0, .ref ma)]) [0, 4, 5, 6] rfl ?_
                  exact ih_r
              · intro kk hkk ih_kk S1 lf b9 hg1 hb9
                obtain ⟨rfl, hlf, hq9⟩ | ⟨rfl, rfl⟩ := hb9
                · rw [show 31 - kk = (31 - (kk + 1)) + 1 by omega] at hq9
                  have h3 := hg1.2.2 r hr
                  have hpn := pnR_lt hg1 hr
                  have hof : ofR S1 r lf ≤ lf := Nat.min_le_left _ _
                  have hsp := hg1.2.1 (S1 (100 + 5 * r) * 8 + S1 (100 + 5 * r + 1)) (by omega)
                  have hop : ofR S1 r lf ≤ S1 (pnR S1 r) := Nat.min_le_right _ _
                  have hom : ofR S1 r lf = min lf (S1 (pnR S1 r)) := rfl
                  have hpe : pnR S1 r = 4 + (S1 (100 + 5 * r) * 8 + S1 (100 + 5 * r + 1)) := rfl
                  rw [← hpe] at hsp
                  refine g_iload X 0 186 dX6_pass_184 rfl rfl ?_
                  refine g_if_ne X 189 382 dX6_pass_186 rfl (by decide) (nz_eq (by omega)) (fun h186 => absurd rfl h186) (fun h186 => ?_)
                  refine g_lv (lv' := [(5, .int (nI lf)), (6, .int (nI 0)), (4, .ref (ra r)), (3, .int (nI r)), (2, .int (nI nr)), (1, .ref ro), (0, .ref ma)]) [1, 0, 2, 3, 4, 5, 6] rfl ?_
                  have LC : ∀ c9 : Nat, c9 ≤ ofR S1 r lf → G p l e rm_X6_pass s m args below meth c Q D A 9 0 0 ((ma, .inr (6, [.int (nI ((gt S) 0)), .int (nI ((gt S) 1)), .int (nI ((gt S) 2)), .int (nI ((gt S) 3)), .ref so, .ref wo, .ref ro, .ref fx])) :: (so, .inl (cJ, 12, refs (orf 12 sc))) :: (wo, .inl (cJ, nw, refs (orf nw wa))) :: (ro, .inl (cJ, nr, refs (orf nr ra))) :: (fx, .inl (cJ, nf, refs (orf nf fa))) :: sR cI sc wa ra fa nw nr nf (tkS S1 r c9) T st fe fo C9) [(5, .int (nI (lf - c9))), (6, .int (nI 0)), (4, .ref (ra r)), (3, .int (nI r)), (2, .int (nI nr)), (1, .ref ro), (0, .ref ma)] 189 [] := by
                    refine g_down _ ?_ ?_
                    · refine g_iload X 0 191 dX6_pass_189 rfl rfl ?_
                      refine g_if_le X 194 243 dX6_pass_191 rfl (by decide) (nz_le (by omega)) (fun hz => ?_) (fun hz => ?_)
                      · refine g_eqw (ws' := ((ma, .inr (6, [.int (nI ((gt S) 0)), .int (nI ((gt S) 1)), .int (nI ((gt S) 2)), .int (nI ((gt S) 3)), .ref so, .ref wo, .ref ro, .ref fx])) :: (so, .inl (cJ, 12, refs (orf 12 sc))) :: (wo, .inl (cJ, nw, refs (orf nw wa))) :: (ro, .inl (cJ, nr, refs (orf nr ra))) :: (fx, .inl (cJ, nf, refs (orf nf fa))) :: sR cI sc wa ra fa nw nr nf (tkS S1 r lf) T st fe fo C9)) (by rw [tkS_of]) ?_
                        have hg3 := tkS_gw (lf := lf) hg1 hr
                        have e0 : tkS S1 r lf (100 + 5 * r) = S1 (100 + 5 * r) := tkS_hi hg1 hr (by omega) (by omega)
                        have e1 : tkS S1 r lf (100 + 5 * r + 1) = S1 (100 + 5 * r + 1) := tkS_hi hg1 hr (by omega) (by omega)
                        have e2 : tkS S1 r lf (100 + 5 * r + 2) = S1 (100 + 5 * r + 2) := tkS_hi hg1 hr (by omega) (by omega)
                        refine g_aload X 2 245 dX6_pass_243 rfl rfl ?_
                        refine g_iconst X (nI 1) 246 dX6_pass_245 rfl (by decide +kernel) ?_
                        refine g_ialdT X 5 (12 + (nw + r)) 0 (sR cI sc wa ra fa nw nr nf (tkS S1 r lf) T st fe fo C9) (1) (nI (S1 (100 + 5 * r + 1))) 247 rfl (sR_r (by omega)) rfl (by omega) (by decide) (vrp_1.trans (congrArg nI e1)) dX6_pass_246 rfl ?_
                        refine g_bipush X (nI 7) 249 dX6_pass_247 rfl (by decide +kernel) ?_
                        refine g_icmp_ge X 252 256 dX6_pass_249 rfl (by decide) (nI_leI (by omega) (by omega)) (fun h249 => ?_) (fun h249 => ?_)
                        · refine g_iconst X (nI 3) 257 dX6_pass_256 rfl (by decide +kernel) ?_
                          refine g_istore X [(7, .int (nI 3)), (5, .int (nI (lf - (ofR S1 r lf)))), (6, .int (nI 0)), (4, .ref (ra r)), (3, .int (nI r)), (2, .int (nI nr)), (1, .ref ro), (0, .ref ma)] 259 dX6_pass_257 rfl (by decide) rfl ?_
                          refine g_iload X 1 261 dX6_pass_259 rfl rfl ?_
                          refine g_iload X 0 263 dX6_pass_261 rfl rfl ?_
                          refine g_icmp_ge X 266 272 dX6_pass_263 rfl (by decide) (nI_leI (by omega) (by omega)) (fun h263 => absurd h263 (by omega)) (fun h263 => ?_)
                          refine g_iconst X (nI 1) 267 dX6_pass_266 rfl (by decide +kernel) ?_
                          refine g_istore X [(6, .int (nI 1)), (7, .int (nI 3)), (5, .int (nI (lf - (ofR S1 r lf)))), (4, .ref (ra r)), (3, .int (nI r)), (2, .int (nI nr)), (1, .ref ro), (0, .ref ma)] 269 dX6_pass_267 rfl (by decide) rfl ?_
                          refine g_goto X 362 dX6_pass_269 (by decide) ?_
                          refine g_iload X 0 364 dX6_pass_362 rfl rfl ?_
                          refine g_if_ne X 367 372 dX6_pass_364 rfl (by decide) (nz_eq (by omega)) (fun h364 => ?_) (fun h364 => absurd h364 (by decide))
                          refine g_iconst X (nI 1) 373 dX6_pass_372 rfl (by decide +kernel) ?_
                          refine g_goto X 377 dX6_pass_373 (by decide) ?_
                          refine g_istore X [(6, .int (nI 1)), (7, .int (nI 3)), (5, .int (nI (lf - (ofR S1 r lf)))), (4, .ref (ra r)), (3, .int (nI r)), (2, .int (nI nr)), (1, .ref ro), (0, .ref ma)] 379 dX6_pass_377 rfl (by decide) rfl ?_
                          refine g_goto X 184 dX6_pass_379 (by decide) ?_
                          refine g_lv (lv' := [(6, .int (nI 1)), (5, .int (nI (lf - (ofR S1 r lf)))), (4, .ref (ra r)), (3, .int (nI r)), (2, .int (nI nr)), (1, .ref ro), (0, .ref ma)]) [0, 2, 3, 4, 5, 6, 7] rfl ?_
                          exact ih_kk _ _ 1 (hg3) (Or.inr ⟨rfl, (by rw [← hq9, wk_stop hz])⟩)
                        · refine g_iconst X (nI 1) 253 dX6_pass_252 rfl (by decide +kernel) ?_
                          refine g_goto X 257 dX6_pass_253 (by decide) ?_
                          refine g_istore X [(7, .int (nI 1)), (5, .int (nI (lf - (ofR S1 r lf)))), (6, .int (nI 0)), (4, .ref (ra r)), (3, .int (nI r)), (2, .int (nI nr)), (1, .ref ro), (0, .ref ma)] 259 dX6_pass_257 rfl (by decide) rfl ?_
                          refine g_iload X 1 261 dX6_pass_259 rfl rfl ?_
                          refine g_iload X 0 263 dX6_pass_261 rfl rfl ?_
                          refine g_icmp_ge X 266 272 dX6_pass_263 rfl (by decide) (nI_leI (by omega) (by omega)) (fun h263 => absurd h263 (by omega)) (fun h263 => ?_)
                          refine g_iconst X (nI 1) 267 dX6_pass_266 rfl (by decide +kernel) ?_
                          refine g_istore X [(6, .int (nI 1)), (7, .int (nI 1)), (5, .int (nI (lf - (ofR S1 r lf)))), (4, .ref (ra r)), (3, .int (nI r)), (2, .int (nI nr)), (1, .ref ro), (0, .ref ma)] 269 dX6_pass_267 rfl (by decide) rfl ?_
                          refine g_goto X 362 dX6_pass_269 (by decide) ?_
                          refine g_iload X 0 364 dX6_pass_362 rfl rfl ?_
                          refine g_if_ne X 367 372 dX6_pass_364 rfl (by decide) (nz_eq (by omega)) (fun h364 => ?_) (fun h364 => absurd h364 (by decide))
                          refine g_iconst X (nI 1) 373 dX6_pass_372 rfl (by decide +kernel) ?_
                          refine g_goto X 377 dX6_pass_373 (by decide) ?_
                          refine g_istore X [(6, .int (nI 1)), (7, .int (nI 1)), (5, .int (nI (lf - (ofR S1 r lf)))), (4, .ref (ra r)), (3, .int (nI r)), (2, .int (nI nr)), (1, .ref ro), (0, .ref ma)] 379 dX6_pass_377 rfl (by decide) rfl ?_
                          refine g_goto X 184 dX6_pass_379 (by decide) ?_
                          refine g_lv (lv' := [(6, .int (nI 1)), (5, .int (nI (lf - (ofR S1 r lf)))), (4, .ref (ra r)), (3, .int (nI r)), (2, .int (nI nr)), (1, .ref ro), (0, .ref ma)]) [0, 2, 3, 4, 5, 6, 7] rfl ?_
                          exact ih_kk _ _ 1 (hg3) (Or.inr ⟨rfl, (by rw [← hq9, wk_stop hz])⟩)
                      · refine g_aload_n X 6 195 dX6_pass_194 rfl rfl rfl ?_
                        refine g_get X hiX6 0 4 198 rfl rfl (by decide) (List.mem_of_getElem? (i := 2) rfl) rfl dX6_pass_195 rfl ?_
                        refine g_aload X 2 200 dX6_pass_198 rfl rfl ?_
                        refine g_iconst X (nI 0) 201 dX6_pass_200 rfl (by decide +kernel) ?_
                        refine g_ialdT X 5 (12 + (nw + r)) 0 (sR cI sc wa ra fa nw nr nf (tkS S1 r (ofR S1 r lf)) T st fe fo C9) (0) (nI (S1 (100 + 5 * r))) 202 rfl (sR_r (by omega)) rfl (by omega) (by decide) (vrp_0.trans (congrArg nI (tkS_hi hg1 hr (by omega) (by omega)))) dX6_pass_201 rfl ?_
                        refine g_aald X 1 2 (S1 (100 + 5 * r)) (sc (S1 (100 + 5 * r))) 203 rfl rfl (by omega) (by decide) (orf_at (by omega)) dX6_pass_202 rfl ?_
                        refine g_aload X 2 205 dX6_pass_203 rfl rfl ?_
                        refine g_iconst X (nI 1) 206 dX6_pass_205 rfl (by decide +kernel) ?_
                        refine g_ialdT X 5 (12 + (nw + r)) 0 (sR cI sc wa ra fa nw nr nf (tkS S1 r (ofR S1 r lf)) T st fe fo C9) (1) (nI (S1 (100 + 5 * r + 1))) 207 rfl (sR_r (by omega)) rfl (by omega) (by decide) (vrp_1.trans (congrArg nI (tkS_hi hg1 hr (by omega) (by omega)))) dX6_pass_206 rfl ?_
                        refine g_ialdT X 5 (S1 (100 + 5 * r)) 0 (sR cI sc wa ra fa nw nr nf (tkS S1 r (ofR S1 r lf)) T st fe fo C9) (S1 (100 + 5 * r + 1)) (nI (S1 (pnR S1 r) - ofR S1 r lf)) 208 rfl (sR_c (by omega)) rfl (by omega) (by decide) ((vcl_at (by omega)).trans (congrArg nI (tkS_pn hg1 hr (Nat.le_refl _)))) dX6_pass_207 rfl ?_
                        refine g_if_le X 211 243 dX6_pass_208 rfl (by decide) (nz_le (by omega)) (fun h208 => ?_) (fun h208 => absurd (by omega) h208)
                        refine g_eqw (ws' := ((ma, .inr (6, [.int (nI ((gt S) 0)), .int (nI ((gt S) 1)), .int (nI ((gt S) 2)), .int (nI ((gt S) 3)), .ref so, .ref wo, .ref ro, .ref fx])) :: (so, .inl (cJ, 12, refs (orf 12 sc))) :: (wo, .inl (cJ, nw, refs (orf nw wa))) :: (ro, .inl (cJ, nr, refs (orf nr ra))) :: (fx, .inl (cJ, nf, refs (orf nf fa))) :: sR cI sc wa ra fa nw nr nf (tkS S1 r lf) T st fe fo C9)) (by rw [tkS_of]) ?_
                        have hg3 := tkS_gw (lf := lf) hg1 hr
                        have e0 : tkS S1 r lf (100 + 5 * r) = S1 (100 + 5 * r) := tkS_hi hg1 hr (by omega) (by omega)
                        have e1 : tkS S1 r lf (100 + 5 * r + 1) = S1 (100 + 5 * r + 1) := tkS_hi hg1 hr (by omega) (by omega)
                        have e2 : tkS S1 r lf (100 + 5 * r + 2) = S1 (100 + 5 * r + 2) := tkS_hi hg1 hr (by omega) (by omega)
                        refine g_aload X 2 245 dX6_pass_243 rfl rfl ?_
                        refine g_iconst X (nI 1) 246 dX6_pass_245 rfl (by decide +kernel) ?_
                        refine g_ialdT X 5 (12 + (nw + r)) 0 (sR cI sc wa ra fa nw nr nf (tkS S1 r lf) T st fe fo C9) (1) (nI (S1 (100 + 5 * r + 1))) 247 rfl (sR_r (by omega)) rfl (by omega) (by decide) (vrp_1.trans (congrArg nI e1)) dX6_pass_246 rfl ?_
                        refine g_bipush X (nI 7) 249 dX6_pass_247 rfl (by decide +kernel) ?_
                        refine g_icmp_ge X 252 256 dX6_pass_249 rfl (by decide) (nI_leI (by omega) (by omega)) (fun h249 => ?_) (fun h249 => ?_)
                        · refine g_iconst X (nI 3) 257 dX6_pass_256 rfl (by decide +kernel) ?_
                          refine g_istore X [(7, .int (nI 3)), (5, .int (nI (lf - (ofR S1 r lf)))), (6, .int (nI 0)), (4, .ref (ra r)), (3, .int (nI r)), (2, .int (nI nr)), (1, .ref ro), (0, .ref ma)] 259 dX6_pass_257 rfl (by decide) rfl ?_
                          refine g_iload X 1 261 dX6_pass_259 rfl rfl ?_
                          refine g_iload X 0 263 dX6_pass_261 rfl rfl ?_
                          refine g_icmp_ge X 266 272 dX6_pass_263 rfl (by decide) (nI_leI (by omega) (by omega)) (fun h263 => ?_) (fun h263 => ?_)
                          · refine g_aload X 3 274 dX6_pass_272 rfl rfl ?_
                            refine g_iconst X (nI 1) 275 dX6_pass_274 rfl (by decide +kernel) ?_
                            refine g_ialdT X 5 (12 + (nw + r)) 0 (sR cI sc wa ra fa nw nr nf (tkS S1 r lf) T st fe fo C9) (1) (nI (S1 (100 + 5 * r + 1))) 276 rfl (sR_r (by omega)) rfl (by omega) (by decide) (vrp_1.trans (congrArg nI e1)) dX6_pass_275 rfl ?_
                            refine g_bipush X (nI 7) 278 dX6_pass_276 rfl (by decide +kernel) ?_
                            refine g_icmp_ge X 281 295 dX6_pass_278 rfl (by decide) (nI_leI (by omega) (by omega)) (fun h278 => ?_) (fun h278 => absurd h278 (by omega))
                            obtain ⟨K, hK7, hK0, hKh, hKf, hKn⟩ := free_K hg3 hr
                            have hcyK := cyc_lt (S := tkS S1 r lf) (r := r) (hg3.2.2 r hr).1 K
                            refine g_aload X 3 297 dX6_pass_295 rfl rfl ?_
                            refine g_iconst X (nI 0) 298 dX6_pass_297 rfl (by decide +kernel) ?_
                            refine g_ialdT X 5 (12 + (nw + r)) 0 (sR cI sc wa ra fa nw nr nf (tkS S1 r lf) T st fe fo C9) (0) (nI (tkS S1 r lf (100 + 5 * r))) 299 rfl (sR_r (by omega)) rfl (by omega) (by decide) vrp_0 dX6_pass_298 rfl ?_
                            refine g_istore X [(8, .int (nI (tkS S1 r lf (100 + 5 * r)))), (7, .int (nI 3)), (5, .int (nI (lf - (ofR S1 r lf)))), (6, .int (nI 0)), (4, .ref (ra r)), (3, .int (nI r)), (2, .int (nI nr)), (1, .ref ro), (0, .ref ma)] 301 dX6_pass_299 rfl (by decide) rfl ?_
                            refine g_lv (lv' := [(8, .int (nI (tkS S1 r lf (100 + 5 * r)))), (6, .int (nI 0)), (5, .int (nI (lf - (ofR S1 r lf)))), (4, .ref (ra r)), (3, .int (nI r)), (2, .int (nI nr)), (1, .ref ro), (0, .ref ma)]) [0, 3, 2, 4, 5, 6, 7, 8] rfl ?_
                            have LQ : ∀ q9 : Nat, q9 ≤ K → G p l e rm_X6_pass s m args below meth c Q D A 9 0 0 ((ma, .inr (6, [.int (nI ((gt S) 0)), .int (nI ((gt S) 1)), .int (nI ((gt S) 2)), .int (nI ((gt S) 3)), .ref so, .ref wo, .ref ro, .ref fx])) :: (so, .inl (cJ, 12, refs (orf 12 sc))) :: (wo, .inl (cJ, nw, refs (orf nw wa))) :: (ro, .inl (cJ, nr, refs (orf nr ra))) :: (fx, .inl (cJ, nf, refs (orf nf fa))) :: sR cI sc wa ra fa nw nr nf (tkS S1 r lf) T st fe fo C9) [(8, .int (nI (cyc (tkS S1 r lf) r q9))), (6, .int (nI 0)), (5, .int (nI (lf - ofR S1 r lf))), (4, .ref (ra r)), (3, .int (nI r)), (2, .int (nI nr)), (1, .ref ro), (0, .ref ma)] 301 [] := by
                              refine g_down _ ?_ ?_
                              · have hcy := cyc_lt (S := tkS S1 r lf) (r := r) (hg3.2.2 r hr).1 K
                                refine g_aload_n X 7 302 dX6_pass_301 rfl rfl rfl ?_
                                refine g_iload X 0 304 dX6_pass_302 rfl rfl ?_
                                refine g_sVi X okT trivial (m_X6_ropeAt l D cI cZ cJ ma so wo ro fx sc wa ra fa nw nr nf (tkS S1 r lf) T st fe fo (gt S) C9 (cyc (tkS S1 r lf) r K) hg3 hcy) 307 0 0 [] rfl gX6_pass_X6_ropeAt rfl (n := 1) (by decide +kernel) rfl ⟨Nat.le_of_ble_eq_true rfl, Nat.le_of_ble_eq_true rfl⟩ (ci := 6) 0 rfl rfl rfl (Nat.le_of_ble_eq_true rfl) dX6_pass_304 rfl (Nat.le_of_ble_eq_true rfl) (Nat.le_of_ble_eq_true rfl) ⟨(Nat.le_of_ble_eq_true rfl), (Nat.le_of_ble_eq_true rfl)⟩ (fun r9 u9 h9 => ?_)
                                obtain ⟨hra, rfl⟩ := h9
                                refine g_eqw (ws' := ((ma, .inr (6, [.int (nI ((gt S) 0)), .int (nI ((gt S) 1)), .int (nI ((gt S) 2)), .int (nI ((gt S) 3)), .ref so, .ref wo, .ref ro, .ref fx])) :: (so, .inl (cJ, 12, refs (orf 12 sc))) :: (wo, .inl (cJ, nw, refs (orf nw wa))) :: (ro, .inl (cJ, nr, refs (orf nr ra))) :: (fx, .inl (cJ, nf, refs (orf nf fa))) :: sR cI sc wa ra fa nw nr nf (tkS S1 r lf) T st fe fo C9)) rfl ?_
                                obtain ⟨hh9, -⟩ | ⟨-, rfl⟩ := hra
                                · rw [hKf] at hh9
                                  cases hh9
                                · refine g_if_lt X 310 340 dX6_pass_307 rfl (by decide) Iff.rfl (fun h307 => ?_) (fun h307 => absurd nIm1_lt h307)
                                  refine g_aload X 3 342 dX6_pass_340 rfl rfl ?_
                                  refine g_iconst X (nI 0) 343 dX6_pass_342 rfl (by decide +kernel) ?_
                                  refine g_iload X 0 345 dX6_pass_343 rfl rfl ?_
                                  refine g_iastT (ws' := ((ma, .inr (6, [.int (nI ((gt S) 0)), .int (nI ((gt S) 1)), .int (nI ((gt S) 2)), .int (nI ((gt S) 3)), .ref so, .ref wo, .ref ro, .ref fx])) :: (so, .inl (cJ, 12, refs (orf 12 sc))) :: (wo, .inl (cJ, nw, refs (orf nw wa))) :: (ro, .inl (cJ, nr, refs (orf nr ra))) :: (fx, .inl (cJ, nf, refs (orf nf fa))) :: sR cI sc wa ra fa nw nr nf (up (tkS S1 r lf) (100 + 5 * r) (cyc (tkS S1 r lf) r K)) T st fe fo C9)) X 5 (12 + (nw + r)) 0 (sR cI sc wa ra fa nw nr nf (tkS S1 r lf) T st fe fo C9) (sR cI sc wa ra fa nw nr nf (up (tkS S1 r lf) (100 + 5 * r) (cyc (tkS S1 r lf) r K)) T st fe fo C9) (0) (vrp (up (tkS S1 r lf) (100 + 5 * r) (cyc (tkS S1 r lf) r K)) st r) 346 rfl (by simp) (sR_r (by omega)) rfl (by omega) (by decide) vrp_u0 (sR_rs hr (fun _ hj => vcl_lo hj (Or.inr (by omega))) (fun _ _ h => vrp_o (by omega))) dX6_pass_345 rfl rfl ?_
                                  refine g_aload X 3 348 dX6_pass_346 rfl rfl ?_
                                  refine g_iconst X (nI 1) 349 dX6_pass_348 rfl (by decide +kernel) ?_
                                  refine g_iconst X (nI 0) 350 dX6_pass_349 rfl (by decide +kernel) ?_
                                  refine g_iastT (ws' := ((ma, .inr (6, [.int (nI ((gt S) 0)), .int (nI ((gt S) 1)), .int (nI ((gt S) 2)), .int (nI ((gt S) 3)), .ref so, .ref wo, .ref ro, .ref fx])) :: (so, .inl (cJ, 12, refs (orf 12 sc))) :: (wo, .inl (cJ, nw, refs (orf nw wa))) :: (ro, .inl (cJ, nr, refs (orf nr ra))) :: (fx, .inl (cJ, nf, refs (orf nf fa))) :: sR cI sc wa ra fa nw nr nf (up (up (tkS S1 r lf) (100 + 5 * r) (cyc (tkS S1 r lf) r K)) (100 + 5 * r + 1) 0) T st fe fo C9)) X 5 (12 + (nw + r)) 0 (sR cI sc wa ra fa nw nr nf (up (tkS S1 r lf) (100 + 5 * r) (cyc (tkS S1 r lf) r K)) T st fe fo C9) (sR cI sc wa ra fa nw nr nf (up (up (tkS S1 r lf) (100 + 5 * r) (cyc (tkS S1 r lf) r K)) (100 + 5 * r + 1) 0) T st fe fo C9) (1) (vrp (up (up (tkS S1 r lf) (100 + 5 * r) (cyc (tkS S1 r lf) r K)) (100 + 5 * r + 1) 0) st r) 351 rfl (by simp) (sR_r (by omega)) rfl (by omega) (by decide) vrp_u1 (sR_rs hr (fun _ hj => vcl_lo hj (Or.inr (by omega))) (fun _ _ h => vrp_o (by omega))) dX6_pass_350 rfl rfl ?_
                                  refine g_aload X 3 353 dX6_pass_351 rfl rfl ?_
                                  refine g_iconst X (nI 5) 354 dX6_pass_353 rfl (by decide +kernel) ?_
                                  refine g_dup2 X 355 dX6_pass_354 rfl rfl rfl ?_
                                  refine g_ialdT X 5 (12 + (nw + r)) 0 (sR cI sc wa ra fa nw nr nf (up (up (tkS S1 r lf) (100 + 5 * r) (cyc (tkS S1 r lf) r K)) (100 + 5 * r + 1) 0) T st fe fo C9) (5) (nI (tkS S1 r lf (100 + 5 * r + 4))) 356 rfl (sR_r (by omega)) rfl (by omega) (by decide) (vrp_5.trans (congrArg nI ((up_n (by omega)).trans (up_n (by omega))))) dX6_pass_355 rfl ?_
                                  refine g_iconst X (nI 1) 357 dX6_pass_356 rfl (by decide +kernel) ?_
                                  refine g_iadd X (nI ((tkS S1 r lf (100 + 5 * r + 4)) + 1)) 358 dX6_pass_357 rfl (nI_add _ _) ?_
                                  refine g_iastT (ws' := ((ma, .inr (6, [.int (nI ((gt S) 0)), .int (nI ((gt S) 1)), .int (nI ((gt S) 2)), .int (nI ((gt S) 3)), .ref so, .ref wo, .ref ro, .ref fx])) :: (so, .inl (cJ, 12, refs (orf 12 sc))) :: (wo, .inl (cJ, nw, refs (orf nw wa))) :: (ro, .inl (cJ, nr, refs (orf nr ra))) :: (fx, .inl (cJ, nf, refs (orf nf fa))) :: sR cI sc wa ra fa nw nr nf (up (up (up (tkS S1 r lf) (100 + 5 * r) (cyc (tkS S1 r lf) r K)) (100 + 5 * r + 1) 0) (100 + 5 * r + 4) (tkS S1 r lf (100 + 5 * r + 4) + 1)) T st fe fo C9)) X 5 (12 + (nw + r)) 0 (sR cI sc wa ra fa nw nr nf (up (up (tkS S1 r lf) (100 + 5 * r) (cyc (tkS S1 r lf) r K)) (100 + 5 * r + 1) 0) T st fe fo C9) (sR cI sc wa ra fa nw nr nf (up (up (up (tkS S1 r lf) (100 + 5 * r) (cyc (tkS S1 r lf) r K)) (100 + 5 * r + 1) 0) (100 + 5 * r + 4) (tkS S1 r lf (100 + 5 * r + 4) + 1)) T st fe fo C9) (5) (vrp (up (up (up (tkS S1 r lf) (100 + 5 * r) (cyc (tkS S1 r lf) r K)) (100 + 5 * r + 1) 0) (100 + 5 * r + 4) (tkS S1 r lf (100 + 5 * r + 4) + 1)) st r) 359 rfl (by simp) (sR_r (by omega)) rfl (by omega) (by decide) vrp_u5 (sR_rs hr (fun _ hj => vcl_lo hj (Or.inr (by omega))) (fun _ _ h => vrp_o (by omega))) dX6_pass_358 rfl rfl ?_
                                  refine g_eqw (ws' := ((ma, .inr (6, [.int (nI ((gt S) 0)), .int (nI ((gt S) 1)), .int (nI ((gt S) 2)), .int (nI ((gt S) 3)), .ref so, .ref wo, .ref ro, .ref fx])) :: (so, .inl (cJ, 12, refs (orf 12 sc))) :: (wo, .inl (cJ, nw, refs (orf nw wa))) :: (ro, .inl (cJ, nr, refs (orf nr ra))) :: (fx, .inl (cJ, nf, refs (orf nf fa))) :: sR cI sc wa ra fa nw nr nf (reh (tkS S1 r lf) r (nfc (tkS S1 r lf) nr r)) T st fe fo C9)) (by unfold reh; rw [hKn]) ?_
                                  refine g_iinc X 2 (nI (lf - ofR S1 r lf - 3)) [(5, .int (nI (lf - ofR S1 r lf - 3))), (8, .int (nI (cyc (tkS S1 r lf) r K))), (6, .int (nI 0)), (4, .ref (ra r)), (3, .int (nI r)), (2, .int (nI nr)), (1, .ref ro), (0, .ref ma)] 362 dX6_pass_359 rfl rfl (nI_decN (k := 3) (by omega)) (by decide) rfl ?_
                                  refine g_iload X 2 364 dX6_pass_362 rfl rfl ?_
                                  refine g_if_ne X 367 372 dX6_pass_364 rfl (by decide) (nz_eq (by omega)) (fun h364 => absurd rfl h364) (fun h364 => ?_)
                                  refine g_iload X 0 369 dX6_pass_367 rfl rfl ?_
                                  refine g_if_ne X 372 376 dX6_pass_369 rfl (by decide) (nz_eq (by omega)) (fun h369 => ?_) (fun h369 => ?_)
                                  · refine g_iconst X (nI 0) 377 dX6_pass_376 rfl (by decide +kernel) ?_
                                    refine g_istore X [(6, .int (nI 0)), (5, .int (nI (lf - ofR S1 r lf - 3))), (8, .int (nI (cyc (tkS S1 r lf) r K))), (4, .ref (ra r)), (3, .int (nI r)), (2, .int (nI nr)), (1, .ref ro), (0, .ref ma)] 379 dX6_pass_377 rfl (by decide) rfl ?_
                                    refine g_goto X 184 dX6_pass_379 (by decide) ?_
                                    refine g_lv (lv' := [(6, .int (nI 0)), (5, .int (nI (lf - ofR S1 r lf - 3))), (4, .ref (ra r)), (3, .int (nI r)), (2, .int (nI nr)), (1, .ref ro), (0, .ref ma)]) [0, 1, 3, 4, 5, 6, 7] rfl ?_
                                    exact ih_kk _ _ 0 (reh_gw hg3 (nfR_lt (hg3.2.2 r hr).1 _ _)) (Or.inl ⟨rfl, by omega, (by rw [← hq9, wk_move hz (by omega) (by omega)])⟩)
                                  · refine g_iconst X (nI 1) 373 dX6_pass_372 rfl (by decide +kernel) ?_
                                    refine g_goto X 377 dX6_pass_373 (by decide) ?_
                                    refine g_istore X [(6, .int (nI 1)), (5, .int (nI (lf - ofR S1 r lf - 3))), (8, .int (nI (cyc (tkS S1 r lf) r K))), (4, .ref (ra r)), (3, .int (nI r)), (2, .int (nI nr)), (1, .ref ro), (0, .ref ma)] 379 dX6_pass_377 rfl (by decide) rfl ?_
                                    refine g_goto X 184 dX6_pass_379 (by decide) ?_
                                    refine g_lv (lv' := [(6, .int (nI 1)), (5, .int (nI (lf - ofR S1 r lf - 3))), (4, .ref (ra r)), (3, .int (nI r)), (2, .int (nI nr)), (1, .ref ro), (0, .ref ma)]) [0, 1, 3, 4, 5, 6, 7] rfl ?_
                                    exact ih_kk _ _ 1 (reh_gw hg3 (nfR_lt (hg3.2.2 r hr).1 _ _)) (Or.inr ⟨rfl, (by rw [← hq9, wk_move hz (by omega) (by omega), h369, wk_0])⟩)
                              · intro q9 hq9 ih_q9 
                                have hcy := cyc_lt (S := tkS S1 r lf) (r := r) (hg3.2.2 r hr).1 q9
                                refine g_aload_n X 7 302 dX6_pass_301 rfl rfl rfl ?_
                                refine g_iload X 0 304 dX6_pass_302 rfl rfl ?_
                                refine g_sVi X okT trivial (m_X6_ropeAt l D cI cZ cJ ma so wo ro fx sc wa ra fa nw nr nf (tkS S1 r lf) T st fe fo (gt S) C9 (cyc (tkS S1 r lf) r q9) hg3 hcy) 307 0 0 [] rfl gX6_pass_X6_ropeAt rfl (n := 1) (by decide +kernel) rfl ⟨Nat.le_of_ble_eq_true rfl, Nat.le_of_ble_eq_true rfl⟩ (ci := 6) 0 rfl rfl rfl (Nat.le_of_ble_eq_true rfl) dX6_pass_304 rfl (Nat.le_of_ble_eq_true rfl) (Nat.le_of_ble_eq_true rfl) ⟨(Nat.le_of_ble_eq_true rfl), (Nat.le_of_ble_eq_true rfl)⟩ (fun r9 u9 h9 => ?_)
                                obtain ⟨hra, rfl⟩ := h9
                                refine g_eqw (ws' := ((ma, .inr (6, [.int (nI ((gt S) 0)), .int (nI ((gt S) 1)), .int (nI ((gt S) 2)), .int (nI ((gt S) 3)), .ref so, .ref wo, .ref ro, .ref fx])) :: (so, .inl (cJ, 12, refs (orf 12 sc))) :: (wo, .inl (cJ, nw, refs (orf nw wa))) :: (ro, .inl (cJ, nr, refs (orf nr ra))) :: (fx, .inl (cJ, nf, refs (orf nf fa))) :: sR cI sc wa ra fa nw nr nf (tkS S1 r lf) T st fe fo C9)) rfl ?_
                                obtain ⟨-, k9, hk9, rfl⟩ | ⟨hh9, -⟩ := hra
                                · refine g_if_lt X 310 340 dX6_pass_307 rfl (by decide) (nz_lt (by omega)) (fun h307 => False.elim h307) (fun h307 => ?_)
                                  refine g_aload X 3 312 dX6_pass_310 rfl rfl ?_
                                  refine g_iconst X (nI 3) 313 dX6_pass_312 rfl (by decide +kernel) ?_
                                  refine g_ialdT X 5 (12 + (nw + r)) 0 (sR cI sc wa ra fa nw nr nf (tkS S1 r lf) T st fe fo C9) (3) (nI (S1 (100 + 5 * r + 2))) 314 rfl (sR_r (by omega)) rfl (by omega) (by decide) (vrp_3.trans (congrArg nI e2)) dX6_pass_313 rfl ?_
                                  refine g_if_ne X 317 327 dX6_pass_314 rfl (by decide) (nz_eq (by omega)) (fun h314 => ?_) (fun h314 => ?_)
                                  · refine g_iload X 0 329 dX6_pass_327 rfl rfl ?_
                                    refine g_bipush X (nI 11) 331 dX6_pass_329 rfl (by decide +kernel) ?_
                                    refine g_iadd X (nI ((cyc (tkS S1 r lf) r q9) + 11)) 332 dX6_pass_331 rfl (nI_add _ _) ?_
                                    refine g_bipush X (nI 12) 334 dX6_pass_332 rfl (by decide +kernel) ?_
                                    refine g_irem X (nI (((cyc (tkS S1 r lf) r q9) + 11) % 12)) 335 dX6_pass_334 rfl (nI_ne0 (by omega) (by omega)) (pk_rem (by omega) (by omega) (by omega)) ?_
                                    refine g_eqi (y := nI ((cyc (tkS S1 r lf) r q9 + wyS (tkS S1 r lf) r) % 12)) (by rw [show wyS (tkS S1 r lf) r = 11 from by unfold wyS; rw [e2, if_neg h314]]) ?_
                                    refine g_istore X [(8, .int (nI ((cyc (tkS S1 r lf) r q9 + wyS (tkS S1 r lf) r) % 12))), (6, .int (nI 0)), (5, .int (nI (lf - ofR S1 r lf))), (4, .ref (ra r)), (3, .int (nI r)), (2, .int (nI nr)), (1, .ref ro), (0, .ref ma)] 337 dX6_pass_335 rfl (by decide) rfl ?_
                                    refine g_goto X 301 dX6_pass_337 (by decide) ?_
                                    exact ih_q9
                                  · refine g_iload X 0 319 dX6_pass_317 rfl rfl ?_
                                    refine g_iconst X (nI 1) 320 dX6_pass_319 rfl (by decide +kernel) ?_
                                    refine g_iadd X (nI ((cyc (tkS S1 r lf) r q9) + 1)) 321 dX6_pass_320 rfl (nI_add _ _) ?_
                                    refine g_bipush X (nI 12) 323 dX6_pass_321 rfl (by decide +kernel) ?_
                                    refine g_irem X (nI (((cyc (tkS S1 r lf) r q9) + 1) % 12)) 324 dX6_pass_323 rfl (nI_ne0 (by omega) (by omega)) (pk_rem (by omega) (by omega) (by omega)) ?_
                                    refine g_goto X 335 dX6_pass_324 (by decide) ?_
                                    refine g_eqi (y := nI ((cyc (tkS S1 r lf) r q9 + wyS (tkS S1 r lf) r) % 12)) (by rw [show wyS (tkS S1 r lf) r = 1 from by unfold wyS; rw [e2, if_pos h314]]) ?_
                                    refine g_istore X [(8, .int (nI ((cyc (tkS S1 r lf) r q9 + wyS (tkS S1 r lf) r) % 12))), (6, .int (nI 0)), (5, .int (nI (lf - ofR S1 r lf))), (4, .ref (ra r)), (3, .int (nI r)), (2, .int (nI nr)), (1, .ref ro), (0, .ref ma)] 337 dX6_pass_335 rfl (by decide) rfl ?_
                                    refine g_goto X 301 dX6_pass_337 (by decide) ?_
                                    exact ih_q9
                                · rw [hKh q9 hq9] at hh9
                                  cases hh9
                            exact LQ 0 (Nat.zero_le _)
                          · refine g_iconst X (nI 1) 267 dX6_pass_266 rfl (by decide +kernel) ?_
                            refine g_istore X [(6, .int (nI 1)), (7, .int (nI 3)), (5, .int (nI (lf - (ofR S1 r lf)))), (4, .ref (ra r)), (3, .int (nI r)), (2, .int (nI nr)), (1, .ref ro), (0, .ref ma)] 269 dX6_pass_267 rfl (by decide) rfl ?_
                            refine g_goto X 362 dX6_pass_269 (by decide) ?_
                            refine g_iload X 0 364 dX6_pass_362 rfl rfl ?_
                            refine g_if_ne X 367 372 dX6_pass_364 rfl (by decide) (nz_eq (by omega)) (fun h364 => ?_) (fun h364 => absurd h364 (by decide))
                            refine g_iconst X (nI 1) 373 dX6_pass_372 rfl (by decide +kernel) ?_
                            refine g_goto X 377 dX6_pass_373 (by decide) ?_
                            refine g_istore X [(6, .int (nI 1)), (7, .int (nI 3)), (5, .int (nI (lf - (ofR S1 r lf)))), (4, .ref (ra r)), (3, .int (nI r)), (2, .int (nI nr)), (1, .ref ro), (0, .ref ma)] 379 dX6_pass_377 rfl (by decide) rfl ?_
                            refine g_goto X 184 dX6_pass_379 (by decide) ?_
                            refine g_lv (lv' := [(6, .int (nI 1)), (5, .int (nI (lf - (ofR S1 r lf)))), (4, .ref (ra r)), (3, .int (nI r)), (2, .int (nI nr)), (1, .ref ro), (0, .ref ma)]) [0, 2, 3, 4, 5, 6, 7] rfl ?_
                            exact ih_kk _ _ 1 (hg3) (Or.inr ⟨rfl, (by rw [← hq9, wk_end hz (by omega) (by omega)])⟩)
                        · refine g_iconst X (nI 1) 253 dX6_pass_252 rfl (by decide +kernel) ?_
                          refine g_goto X 257 dX6_pass_253 (by decide) ?_
                          refine g_istore X [(7, .int (nI 1)), (5, .int (nI (lf - (ofR S1 r lf)))), (6, .int (nI 0)), (4, .ref (ra r)), (3, .int (nI r)), (2, .int (nI nr)), (1, .ref ro), (0, .ref ma)] 259 dX6_pass_257 rfl (by decide) rfl ?_
                          refine g_iload X 1 261 dX6_pass_259 rfl rfl ?_
                          refine g_iload X 0 263 dX6_pass_261 rfl rfl ?_
                          refine g_icmp_ge X 266 272 dX6_pass_263 rfl (by decide) (nI_leI (by omega) (by omega)) (fun h263 => ?_) (fun h263 => absurd (by omega) h263)
                          refine g_aload X 3 274 dX6_pass_272 rfl rfl ?_
                          refine g_iconst X (nI 1) 275 dX6_pass_274 rfl (by decide +kernel) ?_
                          refine g_ialdT X 5 (12 + (nw + r)) 0 (sR cI sc wa ra fa nw nr nf (tkS S1 r lf) T st fe fo C9) (1) (nI (S1 (100 + 5 * r + 1))) 276 rfl (sR_r (by omega)) rfl (by omega) (by decide) (vrp_1.trans (congrArg nI e1)) dX6_pass_275 rfl ?_
                          refine g_bipush X (nI 7) 278 dX6_pass_276 rfl (by decide +kernel) ?_
                          refine g_icmp_ge X 281 295 dX6_pass_278 rfl (by decide) (nI_leI (by omega) (by omega)) (fun h278 => absurd h278 h249) (fun h278 => ?_)
                          refine g_aload X 3 283 dX6_pass_281 rfl rfl ?_
                          refine g_iconst X (nI 1) 284 dX6_pass_283 rfl (by decide +kernel) ?_
                          refine g_dup2 X 285 dX6_pass_284 rfl rfl rfl ?_
                          refine g_ialdT X 5 (12 + (nw + r)) 0 (sR cI sc wa ra fa nw nr nf (tkS S1 r lf) T st fe fo C9) (1) (nI (S1 (100 + 5 * r + 1))) 286 rfl (sR_r (by omega)) rfl (by omega) (by decide) (vrp_1.trans (congrArg nI e1)) dX6_pass_285 rfl ?_
                          refine g_iconst X (nI 1) 287 dX6_pass_286 rfl (by decide +kernel) ?_
                          refine g_iadd X (nI ((S1 (100 + 5 * r + 1)) + 1)) 288 dX6_pass_287 rfl (nI_add _ _) ?_
                          refine g_iastT (ws' := ((ma, .inr (6, [.int (nI ((gt S) 0)), .int (nI ((gt S) 1)), .int (nI ((gt S) 2)), .int (nI ((gt S) 3)), .ref so, .ref wo, .ref ro, .ref fx])) :: (so, .inl (cJ, 12, refs (orf 12 sc))) :: (wo, .inl (cJ, nw, refs (orf nw wa))) :: (ro, .inl (cJ, nr, refs (orf nr ra))) :: (fx, .inl (cJ, nf, refs (orf nf fa))) :: sR cI sc wa ra fa nw nr nf (up (tkS S1 r lf) (100 + 5 * r + 1) (S1 (100 + 5 * r + 1) + 1)) T st fe fo C9)) X 5 (12 + (nw + r)) 0 (sR cI sc wa ra fa nw nr nf (tkS S1 r lf) T st fe fo C9) (sR cI sc wa ra fa nw nr nf (up (tkS S1 r lf) (100 + 5 * r + 1) (S1 (100 + 5 * r + 1) + 1)) T st fe fo C9) (1) (vrp (up (tkS S1 r lf) (100 + 5 * r + 1) (S1 (100 + 5 * r + 1) + 1)) st r) 289 rfl (by simp) (sR_r (by omega)) rfl (by omega) (by decide) vrp_u1 (sR_rs hr (fun _ hj => vcl_lo hj (Or.inr (by omega))) (fun _ _ h => vrp_o (by omega))) dX6_pass_288 rfl rfl ?_
                          refine g_eqw (ws' := ((ma, .inr (6, [.int (nI ((gt S) 0)), .int (nI ((gt S) 1)), .int (nI ((gt S) 2)), .int (nI ((gt S) 3)), .ref so, .ref wo, .ref ro, .ref fx])) :: (so, .inl (cJ, 12, refs (orf 12 sc))) :: (wo, .inl (cJ, nw, refs (orf nw wa))) :: (ro, .inl (cJ, nr, refs (orf nr ra))) :: (fx, .inl (cJ, nf, refs (orf nf fa))) :: sR cI sc wa ra fa nw nr nf (dnS (tkS S1 r lf) r) T st fe fo C9)) (by unfold dnS; rw [e1]) ?_
                          refine g_iinc X 1 (nI (lf - (ofR S1 r lf) - 1)) [(5, .int (nI (lf - (ofR S1 r lf) - 1))), (7, .int (nI 1)), (6, .int (nI 0)), (4, .ref (ra r)), (3, .int (nI r)), (2, .int (nI nr)), (1, .ref ro), (0, .ref ma)] 292 dX6_pass_289 rfl rfl (nI_dec (by omega)) (by decide) rfl ?_
                          refine g_goto X 362 dX6_pass_292 (by decide) ?_
                          refine g_iload X 2 364 dX6_pass_362 rfl rfl ?_
                          refine g_if_ne X 367 372 dX6_pass_364 rfl (by decide) (nz_eq (by omega)) (fun h364 => absurd rfl h364) (fun h364 => ?_)
                          refine g_iload X 0 369 dX6_pass_367 rfl rfl ?_
                          refine g_if_ne X 372 376 dX6_pass_369 rfl (by decide) (nz_eq (by omega)) (fun h369 => ?_) (fun h369 => ?_)
                          · refine g_iconst X (nI 0) 377 dX6_pass_376 rfl (by decide +kernel) ?_
                            refine g_istore X [(6, .int (nI 0)), (5, .int (nI (lf - (ofR S1 r lf) - 1))), (7, .int (nI 1)), (4, .ref (ra r)), (3, .int (nI r)), (2, .int (nI nr)), (1, .ref ro), (0, .ref ma)] 379 dX6_pass_377 rfl (by decide) rfl ?_
                            refine g_goto X 184 dX6_pass_379 (by decide) ?_
                            refine g_lv (lv' := [(6, .int (nI 0)), (5, .int (nI (lf - (ofR S1 r lf) - 1))), (4, .ref (ra r)), (3, .int (nI r)), (2, .int (nI nr)), (1, .ref ro), (0, .ref ma)]) [0, 1, 3, 4, 5, 6, 7] rfl ?_
                            exact ih_kk _ _ 0 (dnS_gw hg3 (by omega)) (Or.inl ⟨rfl, by omega, (by rw [← hq9, wk_down hz (by omega)])⟩)
                          · refine g_iconst X (nI 1) 373 dX6_pass_372 rfl (by decide +kernel) ?_
                            refine g_goto X 377 dX6_pass_373 (by decide) ?_
                            refine g_istore X [(6, .int (nI 1)), (5, .int (nI (lf - (ofR S1 r lf) - 1))), (7, .int (nI 1)), (4, .ref (ra r)), (3, .int (nI r)), (2, .int (nI nr)), (1, .ref ro), (0, .ref ma)] 379 dX6_pass_377 rfl (by decide) rfl ?_
                            refine g_goto X 184 dX6_pass_379 (by decide) ?_
                            refine g_lv (lv' := [(6, .int (nI 1)), (5, .int (nI (lf - (ofR S1 r lf) - 1))), (4, .ref (ra r)), (3, .int (nI r)), (2, .int (nI nr)), (1, .ref ro), (0, .ref ma)]) [0, 1, 3, 4, 5, 6, 7] rfl ?_
                            exact ih_kk _ _ 1 (dnS_gw hg3 (by omega)) (Or.inr ⟨rfl, (by rw [← hq9, wk_down hz (by omega), h369, wk_0])⟩)
                    · intro c9 hc9 ih_c9 
                      refine g_iload X 0 191 dX6_pass_189 rfl rfl ?_
                      refine g_if_le X 194 243 dX6_pass_191 rfl (by decide) (nz_le (by omega)) (fun h191 => absurd h191 (by omega)) (fun h191 => ?_)
                      refine g_aload_n X 6 195 dX6_pass_194 rfl rfl rfl ?_
                      refine g_get X hiX6 0 4 198 rfl rfl (by decide) (List.mem_of_getElem? (i := 2) rfl) rfl dX6_pass_195 rfl ?_
                      refine g_aload X 2 200 dX6_pass_198 rfl rfl ?_
                      refine g_iconst X (nI 0) 201 dX6_pass_200 rfl (by decide +kernel) ?_
                      refine g_ialdT X 5 (12 + (nw + r)) 0 (sR cI sc wa ra fa nw nr nf (tkS S1 r c9) T st fe fo C9) (0) (nI (S1 (100 + 5 * r))) 202 rfl (sR_r (by omega)) rfl (by omega) (by decide) (vrp_0.trans (congrArg nI (tkS_hi hg1 hr (by omega) (by omega)))) dX6_pass_201 rfl ?_
                      refine g_aald X 1 2 (S1 (100 + 5 * r)) (sc (S1 (100 + 5 * r))) 203 rfl rfl (by omega) (by decide) (orf_at (by omega)) dX6_pass_202 rfl ?_
                      refine g_aload X 2 205 dX6_pass_203 rfl rfl ?_
                      refine g_iconst X (nI 1) 206 dX6_pass_205 rfl (by decide +kernel) ?_
                      refine g_ialdT X 5 (12 + (nw + r)) 0 (sR cI sc wa ra fa nw nr nf (tkS S1 r c9) T st fe fo C9) (1) (nI (S1 (100 + 5 * r + 1))) 207 rfl (sR_r (by omega)) rfl (by omega) (by decide) (vrp_1.trans (congrArg nI (tkS_hi hg1 hr (by omega) (by omega)))) dX6_pass_206 rfl ?_
                      refine g_ialdT X 5 (S1 (100 + 5 * r)) 0 (sR cI sc wa ra fa nw nr nf (tkS S1 r c9) T st fe fo C9) (S1 (100 + 5 * r + 1)) (nI (S1 (pnR S1 r) - c9)) 208 rfl (sR_c (by omega)) rfl (by omega) (by decide) ((vcl_at (by omega)).trans (congrArg nI (tkS_pn hg1 hr (Nat.le_of_lt hc9)))) dX6_pass_207 rfl ?_
                      refine g_if_le X 211 243 dX6_pass_208 rfl (by decide) (nz_le (by omega)) (fun h208 => absurd h208 (by omega)) (fun h208 => ?_)
                      refine g_aload_n X 6 212 dX6_pass_211 rfl rfl rfl ?_
                      refine g_get X hiX6 0 4 215 rfl rfl (by decide) (List.mem_of_getElem? (i := 2) rfl) rfl dX6_pass_212 rfl ?_
                      refine g_aload X 2 217 dX6_pass_215 rfl rfl ?_
                      refine g_iconst X (nI 0) 218 dX6_pass_217 rfl (by decide +kernel) ?_
                      refine g_ialdT X 5 (12 + (nw + r)) 0 (sR cI sc wa ra fa nw nr nf (tkS S1 r c9) T st fe fo C9) (0) (nI (S1 (100 + 5 * r))) 219 rfl (sR_r (by omega)) rfl (by omega) (by decide) (vrp_0.trans (congrArg nI (tkS_hi hg1 hr (by omega) (by omega)))) dX6_pass_218 rfl ?_
                      refine g_aald X 1 2 (S1 (100 + 5 * r)) (sc (S1 (100 + 5 * r))) 220 rfl rfl (by omega) (by decide) (orf_at (by omega)) dX6_pass_219 rfl ?_
                      refine g_aload X 2 222 dX6_pass_220 rfl rfl ?_
                      refine g_iconst X (nI 1) 223 dX6_pass_222 rfl (by decide +kernel) ?_
                      refine g_ialdT X 5 (12 + (nw + r)) 0 (sR cI sc wa ra fa nw nr nf (tkS S1 r c9) T st fe fo C9) (1) (nI (S1 (100 + 5 * r + 1))) 224 rfl (sR_r (by omega)) rfl (by omega) (by decide) (vrp_1.trans (congrArg nI (tkS_hi hg1 hr (by omega) (by omega)))) dX6_pass_223 rfl ?_
                      refine g_dup2 X 225 dX6_pass_224 rfl rfl rfl ?_
                      refine g_ialdT X 5 (S1 (100 + 5 * r)) 0 (sR cI sc wa ra fa nw nr nf (tkS S1 r c9) T st fe fo C9) (S1 (100 + 5 * r + 1)) (nI (S1 (pnR S1 r) - c9)) 226 rfl (sR_c (by omega)) rfl (by omega) (by decide) ((vcl_at (by omega)).trans (congrArg nI (tkS_pn hg1 hr (Nat.le_of_lt hc9)))) dX6_pass_225 rfl ?_
                      refine g_iconst X (nI 1) 227 dX6_pass_226 rfl (by decide +kernel) ?_
                      refine g_isub X (nI ((S1 (pnR S1 r) - c9) - 1)) 228 dX6_pass_227 rfl (pk_sub (by omega)) ?_
                      refine g_iastT (ws' := ((ma, .inr (6, [.int (nI ((gt S) 0)), .int (nI ((gt S) 1)), .int (nI ((gt S) 2)), .int (nI ((gt S) 3)), .ref so, .ref wo, .ref ro, .ref fx])) :: (so, .inl (cJ, 12, refs (orf 12 sc))) :: (wo, .inl (cJ, nw, refs (orf nw wa))) :: (ro, .inl (cJ, nr, refs (orf nr ra))) :: (fx, .inl (cJ, nf, refs (orf nf fa))) :: sR cI sc wa ra fa nw nr nf (up (tkS S1 r c9) (4 + (S1 (100 + 5 * r) * 8 + S1 (100 + 5 * r + 1))) (S1 (pnR S1 r) - c9 - 1)) T st fe fo C9)) X 5 (S1 (100 + 5 * r)) 0 (sR cI sc wa ra fa nw nr nf (tkS S1 r c9) T st fe fo C9) (sR cI sc wa ra fa nw nr nf (up (tkS S1 r c9) (4 + (S1 (100 + 5 * r) * 8 + S1 (100 + 5 * r + 1))) (S1 (pnR S1 r) - c9 - 1)) T st fe fo C9) (S1 (100 + 5 * r + 1)) (vcl (up (tkS S1 r c9) (4 + (S1 (100 + 5 * r) * 8 + S1 (100 + 5 * r + 1))) (S1 (pnR S1 r) - c9 - 1)) (S1 (100 + 5 * r))) 229 rfl (by simp) (sR_c (by omega)) rfl (by omega) (by decide) (vcl_up (by omega)) (sR_cs (by omega) (fun _ _ h => vcl_o (by omega) h) (fun _ _ => vrp_o (Or.inl (by omega)))) dX6_pass_228 rfl rfl ?_
                      refine g_aload X 2 231 dX6_pass_229 rfl rfl ?_
                      refine g_iconst X (nI 4) 232 dX6_pass_231 rfl (by decide +kernel) ?_
                      refine g_dup2 X 233 dX6_pass_232 rfl rfl rfl ?_
                      refine g_ialdT X 5 (12 + (nw + r)) 0 (sR cI sc wa ra fa nw nr nf (up (tkS S1 r c9) (4 + (S1 (100 + 5 * r) * 8 + S1 (100 + 5 * r + 1))) (S1 (pnR S1 r) - c9 - 1)) T st fe fo C9) (4) (nI (S1 (100 + 5 * r + 3) + c9)) 234 rfl (sR_r (by omega)) rfl (by omega) (by decide) (vrp_4.trans (congrArg nI ((up_n (by omega)).trans (tkS_3 (Nat.le_of_lt hc9))))) dX6_pass_233 rfl ?_
                      refine g_iconst X (nI 1) 235 dX6_pass_234 rfl (by decide +kernel) ?_
                      refine g_iadd X (nI ((S1 (100 + 5 * r + 3) + c9) + 1)) 236 dX6_pass_235 rfl (nI_add _ _) ?_
                      refine g_iastT (ws' := ((ma, .inr (6, [.int (nI ((gt S) 0)), .int (nI ((gt S) 1)), .int (nI ((gt S) 2)), .int (nI ((gt S) 3)), .ref so, .ref wo, .ref ro, .ref fx])) :: (so, .inl (cJ, 12, refs (orf 12 sc))) :: (wo, .inl (cJ, nw, refs (orf nw wa))) :: (ro, .inl (cJ, nr, refs (orf nr ra))) :: (fx, .inl (cJ, nf, refs (orf nf fa))) :: sR cI sc wa ra fa nw nr nf (up (up (tkS S1 r c9) (4 + (S1 (100 + 5 * r) * 8 + S1 (100 + 5 * r + 1))) (S1 (pnR S1 r) - c9 - 1)) (100 + 5 * r + 3) (S1 (100 + 5 * r + 3) + c9 + 1)) T st fe fo C9)) X 5 (12 + (nw + r)) 0 (sR cI sc wa ra fa nw nr nf (up (tkS S1 r c9) (4 + (S1 (100 + 5 * r) * 8 + S1 (100 + 5 * r + 1))) (S1 (pnR S1 r) - c9 - 1)) T st fe fo C9) (sR cI sc wa ra fa nw nr nf (up (up (tkS S1 r c9) (4 + (S1 (100 + 5 * r) * 8 + S1 (100 + 5 * r + 1))) (S1 (pnR S1 r) - c9 - 1)) (100 + 5 * r + 3) (S1 (100 + 5 * r + 3) + c9 + 1)) T st fe fo C9) (4) (vrp (up (up (tkS S1 r c9) (4 + (S1 (100 + 5 * r) * 8 + S1 (100 + 5 * r + 1))) (S1 (pnR S1 r) - c9 - 1)) (100 + 5 * r + 3) (S1 (100 + 5 * r + 3) + c9 + 1)) st r) 237 rfl (by simp) (sR_r (by omega)) rfl (by omega) (by decide) vrp_u4 (sR_rs hr (fun _ hj => vcl_lo hj (Or.inr (by omega))) (fun _ _ h => vrp_o (by omega))) dX6_pass_236 rfl rfl ?_
                      refine g_eqw (ws' := ((ma, .inr (6, [.int (nI ((gt S) 0)), .int (nI ((gt S) 1)), .int (nI ((gt S) 2)), .int (nI ((gt S) 3)), .ref so, .ref wo, .ref ro, .ref fx])) :: (so, .inl (cJ, 12, refs (orf 12 sc))) :: (wo, .inl (cJ, nw, refs (orf nw wa))) :: (ro, .inl (cJ, nr, refs (orf nr ra))) :: (fx, .inl (cJ, nf, refs (orf nf fa))) :: sR cI sc wa ra fa nw nr nf (tkS S1 r (c9 + 1)) T st fe fo C9)) (by rw [← tkS_s hg1 hr hc9]; rfl) ?_
                      refine g_iinc X 0 (nI (lf - c9 - 1)) [(5, .int (nI (lf - c9 - 1))), (6, .int (nI 0)), (4, .ref (ra r)), (3, .int (nI r)), (2, .int (nI nr)), (1, .ref ro), (0, .ref ma)] 240 dX6_pass_237 rfl rfl (nI_dec (by omega)) (by decide) rfl ?_
                      refine g_goto X 189 dX6_pass_240 (by decide) ?_
                      exact ih_c9
                  have L0 := LC 0 (Nat.zero_le _)
                  rw [tkS_0] at L0
                  exact L0
                · refine g_iload X 0 186 dX6_pass_184 rfl rfl ?_
                  refine g_if_ne X 189 382 dX6_pass_186 rfl (by decide) (nz_eq (by omega)) (fun h186 => ?_) (fun h186 => absurd h186 (by decide))
                  refine g_iinc X 3 (nI (r + 1)) [(3, .int (nI (r + 1))), (6, .int (nI 1)), (5, .int (nI lf)), (4, .ref (ra r)), (2, .int (nI nr)), (1, .ref ro), (0, .ref ma)] 385 dX6_pass_382 rfl rfl (nI_inc _) (by decide) rfl ?_
                  refine g_goto X 165 dX6_pass_385 (by decide) ?_
                  refine g_lv (lv' := [(3, .int (nI (r + 1))), (2, .int (nI nr)), (1, .ref ro), (0, .ref ma)]) [0, 4, 5, 6] rfl ?_
                  exact ih_r
            have hst9 := hs.2.2.1 r hr
            exact LK 0 (Nat.zero_le _) _ (st r) 0 hgr (Or.inl ⟨rfl, by omega, rfl⟩)
        exact LR 0 (Nat.zero_le _)
      · refine g_aload_n X 1 130 dX6_pass_129 rfl rfl rfl ?_
        refine g_dup X 131 dX6_pass_130 rfl rfl ?_
        refine g_get X hiX6 0 2 134 rfl rfl (by decide) (List.mem_of_getElem? (i := 4) rfl) rfl dX6_pass_131 rfl ?_
        refine g_aload_n X 1 135 dX6_pass_134 rfl rfl rfl ?_
        refine g_sVi X okT trivial (m_X6_bring l D cI cZ cJ ma so wo ro fx sc wa ra fa nw nr nf (gt S) T st fe fo (gt S) C9 hg2.2.1 hs.1 hs.2.1) 138 6 18 [] rfl gX6_pass_X6_bring rfl (n := 0) (by decide +kernel) rfl ⟨Nat.le_of_ble_eq_true rfl, Nat.le_of_ble_eq_true rfl⟩ (ci := 6) 0 rfl rfl rfl (Nat.le_of_ble_eq_true rfl) dX6_pass_135 rfl (Nat.le_of_ble_eq_true rfl) (Nat.le_of_ble_eq_true rfl) ⟨(Nat.le_of_ble_eq_true rfl), (Nat.le_of_ble_eq_true rfl)⟩ (fun r9 u9 h9 => ?_)
        obtain ⟨rfl, rfl⟩ := h9
        refine g_eqw (ws' := ((ma, .inr (6, [.int (nI ((gt S) 0)), .int (nI ((gt S) 1)), .int (nI ((gt S) 2)), .int (nI ((gt S) 3)), .ref so, .ref wo, .ref ro, .ref fx])) :: (so, .inl (cJ, 12, refs (orf 12 sc))) :: (wo, .inl (cJ, nw, refs (orf nw wa))) :: (ro, .inl (cJ, nr, refs (orf nr ra))) :: (fx, .inl (cJ, nf, refs (orf nf fa))) :: sR cI sc wa ra fa nw nr nf (gt S) T st fe fo C9)) rfl ?_
        refine g_iadd X (nI (((gt S) 2) + (allB (gt S) T nw))) 139 dX6_pass_138 rfl (nI_add _ _) ?_
        refine g_put (ws' := ((ma, .inr (6, [.int (nI ((gt S) 0)), .int (nI ((gt S) 1)), .int (nI (((gt S) 2) + (allB (gt S) T nw))), .int (nI ((gt S) 3)), .ref so, .ref wo, .ref ro, .ref fx])) :: (so, .inl (cJ, 12, refs (orf 12 sc))) :: (wo, .inl (cJ, nw, refs (orf nw wa))) :: (ro, .inl (cJ, nr, refs (orf nr ra))) :: (fx, .inl (cJ, nf, refs (orf nf fa))) :: sR cI sc wa ra fa nw nr nf (gt S) T st fe fo C9)) X hiX6 tyX6 tyX6_ok nmX6 0 2 142 rfl rfl (by decide) (List.mem_of_getElem? (i := 4) rfl) rfl (ty := .int) (by decide +kernel) rfl rfl (Nat.le_of_ble_eq_true rfl) dX6_pass_139 rfl rfl ?_
        refine g_aload_n X 1 143 dX6_pass_142 rfl rfl rfl ?_
        refine g_dup X 144 dX6_pass_143 rfl rfl ?_
        refine g_get X hiX6 0 3 147 rfl rfl (by decide) (List.mem_of_getElem? (i := 5) rfl) rfl dX6_pass_144 rfl ?_
        refine g_iconst X (nI 1) 148 dX6_pass_147 rfl (by decide +kernel) ?_
        refine g_iadd X (nI (((gt S) 3) + 1)) 149 dX6_pass_148 rfl (nI_add _ _) ?_
        refine g_put (ws' := ((ma, .inr (6, [.int (nI ((gt S) 0)), .int (nI ((gt S) 1)), .int (nI (((gt S) 2) + (allB (gt S) T nw))), .int (nI (((gt S) 3) + 1)), .ref so, .ref wo, .ref ro, .ref fx])) :: (so, .inl (cJ, 12, refs (orf 12 sc))) :: (wo, .inl (cJ, nw, refs (orf nw wa))) :: (ro, .inl (cJ, nr, refs (orf nr ra))) :: (fx, .inl (cJ, nf, refs (orf nf fa))) :: sR cI sc wa ra fa nw nr nf (gt S) T st fe fo C9)) X hiX6 tyX6 tyX6_ok nmX6 0 3 152 rfl rfl (by decide) (List.mem_of_getElem? (i := 5) rfl) rfl (ty := .int) (by decide +kernel) rfl rfl (Nat.le_of_ble_eq_true rfl) dX6_pass_149 rfl rfl ?_
        refine g_goto X 388 dX6_pass_152 (by decide) ?_
        refine g_aload_n X 1 389 dX6_pass_388 rfl rfl rfl ?_
        refine g_dup X 390 dX6_pass_389 rfl rfl ?_
        refine g_get X hiX6 0 0 393 rfl rfl (by decide) (List.mem_of_getElem? (i := 3) rfl) rfl dX6_pass_390 rfl ?_
        refine g_iconst X (nI 1) 394 dX6_pass_393 rfl (by decide +kernel) ?_
        refine g_iadd X (nI (((gt S) 0) + 1)) 395 dX6_pass_394 rfl (nI_add _ _) ?_
        refine g_put (ws' := ((ma, .inr (6, [.int (nI (((gt S) 0) + 1)), .int (nI ((gt S) 1)), .int (nI (((gt S) 2) + (allB (gt S) T nw))), .int (nI (((gt S) 3) + 1)), .ref so, .ref wo, .ref ro, .ref fx])) :: (so, .inl (cJ, 12, refs (orf 12 sc))) :: (wo, .inl (cJ, nw, refs (orf nw wa))) :: (ro, .inl (cJ, nr, refs (orf nr ra))) :: (fx, .inl (cJ, nf, refs (orf nf fa))) :: sR cI sc wa ra fa nw nr nf (gt S) T st fe fo C9)) X hiX6 tyX6 tyX6_ok nmX6 0 0 398 rfl rfl (by decide) (List.mem_of_getElem? (i := 3) rfl) rfl (ty := .int) (by decide +kernel) rfl rfl (Nat.le_of_ble_eq_true rfl) dX6_pass_395 rfl rfl ?_
        refine g_w (kc' := rm_X6_pass.cells) (ks' := rm_X6_pass.slots) (by have h9 : rm_X6_pass.cells = 6 := rfl; omega) (by have h9 : rm_X6_pass.slots = 18 := rfl; omega) ?_
        exact ret _ _ _ dX6_pass_398 (by rw [dayS_f (by simpa using hq)]; unfold dyF; rw [← sR_lo (p := 0) (by decide), ← sR_lo (p := 3) (by decide), ← sR_lo (p := 2) (by decide)]; rfl)
    · intro i hi ih_i 
      refine g_iload_n X 0 3 dX6_pass_2 rfl rfl rfl ?_
      refine g_bipush X (nI 12) 5 dX6_pass_3 rfl (by decide +kernel) ?_
      refine g_icmp_ge X 8 118 dX6_pass_5 rfl (by decide) (nI_leI (by omega) (by omega)) (fun h5 => absurd h5 (by omega)) (fun h5 => ?_)
      refine g_aload_n X 1 9 dX6_pass_8 rfl rfl rfl ?_
      refine g_get X hiX6 0 1 12 rfl rfl (by decide) (List.mem_of_getElem? (i := 1) rfl) rfl dX6_pass_9 rfl ?_
      have hb5 := bl_le (c := i) hw
      refine g_if_ge X 15 22 dX6_pass_12 rfl (by decide) (wd_ge hw) (fun hw5 => ?_) (fun hw5 => ?_)
      · refine g_iload_n X 0 23 dX6_pass_22 rfl rfl rfl ?_
        refine g_istore_n X [(2, .int (nI i)), (1, .int (nI i)), (0, .ref ma)] 24 dX6_pass_23 rfl rfl (by decide) rfl ?_
        refine g_aload_n X 2 25 dX6_pass_24 rfl rfl rfl ?_
        refine g_get X hiX6 0 1 28 rfl rfl (by decide) (List.mem_of_getElem? (i := 1) rfl) rfl dX6_pass_25 rfl ?_
        refine g_if_ge X 31 39 dX6_pass_28 rfl (by decide) (wd_ge hw) (fun hw6 => ?_) (fun hw6 => absurd hw5 hw6)
        refine g_aload_n X 2 40 dX6_pass_39 rfl rfl rfl ?_
        refine g_get X hiX6 0 1 43 rfl rfl (by decide) (List.mem_of_getElem? (i := 1) rfl) rfl dX6_pass_40 rfl ?_
        refine g_iload_n X 0 44 dX6_pass_43 rfl rfl rfl ?_
        refine g_iconst X (nI 2) 45 dX6_pass_44 rfl (by decide +kernel) ?_
        refine g_idiv X (nI (i / 2)) 46 dX6_pass_45 rfl (nI_ne0 (by omega) (by omega)) (pk_div (by omega) (by omega) (by omega)) ?_
        refine g_isub X ((nI (S 1)) - (nI (i / 2))) 47 dX6_pass_46 rfl rfl ?_
        refine g_istore_n X [(3, .int ((nI (S 1)) - (nI (i / 2)))), (2, .int (nI i)), (1, .int (nI i)), (0, .ref ma)] 48 dX6_pass_47 rfl rfl (by decide) rfl ?_
        refine g_iconst X (nI 0) 49 dX6_pass_48 rfl (by decide +kernel) ?_
        refine g_istore X [(4, .int (nI 0)), (3, .int ((nI (S 1)) - (nI (i / 2)))), (2, .int (nI i)), (1, .int (nI i)), (0, .ref ma)] 51 dX6_pass_49 rfl (by decide) rfl ?_
        refine g_lv (lv' := [(4, .int (nI 0)), (3, .int ((nI (S 1)) - (nI (i / 2)))), (1, .int (nI i)), (0, .ref ma)]) [0, 1, 3, 4] rfl ?_
        have M : ∀ j : Nat, j ≤ 8 → G p l e rm_X6_pass s m args below meth c Q D A 9 0 0 ((ma, .inr (6, [.int (nI (S 0)), .int (nI (S 1)), .int (nI (S 2)), .int (nI (S 3)), .ref so, .ref wo, .ref ro, .ref fx])) :: (so, .inl (cJ, 12, refs (orf 12 sc))) :: (wo, .inl (cJ, nw, refs (orf nw wa))) :: (ro, .inl (cJ, nr, refs (orf nr ra))) :: (fx, .inl (cJ, nf, refs (orf nf fa))) :: sR cI sc wa ra fa nw nr nf (gtU (i * 8 + j) S) T st fe fo C9) [(4, .int (nI j)), (3, .int (nI (S 1) - nI (i / 2))), (1, .int (nI i)), (0, .ref ma)] 51 [] := by
          refine g_down _ ?_ ?_
          · refine g_iload X 0 53 dX6_pass_51 rfl rfl ?_
            refine g_bipush X (nI 8) 55 dX6_pass_53 rfl (by decide +kernel) ?_
            refine g_icmp_ge X 58 112 dX6_pass_55 rfl (by decide) (nI_leI (by omega) (by omega)) (fun h55 => ?_) (fun h55 => absurd (Nat.le_refl _) h55)
            refine g_iinc X 2 (nI (i + 1)) [(1, .int (nI (i + 1))), (4, .int (nI 8)), (3, .int (nI (S 1) - nI (i / 2))), (0, .ref ma)] 115 dX6_pass_112 rfl rfl (nI_inc _) (by decide) rfl ?_
            refine g_goto X 2 dX6_pass_115 (by decide) ?_
            refine g_lv (lv' := [(1, .int (nI (i + 1))), (0, .ref ma)]) [0, 3] rfl ?_
            exact (by rw [show (i + 1) * 8 = i * 8 + 8 by omega] at ih_i; exact ih_i)
          · intro j hj ih_j 
            refine g_iload X 0 53 dX6_pass_51 rfl rfl ?_
            refine g_bipush X (nI 8) 55 dX6_pass_53 rfl (by decide +kernel) ?_
            refine g_icmp_ge X 58 112 dX6_pass_55 rfl (by decide) (nI_leI (by omega) (by omega)) (fun h55 => absurd h55 (by omega)) (fun h55 => ?_)
            have h20 := hg.1.2.1 (i * 8 + j) (by omega)
            refine g_aload_n X 3 59 dX6_pass_58 rfl rfl rfl ?_
            refine g_get X hiX6 0 4 62 rfl rfl (by decide) (List.mem_of_getElem? (i := 2) rfl) rfl dX6_pass_59 rfl ?_
            refine g_iload_n X 2 63 dX6_pass_62 rfl rfl rfl ?_
            refine g_aald X 1 2 (i) (sc i) 64 rfl rfl (by omega) (by decide) (orf_at (by omega)) dX6_pass_63 rfl ?_
            refine g_iload X 0 66 dX6_pass_64 rfl rfl ?_
            refine g_dup2 X 67 dX6_pass_66 rfl rfl rfl ?_
            refine g_ialdT X 5 i 0 (sR cI sc wa ra fa nw nr nf (gtU (i * 8 + j) S) T st fe fo C9) (j) (nI (S (4 + (i * 8 + j)))) 68 rfl (sR_c (by omega)) rfl (by omega) (by decide) ((vcl_at (by omega)).trans (congrArg nI (gtU_hi (by omega)))) dX6_pass_67 rfl ?_
            refine g_iconst X (nI 1) 69 dX6_pass_68 rfl (by decide +kernel) ?_
            refine g_iload_n X 1 70 dX6_pass_69 rfl rfl rfl ?_
            refine g_if_le X 73 77 dX6_pass_70 rfl (by decide) Iff.rfl (fun hb => ?_) (fun hb => ?_)
            · refine g_iconst X (nI 0) 78 dX6_pass_77 rfl (by decide +kernel) ?_
              refine g_eqi (y := nI (bl (S 1) i)) (by rw [(bl_i hw5).symm.trans (mx0_f (by omega) (by omega) hb)]) ?_
              refine g_iadd X (nI (1 + (bl (S 1) i))) 79 dX6_pass_78 rfl (nI_add _ _) ?_
              refine g_iadd X (nI ((S (4 + (i * 8 + j))) + (1 + (bl (S 1) i)))) 80 dX6_pass_79 rfl (nI_add _ _) ?_
              refine g_iastT (ws' := ((ma, .inr (6, [.int (nI (S 0)), .int (nI (S 1)), .int (nI (S 2)), .int (nI (S 3)), .ref so, .ref wo, .ref ro, .ref fx])) :: (so, .inl (cJ, 12, refs (orf 12 sc))) :: (wo, .inl (cJ, nw, refs (orf nw wa))) :: (ro, .inl (cJ, nr, refs (orf nr ra))) :: (fx, .inl (cJ, nf, refs (orf nf fa))) :: sR cI sc wa ra fa nw nr nf (up (gtU (i * 8 + j) S) (4 + (i * 8 + j)) (S (4 + (i * 8 + j)) + (1 + bl (S 1) i))) T st fe fo C9)) X 5 i 0 (sR cI sc wa ra fa nw nr nf (gtU (i * 8 + j) S) T st fe fo C9) (sR cI sc wa ra fa nw nr nf (up (gtU (i * 8 + j) S) (4 + (i * 8 + j)) (S (4 + (i * 8 + j)) + (1 + bl (S 1) i))) T st fe fo C9) (j) (vcl (up (gtU (i * 8 + j) S) (4 + (i * 8 + j)) (S (4 + (i * 8 + j)) + (1 + bl (S 1) i))) i) 81 rfl (by simp) (sR_c (by omega)) rfl (by omega) (by decide) (vcl_up (by omega)) (sR_cs (by omega) (fun _ _ h => vcl_o (by omega) h) (fun _ _ => vrp_o (Or.inl (by omega)))) dX6_pass_80 rfl rfl ?_
              refine g_aload_n X 3 82 dX6_pass_81 rfl rfl rfl ?_
              refine g_get X hiX6 0 4 85 rfl rfl (by decide) (List.mem_of_getElem? (i := 2) rfl) rfl dX6_pass_82 rfl ?_
              refine g_iload_n X 2 86 dX6_pass_85 rfl rfl rfl ?_
              refine g_aald X 1 2 (i) (sc i) 87 rfl rfl (by omega) (by decide) (orf_at (by omega)) dX6_pass_86 rfl ?_
              refine g_iload X 0 89 dX6_pass_87 rfl rfl ?_
              refine g_ialdT X 5 i 0 (sR cI sc wa ra fa nw nr nf (up (gtU (i * 8 + j) S) (4 + (i * 8 + j)) (S (4 + (i * 8 + j)) + (1 + bl (S 1) i))) T st fe fo C9) (j) (nI (S (4 + (i * 8 + j)) + (1 + bl (S 1) i))) 90 rfl (sR_c (by omega)) rfl (by omega) (by decide) ((vcl_at (by omega)).trans (congrArg nI (up_s _ _ _))) dX6_pass_89 rfl ?_
              refine g_bipush X (nI 20) 92 dX6_pass_90 rfl (by decide +kernel) ?_
              refine g_icmp_le X 95 106 dX6_pass_92 rfl (by decide) (nI_leI (by omega) (by omega)) (fun h20b => ?_) (fun h20b => ?_)
              · refine g_eqw (ws' := ((ma, .inr (6, [.int (nI (S 0)), .int (nI (S 1)), .int (nI (S 2)), .int (nI (S 3)), .ref so, .ref wo, .ref ro, .ref fx])) :: (so, .inl (cJ, 12, refs (orf 12 sc))) :: (wo, .inl (cJ, nw, refs (orf nw wa))) :: (ro, .inl (cJ, nr, refs (orf nr ra))) :: (fx, .inl (cJ, nf, refs (orf nf fa))) :: sR cI sc wa ra fa nw nr nf (gtU (i * 8 + (j + 1)) S) T st fe fo C9)) (by rw [← Nat.add_assoc (i * 8) j 1, ← gtU_s9 (n := i * 8 + j) (i := i) (by omega), Nat.min_eq_right (by omega)]) ?_
                refine g_iinc X 0 (nI (j + 1)) [(4, .int (nI (j + 1))), (3, .int (nI (S 1) - nI (i / 2))), (1, .int (nI i)), (0, .ref ma)] 109 dX6_pass_106 rfl rfl (nI_inc _) (by decide) rfl ?_
                refine g_goto X 51 dX6_pass_109 (by decide) ?_
                exact ih_j
              · refine g_aload_n X 3 96 dX6_pass_95 rfl rfl rfl ?_
                refine g_get X hiX6 0 4 99 rfl rfl (by decide) (List.mem_of_getElem? (i := 2) rfl) rfl dX6_pass_96 rfl ?_
                refine g_iload_n X 2 100 dX6_pass_99 rfl rfl rfl ?_
                refine g_aald X 1 2 (i) (sc i) 101 rfl rfl (by omega) (by decide) (orf_at (by omega)) dX6_pass_100 rfl ?_
                refine g_iload X 0 103 dX6_pass_101 rfl rfl ?_
                refine g_bipush X (nI 20) 105 dX6_pass_103 rfl (by decide +kernel) ?_
                refine g_iastT (ws' := ((ma, .inr (6, [.int (nI (S 0)), .int (nI (S 1)), .int (nI (S 2)), .int (nI (S 3)), .ref so, .ref wo, .ref ro, .ref fx])) :: (so, .inl (cJ, 12, refs (orf 12 sc))) :: (wo, .inl (cJ, nw, refs (orf nw wa))) :: (ro, .inl (cJ, nr, refs (orf nr ra))) :: (fx, .inl (cJ, nf, refs (orf nf fa))) :: sR cI sc wa ra fa nw nr nf (up (up (gtU (i * 8 + j) S) (4 + (i * 8 + j)) (S (4 + (i * 8 + j)) + (1 + bl (S 1) i))) (4 + (i * 8 + j)) 20) T st fe fo C9)) X 5 i 0 (sR cI sc wa ra fa nw nr nf (up (gtU (i * 8 + j) S) (4 + (i * 8 + j)) (S (4 + (i * 8 + j)) + (1 + bl (S 1) i))) T st fe fo C9) (sR cI sc wa ra fa nw nr nf (up (up (gtU (i * 8 + j) S) (4 + (i * 8 + j)) (S (4 + (i * 8 + j)) + (1 + bl (S 1) i))) (4 + (i * 8 + j)) 20) T st fe fo C9) (j) (vcl (up (up (gtU (i * 8 + j) S) (4 + (i * 8 + j)) (S (4 + (i * 8 + j)) + (1 + bl (S 1) i))) (4 + (i * 8 + j)) 20) i) 106 rfl (by simp) (sR_c (by omega)) rfl (by omega) (by decide) (vcl_up (by omega)) (sR_cs (by omega) (fun _ _ h => vcl_o (by omega) h) (fun _ _ => vrp_o (Or.inl (by omega)))) dX6_pass_105 rfl rfl ?_
                refine g_eqw (ws' := ((ma, .inr (6, [.int (nI (S 0)), .int (nI (S 1)), .int (nI (S 2)), .int (nI (S 3)), .ref so, .ref wo, .ref ro, .ref fx])) :: (so, .inl (cJ, 12, refs (orf 12 sc))) :: (wo, .inl (cJ, nw, refs (orf nw wa))) :: (ro, .inl (cJ, nr, refs (orf nr ra))) :: (fx, .inl (cJ, nf, refs (orf nf fa))) :: sR cI sc wa ra fa nw nr nf (gtU (i * 8 + (j + 1)) S) T st fe fo C9)) (by rw [← Nat.add_assoc (i * 8) j 1, ← gtU_s9 (n := i * 8 + j) (i := i) (by omega), Nat.min_eq_left (by omega), up_up]) ?_
                refine g_iinc X 0 (nI (j + 1)) [(4, .int (nI (j + 1))), (3, .int (nI (S 1) - nI (i / 2))), (1, .int (nI i)), (0, .ref ma)] 109 dX6_pass_106 rfl rfl (nI_inc _) (by decide) rfl ?_
                refine g_goto X 51 dX6_pass_109 (by decide) ?_
                exact ih_j
            · refine g_iload_n X 1 74 dX6_pass_73 rfl rfl rfl ?_
              refine g_goto X 78 dX6_pass_74 (by decide) ?_
              refine g_eqi (y := nI (bl (S 1) i)) ((mx0_t (by omega) (by omega) hb).trans (congrArg nI (bl_i hw5))) ?_
              refine g_iadd X (nI (1 + (bl (S 1) i))) 79 dX6_pass_78 rfl (nI_add _ _) ?_
              refine g_iadd X (nI ((S (4 + (i * 8 + j))) + (1 + (bl (S 1) i)))) 80 dX6_pass_79 rfl (nI_add _ _) ?_
              refine g_iastT (ws' := ((ma, .inr (6, [.int (nI (S 0)), .int (nI (S 1)), .int (nI (S 2)), .int (nI (S 3)), .ref so, .ref wo, .ref ro, .ref fx])) :: (so, .inl (cJ, 12, refs (orf 12 sc))) :: (wo, .inl (cJ, nw, refs (orf nw wa))) :: (ro, .inl (cJ, nr, refs (orf nr ra))) :: (fx, .inl (cJ, nf, refs (orf nf fa))) :: sR cI sc wa ra fa nw nr nf (up (gtU (i * 8 + j) S) (4 + (i * 8 + j)) (S (4 + (i * 8 + j)) + (1 + bl (S 1) i))) T st fe fo C9)) X 5 i 0 (sR cI sc wa ra fa nw nr nf (gtU (i * 8 + j) S) T st fe fo C9) (sR cI sc wa ra fa nw nr nf (up (gtU (i * 8 + j) S) (4 + (i * 8 + j)) (S (4 + (i * 8 + j)) + (1 + bl (S 1) i))) T st fe fo C9) (j) (vcl (up (gtU (i * 8 + j) S) (4 + (i * 8 + j)) (S (4 + (i * 8 + j)) + (1 + bl (S 1) i))) i) 81 rfl (by simp) (sR_c (by omega)) rfl (by omega) (by decide) (vcl_up (by omega)) (sR_cs (by omega) (fun _ _ h => vcl_o (by omega) h) (fun _ _ => vrp_o (Or.inl (by omega)))) dX6_pass_80 rfl rfl ?_
              refine g_aload_n X 3 82 dX6_pass_81 rfl rfl rfl ?_
              refine g_get X hiX6 0 4 85 rfl rfl (by decide) (List.mem_of_getElem? (i := 2) rfl) rfl dX6_pass_82 rfl ?_
              refine g_iload_n X 2 86 dX6_pass_85 rfl rfl rfl ?_
              refine g_aald X 1 2 (i) (sc i) 87 rfl rfl (by omega) (by decide) (orf_at (by omega)) dX6_pass_86 rfl ?_
              refine g_iload X 0 89 dX6_pass_87 rfl rfl ?_
              refine g_ialdT X 5 i 0 (sR cI sc wa ra fa nw nr nf (up (gtU (i * 8 + j) S) (4 + (i * 8 + j)) (S (4 + (i * 8 + j)) + (1 + bl (S 1) i))) T st fe fo C9) (j) (nI (S (4 + (i * 8 + j)) + (1 + bl (S 1) i))) 90 rfl (sR_c (by omega)) rfl (by omega) (by decide) ((vcl_at (by omega)).trans (congrArg nI (up_s _ _ _))) dX6_pass_89 rfl ?_
              refine g_bipush X (nI 20) 92 dX6_pass_90 rfl (by decide +kernel) ?_
              refine g_icmp_le X 95 106 dX6_pass_92 rfl (by decide) (nI_leI (by omega) (by omega)) (fun h20b => ?_) (fun h20b => ?_)
              · refine g_eqw (ws' := ((ma, .inr (6, [.int (nI (S 0)), .int (nI (S 1)), .int (nI (S 2)), .int (nI (S 3)), .ref so, .ref wo, .ref ro, .ref fx])) :: (so, .inl (cJ, 12, refs (orf 12 sc))) :: (wo, .inl (cJ, nw, refs (orf nw wa))) :: (ro, .inl (cJ, nr, refs (orf nr ra))) :: (fx, .inl (cJ, nf, refs (orf nf fa))) :: sR cI sc wa ra fa nw nr nf (gtU (i * 8 + (j + 1)) S) T st fe fo C9)) (by rw [← Nat.add_assoc (i * 8) j 1, ← gtU_s9 (n := i * 8 + j) (i := i) (by omega), Nat.min_eq_right (by omega)]) ?_
                refine g_iinc X 0 (nI (j + 1)) [(4, .int (nI (j + 1))), (3, .int (nI (S 1) - nI (i / 2))), (1, .int (nI i)), (0, .ref ma)] 109 dX6_pass_106 rfl rfl (nI_inc _) (by decide) rfl ?_
                refine g_goto X 51 dX6_pass_109 (by decide) ?_
                exact ih_j
              · refine g_aload_n X 3 96 dX6_pass_95 rfl rfl rfl ?_
                refine g_get X hiX6 0 4 99 rfl rfl (by decide) (List.mem_of_getElem? (i := 2) rfl) rfl dX6_pass_96 rfl ?_
                refine g_iload_n X 2 100 dX6_pass_99 rfl rfl rfl ?_
                refine g_aald X 1 2 (i) (sc i) 101 rfl rfl (by omega) (by decide) (orf_at (by omega)) dX6_pass_100 rfl ?_
                refine g_iload X 0 103 dX6_pass_101 rfl rfl ?_
                refine g_bipush X (nI 20) 105 dX6_pass_103 rfl (by decide +kernel) ?_
                refine g_iastT (ws' := ((ma, .inr (6, [.int (nI (S 0)), .int (nI (S 1)), .int (nI (S 2)), .int (nI (S 3)), .ref so, .ref wo, .ref ro, .ref fx])) :: (so, .inl (cJ, 12, refs (orf 12 sc))) :: (wo, .inl (cJ, nw, refs (orf nw wa))) :: (ro, .inl (cJ, nr, refs (orf nr ra))) :: (fx, .inl (cJ, nf, refs (orf nf fa))) :: sR cI sc wa ra fa nw nr nf (up (up (gtU (i * 8 + j) S) (4 + (i * 8 + j)) (S (4 + (i * 8 + j)) + (1 + bl (S 1) i))) (4 + (i * 8 + j)) 20) T st fe fo C9)) X 5 i 0 (sR cI sc wa ra fa nw nr nf (up (gtU (i * 8 + j) S) (4 + (i * 8 + j)) (S (4 + (i * 8 + j)) + (1 + bl (S 1) i))) T st fe fo C9) (sR cI sc wa ra fa nw nr nf (up (up (gtU (i * 8 + j) S) (4 + (i * 8 + j)) (S (4 + (i * 8 + j)) + (1 + bl (S 1) i))) (4 + (i * 8 + j)) 20) T st fe fo C9) (j) (vcl (up (up (gtU (i * 8 + j) S) (4 + (i * 8 + j)) (S (4 + (i * 8 + j)) + (1 + bl (S 1) i))) (4 + (i * 8 + j)) 20) i) 106 rfl (by simp) (sR_c (by omega)) rfl (by omega) (by decide) (vcl_up (by omega)) (sR_cs (by omega) (fun _ _ h => vcl_o (by omega) h) (fun _ _ => vrp_o (Or.inl (by omega)))) dX6_pass_105 rfl rfl ?_
                refine g_eqw (ws' := ((ma, .inr (6, [.int (nI (S 0)), .int (nI (S 1)), .int (nI (S 2)), .int (nI (S 3)), .ref so, .ref wo, .ref ro, .ref fx])) :: (so, .inl (cJ, 12, refs (orf 12 sc))) :: (wo, .inl (cJ, nw, refs (orf nw wa))) :: (ro, .inl (cJ, nr, refs (orf nr ra))) :: (fx, .inl (cJ, nf, refs (orf nf fa))) :: sR cI sc wa ra fa nw nr nf (gtU (i * 8 + (j + 1)) S) T st fe fo C9)) (by rw [← Nat.add_assoc (i * 8) j 1, ← gtU_s9 (n := i * 8 + j) (i := i) (by omega), Nat.min_eq_left (by omega), up_up]) ?_
                refine g_iinc X 0 (nI (j + 1)) [(4, .int (nI (j + 1))), (3, .int (nI (S 1) - nI (i / 2))), (1, .int (nI i)), (0, .ref ma)] 109 dX6_pass_106 rfl rfl (nI_inc _) (by decide) rfl ?_
                refine g_goto X 51 dX6_pass_109 (by decide) ?_
                exact ih_j
        exact M 0 (Nat.zero_le _)
      · refine g_bipush X (nI 11) 17 dX6_pass_15 rfl (by decide +kernel) ?_
        refine g_iload_n X 0 18 dX6_pass_17 rfl rfl rfl ?_
        refine g_isub X (nI (11 - i)) 19 dX6_pass_18 rfl (pk_sub (by omega)) ?_
        refine g_goto X 23 dX6_pass_19 (by decide) ?_
        refine g_istore_n X [(2, .int (nI (11 - i))), (1, .int (nI i)), (0, .ref ma)] 24 dX6_pass_23 rfl rfl (by decide) rfl ?_
        refine g_aload_n X 2 25 dX6_pass_24 rfl rfl rfl ?_
        refine g_get X hiX6 0 1 28 rfl rfl (by decide) (List.mem_of_getElem? (i := 1) rfl) rfl dX6_pass_25 rfl ?_
        refine g_if_ge X 31 39 dX6_pass_28 rfl (by decide) (wd_ge hw) (fun hw6 => absurd hw6 hw5) (fun hw6 => ?_)
        have hw7 : 2 ^ 32 - S 1 ≤ 5 := by unfold windOk at hw; omega
        refine g_aload_n X 2 32 dX6_pass_31 rfl rfl rfl ?_
        refine g_get X hiX6 0 1 35 rfl rfl (by decide) (List.mem_of_getElem? (i := 1) rfl) rfl dX6_pass_32 rfl ?_
        refine g_ineg X 36 dX6_pass_35 rfl ?_
        refine g_eqi (y := nI (2 ^ 32 - S 1)) (nI_neg (by unfold windOk at hw; omega)) ?_
        refine g_goto X 43 dX6_pass_36 (by decide) ?_
        refine g_iload_n X 0 44 dX6_pass_43 rfl rfl rfl ?_
        refine g_iconst X (nI 2) 45 dX6_pass_44 rfl (by decide +kernel) ?_
        refine g_idiv X (nI ((11 - i) / 2)) 46 dX6_pass_45 rfl (nI_ne0 (by omega) (by omega)) (pk_div (by omega) (by omega) (by omega)) ?_
        refine g_isub X ((nI (2 ^ 32 - S 1)) - (nI ((11 - i) / 2))) 47 dX6_pass_46 rfl rfl ?_
        refine g_istore_n X [(3, .int ((nI (2 ^ 32 - S 1)) - (nI ((11 - i) / 2)))), (2, .int (nI (11 - i))), (1, .int (nI i)), (0, .ref ma)] 48 dX6_pass_47 rfl rfl (by decide) rfl ?_
        refine g_iconst X (nI 0) 49 dX6_pass_48 rfl (by decide +kernel) ?_
        refine g_istore X [(4, .int (nI 0)), (3, .int ((nI (2 ^ 32 - S 1)) - (nI ((11 - i) / 2)))), (2, .int (nI (11 - i))), (1, .int (nI i)), (0, .ref ma)] 51 dX6_pass_49 rfl (by decide) rfl ?_
        refine g_lv (lv' := [(4, .int (nI 0)), (3, .int ((nI (2 ^ 32 - S 1)) - (nI ((11 - i) / 2)))), (1, .int (nI i)), (0, .ref ma)]) [0, 1, 3, 4] rfl ?_
        have M : ∀ j : Nat, j ≤ 8 → G p l e rm_X6_pass s m args below meth c Q D A 9 0 0 ((ma, .inr (6, [.int (nI (S 0)), .int (nI (S 1)), .int (nI (S 2)), .int (nI (S 3)), .ref so, .ref wo, .ref ro, .ref fx])) :: (so, .inl (cJ, 12, refs (orf 12 sc))) :: (wo, .inl (cJ, nw, refs (orf nw wa))) :: (ro, .inl (cJ, nr, refs (orf nr ra))) :: (fx, .inl (cJ, nf, refs (orf nf fa))) :: sR cI sc wa ra fa nw nr nf (gtU (i * 8 + j) S) T st fe fo C9) [(4, .int (nI j)), (3, .int (nI (2 ^ 32 - S 1) - nI ((11 - i) / 2))), (1, .int (nI i)), (0, .ref ma)] 51 [] := by
          refine g_down _ ?_ ?_
          · refine g_iload X 0 53 dX6_pass_51 rfl rfl ?_
            refine g_bipush X (nI 8) 55 dX6_pass_53 rfl (by decide +kernel) ?_
            refine g_icmp_ge X 58 112 dX6_pass_55 rfl (by decide) (nI_leI (by omega) (by omega)) (fun h55 => ?_) (fun h55 => absurd (Nat.le_refl _) h55)
            refine g_iinc X 2 (nI (i + 1)) [(1, .int (nI (i + 1))), (4, .int (nI 8)), (3, .int (nI (2 ^ 32 - S 1) - nI ((11 - i) / 2))), (0, .ref ma)] 115 dX6_pass_112 rfl rfl (nI_inc _) (by decide) rfl ?_
            refine g_goto X 2 dX6_pass_115 (by decide) ?_
            refine g_lv (lv' := [(1, .int (nI (i + 1))), (0, .ref ma)]) [0, 3] rfl ?_
            exact (by rw [show (i + 1) * 8 = i * 8 + 8 by omega] at ih_i; exact ih_i)
          · intro j hj ih_j 
            refine g_iload X 0 53 dX6_pass_51 rfl rfl ?_
            refine g_bipush X (nI 8) 55 dX6_pass_53 rfl (by decide +kernel) ?_
            refine g_icmp_ge X 58 112 dX6_pass_55 rfl (by decide) (nI_leI (by omega) (by omega)) (fun h55 => absurd h55 (by omega)) (fun h55 => ?_)
            have h20 := hg.1.2.1 (i * 8 + j) (by omega)
            refine g_aload_n X 3 59 dX6_pass_58 rfl rfl rfl ?_
            refine g_get X hiX6 0 4 62 rfl rfl (by decide) (List.mem_of_getElem? (i := 2) rfl) rfl dX6_pass_59 rfl ?_
            refine g_iload_n X 2 63 dX6_pass_62 rfl rfl rfl ?_
            refine g_aald X 1 2 (i) (sc i) 64 rfl rfl (by omega) (by decide) (orf_at (by omega)) dX6_pass_63 rfl ?_
            refine g_iload X 0 66 dX6_pass_64 rfl rfl ?_
            refine g_dup2 X 67 dX6_pass_66 rfl rfl rfl ?_
            refine g_ialdT X 5 i 0 (sR cI sc wa ra fa nw nr nf (gtU (i * 8 + j) S) T st fe fo C9) (j) (nI (S (4 + (i * 8 + j)))) 68 rfl (sR_c (by omega)) rfl (by omega) (by decide) ((vcl_at (by omega)).trans (congrArg nI (gtU_hi (by omega)))) dX6_pass_67 rfl ?_
            refine g_iconst X (nI 1) 69 dX6_pass_68 rfl (by decide +kernel) ?_
            refine g_iload_n X 1 70 dX6_pass_69 rfl rfl rfl ?_
            refine g_if_le X 73 77 dX6_pass_70 rfl (by decide) Iff.rfl (fun hb => ?_) (fun hb => ?_)
            · refine g_iconst X (nI 0) 78 dX6_pass_77 rfl (by decide +kernel) ?_
              refine g_eqi (y := nI (bl (S 1) i)) (by rw [(bl_n hw5).symm.trans (mx0_f (by omega) (by omega) hb)]) ?_
              refine g_iadd X (nI (1 + (bl (S 1) i))) 79 dX6_pass_78 rfl (nI_add _ _) ?_
              refine g_iadd X (nI ((S (4 + (i * 8 + j))) + (1 + (bl (S 1) i)))) 80 dX6_pass_79 rfl (nI_add _ _) ?_
              refine g_iastT (ws' := ((ma, .inr (6, [.int (nI (S 0)), .int (nI (S 1)), .int (nI (S 2)), .int (nI (S 3)), .ref so, .ref wo, .ref ro, .ref fx])) :: (so, .inl (cJ, 12, refs (orf 12 sc))) :: (wo, .inl (cJ, nw, refs (orf nw wa))) :: (ro, .inl (cJ, nr, refs (orf nr ra))) :: (fx, .inl (cJ, nf, refs (orf nf fa))) :: sR cI sc wa ra fa nw nr nf (up (gtU (i * 8 + j) S) (4 + (i * 8 + j)) (S (4 + (i * 8 + j)) + (1 + bl (S 1) i))) T st fe fo C9)) X 5 i 0 (sR cI sc wa ra fa nw nr nf (gtU (i * 8 + j) S) T st fe fo C9) (sR cI sc wa ra fa nw nr nf (up (gtU (i * 8 + j) S) (4 + (i * 8 + j)) (S (4 + (i * 8 + j)) + (1 + bl (S 1) i))) T st fe fo C9) (j) (vcl (up (gtU (i * 8 + j) S) (4 + (i * 8 + j)) (S (4 + (i * 8 + j)) + (1 + bl (S 1) i))) i) 81 rfl (by simp) (sR_c (by omega)) rfl (by omega) (by decide) (vcl_up (by omega)) (sR_cs (by omega) (fun _ _ h => vcl_o (by omega) h) (fun _ _ => vrp_o (Or.inl (by omega)))) dX6_pass_80 rfl rfl ?_
              refine g_aload_n X 3 82 dX6_pass_81 rfl rfl rfl ?_
              refine g_get X hiX6 0 4 85 rfl rfl (by decide) (List.mem_of_getElem? (i := 2) rfl) rfl dX6_pass_82 rfl ?_
              refine g_iload_n X 2 86 dX6_pass_85 rfl rfl rfl ?_
              refine g_aald X 1 2 (i) (sc i) 87 rfl rfl (by omega) (by decide) (orf_at (by omega)) dX6_pass_86 rfl ?_
              refine g_iload X 0 89 dX6_pass_87 rfl rfl ?_
              refine g_ialdT X 5 i 0 (sR cI sc wa ra fa nw nr nf (up (gtU (i * 8 + j) S) (4 + (i * 8 + j)) (S (4 + (i * 8 + j)) + (1 + bl (S 1) i))) T st fe fo C9) (j) (nI (S (4 + (i * 8 + j)) + (1 + bl (S 1) i))) 90 rfl (sR_c (by omega)) rfl (by omega) (by decide) ((vcl_at (by omega)).trans (congrArg nI (up_s _ _ _))) dX6_pass_89 rfl ?_
              refine g_bipush X (nI 20) 92 dX6_pass_90 rfl (by decide +kernel) ?_
              refine g_icmp_le X 95 106 dX6_pass_92 rfl (by decide) (nI_leI (by omega) (by omega)) (fun h20b => ?_) (fun h20b => ?_)
              · refine g_eqw (ws' := ((ma, .inr (6, [.int (nI (S 0)), .int (nI (S 1)), .int (nI (S 2)), .int (nI (S 3)), .ref so, .ref wo, .ref ro, .ref fx])) :: (so, .inl (cJ, 12, refs (orf 12 sc))) :: (wo, .inl (cJ, nw, refs (orf nw wa))) :: (ro, .inl (cJ, nr, refs (orf nr ra))) :: (fx, .inl (cJ, nf, refs (orf nf fa))) :: sR cI sc wa ra fa nw nr nf (gtU (i * 8 + (j + 1)) S) T st fe fo C9)) (by rw [← Nat.add_assoc (i * 8) j 1, ← gtU_s9 (n := i * 8 + j) (i := i) (by omega), Nat.min_eq_right (by omega)]) ?_
                refine g_iinc X 0 (nI (j + 1)) [(4, .int (nI (j + 1))), (3, .int (nI (2 ^ 32 - S 1) - nI ((11 - i) / 2))), (1, .int (nI i)), (0, .ref ma)] 109 dX6_pass_106 rfl rfl (nI_inc _) (by decide) rfl ?_
                refine g_goto X 51 dX6_pass_109 (by decide) ?_
                exact ih_j
              · refine g_aload_n X 3 96 dX6_pass_95 rfl rfl rfl ?_
                refine g_get X hiX6 0 4 99 rfl rfl (by decide) (List.mem_of_getElem? (i := 2) rfl) rfl dX6_pass_96 rfl ?_
                refine g_iload_n X 2 100 dX6_pass_99 rfl rfl rfl ?_
                refine g_aald X 1 2 (i) (sc i) 101 rfl rfl (by omega) (by decide) (orf_at (by omega)) dX6_pass_100 rfl ?_
                refine g_iload X 0 103 dX6_pass_101 rfl rfl ?_
                refine g_bipush X (nI 20) 105 dX6_pass_103 rfl (by decide +kernel) ?_
                refine g_iastT (ws' := ((ma, .inr (6, [.int (nI (S 0)), .int (nI (S 1)), .int (nI (S 2)), .int (nI (S 3)), .ref so, .ref wo, .ref ro, .ref fx])) :: (so, .inl (cJ, 12, refs (orf 12 sc))) :: (wo, .inl (cJ, nw, refs (orf nw wa))) :: (ro, .inl (cJ, nr, refs (orf nr ra))) :: (fx, .inl (cJ, nf, refs (orf nf fa))) :: sR cI sc wa ra fa nw nr nf (up (up (gtU (i * 8 + j) S) (4 + (i * 8 + j)) (S (4 + (i * 8 + j)) + (1 + bl (S 1) i))) (4 + (i * 8 + j)) 20) T st fe fo C9)) X 5 i 0 (sR cI sc wa ra fa nw nr nf (up (gtU (i * 8 + j) S) (4 + (i * 8 + j)) (S (4 + (i * 8 + j)) + (1 + bl (S 1) i))) T st fe fo C9) (sR cI sc wa ra fa nw nr nf (up (up (gtU (i * 8 + j) S) (4 + (i * 8 + j)) (S (4 + (i * 8 + j)) + (1 + bl (S 1) i))) (4 + (i * 8 + j)) 20) T st fe fo C9) (j) (vcl (up (up (gtU (i * 8 + j) S) (4 + (i * 8 + j)) (S (4 + (i * 8 + j)) + (1 + bl (S 1) i))) (4 + (i * 8 + j)) 20) i) 106 rfl (by simp) (sR_c (by omega)) rfl (by omega) (by decide) (vcl_up (by omega)) (sR_cs (by omega) (fun _ _ h => vcl_o (by omega) h) (fun _ _ => vrp_o (Or.inl (by omega)))) dX6_pass_105 rfl rfl ?_
                refine g_eqw (ws' := ((ma, .inr (6, [.int (nI (S 0)), .int (nI (S 1)), .int (nI (S 2)), .int (nI (S 3)), .ref so, .ref wo, .ref ro, .ref fx])) :: (so, .inl (cJ, 12, refs (orf 12 sc))) :: (wo, .inl (cJ, nw, refs (orf nw wa))) :: (ro, .inl (cJ, nr, refs (orf nr ra))) :: (fx, .inl (cJ, nf, refs (orf nf fa))) :: sR cI sc wa ra fa nw nr nf (gtU (i * 8 + (j + 1)) S) T st fe fo C9)) (by rw [← Nat.add_assoc (i * 8) j 1, ← gtU_s9 (n := i * 8 + j) (i := i) (by omega), Nat.min_eq_left (by omega), up_up]) ?_
                refine g_iinc X 0 (nI (j + 1)) [(4, .int (nI (j + 1))), (3, .int (nI (2 ^ 32 - S 1) - nI ((11 - i) / 2))), (1, .int (nI i)), (0, .ref ma)] 109 dX6_pass_106 rfl rfl (nI_inc _) (by decide) rfl ?_
                refine g_goto X 51 dX6_pass_109 (by decide) ?_
                exact ih_j
            · refine g_iload_n X 1 74 dX6_pass_73 rfl rfl rfl ?_
              refine g_goto X 78 dX6_pass_74 (by decide) ?_
              refine g_eqi (y := nI (bl (S 1) i)) ((mx0_t (by omega) (by omega) hb).trans (congrArg nI (bl_n hw5))) ?_
              refine g_iadd X (nI (1 + (bl (S 1) i))) 79 dX6_pass_78 rfl (nI_add _ _) ?_
              refine g_iadd X (nI ((S (4 + (i * 8 + j))) + (1 + (bl (S 1) i)))) 80 dX6_pass_79 rfl (nI_add _ _) ?_
              refine g_iastT (ws' := ((ma, .inr (6, [.int (nI (S 0)), .int (nI (S 1)), .int (nI (S 2)), .int (nI (S 3)), .ref so, .ref wo, .ref ro, .ref fx])) :: (so, .inl (cJ, 12, refs (orf 12 sc))) :: (wo, .inl (cJ, nw, refs (orf nw wa))) :: (ro, .inl (cJ, nr, refs (orf nr ra))) :: (fx, .inl (cJ, nf, refs (orf nf fa))) :: sR cI sc wa ra fa nw nr nf (up (gtU (i * 8 + j) S) (4 + (i * 8 + j)) (S (4 + (i * 8 + j)) + (1 + bl (S 1) i))) T st fe fo C9)) X 5 i 0 (sR cI sc wa ra fa nw nr nf (gtU (i * 8 + j) S) T st fe fo C9) (sR cI sc wa ra fa nw nr nf (up (gtU (i * 8 + j) S) (4 + (i * 8 + j)) (S (4 + (i * 8 + j)) + (1 + bl (S 1) i))) T st fe fo C9) (j) (vcl (up (gtU (i * 8 + j) S) (4 + (i * 8 + j)) (S (4 + (i * 8 + j)) + (1 + bl (S 1) i))) i) 81 rfl (by simp) (sR_c (by omega)) rfl (by omega) (by decide) (vcl_up (by omega)) (sR_cs (by omega) (fun _ _ h => vcl_o (by omega) h) (fun _ _ => vrp_o (Or.inl (by omega)))) dX6_pass_80 rfl rfl ?_
              refine g_aload_n X 3 82 dX6_pass_81 rfl rfl rfl ?_
              refine g_get X hiX6 0 4 85 rfl rfl (by decide) (List.mem_of_getElem? (i := 2) rfl) rfl dX6_pass_82 rfl ?_
              refine g_iload_n X 2 86 dX6_pass_85 rfl rfl rfl ?_
              refine g_aald X 1 2 (i) (sc i) 87 rfl rfl (by omega) (by decide) (orf_at (by omega)) dX6_pass_86 rfl ?_
              refine g_iload X 0 89 dX6_pass_87 rfl rfl ?_
              refine g_ialdT X 5 i 0 (sR cI sc wa ra fa nw nr nf (up (gtU (i * 8 + j) S) (4 + (i * 8 + j)) (S (4 + (i * 8 + j)) + (1 + bl (S 1) i))) T st fe fo C9) (j) (nI (S (4 + (i * 8 + j)) + (1 + bl (S 1) i))) 90 rfl (sR_c (by omega)) rfl (by omega) (by decide) ((vcl_at (by omega)).trans (congrArg nI (up_s _ _ _))) dX6_pass_89 rfl ?_
              refine g_bipush X (nI 20) 92 dX6_pass_90 rfl (by decide +kernel) ?_
              refine g_icmp_le X 95 106 dX6_pass_92 rfl (by decide) (nI_leI (by omega) (by omega)) (fun h20b => ?_) (fun h20b => ?_)
              · refine g_eqw (ws' := ((ma, .inr (6, [.int (nI (S 0)), .int (nI (S 1)), .int (nI (S 2)), .int (nI (S 3)), .ref so, .ref wo, .ref ro, .ref fx])) :: (so, .inl (cJ, 12, refs (orf 12 sc))) :: (wo, .inl (cJ, nw, refs (orf nw wa))) :: (ro, .inl (cJ, nr, refs (orf nr ra))) :: (fx, .inl (cJ, nf, refs (orf nf fa))) :: sR cI sc wa ra fa nw nr nf (gtU (i * 8 + (j + 1)) S) T st fe fo C9)) (by rw [← Nat.add_assoc (i * 8) j 1, ← gtU_s9 (n := i * 8 + j) (i := i) (by omega), Nat.min_eq_right (by omega)]) ?_
                refine g_iinc X 0 (nI (j + 1)) [(4, .int (nI (j + 1))), (3, .int (nI (2 ^ 32 - S 1) - nI ((11 - i) / 2))), (1, .int (nI i)), (0, .ref ma)] 109 dX6_pass_106 rfl rfl (nI_inc _) (by decide) rfl ?_
                refine g_goto X 51 dX6_pass_109 (by decide) ?_
                exact ih_j
              · refine g_aload_n X 3 96 dX6_pass_95 rfl rfl rfl ?_
                refine g_get X hiX6 0 4 99 rfl rfl (by decide) (List.mem_of_getElem? (i := 2) rfl) rfl dX6_pass_96 rfl ?_
                refine g_iload_n X 2 100 dX6_pass_99 rfl rfl rfl ?_
                refine g_aald X 1 2 (i) (sc i) 101 rfl rfl (by omega) (by decide) (orf_at (by omega)) dX6_pass_100 rfl ?_
                refine g_iload X 0 103 dX6_pass_101 rfl rfl ?_
                refine g_bipush X (nI 20) 105 dX6_pass_103 rfl (by decide +kernel) ?_
                refine g_iastT (ws' := ((ma, .inr (6, [.int (nI (S 0)), .int (nI (S 1)), .int (nI (S 2)), .int (nI (S 3)), .ref so, .ref wo, .ref ro, .ref fx])) :: (so, .inl (cJ, 12, refs (orf 12 sc))) :: (wo, .inl (cJ, nw, refs (orf nw wa))) :: (ro, .inl (cJ, nr, refs (orf nr ra))) :: (fx, .inl (cJ, nf, refs (orf nf fa))) :: sR cI sc wa ra fa nw nr nf (up (up (gtU (i * 8 + j) S) (4 + (i * 8 + j)) (S (4 + (i * 8 + j)) + (1 + bl (S 1) i))) (4 + (i * 8 + j)) 20) T st fe fo C9)) X 5 i 0 (sR cI sc wa ra fa nw nr nf (up (gtU (i * 8 + j) S) (4 + (i * 8 + j)) (S (4 + (i * 8 + j)) + (1 + bl (S 1) i))) T st fe fo C9) (sR cI sc wa ra fa nw nr nf (up (up (gtU (i * 8 + j) S) (4 + (i * 8 + j)) (S (4 + (i * 8 + j)) + (1 + bl (S 1) i))) (4 + (i * 8 + j)) 20) T st fe fo C9) (j) (vcl (up (up (gtU (i * 8 + j) S) (4 + (i * 8 + j)) (S (4 + (i * 8 + j)) + (1 + bl (S 1) i))) (4 + (i * 8 + j)) 20) i) 106 rfl (by simp) (sR_c (by omega)) rfl (by omega) (by decide) (vcl_up (by omega)) (sR_cs (by omega) (fun _ _ h => vcl_o (by omega) h) (fun _ _ => vrp_o (Or.inl (by omega)))) dX6_pass_105 rfl rfl ?_
                refine g_eqw (ws' := ((ma, .inr (6, [.int (nI (S 0)), .int (nI (S 1)), .int (nI (S 2)), .int (nI (S 3)), .ref so, .ref wo, .ref ro, .ref fx])) :: (so, .inl (cJ, 12, refs (orf 12 sc))) :: (wo, .inl (cJ, nw, refs (orf nw wa))) :: (ro, .inl (cJ, nr, refs (orf nr ra))) :: (fx, .inl (cJ, nf, refs (orf nf fa))) :: sR cI sc wa ra fa nw nr nf (gtU (i * 8 + (j + 1)) S) T st fe fo C9)) (by rw [← Nat.add_assoc (i * 8) j 1, ← gtU_s9 (n := i * 8 + j) (i := i) (by omega), Nat.min_eq_left (by omega), up_up]) ?_
                refine g_iinc X 0 (nI (j + 1)) [(4, .int (nI (j + 1))), (3, .int (nI (2 ^ 32 - S 1) - nI ((11 - i) / 2))), (1, .int (nI i)), (0, .ref ma)] 109 dX6_pass_106 rfl rfl (nI_inc _) (by decide) rfl ?_
                refine g_goto X 51 dX6_pass_109 (by decide) ?_
                exact ih_j
        exact M 0 (Nat.zero_le _)
  have L0 := L 0 (Nat.zero_le _)
  rw [show 0 * 8 = 0 from rfl, gtU_0] at L0
  exact L0
