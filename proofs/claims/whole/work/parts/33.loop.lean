/-! THE LAW'S LOOP -/
theorem gtL {L k : Nat} (hL : L ≤ 3072) (hk : k < 2 ^ 29) : nI L - nI 6 < nI k ↔ L < k + 6 := by
  have h1 := pk_sub_toInt (a := L) (b := 6) (by omega) (by decide)
  have h2 := pk_sub_toInt (a := k) (b := 0) (by omega) (by decide)
  rw [pk_sub (Nat.zero_le _), Nat.sub_zero] at h2
  rw [Int32.lt_iff_toInt_lt, h1, h2]
  omega
theorem and31 (x : Int32) : ∃ w : Nat, w ≤ 31 ∧ x &&& nI 31 = nI w := by
  refine ⟨wdN (x &&& nI 31), ?_, (wdN_nI _).symm⟩
  show (x &&& nI 31).toBitVec.toNat ≤ 31
  rw [Int32.toBitVec_and, BitVec.toNat_and]
  exact Nat.le_trans Nat.and_le_right (by decide +kernel)

set_option maxHeartbeats 8000000 in
set_option maxRecDepth 100000 in
theorem law_loop {p : Program} {l : Launch} {e : Env} {s : State} {m : MethodId} {args : Array Value} {below : List Frame} {meth : Method} {c : Code} {Q : State → Prop} {D : va_G} {A : Nat → Prop} {cI cZ cJ : ClassId} {gr v f k ak z0 z1 z2 z3 z4 f0 f1 g a b b0 b1 b2 b3 b4 b5 ag aa ab ab0 ab1 ab2 ab3 ab4 ab5 m6 q1 q2 q3 q4 q5 q6 ou sb L : Nat} {xs : Nat → Int32} (hfl : l.stackTraces = false) (X : gX p s m args c D (gT cI cZ cJ) A cL_law 9 RL wsL_law) (hN : gN A s) (hX : va_X sb L xs s s.heap) (hbl : sb < s.heap.size) (hbA : ¬ A sb) (hL : L ≤ 3072) (ret : ∀ (u : va_W) (lv : List (Nat × Value)) (kc ks : Nat), kc ≤ 641954 → ks ≤ 7170242 → G p l e room_1 s m args below meth c Q D A 9 kc ks u lv 1277 [.int (nI 1)]) : ∀ (n : Nat) (S T st fe fo K S1 t1 : Nat → Nat) (o9 : Nat → Int64) (nw nr nf n1 th j kc ks : Nat), j + n = 513 → kc + 2 * n ≤ 641954 → ks + 11 * n ≤ 7170242 → Inv S T st fe fo nw nr nf n1 j → G p l e room_1 s m args below meth c Q D A 9 kc ks [(gr, .inr (5, [.ref v, .ref f, .ref k, .ref ak])), (v, .inr (4, [.int (nI nw), .ref z0, .ref z1, .ref z2, .ref z3, .ref z4])), (z0, .inl (cI, 6, .inl (vt 0 T))), (z1, .inl (cI, 6, .inl (vt 1 T))), (z2, .inl (cI, 6, .inl (vt 2 T))), (z3, .inl (cI, 6, .inl (vt 3 T))), (z4, .inl (cI, 6, .inl (vt 4 T))), (f, .inr (1, [.int (nI nf), .ref f0, .ref f1])), (f0, .inl (cI, 4, .inl (v4 fe))), (f1, .inl (cI, 4, .inl (v4 fo))), (k, .inr (0, [.ref g, .ref b, .int (nI (S 1)), .int (nI (S 0)), .int (nI (S 2)), .int (nI (S 3))])), (g, .inr (2, [.ref a])), (a, .inl (cI, 96, .inl (vs S))), (b, .inr (3, [.int (nI nr), .ref b0, .ref b1, .ref b2, .ref b3, .ref b4, .ref b5])), (b0, .inl (cI, 6, .inl (vr 0 S))), (b1, .inl (cI, 6, .inl (vr 1 S))), (b2, .inl (cI, 6, .inl (v6 st))), (b3, .inl (cZ, 6, .inl (vw nr S))), (b4, .inl (cI, 6, .inl (vr 3 S))), (b5, .inl (cI, 6, .inl (vr 4 S))), (ak, .inr (0, [.ref ag, .ref ab, .int (nI (S1 1)), .int (nI (S1 0)), .int (nI (S1 2)), .int (nI (S1 3))])), (ag, .inr (2, [.ref aa])), (aa, .inl (cI, 96, .inl (vs S1))), (ab, .inr (3, [.int (nI n1), .ref ab0, .ref ab1, .ref ab2, .ref ab3, .ref ab4, .ref ab5])), (ab0, .inl (cI, 6, .inl (vr 0 S1))), (ab1, .inl (cI, 6, .inl (vr 1 S1))), (ab2, .inl (cI, 6, .inl (v6 t1))), (ab3, .inl (cZ, 6, .inl (vw n1 S1))), (ab4, .inl (cI, 6, .inl (vr 3 S1))), (ab5, .inl (cI, 6, .inl (vr 4 S1))), (m6, .inr (6, [.int (nI th), .int (nI nw), .int (nI nr), .int (nI nf), .ref q1, .ref q2, .ref q3, .ref q4, .ref q5, .ref q6])), (q1, .inl (cI, 30, .inl (v30 T))), (q2, .inl (cI, 6, .inl (v6 st))), (q3, .inl (cI, 4, .inl (v4 fe))), (q4, .inl (cI, 4, .inl (v4 fo))), (q5, .inl (cI, 130, .inl (vn S))), (q6, .inl (cI, 130, .inl (vn K))), (ou, .inl (cJ, 1, .inr (.inl o9)))] [(4, .int (nI (6 * j))), (0, .ref sb), (1, .ref gr), (2, .ref m6), (3, .ref ou)] 23 [] := by
  intro n
  induction n with
  | zero =>
    intro S T st fe fo K S1 t1 o9 nw nr nf n1 th j kc ks hj hkc hks hI
    refine g_iload X 0 25 dL_law_23 rfl rfl ?_
    refine g_aload_n X 1 26 dL_law_25 rfl rfl rfl ?_
    refine g_slen X hX hbl hbA 27 dL_law_26 rfl ?_
    refine g_bipush X (nI 6) 29 dL_law_27 rfl (by decide +kernel) ?_
    refine g_isub X ((nI L) - (nI 6)) 30 dL_law_29 rfl rfl ?_
    refine g_icmp_gt X 33 1276 dL_law_30 rfl (by decide) (gtL hL (by omega)) (fun h30 => ?_) (fun h30 => absurd (by omega) h30)
    refine g_iconst X (nI 1) 1277 dL_law_1276 rfl (by decide +kernel) ?_
    exact ret _ _ _ _ (by omega) (by omega)
  | succ n IH =>
    intro S T st fe fo K S1 t1 o9 nw nr nf n1 th j kc ks hj hkc hks hI
    have ih : ∀ (S T st fe fo K S1 t1 : Nat → Nat) (o9 : Nat → Int64) (nw nr nf n1 th : Nat), Inv S T st fe fo nw nr nf n1 (j + 1) → G p l e room_1 s m args below meth c Q D A 9 (kc + 2) (ks + 11) [(gr, .inr (5, [.ref v, .ref f, .ref k, .ref ak])), (v, .inr (4, [.int (nI nw), .ref z0, .ref z1, .ref z2, .ref z3, .ref z4])), (z0, .inl (cI, 6, .inl (vt 0 T))), (z1, .inl (cI, 6, .inl (vt 1 T))), (z2, .inl (cI, 6, .inl (vt 2 T))), (z3, .inl (cI, 6, .inl (vt 3 T))), (z4, .inl (cI, 6, .inl (vt 4 T))), (f, .inr (1, [.int (nI nf), .ref f0, .ref f1])), (f0, .inl (cI, 4, .inl (v4 fe))), (f1, .inl (cI, 4, .inl (v4 fo))), (k, .inr (0, [.ref g, .ref b, .int (nI (S 1)), .int (nI (S 0)), .int (nI (S 2)), .int (nI (S 3))])), (g, .inr (2, [.ref a])), (a, .inl (cI, 96, .inl (vs S))), (b, .inr (3, [.int (nI nr), .ref b0, .ref b1, .ref b2, .ref b3, .ref b4, .ref b5])), (b0, .inl (cI, 6, .inl (vr 0 S))), (b1, .inl (cI, 6, .inl (vr 1 S))), (b2, .inl (cI, 6, .inl (v6 st))), (b3, .inl (cZ, 6, .inl (vw nr S))), (b4, .inl (cI, 6, .inl (vr 3 S))), (b5, .inl (cI, 6, .inl (vr 4 S))), (ak, .inr (0, [.ref ag, .ref ab, .int (nI (S1 1)), .int (nI (S1 0)), .int (nI (S1 2)), .int (nI (S1 3))])), (ag, .inr (2, [.ref aa])), (aa, .inl (cI, 96, .inl (vs S1))), (ab, .inr (3, [.int (nI n1), .ref ab0, .ref ab1, .ref ab2, .ref ab3, .ref ab4, .ref ab5])), (ab0, .inl (cI, 6, .inl (vr 0 S1))), (ab1, .inl (cI, 6, .inl (vr 1 S1))), (ab2, .inl (cI, 6, .inl (v6 t1))), (ab3, .inl (cZ, 6, .inl (vw n1 S1))), (ab4, .inl (cI, 6, .inl (vr 3 S1))), (ab5, .inl (cI, 6, .inl (vr 4 S1))), (m6, .inr (6, [.int (nI th), .int (nI nw), .int (nI nr), .int (nI nf), .ref q1, .ref q2, .ref q3, .ref q4, .ref q5, .ref q6])), (q1, .inl (cI, 30, .inl (v30 T))), (q2, .inl (cI, 6, .inl (v6 st))), (q3, .inl (cI, 4, .inl (v4 fe))), (q4, .inl (cI, 4, .inl (v4 fo))), (q5, .inl (cI, 130, .inl (vn S))), (q6, .inl (cI, 130, .inl (vn K))), (ou, .inl (cJ, 1, .inr (.inl o9)))] [(4, .int (nI (6 * j + 6))), (0, .ref sb), (1, .ref gr), (2, .ref m6), (3, .ref ou)] 23 [] := fun S T st fe fo K S1 t1 o9 nw nr nf n1 th hI2 => IH S T st fe fo K S1 t1 o9 nw nr nf n1 th (j + 1) (kc + 2) (ks + 11) (by omega) (by omega) (by omega) hI2
    refine g_iload X 0 25 dL_law_23 rfl rfl ?_
    refine g_aload_n X 1 26 dL_law_25 rfl rfl rfl ?_
    refine g_slen X hX hbl hbA 27 dL_law_26 rfl ?_
    refine g_bipush X (nI 6) 29 dL_law_27 rfl (by decide +kernel) ?_
    refine g_isub X ((nI L) - (nI 6)) 30 dL_law_29 rfl rfl ?_
    refine g_icmp_gt X 33 1276 dL_law_30 rfl (by decide) (gtL hL (by omega)) (fun h30 => ?_) (fun h30 => ?_)
    · refine g_iconst X (nI 1) 1277 dL_law_1276 rfl (by decide +kernel) ?_
      exact ret _ _ _ _ (by omega) (by omega)
    · refine g_aload_n X 1 34 dL_law_33 rfl rfl rfl ?_
      refine g_iload X 0 36 dL_law_34 rfl rfl ?_
      refine g_sld X hX hbl hbA (6 * j) 37 (by omega) (by omega) dL_law_36 rfl ?_
      refine g_bipush X (nI 31) 39 dL_law_37 rfl (by decide +kernel) ?_
      refine g_iand X 40 dL_law_39 rfl ?_
      obtain ⟨w9, hw9, hw8⟩ := and31 (xs (6 * j))
      refine g_eqi (y := nI w9) hw8 ?_
      rcases (show w9 = 0 ∨ w9 = 1 ∨ w9 = 2 ∨ w9 = 3 ∨ w9 = 4 ∨ w9 = 5 ∨ w9 = 6 ∨ w9 = 7 ∨ w9 = 8 ∨ w9 = 9 ∨ w9 = 10 ∨ w9 = 11 ∨ w9 = 12 ∨ w9 = 13 ∨ w9 = 14 ∨ w9 = 15 ∨ w9 = 16 ∨ w9 = 17 ∨ w9 = 18 ∨ w9 = 19 ∨ w9 = 20 ∨ w9 = 21 ∨ w9 = 22 ∨ w9 = 23 ∨ w9 = 24 ∨ w9 = 25 ∨ w9 = 26 ∨ w9 = 27 ∨ w9 = 28 ∨ w9 = 29 ∨ w9 = 30 ∨ w9 = 31 by omega) with rfl | rfl | rfl | rfl | rfl | rfl | rfl | rfl | rfl | rfl | rfl | rfl | rfl | rfl | rfl | rfl | rfl | rfl | rfl | rfl | rfl | rfl | rfl | rfl | rfl | rfl | rfl | rfl | rfl | rfl | rfl | rfl
      · refine g_tableIn X 132 dL_law_40 0 (by decide +kernel) (by decide) (by decide) rfl (by decide) ?_
        exact law_c0 hfl X hN hX hbl hbA (by omega) hL hI (by omega) (by omega) ih
      · refine g_tableIn X 236 dL_law_40 1 (by decide +kernel) (by decide) (by decide) rfl (by decide) ?_
        exact law_c1 hfl X hN hX hbl hbA (by omega) hL hI (by omega) (by omega) ih
      · refine g_tableIn X 332 dL_law_40 2 (by decide +kernel) (by decide) (by decide) rfl (by decide) ?_
        exact law_c2 hfl X hN hX hbl hbA (by omega) hL hI (by omega) (by omega) ih
      · refine g_tableIn X 400 dL_law_40 3 (by decide +kernel) (by decide) (by decide) rfl (by decide) ?_
        exact law_c3 hfl X hN hX hbl hbA (by omega) hL hI (by omega) (by omega) ih
      · refine g_tableIn X 456 dL_law_40 4 (by decide +kernel) (by decide) (by decide) rfl (by decide) ?_
        exact law_c4 hfl X hN hX hbl hbA (by omega) hL hI (by omega) (by omega) ih
      · refine g_tableIn X 524 dL_law_40 5 (by decide +kernel) (by decide) (by decide) rfl (by decide) ?_
        exact law_c5 hfl X hN hX hbl hbA (by omega) hL hI (by omega) (by omega) ih
      · refine g_tableIn X 587 dL_law_40 6 (by decide +kernel) (by decide) (by decide) rfl (by decide) ?_
        exact law_c6 hfl X hN hX hbl hbA (by omega) hL hI (by omega) (by omega) ih
      · refine g_tableIn X 643 dL_law_40 7 (by decide +kernel) (by decide) (by decide) rfl (by decide) ?_
        exact law_c7 hfl X hN hX hbl hbA (by omega) hL hI (by omega) (by omega) ih
      · refine g_tableIn X 699 dL_law_40 8 (by decide +kernel) (by decide) (by decide) rfl (by decide) ?_
        exact law_c8 hfl X hN hX hbl hbA (by omega) hL hI (by omega) (by omega) ih
      · refine g_tableIn X 767 dL_law_40 9 (by decide +kernel) (by decide) (by decide) rfl (by decide) ?_
        exact law_c9 hfl X hN hX hbl hbA (by omega) hL hI (by omega) (by omega) ih
      · refine g_tableIn X 835 dL_law_40 10 (by decide +kernel) (by decide) (by decide) rfl (by decide) ?_
        exact law_c10 hfl X hN hX hbl hbA (by omega) hL hI (by omega) (by omega) ih
      · refine g_tableIn X 903 dL_law_40 11 (by decide +kernel) (by decide) (by decide) rfl (by decide) ?_
        exact law_c11 hfl X hN hX hbl hbA (by omega) hL hI (by omega) (by omega) ih
      · refine g_tableIn X 959 dL_law_40 12 (by decide +kernel) (by decide) (by decide) rfl (by decide) ?_
        exact law_c12 hfl X hN hX hbl hbA (by omega) hL hI (by omega) (by omega) ih
      · refine g_tableIn X 1022 dL_law_40 13 (by decide +kernel) (by decide) (by decide) rfl (by decide) ?_
        exact law_c13 hfl X hN hX hbl hbA (by omega) hL hI (by omega) (by omega) ih
      · refine g_tableIn X 1035 dL_law_40 14 (by decide +kernel) (by decide) (by decide) rfl (by decide) ?_
        exact law_c14 hfl X hN hX hbl hbA (by omega) hL hI (by omega) (by omega) ih
      · refine g_tableIn X 1103 dL_law_40 15 (by decide +kernel) (by decide) (by decide) rfl (by decide) ?_
        exact law_c15 hfl X hN hX hbl hbA (by omega) hL hI (by omega) (by omega) ih
      · refine g_tableIn X 1159 dL_law_40 16 (by decide +kernel) (by decide) (by decide) rfl (by decide) ?_
        exact law_c16 hfl X hN hX hbl hbA (by omega) hL hI (by omega) (by omega) ih
      · refine g_tableIn X 1215 dL_law_40 17 (by decide +kernel) (by decide) (by decide) rfl (by decide) ?_
        exact law_c17 hfl X hN hX hbl hbA (by omega) hL hI (by omega) (by omega) ih
      · refine g_tableIn X 1256 dL_law_40 18 (by decide +kernel) (by decide) (by decide) rfl (by decide) ?_
        exact law_c18 hfl X hN hX hbl hbA (by omega) hL hI (by omega) (by omega) ih
      · refine g_tableOut X 1270 dL_law_40 (by decide +kernel) (by decide) ?_
        refine g_w (kc' := (kc + 2)) (ks' := (ks + 11)) (by omega) (by omega) ?_
        refine g_iinc X 0 (nI (6 * j + 6)) [(4, .int (nI (6 * j + 6))), (0, .ref sb), (1, .ref gr), (2, .ref m6), (3, .ref ou)] 1273 dL_law_1270 rfl rfl (nI_incN _ _) (by decide) rfl ?_
        refine g_goto X 23 dL_law_1273 (by decide) ?_
        exact ih _ _ _ _ _ _ _ _ _ _ _ _ _ _ (inv_on hI)
      · refine g_tableOut X 1270 dL_law_40 (by decide +kernel) (by decide) ?_
        refine g_w (kc' := (kc + 2)) (ks' := (ks + 11)) (by omega) (by omega) ?_
        refine g_iinc X 0 (nI (6 * j + 6)) [(4, .int (nI (6 * j + 6))), (0, .ref sb), (1, .ref gr), (2, .ref m6), (3, .ref ou)] 1273 dL_law_1270 rfl rfl (nI_incN _ _) (by decide) rfl ?_
        refine g_goto X 23 dL_law_1273 (by decide) ?_
        exact ih _ _ _ _ _ _ _ _ _ _ _ _ _ _ (inv_on hI)
      · refine g_tableOut X 1270 dL_law_40 (by decide +kernel) (by decide) ?_
        refine g_w (kc' := (kc + 2)) (ks' := (ks + 11)) (by omega) (by omega) ?_
        refine g_iinc X 0 (nI (6 * j + 6)) [(4, .int (nI (6 * j + 6))), (0, .ref sb), (1, .ref gr), (2, .ref m6), (3, .ref ou)] 1273 dL_law_1270 rfl rfl (nI_incN _ _) (by decide) rfl ?_
        refine g_goto X 23 dL_law_1273 (by decide) ?_
        exact ih _ _ _ _ _ _ _ _ _ _ _ _ _ _ (inv_on hI)
      · refine g_tableOut X 1270 dL_law_40 (by decide +kernel) (by decide) ?_
        refine g_w (kc' := (kc + 2)) (ks' := (ks + 11)) (by omega) (by omega) ?_
        refine g_iinc X 0 (nI (6 * j + 6)) [(4, .int (nI (6 * j + 6))), (0, .ref sb), (1, .ref gr), (2, .ref m6), (3, .ref ou)] 1273 dL_law_1270 rfl rfl (nI_incN _ _) (by decide) rfl ?_
        refine g_goto X 23 dL_law_1273 (by decide) ?_
        exact ih _ _ _ _ _ _ _ _ _ _ _ _ _ _ (inv_on hI)
      · refine g_tableOut X 1270 dL_law_40 (by decide +kernel) (by decide) ?_
        refine g_w (kc' := (kc + 2)) (ks' := (ks + 11)) (by omega) (by omega) ?_
        refine g_iinc X 0 (nI (6 * j + 6)) [(4, .int (nI (6 * j + 6))), (0, .ref sb), (1, .ref gr), (2, .ref m6), (3, .ref ou)] 1273 dL_law_1270 rfl rfl (nI_incN _ _) (by decide) rfl ?_
        refine g_goto X 23 dL_law_1273 (by decide) ?_
        exact ih _ _ _ _ _ _ _ _ _ _ _ _ _ _ (inv_on hI)
      · refine g_tableOut X 1270 dL_law_40 (by decide +kernel) (by decide) ?_
        refine g_w (kc' := (kc + 2)) (ks' := (ks + 11)) (by omega) (by omega) ?_
        refine g_iinc X 0 (nI (6 * j + 6)) [(4, .int (nI (6 * j + 6))), (0, .ref sb), (1, .ref gr), (2, .ref m6), (3, .ref ou)] 1273 dL_law_1270 rfl rfl (nI_incN _ _) (by decide) rfl ?_
        refine g_goto X 23 dL_law_1273 (by decide) ?_
        exact ih _ _ _ _ _ _ _ _ _ _ _ _ _ _ (inv_on hI)
      · refine g_tableOut X 1270 dL_law_40 (by decide +kernel) (by decide) ?_
        refine g_w (kc' := (kc + 2)) (ks' := (ks + 11)) (by omega) (by omega) ?_
        refine g_iinc X 0 (nI (6 * j + 6)) [(4, .int (nI (6 * j + 6))), (0, .ref sb), (1, .ref gr), (2, .ref m6), (3, .ref ou)] 1273 dL_law_1270 rfl rfl (nI_incN _ _) (by decide) rfl ?_
        refine g_goto X 23 dL_law_1273 (by decide) ?_
        exact ih _ _ _ _ _ _ _ _ _ _ _ _ _ _ (inv_on hI)
      · refine g_tableOut X 1270 dL_law_40 (by decide +kernel) (by decide) ?_
        refine g_w (kc' := (kc + 2)) (ks' := (ks + 11)) (by omega) (by omega) ?_
        refine g_iinc X 0 (nI (6 * j + 6)) [(4, .int (nI (6 * j + 6))), (0, .ref sb), (1, .ref gr), (2, .ref m6), (3, .ref ou)] 1273 dL_law_1270 rfl rfl (nI_incN _ _) (by decide) rfl ?_
        refine g_goto X 23 dL_law_1273 (by decide) ?_
        exact ih _ _ _ _ _ _ _ _ _ _ _ _ _ _ (inv_on hI)
      · refine g_tableOut X 1270 dL_law_40 (by decide +kernel) (by decide) ?_
        refine g_w (kc' := (kc + 2)) (ks' := (ks + 11)) (by omega) (by omega) ?_
        refine g_iinc X 0 (nI (6 * j + 6)) [(4, .int (nI (6 * j + 6))), (0, .ref sb), (1, .ref gr), (2, .ref m6), (3, .ref ou)] 1273 dL_law_1270 rfl rfl (nI_incN _ _) (by decide) rfl ?_
        refine g_goto X 23 dL_law_1273 (by decide) ?_
        exact ih _ _ _ _ _ _ _ _ _ _ _ _ _ _ (inv_on hI)
      · refine g_tableOut X 1270 dL_law_40 (by decide +kernel) (by decide) ?_
        refine g_w (kc' := (kc + 2)) (ks' := (ks + 11)) (by omega) (by omega) ?_
        refine g_iinc X 0 (nI (6 * j + 6)) [(4, .int (nI (6 * j + 6))), (0, .ref sb), (1, .ref gr), (2, .ref m6), (3, .ref ou)] 1273 dL_law_1270 rfl rfl (nI_incN _ _) (by decide) rfl ?_
        refine g_goto X 23 dL_law_1273 (by decide) ?_
        exact ih _ _ _ _ _ _ _ _ _ _ _ _ _ _ (inv_on hI)
      · refine g_tableOut X 1270 dL_law_40 (by decide +kernel) (by decide) ?_
        refine g_w (kc' := (kc + 2)) (ks' := (ks + 11)) (by omega) (by omega) ?_
        refine g_iinc X 0 (nI (6 * j + 6)) [(4, .int (nI (6 * j + 6))), (0, .ref sb), (1, .ref gr), (2, .ref m6), (3, .ref ou)] 1273 dL_law_1270 rfl rfl (nI_incN _ _) (by decide) rfl ?_
        refine g_goto X 23 dL_law_1273 (by decide) ?_
        exact ih _ _ _ _ _ _ _ _ _ _ _ _ _ _ (inv_on hI)
      · refine g_tableOut X 1270 dL_law_40 (by decide +kernel) (by decide) ?_
        refine g_w (kc' := (kc + 2)) (ks' := (ks + 11)) (by omega) (by omega) ?_
        refine g_iinc X 0 (nI (6 * j + 6)) [(4, .int (nI (6 * j + 6))), (0, .ref sb), (1, .ref gr), (2, .ref m6), (3, .ref ou)] 1273 dL_law_1270 rfl rfl (nI_incN _ _) (by decide) rfl ?_
        refine g_goto X 23 dL_law_1273 (by decide) ?_
        exact ih _ _ _ _ _ _ _ _ _ _ _ _ _ _ (inv_on hI)
      · refine g_tableOut X 1270 dL_law_40 (by decide +kernel) (by decide) ?_
        refine g_w (kc' := (kc + 2)) (ks' := (ks + 11)) (by omega) (by omega) ?_
        refine g_iinc X 0 (nI (6 * j + 6)) [(4, .int (nI (6 * j + 6))), (0, .ref sb), (1, .ref gr), (2, .ref m6), (3, .ref ou)] 1273 dL_law_1270 rfl rfl (nI_incN _ _) (by decide) rfl ?_
        refine g_goto X 23 dL_law_1273 (by decide) ?_
        exact ih _ _ _ _ _ _ _ _ _ _ _ _ _ _ (inv_on hI)
