/-! NEW ARRAYS; THE REFERENCE'S WINDOWS -/
theorem va_u_int (U : State) (a b : ClassId) (h1 : va_RA U a .int) (h2 : va_RA U b .int) : a = b := Option.some.inj ((va_nm_int h1).symm.trans (va_nm_int h2))
theorem va_u_boolean (U : State) (a b : ClassId) (h1 : va_RA U a .boolean) (h2 : va_RA U b .boolean) : a = b := Option.some.inj ((va_nm_boolean h1).symm.trans (va_nm_boolean h2))
theorem va_u_long (U : State) (a b : ClassId) (h1 : va_RA U a .long) (h2 : va_RA U b .long) : a = b := Option.some.inj ((va_nm_long h1).symm.trans (va_nm_long h2))
section GNA
variable {p : Program} {l : Launch} {e : Env} {R : Room} {s : State} {m : MethodId} {args : Array Value} {below : List Frame} {meth : Method} {c : Code} {Q : State → Prop}
variable {D : va_G} {tys : List (ClassId × FieldType)} {A : Nat → Prop} {cc : ByteArray} {nL kc ks : Nat} {own : String} {Ts : List Cond}
variable {ws : va_W} {lv : List (Nat × Value)} {pc : Nat} {st : List Value}
theorem g_newa (X : gX p s m args c D tys A cc nL own Ts) {atype : ArrayType} {ty : FieldType} {cA : ClassId} {ws' : Nat → va_W} (t0 N' : Nat) (a0 : vp_A) (pc' : Nat) (hty : newarray.typeOf atype = ty) (ht : tys[t0]? = some (cA, ty)) (hu : ∀ (U : State) (a b : ClassId), va_RA U a ty → va_RA U b ty → a = b) (harr : Cond.arrayClass ty ∈ Ts) (ha : ∀ cA : ClassId, vp_cell cA a0 = arrV cA N' (fun _ => defaultValue ty)) (hN : N' < 2 ^ 31) (hbytes : N' * componentBytes ty ≤ 536870912) (hc : kc + 1 ≤ R.cells) (hs : ks + N' ≤ R.slots) (hd : decode cc pc = .ok (.newarray atype, 2)) (hn : pc + 2 = pc') (hw : ∀ q, ws ++ [(q, .inl (cA, a0))] = ws' q) (k : ∀ q, G p l e R s m args below meth c Q D A nL (kc + 1) (ks + N') (ws' q) lv pc' (.ref q :: st)) : G p l e R s m args below meth c Q D A nL kc ks ws lv pc (.int (nI N') :: st) := by
  subst hn
  intro H locs ls hP hD hS hl
  refine va_newa X.1 X.2.1 (by rw [hty]; exact X.hts _ harr) hty X.K hP hD hS X.hA ha (nI_pos hN) (nI_clamp hN) hbytes hc hs hd fun q cB H1 hK1 hP1 hD1 hS1 => ?_
  have e1 : cB = cA := hu s cB cA (hK1.2 tys.length (cB, ty) (by simp)).2 (X.K.2 t0 _ ht).2
  subst e1
  rw [hw q] at hP1 hD1
  exact k q H1 locs ls hP1 hD1 hS1 hl
theorem g_drop {ws' : va_W} (is : List Nat) (hn : va_nd is = true) (hs : is.map (fun i => ws[i]?) = ws'.map some) (k : G p l e R s m args below meth c Q D A nL kc ks ws' lv pc st) : G p l e R s m args below meth c Q D A nL kc ks ws lv pc st :=
  fun H locs ls hP hD hS hl => k H locs ls (hP.sub is (fm_map is ws' hs)) (hD.sub is hn hs) hS hl
end GNA
theorem its_cpy {T : Nat → Nat} {n x y w h o : Nat} (hn : n < 6) : va_cpy (upd (upd (upd (upd (upd (fun _ => 0) 0 (nI x)) 1 (nI y)) 2 (nI w)) 3 (nI h)) 4 (nI o)) (v30 T) 0 (5 * n) 5 = v30 (ptT T n x y w h o) := by
  funext k
  by_cases h1 : 5 * n ≤ k ∧ k < 5 * n + 5
  · simp only [va_cpy, if_pos h1]
    have hk : k < 30 := by omega
    rcases (show k = 5 * n ∨ k = 5 * n + 1 ∨ k = 5 * n + 2 ∨ k = 5 * n + 3 ∨ k = 5 * n + 4 by omega) with h2 | h2 | h2 | h2 | h2 <;> subst h2 <;> simp [upd, v30, ptT, up, hk]
  · simp only [va_cpy, if_neg h1, v30, ptT, up]
    simp (disch := omega) only [if_neg]

abbrev rm_X6_window : Room := { frames := 1, cells := 1, slots := 5, locals := 80 }
set_option maxHeartbeats 4000000 in
set_option maxRecDepth 100000 in
theorem m_X6_window (l : Launch) (D : va_G) (cI cZ cJ : ClassId) (m6 th nw nr nf q1 q2 q3 q4 q5 q6 : Nat) (x y w h o : Int32) (T : Nat → Nat) (hn : nw ≤ 6) : MI l yX6_window wsX6_window rm_X6_window D (gT cI cZ cJ) [(m6, .inr (6, [.int (nI th), .int (nI nw), .int (nI nr), .int (nI nf), .ref q1, .ref q2, .ref q3, .ref q4, .ref q5, .ref q6])), (q1, .inl (cI, 30, .inl (v30 T)))] [.ref m6, .int x, .int y, .int w, .int h, .int o] (fun r9 u9 => (winE nw x y w h o = 0 → r9 = nI nw ∧ u9 = [(m6, .inr (6, [.int (nI 0), .int (nI (nw + 1)), .int (nI nr), .int (nI nf), .ref q1, .ref q2, .ref q3, .ref q4, .ref q5, .ref q6])), (q1, .inl (cI, 30, .inl (v30 (ptT T nw (tn x) (tn y) (tn w) (tn h) (tn o)))))]) ∧ (¬ winE nw x y w h o = 0 → r9 = nI 0 ∧ u9 = [(m6, .inr (6, [.int (nI (winE nw x y w h o)), .int (nI nw), .int (nI nr), .int (nI nf), .ref q1, .ref q2, .ref q3, .ref q4, .ref q5, .ref q6])), (q1, .inl (cI, 30, .inl (v30 T)))])) := by
  refine MI_of [(0, .ref m6), (1, .int x), (2, .int y), (3, .int w), (4, .int h), (5, .int o)] (by decide) rfl (Nat.le_of_ble_eq_true rfl) rfl ?_
  intro p e s m args below meth c A Q X ret
  have hiX6 : ∀ w ∈ wsX60, w ∈ wsX6_window := (fun _ h => List.mem_cons_of_mem _ (List.mem_append_right _ h))
  refine g_aload_n X 0 1 dX6_window_0 rfl rfl rfl ?_
  refine g_iconst X (nI 0) 2 dX6_window_1 rfl (by decide +kernel) ?_
  refine g_put (ws' := [(m6, .inr (6, [.int (nI 0), .int (nI nw), .int (nI nr), .int (nI nf), .ref q1, .ref q2, .ref q3, .ref q4, .ref q5, .ref q6])), (q1, .inl (cI, 30, .inl (v30 T)))]) X hiX6 tyX6 tyX6_ok nmX6 0 0 5 rfl rfl (by decide) (List.mem_of_getElem? (i := 1) rfl) rfl (ty := .int) (by decide +kernel) rfl rfl (Nat.le_of_ble_eq_true rfl) dX6_window_2 rfl rfl ?_
  refine g_iload_n X 3 6 dX6_window_5 rfl rfl rfl ?_
  refine g_iconst X (nI 1) 7 dX6_window_6 rfl (by decide +kernel) ?_
  refine g_bipush X (nI 12) 9 dX6_window_7 rfl (by decide +kernel) ?_
  refine g_callSi (ws' := [(m6, .inr (6, [.int (nI 0), .int (nI nw), .int (nI nr), .int (nI nf), .ref q1, .ref q2, .ref q3, .ref q4, .ref q5, .ref q6])), (q1, .inl (cI, 30, .inl (v30 T)))]) X (m_X6_isIn l D cI cZ cJ w (nI 1) (nI 12)) 12 [] gX6_window_X6_isIn (n := 3) rfl (by decide +kernel) rfl ⟨Nat.le_of_ble_eq_true rfl, Nat.le_of_ble_eq_true rfl⟩ rfl (Nat.le_of_ble_eq_true rfl) rfl (by decide +kernel) rfl rfl dX6_window_9 rfl ⟨Nat.le_of_ble_eq_true rfl, Nat.le_of_ble_eq_true rfl⟩ ?_
  refine g_if_eq X 15 37 dX6_window_12 rfl (by decide) (bn_dec decide_eq_true_iff) (fun h12 => ?_) (fun h12 => ?_)
  · refine g_aload_n X 0 38 dX6_window_37 rfl rfl rfl ?_
    refine g_iconst X (nI 1) 39 dX6_window_38 rfl (by decide +kernel) ?_
    refine g_callVi (ws' := [(m6, .inr (6, [.int (nI 1), .int (nI nw), .int (nI nr), .int (nI nf), .ref q1, .ref q2, .ref q3, .ref q4, .ref q5, .ref q6])), (q1, .inl (cI, 30, .inl (v30 T)))]) X (m_X6_fail l D cI cZ cJ m6 0 nw nr nf q1 q2 q3 q4 q5 q6 1) 42 [0] gX6_window_X6_fail (n := 1) rfl (by decide +kernel) rfl ⟨Nat.le_of_ble_eq_true rfl, Nat.le_of_ble_eq_true rfl⟩ (ci := 6) (q0 := 0) rfl rfl rfl (Nat.le_of_ble_eq_true rfl) rfl (by decide +kernel) rfl rfl dX6_window_39 rfl ⟨Nat.le_of_ble_eq_true rfl, Nat.le_of_ble_eq_true rfl⟩ ?_
    have hE := (show winE nw x y w h o = 1 from if_pos (fun z => h12 z.1))
    refine g_w (kc' := rm_X6_window.cells) (ks' := rm_X6_window.slots) (by first | decide | omega) (by first | decide | omega) ?_
    exact ret _ _ _ _ dX6_window_42 rfl ⟨fun z => absurd (hE.symm.trans z) (by decide), fun _ => ⟨rfl, by rw [hE]⟩⟩
  · refine g_iload X 4 17 dX6_window_15 rfl rfl ?_
    refine g_iconst X (nI 1) 18 dX6_window_17 rfl (by decide +kernel) ?_
    refine g_bipush X (nI 8) 20 dX6_window_18 rfl (by decide +kernel) ?_
    refine g_callSi (ws' := [(m6, .inr (6, [.int (nI 0), .int (nI nw), .int (nI nr), .int (nI nf), .ref q1, .ref q2, .ref q3, .ref q4, .ref q5, .ref q6])), (q1, .inl (cI, 30, .inl (v30 T)))]) X (m_X6_isIn l D cI cZ cJ h (nI 1) (nI 8)) 23 [] gX6_window_X6_isIn (n := 3) rfl (by decide +kernel) rfl ⟨Nat.le_of_ble_eq_true rfl, Nat.le_of_ble_eq_true rfl⟩ rfl (Nat.le_of_ble_eq_true rfl) rfl (by decide +kernel) rfl rfl dX6_window_20 rfl ⟨Nat.le_of_ble_eq_true rfl, Nat.le_of_ble_eq_true rfl⟩ ?_
    refine g_if_eq X 26 37 dX6_window_23 rfl (by decide) (bn_dec decide_eq_true_iff) (fun h23 => ?_) (fun h23 => ?_)
    · refine g_aload_n X 0 38 dX6_window_37 rfl rfl rfl ?_
      refine g_iconst X (nI 1) 39 dX6_window_38 rfl (by decide +kernel) ?_
      refine g_callVi (ws' := [(m6, .inr (6, [.int (nI 1), .int (nI nw), .int (nI nr), .int (nI nf), .ref q1, .ref q2, .ref q3, .ref q4, .ref q5, .ref q6])), (q1, .inl (cI, 30, .inl (v30 T)))]) X (m_X6_fail l D cI cZ cJ m6 0 nw nr nf q1 q2 q3 q4 q5 q6 1) 42 [0] gX6_window_X6_fail (n := 1) rfl (by decide +kernel) rfl ⟨Nat.le_of_ble_eq_true rfl, Nat.le_of_ble_eq_true rfl⟩ (ci := 6) (q0 := 0) rfl rfl rfl (Nat.le_of_ble_eq_true rfl) rfl (by decide +kernel) rfl rfl dX6_window_39 rfl ⟨Nat.le_of_ble_eq_true rfl, Nat.le_of_ble_eq_true rfl⟩ ?_
      have hE := (show winE nw x y w h o = 1 from if_pos (fun z => h23 z.2.1))
      refine g_w (kc' := rm_X6_window.cells) (ks' := rm_X6_window.slots) (by first | decide | omega) (by first | decide | omega) ?_
      exact ret _ _ _ _ dX6_window_42 rfl ⟨fun z => absurd (hE.symm.trans z) (by decide), fun _ => ⟨rfl, by rw [hE]⟩⟩
    · refine g_iload X 5 28 dX6_window_26 rfl rfl ?_
      refine g_iconst X (nI 1) 29 dX6_window_28 rfl (by decide +kernel) ?_
      refine g_bipush X (nI 9) 31 dX6_window_29 rfl (by decide +kernel) ?_
      refine g_callSi (ws' := [(m6, .inr (6, [.int (nI 0), .int (nI nw), .int (nI nr), .int (nI nf), .ref q1, .ref q2, .ref q3, .ref q4, .ref q5, .ref q6])), (q1, .inl (cI, 30, .inl (v30 T)))]) X (m_X6_isIn l D cI cZ cJ o (nI 1) (nI 9)) 34 [] gX6_window_X6_isIn (n := 3) rfl (by decide +kernel) rfl ⟨Nat.le_of_ble_eq_true rfl, Nat.le_of_ble_eq_true rfl⟩ rfl (Nat.le_of_ble_eq_true rfl) rfl (by decide +kernel) rfl rfl dX6_window_31 rfl ⟨Nat.le_of_ble_eq_true rfl, Nat.le_of_ble_eq_true rfl⟩ ?_
      refine g_if_ne X 37 43 dX6_window_34 rfl (by decide) (bn_dec decide_eq_true_iff) (fun h34 => ?_) (fun h34 => ?_)
      · have hA : inR w (nI 1) (nI 12) ∧ inR h (nI 1) (nI 8) ∧ inR o (nI 1) (nI 9) := ⟨Classical.not_not.mp h12, Classical.not_not.mp h23, Classical.not_not.mp h34⟩
        refine g_iload_n X 1 44 dX6_window_43 rfl rfl rfl ?_
        refine g_iconst X (nI 0) 45 dX6_window_44 rfl (by decide +kernel) ?_
        refine g_bipush X (nI 12) 47 dX6_window_45 rfl (by decide +kernel) ?_
        refine g_iload_n X 3 48 dX6_window_47 rfl rfl rfl ?_
        refine g_isub X ((nI 12) - w) 49 dX6_window_48 rfl rfl ?_
        refine g_callSi (ws' := [(m6, .inr (6, [.int (nI 0), .int (nI nw), .int (nI nr), .int (nI nf), .ref q1, .ref q2, .ref q3, .ref q4, .ref q5, .ref q6])), (q1, .inl (cI, 30, .inl (v30 T)))]) X (m_X6_isIn l D cI cZ cJ x (nI 0) (nI 12 - w)) 52 [] gX6_window_X6_isIn (n := 3) rfl (by decide +kernel) rfl ⟨Nat.le_of_ble_eq_true rfl, Nat.le_of_ble_eq_true rfl⟩ rfl (Nat.le_of_ble_eq_true rfl) rfl (by decide +kernel) rfl rfl dX6_window_49 rfl ⟨Nat.le_of_ble_eq_true rfl, Nat.le_of_ble_eq_true rfl⟩ ?_
        refine g_if_eq X 55 68 dX6_window_52 rfl (by decide) (bn_dec decide_eq_true_iff) (fun h52 => ?_) (fun h52 => ?_)
        · refine g_aload_n X 0 69 dX6_window_68 rfl rfl rfl ?_
          refine g_iconst X (nI 2) 70 dX6_window_69 rfl (by decide +kernel) ?_
          refine g_callVi (ws' := [(m6, .inr (6, [.int (nI 2), .int (nI nw), .int (nI nr), .int (nI nf), .ref q1, .ref q2, .ref q3, .ref q4, .ref q5, .ref q6])), (q1, .inl (cI, 30, .inl (v30 T)))]) X (m_X6_fail l D cI cZ cJ m6 0 nw nr nf q1 q2 q3 q4 q5 q6 2) 73 [0] gX6_window_X6_fail (n := 1) rfl (by decide +kernel) rfl ⟨Nat.le_of_ble_eq_true rfl, Nat.le_of_ble_eq_true rfl⟩ (ci := 6) (q0 := 0) rfl rfl rfl (Nat.le_of_ble_eq_true rfl) rfl (by decide +kernel) rfl rfl dX6_window_70 rfl ⟨Nat.le_of_ble_eq_true rfl, Nat.le_of_ble_eq_true rfl⟩ ?_
          have hE := (show winE nw x y w h o = 2 from (if_neg (fun z => z hA)).trans (if_pos (fun z => h52 z.1)))
          refine g_w (kc' := rm_X6_window.cells) (ks' := rm_X6_window.slots) (by first | decide | omega) (by first | decide | omega) ?_
          exact ret _ _ _ _ dX6_window_73 rfl ⟨fun z => absurd (hE.symm.trans z) (by decide), fun _ => ⟨rfl, by rw [hE]⟩⟩
        · refine g_iload_n X 2 56 dX6_window_55 rfl rfl rfl ?_
          refine g_iconst X (nI 0) 57 dX6_window_56 rfl (by decide +kernel) ?_
          refine g_bipush X (nI 8) 59 dX6_window_57 rfl (by decide +kernel) ?_
          refine g_iload X 4 61 dX6_window_59 rfl rfl ?_
          refine g_isub X ((nI 8) - h) 62 dX6_window_61 rfl rfl ?_
          refine g_callSi (ws' := [(m6, .inr (6, [.int (nI 0), .int (nI nw), .int (nI nr), .int (nI nf), .ref q1, .ref q2, .ref q3, .ref q4, .ref q5, .ref q6])), (q1, .inl (cI, 30, .inl (v30 T)))]) X (m_X6_isIn l D cI cZ cJ y (nI 0) (nI 8 - h)) 65 [] gX6_window_X6_isIn (n := 3) rfl (by decide +kernel) rfl ⟨Nat.le_of_ble_eq_true rfl, Nat.le_of_ble_eq_true rfl⟩ rfl (Nat.le_of_ble_eq_true rfl) rfl (by decide +kernel) rfl rfl dX6_window_62 rfl ⟨Nat.le_of_ble_eq_true rfl, Nat.le_of_ble_eq_true rfl⟩ ?_
          refine g_if_ne X 68 74 dX6_window_65 rfl (by decide) (bn_dec decide_eq_true_iff) (fun h65 => ?_) (fun h65 => ?_)
          · have hB : inR x (nI 0) (nI 12 - w) ∧ inR y (nI 0) (nI 8 - h) := ⟨Classical.not_not.mp h52, Classical.not_not.mp h65⟩
            refine g_aload_n X 0 75 dX6_window_74 rfl rfl rfl ?_
            refine g_get X hiX6 0 1 78 rfl rfl (by decide) (List.mem_of_getElem? (i := 2) rfl) rfl dX6_window_75 rfl ?_
            refine g_bipush X (nI 6) 80 dX6_window_78 rfl (by decide +kernel) ?_
            refine g_icmp_ne X 83 89 dX6_window_80 rfl (by decide) (nI_eq (by omega) (by omega)) (fun h80 => ?_) (fun h80 => ?_)
            · have hE : winE nw x y w h o = 0 := (if_neg (fun z => z hA)).trans ((if_neg (fun z => z hB)).trans (if_neg h80))
              obtain ⟨iw, hw1, hw2, rfl⟩ := inR_nat hA.1 (by decide) (by decide)
              obtain ⟨ih, hh1, hh2, rfl⟩ := inR_nat hA.2.1 (by decide) (by decide)
              obtain ⟨io, ho1, ho2, rfl⟩ := inR_nat hA.2.2 (by decide) (by decide)
              rw [pk_sub (show iw ≤ 12 by omega), pk_sub (show ih ≤ 8 by omega)] at hB
              obtain ⟨ix, hx1, hx2, rfl⟩ := inR_nat hB.1 (by omega) (by decide)
              obtain ⟨iy, hy1, hy2, rfl⟩ := inR_nat hB.2 (by omega) (by decide)
              rw [tn_nI (show iw < 2 ^ 31 by omega), tn_nI (show ih < 2 ^ 31 by omega), tn_nI (show io < 2 ^ 31 by omega), tn_nI (show ix < 2 ^ 31 by omega), tn_nI (show iy < 2 ^ 31 by omega)] at ret
              refine g_iconst X (nI 5) 90 dX6_window_89 rfl (by decide +kernel) ?_
              refine g_newa (ty := .int) (ws' := fun qa => [(m6, .inr (6, [.int (nI 0), .int (nI nw), .int (nI nr), .int (nI nf), .ref q1, .ref q2, .ref q3, .ref q4, .ref q5, .ref q6])), (q1, .inl (cI, 30, .inl (v30 T))), (qa, .inl (cI, 5, .inl (fun _ => 0)))]) X 0 5 (5, .inl (fun _ => 0)) 92 rfl rfl va_u_int (List.mem_of_getElem? (i := 3) rfl) (fun _ => rfl) (by decide) (by decide) (Nat.le_of_ble_eq_true rfl) (Nat.le_of_ble_eq_true rfl) dX6_window_90 rfl (fun _ => rfl) (fun qa => ?_)
              refine g_dup X 93 dX6_window_92 rfl rfl ?_
              refine g_iconst X (nI 0) 94 dX6_window_93 rfl (by decide +kernel) ?_
              refine g_iload_n X 1 95 dX6_window_94 rfl rfl rfl ?_
              refine g_iast (ws' := [(m6, .inr (6, [.int (nI 0), .int (nI nw), .int (nI nr), .int (nI nf), .ref q1, .ref q2, .ref q3, .ref q4, .ref q5, .ref q6])), (q1, .inl (cI, 30, .inl (v30 T))), (qa, .inl (cI, 5, .inl (upd (fun _ => 0) 0 (nI ix))))]) X 2 0 (0) (upd (fun _ => 0) 0 (nI ix)) 96 rfl rfl (by omega) (by decide) rfl dX6_window_95 rfl rfl ?_
              refine g_dup X 97 dX6_window_96 rfl rfl ?_
              refine g_iconst X (nI 1) 98 dX6_window_97 rfl (by decide +kernel) ?_
              refine g_iload_n X 2 99 dX6_window_98 rfl rfl rfl ?_
              refine g_iast (ws' := [(m6, .inr (6, [.int (nI 0), .int (nI nw), .int (nI nr), .int (nI nf), .ref q1, .ref q2, .ref q3, .ref q4, .ref q5, .ref q6])), (q1, .inl (cI, 30, .inl (v30 T))), (qa, .inl (cI, 5, .inl (upd (upd (fun _ => 0) 0 (nI ix)) 1 (nI iy))))]) X 2 0 (1) (upd (upd (fun _ => 0) 0 (nI ix)) 1 (nI iy)) 100 rfl rfl (by omega) (by decide) rfl dX6_window_99 rfl rfl ?_
              refine g_dup X 101 dX6_window_100 rfl rfl ?_
              refine g_iconst X (nI 2) 102 dX6_window_101 rfl (by decide +kernel) ?_
              refine g_iload_n X 3 103 dX6_window_102 rfl rfl rfl ?_
              refine g_iast (ws' := [(m6, .inr (6, [.int (nI 0), .int (nI nw), .int (nI nr), .int (nI nf), .ref q1, .ref q2, .ref q3, .ref q4, .ref q5, .ref q6])), (q1, .inl (cI, 30, .inl (v30 T))), (qa, .inl (cI, 5, .inl (upd (upd (upd (fun _ => 0) 0 (nI ix)) 1 (nI iy)) 2 (nI iw))))]) X 2 0 (2) (upd (upd (upd (fun _ => 0) 0 (nI ix)) 1 (nI iy)) 2 (nI iw)) 104 rfl rfl (by omega) (by decide) rfl dX6_window_103 rfl rfl ?_
              refine g_dup X 105 dX6_window_104 rfl rfl ?_
              refine g_iconst X (nI 3) 106 dX6_window_105 rfl (by decide +kernel) ?_
              refine g_iload X 4 108 dX6_window_106 rfl rfl ?_
              refine g_iast (ws' := [(m6, .inr (6, [.int (nI 0), .int (nI nw), .int (nI nr), .int (nI nf), .ref q1, .ref q2, .ref q3, .ref q4, .ref q5, .ref q6])), (q1, .inl (cI, 30, .inl (v30 T))), (qa, .inl (cI, 5, .inl (upd (upd (upd (upd (fun _ => 0) 0 (nI ix)) 1 (nI iy)) 2 (nI iw)) 3 (nI ih))))]) X 2 0 (3) (upd (upd (upd (upd (fun _ => 0) 0 (nI ix)) 1 (nI iy)) 2 (nI iw)) 3 (nI ih)) 109 rfl rfl (by omega) (by decide) rfl dX6_window_108 rfl rfl ?_
              refine g_dup X 110 dX6_window_109 rfl rfl ?_
              refine g_iconst X (nI 4) 111 dX6_window_110 rfl (by decide +kernel) ?_
              refine g_iload X 5 113 dX6_window_111 rfl rfl ?_
              refine g_iast (ws' := [(m6, .inr (6, [.int (nI 0), .int (nI nw), .int (nI nr), .int (nI nf), .ref q1, .ref q2, .ref q3, .ref q4, .ref q5, .ref q6])), (q1, .inl (cI, 30, .inl (v30 T))), (qa, .inl (cI, 5, .inl (upd (upd (upd (upd (upd (fun _ => 0) 0 (nI ix)) 1 (nI iy)) 2 (nI iw)) 3 (nI ih)) 4 (nI io))))]) X 2 0 (4) (upd (upd (upd (upd (upd (fun _ => 0) 0 (nI ix)) 1 (nI iy)) 2 (nI iw)) 3 (nI ih)) 4 (nI io)) 114 rfl rfl (by omega) (by decide) rfl dX6_window_113 rfl rfl ?_
              refine g_astore X [(6, .ref qa), (0, .ref m6), (1, .int (nI ix)), (2, .int (nI iy)), (3, .int (nI iw)), (4, .int (nI ih)), (5, .int (nI io))] 116 dX6_window_114 rfl (by decide) rfl ?_
              refine g_aload X 0 118 dX6_window_116 rfl rfl ?_
              refine g_iconst X (nI 0) 119 dX6_window_118 rfl (by decide +kernel) ?_
              refine g_aload_n X 1 120 dX6_window_119 rfl rfl rfl ?_
              refine g_get X hiX6 0 4 123 rfl rfl (by decide) (List.mem_of_getElem? (i := 4) rfl) rfl dX6_window_120 rfl ?_
              refine g_iconst X (nI 5) 124 dX6_window_123 rfl (by decide +kernel) ?_
              refine g_aload_n X 1 125 dX6_window_124 rfl rfl rfl ?_
              refine g_get X hiX6 0 1 128 rfl rfl (by decide) (List.mem_of_getElem? (i := 2) rfl) rfl dX6_window_125 rfl ?_
              refine g_imul X (nI (5 * nw)) 129 dX6_window_128 rfl (pk_mul _ _) ?_
              refine g_iconst X (nI 5) 130 dX6_window_129 rfl (by decide +kernel) ?_
              refine g_copy (ws' := [(m6, .inr (6, [.int (nI 0), .int (nI nw), .int (nI nr), .int (nI nf), .ref q1, .ref q2, .ref q3, .ref q4, .ref q5, .ref q6])), (q1, .inl (cI, 30, .inl (v30 (ptT T nw ix iy iw ih io)))), (qa, .inl (cI, 5, .inl (upd (upd (upd (upd (upd (fun _ => 0) 0 (nI ix)) 1 (nI iy)) 2 (nI iw)) 3 (nI ih)) 4 (nI io))))]) X 2 1 (0) (5 * nw) (5) (v30 (ptT T nw ix iy iw ih io)) 133 (List.mem_of_getElem? (i := 5) rfl) (List.mem_of_getElem? (i := 6) rfl) (List.mem_of_getElem? (i := 7) rfl) (List.mem_of_getElem? (i := 8) rfl) rfl rfl rfl (by omega) (by omega) (by decide) (by decide) (Nat.le_of_ble_eq_true rfl) (Nat.le_of_ble_eq_true rfl) (its_cpy (by omega)) dX6_window_130 rfl rfl ?_
              refine g_aload_n X 1 134 dX6_window_133 rfl rfl rfl ?_
              refine g_dup X 135 dX6_window_134 rfl rfl ?_
              refine g_get X hiX6 0 1 138 rfl rfl (by decide) (List.mem_of_getElem? (i := 2) rfl) rfl dX6_window_135 rfl ?_
              refine g_iconst X (nI 1) 139 dX6_window_138 rfl (by decide +kernel) ?_
              refine g_iadd X (nI (nw + 1)) 140 dX6_window_139 rfl (nI_add _ _) ?_
              refine g_put (ws' := [(m6, .inr (6, [.int (nI 0), .int (nI (nw + 1)), .int (nI nr), .int (nI nf), .ref q1, .ref q2, .ref q3, .ref q4, .ref q5, .ref q6])), (q1, .inl (cI, 30, .inl (v30 (ptT T nw ix iy iw ih io)))), (qa, .inl (cI, 5, .inl (upd (upd (upd (upd (upd (fun _ => 0) 0 (nI ix)) 1 (nI iy)) 2 (nI iw)) 3 (nI ih)) 4 (nI io))))]) X hiX6 tyX6 tyX6_ok nmX6 0 1 143 rfl rfl (by decide) (List.mem_of_getElem? (i := 2) rfl) rfl (ty := .int) (by decide +kernel) rfl rfl (Nat.le_of_ble_eq_true rfl) dX6_window_140 rfl rfl ?_
              refine g_aload_n X 1 144 dX6_window_143 rfl rfl rfl ?_
              refine g_get X hiX6 0 1 147 rfl rfl (by decide) (List.mem_of_getElem? (i := 2) rfl) rfl dX6_window_144 rfl ?_
              refine g_iconst X (nI 1) 148 dX6_window_147 rfl (by decide +kernel) ?_
              refine g_isub X (nI ((nw + 1) - 1)) 149 dX6_window_148 rfl (pk_sub (by omega)) ?_
              refine g_eqi (y := nI nw) (congrArg nI (by omega)) ?_
              refine g_drop (ws' := [(m6, .inr (6, [.int (nI 0), .int (nI (nw + 1)), .int (nI nr), .int (nI nf), .ref q1, .ref q2, .ref q3, .ref q4, .ref q5, .ref q6])), (q1, .inl (cI, 30, .inl (v30 (ptT T nw ix iy iw ih io))))]) [0, 1] (by decide) rfl ?_
              refine g_w (kc' := rm_X6_window.cells) (ks' := rm_X6_window.slots) (by first | decide | omega) (by first | decide | omega) ?_
              exact ret _ _ _ _ dX6_window_149 rfl ⟨fun _ => ⟨rfl, rfl⟩, fun z => absurd hE z⟩
            · refine g_aload_n X 0 84 dX6_window_83 rfl rfl rfl ?_
              refine g_iconst X (nI 3) 85 dX6_window_84 rfl (by decide +kernel) ?_
              refine g_callVi (ws' := [(m6, .inr (6, [.int (nI 3), .int (nI nw), .int (nI nr), .int (nI nf), .ref q1, .ref q2, .ref q3, .ref q4, .ref q5, .ref q6])), (q1, .inl (cI, 30, .inl (v30 T)))]) X (m_X6_fail l D cI cZ cJ m6 0 nw nr nf q1 q2 q3 q4 q5 q6 3) 88 [0] gX6_window_X6_fail (n := 1) rfl (by decide +kernel) rfl ⟨Nat.le_of_ble_eq_true rfl, Nat.le_of_ble_eq_true rfl⟩ (ci := 6) (q0 := 0) rfl rfl rfl (Nat.le_of_ble_eq_true rfl) rfl (by decide +kernel) rfl rfl dX6_window_85 rfl ⟨Nat.le_of_ble_eq_true rfl, Nat.le_of_ble_eq_true rfl⟩ ?_
              have hE := (show winE nw x y w h o = 3 from (if_neg (fun z => z hA)).trans ((if_neg (fun z => z hB)).trans (if_pos h80)))
              refine g_w (kc' := rm_X6_window.cells) (ks' := rm_X6_window.slots) (by first | decide | omega) (by first | decide | omega) ?_
              exact ret _ _ _ _ dX6_window_88 rfl ⟨fun z => absurd (hE.symm.trans z) (by decide), fun _ => ⟨rfl, by rw [hE]⟩⟩
          · refine g_aload_n X 0 69 dX6_window_68 rfl rfl rfl ?_
            refine g_iconst X (nI 2) 70 dX6_window_69 rfl (by decide +kernel) ?_
            refine g_callVi (ws' := [(m6, .inr (6, [.int (nI 2), .int (nI nw), .int (nI nr), .int (nI nf), .ref q1, .ref q2, .ref q3, .ref q4, .ref q5, .ref q6])), (q1, .inl (cI, 30, .inl (v30 T)))]) X (m_X6_fail l D cI cZ cJ m6 0 nw nr nf q1 q2 q3 q4 q5 q6 2) 73 [0] gX6_window_X6_fail (n := 1) rfl (by decide +kernel) rfl ⟨Nat.le_of_ble_eq_true rfl, Nat.le_of_ble_eq_true rfl⟩ (ci := 6) (q0 := 0) rfl rfl rfl (Nat.le_of_ble_eq_true rfl) rfl (by decide +kernel) rfl rfl dX6_window_70 rfl ⟨Nat.le_of_ble_eq_true rfl, Nat.le_of_ble_eq_true rfl⟩ ?_
            have hE := (show winE nw x y w h o = 2 from (if_neg (fun z => z hA)).trans (if_pos (fun z => h65 z.2)))
            refine g_w (kc' := rm_X6_window.cells) (ks' := rm_X6_window.slots) (by first | decide | omega) (by first | decide | omega) ?_
            exact ret _ _ _ _ dX6_window_73 rfl ⟨fun z => absurd (hE.symm.trans z) (by decide), fun _ => ⟨rfl, by rw [hE]⟩⟩
      · refine g_aload_n X 0 38 dX6_window_37 rfl rfl rfl ?_
        refine g_iconst X (nI 1) 39 dX6_window_38 rfl (by decide +kernel) ?_
        refine g_callVi (ws' := [(m6, .inr (6, [.int (nI 1), .int (nI nw), .int (nI nr), .int (nI nf), .ref q1, .ref q2, .ref q3, .ref q4, .ref q5, .ref q6])), (q1, .inl (cI, 30, .inl (v30 T)))]) X (m_X6_fail l D cI cZ cJ m6 0 nw nr nf q1 q2 q3 q4 q5 q6 1) 42 [0] gX6_window_X6_fail (n := 1) rfl (by decide +kernel) rfl ⟨Nat.le_of_ble_eq_true rfl, Nat.le_of_ble_eq_true rfl⟩ (ci := 6) (q0 := 0) rfl rfl rfl (Nat.le_of_ble_eq_true rfl) rfl (by decide +kernel) rfl rfl dX6_window_39 rfl ⟨Nat.le_of_ble_eq_true rfl, Nat.le_of_ble_eq_true rfl⟩ ?_
        have hE := (show winE nw x y w h o = 1 from if_pos (fun z => h34 z.2.2))
        refine g_w (kc' := rm_X6_window.cells) (ks' := rm_X6_window.slots) (by first | decide | omega) (by first | decide | omega) ?_
        exact ret _ _ _ _ dX6_window_42 rfl ⟨fun z => absurd (hE.symm.trans z) (by decide), fun _ => ⟨rfl, by rw [hE]⟩⟩
