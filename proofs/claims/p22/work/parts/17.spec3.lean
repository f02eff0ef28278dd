/-! MORE OF THE CLASS'S WORDS: what looks ahead tell; the checksum; views behind writes -/
section GL4
variable {p : Program} {l : Launch} {e : Env} {R : Room} {s : State} {m : MethodId} {args : Array Value} {below : List Frame} {meth : Method} {c : Code} {Q : State → Prop}
variable {D : va_G} {tys : List (ClassId × FieldType)} {A : Nat → Prop} {cc : ByteArray} {nL kc ks : Nat} {own : String} {Ts : List Cond}
variable {ws ws' : va_W} {lv lv' : List (Nat × Value)} {pc pc' tgt : Nat} {st : List Value}
theorem g_ldc2d (X : gX p s m args c D tys A cc nL own Ts) {index : Nat} (v : UInt64) (pc' : Nat) (hm : Cond.constantDouble own index v ∈ Ts) (hd : decode cc pc = .ok (.ldc2_w index, 3)) (hn : pc + 3 = pc') (k : G p l e R s m args below meth c Q D A nL kc ks ws lv pc' (.double v :: st)) : G p l e R s m args below meth c Q D A nL kc ks ws lv pc st := by
  subst hn
  exact fun H locs ls hP hD hS hl => lv_ldc2d X.1 X.2.1 X.2.2.2.1 (X.hts _ hm) hd (k H locs ls hP hD hS hl)
theorem g_ddiv (X : gX p s m args c D tys A cc nL own Ts) {x y : UInt64} (pc' : Nat) (hd : decode cc pc = .ok (.ddiv, 1)) (hn : pc + 1 = pc') (hne : vf_n64 (FP.ddiv x y)) (k : G p l e R s m args below meth c Q D A nL kc ks ws lv pc' (.double (FP.ddiv x y) :: st)) : G p l e R s m args below meth c Q D A nL kc ks ws lv pc (.double y :: .double x :: st) := by
  subst hn
  exact fun H locs ls hP hD hS hl => lv_ddiv X.1 X.2.1 hd hne (k H locs ls hP hD hS hl)
theorem g_lookup (X : gX p s m args c D tys A cc nL own Ts) {dflt : Int} {ps : Array (Int × Int)} {len : Nat} {x : Int32} {off : Int} (tgt : Nat) (hd : decode cc pc = .ok (.lookupswitch dflt ps, len)) (hp : (ps.toList.zip (ps.toList.drop 1)).all (fun (a, next) => a.1 < next.1) = true) (ho : Op.lookupswitch.offset ps.toList dflt x.toInt = off) (ht : (pc : Int) + off = (tgt : Int)) (k : G p l e R s m args below meth c Q D A nL kc ks ws lv tgt st) : G p l e R s m args below meth c Q D A nL kc ks ws lv pc (.int x :: st) :=
  fun H locs ls hP hD hS hl => lv_lookup X.1 X.2.1 hd hp ho ht (k H locs ls hP hD hS hl)
end GL4
theorem ptR_lo {S : Nat → Nat} {n x wy k : Nat} (h : k < 100) : ptR S n x wy k = S k := by
  unfold ptR
  rw [up_n (by omega), up_n (by omega)]
theorem wpU_lo {S T : Nat → Nat} {w i j k : Nat} (h : k < 4) : wpU T w i j S k = S k := by
  unfold wpU
  rw [if_neg]
  omega
theorem vw_tu {S : Nat → Nat} {n r v : Nat} (hr : r < n) (hv : v = S (100 + 5 * r + 2)) (h1 : S (100 + 5 * r + 2) ≤ 1) : upd (vw n S) r (vp_nar .boolean (nI v)) = vw n (up S (100 + 5 * r + 2) (1 - S (100 + 5 * r + 2))) := by
  have hb : vp_nar .boolean (nI v) = nI v := by
    rcases (show v = 0 ∨ v = 1 by omega) with h | h <;> rw [h] <;> rfl
  rw [hb]
  funext k
  by_cases hk : k = r
  · subst hk
    simp only [upd, if_pos, vw, if_pos hr, up]
    congr 1
    omega
  · have h4 : ¬ 5 * k = 5 * r := by omega
    simp [upd, vw, up, hk, h4]
/-- would() -/
def wouV (S : Nat → Nat) (n wh : Nat) : Nat := if wh = 0 then allS S else if wh = 1 then S 2 else cldS S n
/-- until(): the day at which it is clean, or 61 -/
def utR (T st fe fo : Nat → Nat) (nw nr nf : Nat) (S : Nat → Nat) (w : Nat) : Nat → Nat → Nat
  | 0, k => k
  | m + 1, k => if addW (daysS T st fe fo nw nr nf S k) T w ≤ pnW T w then k else utR T st fe fo nw nr nf S w m (k + 1)
def utK (T st fe fo : Nat → Nat) (nw nr nf : Nat) (S : Nat → Nat) (w : Nat) : Nat := utR T st fe fo nw nr nf S w 61 0
theorem utR_t {T st fe fo S : Nat → Nat} {nw nr nf w m k : Nat} (h : addW (daysS T st fe fo nw nr nf S k) T w ≤ pnW T w) : utR T st fe fo nw nr nf S w (m + 1) k = k := if_pos h
theorem utR_f {T st fe fo S : Nat → Nat} {nw nr nf w m k : Nat} (h : ¬ addW (daysS T st fe fo nw nr nf S k) T w ≤ pnW T w) : utR T st fe fo nw nr nf S w (m + 1) k = utR T st fe fo nw nr nf S w m (k + 1) := if_neg h
def utV (k : Nat) : Int32 := if k ≤ 60 then nI k else nIm 1
/-- advise(): what comes in if the rope hangs at c -/
def atC (S : Nat → Nat) (r c : Nat) : Nat → Nat := if c = S (100 + 5 * r) then S else reh S r c
def cvC (T st fe fo : Nat → Nat) (nw nr nf : Nat) (S : Nat → Nat) (r d c : Nat) : Nat := daysS T st fe fo nw nr nf (atC S r c) d 2
def acl (T st fe fo : Nat → Nat) (nw nr nf : Nat) (S : Nat → Nat) (r d : Nat) : Nat → Nat × Nat
  | 0 => (S (100 + 5 * r), cvC T st fe fo nw nr nf S r d (S (100 + 5 * r)))
  | j + 1 => if hung S nr j = true then acl T st fe fo nw nr nf S r d j else if (acl T st fe fo nw nr nf S r d j).2 < cvC T st fe fo nw nr nf S r d j ∨ (cvC T st fe fo nw nr nf S r d j = (acl T st fe fo nw nr nf S r d j).2 ∧ j < (acl T st fe fo nw nr nf S r d j).1) then (j, cvC T st fe fo nw nr nf S r d j) else acl T st fe fo nw nr nf S r d j
theorem atC_gd {S : Nat → Nat} {n r c : Nat} (h : Gd S n) (hc : c < 12) : Gd (atC S r c) n := by
  unfold atC
  split
  · exact h
  · exact ⟨reh_gw h.1 hc, by rw [reh_lo (by decide)]; exact h.2⟩
theorem atC_lo {S : Nat → Nat} {r c k : Nat} (hk : k < 100) : atC S r c k = S k := by
  unfold atC
  split
  · rfl
  · exact reh_lo hk
theorem dayS_2 {T st fe fo S : Nat → Nat} {nw nr nf : Nat} (h : Gw S nr) (hs : stOk T st fe fo nw nr nf) : dayS T st fe fo nw nr nf S 2 ≤ S 2 + 5184 := by
  unfold dayS
  split
  · unfold dyF
    rw [up_n (by decide), up_n (by decide), up_s, gt_2]
    have h1 : allB (gt S) T nw ≤ nw * 864 := sm_le nw (fun k hk => brW_le (hs.2.1 k hk))
    have := hs.1
    omega
  · rw [dyW_k h (by decide) (by decide)]
    omega
theorem daysS_2 {T st fe fo S : Nat → Nat} {nw nr nf : Nat} (h : Gd S nr) (hs : stOk T st fe fo nw nr nf) : ∀ k : Nat, daysS T st fe fo nw nr nf S k 2 ≤ S 2 + 5184 * k
  | 0 => Nat.le_refl _
  | k + 1 => by
    have h1 := dayS_2 (S := daysS T st fe fo nw nr nf S k) (daysS_gd h k).1 hs
    have h2 := daysS_2 h hs k
    have h3 : 5184 * (k + 1) = 5184 * k + 5184 := Nat.mul_succ 5184 k
    refine Nat.le_trans h1 ?_
    rw [h3, ← Nat.add_assoc]
    exact Nat.add_le_add_right h2 _
theorem cvC_le {T st fe fo S : Nat → Nat} {nw nr nf r d c : Nat} (h : Gd S nr) (hs : stOk T st fe fo nw nr nf) (hc : c < 12) : cvC T st fe fo nw nr nf S r d c ≤ S 2 + 5184 * d := by
  have := daysS_2 (atC_gd (r := r) h hc) hs d
  rw [atC_lo (by decide)] at this
  exact this
theorem acl_le {T st fe fo S : Nat → Nat} {nw nr nf r d : Nat} (h : Gd S nr) (hs : stOk T st fe fo nw nr nf) (ho : S (100 + 5 * r) < 12) : ∀ j : Nat, j ≤ 12 → (acl T st fe fo nw nr nf S r d j).1 < 12 ∧ (acl T st fe fo nw nr nf S r d j).2 ≤ S 2 + 5184 * d
  | 0, _ => ⟨ho, cvC_le h hs ho⟩
  | j + 1, hj => by
    have h1 := acl_le (d := d) h hs ho j (by omega)
    unfold acl
    split
    · exact h1
    · split
      · exact ⟨by show j < 12; omega, cvC_le h hs (by omega)⟩
      · exact h1
theorem acl_h {T st fe fo S : Nat → Nat} {nw nr nf r d j : Nat} (h : hung S nr j = true) : acl T st fe fo nw nr nf S r d (j + 1) = acl T st fe fo nw nr nf S r d j := if_pos h
theorem acl_b {T st fe fo S : Nat → Nat} {nw nr nf r d j : Nat} (h : hung S nr j = false) (hb : (acl T st fe fo nw nr nf S r d j).2 < cvC T st fe fo nw nr nf S r d j ∨ (cvC T st fe fo nw nr nf S r d j = (acl T st fe fo nw nr nf S r d j).2 ∧ j < (acl T st fe fo nw nr nf S r d j).1)) : acl T st fe fo nw nr nf S r d (j + 1) = (j, cvC T st fe fo nw nr nf S r d j) := (if_neg (by rw [h]; decide)).trans (if_pos hb)
theorem acl_n {T st fe fo S : Nat → Nat} {nw nr nf r d j : Nat} (h : hung S nr j = false) (hb : ¬ ((acl T st fe fo nw nr nf S r d j).2 < cvC T st fe fo nw nr nf S r d j ∨ (cvC T st fe fo nw nr nf S r d j = (acl T st fe fo nw nr nf S r d j).2 ∧ j < (acl T st fe fo nw nr nf S r d j).1))) : acl T st fe fo nw nr nf S r d (j + 1) = acl T st fe fo nw nr nf S r d j := (if_neg (by rw [h]; decide)).trans (if_neg hb)
/-- the checksum -/
def dgl (g : Nat → Nat) : Nat → Int64 → Int64
  | 0, d => d
  | n + 1, d => dgl g n d * 31 + (nI (g n)).toInt64
def dgw (S T : Nat → Nat) : Nat → Int64 → Int64
  | 0, d => d
  | w + 1, d => dgl (abt S T w) 8 (dgw S T w d)
def dgq (S st : Nat → Nat) : Nat → Int64 → Int64
  | 0, d => d
  | r + 1, d => dgl (tld S st r) 6 (dgq S st r d)
def dig (S T st : Nat → Nat) (nw nr nf : Nat) : Int64 := dgl (fun k => S (4 + k)) 96 (dgq S st nr (dgw S T nw (dgl (cnt S T nw nr nf) 11 1823)))
/-- when the next feast comes: at most 60, or none -/
theorem nxR_at {fe fo : Nat → Nat} {n d : Nat} : ∀ m k : Nat, k + m ≤ 61 → (∃ j : Nat, j ≤ 60 ∧ nxR fe fo n d m k = nI j) ∨ nxR fe fo n d m k = nIm 1
  | 0, _, _ => Or.inr rfl
  | m + 1, k, h => by
    unfold nxR
    split
    · exact Or.inl ⟨k, by omega, rfl⟩
    · exact nxR_at m (k + 1) (by omega)
theorem nxF_at (fe fo : Nat → Nat) (n d : Nat) : (∃ j : Nat, j ≤ 60 ∧ nxF fe fo n d = nI j) ∨ nxF fe fo n d = nIm 1 := nxR_at 61 0 (by decide)
theorem nIm1_lt : nIm 1 < 0 := by decide +kernel
theorem nIm1_ne {j : Nat} (h : j < 2 ^ 31) : ¬ nI j = nIm 1 := fun z => nI_pos h (by rw [z]; exact nIm1_lt)
/-- an int by 96 is no NaN -/
theorem mean_n (v : Int32) : vf_n64 (FP.ddiv (FP.i2d v) 4636455816377925632) := by
  have hb : FP.Core.DFin 4636455816377925632 := (FP.Core.fin_bits _).mpr (by decide +kernel)
  have hz : ¬ FP.Core.DZero 4636455816377925632 := fun z => absurd ((FP.Core.zero_bits2 _).mp z) (by decide +kernel)
  have hi : FP.Core.dIsNaN (FP.Core.i2d v) = false := by
    have h1 := (FP.Core.fin_bits _).mp (FP.Core.i2d_fin v)
    cases hn : FP.Core.dIsNaN (FP.Core.i2d v) with
    | false => rfl
    | true =>
      have h2 := (FP.Core.isNaN_bits _).mp hn
      omega
  have hd : FP.Core.dIsNaN (FP.Core.ddiv (FP.Core.i2d v) 4636455816377925632) = false := FP.Core.ddiv_out hi hb hz
  have h3 : ¬ 9218868437227405312 < (FP.Core.ddiv (FP.Core.i2d v) 4636455816377925632).toNat % 2 ^ 63 := fun z => by
    rw [(FP.Core.isNaN_bits _).mpr z] at hd
    cases hd
  show FP.Core.ddiv (FP.Core.i2d v) 4636455816377925632 &&& 0x7fffffffffffffff ≤ 0x7ff0000000000000
  rw [UInt64.le_iff_toNat_le, UInt64.toNat_and]
  rw [show (0x7fffffffffffffff : UInt64).toNat = 2 ^ 63 - 1 by decide +kernel, Nat.and_two_pow_sub_one_eq_mod]
  rw [show (0x7ff0000000000000 : UInt64).toNat = 9218868437227405312 by decide +kernel]
  omega
theorem allS_le {S : Nat → Nat} (h : sootOk S) : allS S ≤ 1920 := sm_le 96 (fun k hk => h k hk)
