/-! WHAT A CALL THROWS, as a number: 0 nothing, else the place of the class in the document's order -/
abbrev inR (v lo hi : Int32) : Prop := lo ≤ v ∧ v ≤ hi
abbrev isR (n : Nat) (r : Int32) : Prop := nI 0 ≤ r ∧ r < nI n
abbrev tn (x : Int32) : Nat := x.toNatClampNeg
def winE (n : Nat) (x y w h o : Int32) : Nat := if ¬ (inR w (nI 1) (nI 12) ∧ inR h (nI 1) (nI 8) ∧ inR o (nI 1) (nI 9)) then 1 else if ¬ (inR x (nI 0) (nI 12 - w) ∧ inR y (nI 0) (nI 8 - h)) then 2 else if n = 6 then 3 else 0
def ropE (S : Nat → Nat) (n : Nat) (x t : Int32) : Nat := if ¬ isR 12 x then 1 else if ¬ inR t (nI 1) (nI 30) then 2 else if n = 6 ∨ hung S n (tn x) = true then 3 else 0
def feaE (n : Nat) (ev on : Int32) : Nat := if ¬ (inR ev (nI 2) (nI 30) ∧ (nI 0 ≤ on ∧ on < ev)) then 1 else if n = 4 then 2 else 0
def setE (w : Int32) : Nat := if ¬ inR w (nIm 5) (nI 5) then 1 else 0
def movE (S : Nat → Nat) (n : Nat) (r x : Int32) : Nat := if ¬ (isR n r ∧ isR 12 x) then 1 else if hung S n (tn x) = true then 2 else 0
def oneE (n : Nat) (r : Int32) : Nat := if ¬ isR n r then 1 else 0
def pasE (d : Int32) : Nat := if ¬ inR d (nI 1) (nI 40) then 1 else 0
def twoE (n k : Nat) (r w : Int32) : Nat := if ¬ (isR n r ∧ isR k w) then 1 else 0
def isfE (d : Int32) : Nat := if ¬ inR d (nI 0) (nI 60) then 1 else 0
def wouE (d w : Int32) : Nat := if ¬ inR d (nI 1) (nI 40) then 1 else if ¬ isR 3 w then 2 else 0
def advE (fe fo : Nat → Nat) (nf d n : Nat) (r : Int32) : Nat := if ¬ isR n r then 1 else if nxF fe fo nf d = nIm 1 then 2 else 0
theorem z_ltr (x : Int32) : x < 0 ↔ x < nI 0 := by rw [nI_0]
theorem z_ger (x : Int32) : 0 ≤ x ↔ nI 0 ≤ x := by rw [nI_0]
theorem nl {a b : Int32} (h : ¬ a < b) : b ≤ a := Int32.not_lt.mp h
theorem ln {a b : Int32} (h : b ≤ a) : ¬ a < b := Int32.not_lt.mpr h
theorem nle {a b : Int32} (h : ¬ a ≤ b) : b < a := Int32.not_le.mp h
theorem ltn {a b : Int32} (h : a < b) : ¬ b ≤ a := Int32.not_le.mpr h
theorem inR_nat {v : Int32} {lo hi : Nat} (h : inR v (nI lo) (nI hi)) (hh : hi < 2 ^ 31) (hl : lo < 2 ^ 31) : ∃ j : Nat, lo ≤ j ∧ j ≤ hi ∧ v = nI j := by
  have h0 : ¬ v < 0 := by
    rw [z_ltr]
    have := (nI_leI (show 0 < 2 ^ 31 by decide) hl).mpr (Nat.zero_le lo)
    exact ln (Int32.le_trans this h.1)
  obtain ⟨j, hj, rfl⟩ := nI_of h0
  exact ⟨j, (nI_leI hl hj).mp h.1, (nI_leI hj hh).mp h.2, rfl⟩
theorem isR_nat {r : Int32} {n : Nat} (h : isR n r) (hn : n < 2 ^ 31) : ∃ j : Nat, j < n ∧ r = nI j := by
  have h0 : ¬ r < 0 := by
    rw [z_ltr]
    exact ln h.1
  obtain ⟨j, hj, rfl⟩ := nI_of h0
  exact ⟨j, (nI_ltI hj hn).mp h.2, rfl⟩
theorem isR_of {n j : Nat} (h : j < n) (hn : n < 2 ^ 31) : isR n (nI j) := ⟨(nI_leI (by decide) (by omega)).mpr (Nat.zero_le j), (nI_ltI (by omega) hn).mpr h⟩
theorem tn_nI {j : Nat} (h : j < 2 ^ 31) : tn (nI j) = j := nI_clamp h
/-- the wind's number -/
def wdN (x : Int32) : Nat := x.toBitVec.toNat
theorem wdN_nI (x : Int32) : nI (wdN x) = x := by
  show Int32.ofNat x.toBitVec.toNat = x
  apply Int32.toBitVec_inj.mp
  show BitVec.ofNat 32 x.toBitVec.toNat = x.toBitVec
  exact BitVec.ofNat_toNat _ _
theorem wdN_ok {x : Int32} (h : inR x (nIm 5) (nI 5)) : windOk (wdN x) := by
  have h1 : x.toInt = ((wdN x : Nat) : Int).bmod (2 ^ 32) := by
    show x.toBitVec.toInt = _
    rw [BitVec.toInt_eq_toNat_bmod]
    rfl
  have h2 := Int32.le_iff_toInt_le.mp h.1
  have h3 := Int32.le_iff_toInt_le.mp h.2
  rw [show (nIm 5).toInt = -5 by decide +kernel] at h2
  rw [show (nI 5).toInt = 5 by decide +kernel] at h3
  have h4 : wdN x < 2 ^ 32 := x.toBitVec.isLt
  unfold windOk
  rw [h1, Int.bmod_def] at h2 h3
  split at h2 <;> split at h3 <;> omega
/-- what count() tells -/
def cnt (S T : Nat → Nat) (nw nr nf wh : Nat) : Nat := if wh = 0 then S 0 else if wh = 1 then nw else if wh = 2 then nr else if wh = 3 then nf else if wh = 4 then S 1 else if wh = 5 then allS S else if wh = 6 then clnS S else if wh = 7 then cldS S nr else if wh = 8 then S 2 else if wh = 9 then S 3 else allB S T nw
theorem bn_dec {P : Prop} {b : Bool} (h : b = true ↔ P) : nI (bn b) = 0 ↔ ¬ P := by
  rw [bn_eq0, ← h]
  cases b <;> simp
/-- the words of the three throws -/
theorem thA_n : ((vx_atS "GlassRopes" 37 xA ["java/lang/RuntimeException", "java/lang/Exception"]).filter (fun w => !goodWord w)).all (fun w => decide (w ∈ gOdd)) = true := by decide +kernel
theorem thI_n : ((vx_atS "GlassRopes" 44 xI ["java/lang/RuntimeException", "java/lang/Exception"]).filter (fun w => !goodWord w)).all (fun w => decide (w ∈ gOdd)) = true := by decide +kernel
theorem thS_n : ((vx_atS "GlassRopes" 53 xS ["java/lang/RuntimeException", "java/lang/Exception"]).filter (fun w => !goodWord w)).all (fun w => decide (w ∈ gOdd)) = true := by decide +kernel
theorem thA_g : (Cond.classLink "GlassRopes" 33 xA :: Cond.initialized xA :: vx_atS "GlassRopes" 37 xA ["java/lang/RuntimeException", "java/lang/Exception"]).all vx_ot = true := by decide +kernel
theorem thI_g : (Cond.classLink "GlassRopes" 40 xI :: Cond.initialized xI :: vx_atS "GlassRopes" 44 xI ["java/lang/RuntimeException", "java/lang/Exception"]).all vx_ot = true := by decide +kernel
theorem thS_g : (Cond.classLink "GlassRopes" 49 xS :: Cond.initialized xS :: vx_atS "GlassRopes" 53 xS ["java/lang/RuntimeException", "java/lang/Exception"]).all vx_ot = true := by decide +kernel
theorem thA_f : Bundle.fit xA = true := by decide +kernel
theorem thI_f : Bundle.fit xI = true := by decide +kernel
theorem thS_f : Bundle.fit xS = true := by decide +kernel
theorem thA_e : xA ∈ gExc := by decide +kernel
theorem thI_e : xI ∈ gExc := by decide +kernel
theorem thS_e : xS ∈ gExc := by decide +kernel
