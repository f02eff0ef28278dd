section
-- ===== PART A: goes FIRST, ahead of the names: the tables' words, and 'selects' of the private methods out of them =====
/-- a private method of a class that the tables say can be made, by its rows of tables_1 -/
def lw_okq (q : MethodName × Nat) : Prop := (q.1.cls ≠ "java/lang/invoke/MethodHandle" ∧ q.1.cls ≠ "java/lang/invoke/VarHandle") ∧ Cond.instantiable q.1.cls q.2 ∈ tables_1 ∧ Cond.privateMethod q.1 ∈ tables_1 ∧ Cond.instanceMethod q.1 ∈ tables_1
theorem lw_p0 : lw_okq (⟨"GlassRopes", "number", "(I)I"⟩, 4) := ⟨⟨by decide +kernel, by decide +kernel⟩, List.mem_of_getElem? (i := 17) (by decide +kernel), List.mem_of_getElem? (i := 182) (by decide +kernel), List.mem_of_getElem? (i := 183) (by decide +kernel)⟩
theorem lw_p1 : lw_okq (⟨"GlassRopes$Windows", "brings", "(ILGlassRopes$Glass;)I"⟩, 6) := ⟨⟨by decide +kernel, by decide +kernel⟩, List.mem_of_getElem? (i := 25) (by decide +kernel), List.mem_of_getElem? (i := 198) (by decide +kernel), List.mem_of_getElem? (i := 199) (by decide +kernel)⟩
theorem lw_p2 : lw_okq (⟨"GlassRopes$Windows", "panes", "(I)I"⟩, 6) := ⟨⟨by decide +kernel, by decide +kernel⟩, List.mem_of_getElem? (i := 25) (by decide +kernel), List.mem_of_getElem? (i := 202) (by decide +kernel), List.mem_of_getElem? (i := 203) (by decide +kernel)⟩
theorem lw_p3 : lw_okq (⟨"GlassRopes$Windows", "added", "(ILGlassRopes$Glass;)I"⟩, 6) := ⟨⟨by decide +kernel, by decide +kernel⟩, List.mem_of_getElem? (i := 25) (by decide +kernel), List.mem_of_getElem? (i := 206) (by decide +kernel), List.mem_of_getElem? (i := 207) (by decide +kernel)⟩
theorem lw_p4 : lw_okq (⟨"GlassRopes$Windows", "darkest", "(ILGlassRopes$Glass;)I"⟩, 6) := ⟨⟨by decide +kernel, by decide +kernel⟩, List.mem_of_getElem? (i := 25) (by decide +kernel), List.mem_of_getElem? (i := 221) (by decide +kernel), List.mem_of_getElem? (i := 222) (by decide +kernel)⟩
theorem lw_p5 : lw_okq (⟨"java/lang/Throwable", "fillInStackTrace", "(I)Ljava/lang/Throwable;"⟩, 6) := ⟨⟨by decide +kernel, by decide +kernel⟩, List.mem_of_getElem? (i := 278) (by decide +kernel), List.mem_of_getElem? (i := 276) (by decide +kernel), List.mem_of_getElem? (i := 277) (by decide +kernel)⟩
theorem lw_p6 : lw_okq (⟨"GlassRopes", "isRope", "(I)Z"⟩, 4) := ⟨⟨by decide +kernel, by decide +kernel⟩, List.mem_of_getElem? (i := 17) (by decide +kernel), List.mem_of_getElem? (i := 393) (by decide +kernel), List.mem_of_getElem? (i := 394) (by decide +kernel)⟩
theorem lw_p7 : lw_okq (⟨"GlassRopes", "isWindow", "(I)Z"⟩, 4) := ⟨⟨by decide +kernel, by decide +kernel⟩, List.mem_of_getElem? (i := 17) (by decide +kernel), List.mem_of_getElem? (i := 418) (by decide +kernel), List.mem_of_getElem? (i := 419) (by decide +kernel)⟩
theorem lw_p8 : lw_okq (⟨"GlassRopes$Ropes", "workOnOne", "(ILGlassRopes$Glass;)V"⟩, 7) := ⟨⟨by decide +kernel, by decide +kernel⟩, List.mem_of_getElem? (i := 85) (by decide +kernel), List.mem_of_getElem? (i := 464) (by decide +kernel), List.mem_of_getElem? (i := 465) (by decide +kernel)⟩
theorem lw_p9 : lw_okq (⟨"GlassRopes$Ropes", "nextFreeColumn", "(I)I"⟩, 7) := ⟨⟨by decide +kernel, by decide +kernel⟩, List.mem_of_getElem? (i := 85) (by decide +kernel), List.mem_of_getElem? (i := 469) (by decide +kernel), List.mem_of_getElem? (i := 470) (by decide +kernel)⟩
theorem lw_p10 : lw_okq (⟨"GlassRopes", "coinsBehind", "(III)I"⟩, 4) := ⟨⟨by decide +kernel, by decide +kernel⟩, List.mem_of_getElem? (i := 17) (by decide +kernel), List.mem_of_getElem? (i := 557) (by decide +kernel), List.mem_of_getElem? (i := 558) (by decide +kernel)⟩
theorem lw_p11 : lw_okq (⟨"GlassRopesModel", "fail", "(I)I"⟩, 10) := ⟨⟨by decide +kernel, by decide +kernel⟩, List.mem_of_getElem? (i := 561) (by decide +kernel), List.mem_of_getElem? (i := 609) (by decide +kernel), List.mem_of_getElem? (i := 610) (by decide +kernel)⟩
theorem lw_p12 : lw_okq (⟨"GlassRopesModel", "isHung", "(I)Z"⟩, 10) := ⟨⟨by decide +kernel, by decide +kernel⟩, List.mem_of_getElem? (i := 561) (by decide +kernel), List.mem_of_getElem? (i := 618) (by decide +kernel), List.mem_of_getElem? (i := 619) (by decide +kernel)⟩
theorem lw_p13 : lw_okq (⟨"GlassRopesModel", "ro", "(II)I"⟩, 10) := ⟨⟨by decide +kernel, by decide +kernel⟩, List.mem_of_getElem? (i := 561) (by decide +kernel), List.mem_of_getElem? (i := 622) (by decide +kernel), List.mem_of_getElem? (i := 623) (by decide +kernel)⟩
theorem lw_p14 : lw_okq (⟨"GlassRopesModel", "let", "(III)V"⟩, 10) := ⟨⟨by decide +kernel, by decide +kernel⟩, List.mem_of_getElem? (i := 561) (by decide +kernel), List.mem_of_getElem? (i := 626) (by decide +kernel), List.mem_of_getElem? (i := 627) (by decide +kernel)⟩
theorem lw_p15 : lw_okq (⟨"GlassRopesModel", "isRope", "(I)Z"⟩, 10) := ⟨⟨by decide +kernel, by decide +kernel⟩, List.mem_of_getElem? (i := 561) (by decide +kernel), List.mem_of_getElem? (i := 642) (by decide +kernel), List.mem_of_getElem? (i := 643) (by decide +kernel)⟩
def lw_privs_1 : List (MethodName × Nat) := [(⟨"GlassRopes", "number", "(I)I"⟩, 4), (⟨"GlassRopes$Windows", "brings", "(ILGlassRopes$Glass;)I"⟩, 6), (⟨"GlassRopes$Windows", "panes", "(I)I"⟩, 6), (⟨"GlassRopes$Windows", "added", "(ILGlassRopes$Glass;)I"⟩, 6), (⟨"GlassRopes$Windows", "darkest", "(ILGlassRopes$Glass;)I"⟩, 6), (⟨"java/lang/Throwable", "fillInStackTrace", "(I)Ljava/lang/Throwable;"⟩, 6), (⟨"GlassRopes", "isRope", "(I)Z"⟩, 4), (⟨"GlassRopes", "isWindow", "(I)Z"⟩, 4), (⟨"GlassRopes$Ropes", "workOnOne", "(ILGlassRopes$Glass;)V"⟩, 7), (⟨"GlassRopes$Ropes", "nextFreeColumn", "(I)I"⟩, 7), (⟨"GlassRopes", "coinsBehind", "(III)I"⟩, 4), (⟨"GlassRopesModel", "fail", "(I)I"⟩, 10), (⟨"GlassRopesModel", "isHung", "(I)Z"⟩, 10), (⟨"GlassRopesModel", "ro", "(II)I"⟩, 10), (⟨"GlassRopesModel", "let", "(III)V"⟩, 10), (⟨"GlassRopesModel", "isRope", "(I)Z"⟩, 10)]
theorem lw_r1 : ∀ q ∈ lw_privs_1, lw_okq q := List.forall_mem_cons.mpr ⟨lw_p0, List.forall_mem_cons.mpr ⟨lw_p1, List.forall_mem_cons.mpr ⟨lw_p2, List.forall_mem_cons.mpr ⟨lw_p3, List.forall_mem_cons.mpr ⟨lw_p4, List.forall_mem_cons.mpr ⟨lw_p5, List.forall_mem_cons.mpr ⟨lw_p6, List.forall_mem_cons.mpr ⟨lw_p7, List.forall_mem_cons.mpr ⟨lw_p8, List.forall_mem_cons.mpr ⟨lw_p9, List.forall_mem_cons.mpr ⟨lw_p10, List.forall_mem_cons.mpr ⟨lw_p11, List.forall_mem_cons.mpr ⟨lw_p12, List.forall_mem_cons.mpr ⟨lw_p13, List.forall_mem_cons.mpr ⟨lw_p14, List.forall_mem_cons.mpr ⟨lw_p15, fun _ h => absurd h List.not_mem_nil⟩⟩⟩⟩⟩⟩⟩⟩⟩⟩⟩⟩⟩⟩⟩⟩
theorem lw_p16 : lw_okq (⟨"GlassRopesModel", "hang", "(II)V"⟩, 10) := ⟨⟨by decide +kernel, by decide +kernel⟩, List.mem_of_getElem? (i := 561) (by decide +kernel), List.mem_of_getElem? (i := 646) (by decide +kernel), List.mem_of_getElem? (i := 647) (by decide +kernel)⟩
theorem lw_p17 : lw_okq (⟨"GlassRopesModel", "isWindow", "(I)Z"⟩, 10) := ⟨⟨by decide +kernel, by decide +kernel⟩, List.mem_of_getElem? (i := 561) (by decide +kernel), List.mem_of_getElem? (i := 658) (by decide +kernel), List.mem_of_getElem? (i := 659) (by decide +kernel)⟩
theorem lw_p18 : lw_okq (⟨"GlassRopesModel", "wi", "(II)I"⟩, 10) := ⟨⟨by decide +kernel, by decide +kernel⟩, List.mem_of_getElem? (i := 561) (by decide +kernel), List.mem_of_getElem? (i := 662) (by decide +kernel), List.mem_of_getElem? (i := 663) (by decide +kernel)⟩
theorem lw_p19 : lw_okq (⟨"GlassRopesModel", "daysOn", "(I)V"⟩, 10) := ⟨⟨by decide +kernel, by decide +kernel⟩, List.mem_of_getElem? (i := 561) (by decide +kernel), List.mem_of_getElem? (i := 673) (by decide +kernel), List.mem_of_getElem? (i := 674) (by decide +kernel)⟩
theorem lw_p20 : lw_okq (⟨"GlassRopesModel", "dayOn", "()V"⟩, 10) := ⟨⟨by decide +kernel, by decide +kernel⟩, List.mem_of_getElem? (i := 561) (by decide +kernel), List.mem_of_getElem? (i := 677) (by decide +kernel), List.mem_of_getElem? (i := 678) (by decide +kernel)⟩
theorem lw_p21 : lw_okq (⟨"GlassRopesModel", "blown", "(I)I"⟩, 10) := ⟨⟨by decide +kernel, by decide +kernel⟩, List.mem_of_getElem? (i := 561) (by decide +kernel), List.mem_of_getElem? (i := 681) (by decide +kernel), List.mem_of_getElem? (i := 682) (by decide +kernel)⟩
theorem lw_p22 : lw_okq (⟨"GlassRopesModel", "isFeastOn", "(I)Z"⟩, 10) := ⟨⟨by decide +kernel, by decide +kernel⟩, List.mem_of_getElem? (i := 561) (by decide +kernel), List.mem_of_getElem? (i := 687) (by decide +kernel), List.mem_of_getElem? (i := 688) (by decide +kernel)⟩
theorem lw_p23 : lw_okq (⟨"GlassRopesModel", "allBring", "()I"⟩, 10) := ⟨⟨by decide +kernel, by decide +kernel⟩, List.mem_of_getElem? (i := 561) (by decide +kernel), List.mem_of_getElem? (i := 691) (by decide +kernel), List.mem_of_getElem? (i := 692) (by decide +kernel)⟩
theorem lw_p24 : lw_okq (⟨"GlassRopesModel", "brings", "(I)I"⟩, 10) := ⟨⟨by decide +kernel, by decide +kernel⟩, List.mem_of_getElem? (i := 561) (by decide +kernel), List.mem_of_getElem? (i := 695) (by decide +kernel), List.mem_of_getElem? (i := 696) (by decide +kernel)⟩
theorem lw_p25 : lw_okq (⟨"GlassRopesModel", "panes", "(I)I"⟩, 10) := ⟨⟨by decide +kernel, by decide +kernel⟩, List.mem_of_getElem? (i := 561) (by decide +kernel), List.mem_of_getElem? (i := 699) (by decide +kernel), List.mem_of_getElem? (i := 700) (by decide +kernel)⟩
theorem lw_p26 : lw_okq (⟨"GlassRopesModel", "sootOf", "(IZ)I"⟩, 10) := ⟨⟨by decide +kernel, by decide +kernel⟩, List.mem_of_getElem? (i := 561) (by decide +kernel), List.mem_of_getElem? (i := 703) (by decide +kernel), List.mem_of_getElem? (i := 704) (by decide +kernel)⟩
theorem lw_p27 : lw_okq (⟨"GlassRopesModel", "work", "(I)V"⟩, 10) := ⟨⟨by decide +kernel, by decide +kernel⟩, List.mem_of_getElem? (i := 561) (by decide +kernel), List.mem_of_getElem? (i := 707) (by decide +kernel), List.mem_of_getElem? (i := 708) (by decide +kernel)⟩
theorem lw_p28 : lw_okq (⟨"GlassRopesModel", "moveOn", "(I)V"⟩, 10) := ⟨⟨by decide +kernel, by decide +kernel⟩, List.mem_of_getElem? (i := 561) (by decide +kernel), List.mem_of_getElem? (i := 711) (by decide +kernel), List.mem_of_getElem? (i := 712) (by decide +kernel)⟩
theorem lw_p29 : lw_okq (⟨"GlassRopesModel", "windowTold", "(II)I"⟩, 10) := ⟨⟨by decide +kernel, by decide +kernel⟩, List.mem_of_getElem? (i := 561) (by decide +kernel), List.mem_of_getElem? (i := 723) (by decide +kernel), List.mem_of_getElem? (i := 724) (by decide +kernel)⟩
theorem lw_p30 : lw_okq (⟨"GlassRopesModel", "ropeTold", "(II)I"⟩, 10) := ⟨⟨by decide +kernel, by decide +kernel⟩, List.mem_of_getElem? (i := 561) (by decide +kernel), List.mem_of_getElem? (i := 731) (by decide +kernel), List.mem_of_getElem? (i := 732) (by decide +kernel)⟩
theorem lw_p31 : lw_okq (⟨"GlassRopesModel", "counted", "(I)I"⟩, 10) := ⟨⟨by decide +kernel, by decide +kernel⟩, List.mem_of_getElem? (i := 561) (by decide +kernel), List.mem_of_getElem? (i := 739) (by decide +kernel), List.mem_of_getElem? (i := 740) (by decide +kernel)⟩
def lw_privs_2 : List (MethodName × Nat) := [(⟨"GlassRopesModel", "hang", "(II)V"⟩, 10), (⟨"GlassRopesModel", "isWindow", "(I)Z"⟩, 10), (⟨"GlassRopesModel", "wi", "(II)I"⟩, 10), (⟨"GlassRopesModel", "daysOn", "(I)V"⟩, 10), (⟨"GlassRopesModel", "dayOn", "()V"⟩, 10), (⟨"GlassRopesModel", "blown", "(I)I"⟩, 10), (⟨"GlassRopesModel", "isFeastOn", "(I)Z"⟩, 10), (⟨"GlassRopesModel", "allBring", "()I"⟩, 10), (⟨"GlassRopesModel", "brings", "(I)I"⟩, 10), (⟨"GlassRopesModel", "panes", "(I)I"⟩, 10), (⟨"GlassRopesModel", "sootOf", "(IZ)I"⟩, 10), (⟨"GlassRopesModel", "work", "(I)V"⟩, 10), (⟨"GlassRopesModel", "moveOn", "(I)V"⟩, 10), (⟨"GlassRopesModel", "windowTold", "(II)I"⟩, 10), (⟨"GlassRopesModel", "ropeTold", "(II)I"⟩, 10), (⟨"GlassRopesModel", "counted", "(I)I"⟩, 10)]
theorem lw_r2 : ∀ q ∈ lw_privs_2, lw_okq q := List.forall_mem_cons.mpr ⟨lw_p16, List.forall_mem_cons.mpr ⟨lw_p17, List.forall_mem_cons.mpr ⟨lw_p18, List.forall_mem_cons.mpr ⟨lw_p19, List.forall_mem_cons.mpr ⟨lw_p20, List.forall_mem_cons.mpr ⟨lw_p21, List.forall_mem_cons.mpr ⟨lw_p22, List.forall_mem_cons.mpr ⟨lw_p23, List.forall_mem_cons.mpr ⟨lw_p24, List.forall_mem_cons.mpr ⟨lw_p25, List.forall_mem_cons.mpr ⟨lw_p26, List.forall_mem_cons.mpr ⟨lw_p27, List.forall_mem_cons.mpr ⟨lw_p28, List.forall_mem_cons.mpr ⟨lw_p29, List.forall_mem_cons.mpr ⟨lw_p30, List.forall_mem_cons.mpr ⟨lw_p31, fun _ h => absurd h List.not_mem_nil⟩⟩⟩⟩⟩⟩⟩⟩⟩⟩⟩⟩⟩⟩⟩⟩
theorem lw_p32 : lw_okq (⟨"GlassRopesModel", "allSoot", "()I"⟩, 10) := ⟨⟨by decide +kernel, by decide +kernel⟩, List.mem_of_getElem? (i := 561) (by decide +kernel), List.mem_of_getElem? (i := 743) (by decide +kernel), List.mem_of_getElem? (i := 744) (by decide +kernel)⟩
theorem lw_p33 : lw_okq (⟨"GlassRopesModel", "cleaned", "()I"⟩, 10) := ⟨⟨by decide +kernel, by decide +kernel⟩, List.mem_of_getElem? (i := 561) (by decide +kernel), List.mem_of_getElem? (i := 747) (by decide +kernel), List.mem_of_getElem? (i := 748) (by decide +kernel)⟩
theorem lw_p34 : lw_okq (⟨"GlassRopesModel", "nextFeast", "()I"⟩, 10) := ⟨⟨by decide +kernel, by decide +kernel⟩, List.mem_of_getElem? (i := 561) (by decide +kernel), List.mem_of_getElem? (i := 759) (by decide +kernel), List.mem_of_getElem? (i := 760) (by decide +kernel)⟩
theorem lw_p35 : lw_okq (⟨"GlassRopesModel", "keep", "()V"⟩, 10) := ⟨⟨by decide +kernel, by decide +kernel⟩, List.mem_of_getElem? (i := 561) (by decide +kernel), List.mem_of_getElem? (i := 767) (by decide +kernel), List.mem_of_getElem? (i := 768) (by decide +kernel)⟩
theorem lw_p36 : lw_okq (⟨"GlassRopesModel", "bringBack", "()V"⟩, 10) := ⟨⟨by decide +kernel, by decide +kernel⟩, List.mem_of_getElem? (i := 561) (by decide +kernel), List.mem_of_getElem? (i := 771) (by decide +kernel), List.mem_of_getElem? (i := 772) (by decide +kernel)⟩
def lw_privs_3 : List (MethodName × Nat) := [(⟨"GlassRopesModel", "allSoot", "()I"⟩, 10), (⟨"GlassRopesModel", "cleaned", "()I"⟩, 10), (⟨"GlassRopesModel", "nextFeast", "()I"⟩, 10), (⟨"GlassRopesModel", "keep", "()V"⟩, 10), (⟨"GlassRopesModel", "bringBack", "()V"⟩, 10)]
theorem lw_r3 : ∀ q ∈ lw_privs_3, lw_okq q := List.forall_mem_cons.mpr ⟨lw_p32, List.forall_mem_cons.mpr ⟨lw_p33, List.forall_mem_cons.mpr ⟨lw_p34, List.forall_mem_cons.mpr ⟨lw_p35, List.forall_mem_cons.mpr ⟨lw_p36, fun _ h => absurd h List.not_mem_nil⟩⟩⟩⟩⟩
def lw_privs : List (MethodName × Nat) := lw_privs_1 ++ (lw_privs_2 ++ (lw_privs_3))
def lw_tbl : List Cond := k2_sels lw_privs ++ tables_1
theorem lw_privs_ok : ∀ q ∈ lw_privs, lw_okq q := by
  show ∀ q ∈ lw_privs_1 ++ (lw_privs_2 ++ (lw_privs_3)), lw_okq q
  exact List.forall_mem_append.mpr ⟨lw_r1, List.forall_mem_append.mpr ⟨lw_r2, lw_r3⟩⟩
/-- the streams that the claim lets the run draw from -/
abbrev lw_cs : List Choice := [Jvm.Choice.named "NaN.bits"]
theorem lw_bits : nanBits ∈ lw_cs := by first | decide | exact List.mem_cons_self | simp [lw_cs, nanBits]
end
section
/-! ===== BEGIN words of one list among another's, by their places ===== -/
theorem goodIn_r {big : List Cond} (ws : List Cond) (ps : List Nat) (hp : ws = ps.filterMap (fun i => big[i]?)) (h : ws.all goodWord = true) : GoodIn big ws := by
  intro w hw
  have h1 := List.all_eq_true.mp h w hw
  rw [hp] at hw
  obtain ⟨i, -, hi⟩ := List.mem_filterMap.mp hw
  have hm : w ∈ big := by first | exact List.mem_of_getElem? hi | exact List.getElem?_mem hi
  exact ⟨hm, good_of_word h1⟩
theorem goodIn_app {big a b : List Cond} (ha : GoodIn big a) (hb : GoodIn big b) : GoodIn big (a ++ b) := fun w h => (List.mem_append.mp h).elim (ha w) (hb w)
theorem goodIn_ca {big a b : List Cond} {c : Cond} (ha : GoodIn big (c :: a)) (hb : GoodIn big b) : GoodIn big (c :: (a ++ b)) := fun w h => (List.mem_cons.mp h).elim (fun e => ha w (List.mem_cons.mpr (Or.inl e))) (fun h => (List.mem_append.mp h).elim (fun h => ha w (List.mem_cons.mpr (Or.inr h))) (hb w))
theorem goodIn_sub {big ws : List Cond} (hm : ∀ w ∈ ws, w ∈ big) (h : ws.all goodWord = true) : GoodIn big ws := fun w hw => ⟨hm w hw, good_of_word (List.all_eq_true.mp h w hw)⟩
/-! ===== END ===== -/

/-! ===== BEGIN exceptions that leave a method, and their catching by the caller (launches without stack traces) ===== -/
section VXA
/-! The laws vx_back, vx_callV, vx_callS, vx_callSW, vx_throw0, vx_throwS follow proofs of the library, with one case more: JvmDerived/Free/Laws.lean (Back.of_free), Shelf42/LK1.lean (callV, callS), Shelf/KitTraced.lean (throwNew0V, throwNewS). -/
/-- where a method has thrown q: the class by its name, the cell, what was written, the world -/
def vx_T (XC : String → State → State → Prop) (st : State) (q : Addr) (t : State) (mc ms : Nat) (free : Addr → Prop) : Prop :=
  ∃ (E : String) (ce : Cell) (L : List Loc), XC E st t ∧ t.heap[q]? = some ce ∧ ce.vm = .none ∧ st.vm.findClass E = some ce.cls ∧ st.WarmedH t.vm ∧ st.sameButNew ({ t with vm := st.vm } : State) L mc ms ∧ ∀ z ∈ L, free z.base
def vx_Q (Qc : Array Value → State → Outcome → State → Prop) (XC : String → State → State → Prop) (mc ms : Nat) (free : Addr → Prop) : Array Value → State → Outcome → State → Prop := fun a st o t =>
  (Qc a st o t ∧ ∃ L, FrameEnd st o t L mc ms ∧ ∀ q ∈ L, free q.base) ∨ ∃ q, o = .threw q ∧ vx_T XC st q t mc ms free
/-- a callee that returns or throws -/
def vx_Met (l : Launch) (y : MethodName) (ws : List Cond) (rm : Room) (Pc : Array Value → State → Prop) (Qc : Array Value → State → Outcome → State → Prop) (XC : String → State → State → Prop) (mc ms : Nat) (free : Addr → Prop) : Prop :=
  MetFree l y (headSpec ws rm) Pc (fun _ _ _ _ _ => True) (vx_Q Qc XC mc ms free)
def vx_Post (XC : String → State → State → Prop) (mc ms : Nat) (free : Addr → Prop) : Pt → Array Value → Addr → Pt → Prop := fun A a q B =>
  ∃ (g : JFrame) (mk : MethodId) (t : State) (L : List Loc) (E : String) (ce : Cell), B.U.heap = t.heap ∧ B.U.vm = t.vm ∧ XC E (A.U.calling g mk a) t ∧ t.heap[q]? = some ce ∧ ce.vm = .none ∧ A.U.vm.findClass E = some ce.cls ∧ B.locs = A.locs ++ L ∧ (∀ z ∈ L, free z.base) ∧ B.cells = A.cells + mc ∧ B.slots = A.slots + ms
def vx_Back (l : Launch) (R : Room) (p : Program) (e : Env) (below : List Frame) (s : State) (sargs : Array Value) (y : MethodName) (len W9 : Nat)
    (Pre : Pt → Array Value → Prop) (Post : Pt → Array Value → Option Value → Pt → Prop) (PostX : Pt → Array Value → Addr → Pt → Prop) : Prop :=
  ∀ (m : MethodId) (meth : Method) (c : Code) (A : Pt) (g : JFrame) (ig : Instr) (mk : MethodId) (a : Array Value),
    Stand p l e R s m sargs below meth c A.U A.locs A.cells A.slots → g.method = m → g.locals.size = c.maxLocals → decode c.code g.pc = .ok (ig, len) →
    2 * g.monitorRoom + (g.stack.map fun v => v.category).sum ≤ W9 → A.U.methodNamed? y = some mk → Pre A a →
    (∃ (v : Option Value) (B : Pt), Stand p l e R s m sargs below meth c B.U B.locs B.cells B.slots ∧ Post A a v B ∧
      Steps p.tables e below (doInvoke e (A.U.setTop g) [] mk a).1 (B.U.setTop { g with pc := g.pc + len, stack := v.toList ++ g.stack })) ∨
    (∃ (q : Addr) (B : Pt), Stand p l e R s m sargs below meth c B.U B.locs B.cells B.slots ∧ PostX A a q B ∧
      Steps p.tables e below (doInvoke e (A.U.setTop g) [] mk a).1 ((B.U.setTop g).pushFrame (.throwing q)))
section Payer
variable {l : Launch} {R : Room} {p : Program} {e : Env} {below : List Frame} {s : State} {sargs : Array Value} {y : MethodName} {len W9 : Nat}
theorem vx_back {ws : List Cond} {rm : Room} {Pc : Array Value → State → Prop} {Qc : Array Value → State → Outcome → State → Prop} {XC : String → State → State → Prop} {mc ms : Nat} {free : Addr → Prop} {bytes : ByteArray} {maxL : Nat} {ret : Option FieldType}
    (hM : vx_Met l y ws rm Pc Qc XC mc ms free) (hblind : FrameBlind Pc) (hrc : rm.cells = mc) (hrs : rm.slots = ms)
    (hframes : rm.frames + 1 ≤ R.frames) (hlocals : W9 + (maxL + 11) + rm.locals ≤ R.locals)
    (hws : ∀ w ∈ ws, ∀ a' U, s.WarmedH U.vm → w.before a' U = true) (hcode : Cond.code y bytes maxL ret ∈ ws) (hinit : ∀ a' U, s.WarmedH U.vm → (Cond.initialized y.cls).before a' U = true) :
    vx_Back l R p e below s sargs y len W9 (PreOf R mc ms Pc) (PostOf Qc mc ms free) (vx_Post XC mc ms free) := by
  intro m meth c A g ig mk a X hg hsize hdg hW hn hp
  have h1 : (headSpec ws rm).pre.before a A.U = true := atoms_intro fun w hw => hws w hw _ _ X.warmed
  have h2 : (Cond.code y bytes maxL ret).before a A.U = true := hws _ hcode _ _ X.warmed
  have h3 : (Cond.initialized y.cls).before a A.U = true := hinit _ _ X.warmed
  have h4 : A.cells + (headSpec ws rm).room.cells ≤ R.cells := by rw [show (headSpec ws rm).room.cells = mc from hrc]; exact hp.1
  have h5 : A.slots + (headSpec ws rm).room.slots ≤ R.slots := by rw [show (headSpec ws rm).room.slots = ms from hrs]; exact hp.2.1
  have hPc : Pc a (A.U.calling g mk a) := hblind _ _ _ _ hp.2.2
  obtain ⟨U, Ls, c0, s0⟩ := A
  dsimp only [Pt.U, Pt.locs, Pt.cells, Pt.slots] at h1 h2 h3 h4 h5 X hn hPc ⊢
  obtain ⟨methY, cY, hmY, hcY, -, hlY, -, -, -, -⟩ := Cond.code_spec hn h2
  obtain ⟨kY, hkY, -⟩ := className_of_methodNamed hn
  have hinitY : kY.init = .initialized := Cond.initialized_spec (findClass_of_methodNamed hn) hkY h3
  have h : At U g.method c below := by rw [hg]; exact X.here
  have hlocals9 : W9 + (maxL + 11) + (headSpec ws rm).room.locals ≤ R.locals := hlocals
  have happ : (headSpec ws rm).appliesLoose y e.platform (U.calling g mk a) = true :=
    Spec.appliesLoose_calling (g := g) h hdg hn hkY hinitY
      (X.room_calling (g := g) (R' := (headSpec ws rm).room) hsize hmY hcY hframes (by rw [hlY]; omega) h4 h5) h1
  obtain ⟨mid, hmid⟩ := h.above
  have hfr : (U.setTop g).frames = (.java g :: mid) ++ below := by rw [State.frames_setTop' g h.top, hmid]; rfl
  obtain ⟨o, s₂, hsteps, -, hend, hq⟩ := Steps.callFree hM p X.admits X.cas X.clock (acts := []) hfr happ hPc trivial
  have hq' : vx_Q Qc XC mc ms free a (U.calling g mk a) o s₂ := hq
  rw [State.frames_setTop' g h.top] at hend
  obtain ⟨g₀, hg0⟩ := Option.isSome_iff_exists.mp h.top
  obtain ⟨r, hr⟩ := State.topJava?_eq_some.mp hg0
  have hr' : (({ U with heap := s₂.heap, slotsUsed := s₂.slotsUsed } : State).setVm s₂.vm).frames = .java g₀ :: r := hr
  rcases hq' with ⟨hqc, L, hfe, hL⟩ | ⟨q, rfl, E, ce, L, hx, hce, hcv, hcl, hW₂, hsm, hL⟩
  · obtain ⟨⟨v, rfl⟩, hW₂, e2, q2, q3, q4, q5, q6⟩ := id hfe
    have e3 : s₂ = ({ (U.calling g mk a).setFrames s₂.frames with heap := s₂.heap, slotsUsed := s₂.slotsUsed } : State).setVm s₂.vm := by
      have : s₂ = ({ s₂ with vm := (U.calling g mk a).vm } : State).setVm s₂.vm := rfl
      rw [e2] at this
      exact this
    obtain ⟨c₂, i₂, len₂, hc₂, hd₂, hf₂⟩ := hend
    have hW' : U.WarmedH s₂.vm := hW₂
    have hcc : c₂ = c := by
      have h1 : s₂.code? g.method = U.code? g.method := by
        rw [State.code?_eq, State.code?_eq, hW'.alike.method?]
      exact Option.some.inj (hc₂.symm.trans (h1.trans h.code))
    subst hcc
    have hlen : len₂ = len := by rw [hdg] at hd₂; cases hd₂; rfl
    subst hlen
    have hs₂ : s₂ = (({ U with heap := s₂.heap, slotsUsed := s₂.slotsUsed } : State).setVm s₂.vm).setTop { g with pc := g.pc + len₂, stack := v.toList ++ g.stack } := by
      refine e3.trans ?_
      rw [hf₂, State.calling_eq h.top, State.setFrames_setFrames, State.setTop_of_frames _ hr', hr]
      rfl
    have hsame : U.sameButNew ({ U with heap := s₂.heap, slotsUsed := s₂.slotsUsed } : State) L mc ms := by
      refine ⟨?_, q2, q3, q4, q5, q6⟩
      obtain ⟨t, ht, -⟩ := State.frames_cons hr
      show ({ U with heap := s₂.heap, slotsUsed := s₂.slotsUsed } : State) = { U.setFrames U.frames with heap := s₂.heap, slotsUsed := s₂.slotsUsed }
      rw [State.setFrames_self ht]
    subst hg
    refine Or.inl ⟨v, ⟨(({ U with heap := s₂.heap, slotsUsed := s₂.slotsUsed } : State).setVm s₂.vm), Ls ++ L, c0 + mc, s0 + ms⟩,
      ⟨X.admits, X.cas, X.clock, X.frames, X.room, X.hears, X.method, X.code, (X.here.setHeapUsed s₂.heap s₂.slotsUsed).setVm hW'.alike, X.tail, State.WarmedH.trans X.warmed hW', X.limits, X.bytes, X.same.trans (hsame.setVm s.vm)⟩,
      ⟨g, mk, s₂, L, rfl, rfl, hqc, rfl, hL, rfl, rfl⟩, ?_⟩
    show Steps p.tables e below _ ((({ U with heap := s₂.heap, slotsUsed := s₂.slotsUsed } : State).setVm s₂.vm).setTop { g with pc := g.pc + len₂, stack := v.toList ++ g.stack })
    rw [← hs₂]
    exact hsteps
  · obtain ⟨e2, q2, q3, q4, q5, q6⟩ := id hsm
    have e3 : s₂ = ({ (U.calling g mk a).setFrames s₂.frames with heap := s₂.heap, slotsUsed := s₂.slotsUsed } : State).setVm s₂.vm := by
      have : s₂ = ({ s₂ with vm := (U.calling g mk a).vm } : State).setVm s₂.vm := rfl
      rw [e2] at this
      exact this
    have hf₂ : s₂.frames = .throwing q :: .java g :: U.frames.tail := hend
    have hW' : U.WarmedH s₂.vm := hW₂
    have hs₂ : s₂ = ((({ U with heap := s₂.heap, slotsUsed := s₂.slotsUsed } : State).setVm s₂.vm).setTop g).pushFrame (.throwing q) := by
      refine e3.trans ?_
      rw [hf₂, State.calling_eq h.top, State.setFrames_setFrames, State.pushFrame, State.frames_setTop _ hr', State.setTop_of_frames _ hr', State.setFrames_setFrames, hr]
      rfl
    have hsame : U.sameButNew ({ U with heap := s₂.heap, slotsUsed := s₂.slotsUsed } : State) L mc ms := by
      refine ⟨?_, q2, q3, q4, q5, q6⟩
      obtain ⟨t, ht, -⟩ := State.frames_cons hr
      show ({ U with heap := s₂.heap, slotsUsed := s₂.slotsUsed } : State) = { U.setFrames U.frames with heap := s₂.heap, slotsUsed := s₂.slotsUsed }
      rw [State.setFrames_self ht]
    subst hg
    refine Or.inr ⟨q, ⟨(({ U with heap := s₂.heap, slotsUsed := s₂.slotsUsed } : State).setVm s₂.vm), Ls ++ L, c0 + mc, s0 + ms⟩,
      ⟨X.admits, X.cas, X.clock, X.frames, X.room, X.hears, X.method, X.code, (X.here.setHeapUsed s₂.heap s₂.slotsUsed).setVm hW'.alike, X.tail, State.WarmedH.trans X.warmed hW', X.limits, X.bytes, X.same.trans (hsame.setVm s.vm)⟩,
      ⟨g, mk, s₂, L, E, ce, rfl, rfl, hx, hce, hcv, hcl, rfl, hL, rfl, rfl⟩, ?_⟩
    show Steps p.tables e below _ (((({ U with heap := s₂.heap, slotsUsed := s₂.slotsUsed } : State).setVm s₂.vm).setTop g).pushFrame (.throwing q))
    rw [← hs₂]
    exact hsteps
end Payer
section Calls
variable {p : Program} {l : Launch} {e : Env} {R : Room} {s : State} {m : MethodId} {args : Array Value} {below : List Frame} {meth : Method} {c : Code} {T : State} {locs : List Loc} {cells slots : Nat}
theorem vx_callV (X : Stand p l e R s m args below meth c T locs cells slots) (hexec : p.tables.exec = Jvm.exec) {own C : String} {index : Nat} {y : MethodName} {bytes : ByteArray} {maxL : Nat} {ret : Option FieldType}
    (hown : s.vm.findClass own = some m.cls) (hlink : (Cond.methodLink own index y).before args s = true) (hinst : (Cond.instanceMethod y).before args s = true) (hsel : (Cond.selects C y y).before args s = true)
    (hcode : (Cond.code y bytes maxL ret).before args s = true) (hy : y.cls ≠ "java/lang/invoke/MethodHandle" ∧ y.cls ≠ "java/lang/invoke/VarHandle")
    {W9 : Nat} {Pre : Pt → Array Value → Prop} {Post : Pt → Array Value → Option Value → Pt → Prop} {PostX : Pt → Array Value → Addr → Pt → Prop} (hK : vx_Back l R p e below s args y 3 W9 Pre Post PostX)
    {b : Addr} {cellB : Cell} (hcell : T.heap[b]? = some cellB) (hobj : cellB.vm.isStatics = false) (hcls : s.vm.findClass C = some cellB.cls)
    {g : JFrame} (hg : g.method = m) (hsize : g.locals.size = c.maxLocals) {argsL rest : List Value} (hlen : ∀ sig, parseMethodDescriptor y.desc = some sig → argsL.length = sig.parameters.length)
    (hstack : g.stack = argsL.reverse ++ .ref b :: rest) (hW : 2 * g.monitorRoom + (rest.map fun v => v.category).sum ≤ W9) (hdg : decode c.code g.pc = .ok (.invokevirtual index, 3))
    (hpre : ∀ vm₁, s.WarmedH vm₁ → Pre ⟨T.setVm vm₁, locs, cells, slots⟩ (Value.ref b :: argsL).toArray) :
    (∃ (v : Option Value) (vm₁ : Vm) (B : Pt), s.WarmedH vm₁ ∧ Stand p l e R s m args below meth c B.U B.locs B.cells B.slots ∧ Post ⟨T.setVm vm₁, locs, cells, slots⟩ (Value.ref b :: argsL).toArray v B ∧
      ∀ target, Steps p.tables e below (B.U.setTop { g with pc := g.pc + 3, stack := v.toList ++ rest }) target → Steps p.tables e below (T.setTop g) target) ∨
    (∃ (q : Addr) (vm₁ : Vm) (B : Pt), s.WarmedH vm₁ ∧ Stand p l e R s m args below meth c B.U B.locs B.cells B.slots ∧ PostX ⟨T.setVm vm₁, locs, cells, slots⟩ (Value.ref b :: argsL).toArray q B ∧
      Steps p.tables e below (T.setTop g) ((B.U.setTop { g with stack := rest }).pushFrame (.throwing q))) := by
  obtain ⟨mk, methM, hnamed, hmethM, hstM, habM⟩ := Cond.instanceMethod_spec hinst
  obtain ⟨methM', cM, hmethM', -, -, -, -, -, -, hsigM⟩ := Cond.code_spec hnamed hcode
  cases hmethM.symm.trans hmethM'
  obtain ⟨c2, r2, m2, q1, q2, q3, q4, kP, hkP, hkPi⟩ := Cond.selects_spec hsel
  cases hcls.symm.trans q1
  cases (State.methodFound?_of_named hnamed hy).symm.trans q2
  cases hnamed.symm.trans q3
  have hselP : selectMethod e.platform s.vm cellB.cls mk = .method mk := by rw [Launch.admits_selectMethod X.admits]; exact q4
  obtain ⟨vm₁, X₁, hstep₁⟩ := X.invokevirtual hexec hown hlink hnamed hmethM hstM hkP hkPi hy (a := b) (cell := cellB) hcell
    (fun z h => by rw [h] at hobj; cases hobj) hselP hmethM habM hkP hkPi (g := g) hg (argsL := argsL) (rest := rest) (hlen _ hsigM) hstack hdg
  rcases hK m meth c ⟨T.setVm vm₁, locs, cells, slots⟩ { g with stack := rest } (.invokevirtual index) mk (Value.ref b :: argsL).toArray X₁ hg hsize hdg hW (X₁.named hnamed) (hpre vm₁ X₁.warmed) with ⟨v, B, X', hpost, hsteps⟩ | ⟨q, B, X', hpost, hsteps⟩
  · exact Or.inl ⟨v, vm₁, B, X₁.warmed, X', hpost, fun target h => hstep₁ _ fun acts => by rw [doInvoke_state]; exact hsteps.trans h⟩
  · exact Or.inr ⟨q, vm₁, B, X₁.warmed, X', hpost, hstep₁ _ fun acts => by rw [doInvoke_state]; exact hsteps⟩
theorem vx_callS (X : Stand p l e R s m args below meth c T locs cells slots) (hexec : p.tables.exec = Jvm.exec) {own : String} {index : Nat} {y : MethodName} {bytes : ByteArray} {maxL : Nat} {ret : Option FieldType}
    (hown : s.vm.findClass own = some m.cls) (hlink : (Cond.methodLink own index y).before args s = true) (hstat : (Cond.static y).before args s = true) (hinit : (Cond.initialized y.cls).before args s = true)
    (hcode : (Cond.code y bytes maxL ret).before args s = true) (hy : y.cls ≠ "java/lang/invoke/MethodHandle" ∧ y.cls ≠ "java/lang/invoke/VarHandle")
    {W9 : Nat} {Pre : Pt → Array Value → Prop} {Post : Pt → Array Value → Option Value → Pt → Prop} {PostX : Pt → Array Value → Addr → Pt → Prop} (hK : vx_Back l R p e below s args y 3 W9 Pre Post PostX)
    {g : JFrame} (hg : g.method = m) (hsize : g.locals.size = c.maxLocals) {argsL rest : List Value} (hlen : ∀ sig, parseMethodDescriptor y.desc = some sig → argsL.length = sig.parameters.length)
    (hstack : g.stack = argsL.reverse ++ rest) (hW : 2 * g.monitorRoom + (rest.map fun v => v.category).sum ≤ W9) (hdg : decode c.code g.pc = .ok (.invokestatic index, 3))
    (hpre : ∀ vm₁, s.WarmedH vm₁ → Pre ⟨T.setVm vm₁, locs, cells, slots⟩ argsL.toArray) :
    (∃ (v : Option Value) (vm₁ : Vm) (B : Pt), s.WarmedH vm₁ ∧ Stand p l e R s m args below meth c B.U B.locs B.cells B.slots ∧ Post ⟨T.setVm vm₁, locs, cells, slots⟩ argsL.toArray v B ∧
      ∀ target, Steps p.tables e below (B.U.setTop { g with pc := g.pc + 3, stack := v.toList ++ rest }) target → Steps p.tables e below (T.setTop g) target) ∨
    (∃ (q : Addr) (vm₁ : Vm) (B : Pt), s.WarmedH vm₁ ∧ Stand p l e R s m args below meth c B.U B.locs B.cells B.slots ∧ PostX ⟨T.setVm vm₁, locs, cells, slots⟩ argsL.toArray q B ∧
      Steps p.tables e below (T.setTop g) ((B.U.setTop { g with stack := rest }).pushFrame (.throwing q))) := by
  obtain ⟨mk, hnamed⟩ := Cond.code_named hcode
  obtain ⟨methM, cM, hmethM, -, -, -, -, -, -, hsigM⟩ := Cond.code_spec hnamed hcode
  have hstatic : methM.isStatic = true := Cond.static_spec hnamed hmethM hstat
  obtain ⟨kP, hkP, -⟩ := className_of_methodNamed hnamed
  have hinitP : kP.init = .initialized := Cond.initialized_spec (findClass_of_methodNamed hnamed) hkP hinit
  obtain ⟨vm₁, X₁, hstep₁⟩ := X.invokestatic hexec hown hlink hnamed hmethM hstatic hkP hinitP hy (g := g) hg (argsL := argsL) (rest := rest) (hlen _ hsigM) hstack hdg
  rcases hK m meth c ⟨T.setVm vm₁, locs, cells, slots⟩ { g with stack := rest } (.invokestatic index) mk argsL.toArray X₁ hg hsize hdg hW (X₁.named hnamed) (hpre vm₁ X₁.warmed) with ⟨v, B, X', hpost, hsteps⟩ | ⟨q, B, X', hpost, hsteps⟩
  · exact Or.inl ⟨v, vm₁, B, X₁.warmed, X', hpost, fun target h => hstep₁ _ fun acts => by rw [doInvoke_state]; exact hsteps.trans h⟩
  · exact Or.inr ⟨q, vm₁, B, X₁.warmed, X', hpost, hstep₁ _ fun acts => by rw [doInvoke_state]; exact hsteps⟩
end Calls
theorem vx_cls {s : State} {T : State} {vm₁ : Vm} {E : String} {k : ClassId} (hW : s.WarmedH vm₁) (h : (T.setVm vm₁).vm.findClass E = some k) : s.vm.findClass E = some k := by
  have h1 : vm₁.findClass E = some k := h
  rw [hW.alike.findClass] at h1
  exact h1
/-- the method's frame g, with q thrown over it -/
def vx_W (p : Program) (l : Launch) (e : Env) (R : Room) (s : State) (m : MethodId) (args : Array Value) (below : List Frame) (meth : Method) (c : Code) (H : Heap) (locs : List Loc) (cells slots : Nat) (Q : State → Prop) (g : JFrame) (q : Addr) : Prop :=
  ∀ T : State, T.heap = H → Stand p l e R s m args below meth c T locs cells slots → ∃ t, Steps p.tables e below ((T.setTop g).pushFrame (.throwing q)) t ∧ Q t
def vx_Run (p : Program) (l : Launch) (e : Env) (R : Room) (s : State) (m : MethodId) (args : Array Value) (below : List Frame) (meth : Method) (c : Code) (H : Heap) (locs : List Loc) (cells slots mc ms : Nat) (g : JFrame) (rest : List Value) (Qa : State → Outcome → State → Prop) (XC : String → State → State → Prop) (free : Addr → Prop) : Prop :=
  ∀ T : State, T.heap = H → Stand p l e R s m args below meth c T locs cells slots →
    (∃ (v : Option Value) (st₀ t T' : State) (L : List Loc), st₀.heap = H ∧ Stand p l e R s m args below meth c T' (locs ++ L) (cells + mc) (slots + ms) ∧ (∀ q ∈ L, free q.base) ∧ T'.heap = t.heap ∧ T'.vm = t.vm ∧ Qa st₀ (.returned v) t ∧
      Goes p e below T g T' { g with pc := g.pc + 3, stack := v.toList ++ rest }) ∨
    (∃ (q : Addr) (st₀ t T' : State) (L : List Loc) (E : String) (ce : Cell), st₀.heap = H ∧ Stand p l e R s m args below meth c T' (locs ++ L) (cells + mc) (slots + ms) ∧ (∀ z ∈ L, free z.base) ∧ T'.heap = t.heap ∧ T'.vm = t.vm ∧ XC E st₀ t ∧ t.heap[q]? = some ce ∧ ce.vm = .none ∧ s.vm.findClass E = some ce.cls ∧
      Steps p.tables e below (T.setTop g) ((T'.setTop { g with stack := rest }).pushFrame (.throwing q)))
def vx_X {S : Type} (px : S → Prop) (B : String → S → State → Prop) (A : Nat → Prop) : String → State → State → Prop := fun E st t => ∃ u : S, px u ∧ B E u t ∧ va_F A st t
section Runs
variable {p : Program} {l : Launch} {e : Env} {R : Room} {s : State} {m : MethodId} {args : Array Value} {below : List Frame} {meth : Method} {c : Code} {H : Heap} {locs : List Loc} {cells slots : Nat}
variable {y : MethodName} {bytes cc : ByteArray} {maxL nL mc ms n index : Nat} {ret : Option FieldType} {ws : List Cond} {rm : Room} {Pc : Array Value → State → Prop} {Qc : Array Value → State → Outcome → State → Prop} {XC : String → State → State → Prop} {free : Addr → Prop} {Ts : List Cond} {own C : String} {b : Addr} {As rest : List Value} {g : JFrame}
theorem vx_callBack (cb : CallB R s args own index y bytes maxL ret ws rm mc ms n) (hM : vx_Met l y ws rm Pc Qc XC mc ms free) (hbl : FrameBlind Pc) : vx_Back l R p e below s args y 3 8 (PreOf R mc ms Pc) (PostOf Qc mc ms free) (vx_Post XC mc ms free) := by
  obtain ⟨hrc, hrs, hfr, hlo, hws, hcw, -, hini, -⟩ := cb
  exact vx_back (bytes := bytes) (maxL := maxL) (ret := ret) hM hbl hrc hrs hfr hlo hws hcw (fun a' U hW => word_at hW (Or.inl (by first | rfl | simp [Cond.onTables, Cond.keeps, Cond.steady])) hini)
theorem vx_runV (S : CallFix p m c cc nL s args Ts own) (hM : vx_Met l y ws rm Pc Qc XC mc ms free) (cw : CallW R s args own C index y bytes maxL ret ws rm mc ms n) (hp : PreV s H C b Pc As)
    (hg : g.method = m) (hn : As.length = n) (hsize : g.locals.size = nL) (hstack : g.stack = As.reverse ++ .ref b :: rest) (hW : 2 * g.monitorRoom + (rest.map fun v => v.category).sum ≤ 8) (hdg : decode cc g.pc = .ok (.invokevirtual index, 3)) (hf : cells + mc ≤ R.cells ∧ slots + ms ≤ R.slots) :
    vx_Run p l e R s m args below meth c H locs cells slots mc ms g rest (Qc (Value.ref b :: As).toArray) XC free := by
  have hK : vx_Back l R p e below s args y 3 8 (PreOf R mc ms Pc) (PostOf Qc mc ms free) (vx_Post XC mc ms free) := vx_callBack cw.1 hM hp.1
  obtain ⟨⟨-, -, -, -, -, -, hcode, -, hy, hlen, hl⟩, hin, hse⟩ := cw
  obtain ⟨hx, hb, hml, ho, -⟩ := S
  obtain ⟨-, ⟨cellB, hcB, hoB, hclB⟩, hPc⟩ := hp
  intro T hT X
  rcases vx_callV X hx (C := C) (bytes := bytes) (maxL := maxL) (ret := ret) ho hl hin hse hcode hy hK (by rw [hT]; exact hcB) hoB hclB hg (hsize.trans hml.symm) (argsL := As) (rest := rest) (fun sig h => hn.trans (hlen sig h)) hstack hW (by rw [hb]; exact hdg)
    (fun vm₁ hW₁ => ⟨hf.1, hf.2, hPc (T.setVm vm₁) hT hW₁⟩) with ⟨v, vm₁, ⟨U', l2, c2, s2⟩, hW₁, X', ⟨g', mk, t, L, e1, e2, hq, h1, hL, h2, h3⟩, st⟩ | ⟨q, vm₁, ⟨U', l2, c2, s2⟩, hW₁, X', ⟨g', mk, t, L, E, ce, e1, e2, hq, hce, hcv, hcl, h1, hL, h2, h3⟩, st⟩
  · dsimp only [Pt.U, Pt.locs, Pt.cells, Pt.slots] at X' e1 e2 h1 h2 h3 st
    subst h1; subst h2; subst h3
    exact Or.inl ⟨v, (T.setVm vm₁).calling g' mk (Value.ref b :: As).toArray, t, U', L, hT, X', hL, e1, e2, hq, st⟩
  · dsimp only [Pt.U, Pt.locs, Pt.cells, Pt.slots] at X' e1 e2 h1 h2 h3 st hcl
    subst h1; subst h2; subst h3
    exact Or.inr ⟨q, (T.setVm vm₁).calling g' mk (Value.ref b :: As).toArray, t, U', L, E, ce, hT, X', hL, e1, e2, hq, hce, hcv, vx_cls hW₁ hcl, st⟩
theorem vx_runS (S : CallFix p m c cc nL s args Ts own) (hM : vx_Met l y ws rm Pc Qc XC mc ms free) (cw : CallB R s args own index y bytes maxL ret ws rm mc ms n ∧ (Cond.static y).before args s = true) (hp : PreS s H Pc As)
    (hg : g.method = m) (hn : As.length = n) (hsize : g.locals.size = nL) (hstack : g.stack = As.reverse ++ rest) (hW : 2 * g.monitorRoom + (rest.map fun v => v.category).sum ≤ 8) (hdg : decode cc g.pc = .ok (.invokestatic index, 3)) (hf : cells + mc ≤ R.cells ∧ slots + ms ≤ R.slots) :
    vx_Run p l e R s m args below meth c H locs cells slots mc ms g rest (Qc As.toArray) XC free := by
  have hK : vx_Back l R p e below s args y 3 8 (PreOf R mc ms Pc) (PostOf Qc mc ms free) (vx_Post XC mc ms free) := vx_callBack cw.1 hM hp.1
  obtain ⟨⟨-, -, -, -, -, -, hcode, hini, hy, hlen, hl⟩, hstt⟩ := cw
  obtain ⟨hx, hb, hml, ho, -⟩ := S
  intro T hT X
  rcases vx_callS X hx (bytes := bytes) (maxL := maxL) (ret := ret) ho hl hstt hini hcode hy hK hg (hsize.trans hml.symm) (argsL := As) (rest := rest) (fun sig h => hn.trans (hlen sig h)) hstack hW (by rw [hb]; exact hdg)
    (fun vm₁ hW₁ => ⟨hf.1, hf.2, hp.2 (T.setVm vm₁) hT hW₁⟩) with ⟨v, vm₁, ⟨U', l2, c2, s2⟩, hW₁, X', ⟨g', mk, t, L, e1, e2, hq, h1, hL, h2, h3⟩, st⟩ | ⟨q, vm₁, ⟨U', l2, c2, s2⟩, hW₁, X', ⟨g', mk, t, L, E, ce, e1, e2, hq, hce, hcv, hcl, h1, hL, h2, h3⟩, st⟩
  · dsimp only [Pt.U, Pt.locs, Pt.cells, Pt.slots] at X' e1 e2 h1 h2 h3 st
    subst h1; subst h2; subst h3
    exact Or.inl ⟨v, (T.setVm vm₁).calling g' mk As.toArray, t, U', L, hT, X', hL, e1, e2, hq, st⟩
  · dsimp only [Pt.U, Pt.locs, Pt.cells, Pt.slots] at X' e1 e2 h1 h2 h3 st hcl
    subst h1; subst h2; subst h3
    exact Or.inr ⟨q, (T.setVm vm₁).calling g' mk As.toArray, t, U', L, E, ce, hT, X', hL, e1, e2, hq, hce, hcv, vx_cls hW₁ hcl, st⟩
end Runs
section Rows
variable {p : Program} {l : Launch} {e : Env} {R : Room} {s : State} {m : MethodId} {args : Array Value} {below : List Frame} {meth : Method} {c : Code} {H : Heap} {locs : List Loc} {cells slots : Nat} {Q : State → Prop}
variable {mc ms : Nat} {free : Addr → Prop} {A0 A1 : Nat → Prop} {H0 : Heap} {a : Array Value} {pc : Nat} {ls : Array Slot} {st0 rest : List Value}
theorem vx_keep {st₀ t T' : State} {L : List Loc} (h0 : st₀.heap = H) (e1 : T'.heap = t.heap) (hS : va_S A0 H0 H locs) (hA : ∀ q, q < H.size → A1 q → A0 q) (hf : ∀ q, free q → A0 q) (hL : ∀ q ∈ L, free q.base) (hF : va_F A1 st₀ t) :
    H.size ≤ T'.heap.size ∧ (∀ q : Nat, q < H.size → ¬ A1 q → T'.heap[q]? = H[q]?) ∧ va_S A0 H0 T'.heap (locs ++ L) := by
  obtain ⟨hz, hk⟩ := hF
  rw [h0] at hz hk
  exact ⟨by rw [e1]; exact hz, fun q h1 h2 => by rw [e1]; exact hk q h1 h2,
    ⟨Nat.le_trans hS.1 (by rw [e1]; exact hz), fun q h1 h2 => by rw [e1, hk q (Nat.lt_of_lt_of_le h1 hS.1) (fun z => h2 (hA q (Nat.lt_of_lt_of_le h1 hS.1) z))]; exact hS.2.1 q h1 h2, fun q hq => by
      rcases List.mem_append.mp hq with h | h
      · exact hS.2.2 q h
      · exact hf _ (hL q h)⟩⟩
theorem vx_calli {S SX : Type} {post : Int32 → S → Prop} {px : SX → Prop} {B : S → State → Prop} {BX : String → SX → State → Prop} {AX : Nat → Prop} (hr : vx_Run p l e R s m args below meth c H locs cells slots mc ms (F0 m pc ls st0) rest (va_Qi post B A1 a) (vx_X px BX AX) free) (hS : va_S A0 H0 H locs) (hA : ∀ q, q < H.size → A1 q → A0 q) (hf : ∀ q, free q → A0 q) (hAX : ∀ q, q < H.size → AX q → A0 q)
    (kx : ∀ (E : String) (ce : Cell) (q9 : Addr) (u : SX) (t : State) (H1 : Heap) (locs1 : List Loc), t.heap = H1 → s.vm.Alike t.vm → px u → BX E u t → H.size ≤ H1.size → (∀ q : Nat, q < H.size → ¬ AX q → H1[q]? = H[q]?) → va_S A0 H0 H1 locs1 → H1[q9]? = some ce → ce.vm = .none → s.vm.findClass E = some ce.cls → vx_W p l e R s m args below meth c H1 locs1 (cells + mc) (slots + ms) Q (F0 m pc ls rest) q9)
    (kk : ∀ (r : Int32) (u : S) (t : State) (H1 : Heap) (locs1 : List Loc), t.heap = H1 → s.vm.Alike t.vm → post r u → B u t → H.size ≤ H1.size → (∀ q : Nat, q < H.size → ¬ A1 q → H1[q]? = H[q]?) → va_S A0 H0 H1 locs1 → W p l e R s m args below meth c H1 locs1 (cells + mc) (slots + ms) Q (F0 m (pc + 3) ls (.int r :: rest))) : W p l e R s m args below meth c H locs cells slots Q (F0 m pc ls st0) := by
  intro T hT X
  rcases hr T hT X with ⟨v, st₀, t, T', L, h0, X', hL, e1, e2, ⟨⟨r, u, hv, hp, hb⟩, hF⟩, st⟩ | ⟨q, st₀, t, T', L, E, ce, h0, X', hL, e1, e2, ⟨u, hp, hb, hF⟩, hce, hcv, hcl, st⟩
  · cases hv
    obtain ⟨k1, k2, k3⟩ := vx_keep h0 e1 hS hA hf hL hF
    obtain ⟨t2, a1, b1⟩ := kk r u t T'.heap (locs ++ L) e1.symm (by rw [← e2]; exact X'.warmed.alike) hp hb k1 k2 k3 T' rfl X'
    exact ⟨t2, st t2 a1, b1⟩
  · obtain ⟨k1, k2, k3⟩ := vx_keep h0 e1 hS hAX hf hL hF
    obtain ⟨t2, a1, b1⟩ := kx E ce q u t T'.heap (locs ++ L) e1.symm (by rw [← e2]; exact X'.warmed.alike) hp hb k1 k2 k3 (by rw [e1]; exact hce) hcv hcl T' rfl X'
    exact ⟨t2, st.trans a1, b1⟩
theorem vx_calll {S SX : Type} {post : Int64 → S → Prop} {px : SX → Prop} {B : S → State → Prop} {BX : String → SX → State → Prop} {AX : Nat → Prop} (hr : vx_Run p l e R s m args below meth c H locs cells slots mc ms (F0 m pc ls st0) rest (va_Ql post B A1 a) (vx_X px BX AX) free) (hS : va_S A0 H0 H locs) (hA : ∀ q, q < H.size → A1 q → A0 q) (hf : ∀ q, free q → A0 q) (hAX : ∀ q, q < H.size → AX q → A0 q)
    (kx : ∀ (E : String) (ce : Cell) (q9 : Addr) (u : SX) (t : State) (H1 : Heap) (locs1 : List Loc), t.heap = H1 → s.vm.Alike t.vm → px u → BX E u t → H.size ≤ H1.size → (∀ q : Nat, q < H.size → ¬ AX q → H1[q]? = H[q]?) → va_S A0 H0 H1 locs1 → H1[q9]? = some ce → ce.vm = .none → s.vm.findClass E = some ce.cls → vx_W p l e R s m args below meth c H1 locs1 (cells + mc) (slots + ms) Q (F0 m pc ls rest) q9)
    (kk : ∀ (r : Int64) (u : S) (t : State) (H1 : Heap) (locs1 : List Loc), t.heap = H1 → s.vm.Alike t.vm → post r u → B u t → H.size ≤ H1.size → (∀ q : Nat, q < H.size → ¬ A1 q → H1[q]? = H[q]?) → va_S A0 H0 H1 locs1 → W p l e R s m args below meth c H1 locs1 (cells + mc) (slots + ms) Q (F0 m (pc + 3) ls (.long r :: rest))) : W p l e R s m args below meth c H locs cells slots Q (F0 m pc ls st0) := by
  intro T hT X
  rcases hr T hT X with ⟨v, st₀, t, T', L, h0, X', hL, e1, e2, ⟨⟨r, u, hv, hp, hb⟩, hF⟩, st⟩ | ⟨q, st₀, t, T', L, E, ce, h0, X', hL, e1, e2, ⟨u, hp, hb, hF⟩, hce, hcv, hcl, st⟩
  · cases hv
    obtain ⟨k1, k2, k3⟩ := vx_keep h0 e1 hS hA hf hL hF
    obtain ⟨t2, a1, b1⟩ := kk r u t T'.heap (locs ++ L) e1.symm (by rw [← e2]; exact X'.warmed.alike) hp hb k1 k2 k3 T' rfl X'
    exact ⟨t2, st t2 a1, b1⟩
  · obtain ⟨k1, k2, k3⟩ := vx_keep h0 e1 hS hAX hf hL hF
    obtain ⟨t2, a1, b1⟩ := kx E ce q u t T'.heap (locs ++ L) e1.symm (by rw [← e2]; exact X'.warmed.alike) hp hb k1 k2 k3 (by rw [e1]; exact hce) hcv hcl T' rfl X'
    exact ⟨t2, st.trans a1, b1⟩
theorem vx_callf {S SX : Type} {post : UInt32 → S → Prop} {px : SX → Prop} {B : S → State → Prop} {BX : String → SX → State → Prop} {AX : Nat → Prop} (hr : vx_Run p l e R s m args below meth c H locs cells slots mc ms (F0 m pc ls st0) rest (va_Qf post B A1 a) (vx_X px BX AX) free) (hS : va_S A0 H0 H locs) (hA : ∀ q, q < H.size → A1 q → A0 q) (hf : ∀ q, free q → A0 q) (hAX : ∀ q, q < H.size → AX q → A0 q)
    (kx : ∀ (E : String) (ce : Cell) (q9 : Addr) (u : SX) (t : State) (H1 : Heap) (locs1 : List Loc), t.heap = H1 → s.vm.Alike t.vm → px u → BX E u t → H.size ≤ H1.size → (∀ q : Nat, q < H.size → ¬ AX q → H1[q]? = H[q]?) → va_S A0 H0 H1 locs1 → H1[q9]? = some ce → ce.vm = .none → s.vm.findClass E = some ce.cls → vx_W p l e R s m args below meth c H1 locs1 (cells + mc) (slots + ms) Q (F0 m pc ls rest) q9)
    (kk : ∀ (r : UInt32) (u : S) (t : State) (H1 : Heap) (locs1 : List Loc), t.heap = H1 → s.vm.Alike t.vm → post r u → B u t → H.size ≤ H1.size → (∀ q : Nat, q < H.size → ¬ A1 q → H1[q]? = H[q]?) → va_S A0 H0 H1 locs1 → W p l e R s m args below meth c H1 locs1 (cells + mc) (slots + ms) Q (F0 m (pc + 3) ls (.float r :: rest))) : W p l e R s m args below meth c H locs cells slots Q (F0 m pc ls st0) := by
  intro T hT X
  rcases hr T hT X with ⟨v, st₀, t, T', L, h0, X', hL, e1, e2, ⟨⟨r, u, hv, hp, hb⟩, hF⟩, st⟩ | ⟨q, st₀, t, T', L, E, ce, h0, X', hL, e1, e2, ⟨u, hp, hb, hF⟩, hce, hcv, hcl, st⟩
  · cases hv
    obtain ⟨k1, k2, k3⟩ := vx_keep h0 e1 hS hA hf hL hF
    obtain ⟨t2, a1, b1⟩ := kk r u t T'.heap (locs ++ L) e1.symm (by rw [← e2]; exact X'.warmed.alike) hp hb k1 k2 k3 T' rfl X'
    exact ⟨t2, st t2 a1, b1⟩
  · obtain ⟨k1, k2, k3⟩ := vx_keep h0 e1 hS hAX hf hL hF
    obtain ⟨t2, a1, b1⟩ := kx E ce q u t T'.heap (locs ++ L) e1.symm (by rw [← e2]; exact X'.warmed.alike) hp hb k1 k2 k3 (by rw [e1]; exact hce) hcv hcl T' rfl X'
    exact ⟨t2, st.trans a1, b1⟩
theorem vx_calld {S SX : Type} {post : UInt64 → S → Prop} {px : SX → Prop} {B : S → State → Prop} {BX : String → SX → State → Prop} {AX : Nat → Prop} (hr : vx_Run p l e R s m args below meth c H locs cells slots mc ms (F0 m pc ls st0) rest (va_Qd post B A1 a) (vx_X px BX AX) free) (hS : va_S A0 H0 H locs) (hA : ∀ q, q < H.size → A1 q → A0 q) (hf : ∀ q, free q → A0 q) (hAX : ∀ q, q < H.size → AX q → A0 q)
    (kx : ∀ (E : String) (ce : Cell) (q9 : Addr) (u : SX) (t : State) (H1 : Heap) (locs1 : List Loc), t.heap = H1 → s.vm.Alike t.vm → px u → BX E u t → H.size ≤ H1.size → (∀ q : Nat, q < H.size → ¬ AX q → H1[q]? = H[q]?) → va_S A0 H0 H1 locs1 → H1[q9]? = some ce → ce.vm = .none → s.vm.findClass E = some ce.cls → vx_W p l e R s m args below meth c H1 locs1 (cells + mc) (slots + ms) Q (F0 m pc ls rest) q9)
    (kk : ∀ (r : UInt64) (u : S) (t : State) (H1 : Heap) (locs1 : List Loc), t.heap = H1 → s.vm.Alike t.vm → post r u → B u t → H.size ≤ H1.size → (∀ q : Nat, q < H.size → ¬ A1 q → H1[q]? = H[q]?) → va_S A0 H0 H1 locs1 → W p l e R s m args below meth c H1 locs1 (cells + mc) (slots + ms) Q (F0 m (pc + 3) ls (.double r :: rest))) : W p l e R s m args below meth c H locs cells slots Q (F0 m pc ls st0) := by
  intro T hT X
  rcases hr T hT X with ⟨v, st₀, t, T', L, h0, X', hL, e1, e2, ⟨⟨r, u, hv, hp, hb⟩, hF⟩, st⟩ | ⟨q, st₀, t, T', L, E, ce, h0, X', hL, e1, e2, ⟨u, hp, hb, hF⟩, hce, hcv, hcl, st⟩
  · cases hv
    obtain ⟨k1, k2, k3⟩ := vx_keep h0 e1 hS hA hf hL hF
    obtain ⟨t2, a1, b1⟩ := kk r u t T'.heap (locs ++ L) e1.symm (by rw [← e2]; exact X'.warmed.alike) hp hb k1 k2 k3 T' rfl X'
    exact ⟨t2, st t2 a1, b1⟩
  · obtain ⟨k1, k2, k3⟩ := vx_keep h0 e1 hS hAX hf hL hF
    obtain ⟨t2, a1, b1⟩ := kx E ce q u t T'.heap (locs ++ L) e1.symm (by rw [← e2]; exact X'.warmed.alike) hp hb k1 k2 k3 (by rw [e1]; exact hce) hcv hcl T' rfl X'
    exact ⟨t2, st.trans a1, b1⟩
theorem vx_callv {S SX : Type} {post : S → Prop} {px : SX → Prop} {B : S → State → Prop} {BX : String → SX → State → Prop} {AX : Nat → Prop} (hr : vx_Run p l e R s m args below meth c H locs cells slots mc ms (F0 m pc ls st0) rest (va_Qv post B A1 a) (vx_X px BX AX) free) (hS : va_S A0 H0 H locs) (hA : ∀ q, q < H.size → A1 q → A0 q) (hf : ∀ q, free q → A0 q) (hAX : ∀ q, q < H.size → AX q → A0 q)
    (kx : ∀ (E : String) (ce : Cell) (q9 : Addr) (u : SX) (t : State) (H1 : Heap) (locs1 : List Loc), t.heap = H1 → s.vm.Alike t.vm → px u → BX E u t → H.size ≤ H1.size → (∀ q : Nat, q < H.size → ¬ AX q → H1[q]? = H[q]?) → va_S A0 H0 H1 locs1 → H1[q9]? = some ce → ce.vm = .none → s.vm.findClass E = some ce.cls → vx_W p l e R s m args below meth c H1 locs1 (cells + mc) (slots + ms) Q (F0 m pc ls rest) q9)
    (kk : ∀ (u : S) (t : State) (H1 : Heap) (locs1 : List Loc), t.heap = H1 → s.vm.Alike t.vm → post u → B u t → H.size ≤ H1.size → (∀ q : Nat, q < H.size → ¬ A1 q → H1[q]? = H[q]?) → va_S A0 H0 H1 locs1 → W p l e R s m args below meth c H1 locs1 (cells + mc) (slots + ms) Q (F0 m (pc + 3) ls (rest))) : W p l e R s m args below meth c H locs cells slots Q (F0 m pc ls st0) := by
  intro T hT X
  rcases hr T hT X with ⟨v, st₀, t, T', L, h0, X', hL, e1, e2, ⟨⟨u, hv, hp, hb⟩, hF⟩, st⟩ | ⟨q, st₀, t, T', L, E, ce, h0, X', hL, e1, e2, ⟨u, hp, hb, hF⟩, hce, hcv, hcl, st⟩
  · cases hv
    obtain ⟨k1, k2, k3⟩ := vx_keep h0 e1 hS hA hf hL hF
    obtain ⟨t2, a1, b1⟩ := kk u t T'.heap (locs ++ L) e1.symm (by rw [← e2]; exact X'.warmed.alike) hp hb k1 k2 k3 T' rfl X'
    exact ⟨t2, st t2 a1, b1⟩
  · obtain ⟨k1, k2, k3⟩ := vx_keep h0 e1 hS hAX hf hL hF
    obtain ⟨t2, a1, b1⟩ := kx E ce q u t T'.heap (locs ++ L) e1.symm (by rw [← e2]; exact X'.warmed.alike) hp hb k1 k2 k3 (by rw [e1]; exact hce) hcv hcl T' rfl X'
    exact ⟨t2, st.trans a1, b1⟩
/-- caught by the row x of this method's table; the rows ahead don't take it -/
theorem vx_catch {own name : String} {E : String} {ce : Cell} {q : Addr} (hown : s.vm.findClass own = some m.cls) (pre : List ExceptionTableEntry) (x : ExceptionTableEntry) (suf : List ExceptionTableEntry) (hsplit : c.exceptionTable.toList = pre ++ x :: suf)
    (hpass : ∀ z ∈ pre, covers z pc = false ∨ (z.catchType ≠ 0 ∧ ∃ nm : String, (Cond.classLink own z.catchType nm).before args s = true ∧ va_Nc E nm s)) (hx : covers x pc = true) (h0 : x.catchType ≠ 0)
    (hlink : (Cond.classLink own x.catchType name).before args s = true) (hcast : (Cond.castable E name).before args s = true) (hcell : H[q]? = some ce) (hv : ce.vm = .none) (hcl : s.vm.findClass E = some ce.cls)
    (kk : W p l e R s m args below meth c H locs cells slots Q (F0 m x.handlerPc ls [.ref q])) : vx_W p l e R s m args below meth c H locs cells slots Q (F0 m pc ls rest) q := by
  intro T hT X
  have hpl : e.platform.magicAccessors = ({} : Platform).magicAccessors := by rw [X.admits.platform]
  obtain ⟨c3, c4, hc3, hc4, hasg⟩ := Cond.castable_spec hcast
  cases Option.some.inj (hc3.symm.trans hcl)
  obtain ⟨c5, hc5, hcl5⟩ := Cond.classLink_spec hown hlink e.platform hpl
  cases Option.some.inj (hc4.symm.trans hc5)
  obtain ⟨vm', X', st⟩ := X.thenCaughtThrough q (g := F0 m pc ls rest) rfl (Steps.refl _) (by rw [hT]; exact hcell) (by rw [hv]; rfl) (by obtain ⟨k9, h9, -⟩ := Vm.findClass_spec hcl; exact ⟨k9, h9⟩) pre x suf hsplit
    (fun z hz => by
      rcases hpass z hz with h | ⟨hz0, nm, hl1, hn1⟩
      · exact Or.inl h
      · obtain ⟨c6, hc6, hcl6⟩ := Cond.classLink_spec hown hl1 e.platform hpl
        obtain ⟨a8, b8, h1, h2, h3⟩ := hn1
        cases Option.some.inj (h1.symm.trans hcl)
        cases Option.some.inj (h2.symm.trans hc6)
        exact Or.inr ⟨hz0, _, hcl6, h3⟩) hx (Or.inr ⟨h0, c4, hcl5, hasg⟩)
  obtain ⟨t, a1, b1⟩ := kk (T.setVm vm') hT X'
  exact ⟨t, st.trans a1, b1⟩
end Rows
section Ends
variable {p : Program} {l : Launch} {e : Env} {R : Room} {s : State} {m : MethodId} {args : Array Value} {below : List Frame} {meth : Method} {c : Code} {H : Heap} {locs : List Loc} {cells slots : Nat} {Q : State → Prop}
variable {mc ms : Nat} {free : Addr → Prop} {A0 A1 : Nat → Prop} {H0 : Heap} {a : Array Value} {ls : Array Slot} {st0 rest : List Value}
variable {Qc : Array Value → State → Outcome → State → Prop} {XC : String → State → State → Prop}
/-- what a body that may throw owes at its end -/
def vx_MQ (below : List Frame) (Qc : Array Value → State → Outcome → State → Prop) (XC : String → State → State → Prop) (a : Array Value) (s : State) (mc ms : Nat) (free : Addr → Prop) : State → Prop := fun t =>
  ∃ o, t.status = .running ∧ Ended t below o ∧ vx_Q Qc XC mc ms free a s o t
theorem vx_ret {g : JFrame} {mc ms : Nat} (k : W p l e R s m args below meth c H locs cells slots (MQ below Qc args s mc ms free) g) : W p l e R s m args below meth c H locs cells slots (vx_MQ below Qc XC args s mc ms free) g := by
  intro T hT X
  obtain ⟨t, a1, o, b1, b2, b3, b4⟩ := k T hT X
  exact ⟨t, a1, o, b1, b2, Or.inl ⟨b3, b4⟩⟩
/-- not caught here: it goes on to the caller -/
theorem vx_widen {g : JFrame} {q : Addr} {k n : Nat} (h1 : cells ≤ k) (h2 : slots ≤ n) (kk : vx_W p l e R s m args below meth c H locs k n Q g q) : vx_W p l e R s m args below meth c H locs cells slots Q g q := fun T hT X => kk T hT (stand_widen X h1 h2)
theorem vx_out {pc : Nat} {E : String} {ce : Cell} {q : Addr} {mc ms : Nat} (hout : ∀ x ∈ c.exceptionTable.toList, covers x pc = false) (hlocks : meth.locks = false) (hcell : H[q]? = some ce) (hv : ce.vm = .none) (hcl : s.vm.findClass E = some ce.cls)
    (hx : ∀ t : State, t.heap = H → s.vm.Alike t.vm → XC E s t) (hf : ∀ z ∈ locs, free z.base) (hc : cells ≤ mc) (hs : slots ≤ ms) :
    vx_W p l e R s m args below meth c H locs cells slots (vx_MQ below Qc XC args s mc ms free) (F0 m pc ls rest) q := by
  intro T hT X
  obtain ⟨st1, hrun, hend, hW, hsm⟩ := X.leaveThrown q (g := F0 m pc ls rest) rfl rfl rfl hout hlocks
  have hcell9 : (T.setFrames (.throwing q :: below)).heap[q]? = some ce := by
    show T.heap[q]? = some ce
    rw [hT]; exact hcell
  exact ⟨_, st1, .threw q, hrun, hend, Or.inr ⟨q, rfl, E, ce, locs, hx _ hT hW.alike, hcell9, hv, hcl, hW, hsm.mono hc hs, hf⟩⟩
theorem vx_frame {U : State} {k n : Nat} (h : s.sameButNew ({ U with vm := s.vm } : State) locs k n) : s.heap.size ≤ U.heap.size ∧ ∀ q : Nat, q < s.heap.size → (∀ z ∈ locs, z.base ≠ q) → U.heap[q]? = s.heap[q]? := by
  obtain ⟨-, h2, -, -, -, h6⟩ := h
  refine ⟨h2, fun q hq hz => ?_⟩
  obtain ⟨c9, e1, e2, e3, e4⟩ := h6 q _ (Array.getElem?_eq_getElem hq)
  have hs : c9.slots = (s.heap[q]).slots := Array.ext_getElem? fun i => e4 i fun hm => hz _ hm rfl
  have h9 : c9 = s.heap[q] := by
    rw [hs] at e2
    exact e2
  have e5 : U.heap[q]? = some c9 := e1
  rw [e5, h9, Array.getElem?_eq_getElem hq]
/-- the words of a throw but the four that speak of the heap -/
def vx_no (w : Cond) : Bool := decide (w ≠ .isRef (.static Bundle.tN "UNASSIGNED_STACK" Bundle.steD)) && decide (w ≠ .isRef (.static Bundle.tN "SUPPRESSED_SENTINEL" Bundle.listD)) && decide (w ≠ .laysStatic Bundle.tN "UNASSIGNED_STACK" Bundle.steD) && decide (w ≠ .laysStatic Bundle.tN "SUPPRESSED_SENTINEL" Bundle.listD)
def vx_at0 (own : String) (ic : Nat) (X : String) (names : List String) : List Cond := (Bundle.ownAtoms0 own ic X names).filter vx_no
def vx_atS (own : String) (ic : Nat) (X : String) (names : List String) : List Cond := (Bundle.ownAtoms own ic X names).filter vx_no
/-- a word that the tables alone decide, or a good one -/
def vx_ot (w : Cond) : Bool := w.onTables || goodWord w
theorem vx_ot_at {args a' : Array Value} {s U : State} {w : Cond} (hW : s.WarmedH U.vm) (hvm : s.vm = U.vm) (hg : vx_ot w = true) (h : w.before args s = true) : w.before a' U = true := by
  simp only [vx_ot, Bool.or_eq_true] at hg
  rcases hg with hg | hg
  · exact va_tabs hg hvm h
  · exact word_at hW (good_of_word hg) h
/-- a list's words: the good ones out of the method's own list, the others by premises of their own -/
theorem vx_hat {args : Array Value} {s : State} {L B : List Cond} (h1 : ∀ w ∈ L.filter goodWord, w.before args s = true) (h2 : ∀ w ∈ L.filter (fun w => !goodWord w), w ∈ B) (h3 : ∀ w ∈ B, w.before args s = true) : ∀ w ∈ L, w.before args s = true := by
  intro w hw
  by_cases g : goodWord w = true
  · exact h1 w (List.mem_filter.mpr ⟨hw, g⟩)
  · refine h3 w (h2 w (List.mem_filter.mpr ⟨hw, ?_⟩))
    show (!goodWord w) = true
    cases hgw : goodWord w
    · rfl
    · exact absurd hgw g
theorem vx_c {args : Array Value} {s : State} {w : Cond} {B : List Cond} (h : w.before args s = true) (t : ∀ w ∈ B, w.before args s = true) : ∀ w' ∈ w :: B, w'.before args s = true := fun w' h' => (List.mem_cons.mp h').elim (fun e => by rw [e]; exact h) (t w')
theorem vx_n {args : Array Value} {s : State} : ∀ w ∈ ([] : List Cond), w.before args s = true := fun _ h => nomatch h
theorem vx_own {args : Array Value} {s : State} {L : List Cond} (h1 : ∀ w ∈ L.filter vx_no, w.before args s = true)
    (hU : (Cond.isRef (.static Bundle.tN "UNASSIGNED_STACK" Bundle.steD)).before args s = true) (hN : (Cond.isRef (.static Bundle.tN "SUPPRESSED_SENTINEL" Bundle.listD)).before args s = true)
    (lU : (Cond.laysStatic Bundle.tN "UNASSIGNED_STACK" Bundle.steD).before args s = true) (lN : (Cond.laysStatic Bundle.tN "SUPPRESSED_SENTINEL" Bundle.listD).before args s = true) : ∀ w ∈ L, w.before args s = true := by
  intro w hw
  by_cases e1 : w = .isRef (.static Bundle.tN "UNASSIGNED_STACK" Bundle.steD)
  · rw [e1]; exact hU
  · by_cases e2 : w = .isRef (.static Bundle.tN "SUPPRESSED_SENTINEL" Bundle.listD)
    · rw [e2]; exact hN
    · by_cases e3 : w = .laysStatic Bundle.tN "UNASSIGNED_STACK" Bundle.steD
      · rw [e3]; exact lU
      · by_cases e4 : w = .laysStatic Bundle.tN "SUPPRESSED_SENTINEL" Bundle.listD
        · rw [e4]; exact lN
        · exact h1 w (List.mem_filter.mpr ⟨hw, by unfold vx_no; rw [decide_eq_true e1, decide_eq_true e2, decide_eq_true e3, decide_eq_true e4]; rfl⟩)
/-- where a static field lies, its class's statics cell in H -/
def vx_L (C n d : String) (A : Nat → Prop) (U : State) (H : Heap) : Prop := ∃ (c : ClassId) (k : Class) (i : Nat) (f : Field) (a : Nat) (cell : Cell), U.vm.findClass C = some c ∧ U.fieldFound? C n d = some (c, k, i, f) ∧ f.isStatic = true ∧ k.statics = some a ∧ H[a]? = some cell ∧ cell.vm.isStatics = true ∧ cell.cls = c ∧ f.slot < cell.slots.size ∧ k.staticTypes[f.slot]? = some f.type ∧ ¬ A a
theorem vx_L.moved {C n d : String} {A : Nat → Prop} {u U : State} {H : Heap} (hvm : u.vm.Alike U.vm) (h : vx_L C n d A u H) : vx_L C n d A U H := by
  obtain ⟨c, k, i, f, a, cell, h1, h2, h3, h4, h5, h6, h7, h8, h9, h10⟩ := h
  obtain ⟨k', hi', he⟩ := State.fieldFound?_setVm hvm h2
  exact ⟨c, k', i, f, a, cell, by rw [hvm.findClass]; exact h1, hi', h3, by rw [he]; exact h4, h5, h6, h7, h8, by rw [he]; exact h9, h10⟩
theorem vx_L.kept {C n d : String} {A : Nat → Prop} {U : State} {H H1 : Heap} (h : vx_L C n d A U H) (hq : ∀ a : Nat, a < H.size → ¬ A a → H1[a]? = H[a]?) : vx_L C n d A U H1 := by
  obtain ⟨c, k, i, f, a, cell, h1, h2, h3, h4, h5, h6, h7, h8, h9, h10⟩ := h
  exact ⟨c, k, i, f, a, cell, h1, h2, h3, h4, by rw [hq a (Array.getElem?_eq_some_iff.mp h5).1 h10]; exact h5, h6, h7, h8, h9, h10⟩
theorem vx_L.narrow {C n d : String} {A B : Nat → Prop} {U : State} {H : Heap} (h : vx_L C n d A U H) (hAB : ∀ q, B q → A q) : vx_L C n d B U H := by
  obtain ⟨c, k, i, f, a, cell, h1, h2, h3, h4, h5, h6, h7, h8, h9, h10⟩ := h
  exact ⟨c, k, i, f, a, cell, h1, h2, h3, h4, h5, h6, h7, h8, h9, fun z => h10 (hAB _ z)⟩
theorem vx_L.word {C n d : String} {A : Nat → Prop} {s : State} {args : Array Value} (h : vx_L C n d A s s.heap) : (Cond.laysStatic C n d).before args s = true := by
  obtain ⟨c, k, i, f, a, cell, h1, h2, h3, h4, h5, h6, h7, h8, h9, -⟩ := h
  show (Cond.laysStatic C n d).holds args s none s [] = true
  exact Cond.laysStatic_of h1 h2 h3 h4 h5 h6 h7 h8 h9
/-- .. and what it holds: null or some reference -/
def vx_Zq (C n d : String) (A : Nat → Prop) (U : State) (H : Heap) : Prop := va_Zq C n d A U H ∧ vx_L C n d A U H
theorem vx_Zq.moved {C n d : String} {A : Nat → Prop} {u U : State} {H : Heap} (hvm : u.vm.Alike U.vm) (h : vx_Zq C n d A u H) : vx_Zq C n d A U H := ⟨va_Zq.moved hvm h.1, vx_L.moved hvm h.2⟩
theorem vx_Zq.kept {C n d : String} {A : Nat → Prop} {U : State} {H H1 : Heap} (h : vx_Zq C n d A U H) (hq : ∀ a : Nat, a < H.size → ¬ A a → H1[a]? = H[a]?) : vx_Zq C n d A U H1 := ⟨va_Zq.kept h.1 hq, vx_L.kept h.2 hq⟩
theorem vx_Zq.narrow {C n d : String} {A B : Nat → Prop} {U : State} {H : Heap} (h : vx_Zq C n d A U H) (hAB : ∀ q, B q → A q) : vx_Zq C n d B U H := ⟨va_Zq.narrow h.1 hAB, vx_L.narrow h.2 hAB⟩
theorem vx_Zqof {args : Array Value} {s : State} {C n d : String} {A : Nat → Prop} (hl : (Cond.laysStatic C n d).before args s = true) (hini : (Cond.initialized C).before args s = true) (h : (Cond.isRef (.static C n d)).before args s = true) (hA : ∀ a : Nat, a < s.heap.size → ¬ A a) : vx_Zq C n d A s s.heap := by
  refine ⟨va_Zqof hl hini h hA, ?_⟩
  obtain ⟨c, k, i, f, a, cell, h1, h2, h3, h4, h5, h6, h7, h8, h9⟩ := Cond.laysStatic_spec hl
  exact ⟨c, k, i, f, a, cell, h1, h2, h3, h4, h5, h6, h7, h8, h9, hA a (Array.getElem?_eq_some_iff.mp h5).1⟩
theorem vx_isRef {C n d : String} {v : Value} {A : Nat → Prop} {s : State} {args : Array Value} (h : va_Z C n d v A s s.heap) (hv : v.isRef = true) : (Cond.isRef (.static C n d)).before args s = true := by
  obtain ⟨cf, kf, fi, f, a, cell, h1, h2, h3, h4, h5, h6, h7, -⟩ := h
  have he : (Term.static C n d).eval args s none [] s = some v := by
    simp [Term.eval, State.fieldNamed?, h1, h2, h4, h5, h6, h7]
  simp only [Cond.before, Cond.holds, Cond.value, he]
  cases v <;> simp_all [Value.isRef]
theorem vx_isRefq {C n d : String} {A : Nat → Prop} {s : State} {args : Array Value} (h : va_Zq C n d A s s.heap) : (Cond.isRef (.static C n d)).before args s = true := by
  rcases h with h | ⟨t, h⟩
  · exact vx_isRef h rfl
  · exact vx_isRef h rfl
/-- the same frame, seen from here: as if the method were called anew in this heap -/
theorem vx_rebase {T : State} (X : Stand p l e R s m args below meth c T locs cells slots) {R' : Room} (hf : R'.frames ≤ R.frames) (hl : R'.locals ≤ R.locals) (hc : cells + R'.cells ≤ R.cells) (hs : slots + R'.slots ≤ R.slots) :
    Stand p l e R' ((T.setVm s.vm).setFrames (.invoking m args :: below)) m args below meth c T [] 0 0 := by
  have htop : (T.setVm s.vm).topJava?.isSome := X.here.top
  have hF : ((T.setVm s.vm).setFrames (.invoking m args :: below)).frames = .invoking m args :: below := State.frames_setFrames _ (State.cur_lt_of_top htop)
  obtain ⟨g₀, hg0⟩ := Option.isSome_iff_exists.mp htop
  obtain ⟨r, hr⟩ := State.topJava?_eq_some.mp hg0
  have hl9 : e.platform.stackLimits (T.setVm s.vm).me = e.platform.stackLimits s.me := X.limits
  have hb9 : (T.setVm s.vm).me.stackBytes = s.me.stackBytes := X.bytes
  refine ⟨X.admits, X.cas, X.clock, hF, ?_, X.hears, X.method, X.code, X.here, X.tail, X.warmed, ?_, ?_, ?_⟩
  · have h := X.room
    have hU : ((T.setVm s.vm).setFrames (.invoking m args :: below)).localsInUse = s.localsInUse := by
      rw [State.localsInUse_invoking hF (meth := meth) (c := c) X.method X.code, State.localsInUse_invoking X.frames X.method X.code]
    simp only [State.hasRoom, Bool.and_eq_true, decide_eq_true_eq] at h ⊢
    obtain ⟨⟨⟨⟨h1, h2, h3, h4, h5, h6⟩, h7⟩, h8⟩, h9⟩ := h
    rw [X.frames, List.length_cons] at h2 h3
    have q1 := X.heapSize
    have q2 := X.used
    simp only [hF, hU, List.length_cons, State.stackLimits_setFrames, State.stackBytes_setFrames, hl9, hb9]
    refine ⟨⟨⟨⟨by omega, by omega, by omega, by omega, by omega, h6⟩, ?_⟩, ?_⟩, X.book⟩
    · show T.heap.size + R'.cells ≤ e.platform.maxCells
      omega
    · show T.slotsUsed + R'.slots ≤ e.platform.maxSlots
      omega
  · rw [State.stackLimits_setFrames]; rfl
  · rw [State.stackBytes_setFrames]; rfl
  · refine ⟨?_, Nat.le_refl _, Nat.le_refl _, ?_, ?_, fun a c9 h9 => ⟨c9, h9, rfl, rfl, fun _ _ => rfl⟩⟩
    · obtain ⟨t, ht, -⟩ := State.frames_cons hr
      show T.setVm s.vm = { ((T.setVm s.vm).setFrames (.invoking m args :: below)).setFrames (T.setVm s.vm).frames with heap := T.heap, slotsUsed := T.slotsUsed }
      rw [State.setFrames_setFrames, State.setFrames_self ht]
      rfl
    · show T.slotsUsed = T.slotsUsed + ((T.heap.toList.drop T.heap.size).map (·.slots.size)).sum
      rw [List.drop_eq_nil_of_le (Nat.le_of_eq Array.length_toList)]
      rfl
    · show ((T.heap.toList.drop T.heap.size).map (·.slots.size)).sum ≤ 0
      rw [List.drop_eq_nil_of_le (Nat.le_of_eq Array.length_toList)]
      exact Nat.le_refl _
/-- 'throw new E()': new; dup; invokespecial; athrow -/
theorem vx_throw0 {cc : ByteArray} {pc : Nat} (hexec : p.tables.exec = Jvm.exec) (hb : c.code = cc) (hl : l.stackTraces = false) {own cls : String} {names : List String} {ik ic mc ms : Nat} {A : Nat → Prop}
    (hown : s.vm.findClass own = some m.cls) (hcls : Bundle.fit cls = true) (hnames : ∀ n ∈ names, Bundle.fit n = true)
    (hk : (Cond.classLink own ik cls).before args s = true) (hini : (Cond.initialized cls).before args s = true) (hat : ∀ w ∈ vx_at0 own ic cls names, w.before args s = true)
    (hgood : ∀ w ∈ Cond.classLink own ik cls :: Cond.initialized cls :: vx_at0 own ic cls names, vx_ot w = true)
    (hU : vx_Zq Bundle.tN "UNASSIGNED_STACK" Bundle.steD A s s.heap) (hN : vx_Zq Bundle.tN "SUPPRESSED_SENTINEL" Bundle.listD A s s.heap) (hS : va_S A s.heap H locs) (hsize : ls.size = c.maxLocals)
    (d0 : decode cc pc = .ok (.new ik, 3)) (d3 : decode cc (pc + 3) = .ok (.dup, 1)) (d4 : decode cc (pc + 4) = .ok (.invokespecial ic, 3)) (d7 : decode cc (pc + 7) = .ok (.athrow, 1))
    (hout : ∀ x ∈ c.exceptionTable.toList, covers x (pc + 7) = false)
    (hRframes : names.length + 3 < R.frames) (hRlocals : (rest.map fun v => v.category).sum + (13 * (names.length + 1) + 42) ≤ R.locals) (hRcells : cells + 1 ≤ R.cells) (hRslots : slots + 6 ≤ R.slots) (hlocks : meth.locks = false)
    (hx : ∀ t : State, s.vm.Alike t.vm → H.size ≤ t.heap.size → (∀ q : Nat, q < H.size → t.heap[q]? = H[q]?) → XC cls s t)
    (hf : ∀ z ∈ locs, free z.base) (hc : cells + 1 ≤ mc) (hs : slots + 6 ≤ ms) :
    W p l e R s m args below meth c H locs cells slots (vx_MQ below Qc XC args s mc ms free) (F0 m pc ls rest) := by
  intro T hT X
  have htr : e.platform.stackTraces = false := (show e.platform.stackTraces = l.stackTraces by rw [X.admits.platform]).trans hl
  have Y := vx_rebase X (R' := { frames := R.frames, locals := R.locals, cells := 1, slots := 6 }) (Nat.le_refl _) (Nat.le_refl _) hRcells hRslots
  obtain ⟨s', hA⟩ : ∃ z, z = (T.setVm s.vm).setFrames (.invoking m args :: below) := ⟨_, rfl⟩
  rw [← hA] at Y
  have hvm : s'.vm = s.vm := by rw [hA]; rfl
  have hhp : s'.heap = H := by rw [hA]; exact hT
  have hW0 : s.WarmedH s'.vm := by rw [hvm]; exact State.WarmedH.refl s
  have hat' : ∀ w ∈ vx_at0 own ic cls names, w.before args s' = true := fun w hw => vx_ot_at hW0 hvm.symm (hgood w (List.mem_cons_of_mem _ (List.mem_cons_of_mem _ hw))) (hat w hw)
  have hk' : (Cond.classLink own ik cls).before args s' = true := vx_ot_at hW0 hvm.symm (hgood _ List.mem_cons_self) hk
  have hini' : (Cond.initialized cls).before args s' = true := vx_ot_at hW0 hvm.symm (hgood _ (List.mem_cons_of_mem _ List.mem_cons_self)) hini
  have hU' : vx_Zq Bundle.tN "UNASSIGNED_STACK" Bundle.steD A s' s'.heap := by rw [hhp]; exact vx_Zq.moved hW0.alike (hU.kept hS.2.1)
  have hN' : vx_Zq Bundle.tN "SUPPRESSED_SENTINEL" Bundle.listD A s' s'.heap := by rw [hhp]; exact vx_Zq.moved hW0.alike (hN.kept hS.2.1)
  have h : ∀ w ∈ Bundle.ownAtoms0 own ic cls names, w.before args s' = true := vx_own hat' (vx_isRefq hU'.1) (vx_isRefq hN'.1) hU'.2.word hN'.2.word
  have hown' : s'.vm.findClass own = some m.cls := by rw [hvm]; exact hown
  have hins : (Cond.instantiable cls 6).before args s' = true := h _ (by simp [Bundle.ownAtoms0])
  obtain ⟨vm₁, cX, kX, hfX, hkX, -, -, X₁, st1⟩ := Y.newCold hexec (own := own) (C := cls) (index := ik) (n := 6) hown' hk' hins hini'
    (g := F0 m pc ls rest) rfl (by rw [hb]; exact d0) (Nat.le_refl _) (Nat.le_refl _)
  generalize hT1 : (T.setVm vm₁).pushCell { cls := cX, slots := kX.instanceTypes.map defaultValue, vm := .none } = T1 at X₁ st1
  have hcat : (Value.ref T.heap.size).category = 1 := rfl
  have hcellA : T1.heap[T.heap.size]? = some (freshCell cX kX) := by rw [← hT1]; exact State.heap_pushCell_size _ _
  have d3' : decode c.code (pc + 3) = .ok (.dup, 1) := by rw [hb]; exact d3
  obtain ⟨U, hsteps, hrun, hend, hW, hsame, ce, hce, hO⟩ := X₁.ctorThrow0 hexec htr (own := own) (cls := cls) (names := names) (ic := ic) hown' hcls hnames h (fun x hx => nomatch hx) hfX hkX hcellA (by rw [hhp, hT]; exact Nat.le_refl _)
    (g := { method := m, pc := pc + 4, locals := ls, stack := .ref T.heap.size :: .ref T.heap.size :: rest, locked := none }) rfl hsize rfl rfl (rest := rest) rfl
    (by rw [hb]; exact d4) (by rw [hb]; exact d7) hout hRframes (by simp only [List.map_cons, List.sum_cons, hcat]; omega) hlocks
  obtain ⟨f1, f2⟩ := vx_frame hsame
  rw [hhp] at f1 f2
  have hWs : s.WarmedH U.vm := State.WarmedH.trans hW0 hW
  have hcl : s.vm.findClass cls = some ce.cls := by
    have h9 := hO.cls
    rw [hvm] at h9
    exact h9
  have hall : s.sameButNew ({ U with vm := s.vm } : State) locs mc ms := by
    subst hA
    obtain ⟨e1, e2⟩ := hsame
    rw [State.setFrames_setFrames] at e1
    have h2 : (T.setVm s.vm).sameButNew ({ U with vm := s.vm } : State) [] (0 + 1) (0 + 6) := ⟨e1, e2⟩
    have h3 := X.same.trans h2
    rw [List.append_nil] at h3
    exact h3.mono hc hs
  refine ⟨U, ?_, .threw T.heap.size, hrun, hend, Or.inr ⟨T.heap.size, rfl, cls, ce, locs, hx U hWs.alike f1 (fun q hq => f2 q hq (fun z hz => nomatch hz)), hce, hO.vm, hcl, hWs, hall, hf⟩⟩
  refine st1 _ ?_
  show Steps p.tables e below (T1.setTop { method := m, pc := pc + 3, locals := ls, stack := .ref T.heap.size :: rest, locked := none }) _
  jvm_step X₁.here [X₁.here.top, hexec, d3', Value.category]
  exact hsteps
/-- 'throw new E("text")': new; dup; ldc; invokespecial; athrow -/
theorem vx_throwS {cc : ByteArray} {pc : Nat} (hexec : p.tables.exec = Jvm.exec) (hb : c.code = cc) (hl : l.stackTraces = false) {own cls text : String} {names : List String} {ik is ic mc ms sa : Nat} {A : Nat → Prop}
    (hown : s.vm.findClass own = some m.cls) (hcls : Bundle.fit cls = true) (hnames : ∀ n ∈ names, Bundle.fit n = true)
    (hk : (Cond.classLink own ik cls).before args s = true) (hini : (Cond.initialized cls).before args s = true) (hstr : vk_R own is text sa s) (hat : ∀ w ∈ vx_atS own ic cls names, w.before args s = true)
    (hgood : ∀ w ∈ Cond.classLink own ik cls :: Cond.initialized cls :: vx_atS own ic cls names, vx_ot w = true)
    (hU : vx_Zq Bundle.tN "UNASSIGNED_STACK" Bundle.steD A s s.heap) (hN : vx_Zq Bundle.tN "SUPPRESSED_SENTINEL" Bundle.listD A s s.heap) (hS : va_S A s.heap H locs) (hsize : ls.size = c.maxLocals)
    (d0 : decode cc pc = .ok (.new ik, 3)) (d3 : decode cc (pc + 3) = .ok (.dup, 1)) (d4 : decode cc (pc + 4) = .ok (.ldc is, 2)) (d6 : decode cc (pc + 6) = .ok (.invokespecial ic, 3)) (d9 : decode cc (pc + 9) = .ok (.athrow, 1))
    (hout : ∀ x ∈ c.exceptionTable.toList, covers x (pc + 9) = false)
    (hRframes : names.length + 3 < R.frames) (hRlocals : (rest.map fun v => v.category).sum + (13 * (names.length + 1) + 43) ≤ R.locals) (hRcells : cells + 1 ≤ R.cells) (hRslots : slots + 6 ≤ R.slots) (hlocks : meth.locks = false)
    (hx : ∀ t : State, s.vm.Alike t.vm → H.size ≤ t.heap.size → (∀ q : Nat, q < H.size → t.heap[q]? = H[q]?) → XC cls s t)
    (hf : ∀ z ∈ locs, free z.base) (hc : cells + 1 ≤ mc) (hs : slots + 6 ≤ ms) :
    W p l e R s m args below meth c H locs cells slots (vx_MQ below Qc XC args s mc ms free) (F0 m pc ls rest) := by
  intro T hT X
  have htr : e.platform.stackTraces = false := (show e.platform.stackTraces = l.stackTraces by rw [X.admits.platform]).trans hl
  have Y := vx_rebase X (R' := { frames := R.frames, locals := R.locals, cells := 1, slots := 6 }) (Nat.le_refl _) (Nat.le_refl _) hRcells hRslots
  obtain ⟨s', hA⟩ : ∃ z, z = (T.setVm s.vm).setFrames (.invoking m args :: below) := ⟨_, rfl⟩
  rw [← hA] at Y
  have hvm : s'.vm = s.vm := by rw [hA]; rfl
  have hhp : s'.heap = H := by rw [hA]; exact hT
  have hW0 : s.WarmedH s'.vm := by rw [hvm]; exact State.WarmedH.refl s
  have hat' : ∀ w ∈ vx_atS own ic cls names, w.before args s' = true := fun w hw => vx_ot_at hW0 hvm.symm (hgood w (List.mem_cons_of_mem _ (List.mem_cons_of_mem _ hw))) (hat w hw)
  have hk' : (Cond.classLink own ik cls).before args s' = true := vx_ot_at hW0 hvm.symm (hgood _ List.mem_cons_self) hk
  have hini' : (Cond.initialized cls).before args s' = true := vx_ot_at hW0 hvm.symm (hgood _ (List.mem_cons_of_mem _ List.mem_cons_self)) hini
  have hU' : vx_Zq Bundle.tN "UNASSIGNED_STACK" Bundle.steD A s' s'.heap := by rw [hhp]; exact vx_Zq.moved hW0.alike (hU.kept hS.2.1)
  have hN' : vx_Zq Bundle.tN "SUPPRESSED_SENTINEL" Bundle.listD A s' s'.heap := by rw [hhp]; exact vx_Zq.moved hW0.alike (hN.kept hS.2.1)
  have h : ∀ w ∈ Bundle.ownAtoms own ic cls names, w.before args s' = true := vx_own hat' (vx_isRefq hU'.1) (vx_isRefq hN'.1) hU'.2.word hN'.2.word
  have hown' : s'.vm.findClass own = some m.cls := by rw [hvm]; exact hown
  have hins : (Cond.instantiable cls 6).before args s' = true := h _ (by simp [Bundle.ownAtoms])
  obtain ⟨vm₁, cX, kX, hfX, hkX, -, -, X₁, st1⟩ := Y.newCold hexec (own := own) (C := cls) (index := ik) (n := 6) hown' hk' hins hini'
    (g := F0 m pc ls rest) rfl (by rw [hb]; exact d0) (Nat.le_refl _) (Nat.le_refl _)
  generalize hT1 : (T.setVm vm₁).pushCell { cls := cX, slots := kX.instanceTypes.map defaultValue, vm := .none } = T1 at X₁ st1
  have hcat : (Value.ref T.heap.size).category = 1 := rfl
  have hcellA : T1.heap[T.heap.size]? = some (freshCell cX kX) := by rw [← hT1]; exact State.heap_pushCell_size _ _
  have d3' : decode c.code (pc + 3) = .ok (.dup, 1) := by rw [hb]; exact d3
  have d4' : decode c.code (pc + 4) = .ok (.ldc is, 2) := by rw [hb]; exact d4
  have hstr' : vk_R own is text sa s' := vk_R.warm hW0 hstr
  obtain ⟨U, hsteps, hrun, hend, hW, hsame, ce, hce, hO⟩ := X₁.ctorThrowS hexec htr (own := own) (cls := cls) (names := names) (ic := ic) hown' hcls hnames h (fun x hx => nomatch hx) hfX hkX hcellA (by rw [hhp, hT]; exact Nat.le_refl _) (msg := .ref sa) rfl
    (g := { method := m, pc := pc + 6, locals := ls, stack := .ref sa :: .ref T.heap.size :: .ref T.heap.size :: rest, locked := none }) rfl hsize rfl rfl (rest := rest) rfl
    (by rw [hb]; exact d6) (by rw [hb]; exact d9) hout hRframes (by simp only [List.map_cons, List.sum_cons, hcat]; omega) hlocks
  obtain ⟨f1, f2⟩ := vx_frame hsame
  rw [hhp] at f1 f2
  have hWs : s.WarmedH U.vm := State.WarmedH.trans hW0 hW
  have hcl : s.vm.findClass cls = some ce.cls := by
    have h9 := hO.cls
    rw [hvm] at h9
    exact h9
  have hall : s.sameButNew ({ U with vm := s.vm } : State) locs mc ms := by
    subst hA
    obtain ⟨e1, e2⟩ := hsame
    rw [State.setFrames_setFrames] at e1
    have h2 : (T.setVm s.vm).sameButNew ({ U with vm := s.vm } : State) [] (0 + 1) (0 + 6) := ⟨e1, e2⟩
    have h3 := X.same.trans h2
    rw [List.append_nil] at h3
    exact h3.mono hc hs
  refine ⟨U, ?_, .threw T.heap.size, hrun, hend, Or.inr ⟨T.heap.size, rfl, cls, ce, locs, hx U hWs.alike f1 (fun q hq => f2 q hq (fun z hz => nomatch hz)), hce, hO.vm, hcl, hWs, hall, hf⟩⟩
  refine st1 _ ?_
  show Steps p.tables e below (T1.setTop { method := m, pc := pc + 3, locals := ls, stack := .ref T.heap.size :: rest, locked := none }) _
  jvm_step X₁.here [X₁.here.top, hexec, d3', Value.category]
  exact X₁.ldcString hexec (own := own) (text := text) (index := is) (a := sa) hown' hstr'.1 hstr'.2
    (g := { method := m, pc := pc + 4, locals := ls, stack := .ref T.heap.size :: .ref T.heap.size :: rest, locked := none }) rfl d4' _ hsteps
/-- 'throw new E("text")', the text by a wide index -/
theorem vx_throwSW {cc : ByteArray} {pc : Nat} (hexec : p.tables.exec = Jvm.exec) (hb : c.code = cc) (hl : l.stackTraces = false) {own cls text : String} {names : List String} {ik is ic mc ms sa : Nat} {A : Nat → Prop}
    (hown : s.vm.findClass own = some m.cls) (hcls : Bundle.fit cls = true) (hnames : ∀ n ∈ names, Bundle.fit n = true)
    (hk : (Cond.classLink own ik cls).before args s = true) (hini : (Cond.initialized cls).before args s = true) (hstr : vk_R own is text sa s) (hat : ∀ w ∈ vx_atS own ic cls names, w.before args s = true)
    (hgood : ∀ w ∈ Cond.classLink own ik cls :: Cond.initialized cls :: vx_atS own ic cls names, vx_ot w = true)
    (hU : vx_Zq Bundle.tN "UNASSIGNED_STACK" Bundle.steD A s s.heap) (hN : vx_Zq Bundle.tN "SUPPRESSED_SENTINEL" Bundle.listD A s s.heap) (hS : va_S A s.heap H locs) (hsize : ls.size = c.maxLocals)
    (d0 : decode cc pc = .ok (.new ik, 3)) (d3 : decode cc (pc + 3) = .ok (.dup, 1)) (d4 : decode cc (pc + 4) = .ok (.ldc_w is, 3)) (d7 : decode cc (pc + 7) = .ok (.invokespecial ic, 3)) (d10 : decode cc (pc + 10) = .ok (.athrow, 1))
    (hout : ∀ x ∈ c.exceptionTable.toList, covers x (pc + 10) = false)
    (hRframes : names.length + 3 < R.frames) (hRlocals : (rest.map fun v => v.category).sum + (13 * (names.length + 1) + 43) ≤ R.locals) (hRcells : cells + 1 ≤ R.cells) (hRslots : slots + 6 ≤ R.slots) (hlocks : meth.locks = false)
    (hx : ∀ t : State, s.vm.Alike t.vm → H.size ≤ t.heap.size → (∀ q : Nat, q < H.size → t.heap[q]? = H[q]?) → XC cls s t)
    (hf : ∀ z ∈ locs, free z.base) (hc : cells + 1 ≤ mc) (hs : slots + 6 ≤ ms) :
    W p l e R s m args below meth c H locs cells slots (vx_MQ below Qc XC args s mc ms free) (F0 m pc ls rest) := by
  intro T hT X
  have htr : e.platform.stackTraces = false := (show e.platform.stackTraces = l.stackTraces by rw [X.admits.platform]).trans hl
  have Y := vx_rebase X (R' := { frames := R.frames, locals := R.locals, cells := 1, slots := 6 }) (Nat.le_refl _) (Nat.le_refl _) hRcells hRslots
  obtain ⟨s', hA⟩ : ∃ z, z = (T.setVm s.vm).setFrames (.invoking m args :: below) := ⟨_, rfl⟩
  rw [← hA] at Y
  have hvm : s'.vm = s.vm := by rw [hA]; rfl
  have hhp : s'.heap = H := by rw [hA]; exact hT
  have hW0 : s.WarmedH s'.vm := by rw [hvm]; exact State.WarmedH.refl s
  have hat' : ∀ w ∈ vx_atS own ic cls names, w.before args s' = true := fun w hw => vx_ot_at hW0 hvm.symm (hgood w (List.mem_cons_of_mem _ (List.mem_cons_of_mem _ hw))) (hat w hw)
  have hk' : (Cond.classLink own ik cls).before args s' = true := vx_ot_at hW0 hvm.symm (hgood _ List.mem_cons_self) hk
  have hini' : (Cond.initialized cls).before args s' = true := vx_ot_at hW0 hvm.symm (hgood _ (List.mem_cons_of_mem _ List.mem_cons_self)) hini
  have hU' : vx_Zq Bundle.tN "UNASSIGNED_STACK" Bundle.steD A s' s'.heap := by rw [hhp]; exact vx_Zq.moved hW0.alike (hU.kept hS.2.1)
  have hN' : vx_Zq Bundle.tN "SUPPRESSED_SENTINEL" Bundle.listD A s' s'.heap := by rw [hhp]; exact vx_Zq.moved hW0.alike (hN.kept hS.2.1)
  have h : ∀ w ∈ Bundle.ownAtoms own ic cls names, w.before args s' = true := vx_own hat' (vx_isRefq hU'.1) (vx_isRefq hN'.1) hU'.2.word hN'.2.word
  have hown' : s'.vm.findClass own = some m.cls := by rw [hvm]; exact hown
  have hins : (Cond.instantiable cls 6).before args s' = true := h _ (by simp [Bundle.ownAtoms])
  obtain ⟨vm₁, cX, kX, hfX, hkX, -, -, X₁, st1⟩ := Y.newCold hexec (own := own) (C := cls) (index := ik) (n := 6) hown' hk' hins hini'
    (g := F0 m pc ls rest) rfl (by rw [hb]; exact d0) (Nat.le_refl _) (Nat.le_refl _)
  generalize hT1 : (T.setVm vm₁).pushCell { cls := cX, slots := kX.instanceTypes.map defaultValue, vm := .none } = T1 at X₁ st1
  have hcat : (Value.ref T.heap.size).category = 1 := rfl
  have hcellA : T1.heap[T.heap.size]? = some (freshCell cX kX) := by rw [← hT1]; exact State.heap_pushCell_size _ _
  have d3' : decode c.code (pc + 3) = .ok (.dup, 1) := by rw [hb]; exact d3
  have d4' : decode c.code (pc + 4) = .ok (.ldc_w is, 3) := by rw [hb]; exact d4
  have hstr' : vk_R own is text sa s' := vk_R.warm hW0 hstr
  obtain ⟨U, hsteps, hrun, hend, hW, hsame, ce, hce, hO⟩ := X₁.ctorThrowS hexec htr (own := own) (cls := cls) (names := names) (ic := ic) hown' hcls hnames h (fun x hx => nomatch hx) hfX hkX hcellA (by rw [hhp, hT]; exact Nat.le_refl _) (msg := .ref sa) rfl
    (g := { method := m, pc := pc + 7, locals := ls, stack := .ref sa :: .ref T.heap.size :: .ref T.heap.size :: rest, locked := none }) rfl hsize rfl rfl (rest := rest) rfl
    (by rw [hb]; exact d7) (by rw [hb]; exact d10) hout hRframes (by simp only [List.map_cons, List.sum_cons, hcat]; omega) hlocks
  obtain ⟨f1, f2⟩ := vx_frame hsame
  rw [hhp] at f1 f2
  have hWs : s.WarmedH U.vm := State.WarmedH.trans hW0 hW
  have hcl : s.vm.findClass cls = some ce.cls := by
    have h9 := hO.cls
    rw [hvm] at h9
    exact h9
  have hall : s.sameButNew ({ U with vm := s.vm } : State) locs mc ms := by
    subst hA
    obtain ⟨e1, e2⟩ := hsame
    rw [State.setFrames_setFrames] at e1
    have h2 : (T.setVm s.vm).sameButNew ({ U with vm := s.vm } : State) [] (0 + 1) (0 + 6) := ⟨e1, e2⟩
    have h3 := X.same.trans h2
    rw [List.append_nil] at h3
    exact h3.mono hc hs
  refine ⟨U, ?_, .threw T.heap.size, hrun, hend, Or.inr ⟨T.heap.size, rfl, cls, ce, locs, hx U hWs.alike f1 (fun q hq => f2 q hq (fun z hz => nomatch hz)), hce, hO.vm, hcl, hWs, hall, hf⟩⟩
  refine st1 _ ?_
  show Steps p.tables e below (T1.setTop { method := m, pc := pc + 3, locals := ls, stack := .ref T.heap.size :: rest, locked := none }) _
  jvm_step X₁.here [X₁.here.top, hexec, d3', Value.category]
  exact X₁.ldcStringW hexec (own := own) (text := text) (index := is) (a := sa) hown' hstr'.1 hstr'.2
    (g := { method := m, pc := pc + 4, locals := ls, stack := .ref T.heap.size :: .ref T.heap.size :: rest, locked := none }) rfl d4' _ hsteps
end Ends
section Bodies
variable {l : Launch}
theorem vx_ofW {y : MethodName} {ws ws' : List Cond} {rm : Room} {Pc : Array Value → State → Prop} {Qc : Array Value → State → Outcome → State → Prop} {XC : String → State → State → Prop} {mc ms : Nat} {free : Addr → Prop} {cc : ByteArray} {maxL : Nat} {ret : Option FieldType}
    (hy : plainName y.cls = true) (hw : ws = Cond.code y cc maxL ret :: ws')
    (body : ∀ p e s m args below meth c s₁, BodyLoose p l y (headSpec ws rm) cc maxL ret e s m args below meth c s₁ → c.maxLocals = maxL → (∀ x ∈ c.exceptionTable.toList, False) → Pc args s →
      W p l e (headSpec ws rm).room s m args below meth c s.heap [] 0 0 (vx_MQ below Qc XC args s mc ms free) (entryFrame m args maxL)) : vx_Met l y ws rm Pc Qc XC mc ms free := by
  refine MetFree.of_bodyS (code := cc) (maxLocals := maxL) (ret := ret) hy ?_ ?_
  · intro args s m h hn
    obtain ⟨meth, c, h1, h2, h3, h4, h5, h6, -, -⟩ := Cond.code_spec hn (atoms_spec (ws := ws) h _ (by rw [hw]; exact List.mem_cons_self))
    exact ⟨meth, c, h1, h2, h3, h4, h5, h6⟩
  · intro p e s m args below meth c s₁ B hml hP _
    have hh0 : s₁.heap = s.heap := by rw [B.state]; rfl
    have ht : ∀ x ∈ c.exceptionTable.toList, False := by
      obtain ⟨meth9, c9, h1, h2, -, -, -, -, h7, -⟩ := Cond.code_spec B.named (atoms_spec (ws := ws) B.pre _ (by rw [hw]; exact List.mem_cons_self))
      cases Option.some.inj (h1.symm.trans B.method)
      cases Option.some.inj (h2.symm.trans (Stand.of_body B).code)
      intro x hx
      rw [Array.isEmpty_iff.mp h7] at hx
      cases hx
    obtain ⟨t, a1, o, b1, b2, b3⟩ := body p e s m args below meth c s₁ B hml ht hP s₁ hh0 (Stand.of_body B)
    exact ⟨t, o, a1, b1, b2, b3⟩
/-- the table of a body with handlers -/
theorem vx_table {p : Program} {x y : MethodName} {S : Spec} {cc bytes : ByteArray} {maxL maxL' : Nat} {ret ret' : Option FieldType} {e : Env} {s s₁ : State} {m : MethodId} {args : Array Value} {below : List Frame} {meth : Method} {c : Code} {hh : List (Nat × Nat × Nat × Nat)}
    (B : BodyLoose p l y S cc maxL ret e s m args below meth c s₁) (h : (Cond.codeWith y bytes maxL' ret' hh).before args s = true) : c.exceptionTable.toList = tableOf hh := by
  obtain ⟨m9, meth9, c9, hn9, h1, h2, -, -, h6, -⟩ := Cond.codeWith_spec h
  cases Option.some.inj (hn9.symm.trans B.named)
  cases Option.some.inj (h1.symm.trans B.method)
  cases Option.some.inj (h2.symm.trans (Stand.of_body B).code)
  rw [← h6, table_eq]
end Bodies
end VXA
/-! ===== END ===== -/
/-! ===== BEGIN a static call of a method with an exception table ===== -/
section VXS
variable {p : Program} {l : Launch} {e : Env} {R : Room} {s : State} {m : MethodId} {args : Array Value} {below : List Frame} {meth : Method} {c : Code} {T : State} {H : Heap} {locs : List Loc} {cells slots : Nat}
abbrev vx_CSW (R : Room) (s : State) (args : Array Value) (own : String) (index : Nat) (y : MethodName) (bytes : ByteArray) (maxL : Nat) (ret : Option FieldType) (hh : List (Nat × Nat × Nat × Nat)) (ws : List Cond) (rm : Room) (mc ms n : Nat) : Prop :=
  (rm.cells = mc ∧ rm.slots = ms ∧ rm.frames + 1 ≤ R.frames ∧ 8 + (maxL + 11) + rm.locals ≤ R.locals ∧ (∀ w ∈ ws, ∀ (a' : Array Value) (U : State), s.WarmedH U.vm → w.before a' U = true) ∧ Cond.codeWith y bytes maxL ret hh ∈ ws) ∧
  (Cond.codeWith y bytes maxL ret hh).before args s = true ∧ (Cond.initialized y.cls).before args s = true ∧ (y.cls ≠ "java/lang/invoke/MethodHandle" ∧ y.cls ≠ "java/lang/invoke/VarHandle") ∧
  (∀ sig, parseMethodDescriptor y.desc = some sig → n = sig.parameters.length) ∧ (Cond.methodLink own index y).before args s = true ∧ (Cond.static y).before args s = true
theorem vx_cwSW {own : String} {index maxL mc ms : Nat} {y : MethodName} {bytes : ByteArray} {ret : Option FieldType} {hh : List (Nat × Nat × Nat × Nat)} {Ts ws ws' : List Cond} {rm : Room} (n : Nat) (ht : ∀ w ∈ Ts, w.before args s = true) (hT : GoodIn Ts (va_wsS own index y ws)) (hw : ws = Cond.codeWith y bytes maxL ret hh :: ws') (hrc : rm.cells = mc) (hrs : rm.slots = ms)
    (hd : y.cls ≠ "java/lang/invoke/MethodHandle" ∧ y.cls ≠ "java/lang/invoke/VarHandle" ∧ (parseMethodDescriptor y.desc).map (fun d => d.parameters.length) = some n) (hR : rm.frames + 1 ≤ R.frames ∧ 8 + (maxL + 11) + rm.locals ≤ R.locals) :
    vx_CSW R s args own index y bytes maxL ret hh ws rm mc ms n := by
  have ok : ∀ w ∈ va_wsS own index y ws, w.before args s = true := fun w h => ht w (hT w h).1
  have hG : GoodIn Ts ws := fun w h => hT w (by unfold va_wsS; exact List.mem_append_right _ h)
  have hc : Cond.codeWith y bytes maxL ret hh ∈ ws := by rw [hw]; exact List.mem_cons_self
  refine ⟨⟨hrc, hrs, hR.1, hR.2, pay_in ht hG, hc⟩, ht _ (hG _ hc).1, ok _ (by simp [va_wsS]), ⟨hd.1, hd.2.1⟩, fun sig h => ?_, ok _ (by simp [va_wsS]), ok _ (by simp [va_wsS])⟩
  have h2 := hd.2.2
  rw [h] at h2
  exact (Option.some.inj h2).symm
theorem vx_callSW (X : Stand p l e R s m args below meth c T locs cells slots) (hexec : p.tables.exec = Jvm.exec) {own : String} {index : Nat} {y : MethodName} {bytes : ByteArray} {maxL : Nat} {ret : Option FieldType} {hh : List (Nat × Nat × Nat × Nat)}
    (hown : s.vm.findClass own = some m.cls) (hlink : (Cond.methodLink own index y).before args s = true) (hstat : (Cond.static y).before args s = true) (hinit : (Cond.initialized y.cls).before args s = true)
    (hcode : (Cond.codeWith y bytes maxL ret hh).before args s = true) (hy : y.cls ≠ "java/lang/invoke/MethodHandle" ∧ y.cls ≠ "java/lang/invoke/VarHandle")
    {W9 : Nat} {Pre : Pt → Array Value → Prop} {Post : Pt → Array Value → Option Value → Pt → Prop} (hK : Back l R p e below s args y 3 W9 Pre Post)
    {g : JFrame} (hg : g.method = m) (hsize : g.locals.size = c.maxLocals) {argsL rest : List Value} (hlen : ∀ sig, parseMethodDescriptor y.desc = some sig → argsL.length = sig.parameters.length)
    (hstack : g.stack = argsL.reverse ++ rest) (hW : 2 * g.monitorRoom + (rest.map fun v => v.category).sum ≤ W9) (hdg : decode c.code g.pc = .ok (.invokestatic index, 3))
    (hpre : ∀ vm₁, s.WarmedH vm₁ → Pre ⟨T.setVm vm₁, locs, cells, slots⟩ argsL.toArray) :
    ∃ (v : Option Value) (vm₁ : Vm) (B : Pt), s.WarmedH vm₁ ∧ Stand p l e R s m args below meth c B.U B.locs B.cells B.slots ∧ Post ⟨T.setVm vm₁, locs, cells, slots⟩ argsL.toArray v B ∧
      ∀ target, Steps p.tables e below (B.U.setTop { g with pc := g.pc + 3, stack := v.toList ++ rest }) target → Steps p.tables e below (T.setTop g) target := by
  obtain ⟨mk, methM, cM, hnamed, hmethM, -, -, -, -, -, -, hsigM⟩ := Cond.codeWith_spec hcode
  have hstatic : methM.isStatic = true := Cond.static_spec hnamed hmethM hstat
  obtain ⟨kP, hkP, -⟩ := className_of_methodNamed hnamed
  have hinitP : kP.init = .initialized := Cond.initialized_spec (findClass_of_methodNamed hnamed) hkP hinit
  obtain ⟨vm₁, X₁, hstep₁⟩ := X.invokestatic hexec hown hlink hnamed hmethM hstatic hkP hinitP hy (g := g) hg (argsL := argsL) (rest := rest) (hlen _ hsigM) hstack hdg
  obtain ⟨v, B, X', hpost, hsteps⟩ := hK m meth c ⟨T.setVm vm₁, locs, cells, slots⟩ { g with stack := rest } (.invokestatic index) mk argsL.toArray X₁ hg hsize hdg hW (X₁.named hnamed) (hpre vm₁ X₁.warmed)
  exact ⟨v, vm₁, B, X₁.warmed, X', hpost, fun target h => hstep₁ _ fun acts => by rw [doInvoke_state]; exact hsteps.trans h⟩
theorem vx_runSW {y : MethodName} {bytes cc : ByteArray} {maxL nL mc ms n index : Nat} {ret : Option FieldType} {hh : List (Nat × Nat × Nat × Nat)} {ws : List Cond} {rm : Room} {Pc : Array Value → State → Prop} {Qc : Array Value → State → Outcome → State → Prop} {free : Addr → Prop} {Ts : List Cond} {own : String} {As rest : List Value} {g : JFrame}
    (S : CallFix p m c cc nL s args Ts own) (hM : Met l y ws rm Pc Qc mc ms free) (cw : vx_CSW R s args own index y bytes maxL ret hh ws rm mc ms n) (hp : PreS s H Pc As)
    (hg : g.method = m) (hn : As.length = n) (hsize : g.locals.size = nL) (hstack : g.stack = As.reverse ++ rest) (hW : 2 * g.monitorRoom + (rest.map fun v => v.category).sum ≤ 8) (hdg : decode cc g.pc = .ok (.invokestatic index, 3)) (hf : cells + mc ≤ R.cells ∧ slots + ms ≤ R.slots) :
    va_Run p l e R s m args below meth c H locs cells slots mc ms g rest (Qc As.toArray) (free) := by
  obtain ⟨⟨hrc, hrs, hfr, hlo, hws, hcw⟩, hcode, hini, hy, hlen, hl, hstt⟩ := cw
  have hK : Back l R p e below s args y 3 8 (PreOf R mc ms Pc) (PostOf Qc mc ms free) := va_backW (hh := hh) (bytes := bytes) (maxL := maxL) (ret := ret) hM hp.1 hrc hrs hfr hlo hws hcw (fun a' U hW => word_at hW (Or.inl (by first | rfl | simp [Cond.onTables, Cond.keeps, Cond.steady])) hini)
  obtain ⟨hx, hb, hml, ho, -⟩ := S
  intro T hT X
  obtain ⟨v, vm₁, ⟨U', l2, c2, s2⟩, hW₁, X', ⟨g', mk, t, L, e1, e2, hq, h1, hL, h2, h3⟩, st⟩ := vx_callSW X hx (hh := hh) (bytes := bytes) (maxL := maxL) (ret := ret) ho hl hstt hini hcode hy hK hg (hsize.trans hml.symm) (argsL := As) (rest := rest) (fun sig h => hn.trans (hlen sig h)) hstack hW (by rw [hb]; exact hdg)
    (fun vm₁ hW₁ => ⟨hf.1, hf.2, hp.2 (T.setVm vm₁) hT hW₁⟩)
  dsimp only [Pt.U, Pt.locs, Pt.cells, Pt.slots] at X' e1 e2 h1 h2 h3 st
  subst h1; subst h2; subst h3
  exact ⟨v, (T.setVm vm₁).calling g' mk As.toArray, t, U', L, hT, X', hL, e1, e2, hq, st⟩
/-- not caught here, past rows that name other classes: it goes on to the caller -/
theorem vx_outP {p : Program} {l : Launch} {e : Env} {R : Room} {s : State} {m : MethodId} {args : Array Value} {below : List Frame} {meth : Method} {c : Code} {H : Heap} {locs : List Loc} {cells slots : Nat} {free : Addr → Prop} {ls : Array Slot} {rest : List Value} {Qc : Array Value → State → Outcome → State → Prop} {XC : String → State → State → Prop}
    {pc : Nat} {own E : String} {ce : Cell} {q : Addr} {mc ms : Nat} (hown : s.vm.findClass own = some m.cls) (hlocks : meth.locks = false)
    (hpass : ∀ z ∈ c.exceptionTable.toList, covers z pc = false ∨ (z.catchType ≠ 0 ∧ ∃ nm : String, (Cond.classLink own z.catchType nm).before args s = true ∧ va_Nc E nm s)) (hcell : H[q]? = some ce) (hv : ce.vm = .none) (hcl : s.vm.findClass E = some ce.cls)
    (hx : ∀ t : State, t.heap = H → s.vm.Alike t.vm → XC E s t) (hf : ∀ z ∈ locs, free z.base) (hc : cells ≤ mc) (hs : slots ≤ ms) :
    vx_W p l e R s m args below meth c H locs cells slots (vx_MQ below Qc XC args s mc ms free) (F0 m pc ls rest) q := by
  intro T hT X
  have hpl : e.platform.magicAccessors = ({} : Platform).magicAccessors := by rw [X.admits.platform]
  obtain ⟨vm', hW', X', st⟩ := X.outThrough hlocks q (g := F0 m pc ls rest) rfl rfl rfl (cell := ce) (by rw [hT]; exact hcell) (by rw [hv]; rfl)
    (by obtain ⟨k9, h9, -⟩ := Vm.findClass_spec hcl; exact ⟨k9, h9⟩) (fun z hz => by
      rcases hpass z hz with h | ⟨hz0, nm, hl1, hn1⟩
      · exact Or.inl h
      · obtain ⟨c6, hc6, hcl6⟩ := Cond.classLink_spec hown hl1 e.platform hpl
        obtain ⟨a8, b8, h1, h2, h3⟩ := hn1
        cases Option.some.inj (h1.symm.trans hcl)
        cases Option.some.inj (h2.symm.trans hc6)
        exact Or.inr ⟨hz0, _, hcl6, h3⟩)
  obtain ⟨g₀, hfr⟩ := X'.frames_eq
  have hcell9 : ((T.setVm vm').setFrames (.throwing q :: below)).heap[q]? = some ce := by
    show T.heap[q]? = some ce
    rw [hT]; exact hcell
  have hend : Ended ((T.setVm vm').setFrames (.throwing q :: below)) below (.threw q) := State.frames_setFrames _ (State.cur_lt_of_frames hfr)
  refine ⟨(T.setVm vm').setFrames (.throwing q :: below), ?_, .threw q, X'.here.running, hend, Or.inr ⟨q, rfl, E, ce, locs, hx _ hT (X'.ends _).1.alike, hcell9, hv, hcl, (X'.ends _).1, (X'.ends _).2.mono hc hs, hf⟩⟩
  rw [X.pushThrowing_eq]
  exact st
/-- a thing of a world lies in the heap -/
theorem vx_lt {D : va_G} {cl : List vw_C} {ws : va_W} {H1 : Heap} (h : va_P D cl ws H1) {k : Nat} {q : Nat × va_E} (hk : ws[k]? = some q) : q.1 < H1.size := (h k q hk).lt
end VXS
/-! ===== END ===== -/
/-! ===== BEGIN methods with a table of their own: called by a name, returning or throwing ===== -/
section VXH
/-! vx_backW, vx_callVX, vx_callSX, vx_callVW, vx_runVW, vx_runVX, vx_runSX, vx_ofWH follow the same proofs as their sisters above (Free/Laws.lean, Shelf42/LK1.lean); vx_outP calls Shelf42/NT130.lean (outThrough). -/
section
variable {l : Launch} {R : Room} {p : Program} {e : Env} {below : List Frame} {s : State} {sargs : Array Value} {y : MethodName} {len W9 : Nat}
theorem vx_backW {ws : List Cond} {rm : Room} {Pc : Array Value → State → Prop} {Qc : Array Value → State → Outcome → State → Prop} {XC : String → State → State → Prop} {mc ms : Nat} {free : Addr → Prop} {bytes : ByteArray} {maxL : Nat} {ret : Option FieldType} {hh : List (Nat × Nat × Nat × Nat)}
    (hM : vx_Met l y ws rm Pc Qc XC mc ms free) (hblind : FrameBlind Pc) (hrc : rm.cells = mc) (hrs : rm.slots = ms)
    (hframes : rm.frames + 1 ≤ R.frames) (hlocals : W9 + (maxL + 11) + rm.locals ≤ R.locals)
    (hws : ∀ w ∈ ws, ∀ a' U, s.WarmedH U.vm → w.before a' U = true) (hcode : Cond.codeWith y bytes maxL ret hh ∈ ws) (hinit : ∀ a' U, s.WarmedH U.vm → (Cond.initialized y.cls).before a' U = true) :
    vx_Back l R p e below s sargs y len W9 (PreOf R mc ms Pc) (PostOf Qc mc ms free) (vx_Post XC mc ms free) := by
  intro m meth c A g ig mk a X hg hsize hdg hW hn hp
  have h1 : (headSpec ws rm).pre.before a A.U = true := atoms_intro fun w hw => hws w hw _ _ X.warmed
  have h2 : (Cond.codeWith y bytes maxL ret hh).before a A.U = true := hws _ hcode _ _ X.warmed
  have h3 : (Cond.initialized y.cls).before a A.U = true := hinit _ _ X.warmed
  have h4 : A.cells + (headSpec ws rm).room.cells ≤ R.cells := by rw [show (headSpec ws rm).room.cells = mc from hrc]; exact hp.1
  have h5 : A.slots + (headSpec ws rm).room.slots ≤ R.slots := by rw [show (headSpec ws rm).room.slots = ms from hrs]; exact hp.2.1
  have hPc : Pc a (A.U.calling g mk a) := hblind _ _ _ _ hp.2.2
  obtain ⟨U, Ls, c0, s0⟩ := A
  dsimp only [Pt.U, Pt.locs, Pt.cells, Pt.slots] at h1 h2 h3 h4 h5 X hn hPc ⊢
  obtain ⟨m9, methY, cY, hn9, hmY, hcY, -, hlY, -⟩ := Cond.codeWith_spec h2
  cases Option.some.inj (hn9.symm.trans hn)
  obtain ⟨kY, hkY, -⟩ := className_of_methodNamed hn
  have hinitY : kY.init = .initialized := Cond.initialized_spec (findClass_of_methodNamed hn) hkY h3
  have h : At U g.method c below := by rw [hg]; exact X.here
  have hlocals9 : W9 + (maxL + 11) + (headSpec ws rm).room.locals ≤ R.locals := hlocals
  have happ : (headSpec ws rm).appliesLoose y e.platform (U.calling g mk a) = true :=
    Spec.appliesLoose_calling (g := g) h hdg hn hkY hinitY
      (X.room_calling (g := g) (R' := (headSpec ws rm).room) hsize hmY hcY hframes (by rw [hlY]; omega) h4 h5) h1
  obtain ⟨mid, hmid⟩ := h.above
  have hfr : (U.setTop g).frames = (.java g :: mid) ++ below := by rw [State.frames_setTop' g h.top, hmid]; rfl
  obtain ⟨o, s₂, hsteps, -, hend, hq⟩ := Steps.callFree hM p X.admits X.cas X.clock (acts := []) hfr happ hPc trivial
  have hq' : vx_Q Qc XC mc ms free a (U.calling g mk a) o s₂ := hq
  rw [State.frames_setTop' g h.top] at hend
  obtain ⟨g₀, hg0⟩ := Option.isSome_iff_exists.mp h.top
  obtain ⟨r, hr⟩ := State.topJava?_eq_some.mp hg0
  have hr' : (({ U with heap := s₂.heap, slotsUsed := s₂.slotsUsed } : State).setVm s₂.vm).frames = .java g₀ :: r := hr
  rcases hq' with ⟨hqc, L, hfe, hL⟩ | ⟨q, rfl, E, ce, L, hx, hce, hcv, hcl, hW₂, hsm, hL⟩
  · obtain ⟨⟨v, rfl⟩, hW₂, e2, q2, q3, q4, q5, q6⟩ := id hfe
    have e3 : s₂ = ({ (U.calling g mk a).setFrames s₂.frames with heap := s₂.heap, slotsUsed := s₂.slotsUsed } : State).setVm s₂.vm := by
      have : s₂ = ({ s₂ with vm := (U.calling g mk a).vm } : State).setVm s₂.vm := rfl
      rw [e2] at this
      exact this
    obtain ⟨c₂, i₂, len₂, hc₂, hd₂, hf₂⟩ := hend
    have hW' : U.WarmedH s₂.vm := hW₂
    have hcc : c₂ = c := by
      have h1 : s₂.code? g.method = U.code? g.method := by
        rw [State.code?_eq, State.code?_eq, hW'.alike.method?]
      exact Option.some.inj (hc₂.symm.trans (h1.trans h.code))
    subst hcc
    have hlen : len₂ = len := by rw [hdg] at hd₂; cases hd₂; rfl
    subst hlen
    have hs₂ : s₂ = (({ U with heap := s₂.heap, slotsUsed := s₂.slotsUsed } : State).setVm s₂.vm).setTop { g with pc := g.pc + len₂, stack := v.toList ++ g.stack } := by
      refine e3.trans ?_
      rw [hf₂, State.calling_eq h.top, State.setFrames_setFrames, State.setTop_of_frames _ hr', hr]
      rfl
    have hsame : U.sameButNew ({ U with heap := s₂.heap, slotsUsed := s₂.slotsUsed } : State) L mc ms := by
      refine ⟨?_, q2, q3, q4, q5, q6⟩
      obtain ⟨t, ht, -⟩ := State.frames_cons hr
      show ({ U with heap := s₂.heap, slotsUsed := s₂.slotsUsed } : State) = { U.setFrames U.frames with heap := s₂.heap, slotsUsed := s₂.slotsUsed }
      rw [State.setFrames_self ht]
    subst hg
    refine Or.inl ⟨v, ⟨(({ U with heap := s₂.heap, slotsUsed := s₂.slotsUsed } : State).setVm s₂.vm), Ls ++ L, c0 + mc, s0 + ms⟩,
      ⟨X.admits, X.cas, X.clock, X.frames, X.room, X.hears, X.method, X.code, (X.here.setHeapUsed s₂.heap s₂.slotsUsed).setVm hW'.alike, X.tail, State.WarmedH.trans X.warmed hW', X.limits, X.bytes, X.same.trans (hsame.setVm s.vm)⟩,
      ⟨g, mk, s₂, L, rfl, rfl, hqc, rfl, hL, rfl, rfl⟩, ?_⟩
    show Steps p.tables e below _ ((({ U with heap := s₂.heap, slotsUsed := s₂.slotsUsed } : State).setVm s₂.vm).setTop { g with pc := g.pc + len₂, stack := v.toList ++ g.stack })
    rw [← hs₂]
    exact hsteps
  · obtain ⟨e2, q2, q3, q4, q5, q6⟩ := id hsm
    have e3 : s₂ = ({ (U.calling g mk a).setFrames s₂.frames with heap := s₂.heap, slotsUsed := s₂.slotsUsed } : State).setVm s₂.vm := by
      have : s₂ = ({ s₂ with vm := (U.calling g mk a).vm } : State).setVm s₂.vm := rfl
      rw [e2] at this
      exact this
    have hf₂ : s₂.frames = .throwing q :: .java g :: U.frames.tail := hend
    have hW' : U.WarmedH s₂.vm := hW₂
    have hs₂ : s₂ = ((({ U with heap := s₂.heap, slotsUsed := s₂.slotsUsed } : State).setVm s₂.vm).setTop g).pushFrame (.throwing q) := by
      refine e3.trans ?_
      rw [hf₂, State.calling_eq h.top, State.setFrames_setFrames, State.pushFrame, State.frames_setTop _ hr', State.setTop_of_frames _ hr', State.setFrames_setFrames, hr]
      rfl
    have hsame : U.sameButNew ({ U with heap := s₂.heap, slotsUsed := s₂.slotsUsed } : State) L mc ms := by
      refine ⟨?_, q2, q3, q4, q5, q6⟩
      obtain ⟨t, ht, -⟩ := State.frames_cons hr
      show ({ U with heap := s₂.heap, slotsUsed := s₂.slotsUsed } : State) = { U.setFrames U.frames with heap := s₂.heap, slotsUsed := s₂.slotsUsed }
      rw [State.setFrames_self ht]
    subst hg
    refine Or.inr ⟨q, ⟨(({ U with heap := s₂.heap, slotsUsed := s₂.slotsUsed } : State).setVm s₂.vm), Ls ++ L, c0 + mc, s0 + ms⟩,
      ⟨X.admits, X.cas, X.clock, X.frames, X.room, X.hears, X.method, X.code, (X.here.setHeapUsed s₂.heap s₂.slotsUsed).setVm hW'.alike, X.tail, State.WarmedH.trans X.warmed hW', X.limits, X.bytes, X.same.trans (hsame.setVm s.vm)⟩,
      ⟨g, mk, s₂, L, E, ce, rfl, rfl, hx, hce, hcv, hcl, rfl, hL, rfl, rfl⟩, ?_⟩
    show Steps p.tables e below _ (((({ U with heap := s₂.heap, slotsUsed := s₂.slotsUsed } : State).setVm s₂.vm).setTop g).pushFrame (.throwing q))
    rw [← hs₂]
    exact hsteps
end
variable {p : Program} {l : Launch} {e : Env} {R : Room} {s : State} {m : MethodId} {args : Array Value} {below : List Frame} {meth : Method} {c : Code} {T : State} {H : Heap} {locs : List Loc} {cells slots : Nat}
theorem vx_callVX (X : Stand p l e R s m args below meth c T locs cells slots) (hexec : p.tables.exec = Jvm.exec) {own C : String} {index : Nat} {y : MethodName} {bytes : ByteArray} {maxL : Nat} {ret : Option FieldType} {hh : List (Nat × Nat × Nat × Nat)}
    (hown : s.vm.findClass own = some m.cls) (hlink : (Cond.methodLink own index y).before args s = true) (hinst : (Cond.instanceMethod y).before args s = true) (hsel : (Cond.selects C y y).before args s = true)
    (hcode : (Cond.codeWith y bytes maxL ret hh).before args s = true) (hy : y.cls ≠ "java/lang/invoke/MethodHandle" ∧ y.cls ≠ "java/lang/invoke/VarHandle")
    {W9 : Nat} {Pre : Pt → Array Value → Prop} {Post : Pt → Array Value → Option Value → Pt → Prop} {PostX : Pt → Array Value → Addr → Pt → Prop} (hK : vx_Back l R p e below s args y 3 W9 Pre Post PostX)
    {b : Addr} {cellB : Cell} (hcell : T.heap[b]? = some cellB) (hobj : cellB.vm.isStatics = false) (hcls : s.vm.findClass C = some cellB.cls)
    {g : JFrame} (hg : g.method = m) (hsize : g.locals.size = c.maxLocals) {argsL rest : List Value} (hlen : ∀ sig, parseMethodDescriptor y.desc = some sig → argsL.length = sig.parameters.length)
    (hstack : g.stack = argsL.reverse ++ .ref b :: rest) (hW : 2 * g.monitorRoom + (rest.map fun v => v.category).sum ≤ W9) (hdg : decode c.code g.pc = .ok (.invokevirtual index, 3))
    (hpre : ∀ vm₁, s.WarmedH vm₁ → Pre ⟨T.setVm vm₁, locs, cells, slots⟩ (Value.ref b :: argsL).toArray) :
    (∃ (v : Option Value) (vm₁ : Vm) (B : Pt), s.WarmedH vm₁ ∧ Stand p l e R s m args below meth c B.U B.locs B.cells B.slots ∧ Post ⟨T.setVm vm₁, locs, cells, slots⟩ (Value.ref b :: argsL).toArray v B ∧
      ∀ target, Steps p.tables e below (B.U.setTop { g with pc := g.pc + 3, stack := v.toList ++ rest }) target → Steps p.tables e below (T.setTop g) target) ∨
    (∃ (q : Addr) (vm₁ : Vm) (B : Pt), s.WarmedH vm₁ ∧ Stand p l e R s m args below meth c B.U B.locs B.cells B.slots ∧ PostX ⟨T.setVm vm₁, locs, cells, slots⟩ (Value.ref b :: argsL).toArray q B ∧
      Steps p.tables e below (T.setTop g) ((B.U.setTop { g with stack := rest }).pushFrame (.throwing q))) := by
  obtain ⟨mk, methM, hnamed, hmethM, hstM, habM⟩ := Cond.instanceMethod_spec hinst
  obtain ⟨m8, methM', cM, hn8, hmethM', -, -, -, -, -, -, hsigM⟩ := Cond.codeWith_spec hcode
  cases Option.some.inj (hn8.symm.trans hnamed)
  cases hmethM.symm.trans hmethM'
  obtain ⟨c2, r2, m2, q1, q2, q3, q4, kP, hkP, hkPi⟩ := Cond.selects_spec hsel
  cases hcls.symm.trans q1
  cases (State.methodFound?_of_named hnamed hy).symm.trans q2
  cases hnamed.symm.trans q3
  have hselP : selectMethod e.platform s.vm cellB.cls mk = .method mk := by rw [Launch.admits_selectMethod X.admits]; exact q4
  obtain ⟨vm₁, X₁, hstep₁⟩ := X.invokevirtual hexec hown hlink hnamed hmethM hstM hkP hkPi hy (a := b) (cell := cellB) hcell
    (fun z h => by rw [h] at hobj; cases hobj) hselP hmethM habM hkP hkPi (g := g) hg (argsL := argsL) (rest := rest) (hlen _ hsigM) hstack hdg
  rcases hK m meth c ⟨T.setVm vm₁, locs, cells, slots⟩ { g with stack := rest } (.invokevirtual index) mk (Value.ref b :: argsL).toArray X₁ hg hsize hdg hW (X₁.named hnamed) (hpre vm₁ X₁.warmed) with ⟨v, B, X', hpost, hsteps⟩ | ⟨q, B, X', hpost, hsteps⟩
  · exact Or.inl ⟨v, vm₁, B, X₁.warmed, X', hpost, fun target h => hstep₁ _ fun acts => by rw [doInvoke_state]; exact hsteps.trans h⟩
  · exact Or.inr ⟨q, vm₁, B, X₁.warmed, X', hpost, hstep₁ _ fun acts => by rw [doInvoke_state]; exact hsteps⟩
theorem vx_callSX (X : Stand p l e R s m args below meth c T locs cells slots) (hexec : p.tables.exec = Jvm.exec) {own : String} {index : Nat} {y : MethodName} {bytes : ByteArray} {maxL : Nat} {ret : Option FieldType} {hh : List (Nat × Nat × Nat × Nat)}
    (hown : s.vm.findClass own = some m.cls) (hlink : (Cond.methodLink own index y).before args s = true) (hstat : (Cond.static y).before args s = true) (hinit : (Cond.initialized y.cls).before args s = true)
    (hcode : (Cond.codeWith y bytes maxL ret hh).before args s = true) (hy : y.cls ≠ "java/lang/invoke/MethodHandle" ∧ y.cls ≠ "java/lang/invoke/VarHandle")
    {W9 : Nat} {Pre : Pt → Array Value → Prop} {Post : Pt → Array Value → Option Value → Pt → Prop} {PostX : Pt → Array Value → Addr → Pt → Prop} (hK : vx_Back l R p e below s args y 3 W9 Pre Post PostX)
    {g : JFrame} (hg : g.method = m) (hsize : g.locals.size = c.maxLocals) {argsL rest : List Value} (hlen : ∀ sig, parseMethodDescriptor y.desc = some sig → argsL.length = sig.parameters.length)
    (hstack : g.stack = argsL.reverse ++ rest) (hW : 2 * g.monitorRoom + (rest.map fun v => v.category).sum ≤ W9) (hdg : decode c.code g.pc = .ok (.invokestatic index, 3))
    (hpre : ∀ vm₁, s.WarmedH vm₁ → Pre ⟨T.setVm vm₁, locs, cells, slots⟩ argsL.toArray) :
    (∃ (v : Option Value) (vm₁ : Vm) (B : Pt), s.WarmedH vm₁ ∧ Stand p l e R s m args below meth c B.U B.locs B.cells B.slots ∧ Post ⟨T.setVm vm₁, locs, cells, slots⟩ argsL.toArray v B ∧
      ∀ target, Steps p.tables e below (B.U.setTop { g with pc := g.pc + 3, stack := v.toList ++ rest }) target → Steps p.tables e below (T.setTop g) target) ∨
    (∃ (q : Addr) (vm₁ : Vm) (B : Pt), s.WarmedH vm₁ ∧ Stand p l e R s m args below meth c B.U B.locs B.cells B.slots ∧ PostX ⟨T.setVm vm₁, locs, cells, slots⟩ argsL.toArray q B ∧
      Steps p.tables e below (T.setTop g) ((B.U.setTop { g with stack := rest }).pushFrame (.throwing q))) := by
  obtain ⟨mk, methM, cM, hnamed, hmethM, -, -, -, -, -, -, hsigM⟩ := Cond.codeWith_spec hcode
  have hstatic : methM.isStatic = true := Cond.static_spec hnamed hmethM hstat
  obtain ⟨kP, hkP, -⟩ := className_of_methodNamed hnamed
  have hinitP : kP.init = .initialized := Cond.initialized_spec (findClass_of_methodNamed hnamed) hkP hinit
  obtain ⟨vm₁, X₁, hstep₁⟩ := X.invokestatic hexec hown hlink hnamed hmethM hstatic hkP hinitP hy (g := g) hg (argsL := argsL) (rest := rest) (hlen _ hsigM) hstack hdg
  rcases hK m meth c ⟨T.setVm vm₁, locs, cells, slots⟩ { g with stack := rest } (.invokestatic index) mk argsL.toArray X₁ hg hsize hdg hW (X₁.named hnamed) (hpre vm₁ X₁.warmed) with ⟨v, B, X', hpost, hsteps⟩ | ⟨q, B, X', hpost, hsteps⟩
  · exact Or.inl ⟨v, vm₁, B, X₁.warmed, X', hpost, fun target h => hstep₁ _ fun acts => by rw [doInvoke_state]; exact hsteps.trans h⟩
  · exact Or.inr ⟨q, vm₁, B, X₁.warmed, X', hpost, hstep₁ _ fun acts => by rw [doInvoke_state]; exact hsteps⟩
theorem vx_callVW (X : Stand p l e R s m args below meth c T locs cells slots) (hexec : p.tables.exec = Jvm.exec) {own C : String} {index : Nat} {y : MethodName} {bytes : ByteArray} {maxL : Nat} {ret : Option FieldType} {hh : List (Nat × Nat × Nat × Nat)}
    (hown : s.vm.findClass own = some m.cls) (hlink : (Cond.methodLink own index y).before args s = true) (hinst : (Cond.instanceMethod y).before args s = true) (hsel : (Cond.selects C y y).before args s = true)
    (hcode : (Cond.codeWith y bytes maxL ret hh).before args s = true) (hy : y.cls ≠ "java/lang/invoke/MethodHandle" ∧ y.cls ≠ "java/lang/invoke/VarHandle")
    {W9 : Nat} {Pre : Pt → Array Value → Prop} {Post : Pt → Array Value → Option Value → Pt → Prop} (hK : Back l R p e below s args y 3 W9 Pre Post)
    {b : Addr} {cellB : Cell} (hcell : T.heap[b]? = some cellB) (hobj : cellB.vm.isStatics = false) (hcls : s.vm.findClass C = some cellB.cls)
    {g : JFrame} (hg : g.method = m) (hsize : g.locals.size = c.maxLocals) {argsL rest : List Value} (hlen : ∀ sig, parseMethodDescriptor y.desc = some sig → argsL.length = sig.parameters.length)
    (hstack : g.stack = argsL.reverse ++ .ref b :: rest) (hW : 2 * g.monitorRoom + (rest.map fun v => v.category).sum ≤ W9) (hdg : decode c.code g.pc = .ok (.invokevirtual index, 3))
    (hpre : ∀ vm₁, s.WarmedH vm₁ → Pre ⟨T.setVm vm₁, locs, cells, slots⟩ (Value.ref b :: argsL).toArray) :
    ∃ (v : Option Value) (vm₁ : Vm) (B : Pt), s.WarmedH vm₁ ∧ Stand p l e R s m args below meth c B.U B.locs B.cells B.slots ∧ Post ⟨T.setVm vm₁, locs, cells, slots⟩ (Value.ref b :: argsL).toArray v B ∧
      ∀ target, Steps p.tables e below (B.U.setTop { g with pc := g.pc + 3, stack := v.toList ++ rest }) target → Steps p.tables e below (T.setTop g) target := by
  obtain ⟨mk, methM, hnamed, hmethM, hstM, habM⟩ := Cond.instanceMethod_spec hinst
  obtain ⟨m8, methM', cM, hn8, hmethM', -, -, -, -, -, -, hsigM⟩ := Cond.codeWith_spec hcode
  cases Option.some.inj (hn8.symm.trans hnamed)
  cases hmethM.symm.trans hmethM'
  obtain ⟨c2, r2, m2, q1, q2, q3, q4, kP, hkP, hkPi⟩ := Cond.selects_spec hsel
  cases hcls.symm.trans q1
  cases (State.methodFound?_of_named hnamed hy).symm.trans q2
  cases hnamed.symm.trans q3
  have hselP : selectMethod e.platform s.vm cellB.cls mk = .method mk := by rw [Launch.admits_selectMethod X.admits]; exact q4
  obtain ⟨vm₁, X₁, hstep₁⟩ := X.invokevirtual hexec hown hlink hnamed hmethM hstM hkP hkPi hy (a := b) (cell := cellB) hcell
    (fun z h => by rw [h] at hobj; cases hobj) hselP hmethM habM hkP hkPi (g := g) hg (argsL := argsL) (rest := rest) (hlen _ hsigM) hstack hdg
  obtain ⟨v, B, X', hpost, hsteps⟩ := hK m meth c ⟨T.setVm vm₁, locs, cells, slots⟩ { g with stack := rest } (.invokevirtual index) mk (Value.ref b :: argsL).toArray X₁ hg hsize hdg hW (X₁.named hnamed) (hpre vm₁ X₁.warmed)
  exact ⟨v, vm₁, B, X₁.warmed, X', hpost, fun target h => hstep₁ _ fun acts => by rw [doInvoke_state]; exact hsteps.trans h⟩
abbrev vx_CVW (R : Room) (s : State) (args : Array Value) (own C : String) (index : Nat) (y : MethodName) (bytes : ByteArray) (maxL : Nat) (ret : Option FieldType) (hh : List (Nat × Nat × Nat × Nat)) (ws : List Cond) (rm : Room) (mc ms n : Nat) : Prop :=
  (rm.cells = mc ∧ rm.slots = ms ∧ rm.frames + 1 ≤ R.frames ∧ 8 + (maxL + 11) + rm.locals ≤ R.locals ∧ (∀ w ∈ ws, ∀ (a' : Array Value) (U : State), s.WarmedH U.vm → w.before a' U = true) ∧ Cond.codeWith y bytes maxL ret hh ∈ ws) ∧
  (Cond.codeWith y bytes maxL ret hh).before args s = true ∧ (Cond.initialized y.cls).before args s = true ∧ (y.cls ≠ "java/lang/invoke/MethodHandle" ∧ y.cls ≠ "java/lang/invoke/VarHandle") ∧
  (∀ sig, parseMethodDescriptor y.desc = some sig → n = sig.parameters.length) ∧ (Cond.methodLink own index y).before args s = true ∧ (Cond.instanceMethod y).before args s = true ∧ (Cond.selects C y y).before args s = true
theorem vx_cwVW {own C : String} {index maxL mc ms : Nat} {y : MethodName} {bytes : ByteArray} {ret : Option FieldType} {hh : List (Nat × Nat × Nat × Nat)} {Ts ws ws' : List Cond} {rm : Room} (n : Nat) (ht : ∀ w ∈ Ts, w.before args s = true) (hT : GoodIn Ts (wsV own index C y ws)) (hw : ws = Cond.codeWith y bytes maxL ret hh :: ws') (hrc : rm.cells = mc) (hrs : rm.slots = ms)
    (hd : y.cls = C ∧ y.cls ≠ "java/lang/invoke/MethodHandle" ∧ y.cls ≠ "java/lang/invoke/VarHandle" ∧ (parseMethodDescriptor y.desc).map (fun d => d.parameters.length) = some n) (hR : rm.frames + 1 ≤ R.frames ∧ 8 + (maxL + 11) + rm.locals ≤ R.locals) :
    vx_CVW R s args own C index y bytes maxL ret hh ws rm mc ms n := by
  obtain ⟨hC, hd⟩ := hd
  subst hC
  have ok : ∀ w ∈ wsV own index y.cls y ws, w.before args s = true := fun w h => ht w (hT w h).1
  have hG : GoodIn Ts ws := fun w h => hT w (by unfold wsV; exact List.mem_append_right _ h)
  have hc : Cond.codeWith y bytes maxL ret hh ∈ ws := by rw [hw]; exact List.mem_cons_self
  refine ⟨⟨hrc, hrs, hR.1, hR.2, pay_in ht hG, hc⟩, ht _ (hG _ hc).1, ok _ (by simp [wsV]), ⟨hd.1, hd.2.1⟩, fun sig h => ?_, ok _ (by simp [wsV]), ok _ (by simp [wsV]), ok _ (by simp [wsV])⟩
  have h2 := hd.2.2
  rw [h] at h2
  exact (Option.some.inj h2).symm
theorem vx_runVW {y : MethodName} {bytes cc : ByteArray} {maxL nL mc ms n index : Nat} {ret : Option FieldType} {hh : List (Nat × Nat × Nat × Nat)} {ws : List Cond} {rm : Room} {Pc : Array Value → State → Prop} {Qc : Array Value → State → Outcome → State → Prop} {free : Addr → Prop} {Ts : List Cond} {own C : String} {b : Addr} {As rest : List Value} {g : JFrame}
    (S : CallFix p m c cc nL s args Ts own) (hM : Met l y ws rm Pc Qc mc ms free) (cw : vx_CVW R s args own C index y bytes maxL ret hh ws rm mc ms n) (hp : PreV s H C b Pc As)
    (hg : g.method = m) (hn : As.length = n) (hsize : g.locals.size = nL) (hstack : g.stack = As.reverse ++ .ref b :: rest) (hW : 2 * g.monitorRoom + (rest.map fun v => v.category).sum ≤ 8) (hdg : decode cc g.pc = .ok (.invokevirtual index, 3)) (hf : cells + mc ≤ R.cells ∧ slots + ms ≤ R.slots) :
    va_Run p l e R s m args below meth c H locs cells slots mc ms g rest (Qc (Value.ref b :: As).toArray) free := by
  obtain ⟨⟨hrc, hrs, hfr, hlo, hws, hcw⟩, hcode, hini, hy, hlen, hl, hin, hse⟩ := cw
  have hK : Back l R p e below s args y 3 8 (PreOf R mc ms Pc) (PostOf Qc mc ms free) := va_backW (hh := hh) (bytes := bytes) (maxL := maxL) (ret := ret) hM hp.1 hrc hrs hfr hlo hws hcw (fun a' U hW => word_at hW (Or.inl (by first | rfl | simp [Cond.onTables, Cond.keeps, Cond.steady])) hini)
  obtain ⟨hx, hb, hml, ho, -⟩ := S
  obtain ⟨-, ⟨cellB, hcB, hoB, hclB⟩, hPc⟩ := hp
  intro T hT X
  obtain ⟨v, vm₁, ⟨U', l2, c2, s2⟩, hW₁, X', ⟨g', mk, t, L, e1, e2, hq, h1, hL, h2, h3⟩, st⟩ := vx_callVW X hx (C := C) (hh := hh) (bytes := bytes) (maxL := maxL) (ret := ret) ho hl hin hse hcode hy hK (by rw [hT]; exact hcB) hoB hclB hg (hsize.trans hml.symm) (argsL := As) (rest := rest) (fun sig h => hn.trans (hlen sig h)) hstack hW (by rw [hb]; exact hdg)
    (fun vm₁ hW₁ => ⟨hf.1, hf.2, hPc (T.setVm vm₁) hT hW₁⟩)
  dsimp only [Pt.U, Pt.locs, Pt.cells, Pt.slots] at X' e1 e2 h1 h2 h3 st
  subst h1; subst h2; subst h3
  exact ⟨v, (T.setVm vm₁).calling g' mk (Value.ref b :: As).toArray, t, U', L, hT, X', hL, e1, e2, hq, st⟩
section
variable {y : MethodName} {bytes cc : ByteArray} {maxL nL mc ms n index : Nat} {ret : Option FieldType} {ws : List Cond} {rm : Room} {Pc : Array Value → State → Prop} {Qc : Array Value → State → Outcome → State → Prop} {XC : String → State → State → Prop} {free : Addr → Prop} {Ts : List Cond} {own C : String} {b : Addr} {As rest : List Value} {g : JFrame}
theorem vx_runVX {hh : List (Nat × Nat × Nat × Nat)} (S : CallFix p m c cc nL s args Ts own) (hM : vx_Met l y ws rm Pc Qc XC mc ms free) (cw : vx_CVW R s args own C index y bytes maxL ret hh ws rm mc ms n) (hp : PreV s H C b Pc As)
    (hg : g.method = m) (hn : As.length = n) (hsize : g.locals.size = nL) (hstack : g.stack = As.reverse ++ .ref b :: rest) (hW : 2 * g.monitorRoom + (rest.map fun v => v.category).sum ≤ 8) (hdg : decode cc g.pc = .ok (.invokevirtual index, 3)) (hf : cells + mc ≤ R.cells ∧ slots + ms ≤ R.slots) :
    vx_Run p l e R s m args below meth c H locs cells slots mc ms g rest (Qc (Value.ref b :: As).toArray) XC free := by
  obtain ⟨⟨hrc, hrs, hfr, hlo, hws, hcw⟩, hcode, hini, hy, hlen, hl, hin, hse⟩ := cw
  have hK : vx_Back l R p e below s args y 3 8 (PreOf R mc ms Pc) (PostOf Qc mc ms free) (vx_Post XC mc ms free) := vx_backW (hh := hh) (bytes := bytes) (maxL := maxL) (ret := ret) hM hp.1 hrc hrs hfr hlo hws hcw (fun a' U hW => word_at hW (Or.inl (by first | rfl | simp [Cond.onTables, Cond.keeps, Cond.steady])) hini)
  obtain ⟨hx, hb, hml, ho, -⟩ := S
  obtain ⟨-, ⟨cellB, hcB, hoB, hclB⟩, hPc⟩ := hp
  intro T hT X
  rcases vx_callVX X hx (C := C) (hh := hh) (bytes := bytes) (maxL := maxL) (ret := ret) ho hl hin hse hcode hy hK (by rw [hT]; exact hcB) hoB hclB hg (hsize.trans hml.symm) (argsL := As) (rest := rest) (fun sig h => hn.trans (hlen sig h)) hstack hW (by rw [hb]; exact hdg)
    (fun vm₁ hW₁ => ⟨hf.1, hf.2, hPc (T.setVm vm₁) hT hW₁⟩) with ⟨v, vm₁, ⟨U', l2, c2, s2⟩, hW₁, X', ⟨g', mk, t, L, e1, e2, hq, h1, hL, h2, h3⟩, st⟩ | ⟨q, vm₁, ⟨U', l2, c2, s2⟩, hW₁, X', ⟨g', mk, t, L, E, ce, e1, e2, hq, hce, hcv, hcl, h1, hL, h2, h3⟩, st⟩
  · dsimp only [Pt.U, Pt.locs, Pt.cells, Pt.slots] at X' e1 e2 h1 h2 h3 st
    subst h1; subst h2; subst h3
    exact Or.inl ⟨v, (T.setVm vm₁).calling g' mk (Value.ref b :: As).toArray, t, U', L, hT, X', hL, e1, e2, hq, st⟩
  · dsimp only [Pt.U, Pt.locs, Pt.cells, Pt.slots] at X' e1 e2 h1 h2 h3 st hcl
    subst h1; subst h2; subst h3
    exact Or.inr ⟨q, (T.setVm vm₁).calling g' mk (Value.ref b :: As).toArray, t, U', L, E, ce, hT, X', hL, e1, e2, hq, hce, hcv, vx_cls hW₁ hcl, st⟩
theorem vx_runSX {hh : List (Nat × Nat × Nat × Nat)} (S : CallFix p m c cc nL s args Ts own) (hM : vx_Met l y ws rm Pc Qc XC mc ms free) (cw : vx_CSW R s args own index y bytes maxL ret hh ws rm mc ms n) (hp : PreS s H Pc As)
    (hg : g.method = m) (hn : As.length = n) (hsize : g.locals.size = nL) (hstack : g.stack = As.reverse ++ rest) (hW : 2 * g.monitorRoom + (rest.map fun v => v.category).sum ≤ 8) (hdg : decode cc g.pc = .ok (.invokestatic index, 3)) (hf : cells + mc ≤ R.cells ∧ slots + ms ≤ R.slots) :
    vx_Run p l e R s m args below meth c H locs cells slots mc ms g rest (Qc As.toArray) XC free := by
  obtain ⟨⟨hrc, hrs, hfr, hlo, hws, hcw⟩, hcode, hini, hy, hlen, hl, hstt⟩ := cw
  have hK : vx_Back l R p e below s args y 3 8 (PreOf R mc ms Pc) (PostOf Qc mc ms free) (vx_Post XC mc ms free) := vx_backW (hh := hh) (bytes := bytes) (maxL := maxL) (ret := ret) hM hp.1 hrc hrs hfr hlo hws hcw (fun a' U hW => word_at hW (Or.inl (by first | rfl | simp [Cond.onTables, Cond.keeps, Cond.steady])) hini)
  obtain ⟨hx, hb, hml, ho, -⟩ := S
  intro T hT X
  rcases vx_callSX X hx (hh := hh) (bytes := bytes) (maxL := maxL) (ret := ret) ho hl hstt hini hcode hy hK hg (hsize.trans hml.symm) (argsL := As) (rest := rest) (fun sig h => hn.trans (hlen sig h)) hstack hW (by rw [hb]; exact hdg)
    (fun vm₁ hW₁ => ⟨hf.1, hf.2, hp.2 (T.setVm vm₁) hT hW₁⟩) with ⟨v, vm₁, ⟨U', l2, c2, s2⟩, hW₁, X', ⟨g', mk, t, L, e1, e2, hq, h1, hL, h2, h3⟩, st⟩ | ⟨q, vm₁, ⟨U', l2, c2, s2⟩, hW₁, X', ⟨g', mk, t, L, E, ce, e1, e2, hq, hce, hcv, hcl, h1, hL, h2, h3⟩, st⟩
  · dsimp only [Pt.U, Pt.locs, Pt.cells, Pt.slots] at X' e1 e2 h1 h2 h3 st
    subst h1; subst h2; subst h3
    exact Or.inl ⟨v, (T.setVm vm₁).calling g' mk As.toArray, t, U', L, hT, X', hL, e1, e2, hq, st⟩
  · dsimp only [Pt.U, Pt.locs, Pt.cells, Pt.slots] at X' e1 e2 h1 h2 h3 st hcl
    subst h1; subst h2; subst h3
    exact Or.inr ⟨q, (T.setVm vm₁).calling g' mk As.toArray, t, U', L, E, ce, hT, X', hL, e1, e2, hq, hce, hcv, vx_cls hW₁ hcl, st⟩
end
end VXH
theorem vx_ofWH {l : Launch} {y : MethodName} {ws ws' : List Cond} {rm : Room} {Pc : Array Value → State → Prop} {Qc : Array Value → State → Outcome → State → Prop} {XC : String → State → State → Prop} {mc ms : Nat} {free : Addr → Prop} {cc : ByteArray} {maxL : Nat} {ret : Option FieldType} {hh : List (Nat × Nat × Nat × Nat)}
    (hy : plainName y.cls = true) (hw : ws = Cond.codeWith y cc maxL ret hh :: ws')
    (body : ∀ p e s m args below meth c s₁, BodyLoose p l y (headSpec ws rm) cc maxL ret e s m args below meth c s₁ → c.maxLocals = maxL → Pc args s →
      W p l e (headSpec ws rm).room s m args below meth c s.heap [] 0 0 (vx_MQ below Qc XC args s mc ms free) (entryFrame m args maxL)) : vx_Met l y ws rm Pc Qc XC mc ms free := by
  refine MetFree.of_bodyS (code := cc) (maxLocals := maxL) (ret := ret) hy ?_ ?_
  · intro args s m h hn
    obtain ⟨m9, meth, c, hn9, h1, h2, h3, h4, -, h5, h6, -⟩ := Cond.codeWith_spec (atoms_spec (ws := ws) h _ (by rw [hw]; exact List.mem_cons_self))
    cases hn.symm.trans hn9
    exact ⟨meth, c, h1, h2, h3, h4, h5, h6⟩
  · intro p e s m args below meth c s₁ B hml hP _
    have hh0 : s₁.heap = s.heap := by rw [B.state]; rfl
    obtain ⟨t, a1, o, b1, b2, b3⟩ := body p e s m args below meth c s₁ B hml hP s₁ hh0 (Stand.of_body B)
    exact ⟨t, o, a1, b1, b2, b3⟩
/-! ===== END ===== -/
end
section
/-! ===== BEGIN printed: names, fields, word lists, decode rows ===== -/
def RX0 : String := "GlassRopes$Course"
def TX0 : u_T := fun k => match k with
  | 0 => ("GlassRopes$Course", "glass", "LGlassRopes$Glass;", true)
  | 1 => ("GlassRopes$Course", "ropes", "LGlassRopes$Ropes;", true)
  | 2 => ("GlassRopes$Course", "wind", "I", false)
  | 3 => ("GlassRopes$Course", "day", "I", false)
  | 4 => ("GlassRopes$Course", "coins", "I", false)
  | _ => ("GlassRopes$Course", "feastDays", "I", false)
def tyX0 : Nat → FieldType := fun k => match k with
  | 0 => .object "GlassRopes$Glass"
  | 1 => .object "GlassRopes$Ropes"
  | 2 => .int
  | 3 => .int
  | 4 => .int
  | _ => .int
abbrev wsX00 : List Cond := u_ws RX0 TX0 6
theorem nmX0 : ∀ a, a < 6 → ∀ b, b < 6 → a ≠ b → (TX0 a).2.1 ≠ (TX0 b).2.1 := by decide +kernel
theorem tyX0_ok : ∀ k, k < 6 → parseFieldDescriptor (TX0 k).2.2.1 = some (tyX0 k) := by decide +kernel
abbrev cX0_init : ByteArray := prog_2_method_1_code
def yX0_init : MethodName := ⟨RX0, "<init>", "()V"⟩
abbrev cX0_copyFrom : ByteArray := prog_2_method_2_code
def yX0_copyFrom : MethodName := ⟨RX0, "copyFrom", "(LGlassRopes$Course;)V"⟩
abbrev cX0_goOn : ByteArray := prog_2_method_3_code
def yX0_goOn : MethodName := ⟨RX0, "goOn", "(ILGlassRopes$Windows;LGlassRopes$Feasts;)V"⟩
abbrev cX0_goOneDay : ByteArray := prog_2_method_4_code
def yX0_goOneDay : MethodName := ⟨RX0, "goOneDay", "(LGlassRopes$Windows;LGlassRopes$Feasts;)V"⟩
def RX1 : String := "GlassRopes$Feasts"
def TX1 : u_T := fun k => match k with
  | 0 => ("GlassRopes$Feasts", "size", "I", false)
  | 1 => ("GlassRopes$Feasts", "every", "[I", true)
  | _ => ("GlassRopes$Feasts", "on", "[I", true)
def tyX1 : Nat → FieldType := fun k => match k with
  | 0 => .int
  | 1 => .array .int
  | _ => .array .int
abbrev wsX10 : List Cond := u_ws RX1 TX1 3
theorem nmX1 : ∀ a, a < 3 → ∀ b, b < 3 → a ≠ b → (TX1 a).2.1 ≠ (TX1 b).2.1 := by decide +kernel
theorem tyX1_ok : ∀ k, k < 3 → parseFieldDescriptor (TX1 k).2.2.1 = some (tyX1 k) := by decide +kernel
abbrev cX1_init : ByteArray := prog_3_method_1_code
def yX1_init : MethodName := ⟨RX1, "<init>", "()V"⟩
abbrev cX1_put : ByteArray := prog_3_method_2_code
def yX1_put : MethodName := ⟨RX1, "put", "(II)I"⟩
abbrev cX1_areOn : ByteArray := prog_3_method_3_code
def yX1_areOn : MethodName := ⟨RX1, "areOn", "(I)Z"⟩
abbrev cX1_daysUntil : ByteArray := prog_3_method_4_code
def yX1_daysUntil : MethodName := ⟨RX1, "daysUntil", "(I)I"⟩
def RX2 : String := "GlassRopes$Glass"
def TX2 : u_T := fun k => match k with
  | _ => ("GlassRopes$Glass", "soot", "[I", true)
def tyX2 : Nat → FieldType := fun k => match k with
  | _ => .array .int
abbrev wsX20 : List Cond := u_ws RX2 TX2 1
theorem nmX2 : ∀ a, a < 1 → ∀ b, b < 1 → a ≠ b → (TX2 a).2.1 ≠ (TX2 b).2.1 := by decide +kernel
theorem tyX2_ok : ∀ k, k < 1 → parseFieldDescriptor (TX2 k).2.2.1 = some (tyX2 k) := by decide +kernel
abbrev cX2_init : ByteArray := prog_4_method_1_code
def yX2_init : MethodName := ⟨RX2, "<init>", "()V"⟩
abbrev cX2_copyFrom : ByteArray := prog_4_method_2_code
def yX2_copyFrom : MethodName := ⟨RX2, "copyFrom", "(LGlassRopes$Glass;)V"⟩
abbrev cX2_at : ByteArray := prog_4_method_3_code
def yX2_at : MethodName := ⟨RX2, "at", "(II)I"⟩
abbrev cX2_gather : ByteArray := prog_4_method_4_code
def yX2_gather : MethodName := ⟨RX2, "gather", "(I)V"⟩
abbrev cX2_broughtTo : ByteArray := prog_4_method_5_code
def yX2_broughtTo : MethodName := ⟨RX2, "broughtTo", "(II)I"⟩
abbrev cX2_takeOff : ByteArray := prog_4_method_6_code
def yX2_takeOff : MethodName := ⟨RX2, "takeOff", "(III)I"⟩
abbrev cX2_total : ByteArray := prog_4_method_7_code
def yX2_total : MethodName := ⟨RX2, "total", "()I"⟩
abbrev cX2_cleanPanes : ByteArray := prog_4_method_8_code
def yX2_cleanPanes : MethodName := ⟨RX2, "cleanPanes", "()I"⟩
def RX3 : String := "GlassRopes$Ropes"
def TX3 : u_T := fun k => match k with
  | 0 => ("GlassRopes$Ropes", "size", "I", false)
  | 1 => ("GlassRopes$Ropes", "column", "[I", true)
  | 2 => ("GlassRopes$Ropes", "row", "[I", true)
  | 3 => ("GlassRopes$Ropes", "strength", "[I", true)
  | 4 => ("GlassRopes$Ropes", "toRight", "[Z", true)
  | 5 => ("GlassRopes$Ropes", "cleaned", "[I", true)
  | _ => ("GlassRopes$Ropes", "moved", "[I", true)
def tyX3 : Nat → FieldType := fun k => match k with
  | 0 => .int
  | 1 => .array .int
  | 2 => .array .int
  | 3 => .array .int
  | 4 => .array .boolean
  | 5 => .array .int
  | _ => .array .int
abbrev wsX30 : List Cond := u_ws RX3 TX3 7
theorem nmX3 : ∀ a, a < 7 → ∀ b, b < 7 → a ≠ b → (TX3 a).2.1 ≠ (TX3 b).2.1 := by decide +kernel
theorem tyX3_ok : ∀ k, k < 7 → parseFieldDescriptor (TX3 k).2.2.1 = some (tyX3 k) := by decide +kernel
abbrev cX3_init : ByteArray := prog_5_method_1_code
def yX3_init : MethodName := ⟨RX3, "<init>", "()V"⟩
abbrev cX3_copyFrom : ByteArray := prog_5_method_2_code
def yX3_copyFrom : MethodName := ⟨RX3, "copyFrom", "(LGlassRopes$Ropes;)V"⟩
abbrev cX3_put : ByteArray := prog_5_method_3_code
def yX3_put : MethodName := ⟨RX3, "put", "(IIZ)I"⟩
abbrev cX3_number : ByteArray := prog_5_method_4_code
def yX3_number : MethodName := ⟨RX3, "number", "(II)I"⟩
abbrev cX3_allCleaned : ByteArray := prog_5_method_5_code
def yX3_allCleaned : MethodName := ⟨RX3, "allCleaned", "()I"⟩
abbrev cX3_hangAt : ByteArray := prog_5_method_6_code
def yX3_hangAt : MethodName := ⟨RX3, "hangAt", "(I)Z"⟩
abbrev cX3_rehang : ByteArray := prog_5_method_7_code
def yX3_rehang : MethodName := ⟨RX3, "rehang", "(II)V"⟩
abbrev cX3_work : ByteArray := prog_5_method_8_code
def yX3_work : MethodName := ⟨RX3, "work", "(LGlassRopes$Glass;)V"⟩
abbrev cX3_workOnOne : ByteArray := prog_5_method_9_code
def yX3_workOnOne : MethodName := ⟨RX3, "workOnOne", "(ILGlassRopes$Glass;)V"⟩
abbrev cX3_nextFreeColumn : ByteArray := prog_5_method_10_code
def yX3_nextFreeColumn : MethodName := ⟨RX3, "nextFreeColumn", "(I)I"⟩
def RX4 : String := "GlassRopes$Windows"
def TX4 : u_T := fun k => match k with
  | 0 => ("GlassRopes$Windows", "size", "I", false)
  | 1 => ("GlassRopes$Windows", "x", "[I", true)
  | 2 => ("GlassRopes$Windows", "y", "[I", true)
  | 3 => ("GlassRopes$Windows", "width", "[I", true)
  | 4 => ("GlassRopes$Windows", "height", "[I", true)
  | _ => ("GlassRopes$Windows", "worth", "[I", true)
def tyX4 : Nat → FieldType := fun k => match k with
  | 0 => .int
  | 1 => .array .int
  | 2 => .array .int
  | 3 => .array .int
  | 4 => .array .int
  | _ => .array .int
abbrev wsX40 : List Cond := u_ws RX4 TX4 6
theorem nmX4 : ∀ a, a < 6 → ∀ b, b < 6 → a ≠ b → (TX4 a).2.1 ≠ (TX4 b).2.1 := by decide +kernel
theorem tyX4_ok : ∀ k, k < 6 → parseFieldDescriptor (TX4 k).2.2.1 = some (tyX4 k) := by decide +kernel
abbrev cX4_init : ByteArray := prog_6_method_1_code
def yX4_init : MethodName := ⟨RX4, "<init>", "()V"⟩
abbrev cX4_put : ByteArray := prog_6_method_2_code
def yX4_put : MethodName := ⟨RX4, "put", "(IIIII)I"⟩
abbrev cX4_number : ByteArray := prog_6_method_3_code
def yX4_number : MethodName := ⟨RX4, "number", "(IILGlassRopes$Glass;)I"⟩
abbrev cX4_panes : ByteArray := prog_6_method_4_code
def yX4_panes : MethodName := ⟨RX4, "panes", "(I)I"⟩
abbrev cX4_added : ByteArray := prog_6_method_5_code
def yX4_added : MethodName := ⟨RX4, "added", "(ILGlassRopes$Glass;)I"⟩
abbrev cX4_darkest : ByteArray := prog_6_method_6_code
def yX4_darkest : MethodName := ⟨RX4, "darkest", "(ILGlassRopes$Glass;)I"⟩
abbrev cX4_brings : ByteArray := prog_6_method_7_code
def yX4_brings : MethodName := ⟨RX4, "brings", "(ILGlassRopes$Glass;)I"⟩
abbrev cX4_allBring : ByteArray := prog_6_method_8_code
def yX4_allBring : MethodName := ⟨RX4, "allBring", "(LGlassRopes$Glass;)I"⟩
abbrev cX4_isClean : ByteArray := prog_6_method_9_code
def yX4_isClean : MethodName := ⟨RX4, "isClean", "(ILGlassRopes$Glass;)Z"⟩
abbrev cX4_wipeOff : ByteArray := prog_6_method_10_code
def yX4_wipeOff : MethodName := ⟨RX4, "wipeOff", "(ILGlassRopes$Glass;)I"⟩
def RX5 : String := "GlassRopes"
def TX5 : u_T := fun k => match k with
  | 0 => ("GlassRopes", "windows", "LGlassRopes$Windows;", true)
  | 1 => ("GlassRopes", "feasts", "LGlassRopes$Feasts;", true)
  | 2 => ("GlassRopes", "now", "LGlassRopes$Course;", true)
  | _ => ("GlassRopes", "ahead", "LGlassRopes$Course;", true)
def tyX5 : Nat → FieldType := fun k => match k with
  | 0 => .object "GlassRopes$Windows"
  | 1 => .object "GlassRopes$Feasts"
  | 2 => .object "GlassRopes$Course"
  | _ => .object "GlassRopes$Course"
abbrev wsX50 : List Cond := u_ws RX5 TX5 4
theorem nmX5 : ∀ a, a < 4 → ∀ b, b < 4 → a ≠ b → (TX5 a).2.1 ≠ (TX5 b).2.1 := by decide +kernel
theorem tyX5_ok : ∀ k, k < 4 → parseFieldDescriptor (TX5 k).2.2.1 = some (tyX5 k) := by decide +kernel
abbrev cX5_init : ByteArray := prog_1_method_1_code
def yX5_init : MethodName := ⟨RX5, "<init>", "()V"⟩
abbrev cX5_window : ByteArray := prog_1_method_2_code
def yX5_window : MethodName := ⟨RX5, "window", "(IIIII)I"⟩
abbrev cX5_rope : ByteArray := prog_1_method_3_code
def yX5_rope : MethodName := ⟨RX5, "rope", "(IIZ)I"⟩
abbrev cX5_feast : ByteArray := prog_1_method_4_code
def yX5_feast : MethodName := ⟨RX5, "feast", "(II)I"⟩
abbrev cX5_setWind : ByteArray := prog_1_method_5_code
def yX5_setWind : MethodName := ⟨RX5, "setWind", "(I)I"⟩
abbrev cX5_move : ByteArray := prog_1_method_6_code
def yX5_move : MethodName := ⟨RX5, "move", "(II)I"⟩
abbrev cX5_turn : ByteArray := prog_1_method_7_code
def yX5_turn : MethodName := ⟨RX5, "turn", "(I)Z"⟩
abbrev cX5_wipe : ByteArray := prog_1_method_8_code
def yX5_wipe : MethodName := ⟨RX5, "wipe", "(I)I"⟩
abbrev cX5_pass : ByteArray := prog_1_method_9_code
def yX5_pass : MethodName := ⟨RX5, "pass", "(I)I"⟩
abbrev cX5_soot : ByteArray := prog_1_method_10_code
def yX5_soot : MethodName := ⟨RX5, "soot", "(II)I"⟩
abbrev cX5_about : ByteArray := prog_1_method_11_code
def yX5_about : MethodName := ⟨RX5, "about", "(II)I"⟩
abbrev cX5_told : ByteArray := prog_1_method_12_code
def yX5_told : MethodName := ⟨RX5, "told", "(II)I"⟩
abbrev cX5_count : ByteArray := prog_1_method_13_code
def yX5_count : MethodName := ⟨RX5, "count", "(I)I"⟩
abbrev cX5_isFeast : ByteArray := prog_1_method_14_code
def yX5_isFeast : MethodName := ⟨RX5, "isFeast", "(I)Z"⟩
abbrev cX5_next : ByteArray := prog_1_method_15_code
def yX5_next : MethodName := ⟨RX5, "next", "()I"⟩
abbrev cX5_would : ByteArray := prog_1_method_16_code
def yX5_would : MethodName := ⟨RX5, "would", "(II)I"⟩
abbrev cX5_until : ByteArray := prog_1_method_17_code
def yX5_until : MethodName := ⟨RX5, "until", "(I)I"⟩
abbrev cX5_advise : ByteArray := prog_1_method_18_code
def yX5_advise : MethodName := ⟨RX5, "advise", "(I)I"⟩
abbrev cX5_mean : ByteArray := prog_1_method_19_code
def yX5_mean : MethodName := ⟨RX5, "mean", "()D"⟩
abbrev cX5_digest : ByteArray := prog_1_method_20_code
def yX5_digest : MethodName := ⟨RX5, "digest", "()J"⟩
abbrev cX5_isColumn : ByteArray := prog_1_method_21_code
def yX5_isColumn : MethodName := ⟨RX5, "isColumn", "(I)Z"⟩
abbrev cX5_isWindow : ByteArray := prog_1_method_22_code
def yX5_isWindow : MethodName := ⟨RX5, "isWindow", "(I)Z"⟩
abbrev cX5_isRope : ByteArray := prog_1_method_23_code
def yX5_isRope : MethodName := ⟨RX5, "isRope", "(I)Z"⟩
abbrev cX5_number : ByteArray := prog_1_method_24_code
def yX5_number : MethodName := ⟨RX5, "number", "(I)I"⟩
abbrev cX5_coinsBehind : ByteArray := prog_1_method_25_code
def yX5_coinsBehind : MethodName := ⟨RX5, "coinsBehind", "(III)I"⟩
def RX6 : String := "GlassRopesModel"
def TX6 : u_T := fun k => match k with
  | 0 => ("GlassRopesModel", "thrown", "I", false)
  | 1 => ("GlassRopesModel", "windows", "I", false)
  | 2 => ("GlassRopesModel", "ropes", "I", false)
  | 3 => ("GlassRopesModel", "feasts", "I", false)
  | 4 => ("GlassRopesModel", "told", "[I", true)
  | 5 => ("GlassRopesModel", "strengths", "[I", true)
  | 6 => ("GlassRopesModel", "every", "[I", true)
  | 7 => ("GlassRopesModel", "on", "[I", true)
  | 8 => ("GlassRopesModel", "now", "[I", true)
  | _ => ("GlassRopesModel", "kept", "[I", true)
def tyX6 : Nat → FieldType := fun k => match k with
  | 0 => .int
  | 1 => .int
  | 2 => .int
  | 3 => .int
  | 4 => .array .int
  | 5 => .array .int
  | 6 => .array .int
  | 7 => .array .int
  | 8 => .array .int
  | _ => .array .int
abbrev wsX60 : List Cond := u_ws RX6 TX6 10
theorem nmX6 : ∀ a, a < 10 → ∀ b, b < 10 → a ≠ b → (TX6 a).2.1 ≠ (TX6 b).2.1 := by decide +kernel
theorem tyX6_ok : ∀ k, k < 10 → parseFieldDescriptor (TX6 k).2.2.1 = some (tyX6 k) := by decide +kernel
abbrev cX6_init : ByteArray := prog_8_method_1_code
def yX6_init : MethodName := ⟨RX6, "<init>", "()V"⟩
abbrev cX6_thrown : ByteArray := prog_8_method_2_code
def yX6_thrown : MethodName := ⟨RX6, "thrown", "()I"⟩
abbrev cX6_fail : ByteArray := prog_8_method_3_code
def yX6_fail : MethodName := ⟨RX6, "fail", "(I)I"⟩
abbrev cX6_isIn : ByteArray := prog_8_method_4_code
def yX6_isIn : MethodName := ⟨RX6, "isIn", "(III)Z"⟩
abbrev cX6_isWindow : ByteArray := prog_8_method_5_code
def yX6_isWindow : MethodName := ⟨RX6, "isWindow", "(I)Z"⟩
abbrev cX6_isRope : ByteArray := prog_8_method_6_code
def yX6_isRope : MethodName := ⟨RX6, "isRope", "(I)Z"⟩
abbrev cX6_wi : ByteArray := prog_8_method_7_code
def yX6_wi : MethodName := ⟨RX6, "wi", "(II)I"⟩
abbrev cX6_ro : ByteArray := prog_8_method_8_code
def yX6_ro : MethodName := ⟨RX6, "ro", "(II)I"⟩
abbrev cX6_let : ByteArray := prog_8_method_9_code
def yX6_let : MethodName := ⟨RX6, "let", "(III)V"⟩
abbrev cX6_pane : ByteArray := prog_8_method_10_code
def yX6_pane : MethodName := ⟨RX6, "pane", "(II)I"⟩
abbrev cX6_isHung : ByteArray := prog_8_method_11_code
def yX6_isHung : MethodName := ⟨RX6, "isHung", "(I)Z"⟩
abbrev cX6_isFeastOn : ByteArray := prog_8_method_12_code
def yX6_isFeastOn : MethodName := ⟨RX6, "isFeastOn", "(I)Z"⟩
abbrev cX6_keep : ByteArray := prog_8_method_13_code
def yX6_keep : MethodName := ⟨RX6, "keep", "()V"⟩
abbrev cX6_bringBack : ByteArray := prog_8_method_14_code
def yX6_bringBack : MethodName := ⟨RX6, "bringBack", "()V"⟩
abbrev cX6_window : ByteArray := prog_8_method_15_code
def yX6_window : MethodName := ⟨RX6, "window", "(IIIII)I"⟩
abbrev cX6_rope : ByteArray := prog_8_method_16_code
def yX6_rope : MethodName := ⟨RX6, "rope", "(IIZ)I"⟩
abbrev cX6_feast : ByteArray := prog_8_method_17_code
def yX6_feast : MethodName := ⟨RX6, "feast", "(II)I"⟩
abbrev cX6_setWind : ByteArray := prog_8_method_18_code
def yX6_setWind : MethodName := ⟨RX6, "setWind", "(I)I"⟩
abbrev cX6_hang : ByteArray := prog_8_method_19_code
def yX6_hang : MethodName := ⟨RX6, "hang", "(II)V"⟩
abbrev cX6_move : ByteArray := prog_8_method_20_code
def yX6_move : MethodName := ⟨RX6, "move", "(II)I"⟩
abbrev cX6_turn : ByteArray := prog_8_method_21_code
def yX6_turn : MethodName := ⟨RX6, "turn", "(I)Z"⟩
abbrev cX6_wipe : ByteArray := prog_8_method_22_code
def yX6_wipe : MethodName := ⟨RX6, "wipe", "(I)I"⟩
abbrev cX6_blown : ByteArray := prog_8_method_23_code
def yX6_blown : MethodName := ⟨RX6, "blown", "(I)I"⟩
abbrev cX6_panes : ByteArray := prog_8_method_24_code
def yX6_panes : MethodName := ⟨RX6, "panes", "(I)I"⟩
abbrev cX6_sootOf : ByteArray := prog_8_method_25_code
def yX6_sootOf : MethodName := ⟨RX6, "sootOf", "(IZ)I"⟩
abbrev cX6_brings : ByteArray := prog_8_method_26_code
def yX6_brings : MethodName := ⟨RX6, "brings", "(I)I"⟩
abbrev cX6_allBring : ByteArray := prog_8_method_27_code
def yX6_allBring : MethodName := ⟨RX6, "allBring", "()I"⟩
abbrev cX6_moveOn : ByteArray := prog_8_method_28_code
def yX6_moveOn : MethodName := ⟨RX6, "moveOn", "(I)V"⟩
abbrev cX6_work : ByteArray := prog_8_method_29_code
def yX6_work : MethodName := ⟨RX6, "work", "(I)V"⟩
abbrev cX6_dayOn : ByteArray := prog_8_method_30_code
def yX6_dayOn : MethodName := ⟨RX6, "dayOn", "()V"⟩
abbrev cX6_daysOn : ByteArray := prog_8_method_31_code
def yX6_daysOn : MethodName := ⟨RX6, "daysOn", "(I)V"⟩
abbrev cX6_pass : ByteArray := prog_8_method_32_code
def yX6_pass : MethodName := ⟨RX6, "pass", "(I)I"⟩
abbrev cX6_soot : ByteArray := prog_8_method_33_code
def yX6_soot : MethodName := ⟨RX6, "soot", "(II)I"⟩
abbrev cX6_windowTold : ByteArray := prog_8_method_34_code
def yX6_windowTold : MethodName := ⟨RX6, "windowTold", "(II)I"⟩
abbrev cX6_about : ByteArray := prog_8_method_35_code
def yX6_about : MethodName := ⟨RX6, "about", "(II)I"⟩
abbrev cX6_ropeTold : ByteArray := prog_8_method_36_code
def yX6_ropeTold : MethodName := ⟨RX6, "ropeTold", "(II)I"⟩
abbrev cX6_told : ByteArray := prog_8_method_37_code
def yX6_told : MethodName := ⟨RX6, "told", "(II)I"⟩
abbrev cX6_allSoot : ByteArray := prog_8_method_38_code
def yX6_allSoot : MethodName := ⟨RX6, "allSoot", "()I"⟩
abbrev cX6_cleaned : ByteArray := prog_8_method_39_code
def yX6_cleaned : MethodName := ⟨RX6, "cleaned", "()I"⟩
abbrev cX6_counted : ByteArray := prog_8_method_40_code
def yX6_counted : MethodName := ⟨RX6, "counted", "(I)I"⟩
abbrev cX6_count : ByteArray := prog_8_method_41_code
def yX6_count : MethodName := ⟨RX6, "count", "(I)I"⟩
abbrev cX6_isFeast : ByteArray := prog_8_method_42_code
def yX6_isFeast : MethodName := ⟨RX6, "isFeast", "(I)Z"⟩
abbrev cX6_nextFeast : ByteArray := prog_8_method_43_code
def yX6_nextFeast : MethodName := ⟨RX6, "nextFeast", "()I"⟩
abbrev cX6_next : ByteArray := prog_8_method_44_code
def yX6_next : MethodName := ⟨RX6, "next", "()I"⟩
abbrev cX6_would : ByteArray := prog_8_method_45_code
def yX6_would : MethodName := ⟨RX6, "would", "(II)I"⟩
abbrev cX6_until : ByteArray := prog_8_method_46_code
def yX6_until : MethodName := ⟨RX6, "until", "(I)I"⟩
abbrev cX6_advise : ByteArray := prog_8_method_47_code
def yX6_advise : MethodName := ⟨RX6, "advise", "(I)I"⟩
abbrev cX6_mean : ByteArray := prog_8_method_48_code
def yX6_mean : MethodName := ⟨RX6, "mean", "()D"⟩
abbrev cX6_digest : ByteArray := prog_8_method_49_code
def yX6_digest : MethodName := ⟨RX6, "digest", "()J"⟩
def RJ9 : String := "java/lang/Math"
def TJ9 : u_T := fun k => match k with
  | _ => ("", "", "", false)
def tyJ9 : Nat → FieldType := fun k => match k with
  | _ => .int
abbrev wsJ90 : List Cond := u_ws RJ9 TJ9 0
theorem nmJ9 : ∀ a, a < 0 → ∀ b, b < 0 → a ≠ b → (TJ9 a).2.1 ≠ (TJ9 b).2.1 := by decide +kernel
theorem tyJ9_ok : ∀ k, k < 0 → parseFieldDescriptor (TJ9 k).2.2.1 = some (tyJ9 k) := by decide +kernel
abbrev cJ9_max_7cf53 : ByteArray := prog_13_method_65_code
def yJ9_max_7cf53 : MethodName := ⟨RJ9, "max", "(II)I"⟩
abbrev cJ9_min_7cf53 : ByteArray := prog_13_method_69_code
def yJ9_min_7cf53 : MethodName := ⟨RJ9, "min", "(II)I"⟩
def RJ0 : String := "java/lang/String"
def TJ0 : u_T := fun k => match k with
  | _ => ("", "", "", false)
def tyJ0 : Nat → FieldType := fun k => match k with
  | _ => .int
abbrev wsJ00 : List Cond := u_ws RJ0 TJ0 0
theorem nmJ0 : ∀ a, a < 0 → ∀ b, b < 0 → a ≠ b → (TJ0 a).2.1 ≠ (TJ0 b).2.1 := by decide +kernel
theorem tyJ0_ok : ∀ k, k < 0 → parseFieldDescriptor (TJ0 k).2.2.1 = some (tyJ0 k) := by decide +kernel
def RJ10 : String := "java/lang/System"
def TJ10 : u_T := fun k => match k with
  | _ => ("", "", "", false)
def tyJ10 : Nat → FieldType := fun k => match k with
  | _ => .int
abbrev wsJ100 : List Cond := u_ws RJ10 TJ10 0
theorem nmJ10 : ∀ a, a < 0 → ∀ b, b < 0 → a ≠ b → (TJ10 a).2.1 ≠ (TJ10 b).2.1 := by decide +kernel
theorem tyJ10_ok : ∀ k, k < 0 → parseFieldDescriptor (TJ10 k).2.2.1 = some (tyJ10 k) := by decide +kernel
def RL : String := "GlassRopesLaw"
abbrev cL_window : ByteArray := method_3_code
def yL_window : MethodName := ⟨RL, "window", "(LGlassRopes;IIIII[J)I"⟩
abbrev cL_rope : ByteArray := method_4_code
def yL_rope : MethodName := ⟨RL, "rope", "(LGlassRopes;IIZ[J)I"⟩
abbrev cL_feast : ByteArray := method_5_code
def yL_feast : MethodName := ⟨RL, "feast", "(LGlassRopes;II[J)I"⟩
abbrev cL_setWind : ByteArray := method_6_code
def yL_setWind : MethodName := ⟨RL, "setWind", "(LGlassRopes;I[J)I"⟩
abbrev cL_move : ByteArray := method_7_code
def yL_move : MethodName := ⟨RL, "move", "(LGlassRopes;II[J)I"⟩
abbrev cL_turn : ByteArray := method_8_code
def yL_turn : MethodName := ⟨RL, "turn", "(LGlassRopes;I[J)I"⟩
abbrev cL_wipe : ByteArray := method_9_code
def yL_wipe : MethodName := ⟨RL, "wipe", "(LGlassRopes;I[J)I"⟩
abbrev cL_pass : ByteArray := method_10_code
def yL_pass : MethodName := ⟨RL, "pass", "(LGlassRopes;I[J)I"⟩
abbrev cL_soot : ByteArray := method_11_code
def yL_soot : MethodName := ⟨RL, "soot", "(LGlassRopes;II[J)I"⟩
abbrev cL_about : ByteArray := method_12_code
def yL_about : MethodName := ⟨RL, "about", "(LGlassRopes;II[J)I"⟩
abbrev cL_told : ByteArray := method_13_code
def yL_told : MethodName := ⟨RL, "told", "(LGlassRopes;II[J)I"⟩
abbrev cL_count : ByteArray := method_14_code
def yL_count : MethodName := ⟨RL, "count", "(LGlassRopes;I[J)I"⟩
abbrev cL_isFeast : ByteArray := method_15_code
def yL_isFeast : MethodName := ⟨RL, "isFeast", "(LGlassRopes;I[J)I"⟩
abbrev cL_would : ByteArray := method_16_code
def yL_would : MethodName := ⟨RL, "would", "(LGlassRopes;II[J)I"⟩
abbrev cL_until : ByteArray := method_17_code
def yL_until : MethodName := ⟨RL, "until", "(LGlassRopes;I[J)I"⟩
abbrev cL_advise : ByteArray := method_18_code
def yL_advise : MethodName := ⟨RL, "advise", "(LGlassRopes;I[J)I"⟩
abbrev cL_law : ByteArray := code
def yL_law : MethodName := ⟨RL, "law", "([I)Z"⟩
def wsX2_init : List Cond := .code yX2_init cX2_init 1 none :: ([.methodLink RX2 3 objectInit, .instanceMethod objectInit, .code objectInit ⟨#[0xb1]⟩ 1 none, .arrayClass .int, .fieldLink RX2 9 "GlassRopes$Glass" "soot" "[I"] ++ wsX20)
def wsX3_init : List Cond := .code yX3_init cX3_init 1 none :: ([.methodLink RX3 3 objectInit, .instanceMethod objectInit, .code objectInit ⟨#[0xb1]⟩ 1 none, .fieldLink RX3 9 "GlassRopes$Ropes" "size" "I", .arrayClass .int, .fieldLink RX3 15 "GlassRopes$Ropes" "column" "[I", .fieldLink RX3 19 "GlassRopes$Ropes" "row" "[I", .fieldLink RX3 22 "GlassRopes$Ropes" "strength" "[I", .arrayClass .boolean, .fieldLink RX3 25 "GlassRopes$Ropes" "toRight" "[Z", .fieldLink RX3 29 "GlassRopes$Ropes" "cleaned" "[I", .fieldLink RX3 32 "GlassRopes$Ropes" "moved" "[I"] ++ wsX30)
def wsX0_init_r1 : List Cond := [Cond.methodLink RX0 1 objectInit, Cond.instanceMethod objectInit, Cond.code objectInit ⟨#[0xb1]⟩ 1 none, Cond.classLink RX0 7 RX2, Cond.instantiable RX2 1, Cond.initialized RX2, Cond.fieldLink RX0 10 "GlassRopes$Course" "glass" "LGlassRopes$Glass;", Cond.classLink RX0 16 RX3, Cond.instantiable RX3 7, Cond.initialized RX3, Cond.fieldLink RX0 19 "GlassRopes$Course" "ropes" "LGlassRopes$Ropes;", Cond.fieldLink RX0 23 "GlassRopes$Course" "wind" "I", Cond.fieldLink RX0 27 "GlassRopes$Course" "day" "I", Cond.fieldLink RX0 30 "GlassRopes$Course" "coins" "I", Cond.fieldLink RX0 33 "GlassRopes$Course" "feastDays" "I", Cond.instanceMethod yX2_init, Cond.code yX2_init cX2_init 1 none, Cond.methodLink RX2 3 objectInit, Cond.arrayClass .int, Cond.fieldLink RX2 9 "GlassRopes$Glass" "soot" "[I", Cond.instanceMethod yX3_init, Cond.code yX3_init cX3_init 1 none, Cond.methodLink RX3 3 objectInit, Cond.fieldLink RX3 9 "GlassRopes$Ropes" "size" "I"]
def wsX0_init_r2 : List Cond := [Cond.fieldLink RX3 15 "GlassRopes$Ropes" "column" "[I", Cond.fieldLink RX3 19 "GlassRopes$Ropes" "row" "[I", Cond.fieldLink RX3 22 "GlassRopes$Ropes" "strength" "[I", Cond.arrayClass .boolean, Cond.fieldLink RX3 25 "GlassRopes$Ropes" "toRight" "[Z", Cond.fieldLink RX3 29 "GlassRopes$Ropes" "cleaned" "[I", Cond.fieldLink RX3 32 "GlassRopes$Ropes" "moved" "[I"]
def wsX0_init : List Cond := .code yX0_init cX0_init 1 none :: ((wsX0_init_r1 ++ wsX0_init_r2) ++ wsX20 ++ wsX00 ++ wsX30)
def wsX2_copyFrom : List Cond := .code yX2_copyFrom cX2_copyFrom 2 none :: ([.fieldLink RX2 9 "GlassRopes$Glass" "soot" "[I", .methodLink RX2 15 arraycopyName, .native arraycopyName, .static arraycopyName, .initialized "java/lang/System"] ++ wsX20)
def wsX3_copyFrom : List Cond := .code yX3_copyFrom cX3_copyFrom 3 none :: ([.fieldLink RX3 9 "GlassRopes$Ropes" "size" "I", .fieldLink RX3 15 "GlassRopes$Ropes" "column" "[I", .fieldLink RX3 19 "GlassRopes$Ropes" "row" "[I", .fieldLink RX3 22 "GlassRopes$Ropes" "strength" "[I", .fieldLink RX3 25 "GlassRopes$Ropes" "toRight" "[Z", .fieldLink RX3 29 "GlassRopes$Ropes" "cleaned" "[I", .fieldLink RX3 32 "GlassRopes$Ropes" "moved" "[I"] ++ wsX30)
def wsX0_copyFrom_r1 : List Cond := [Cond.fieldLink RX0 10 "GlassRopes$Course" "glass" "LGlassRopes$Glass;", Cond.fieldLink RX0 19 "GlassRopes$Course" "ropes" "LGlassRopes$Ropes;", Cond.fieldLink RX0 23 "GlassRopes$Course" "wind" "I", Cond.fieldLink RX0 27 "GlassRopes$Course" "day" "I", Cond.fieldLink RX0 30 "GlassRopes$Course" "coins" "I", Cond.fieldLink RX0 33 "GlassRopes$Course" "feastDays" "I", Cond.methodLink RX0 36 yX2_copyFrom, Cond.instanceMethod yX2_copyFrom, Cond.selects RX2 yX2_copyFrom yX2_copyFrom, Cond.initialized RX2, Cond.code yX2_copyFrom cX2_copyFrom 2 none, Cond.fieldLink RX2 9 "GlassRopes$Glass" "soot" "[I", Cond.methodLink RX2 15 arraycopyName, Cond.native arraycopyName, Cond.static arraycopyName, Cond.initialized "java/lang/System", Cond.methodLink RX0 40 yX3_copyFrom, Cond.instanceMethod yX3_copyFrom, Cond.selects RX3 yX3_copyFrom yX3_copyFrom, Cond.initialized RX3, Cond.code yX3_copyFrom cX3_copyFrom 3 none, Cond.fieldLink RX3 9 "GlassRopes$Ropes" "size" "I", Cond.fieldLink RX3 15 "GlassRopes$Ropes" "column" "[I", Cond.fieldLink RX3 19 "GlassRopes$Ropes" "row" "[I"]
def wsX0_copyFrom_r2 : List Cond := [Cond.fieldLink RX3 22 "GlassRopes$Ropes" "strength" "[I", Cond.fieldLink RX3 25 "GlassRopes$Ropes" "toRight" "[Z", Cond.fieldLink RX3 29 "GlassRopes$Ropes" "cleaned" "[I", Cond.fieldLink RX3 32 "GlassRopes$Ropes" "moved" "[I"]
def wsX0_copyFrom : List Cond := .code yX0_copyFrom cX0_copyFrom 2 none :: ((wsX0_copyFrom_r1 ++ wsX0_copyFrom_r2) ++ wsX00 ++ wsX20 ++ wsX30)
def wsX2_broughtTo : List Cond := .code yX2_broughtTo cX2_broughtTo 3 (some .int) :: ([.methodLink RX2 30 Lib.Math.max.name, .static Lib.Math.max.name, .initialized "java/lang/Math", .code Lib.Math.max.name Lib.Math.max.code 2 (some .int)])
def wsX2_gather : List Cond := .code yX2_gather cX2_gather 6 none :: ([.fieldLink RX2 9 "GlassRopes$Glass" "soot" "[I", .methodLink RX2 25 Lib.Math.min.name, .static Lib.Math.min.name, .initialized "java/lang/Math", .code Lib.Math.min.name Lib.Math.min.code 2 (some .int), .methodLink RX2 21 yX2_broughtTo, .static yX2_broughtTo, .initialized RX2, .code yX2_broughtTo cX2_broughtTo 3 (some .int), .methodLink RX2 30 Lib.Math.max.name, .static Lib.Math.max.name, .code Lib.Math.max.name Lib.Math.max.code 2 (some .int)] ++ wsX20)
def wsX1_areOn : List Cond := .code yX1_areOn cX1_areOn 4 (some .boolean) :: ([.fieldLink RX1 9 "GlassRopes$Feasts" "size" "I", .fieldLink RX1 15 "GlassRopes$Feasts" "every" "[I", .fieldLink RX1 19 "GlassRopes$Feasts" "on" "[I"] ++ wsX10)
def wsX4_panes : List Cond := .code yX4_panes cX4_panes 2 (some .int) :: ([.fieldLink RX4 22 "GlassRopes$Windows" "width" "[I", .fieldLink RX4 25 "GlassRopes$Windows" "height" "[I"] ++ wsX40)
def wsX2_at : List Cond := .code yX2_at cX2_at 3 (some .int) :: ([.fieldLink RX2 9 "GlassRopes$Glass" "soot" "[I"] ++ wsX20)
def wsX4_added : List Cond := .code yX4_added cX4_added 6 (some .int) :: ([.fieldLink RX4 15 "GlassRopes$Windows" "x" "[I", .fieldLink RX4 22 "GlassRopes$Windows" "width" "[I", .fieldLink RX4 19 "GlassRopes$Windows" "y" "[I", .fieldLink RX4 25 "GlassRopes$Windows" "height" "[I", .methodLink RX4 41 yX2_at, .instanceMethod yX2_at, .selects RX2 yX2_at yX2_at, .initialized RX2, .code yX2_at cX2_at 3 (some .int), .fieldLink RX2 9 "GlassRopes$Glass" "soot" "[I"] ++ wsX40 ++ wsX20)
def wsX4_brings : List Cond := .code yX4_brings cX4_brings 3 (some .int) :: ([.fieldLink RX4 28 "GlassRopes$Windows" "worth" "[I", .methodLink RX4 47 Lib.Math.max.name, .static Lib.Math.max.name, .initialized "java/lang/Math", .code Lib.Math.max.name Lib.Math.max.code 2 (some .int), .methodLink RX4 52 yX4_panes, .instanceMethod yX4_panes, .selects RX4 yX4_panes yX4_panes, .initialized RX4, .code yX4_panes cX4_panes 2 (some .int), .fieldLink RX4 22 "GlassRopes$Windows" "width" "[I", .fieldLink RX4 25 "GlassRopes$Windows" "height" "[I", .methodLink RX4 31 yX4_added, .instanceMethod yX4_added, .selects RX4 yX4_added yX4_added, .code yX4_added cX4_added 6 (some .int), .fieldLink RX4 15 "GlassRopes$Windows" "x" "[I", .fieldLink RX4 19 "GlassRopes$Windows" "y" "[I", .methodLink RX4 41 yX2_at, .instanceMethod yX2_at, .selects RX2 yX2_at yX2_at, .initialized RX2, .code yX2_at cX2_at 3 (some .int), .fieldLink RX2 9 "GlassRopes$Glass" "soot" "[I"] ++ wsX40 ++ wsX20)
def wsX4_allBring_r1 : List Cond := [Cond.fieldLink RX4 9 "GlassRopes$Windows" "size" "I", Cond.methodLink RX4 38 yX4_brings, Cond.instanceMethod yX4_brings, Cond.selects RX4 yX4_brings yX4_brings, Cond.initialized RX4, Cond.code yX4_brings cX4_brings 3 (some .int), Cond.fieldLink RX4 28 "GlassRopes$Windows" "worth" "[I", Cond.methodLink RX4 47 Lib.Math.max.name, Cond.static Lib.Math.max.name, Cond.initialized "java/lang/Math", Cond.code Lib.Math.max.name Lib.Math.max.code 2 (some .int), Cond.methodLink RX4 52 yX4_panes, Cond.instanceMethod yX4_panes, Cond.selects RX4 yX4_panes yX4_panes, Cond.code yX4_panes cX4_panes 2 (some .int), Cond.fieldLink RX4 22 "GlassRopes$Windows" "width" "[I", Cond.fieldLink RX4 25 "GlassRopes$Windows" "height" "[I", Cond.methodLink RX4 31 yX4_added, Cond.instanceMethod yX4_added, Cond.selects RX4 yX4_added yX4_added, Cond.code yX4_added cX4_added 6 (some .int), Cond.fieldLink RX4 15 "GlassRopes$Windows" "x" "[I", Cond.fieldLink RX4 19 "GlassRopes$Windows" "y" "[I", Cond.methodLink RX4 41 yX2_at]
def wsX4_allBring_r2 : List Cond := [Cond.instanceMethod yX2_at, Cond.selects RX2 yX2_at yX2_at, Cond.initialized RX2, Cond.code yX2_at cX2_at 3 (some .int), Cond.fieldLink RX2 9 "GlassRopes$Glass" "soot" "[I"]
def wsX4_allBring : List Cond := .code yX4_allBring cX4_allBring 4 (some .int) :: ((wsX4_allBring_r1 ++ wsX4_allBring_r2) ++ wsX40 ++ wsX20)
def wsX2_takeOff : List Cond := .code yX2_takeOff cX2_takeOff 6 (some .int) :: ([.fieldLink RX2 9 "GlassRopes$Glass" "soot" "[I", .methodLink RX2 25 Lib.Math.min.name, .static Lib.Math.min.name, .initialized "java/lang/Math", .code Lib.Math.min.name Lib.Math.min.code 2 (some .int)] ++ wsX20)
def wsX3_hangAt : List Cond := .code yX3_hangAt cX3_hangAt 3 (some .boolean) :: ([.fieldLink RX3 9 "GlassRopes$Ropes" "size" "I", .fieldLink RX3 15 "GlassRopes$Ropes" "column" "[I"] ++ wsX30)
def wsX3_nextFreeColumn : List Cond := .code yX3_nextFreeColumn cX3_nextFreeColumn 5 (some .int) :: ([.fieldLink RX3 25 "GlassRopes$Ropes" "toRight" "[Z", .fieldLink RX3 15 "GlassRopes$Ropes" "column" "[I", .methodLink RX3 53 yX3_hangAt, .instanceMethod yX3_hangAt, .selects RX3 yX3_hangAt yX3_hangAt, .initialized RX3, .code yX3_hangAt cX3_hangAt 3 (some .boolean), .fieldLink RX3 9 "GlassRopes$Ropes" "size" "I"] ++ wsX30)
def wsX3_rehang : List Cond := .code yX3_rehang cX3_rehang 3 none :: ([.fieldLink RX3 15 "GlassRopes$Ropes" "column" "[I", .fieldLink RX3 19 "GlassRopes$Ropes" "row" "[I", .fieldLink RX3 32 "GlassRopes$Ropes" "moved" "[I"] ++ wsX30)
def wsX3_workOnOne_r1 : List Cond := [Cond.fieldLink RX3 22 "GlassRopes$Ropes" "strength" "[I", Cond.fieldLink RX3 15 "GlassRopes$Ropes" "column" "[I", Cond.fieldLink RX3 19 "GlassRopes$Ropes" "row" "[I", Cond.fieldLink RX3 29 "GlassRopes$Ropes" "cleaned" "[I", Cond.methodLink RX3 39 yX2_takeOff, Cond.instanceMethod yX2_takeOff, Cond.selects RX2 yX2_takeOff yX2_takeOff, Cond.initialized RX2, Cond.code yX2_takeOff cX2_takeOff 6 (some .int), Cond.fieldLink RX2 9 "GlassRopes$Glass" "soot" "[I", Cond.methodLink RX2 25 Lib.Math.min.name, Cond.static Lib.Math.min.name, Cond.initialized "java/lang/Math", Cond.code Lib.Math.min.name Lib.Math.min.code 2 (some .int), Cond.methodLink RX3 45 yX3_nextFreeColumn, Cond.instanceMethod yX3_nextFreeColumn, Cond.selects RX3 yX3_nextFreeColumn yX3_nextFreeColumn, Cond.initialized RX3, Cond.code yX3_nextFreeColumn cX3_nextFreeColumn 5 (some .int), Cond.fieldLink RX3 25 "GlassRopes$Ropes" "toRight" "[Z", Cond.methodLink RX3 53 yX3_hangAt, Cond.instanceMethod yX3_hangAt, Cond.selects RX3 yX3_hangAt yX3_hangAt, Cond.code yX3_hangAt cX3_hangAt 3 (some .boolean)]
def wsX3_workOnOne_r2 : List Cond := [Cond.fieldLink RX3 9 "GlassRopes$Ropes" "size" "I", Cond.methodLink RX3 49 yX3_rehang, Cond.instanceMethod yX3_rehang, Cond.selects RX3 yX3_rehang yX3_rehang, Cond.code yX3_rehang cX3_rehang 3 none, Cond.fieldLink RX3 32 "GlassRopes$Ropes" "moved" "[I"]
def wsX3_workOnOne : List Cond := .code yX3_workOnOne cX3_workOnOne 6 none :: ((wsX3_workOnOne_r1 ++ wsX3_workOnOne_r2) ++ wsX30 ++ wsX20)
def wsX3_work_r1 : List Cond := [Cond.fieldLink RX3 9 "GlassRopes$Ropes" "size" "I", Cond.methodLink RX3 35 yX3_workOnOne, Cond.instanceMethod yX3_workOnOne, Cond.selects RX3 yX3_workOnOne yX3_workOnOne, Cond.initialized RX3, Cond.code yX3_workOnOne cX3_workOnOne 6 none, Cond.fieldLink RX3 22 "GlassRopes$Ropes" "strength" "[I", Cond.fieldLink RX3 15 "GlassRopes$Ropes" "column" "[I", Cond.fieldLink RX3 19 "GlassRopes$Ropes" "row" "[I", Cond.fieldLink RX3 29 "GlassRopes$Ropes" "cleaned" "[I", Cond.methodLink RX3 39 yX2_takeOff, Cond.instanceMethod yX2_takeOff, Cond.selects RX2 yX2_takeOff yX2_takeOff, Cond.initialized RX2, Cond.code yX2_takeOff cX2_takeOff 6 (some .int), Cond.fieldLink RX2 9 "GlassRopes$Glass" "soot" "[I", Cond.methodLink RX2 25 Lib.Math.min.name, Cond.static Lib.Math.min.name, Cond.initialized "java/lang/Math", Cond.code Lib.Math.min.name Lib.Math.min.code 2 (some .int), Cond.methodLink RX3 45 yX3_nextFreeColumn, Cond.instanceMethod yX3_nextFreeColumn, Cond.selects RX3 yX3_nextFreeColumn yX3_nextFreeColumn, Cond.code yX3_nextFreeColumn cX3_nextFreeColumn 5 (some .int)]
def wsX3_work_r2 : List Cond := [Cond.fieldLink RX3 25 "GlassRopes$Ropes" "toRight" "[Z", Cond.methodLink RX3 53 yX3_hangAt, Cond.instanceMethod yX3_hangAt, Cond.selects RX3 yX3_hangAt yX3_hangAt, Cond.code yX3_hangAt cX3_hangAt 3 (some .boolean), Cond.methodLink RX3 49 yX3_rehang, Cond.instanceMethod yX3_rehang, Cond.selects RX3 yX3_rehang yX3_rehang, Cond.code yX3_rehang cX3_rehang 3 none, Cond.fieldLink RX3 32 "GlassRopes$Ropes" "moved" "[I"]
def wsX3_work : List Cond := .code yX3_work cX3_work 3 none :: ((wsX3_work_r1 ++ wsX3_work_r2) ++ wsX30 ++ wsX20)
def wsX0_goOneDay_r1 : List Cond := [Cond.fieldLink RX0 10 "GlassRopes$Course" "glass" "LGlassRopes$Glass;", Cond.fieldLink RX0 23 "GlassRopes$Course" "wind" "I", Cond.fieldLink RX0 27 "GlassRopes$Course" "day" "I", Cond.fieldLink RX0 30 "GlassRopes$Course" "coins" "I", Cond.fieldLink RX0 33 "GlassRopes$Course" "feastDays" "I", Cond.fieldLink RX0 19 "GlassRopes$Course" "ropes" "LGlassRopes$Ropes;", Cond.methodLink RX0 47 yX2_gather, Cond.instanceMethod yX2_gather, Cond.selects RX2 yX2_gather yX2_gather, Cond.initialized RX2, Cond.code yX2_gather cX2_gather 6 none, Cond.fieldLink RX2 9 "GlassRopes$Glass" "soot" "[I", Cond.methodLink RX2 25 Lib.Math.min.name, Cond.static Lib.Math.min.name, Cond.initialized "java/lang/Math", Cond.code Lib.Math.min.name Lib.Math.min.code 2 (some .int), Cond.methodLink RX2 21 yX2_broughtTo, Cond.static yX2_broughtTo, Cond.code yX2_broughtTo cX2_broughtTo 3 (some .int), Cond.methodLink RX2 30 Lib.Math.max.name, Cond.static Lib.Math.max.name, Cond.code Lib.Math.max.name Lib.Math.max.code 2 (some .int), Cond.methodLink RX0 51 yX1_areOn, Cond.instanceMethod yX1_areOn]
def wsX0_goOneDay_r2 : List Cond := [Cond.selects RX1 yX1_areOn yX1_areOn, Cond.initialized RX1, Cond.code yX1_areOn cX1_areOn 4 (some .boolean), Cond.fieldLink RX1 9 "GlassRopes$Feasts" "size" "I", Cond.fieldLink RX1 15 "GlassRopes$Feasts" "every" "[I", Cond.fieldLink RX1 19 "GlassRopes$Feasts" "on" "[I", Cond.methodLink RX0 57 yX4_allBring, Cond.instanceMethod yX4_allBring, Cond.selects RX4 yX4_allBring yX4_allBring, Cond.initialized RX4, Cond.code yX4_allBring cX4_allBring 4 (some .int), Cond.fieldLink RX4 9 "GlassRopes$Windows" "size" "I", Cond.methodLink RX4 38 yX4_brings, Cond.instanceMethod yX4_brings, Cond.selects RX4 yX4_brings yX4_brings, Cond.code yX4_brings cX4_brings 3 (some .int), Cond.fieldLink RX4 28 "GlassRopes$Windows" "worth" "[I", Cond.methodLink RX4 47 Lib.Math.max.name, Cond.methodLink RX4 52 yX4_panes, Cond.instanceMethod yX4_panes, Cond.selects RX4 yX4_panes yX4_panes, Cond.code yX4_panes cX4_panes 2 (some .int), Cond.fieldLink RX4 22 "GlassRopes$Windows" "width" "[I", Cond.fieldLink RX4 25 "GlassRopes$Windows" "height" "[I"]
def wsX0_goOneDay_r3 : List Cond := [Cond.methodLink RX4 31 yX4_added, Cond.instanceMethod yX4_added, Cond.selects RX4 yX4_added yX4_added, Cond.code yX4_added cX4_added 6 (some .int), Cond.fieldLink RX4 15 "GlassRopes$Windows" "x" "[I", Cond.fieldLink RX4 19 "GlassRopes$Windows" "y" "[I", Cond.methodLink RX4 41 yX2_at, Cond.instanceMethod yX2_at, Cond.selects RX2 yX2_at yX2_at, Cond.code yX2_at cX2_at 3 (some .int), Cond.methodLink RX0 63 yX3_work, Cond.instanceMethod yX3_work, Cond.selects RX3 yX3_work yX3_work, Cond.initialized RX3, Cond.code yX3_work cX3_work 3 none, Cond.fieldLink RX3 9 "GlassRopes$Ropes" "size" "I", Cond.methodLink RX3 35 yX3_workOnOne, Cond.instanceMethod yX3_workOnOne, Cond.selects RX3 yX3_workOnOne yX3_workOnOne, Cond.code yX3_workOnOne cX3_workOnOne 6 none, Cond.fieldLink RX3 22 "GlassRopes$Ropes" "strength" "[I", Cond.fieldLink RX3 15 "GlassRopes$Ropes" "column" "[I", Cond.fieldLink RX3 19 "GlassRopes$Ropes" "row" "[I", Cond.fieldLink RX3 29 "GlassRopes$Ropes" "cleaned" "[I"]
def wsX0_goOneDay_r4 : List Cond := [Cond.methodLink RX3 39 yX2_takeOff, Cond.instanceMethod yX2_takeOff, Cond.selects RX2 yX2_takeOff yX2_takeOff, Cond.code yX2_takeOff cX2_takeOff 6 (some .int), Cond.methodLink RX3 45 yX3_nextFreeColumn, Cond.instanceMethod yX3_nextFreeColumn, Cond.selects RX3 yX3_nextFreeColumn yX3_nextFreeColumn, Cond.code yX3_nextFreeColumn cX3_nextFreeColumn 5 (some .int), Cond.fieldLink RX3 25 "GlassRopes$Ropes" "toRight" "[Z", Cond.methodLink RX3 53 yX3_hangAt, Cond.instanceMethod yX3_hangAt, Cond.selects RX3 yX3_hangAt yX3_hangAt, Cond.code yX3_hangAt cX3_hangAt 3 (some .boolean), Cond.methodLink RX3 49 yX3_rehang, Cond.instanceMethod yX3_rehang, Cond.selects RX3 yX3_rehang yX3_rehang, Cond.code yX3_rehang cX3_rehang 3 none, Cond.fieldLink RX3 32 "GlassRopes$Ropes" "moved" "[I"]
def wsX0_goOneDay : List Cond := .code yX0_goOneDay cX0_goOneDay 3 none :: ((wsX0_goOneDay_r1 ++ (wsX0_goOneDay_r2 ++ (wsX0_goOneDay_r3 ++ wsX0_goOneDay_r4))) ++ wsX00 ++ wsX20 ++ wsX10 ++ wsX40 ++ wsX30)
def wsX0_goOn_r1 : List Cond := [Cond.methodLink RX0 43 yX0_goOneDay, Cond.instanceMethod yX0_goOneDay, Cond.selects RX0 yX0_goOneDay yX0_goOneDay, Cond.initialized RX0, Cond.code yX0_goOneDay cX0_goOneDay 3 none, Cond.fieldLink RX0 10 "GlassRopes$Course" "glass" "LGlassRopes$Glass;", Cond.fieldLink RX0 23 "GlassRopes$Course" "wind" "I", Cond.fieldLink RX0 27 "GlassRopes$Course" "day" "I", Cond.fieldLink RX0 30 "GlassRopes$Course" "coins" "I", Cond.fieldLink RX0 33 "GlassRopes$Course" "feastDays" "I", Cond.fieldLink RX0 19 "GlassRopes$Course" "ropes" "LGlassRopes$Ropes;", Cond.methodLink RX0 47 yX2_gather, Cond.instanceMethod yX2_gather, Cond.selects RX2 yX2_gather yX2_gather, Cond.initialized RX2, Cond.code yX2_gather cX2_gather 6 none, Cond.fieldLink RX2 9 "GlassRopes$Glass" "soot" "[I", Cond.methodLink RX2 25 Lib.Math.min.name, Cond.static Lib.Math.min.name, Cond.initialized "java/lang/Math", Cond.code Lib.Math.min.name Lib.Math.min.code 2 (some .int), Cond.methodLink RX2 21 yX2_broughtTo, Cond.static yX2_broughtTo, Cond.code yX2_broughtTo cX2_broughtTo 3 (some .int)]
def wsX0_goOn_r2 : List Cond := [Cond.methodLink RX2 30 Lib.Math.max.name, Cond.static Lib.Math.max.name, Cond.code Lib.Math.max.name Lib.Math.max.code 2 (some .int), Cond.methodLink RX0 51 yX1_areOn, Cond.instanceMethod yX1_areOn, Cond.selects RX1 yX1_areOn yX1_areOn, Cond.initialized RX1, Cond.code yX1_areOn cX1_areOn 4 (some .boolean), Cond.fieldLink RX1 9 "GlassRopes$Feasts" "size" "I", Cond.fieldLink RX1 15 "GlassRopes$Feasts" "every" "[I", Cond.fieldLink RX1 19 "GlassRopes$Feasts" "on" "[I", Cond.methodLink RX0 57 yX4_allBring, Cond.instanceMethod yX4_allBring, Cond.selects RX4 yX4_allBring yX4_allBring, Cond.initialized RX4, Cond.code yX4_allBring cX4_allBring 4 (some .int), Cond.fieldLink RX4 9 "GlassRopes$Windows" "size" "I", Cond.methodLink RX4 38 yX4_brings, Cond.instanceMethod yX4_brings, Cond.selects RX4 yX4_brings yX4_brings, Cond.code yX4_brings cX4_brings 3 (some .int), Cond.fieldLink RX4 28 "GlassRopes$Windows" "worth" "[I", Cond.methodLink RX4 47 Lib.Math.max.name, Cond.methodLink RX4 52 yX4_panes]
def wsX0_goOn_r3 : List Cond := [Cond.instanceMethod yX4_panes, Cond.selects RX4 yX4_panes yX4_panes, Cond.code yX4_panes cX4_panes 2 (some .int), Cond.fieldLink RX4 22 "GlassRopes$Windows" "width" "[I", Cond.fieldLink RX4 25 "GlassRopes$Windows" "height" "[I", Cond.methodLink RX4 31 yX4_added, Cond.instanceMethod yX4_added, Cond.selects RX4 yX4_added yX4_added, Cond.code yX4_added cX4_added 6 (some .int), Cond.fieldLink RX4 15 "GlassRopes$Windows" "x" "[I", Cond.fieldLink RX4 19 "GlassRopes$Windows" "y" "[I", Cond.methodLink RX4 41 yX2_at, Cond.instanceMethod yX2_at, Cond.selects RX2 yX2_at yX2_at, Cond.code yX2_at cX2_at 3 (some .int), Cond.methodLink RX0 63 yX3_work, Cond.instanceMethod yX3_work, Cond.selects RX3 yX3_work yX3_work, Cond.initialized RX3, Cond.code yX3_work cX3_work 3 none, Cond.fieldLink RX3 9 "GlassRopes$Ropes" "size" "I", Cond.methodLink RX3 35 yX3_workOnOne, Cond.instanceMethod yX3_workOnOne, Cond.selects RX3 yX3_workOnOne yX3_workOnOne]
def wsX0_goOn_r4 : List Cond := [Cond.code yX3_workOnOne cX3_workOnOne 6 none, Cond.fieldLink RX3 22 "GlassRopes$Ropes" "strength" "[I", Cond.fieldLink RX3 15 "GlassRopes$Ropes" "column" "[I", Cond.fieldLink RX3 19 "GlassRopes$Ropes" "row" "[I", Cond.fieldLink RX3 29 "GlassRopes$Ropes" "cleaned" "[I", Cond.methodLink RX3 39 yX2_takeOff, Cond.instanceMethod yX2_takeOff, Cond.selects RX2 yX2_takeOff yX2_takeOff, Cond.code yX2_takeOff cX2_takeOff 6 (some .int), Cond.methodLink RX3 45 yX3_nextFreeColumn, Cond.instanceMethod yX3_nextFreeColumn, Cond.selects RX3 yX3_nextFreeColumn yX3_nextFreeColumn, Cond.code yX3_nextFreeColumn cX3_nextFreeColumn 5 (some .int), Cond.fieldLink RX3 25 "GlassRopes$Ropes" "toRight" "[Z", Cond.methodLink RX3 53 yX3_hangAt, Cond.instanceMethod yX3_hangAt, Cond.selects RX3 yX3_hangAt yX3_hangAt, Cond.code yX3_hangAt cX3_hangAt 3 (some .boolean), Cond.methodLink RX3 49 yX3_rehang, Cond.instanceMethod yX3_rehang, Cond.selects RX3 yX3_rehang yX3_rehang, Cond.code yX3_rehang cX3_rehang 3 none, Cond.fieldLink RX3 32 "GlassRopes$Ropes" "moved" "[I"]
def wsX0_goOn : List Cond := .code yX0_goOn cX0_goOn 5 none :: ((wsX0_goOn_r1 ++ (wsX0_goOn_r2 ++ (wsX0_goOn_r3 ++ wsX0_goOn_r4))) ++ wsX00 ++ wsX20 ++ wsX10 ++ wsX40 ++ wsX30)
def wsX1_init : List Cond := .code yX1_init cX1_init 1 none :: ([.methodLink RX1 3 objectInit, .instanceMethod objectInit, .code objectInit ⟨#[0xb1]⟩ 1 none, .fieldLink RX1 9 "GlassRopes$Feasts" "size" "I", .arrayClass .int, .fieldLink RX1 15 "GlassRopes$Feasts" "every" "[I", .fieldLink RX1 19 "GlassRopes$Feasts" "on" "[I"] ++ wsX10)
def wsX1_put : List Cond := .code yX1_put cX1_put 3 (some .int) :: ([.fieldLink RX1 15 "GlassRopes$Feasts" "every" "[I", .fieldLink RX1 9 "GlassRopes$Feasts" "size" "I", .fieldLink RX1 19 "GlassRopes$Feasts" "on" "[I"] ++ wsX10)
def wsX1_daysUntil : List Cond := .code yX1_daysUntil cX1_daysUntil 3 (some .int) :: ([.methodLink RX1 22 yX1_areOn, .instanceMethod yX1_areOn, .selects RX1 yX1_areOn yX1_areOn, .initialized RX1, .code yX1_areOn cX1_areOn 4 (some .boolean), .fieldLink RX1 9 "GlassRopes$Feasts" "size" "I", .fieldLink RX1 15 "GlassRopes$Feasts" "every" "[I", .fieldLink RX1 19 "GlassRopes$Feasts" "on" "[I"] ++ wsX10)
def wsX2_total : List Cond := .code yX2_total cX2_total 3 (some .int) :: ([.fieldLink RX2 9 "GlassRopes$Glass" "soot" "[I"] ++ wsX20)
def wsX2_cleanPanes : List Cond := .code yX2_cleanPanes cX2_cleanPanes 3 (some .int) :: ([.fieldLink RX2 9 "GlassRopes$Glass" "soot" "[I"] ++ wsX20)
def wsX3_put : List Cond := .code yX3_put cX3_put 4 (some .int) :: ([.fieldLink RX3 15 "GlassRopes$Ropes" "column" "[I", .fieldLink RX3 9 "GlassRopes$Ropes" "size" "I", .fieldLink RX3 22 "GlassRopes$Ropes" "strength" "[I", .fieldLink RX3 25 "GlassRopes$Ropes" "toRight" "[Z"] ++ wsX30)
def wsX3_number : List Cond := .code yX3_number cX3_number 3 (some .int) :: ([.fieldLink RX3 15 "GlassRopes$Ropes" "column" "[I", .fieldLink RX3 19 "GlassRopes$Ropes" "row" "[I", .fieldLink RX3 22 "GlassRopes$Ropes" "strength" "[I", .fieldLink RX3 25 "GlassRopes$Ropes" "toRight" "[Z", .fieldLink RX3 29 "GlassRopes$Ropes" "cleaned" "[I", .fieldLink RX3 32 "GlassRopes$Ropes" "moved" "[I"] ++ wsX30)
def wsX3_allCleaned : List Cond := .code yX3_allCleaned cX3_allCleaned 3 (some .int) :: ([.fieldLink RX3 9 "GlassRopes$Ropes" "size" "I", .fieldLink RX3 29 "GlassRopes$Ropes" "cleaned" "[I"] ++ wsX30)
def wsX4_init : List Cond := .code yX4_init cX4_init 1 none :: ([.methodLink RX4 3 objectInit, .instanceMethod objectInit, .code objectInit ⟨#[0xb1]⟩ 1 none, .fieldLink RX4 9 "GlassRopes$Windows" "size" "I", .arrayClass .int, .fieldLink RX4 15 "GlassRopes$Windows" "x" "[I", .fieldLink RX4 19 "GlassRopes$Windows" "y" "[I", .fieldLink RX4 22 "GlassRopes$Windows" "width" "[I", .fieldLink RX4 25 "GlassRopes$Windows" "height" "[I", .fieldLink RX4 28 "GlassRopes$Windows" "worth" "[I"] ++ wsX40)
def wsX4_put : List Cond := .code yX4_put cX4_put 6 (some .int) :: ([.fieldLink RX4 15 "GlassRopes$Windows" "x" "[I", .fieldLink RX4 9 "GlassRopes$Windows" "size" "I", .fieldLink RX4 19 "GlassRopes$Windows" "y" "[I", .fieldLink RX4 22 "GlassRopes$Windows" "width" "[I", .fieldLink RX4 25 "GlassRopes$Windows" "height" "[I", .fieldLink RX4 28 "GlassRopes$Windows" "worth" "[I"] ++ wsX40)
def wsX4_darkest : List Cond := .code yX4_darkest cX4_darkest 6 (some .int) :: ([.fieldLink RX4 15 "GlassRopes$Windows" "x" "[I", .fieldLink RX4 22 "GlassRopes$Windows" "width" "[I", .fieldLink RX4 19 "GlassRopes$Windows" "y" "[I", .fieldLink RX4 25 "GlassRopes$Windows" "height" "[I", .methodLink RX4 47 Lib.Math.max.name, .static Lib.Math.max.name, .initialized "java/lang/Math", .code Lib.Math.max.name Lib.Math.max.code 2 (some .int), .methodLink RX4 41 yX2_at, .instanceMethod yX2_at, .selects RX2 yX2_at yX2_at, .initialized RX2, .code yX2_at cX2_at 3 (some .int), .fieldLink RX2 9 "GlassRopes$Glass" "soot" "[I"] ++ wsX40 ++ wsX20)
def wsX4_number_r1 : List Cond := [Cond.fieldLink RX4 15 "GlassRopes$Windows" "x" "[I", Cond.fieldLink RX4 19 "GlassRopes$Windows" "y" "[I", Cond.fieldLink RX4 22 "GlassRopes$Windows" "width" "[I", Cond.fieldLink RX4 25 "GlassRopes$Windows" "height" "[I", Cond.fieldLink RX4 28 "GlassRopes$Windows" "worth" "[I", Cond.methodLink RX4 31 yX4_added, Cond.instanceMethod yX4_added, Cond.selects RX4 yX4_added yX4_added, Cond.initialized RX4, Cond.code yX4_added cX4_added 6 (some .int), Cond.methodLink RX4 41 yX2_at, Cond.instanceMethod yX2_at, Cond.selects RX2 yX2_at yX2_at, Cond.initialized RX2, Cond.code yX2_at cX2_at 3 (some .int), Cond.fieldLink RX2 9 "GlassRopes$Glass" "soot" "[I", Cond.methodLink RX4 35 yX4_darkest, Cond.instanceMethod yX4_darkest, Cond.selects RX4 yX4_darkest yX4_darkest, Cond.code yX4_darkest cX4_darkest 6 (some .int), Cond.methodLink RX4 47 Lib.Math.max.name, Cond.static Lib.Math.max.name, Cond.initialized "java/lang/Math", Cond.code Lib.Math.max.name Lib.Math.max.code 2 (some .int)]
def wsX4_number_r2 : List Cond := [Cond.methodLink RX4 38 yX4_brings, Cond.instanceMethod yX4_brings, Cond.selects RX4 yX4_brings yX4_brings, Cond.code yX4_brings cX4_brings 3 (some .int), Cond.methodLink RX4 52 yX4_panes, Cond.instanceMethod yX4_panes, Cond.selects RX4 yX4_panes yX4_panes, Cond.code yX4_panes cX4_panes 2 (some .int)]
def wsX4_number : List Cond := .code yX4_number cX4_number 4 (some .int) :: ((wsX4_number_r1 ++ wsX4_number_r2) ++ wsX40 ++ wsX20)
def wsX4_isClean : List Cond := .code yX4_isClean cX4_isClean 3 (some .boolean) :: ([.methodLink RX4 31 yX4_added, .instanceMethod yX4_added, .selects RX4 yX4_added yX4_added, .initialized RX4, .code yX4_added cX4_added 6 (some .int), .fieldLink RX4 15 "GlassRopes$Windows" "x" "[I", .fieldLink RX4 22 "GlassRopes$Windows" "width" "[I", .fieldLink RX4 19 "GlassRopes$Windows" "y" "[I", .fieldLink RX4 25 "GlassRopes$Windows" "height" "[I", .methodLink RX4 41 yX2_at, .instanceMethod yX2_at, .selects RX2 yX2_at yX2_at, .initialized RX2, .code yX2_at cX2_at 3 (some .int), .fieldLink RX2 9 "GlassRopes$Glass" "soot" "[I", .methodLink RX4 52 yX4_panes, .instanceMethod yX4_panes, .selects RX4 yX4_panes yX4_panes, .code yX4_panes cX4_panes 2 (some .int)] ++ wsX40 ++ wsX20)
def wsX4_wipeOff : List Cond := .code yX4_wipeOff cX4_wipeOff 6 (some .int) :: ([.fieldLink RX4 15 "GlassRopes$Windows" "x" "[I", .fieldLink RX4 22 "GlassRopes$Windows" "width" "[I", .fieldLink RX4 19 "GlassRopes$Windows" "y" "[I", .fieldLink RX4 25 "GlassRopes$Windows" "height" "[I", .methodLink RX4 56 yX2_takeOff, .instanceMethod yX2_takeOff, .selects RX2 yX2_takeOff yX2_takeOff, .initialized RX2, .code yX2_takeOff cX2_takeOff 6 (some .int), .fieldLink RX2 9 "GlassRopes$Glass" "soot" "[I", .methodLink RX2 25 Lib.Math.min.name, .static Lib.Math.min.name, .initialized "java/lang/Math", .code Lib.Math.min.name Lib.Math.min.code 2 (some .int)] ++ wsX40 ++ wsX20)
def wsX5_init_r1 : List Cond := [Cond.methodLink RX5 3 objectInit, Cond.instanceMethod objectInit, Cond.code objectInit ⟨#[0xb1]⟩ 1 none, Cond.classLink RX5 9 RX4, Cond.instantiable RX4 6, Cond.initialized RX4, Cond.fieldLink RX5 12 "GlassRopes" "windows" "LGlassRopes$Windows;", Cond.classLink RX5 16 RX1, Cond.instantiable RX1 3, Cond.initialized RX1, Cond.fieldLink RX5 19 "GlassRopes" "feasts" "LGlassRopes$Feasts;", Cond.classLink RX5 23 RX0, Cond.instantiable RX0 6, Cond.initialized RX0, Cond.fieldLink RX5 26 "GlassRopes" "now" "LGlassRopes$Course;", Cond.fieldLink RX5 30 "GlassRopes" "ahead" "LGlassRopes$Course;", Cond.instanceMethod yX4_init, Cond.code yX4_init cX4_init 1 none, Cond.methodLink RX4 3 objectInit, Cond.fieldLink RX4 9 "GlassRopes$Windows" "size" "I", Cond.arrayClass .int, Cond.fieldLink RX4 15 "GlassRopes$Windows" "x" "[I", Cond.fieldLink RX4 19 "GlassRopes$Windows" "y" "[I", Cond.fieldLink RX4 22 "GlassRopes$Windows" "width" "[I"]
def wsX5_init_r2 : List Cond := [Cond.fieldLink RX4 25 "GlassRopes$Windows" "height" "[I", Cond.fieldLink RX4 28 "GlassRopes$Windows" "worth" "[I", Cond.instanceMethod yX1_init, Cond.code yX1_init cX1_init 1 none, Cond.methodLink RX1 3 objectInit, Cond.fieldLink RX1 9 "GlassRopes$Feasts" "size" "I", Cond.fieldLink RX1 15 "GlassRopes$Feasts" "every" "[I", Cond.fieldLink RX1 19 "GlassRopes$Feasts" "on" "[I", Cond.instanceMethod yX0_init, Cond.code yX0_init cX0_init 1 none, Cond.methodLink RX0 1 objectInit, Cond.classLink RX0 7 RX2, Cond.instantiable RX2 1, Cond.initialized RX2, Cond.fieldLink RX0 10 "GlassRopes$Course" "glass" "LGlassRopes$Glass;", Cond.classLink RX0 16 RX3, Cond.instantiable RX3 7, Cond.initialized RX3, Cond.fieldLink RX0 19 "GlassRopes$Course" "ropes" "LGlassRopes$Ropes;", Cond.fieldLink RX0 23 "GlassRopes$Course" "wind" "I", Cond.fieldLink RX0 27 "GlassRopes$Course" "day" "I", Cond.fieldLink RX0 30 "GlassRopes$Course" "coins" "I", Cond.fieldLink RX0 33 "GlassRopes$Course" "feastDays" "I", Cond.instanceMethod yX2_init]
def wsX5_init_r3 : List Cond := [Cond.code yX2_init cX2_init 1 none, Cond.methodLink RX2 3 objectInit, Cond.fieldLink RX2 9 "GlassRopes$Glass" "soot" "[I", Cond.instanceMethod yX3_init, Cond.code yX3_init cX3_init 1 none, Cond.methodLink RX3 3 objectInit, Cond.fieldLink RX3 9 "GlassRopes$Ropes" "size" "I", Cond.fieldLink RX3 15 "GlassRopes$Ropes" "column" "[I", Cond.fieldLink RX3 19 "GlassRopes$Ropes" "row" "[I", Cond.fieldLink RX3 22 "GlassRopes$Ropes" "strength" "[I", Cond.arrayClass .boolean, Cond.fieldLink RX3 25 "GlassRopes$Ropes" "toRight" "[Z", Cond.fieldLink RX3 29 "GlassRopes$Ropes" "cleaned" "[I", Cond.fieldLink RX3 32 "GlassRopes$Ropes" "moved" "[I"]
def wsX5_init : List Cond := .code yX5_init cX5_init 1 none :: ((wsX5_init_r1 ++ (wsX5_init_r2 ++ wsX5_init_r3)) ++ wsX40 ++ wsX50 ++ wsX10 ++ wsX00 ++ wsX20 ++ wsX30)
def wsX5_window : List Cond := .code yX5_window cX5_window 6 (some .int) :: ([.classLink RX5 33 "java/lang/IllegalArgumentException", .initialized "java/lang/IllegalArgumentException", .classLink RX5 40 "java/lang/IndexOutOfBoundsException", .initialized "java/lang/IndexOutOfBoundsException", .classLink RX5 49 "java/lang/IllegalStateException", .initialized "java/lang/IllegalStateException", .fieldLink RX5 12 "GlassRopes" "windows" "LGlassRopes$Windows;", .methodLink RX5 54 yX4_put, .instanceMethod yX4_put, .selects RX4 yX4_put yX4_put, .initialized RX4, .code yX4_put cX4_put 6 (some .int), .fieldLink RX4 15 "GlassRopes$Windows" "x" "[I", .fieldLink RX4 9 "GlassRopes$Windows" "size" "I", .fieldLink RX4 19 "GlassRopes$Windows" "y" "[I", .fieldLink RX4 22 "GlassRopes$Windows" "width" "[I", .fieldLink RX4 25 "GlassRopes$Windows" "height" "[I", .fieldLink RX4 28 "GlassRopes$Windows" "worth" "[I"] ++ wsX50 ++ wsX40 ++ (vx_atS RX5 37 "java/lang/IllegalArgumentException" ["java/lang/RuntimeException", "java/lang/Exception"]).filter goodWord ++ (vx_atS RX5 44 "java/lang/IndexOutOfBoundsException" ["java/lang/RuntimeException", "java/lang/Exception"]).filter goodWord ++ (vx_atS RX5 53 "java/lang/IllegalStateException" ["java/lang/RuntimeException", "java/lang/Exception"]).filter goodWord)
def wsX5_isColumn : List Cond := .code yX5_isColumn cX5_isColumn 1 (some .boolean) :: ([])
def wsX5_rope : List Cond := .code yX5_rope cX5_rope 4 (some .int) :: ([.classLink RX5 40 "java/lang/IndexOutOfBoundsException", .initialized "java/lang/IndexOutOfBoundsException", .classLink RX5 33 "java/lang/IllegalArgumentException", .initialized "java/lang/IllegalArgumentException", .classLink RX5 49 "java/lang/IllegalStateException", .initialized "java/lang/IllegalStateException", .fieldLink RX5 26 "GlassRopes" "now" "LGlassRopes$Course;", .methodLink RX5 58 yX5_isColumn, .static yX5_isColumn, .initialized RX5, .code yX5_isColumn cX5_isColumn 1 (some .boolean), .methodLink RX5 73 yX3_hangAt, .instanceMethod yX3_hangAt, .selects RX3 yX3_hangAt yX3_hangAt, .initialized RX3, .code yX3_hangAt cX3_hangAt 3 (some .boolean), .fieldLink RX3 9 "GlassRopes$Ropes" "size" "I", .fieldLink RX3 15 "GlassRopes$Ropes" "column" "[I", .methodLink RX5 78 yX3_put, .instanceMethod yX3_put, .selects RX3 yX3_put yX3_put, .code yX3_put cX3_put 4 (some .int), .fieldLink RX3 22 "GlassRopes$Ropes" "strength" "[I", .fieldLink RX3 25 "GlassRopes$Ropes" "toRight" "[Z"] ++ wsX50 ++ wsX00 ++ wsX30 ++ (vx_atS RX5 44 "java/lang/IndexOutOfBoundsException" ["java/lang/RuntimeException", "java/lang/Exception"]).filter goodWord ++ (vx_atS RX5 37 "java/lang/IllegalArgumentException" ["java/lang/RuntimeException", "java/lang/Exception"]).filter goodWord ++ (vx_atS RX5 53 "java/lang/IllegalStateException" ["java/lang/RuntimeException", "java/lang/Exception"]).filter goodWord)
def wsX5_feast : List Cond := .code yX5_feast cX5_feast 3 (some .int) :: ([.classLink RX5 33 "java/lang/IllegalArgumentException", .initialized "java/lang/IllegalArgumentException", .classLink RX5 49 "java/lang/IllegalStateException", .initialized "java/lang/IllegalStateException", .fieldLink RX5 19 "GlassRopes" "feasts" "LGlassRopes$Feasts;", .methodLink RX5 86 yX1_put, .instanceMethod yX1_put, .selects RX1 yX1_put yX1_put, .initialized RX1, .code yX1_put cX1_put 3 (some .int), .fieldLink RX1 15 "GlassRopes$Feasts" "every" "[I", .fieldLink RX1 9 "GlassRopes$Feasts" "size" "I", .fieldLink RX1 19 "GlassRopes$Feasts" "on" "[I"] ++ wsX50 ++ wsX10 ++ (vx_atS RX5 37 "java/lang/IllegalArgumentException" ["java/lang/RuntimeException", "java/lang/Exception"]).filter goodWord ++ (vx_atS RX5 53 "java/lang/IllegalStateException" ["java/lang/RuntimeException", "java/lang/Exception"]).filter goodWord)
def wsX5_setWind : List Cond := .code yX5_setWind cX5_setWind 3 (some .int) :: ([.classLink RX5 33 "java/lang/IllegalArgumentException", .initialized "java/lang/IllegalArgumentException", .fieldLink RX5 26 "GlassRopes" "now" "LGlassRopes$Course;"] ++ wsX50 ++ wsX00 ++ (vx_atS RX5 37 "java/lang/IllegalArgumentException" ["java/lang/RuntimeException", "java/lang/Exception"]).filter goodWord)
def wsX5_isRope : List Cond := .code yX5_isRope cX5_isRope 2 (some .boolean) :: ([.fieldLink RX5 26 "GlassRopes" "now" "LGlassRopes$Course;"] ++ wsX50 ++ wsX00 ++ wsX30)
def wsX5_move_r1 : List Cond := [Cond.classLink RX5 40 "java/lang/IndexOutOfBoundsException", Cond.initialized "java/lang/IndexOutOfBoundsException", Cond.classLink RX5 49 "java/lang/IllegalStateException", Cond.initialized "java/lang/IllegalStateException", Cond.fieldLink RX5 26 "GlassRopes" "now" "LGlassRopes$Course;", Cond.methodLink RX5 94 yX5_isRope, Cond.instanceMethod yX5_isRope, Cond.selects RX5 yX5_isRope yX5_isRope, Cond.initialized RX5, Cond.code yX5_isRope cX5_isRope 2 (some .boolean), Cond.methodLink RX5 58 yX5_isColumn, Cond.static yX5_isColumn, Cond.code yX5_isColumn cX5_isColumn 1 (some .boolean), Cond.methodLink RX5 73 yX3_hangAt, Cond.instanceMethod yX3_hangAt, Cond.selects RX3 yX3_hangAt yX3_hangAt, Cond.initialized RX3, Cond.code yX3_hangAt cX3_hangAt 3 (some .boolean), Cond.fieldLink RX3 9 "GlassRopes$Ropes" "size" "I", Cond.fieldLink RX3 15 "GlassRopes$Ropes" "column" "[I", Cond.methodLink RX5 105 yX3_rehang, Cond.instanceMethod yX3_rehang, Cond.selects RX3 yX3_rehang yX3_rehang, Cond.code yX3_rehang cX3_rehang 3 none]
def wsX5_move_r2 : List Cond := [Cond.fieldLink RX3 19 "GlassRopes$Ropes" "row" "[I", Cond.fieldLink RX3 32 "GlassRopes$Ropes" "moved" "[I"]
def wsX5_move : List Cond := .code yX5_move cX5_move 4 (some .int) :: ((wsX5_move_r1 ++ wsX5_move_r2) ++ wsX50 ++ wsX00 ++ wsX30 ++ (vx_atS RX5 44 "java/lang/IndexOutOfBoundsException" ["java/lang/RuntimeException", "java/lang/Exception"]).filter goodWord ++ (vx_atS RX5 53 "java/lang/IllegalStateException" ["java/lang/RuntimeException", "java/lang/Exception"]).filter goodWord)
def wsX5_turn : List Cond := .code yX5_turn cX5_turn 2 (some .boolean) :: ([.classLink RX5 40 "java/lang/IndexOutOfBoundsException", .initialized "java/lang/IndexOutOfBoundsException", .fieldLink RX5 26 "GlassRopes" "now" "LGlassRopes$Course;", .methodLink RX5 94 yX5_isRope, .instanceMethod yX5_isRope, .selects RX5 yX5_isRope yX5_isRope, .initialized RX5, .code yX5_isRope cX5_isRope 2 (some .boolean)] ++ wsX50 ++ wsX00 ++ wsX30 ++ (vx_atS RX5 44 "java/lang/IndexOutOfBoundsException" ["java/lang/RuntimeException", "java/lang/Exception"]).filter goodWord)
def wsX5_isWindow : List Cond := .code yX5_isWindow cX5_isWindow 2 (some .boolean) :: ([.fieldLink RX5 12 "GlassRopes" "windows" "LGlassRopes$Windows;"] ++ wsX50 ++ wsX40)
def wsX5_wipe_r1 : List Cond := [Cond.classLink RX5 40 "java/lang/IndexOutOfBoundsException", Cond.initialized "java/lang/IndexOutOfBoundsException", Cond.fieldLink RX5 12 "GlassRopes" "windows" "LGlassRopes$Windows;", Cond.fieldLink RX5 26 "GlassRopes" "now" "LGlassRopes$Course;", Cond.methodLink RX5 115 yX5_isWindow, Cond.instanceMethod yX5_isWindow, Cond.selects RX5 yX5_isWindow yX5_isWindow, Cond.initialized RX5, Cond.code yX5_isWindow cX5_isWindow 2 (some .boolean), Cond.methodLink RX5 124 yX4_wipeOff, Cond.instanceMethod yX4_wipeOff, Cond.selects RX4 yX4_wipeOff yX4_wipeOff, Cond.initialized RX4, Cond.code yX4_wipeOff cX4_wipeOff 6 (some .int), Cond.fieldLink RX4 15 "GlassRopes$Windows" "x" "[I", Cond.fieldLink RX4 22 "GlassRopes$Windows" "width" "[I", Cond.fieldLink RX4 19 "GlassRopes$Windows" "y" "[I", Cond.fieldLink RX4 25 "GlassRopes$Windows" "height" "[I", Cond.methodLink RX4 56 yX2_takeOff, Cond.instanceMethod yX2_takeOff, Cond.selects RX2 yX2_takeOff yX2_takeOff, Cond.initialized RX2, Cond.code yX2_takeOff cX2_takeOff 6 (some .int), Cond.fieldLink RX2 9 "GlassRopes$Glass" "soot" "[I"]
def wsX5_wipe_r2 : List Cond := [Cond.methodLink RX2 25 Lib.Math.min.name, Cond.static Lib.Math.min.name, Cond.initialized "java/lang/Math", Cond.code Lib.Math.min.name Lib.Math.min.code 2 (some .int)]
def wsX5_wipe : List Cond := .code yX5_wipe cX5_wipe 2 (some .int) :: ((wsX5_wipe_r1 ++ wsX5_wipe_r2) ++ wsX50 ++ wsX00 ++ wsX40 ++ wsX20 ++ (vx_atS RX5 44 "java/lang/IndexOutOfBoundsException" ["java/lang/RuntimeException", "java/lang/Exception"]).filter goodWord)
def wsX5_pass_r1 : List Cond := [Cond.classLink RX5 33 "java/lang/IllegalArgumentException", Cond.initialized "java/lang/IllegalArgumentException", Cond.fieldLink RX5 26 "GlassRopes" "now" "LGlassRopes$Course;", Cond.fieldLink RX5 12 "GlassRopes" "windows" "LGlassRopes$Windows;", Cond.fieldLink RX5 19 "GlassRopes" "feasts" "LGlassRopes$Feasts;", Cond.methodLink RX5 133 yX0_goOn, Cond.instanceMethod yX0_goOn, Cond.selects RX0 yX0_goOn yX0_goOn, Cond.initialized RX0, Cond.code yX0_goOn cX0_goOn 5 none, Cond.methodLink RX0 43 yX0_goOneDay, Cond.instanceMethod yX0_goOneDay, Cond.selects RX0 yX0_goOneDay yX0_goOneDay, Cond.code yX0_goOneDay cX0_goOneDay 3 none, Cond.fieldLink RX0 10 "GlassRopes$Course" "glass" "LGlassRopes$Glass;", Cond.fieldLink RX0 23 "GlassRopes$Course" "wind" "I", Cond.fieldLink RX0 27 "GlassRopes$Course" "day" "I", Cond.fieldLink RX0 30 "GlassRopes$Course" "coins" "I", Cond.fieldLink RX0 33 "GlassRopes$Course" "feastDays" "I", Cond.fieldLink RX0 19 "GlassRopes$Course" "ropes" "LGlassRopes$Ropes;", Cond.methodLink RX0 47 yX2_gather, Cond.instanceMethod yX2_gather, Cond.selects RX2 yX2_gather yX2_gather, Cond.initialized RX2]
def wsX5_pass_r2 : List Cond := [Cond.code yX2_gather cX2_gather 6 none, Cond.fieldLink RX2 9 "GlassRopes$Glass" "soot" "[I", Cond.methodLink RX2 25 Lib.Math.min.name, Cond.static Lib.Math.min.name, Cond.initialized "java/lang/Math", Cond.code Lib.Math.min.name Lib.Math.min.code 2 (some .int), Cond.methodLink RX2 21 yX2_broughtTo, Cond.static yX2_broughtTo, Cond.code yX2_broughtTo cX2_broughtTo 3 (some .int), Cond.methodLink RX2 30 Lib.Math.max.name, Cond.static Lib.Math.max.name, Cond.code Lib.Math.max.name Lib.Math.max.code 2 (some .int), Cond.methodLink RX0 51 yX1_areOn, Cond.instanceMethod yX1_areOn, Cond.selects RX1 yX1_areOn yX1_areOn, Cond.initialized RX1, Cond.code yX1_areOn cX1_areOn 4 (some .boolean), Cond.fieldLink RX1 9 "GlassRopes$Feasts" "size" "I", Cond.fieldLink RX1 15 "GlassRopes$Feasts" "every" "[I", Cond.fieldLink RX1 19 "GlassRopes$Feasts" "on" "[I", Cond.methodLink RX0 57 yX4_allBring, Cond.instanceMethod yX4_allBring, Cond.selects RX4 yX4_allBring yX4_allBring, Cond.initialized RX4]
def wsX5_pass_r3 : List Cond := [Cond.code yX4_allBring cX4_allBring 4 (some .int), Cond.fieldLink RX4 9 "GlassRopes$Windows" "size" "I", Cond.methodLink RX4 38 yX4_brings, Cond.instanceMethod yX4_brings, Cond.selects RX4 yX4_brings yX4_brings, Cond.code yX4_brings cX4_brings 3 (some .int), Cond.fieldLink RX4 28 "GlassRopes$Windows" "worth" "[I", Cond.methodLink RX4 47 Lib.Math.max.name, Cond.methodLink RX4 52 yX4_panes, Cond.instanceMethod yX4_panes, Cond.selects RX4 yX4_panes yX4_panes, Cond.code yX4_panes cX4_panes 2 (some .int), Cond.fieldLink RX4 22 "GlassRopes$Windows" "width" "[I", Cond.fieldLink RX4 25 "GlassRopes$Windows" "height" "[I", Cond.methodLink RX4 31 yX4_added, Cond.instanceMethod yX4_added, Cond.selects RX4 yX4_added yX4_added, Cond.code yX4_added cX4_added 6 (some .int), Cond.fieldLink RX4 15 "GlassRopes$Windows" "x" "[I", Cond.fieldLink RX4 19 "GlassRopes$Windows" "y" "[I", Cond.methodLink RX4 41 yX2_at, Cond.instanceMethod yX2_at, Cond.selects RX2 yX2_at yX2_at, Cond.code yX2_at cX2_at 3 (some .int)]
def wsX5_pass_r4 : List Cond := [Cond.methodLink RX0 63 yX3_work, Cond.instanceMethod yX3_work, Cond.selects RX3 yX3_work yX3_work, Cond.initialized RX3, Cond.code yX3_work cX3_work 3 none, Cond.fieldLink RX3 9 "GlassRopes$Ropes" "size" "I", Cond.methodLink RX3 35 yX3_workOnOne, Cond.instanceMethod yX3_workOnOne, Cond.selects RX3 yX3_workOnOne yX3_workOnOne, Cond.code yX3_workOnOne cX3_workOnOne 6 none, Cond.fieldLink RX3 22 "GlassRopes$Ropes" "strength" "[I", Cond.fieldLink RX3 15 "GlassRopes$Ropes" "column" "[I", Cond.fieldLink RX3 19 "GlassRopes$Ropes" "row" "[I", Cond.fieldLink RX3 29 "GlassRopes$Ropes" "cleaned" "[I", Cond.methodLink RX3 39 yX2_takeOff, Cond.instanceMethod yX2_takeOff, Cond.selects RX2 yX2_takeOff yX2_takeOff, Cond.code yX2_takeOff cX2_takeOff 6 (some .int), Cond.methodLink RX3 45 yX3_nextFreeColumn, Cond.instanceMethod yX3_nextFreeColumn, Cond.selects RX3 yX3_nextFreeColumn yX3_nextFreeColumn, Cond.code yX3_nextFreeColumn cX3_nextFreeColumn 5 (some .int), Cond.fieldLink RX3 25 "GlassRopes$Ropes" "toRight" "[Z", Cond.methodLink RX3 53 yX3_hangAt]
def wsX5_pass_r5 : List Cond := [Cond.instanceMethod yX3_hangAt, Cond.selects RX3 yX3_hangAt yX3_hangAt, Cond.code yX3_hangAt cX3_hangAt 3 (some .boolean), Cond.methodLink RX3 49 yX3_rehang, Cond.instanceMethod yX3_rehang, Cond.selects RX3 yX3_rehang yX3_rehang, Cond.code yX3_rehang cX3_rehang 3 none, Cond.fieldLink RX3 32 "GlassRopes$Ropes" "moved" "[I"]
def wsX5_pass : List Cond := .code yX5_pass cX5_pass 3 (some .int) :: ((wsX5_pass_r1 ++ (wsX5_pass_r2 ++ (wsX5_pass_r3 ++ (wsX5_pass_r4 ++ wsX5_pass_r5)))) ++ wsX50 ++ wsX00 ++ wsX20 ++ wsX10 ++ wsX40 ++ wsX30 ++ (vx_atS RX5 37 "java/lang/IllegalArgumentException" ["java/lang/RuntimeException", "java/lang/Exception"]).filter goodWord)
def wsX5_soot : List Cond := .code yX5_soot cX5_soot 3 (some .int) :: ([.classLink RX5 40 "java/lang/IndexOutOfBoundsException", .initialized "java/lang/IndexOutOfBoundsException", .fieldLink RX5 26 "GlassRopes" "now" "LGlassRopes$Course;", .methodLink RX5 58 yX5_isColumn, .static yX5_isColumn, .initialized RX5, .code yX5_isColumn cX5_isColumn 1 (some .boolean), .methodLink RX5 139 yX2_at, .instanceMethod yX2_at, .selects RX2 yX2_at yX2_at, .initialized RX2, .code yX2_at cX2_at 3 (some .int), .fieldLink RX2 9 "GlassRopes$Glass" "soot" "[I"] ++ wsX50 ++ wsX00 ++ wsX20 ++ (vx_atS RX5 44 "java/lang/IndexOutOfBoundsException" ["java/lang/RuntimeException", "java/lang/Exception"]).filter goodWord)
def wsX5_about_r1 : List Cond := [Cond.classLink RX5 40 "java/lang/IndexOutOfBoundsException", Cond.initialized "java/lang/IndexOutOfBoundsException", Cond.fieldLink RX5 12 "GlassRopes" "windows" "LGlassRopes$Windows;", Cond.fieldLink RX5 26 "GlassRopes" "now" "LGlassRopes$Course;", Cond.methodLink RX5 115 yX5_isWindow, Cond.instanceMethod yX5_isWindow, Cond.selects RX5 yX5_isWindow yX5_isWindow, Cond.initialized RX5, Cond.code yX5_isWindow cX5_isWindow 2 (some .boolean), Cond.methodLink RX5 146 yX4_number, Cond.instanceMethod yX4_number, Cond.selects RX4 yX4_number yX4_number, Cond.initialized RX4, Cond.code yX4_number cX4_number 4 (some .int), Cond.fieldLink RX4 15 "GlassRopes$Windows" "x" "[I", Cond.fieldLink RX4 19 "GlassRopes$Windows" "y" "[I", Cond.fieldLink RX4 22 "GlassRopes$Windows" "width" "[I", Cond.fieldLink RX4 25 "GlassRopes$Windows" "height" "[I", Cond.fieldLink RX4 28 "GlassRopes$Windows" "worth" "[I", Cond.methodLink RX4 31 yX4_added, Cond.instanceMethod yX4_added, Cond.selects RX4 yX4_added yX4_added, Cond.code yX4_added cX4_added 6 (some .int), Cond.methodLink RX4 41 yX2_at]
def wsX5_about_r2 : List Cond := [Cond.instanceMethod yX2_at, Cond.selects RX2 yX2_at yX2_at, Cond.initialized RX2, Cond.code yX2_at cX2_at 3 (some .int), Cond.fieldLink RX2 9 "GlassRopes$Glass" "soot" "[I", Cond.methodLink RX4 35 yX4_darkest, Cond.instanceMethod yX4_darkest, Cond.selects RX4 yX4_darkest yX4_darkest, Cond.code yX4_darkest cX4_darkest 6 (some .int), Cond.methodLink RX4 47 Lib.Math.max.name, Cond.static Lib.Math.max.name, Cond.initialized "java/lang/Math", Cond.code Lib.Math.max.name Lib.Math.max.code 2 (some .int), Cond.methodLink RX4 38 yX4_brings, Cond.instanceMethod yX4_brings, Cond.selects RX4 yX4_brings yX4_brings, Cond.code yX4_brings cX4_brings 3 (some .int), Cond.methodLink RX4 52 yX4_panes, Cond.instanceMethod yX4_panes, Cond.selects RX4 yX4_panes yX4_panes, Cond.code yX4_panes cX4_panes 2 (some .int)]
def wsX5_about : List Cond := .code yX5_about cX5_about 3 (some .int) :: ((wsX5_about_r1 ++ wsX5_about_r2) ++ wsX50 ++ wsX00 ++ wsX40 ++ wsX20 ++ (vx_atS RX5 44 "java/lang/IndexOutOfBoundsException" ["java/lang/RuntimeException", "java/lang/Exception"]).filter goodWord)
def wsX5_told : List Cond := .code yX5_told cX5_told 3 (some .int) :: ([.classLink RX5 40 "java/lang/IndexOutOfBoundsException", .initialized "java/lang/IndexOutOfBoundsException", .fieldLink RX5 26 "GlassRopes" "now" "LGlassRopes$Course;", .methodLink RX5 94 yX5_isRope, .instanceMethod yX5_isRope, .selects RX5 yX5_isRope yX5_isRope, .initialized RX5, .code yX5_isRope cX5_isRope 2 (some .boolean), .methodLink RX5 152 yX3_number, .instanceMethod yX3_number, .selects RX3 yX3_number yX3_number, .initialized RX3, .code yX3_number cX3_number 3 (some .int), .fieldLink RX3 15 "GlassRopes$Ropes" "column" "[I", .fieldLink RX3 19 "GlassRopes$Ropes" "row" "[I", .fieldLink RX3 22 "GlassRopes$Ropes" "strength" "[I", .fieldLink RX3 25 "GlassRopes$Ropes" "toRight" "[Z", .fieldLink RX3 29 "GlassRopes$Ropes" "cleaned" "[I", .fieldLink RX3 32 "GlassRopes$Ropes" "moved" "[I"] ++ wsX50 ++ wsX00 ++ wsX30 ++ (vx_atS RX5 44 "java/lang/IndexOutOfBoundsException" ["java/lang/RuntimeException", "java/lang/Exception"]).filter goodWord)
def wsX5_number_r1 : List Cond := [Cond.fieldLink RX5 26 "GlassRopes" "now" "LGlassRopes$Course;", Cond.fieldLink RX5 12 "GlassRopes" "windows" "LGlassRopes$Windows;", Cond.fieldLink RX5 19 "GlassRopes" "feasts" "LGlassRopes$Feasts;", Cond.methodLink RX5 172 yX2_total, Cond.instanceMethod yX2_total, Cond.selects RX2 yX2_total yX2_total, Cond.initialized RX2, Cond.code yX2_total cX2_total 3 (some .int), Cond.fieldLink RX2 9 "GlassRopes$Glass" "soot" "[I", Cond.methodLink RX5 199 yX2_cleanPanes, Cond.instanceMethod yX2_cleanPanes, Cond.selects RX2 yX2_cleanPanes yX2_cleanPanes, Cond.code yX2_cleanPanes cX2_cleanPanes 3 (some .int), Cond.methodLink RX5 176 yX3_allCleaned, Cond.instanceMethod yX3_allCleaned, Cond.selects RX3 yX3_allCleaned yX3_allCleaned, Cond.initialized RX3, Cond.code yX3_allCleaned cX3_allCleaned 3 (some .int), Cond.fieldLink RX3 9 "GlassRopes$Ropes" "size" "I", Cond.fieldLink RX3 29 "GlassRopes$Ropes" "cleaned" "[I", Cond.methodLink RX5 205 yX4_allBring, Cond.instanceMethod yX4_allBring, Cond.selects RX4 yX4_allBring yX4_allBring, Cond.initialized RX4]
def wsX5_number_r2 : List Cond := [Cond.code yX4_allBring cX4_allBring 4 (some .int), Cond.fieldLink RX4 9 "GlassRopes$Windows" "size" "I", Cond.methodLink RX4 38 yX4_brings, Cond.instanceMethod yX4_brings, Cond.selects RX4 yX4_brings yX4_brings, Cond.code yX4_brings cX4_brings 3 (some .int), Cond.fieldLink RX4 28 "GlassRopes$Windows" "worth" "[I", Cond.methodLink RX4 47 Lib.Math.max.name, Cond.static Lib.Math.max.name, Cond.initialized "java/lang/Math", Cond.code Lib.Math.max.name Lib.Math.max.code 2 (some .int), Cond.methodLink RX4 52 yX4_panes, Cond.instanceMethod yX4_panes, Cond.selects RX4 yX4_panes yX4_panes, Cond.code yX4_panes cX4_panes 2 (some .int), Cond.fieldLink RX4 22 "GlassRopes$Windows" "width" "[I", Cond.fieldLink RX4 25 "GlassRopes$Windows" "height" "[I", Cond.methodLink RX4 31 yX4_added, Cond.instanceMethod yX4_added, Cond.selects RX4 yX4_added yX4_added, Cond.code yX4_added cX4_added 6 (some .int), Cond.fieldLink RX4 15 "GlassRopes$Windows" "x" "[I", Cond.fieldLink RX4 19 "GlassRopes$Windows" "y" "[I", Cond.methodLink RX4 41 yX2_at]
def wsX5_number_r3 : List Cond := [Cond.instanceMethod yX2_at, Cond.selects RX2 yX2_at yX2_at, Cond.code yX2_at cX2_at 3 (some .int)]
def wsX5_number : List Cond := .code yX5_number cX5_number 2 (some .int) :: ((wsX5_number_r1 ++ (wsX5_number_r2 ++ wsX5_number_r3)) ++ wsX50 ++ wsX00 ++ wsX40 ++ wsX30 ++ wsX10 ++ wsX20)
def wsX5_count_r1 : List Cond := [Cond.classLink RX5 40 "java/lang/IndexOutOfBoundsException", Cond.initialized "java/lang/IndexOutOfBoundsException", Cond.methodLink RX5 156 yX5_number, Cond.instanceMethod yX5_number, Cond.selects RX5 yX5_number yX5_number, Cond.initialized RX5, Cond.code yX5_number cX5_number 2 (some .int), Cond.fieldLink RX5 26 "GlassRopes" "now" "LGlassRopes$Course;", Cond.fieldLink RX5 12 "GlassRopes" "windows" "LGlassRopes$Windows;", Cond.fieldLink RX5 19 "GlassRopes" "feasts" "LGlassRopes$Feasts;", Cond.methodLink RX5 172 yX2_total, Cond.instanceMethod yX2_total, Cond.selects RX2 yX2_total yX2_total, Cond.initialized RX2, Cond.code yX2_total cX2_total 3 (some .int), Cond.fieldLink RX2 9 "GlassRopes$Glass" "soot" "[I", Cond.methodLink RX5 199 yX2_cleanPanes, Cond.instanceMethod yX2_cleanPanes, Cond.selects RX2 yX2_cleanPanes yX2_cleanPanes, Cond.code yX2_cleanPanes cX2_cleanPanes 3 (some .int), Cond.methodLink RX5 176 yX3_allCleaned, Cond.instanceMethod yX3_allCleaned, Cond.selects RX3 yX3_allCleaned yX3_allCleaned, Cond.initialized RX3]
def wsX5_count_r2 : List Cond := [Cond.code yX3_allCleaned cX3_allCleaned 3 (some .int), Cond.fieldLink RX3 9 "GlassRopes$Ropes" "size" "I", Cond.fieldLink RX3 29 "GlassRopes$Ropes" "cleaned" "[I", Cond.methodLink RX5 205 yX4_allBring, Cond.instanceMethod yX4_allBring, Cond.selects RX4 yX4_allBring yX4_allBring, Cond.initialized RX4, Cond.code yX4_allBring cX4_allBring 4 (some .int), Cond.fieldLink RX4 9 "GlassRopes$Windows" "size" "I", Cond.methodLink RX4 38 yX4_brings, Cond.instanceMethod yX4_brings, Cond.selects RX4 yX4_brings yX4_brings, Cond.code yX4_brings cX4_brings 3 (some .int), Cond.fieldLink RX4 28 "GlassRopes$Windows" "worth" "[I", Cond.methodLink RX4 47 Lib.Math.max.name, Cond.static Lib.Math.max.name, Cond.initialized "java/lang/Math", Cond.code Lib.Math.max.name Lib.Math.max.code 2 (some .int), Cond.methodLink RX4 52 yX4_panes, Cond.instanceMethod yX4_panes, Cond.selects RX4 yX4_panes yX4_panes, Cond.code yX4_panes cX4_panes 2 (some .int), Cond.fieldLink RX4 22 "GlassRopes$Windows" "width" "[I", Cond.fieldLink RX4 25 "GlassRopes$Windows" "height" "[I"]
def wsX5_count_r3 : List Cond := [Cond.methodLink RX4 31 yX4_added, Cond.instanceMethod yX4_added, Cond.selects RX4 yX4_added yX4_added, Cond.code yX4_added cX4_added 6 (some .int), Cond.fieldLink RX4 15 "GlassRopes$Windows" "x" "[I", Cond.fieldLink RX4 19 "GlassRopes$Windows" "y" "[I", Cond.methodLink RX4 41 yX2_at, Cond.instanceMethod yX2_at, Cond.selects RX2 yX2_at yX2_at, Cond.code yX2_at cX2_at 3 (some .int)]
def wsX5_count : List Cond := .code yX5_count cX5_count 2 (some .int) :: ((wsX5_count_r1 ++ (wsX5_count_r2 ++ wsX5_count_r3)) ++ wsX50 ++ wsX00 ++ wsX40 ++ wsX30 ++ wsX10 ++ wsX20 ++ (vx_atS RX5 44 "java/lang/IndexOutOfBoundsException" ["java/lang/RuntimeException", "java/lang/Exception"]).filter goodWord)
def wsX5_isFeast : List Cond := .code yX5_isFeast cX5_isFeast 2 (some .boolean) :: ([.classLink RX5 33 "java/lang/IllegalArgumentException", .initialized "java/lang/IllegalArgumentException", .fieldLink RX5 19 "GlassRopes" "feasts" "LGlassRopes$Feasts;", .fieldLink RX5 26 "GlassRopes" "now" "LGlassRopes$Course;", .methodLink RX5 162 yX1_areOn, .instanceMethod yX1_areOn, .selects RX1 yX1_areOn yX1_areOn, .initialized RX1, .code yX1_areOn cX1_areOn 4 (some .boolean), .fieldLink RX1 9 "GlassRopes$Feasts" "size" "I", .fieldLink RX1 15 "GlassRopes$Feasts" "every" "[I", .fieldLink RX1 19 "GlassRopes$Feasts" "on" "[I"] ++ wsX50 ++ wsX00 ++ wsX10 ++ (vx_atS RX5 37 "java/lang/IllegalArgumentException" ["java/lang/RuntimeException", "java/lang/Exception"]).filter goodWord)
def wsX5_next : List Cond := .code yX5_next cX5_next 1 (some .int) :: ([.fieldLink RX5 19 "GlassRopes" "feasts" "LGlassRopes$Feasts;", .fieldLink RX5 26 "GlassRopes" "now" "LGlassRopes$Course;", .methodLink RX5 165 yX1_daysUntil, .instanceMethod yX1_daysUntil, .selects RX1 yX1_daysUntil yX1_daysUntil, .initialized RX1, .code yX1_daysUntil cX1_daysUntil 3 (some .int), .methodLink RX1 22 yX1_areOn, .instanceMethod yX1_areOn, .selects RX1 yX1_areOn yX1_areOn, .code yX1_areOn cX1_areOn 4 (some .boolean), .fieldLink RX1 9 "GlassRopes$Feasts" "size" "I", .fieldLink RX1 15 "GlassRopes$Feasts" "every" "[I", .fieldLink RX1 19 "GlassRopes$Feasts" "on" "[I"] ++ wsX50 ++ wsX00 ++ wsX10)
def wsX5_would_r1 : List Cond := [Cond.classLink RX5 33 "java/lang/IllegalArgumentException", Cond.initialized "java/lang/IllegalArgumentException", Cond.classLink RX5 40 "java/lang/IndexOutOfBoundsException", Cond.initialized "java/lang/IndexOutOfBoundsException", Cond.fieldLink RX5 30 "GlassRopes" "ahead" "LGlassRopes$Course;", Cond.fieldLink RX5 26 "GlassRopes" "now" "LGlassRopes$Course;", Cond.fieldLink RX5 12 "GlassRopes" "windows" "LGlassRopes$Windows;", Cond.fieldLink RX5 19 "GlassRopes" "feasts" "LGlassRopes$Feasts;", Cond.methodLink RX5 168 yX0_copyFrom, Cond.instanceMethod yX0_copyFrom, Cond.selects RX0 yX0_copyFrom yX0_copyFrom, Cond.initialized RX0, Cond.code yX0_copyFrom cX0_copyFrom 2 none, Cond.fieldLink RX0 10 "GlassRopes$Course" "glass" "LGlassRopes$Glass;", Cond.fieldLink RX0 19 "GlassRopes$Course" "ropes" "LGlassRopes$Ropes;", Cond.fieldLink RX0 23 "GlassRopes$Course" "wind" "I", Cond.fieldLink RX0 27 "GlassRopes$Course" "day" "I", Cond.fieldLink RX0 30 "GlassRopes$Course" "coins" "I", Cond.fieldLink RX0 33 "GlassRopes$Course" "feastDays" "I", Cond.methodLink RX0 36 yX2_copyFrom, Cond.instanceMethod yX2_copyFrom, Cond.selects RX2 yX2_copyFrom yX2_copyFrom, Cond.initialized RX2, Cond.code yX2_copyFrom cX2_copyFrom 2 none]
def wsX5_would_r2 : List Cond := [Cond.fieldLink RX2 9 "GlassRopes$Glass" "soot" "[I", Cond.methodLink RX2 15 arraycopyName, Cond.native arraycopyName, Cond.static arraycopyName, Cond.initialized "java/lang/System", Cond.methodLink RX0 40 yX3_copyFrom, Cond.instanceMethod yX3_copyFrom, Cond.selects RX3 yX3_copyFrom yX3_copyFrom, Cond.initialized RX3, Cond.code yX3_copyFrom cX3_copyFrom 3 none, Cond.fieldLink RX3 9 "GlassRopes$Ropes" "size" "I", Cond.fieldLink RX3 15 "GlassRopes$Ropes" "column" "[I", Cond.fieldLink RX3 19 "GlassRopes$Ropes" "row" "[I", Cond.fieldLink RX3 22 "GlassRopes$Ropes" "strength" "[I", Cond.fieldLink RX3 25 "GlassRopes$Ropes" "toRight" "[Z", Cond.fieldLink RX3 29 "GlassRopes$Ropes" "cleaned" "[I", Cond.fieldLink RX3 32 "GlassRopes$Ropes" "moved" "[I", Cond.methodLink RX5 133 yX0_goOn, Cond.instanceMethod yX0_goOn, Cond.selects RX0 yX0_goOn yX0_goOn, Cond.code yX0_goOn cX0_goOn 5 none, Cond.methodLink RX0 43 yX0_goOneDay, Cond.instanceMethod yX0_goOneDay, Cond.selects RX0 yX0_goOneDay yX0_goOneDay]
def wsX5_would_r3 : List Cond := [Cond.code yX0_goOneDay cX0_goOneDay 3 none, Cond.methodLink RX0 47 yX2_gather, Cond.instanceMethod yX2_gather, Cond.selects RX2 yX2_gather yX2_gather, Cond.code yX2_gather cX2_gather 6 none, Cond.methodLink RX2 25 Lib.Math.min.name, Cond.static Lib.Math.min.name, Cond.initialized "java/lang/Math", Cond.code Lib.Math.min.name Lib.Math.min.code 2 (some .int), Cond.methodLink RX2 21 yX2_broughtTo, Cond.static yX2_broughtTo, Cond.code yX2_broughtTo cX2_broughtTo 3 (some .int), Cond.methodLink RX2 30 Lib.Math.max.name, Cond.static Lib.Math.max.name, Cond.code Lib.Math.max.name Lib.Math.max.code 2 (some .int), Cond.methodLink RX0 51 yX1_areOn, Cond.instanceMethod yX1_areOn, Cond.selects RX1 yX1_areOn yX1_areOn, Cond.initialized RX1, Cond.code yX1_areOn cX1_areOn 4 (some .boolean), Cond.fieldLink RX1 9 "GlassRopes$Feasts" "size" "I", Cond.fieldLink RX1 15 "GlassRopes$Feasts" "every" "[I", Cond.fieldLink RX1 19 "GlassRopes$Feasts" "on" "[I", Cond.methodLink RX0 57 yX4_allBring]
def wsX5_would_r4 : List Cond := [Cond.instanceMethod yX4_allBring, Cond.selects RX4 yX4_allBring yX4_allBring, Cond.initialized RX4, Cond.code yX4_allBring cX4_allBring 4 (some .int), Cond.fieldLink RX4 9 "GlassRopes$Windows" "size" "I", Cond.methodLink RX4 38 yX4_brings, Cond.instanceMethod yX4_brings, Cond.selects RX4 yX4_brings yX4_brings, Cond.code yX4_brings cX4_brings 3 (some .int), Cond.fieldLink RX4 28 "GlassRopes$Windows" "worth" "[I", Cond.methodLink RX4 47 Lib.Math.max.name, Cond.methodLink RX4 52 yX4_panes, Cond.instanceMethod yX4_panes, Cond.selects RX4 yX4_panes yX4_panes, Cond.code yX4_panes cX4_panes 2 (some .int), Cond.fieldLink RX4 22 "GlassRopes$Windows" "width" "[I", Cond.fieldLink RX4 25 "GlassRopes$Windows" "height" "[I", Cond.methodLink RX4 31 yX4_added, Cond.instanceMethod yX4_added, Cond.selects RX4 yX4_added yX4_added, Cond.code yX4_added cX4_added 6 (some .int), Cond.fieldLink RX4 15 "GlassRopes$Windows" "x" "[I", Cond.fieldLink RX4 19 "GlassRopes$Windows" "y" "[I", Cond.methodLink RX4 41 yX2_at]
def wsX5_would_r5 : List Cond := [Cond.instanceMethod yX2_at, Cond.selects RX2 yX2_at yX2_at, Cond.code yX2_at cX2_at 3 (some .int), Cond.methodLink RX0 63 yX3_work, Cond.instanceMethod yX3_work, Cond.selects RX3 yX3_work yX3_work, Cond.code yX3_work cX3_work 3 none, Cond.methodLink RX3 35 yX3_workOnOne, Cond.instanceMethod yX3_workOnOne, Cond.selects RX3 yX3_workOnOne yX3_workOnOne, Cond.code yX3_workOnOne cX3_workOnOne 6 none, Cond.methodLink RX3 39 yX2_takeOff, Cond.instanceMethod yX2_takeOff, Cond.selects RX2 yX2_takeOff yX2_takeOff, Cond.code yX2_takeOff cX2_takeOff 6 (some .int), Cond.methodLink RX3 45 yX3_nextFreeColumn, Cond.instanceMethod yX3_nextFreeColumn, Cond.selects RX3 yX3_nextFreeColumn yX3_nextFreeColumn, Cond.code yX3_nextFreeColumn cX3_nextFreeColumn 5 (some .int), Cond.methodLink RX3 53 yX3_hangAt, Cond.instanceMethod yX3_hangAt, Cond.selects RX3 yX3_hangAt yX3_hangAt, Cond.code yX3_hangAt cX3_hangAt 3 (some .boolean), Cond.methodLink RX3 49 yX3_rehang]
def wsX5_would_r6 : List Cond := [Cond.instanceMethod yX3_rehang, Cond.selects RX3 yX3_rehang yX3_rehang, Cond.code yX3_rehang cX3_rehang 3 none, Cond.methodLink RX5 172 yX2_total, Cond.instanceMethod yX2_total, Cond.selects RX2 yX2_total yX2_total, Cond.code yX2_total cX2_total 3 (some .int), Cond.methodLink RX5 176 yX3_allCleaned, Cond.instanceMethod yX3_allCleaned, Cond.selects RX3 yX3_allCleaned yX3_allCleaned, Cond.code yX3_allCleaned cX3_allCleaned 3 (some .int)]
def wsX5_would : List Cond := .code yX5_would cX5_would 3 (some .int) :: ((wsX5_would_r1 ++ (wsX5_would_r2 ++ (wsX5_would_r3 ++ (wsX5_would_r4 ++ (wsX5_would_r5 ++ wsX5_would_r6))))) ++ wsX50 ++ wsX00 ++ wsX20 ++ wsX30 ++ wsX10 ++ wsX40 ++ (vx_atS RX5 37 "java/lang/IllegalArgumentException" ["java/lang/RuntimeException", "java/lang/Exception"]).filter goodWord ++ (vx_atS RX5 44 "java/lang/IndexOutOfBoundsException" ["java/lang/RuntimeException", "java/lang/Exception"]).filter goodWord)
def wsX5_until_r1 : List Cond := [Cond.classLink RX5 40 "java/lang/IndexOutOfBoundsException", Cond.initialized "java/lang/IndexOutOfBoundsException", Cond.fieldLink RX5 30 "GlassRopes" "ahead" "LGlassRopes$Course;", Cond.fieldLink RX5 26 "GlassRopes" "now" "LGlassRopes$Course;", Cond.fieldLink RX5 12 "GlassRopes" "windows" "LGlassRopes$Windows;", Cond.fieldLink RX5 19 "GlassRopes" "feasts" "LGlassRopes$Feasts;", Cond.methodLink RX5 115 yX5_isWindow, Cond.instanceMethod yX5_isWindow, Cond.selects RX5 yX5_isWindow yX5_isWindow, Cond.initialized RX5, Cond.code yX5_isWindow cX5_isWindow 2 (some .boolean), Cond.methodLink RX5 168 yX0_copyFrom, Cond.instanceMethod yX0_copyFrom, Cond.selects RX0 yX0_copyFrom yX0_copyFrom, Cond.initialized RX0, Cond.code yX0_copyFrom cX0_copyFrom 2 none, Cond.fieldLink RX0 10 "GlassRopes$Course" "glass" "LGlassRopes$Glass;", Cond.fieldLink RX0 19 "GlassRopes$Course" "ropes" "LGlassRopes$Ropes;", Cond.fieldLink RX0 23 "GlassRopes$Course" "wind" "I", Cond.fieldLink RX0 27 "GlassRopes$Course" "day" "I", Cond.fieldLink RX0 30 "GlassRopes$Course" "coins" "I", Cond.fieldLink RX0 33 "GlassRopes$Course" "feastDays" "I", Cond.methodLink RX0 36 yX2_copyFrom, Cond.instanceMethod yX2_copyFrom]
def wsX5_until_r2 : List Cond := [Cond.selects RX2 yX2_copyFrom yX2_copyFrom, Cond.initialized RX2, Cond.code yX2_copyFrom cX2_copyFrom 2 none, Cond.fieldLink RX2 9 "GlassRopes$Glass" "soot" "[I", Cond.methodLink RX2 15 arraycopyName, Cond.native arraycopyName, Cond.static arraycopyName, Cond.initialized "java/lang/System", Cond.methodLink RX0 40 yX3_copyFrom, Cond.instanceMethod yX3_copyFrom, Cond.selects RX3 yX3_copyFrom yX3_copyFrom, Cond.initialized RX3, Cond.code yX3_copyFrom cX3_copyFrom 3 none, Cond.fieldLink RX3 9 "GlassRopes$Ropes" "size" "I", Cond.fieldLink RX3 15 "GlassRopes$Ropes" "column" "[I", Cond.fieldLink RX3 19 "GlassRopes$Ropes" "row" "[I", Cond.fieldLink RX3 22 "GlassRopes$Ropes" "strength" "[I", Cond.fieldLink RX3 25 "GlassRopes$Ropes" "toRight" "[Z", Cond.fieldLink RX3 29 "GlassRopes$Ropes" "cleaned" "[I", Cond.fieldLink RX3 32 "GlassRopes$Ropes" "moved" "[I", Cond.methodLink RX5 179 yX4_isClean, Cond.instanceMethod yX4_isClean, Cond.selects RX4 yX4_isClean yX4_isClean, Cond.initialized RX4]
def wsX5_until_r3 : List Cond := [Cond.code yX4_isClean cX4_isClean 3 (some .boolean), Cond.methodLink RX4 31 yX4_added, Cond.instanceMethod yX4_added, Cond.selects RX4 yX4_added yX4_added, Cond.code yX4_added cX4_added 6 (some .int), Cond.fieldLink RX4 15 "GlassRopes$Windows" "x" "[I", Cond.fieldLink RX4 22 "GlassRopes$Windows" "width" "[I", Cond.fieldLink RX4 19 "GlassRopes$Windows" "y" "[I", Cond.fieldLink RX4 25 "GlassRopes$Windows" "height" "[I", Cond.methodLink RX4 41 yX2_at, Cond.instanceMethod yX2_at, Cond.selects RX2 yX2_at yX2_at, Cond.code yX2_at cX2_at 3 (some .int), Cond.methodLink RX4 52 yX4_panes, Cond.instanceMethod yX4_panes, Cond.selects RX4 yX4_panes yX4_panes, Cond.code yX4_panes cX4_panes 2 (some .int), Cond.methodLink RX5 183 yX0_goOneDay, Cond.instanceMethod yX0_goOneDay, Cond.selects RX0 yX0_goOneDay yX0_goOneDay, Cond.code yX0_goOneDay cX0_goOneDay 3 none, Cond.methodLink RX0 47 yX2_gather, Cond.instanceMethod yX2_gather, Cond.selects RX2 yX2_gather yX2_gather]
def wsX5_until_r4 : List Cond := [Cond.code yX2_gather cX2_gather 6 none, Cond.methodLink RX2 25 Lib.Math.min.name, Cond.static Lib.Math.min.name, Cond.initialized "java/lang/Math", Cond.code Lib.Math.min.name Lib.Math.min.code 2 (some .int), Cond.methodLink RX2 21 yX2_broughtTo, Cond.static yX2_broughtTo, Cond.code yX2_broughtTo cX2_broughtTo 3 (some .int), Cond.methodLink RX2 30 Lib.Math.max.name, Cond.static Lib.Math.max.name, Cond.code Lib.Math.max.name Lib.Math.max.code 2 (some .int), Cond.methodLink RX0 51 yX1_areOn, Cond.instanceMethod yX1_areOn, Cond.selects RX1 yX1_areOn yX1_areOn, Cond.initialized RX1, Cond.code yX1_areOn cX1_areOn 4 (some .boolean), Cond.fieldLink RX1 9 "GlassRopes$Feasts" "size" "I", Cond.fieldLink RX1 15 "GlassRopes$Feasts" "every" "[I", Cond.fieldLink RX1 19 "GlassRopes$Feasts" "on" "[I", Cond.methodLink RX0 57 yX4_allBring, Cond.instanceMethod yX4_allBring, Cond.selects RX4 yX4_allBring yX4_allBring, Cond.code yX4_allBring cX4_allBring 4 (some .int), Cond.fieldLink RX4 9 "GlassRopes$Windows" "size" "I"]
def wsX5_until_r5 : List Cond := [Cond.methodLink RX4 38 yX4_brings, Cond.instanceMethod yX4_brings, Cond.selects RX4 yX4_brings yX4_brings, Cond.code yX4_brings cX4_brings 3 (some .int), Cond.fieldLink RX4 28 "GlassRopes$Windows" "worth" "[I", Cond.methodLink RX4 47 Lib.Math.max.name, Cond.methodLink RX0 63 yX3_work, Cond.instanceMethod yX3_work, Cond.selects RX3 yX3_work yX3_work, Cond.code yX3_work cX3_work 3 none, Cond.methodLink RX3 35 yX3_workOnOne, Cond.instanceMethod yX3_workOnOne, Cond.selects RX3 yX3_workOnOne yX3_workOnOne, Cond.code yX3_workOnOne cX3_workOnOne 6 none, Cond.methodLink RX3 39 yX2_takeOff, Cond.instanceMethod yX2_takeOff, Cond.selects RX2 yX2_takeOff yX2_takeOff, Cond.code yX2_takeOff cX2_takeOff 6 (some .int), Cond.methodLink RX3 45 yX3_nextFreeColumn, Cond.instanceMethod yX3_nextFreeColumn, Cond.selects RX3 yX3_nextFreeColumn yX3_nextFreeColumn, Cond.code yX3_nextFreeColumn cX3_nextFreeColumn 5 (some .int), Cond.methodLink RX3 53 yX3_hangAt, Cond.instanceMethod yX3_hangAt]
def wsX5_until_r6 : List Cond := [Cond.selects RX3 yX3_hangAt yX3_hangAt, Cond.code yX3_hangAt cX3_hangAt 3 (some .boolean), Cond.methodLink RX3 49 yX3_rehang, Cond.instanceMethod yX3_rehang, Cond.selects RX3 yX3_rehang yX3_rehang, Cond.code yX3_rehang cX3_rehang 3 none]
def wsX5_until : List Cond := .code yX5_until cX5_until 3 (some .int) :: ((wsX5_until_r1 ++ (wsX5_until_r2 ++ (wsX5_until_r3 ++ (wsX5_until_r4 ++ (wsX5_until_r5 ++ wsX5_until_r6))))) ++ wsX50 ++ wsX00 ++ wsX40 ++ wsX20 ++ wsX30 ++ wsX10 ++ (vx_atS RX5 44 "java/lang/IndexOutOfBoundsException" ["java/lang/RuntimeException", "java/lang/Exception"]).filter goodWord)
def wsX5_coinsBehind_r1 : List Cond := [Cond.fieldLink RX5 30 "GlassRopes" "ahead" "LGlassRopes$Course;", Cond.fieldLink RX5 26 "GlassRopes" "now" "LGlassRopes$Course;", Cond.fieldLink RX5 12 "GlassRopes" "windows" "LGlassRopes$Windows;", Cond.fieldLink RX5 19 "GlassRopes" "feasts" "LGlassRopes$Feasts;", Cond.methodLink RX5 168 yX0_copyFrom, Cond.instanceMethod yX0_copyFrom, Cond.selects RX0 yX0_copyFrom yX0_copyFrom, Cond.initialized RX0, Cond.code yX0_copyFrom cX0_copyFrom 2 none, Cond.fieldLink RX0 10 "GlassRopes$Course" "glass" "LGlassRopes$Glass;", Cond.fieldLink RX0 19 "GlassRopes$Course" "ropes" "LGlassRopes$Ropes;", Cond.fieldLink RX0 23 "GlassRopes$Course" "wind" "I", Cond.fieldLink RX0 27 "GlassRopes$Course" "day" "I", Cond.fieldLink RX0 30 "GlassRopes$Course" "coins" "I", Cond.fieldLink RX0 33 "GlassRopes$Course" "feastDays" "I", Cond.methodLink RX0 36 yX2_copyFrom, Cond.instanceMethod yX2_copyFrom, Cond.selects RX2 yX2_copyFrom yX2_copyFrom, Cond.initialized RX2, Cond.code yX2_copyFrom cX2_copyFrom 2 none, Cond.fieldLink RX2 9 "GlassRopes$Glass" "soot" "[I", Cond.methodLink RX2 15 arraycopyName, Cond.native arraycopyName, Cond.static arraycopyName]
def wsX5_coinsBehind_r2 : List Cond := [Cond.initialized "java/lang/System", Cond.methodLink RX0 40 yX3_copyFrom, Cond.instanceMethod yX3_copyFrom, Cond.selects RX3 yX3_copyFrom yX3_copyFrom, Cond.initialized RX3, Cond.code yX3_copyFrom cX3_copyFrom 3 none, Cond.fieldLink RX3 9 "GlassRopes$Ropes" "size" "I", Cond.fieldLink RX3 15 "GlassRopes$Ropes" "column" "[I", Cond.fieldLink RX3 19 "GlassRopes$Ropes" "row" "[I", Cond.fieldLink RX3 22 "GlassRopes$Ropes" "strength" "[I", Cond.fieldLink RX3 25 "GlassRopes$Ropes" "toRight" "[Z", Cond.fieldLink RX3 29 "GlassRopes$Ropes" "cleaned" "[I", Cond.fieldLink RX3 32 "GlassRopes$Ropes" "moved" "[I", Cond.methodLink RX5 105 yX3_rehang, Cond.instanceMethod yX3_rehang, Cond.selects RX3 yX3_rehang yX3_rehang, Cond.code yX3_rehang cX3_rehang 3 none, Cond.methodLink RX5 183 yX0_goOneDay, Cond.instanceMethod yX0_goOneDay, Cond.selects RX0 yX0_goOneDay yX0_goOneDay, Cond.code yX0_goOneDay cX0_goOneDay 3 none, Cond.methodLink RX0 47 yX2_gather, Cond.instanceMethod yX2_gather, Cond.selects RX2 yX2_gather yX2_gather]
def wsX5_coinsBehind_r3 : List Cond := [Cond.code yX2_gather cX2_gather 6 none, Cond.methodLink RX2 25 Lib.Math.min.name, Cond.static Lib.Math.min.name, Cond.initialized "java/lang/Math", Cond.code Lib.Math.min.name Lib.Math.min.code 2 (some .int), Cond.methodLink RX2 21 yX2_broughtTo, Cond.static yX2_broughtTo, Cond.code yX2_broughtTo cX2_broughtTo 3 (some .int), Cond.methodLink RX2 30 Lib.Math.max.name, Cond.static Lib.Math.max.name, Cond.code Lib.Math.max.name Lib.Math.max.code 2 (some .int), Cond.methodLink RX0 51 yX1_areOn, Cond.instanceMethod yX1_areOn, Cond.selects RX1 yX1_areOn yX1_areOn, Cond.initialized RX1, Cond.code yX1_areOn cX1_areOn 4 (some .boolean), Cond.fieldLink RX1 9 "GlassRopes$Feasts" "size" "I", Cond.fieldLink RX1 15 "GlassRopes$Feasts" "every" "[I", Cond.fieldLink RX1 19 "GlassRopes$Feasts" "on" "[I", Cond.methodLink RX0 57 yX4_allBring, Cond.instanceMethod yX4_allBring, Cond.selects RX4 yX4_allBring yX4_allBring, Cond.initialized RX4, Cond.code yX4_allBring cX4_allBring 4 (some .int)]
def wsX5_coinsBehind_r4 : List Cond := [Cond.fieldLink RX4 9 "GlassRopes$Windows" "size" "I", Cond.methodLink RX4 38 yX4_brings, Cond.instanceMethod yX4_brings, Cond.selects RX4 yX4_brings yX4_brings, Cond.code yX4_brings cX4_brings 3 (some .int), Cond.fieldLink RX4 28 "GlassRopes$Windows" "worth" "[I", Cond.methodLink RX4 47 Lib.Math.max.name, Cond.methodLink RX4 52 yX4_panes, Cond.instanceMethod yX4_panes, Cond.selects RX4 yX4_panes yX4_panes, Cond.code yX4_panes cX4_panes 2 (some .int), Cond.fieldLink RX4 22 "GlassRopes$Windows" "width" "[I", Cond.fieldLink RX4 25 "GlassRopes$Windows" "height" "[I", Cond.methodLink RX4 31 yX4_added, Cond.instanceMethod yX4_added, Cond.selects RX4 yX4_added yX4_added, Cond.code yX4_added cX4_added 6 (some .int), Cond.fieldLink RX4 15 "GlassRopes$Windows" "x" "[I", Cond.fieldLink RX4 19 "GlassRopes$Windows" "y" "[I", Cond.methodLink RX4 41 yX2_at, Cond.instanceMethod yX2_at, Cond.selects RX2 yX2_at yX2_at, Cond.code yX2_at cX2_at 3 (some .int), Cond.methodLink RX0 63 yX3_work]
def wsX5_coinsBehind_r5 : List Cond := [Cond.instanceMethod yX3_work, Cond.selects RX3 yX3_work yX3_work, Cond.code yX3_work cX3_work 3 none, Cond.methodLink RX3 35 yX3_workOnOne, Cond.instanceMethod yX3_workOnOne, Cond.selects RX3 yX3_workOnOne yX3_workOnOne, Cond.code yX3_workOnOne cX3_workOnOne 6 none, Cond.methodLink RX3 39 yX2_takeOff, Cond.instanceMethod yX2_takeOff, Cond.selects RX2 yX2_takeOff yX2_takeOff, Cond.code yX2_takeOff cX2_takeOff 6 (some .int), Cond.methodLink RX3 45 yX3_nextFreeColumn, Cond.instanceMethod yX3_nextFreeColumn, Cond.selects RX3 yX3_nextFreeColumn yX3_nextFreeColumn, Cond.code yX3_nextFreeColumn cX3_nextFreeColumn 5 (some .int), Cond.methodLink RX3 53 yX3_hangAt, Cond.instanceMethod yX3_hangAt, Cond.selects RX3 yX3_hangAt yX3_hangAt, Cond.code yX3_hangAt cX3_hangAt 3 (some .boolean), Cond.methodLink RX3 49 yX3_rehang]
def wsX5_coinsBehind : List Cond := .code yX5_coinsBehind cX5_coinsBehind 5 (some .int) :: ((wsX5_coinsBehind_r1 ++ (wsX5_coinsBehind_r2 ++ (wsX5_coinsBehind_r3 ++ (wsX5_coinsBehind_r4 ++ wsX5_coinsBehind_r5)))) ++ wsX50 ++ wsX00 ++ wsX30 ++ wsX20 ++ wsX10 ++ wsX40)
def wsX5_advise_r1 : List Cond := [Cond.classLink RX5 40 "java/lang/IndexOutOfBoundsException", Cond.initialized "java/lang/IndexOutOfBoundsException", Cond.classLink RX5 49 "java/lang/IllegalStateException", Cond.initialized "java/lang/IllegalStateException", Cond.fieldLink RX5 19 "GlassRopes" "feasts" "LGlassRopes$Feasts;", Cond.fieldLink RX5 26 "GlassRopes" "now" "LGlassRopes$Course;", Cond.methodLink RX5 94 yX5_isRope, Cond.instanceMethod yX5_isRope, Cond.selects RX5 yX5_isRope yX5_isRope, Cond.initialized RX5, Cond.code yX5_isRope cX5_isRope 2 (some .boolean), Cond.methodLink RX5 165 yX1_daysUntil, Cond.instanceMethod yX1_daysUntil, Cond.selects RX1 yX1_daysUntil yX1_daysUntil, Cond.initialized RX1, Cond.code yX1_daysUntil cX1_daysUntil 3 (some .int), Cond.methodLink RX1 22 yX1_areOn, Cond.instanceMethod yX1_areOn, Cond.selects RX1 yX1_areOn yX1_areOn, Cond.code yX1_areOn cX1_areOn 4 (some .boolean), Cond.fieldLink RX1 9 "GlassRopes$Feasts" "size" "I", Cond.fieldLink RX1 15 "GlassRopes$Feasts" "every" "[I", Cond.fieldLink RX1 19 "GlassRopes$Feasts" "on" "[I", Cond.methodLink RX5 189 yX5_coinsBehind]
def wsX5_advise_r2 : List Cond := [Cond.instanceMethod yX5_coinsBehind, Cond.selects RX5 yX5_coinsBehind yX5_coinsBehind, Cond.code yX5_coinsBehind cX5_coinsBehind 5 (some .int), Cond.fieldLink RX5 30 "GlassRopes" "ahead" "LGlassRopes$Course;", Cond.fieldLink RX5 12 "GlassRopes" "windows" "LGlassRopes$Windows;", Cond.methodLink RX5 168 yX0_copyFrom, Cond.instanceMethod yX0_copyFrom, Cond.selects RX0 yX0_copyFrom yX0_copyFrom, Cond.initialized RX0, Cond.code yX0_copyFrom cX0_copyFrom 2 none, Cond.fieldLink RX0 10 "GlassRopes$Course" "glass" "LGlassRopes$Glass;", Cond.fieldLink RX0 19 "GlassRopes$Course" "ropes" "LGlassRopes$Ropes;", Cond.fieldLink RX0 23 "GlassRopes$Course" "wind" "I", Cond.fieldLink RX0 27 "GlassRopes$Course" "day" "I", Cond.fieldLink RX0 30 "GlassRopes$Course" "coins" "I", Cond.fieldLink RX0 33 "GlassRopes$Course" "feastDays" "I", Cond.methodLink RX0 36 yX2_copyFrom, Cond.instanceMethod yX2_copyFrom, Cond.selects RX2 yX2_copyFrom yX2_copyFrom, Cond.initialized RX2, Cond.code yX2_copyFrom cX2_copyFrom 2 none, Cond.fieldLink RX2 9 "GlassRopes$Glass" "soot" "[I", Cond.methodLink RX2 15 arraycopyName, Cond.native arraycopyName]
def wsX5_advise_r3 : List Cond := [Cond.static arraycopyName, Cond.initialized "java/lang/System", Cond.methodLink RX0 40 yX3_copyFrom, Cond.instanceMethod yX3_copyFrom, Cond.selects RX3 yX3_copyFrom yX3_copyFrom, Cond.initialized RX3, Cond.code yX3_copyFrom cX3_copyFrom 3 none, Cond.fieldLink RX3 9 "GlassRopes$Ropes" "size" "I", Cond.fieldLink RX3 15 "GlassRopes$Ropes" "column" "[I", Cond.fieldLink RX3 19 "GlassRopes$Ropes" "row" "[I", Cond.fieldLink RX3 22 "GlassRopes$Ropes" "strength" "[I", Cond.fieldLink RX3 25 "GlassRopes$Ropes" "toRight" "[Z", Cond.fieldLink RX3 29 "GlassRopes$Ropes" "cleaned" "[I", Cond.fieldLink RX3 32 "GlassRopes$Ropes" "moved" "[I", Cond.methodLink RX5 105 yX3_rehang, Cond.instanceMethod yX3_rehang, Cond.selects RX3 yX3_rehang yX3_rehang, Cond.code yX3_rehang cX3_rehang 3 none, Cond.methodLink RX5 183 yX0_goOneDay, Cond.instanceMethod yX0_goOneDay, Cond.selects RX0 yX0_goOneDay yX0_goOneDay, Cond.code yX0_goOneDay cX0_goOneDay 3 none, Cond.methodLink RX0 47 yX2_gather, Cond.instanceMethod yX2_gather]
def wsX5_advise_r4 : List Cond := [Cond.selects RX2 yX2_gather yX2_gather, Cond.code yX2_gather cX2_gather 6 none, Cond.methodLink RX2 25 Lib.Math.min.name, Cond.static Lib.Math.min.name, Cond.initialized "java/lang/Math", Cond.code Lib.Math.min.name Lib.Math.min.code 2 (some .int), Cond.methodLink RX2 21 yX2_broughtTo, Cond.static yX2_broughtTo, Cond.code yX2_broughtTo cX2_broughtTo 3 (some .int), Cond.methodLink RX2 30 Lib.Math.max.name, Cond.static Lib.Math.max.name, Cond.code Lib.Math.max.name Lib.Math.max.code 2 (some .int), Cond.methodLink RX0 51 yX1_areOn, Cond.methodLink RX0 57 yX4_allBring, Cond.instanceMethod yX4_allBring, Cond.selects RX4 yX4_allBring yX4_allBring, Cond.initialized RX4, Cond.code yX4_allBring cX4_allBring 4 (some .int), Cond.fieldLink RX4 9 "GlassRopes$Windows" "size" "I", Cond.methodLink RX4 38 yX4_brings, Cond.instanceMethod yX4_brings, Cond.selects RX4 yX4_brings yX4_brings, Cond.code yX4_brings cX4_brings 3 (some .int), Cond.fieldLink RX4 28 "GlassRopes$Windows" "worth" "[I"]
def wsX5_advise_r5 : List Cond := [Cond.methodLink RX4 47 Lib.Math.max.name, Cond.methodLink RX4 52 yX4_panes, Cond.instanceMethod yX4_panes, Cond.selects RX4 yX4_panes yX4_panes, Cond.code yX4_panes cX4_panes 2 (some .int), Cond.fieldLink RX4 22 "GlassRopes$Windows" "width" "[I", Cond.fieldLink RX4 25 "GlassRopes$Windows" "height" "[I", Cond.methodLink RX4 31 yX4_added, Cond.instanceMethod yX4_added, Cond.selects RX4 yX4_added yX4_added, Cond.code yX4_added cX4_added 6 (some .int), Cond.fieldLink RX4 15 "GlassRopes$Windows" "x" "[I", Cond.fieldLink RX4 19 "GlassRopes$Windows" "y" "[I", Cond.methodLink RX4 41 yX2_at, Cond.instanceMethod yX2_at, Cond.selects RX2 yX2_at yX2_at, Cond.code yX2_at cX2_at 3 (some .int), Cond.methodLink RX0 63 yX3_work, Cond.instanceMethod yX3_work, Cond.selects RX3 yX3_work yX3_work, Cond.code yX3_work cX3_work 3 none, Cond.methodLink RX3 35 yX3_workOnOne, Cond.instanceMethod yX3_workOnOne, Cond.selects RX3 yX3_workOnOne yX3_workOnOne]
def wsX5_advise_r6 : List Cond := [Cond.code yX3_workOnOne cX3_workOnOne 6 none, Cond.methodLink RX3 39 yX2_takeOff, Cond.instanceMethod yX2_takeOff, Cond.selects RX2 yX2_takeOff yX2_takeOff, Cond.code yX2_takeOff cX2_takeOff 6 (some .int), Cond.methodLink RX3 45 yX3_nextFreeColumn, Cond.instanceMethod yX3_nextFreeColumn, Cond.selects RX3 yX3_nextFreeColumn yX3_nextFreeColumn, Cond.code yX3_nextFreeColumn cX3_nextFreeColumn 5 (some .int), Cond.methodLink RX3 53 yX3_hangAt, Cond.instanceMethod yX3_hangAt, Cond.selects RX3 yX3_hangAt yX3_hangAt, Cond.code yX3_hangAt cX3_hangAt 3 (some .boolean), Cond.methodLink RX3 49 yX3_rehang, Cond.methodLink RX5 73 yX3_hangAt]
def wsX5_advise : List Cond := .code yX5_advise cX5_advise 8 (some .int) :: ((wsX5_advise_r1 ++ (wsX5_advise_r2 ++ (wsX5_advise_r3 ++ (wsX5_advise_r4 ++ (wsX5_advise_r5 ++ wsX5_advise_r6))))) ++ wsX50 ++ wsX00 ++ wsX30 ++ wsX10 ++ wsX20 ++ wsX40 ++ (vx_atS RX5 44 "java/lang/IndexOutOfBoundsException" ["java/lang/RuntimeException", "java/lang/Exception"]).filter goodWord ++ (vx_atS RX5 53 "java/lang/IllegalStateException" ["java/lang/RuntimeException", "java/lang/Exception"]).filter goodWord)
def wsX5_mean : List Cond := .code yX5_mean cX5_mean 1 (some .double) :: ([.fieldLink RX5 26 "GlassRopes" "now" "LGlassRopes$Course;", .constantDouble RX5 193 (4636455816377925632), .methodLink RX5 172 yX2_total, .instanceMethod yX2_total, .selects RX2 yX2_total yX2_total, .initialized RX2, .code yX2_total cX2_total 3 (some .int), .fieldLink RX2 9 "GlassRopes$Glass" "soot" "[I"] ++ wsX50 ++ wsX00 ++ wsX20)
def wsX5_digest_r1 : List Cond := [Cond.constantLong RX5 195 (1823), Cond.constantLong RX5 197 (31), Cond.fieldLink RX5 12 "GlassRopes" "windows" "LGlassRopes$Windows;", Cond.fieldLink RX5 26 "GlassRopes" "now" "LGlassRopes$Course;", Cond.methodLink RX5 156 yX5_number, Cond.instanceMethod yX5_number, Cond.selects RX5 yX5_number yX5_number, Cond.initialized RX5, Cond.code yX5_number cX5_number 2 (some .int), Cond.fieldLink RX5 19 "GlassRopes" "feasts" "LGlassRopes$Feasts;", Cond.methodLink RX5 172 yX2_total, Cond.instanceMethod yX2_total, Cond.selects RX2 yX2_total yX2_total, Cond.initialized RX2, Cond.code yX2_total cX2_total 3 (some .int), Cond.fieldLink RX2 9 "GlassRopes$Glass" "soot" "[I", Cond.methodLink RX5 199 yX2_cleanPanes, Cond.instanceMethod yX2_cleanPanes, Cond.selects RX2 yX2_cleanPanes yX2_cleanPanes, Cond.code yX2_cleanPanes cX2_cleanPanes 3 (some .int), Cond.methodLink RX5 176 yX3_allCleaned, Cond.instanceMethod yX3_allCleaned, Cond.selects RX3 yX3_allCleaned yX3_allCleaned, Cond.initialized RX3]
def wsX5_digest_r2 : List Cond := [Cond.code yX3_allCleaned cX3_allCleaned 3 (some .int), Cond.fieldLink RX3 9 "GlassRopes$Ropes" "size" "I", Cond.fieldLink RX3 29 "GlassRopes$Ropes" "cleaned" "[I", Cond.methodLink RX5 205 yX4_allBring, Cond.instanceMethod yX4_allBring, Cond.selects RX4 yX4_allBring yX4_allBring, Cond.initialized RX4, Cond.code yX4_allBring cX4_allBring 4 (some .int), Cond.fieldLink RX4 9 "GlassRopes$Windows" "size" "I", Cond.methodLink RX4 38 yX4_brings, Cond.instanceMethod yX4_brings, Cond.selects RX4 yX4_brings yX4_brings, Cond.code yX4_brings cX4_brings 3 (some .int), Cond.fieldLink RX4 28 "GlassRopes$Windows" "worth" "[I", Cond.methodLink RX4 47 Lib.Math.max.name, Cond.static Lib.Math.max.name, Cond.initialized "java/lang/Math", Cond.code Lib.Math.max.name Lib.Math.max.code 2 (some .int), Cond.methodLink RX4 52 yX4_panes, Cond.instanceMethod yX4_panes, Cond.selects RX4 yX4_panes yX4_panes, Cond.code yX4_panes cX4_panes 2 (some .int), Cond.fieldLink RX4 22 "GlassRopes$Windows" "width" "[I", Cond.fieldLink RX4 25 "GlassRopes$Windows" "height" "[I"]
def wsX5_digest_r3 : List Cond := [Cond.methodLink RX4 31 yX4_added, Cond.instanceMethod yX4_added, Cond.selects RX4 yX4_added yX4_added, Cond.code yX4_added cX4_added 6 (some .int), Cond.fieldLink RX4 15 "GlassRopes$Windows" "x" "[I", Cond.fieldLink RX4 19 "GlassRopes$Windows" "y" "[I", Cond.methodLink RX4 41 yX2_at, Cond.instanceMethod yX2_at, Cond.selects RX2 yX2_at yX2_at, Cond.code yX2_at cX2_at 3 (some .int), Cond.methodLink RX5 146 yX4_number, Cond.instanceMethod yX4_number, Cond.selects RX4 yX4_number yX4_number, Cond.code yX4_number cX4_number 4 (some .int), Cond.methodLink RX4 35 yX4_darkest, Cond.instanceMethod yX4_darkest, Cond.selects RX4 yX4_darkest yX4_darkest, Cond.code yX4_darkest cX4_darkest 6 (some .int), Cond.methodLink RX5 152 yX3_number, Cond.instanceMethod yX3_number, Cond.selects RX3 yX3_number yX3_number, Cond.code yX3_number cX3_number 3 (some .int), Cond.fieldLink RX3 15 "GlassRopes$Ropes" "column" "[I", Cond.fieldLink RX3 19 "GlassRopes$Ropes" "row" "[I"]
def wsX5_digest_r4 : List Cond := [Cond.fieldLink RX3 22 "GlassRopes$Ropes" "strength" "[I", Cond.fieldLink RX3 25 "GlassRopes$Ropes" "toRight" "[Z", Cond.fieldLink RX3 32 "GlassRopes$Ropes" "moved" "[I", Cond.methodLink RX5 139 yX2_at]
def wsX5_digest : List Cond := .code yX5_digest cX5_digest 5 (some .long) :: ((wsX5_digest_r1 ++ (wsX5_digest_r2 ++ (wsX5_digest_r3 ++ wsX5_digest_r4))) ++ wsX50 ++ wsX40 ++ wsX00 ++ wsX30 ++ wsX10 ++ wsX20)
def wsX6_init : List Cond := .code yX6_init cX6_init 1 none :: ([.methodLink RX6 1 objectInit, .instanceMethod objectInit, .code objectInit ⟨#[0xb1]⟩ 1 none, .arrayClass .int, .fieldLink RX6 9 "GlassRopesModel" "told" "[I", .fieldLink RX6 13 "GlassRopesModel" "strengths" "[I", .fieldLink RX6 16 "GlassRopesModel" "every" "[I", .fieldLink RX6 19 "GlassRopesModel" "on" "[I", .fieldLink RX6 22 "GlassRopesModel" "now" "[I", .fieldLink RX6 25 "GlassRopesModel" "kept" "[I"] ++ wsX60)
def wsX6_thrown : List Cond := .code yX6_thrown cX6_thrown 1 (some .int) :: ([.fieldLink RX6 28 "GlassRopesModel" "thrown" "I"] ++ wsX60)
def wsX6_fail : List Cond := .code yX6_fail cX6_fail 2 (some .int) :: ([.fieldLink RX6 28 "GlassRopesModel" "thrown" "I"] ++ wsX60)
def wsX6_isIn : List Cond := .code yX6_isIn cX6_isIn 3 (some .boolean) :: ([])
def wsX6_isWindow : List Cond := .code yX6_isWindow cX6_isWindow 2 (some .boolean) :: ([.fieldLink RX6 32 "GlassRopesModel" "windows" "I", .methodLink RX6 35 yX6_isIn, .static yX6_isIn, .initialized RX6, .code yX6_isIn cX6_isIn 3 (some .boolean)] ++ wsX60)
def wsX6_isRope : List Cond := .code yX6_isRope cX6_isRope 2 (some .boolean) :: ([.fieldLink RX6 39 "GlassRopesModel" "ropes" "I", .methodLink RX6 35 yX6_isIn, .static yX6_isIn, .initialized RX6, .code yX6_isIn cX6_isIn 3 (some .boolean)] ++ wsX60)
def wsX6_wi : List Cond := .code yX6_wi cX6_wi 3 (some .int) :: ([.fieldLink RX6 9 "GlassRopesModel" "told" "[I"] ++ wsX60)
def wsX6_ro : List Cond := .code yX6_ro cX6_ro 3 (some .int) :: ([.fieldLink RX6 22 "GlassRopesModel" "now" "[I"] ++ wsX60)
def wsX6_let : List Cond := .code yX6_let cX6_let 4 none :: ([.fieldLink RX6 22 "GlassRopesModel" "now" "[I"] ++ wsX60)
def wsX6_pane : List Cond := .code yX6_pane cX6_pane 2 (some .int) :: ([])
def wsX6_isHung : List Cond := .code yX6_isHung cX6_isHung 3 (some .boolean) :: ([.fieldLink RX6 39 "GlassRopesModel" "ropes" "I", .methodLink RX6 42 yX6_ro, .instanceMethod yX6_ro, .selects RX6 yX6_ro yX6_ro, .initialized RX6, .code yX6_ro cX6_ro 3 (some .int), .fieldLink RX6 22 "GlassRopesModel" "now" "[I"] ++ wsX60)
def wsX6_isFeastOn : List Cond := .code yX6_isFeastOn cX6_isFeastOn 3 (some .boolean) :: ([.fieldLink RX6 46 "GlassRopesModel" "feasts" "I", .fieldLink RX6 16 "GlassRopesModel" "every" "[I", .fieldLink RX6 19 "GlassRopesModel" "on" "[I"] ++ wsX60)
def wsX6_keep : List Cond := .code yX6_keep cX6_keep 1 none :: ([.fieldLink RX6 22 "GlassRopesModel" "now" "[I", .fieldLink RX6 25 "GlassRopesModel" "kept" "[I", .methodLink RX6 49 arraycopyName, .native arraycopyName, .static arraycopyName, .initialized "java/lang/System"] ++ wsX60)
def wsX6_bringBack : List Cond := .code yX6_bringBack cX6_bringBack 1 none :: ([.fieldLink RX6 25 "GlassRopesModel" "kept" "[I", .fieldLink RX6 22 "GlassRopesModel" "now" "[I", .methodLink RX6 49 arraycopyName, .native arraycopyName, .static arraycopyName, .initialized "java/lang/System"] ++ wsX60)
def wsX6_window : List Cond := .code yX6_window cX6_window 7 (some .int) :: ([.fieldLink RX6 28 "GlassRopesModel" "thrown" "I", .fieldLink RX6 32 "GlassRopesModel" "windows" "I", .arrayClass .int, .fieldLink RX6 9 "GlassRopesModel" "told" "[I", .methodLink RX6 49 arraycopyName, .native arraycopyName, .static arraycopyName, .initialized "java/lang/System", .methodLink RX6 35 yX6_isIn, .static yX6_isIn, .initialized RX6, .code yX6_isIn cX6_isIn 3 (some .boolean), .methodLink RX6 55 yX6_fail, .instanceMethod yX6_fail, .selects RX6 yX6_fail yX6_fail, .code yX6_fail cX6_fail 2 (some .int)] ++ wsX60)
def wsX6_rope : List Cond := .code yX6_rope cX6_rope 4 (some .int) :: ([.fieldLink RX6 28 "GlassRopesModel" "thrown" "I", .fieldLink RX6 39 "GlassRopesModel" "ropes" "I", .fieldLink RX6 13 "GlassRopesModel" "strengths" "[I", .methodLink RX6 35 yX6_isIn, .static yX6_isIn, .initialized RX6, .code yX6_isIn cX6_isIn 3 (some .boolean), .methodLink RX6 55 yX6_fail, .instanceMethod yX6_fail, .selects RX6 yX6_fail yX6_fail, .code yX6_fail cX6_fail 2 (some .int), .methodLink RX6 59 yX6_isHung, .instanceMethod yX6_isHung, .selects RX6 yX6_isHung yX6_isHung, .code yX6_isHung cX6_isHung 3 (some .boolean), .methodLink RX6 42 yX6_ro, .instanceMethod yX6_ro, .selects RX6 yX6_ro yX6_ro, .code yX6_ro cX6_ro 3 (some .int), .fieldLink RX6 22 "GlassRopesModel" "now" "[I", .methodLink RX6 63 yX6_let, .instanceMethod yX6_let, .selects RX6 yX6_let yX6_let, .code yX6_let cX6_let 4 none] ++ wsX60)
def wsX6_feast : List Cond := .code yX6_feast cX6_feast 3 (some .int) :: ([.fieldLink RX6 28 "GlassRopesModel" "thrown" "I", .fieldLink RX6 46 "GlassRopesModel" "feasts" "I", .fieldLink RX6 16 "GlassRopesModel" "every" "[I", .fieldLink RX6 19 "GlassRopesModel" "on" "[I", .methodLink RX6 35 yX6_isIn, .static yX6_isIn, .initialized RX6, .code yX6_isIn cX6_isIn 3 (some .boolean), .methodLink RX6 55 yX6_fail, .instanceMethod yX6_fail, .selects RX6 yX6_fail yX6_fail, .code yX6_fail cX6_fail 2 (some .int)] ++ wsX60)
def wsX6_setWind : List Cond := .code yX6_setWind cX6_setWind 3 (some .int) :: ([.fieldLink RX6 28 "GlassRopesModel" "thrown" "I", .fieldLink RX6 22 "GlassRopesModel" "now" "[I", .methodLink RX6 35 yX6_isIn, .static yX6_isIn, .initialized RX6, .code yX6_isIn cX6_isIn 3 (some .boolean), .methodLink RX6 55 yX6_fail, .instanceMethod yX6_fail, .selects RX6 yX6_fail yX6_fail, .code yX6_fail cX6_fail 2 (some .int)] ++ wsX60)
def wsX6_hang : List Cond := .code yX6_hang cX6_hang 3 none :: ([.methodLink RX6 63 yX6_let, .instanceMethod yX6_let, .selects RX6 yX6_let yX6_let, .initialized RX6, .code yX6_let cX6_let 4 none, .fieldLink RX6 22 "GlassRopesModel" "now" "[I", .methodLink RX6 42 yX6_ro, .instanceMethod yX6_ro, .selects RX6 yX6_ro yX6_ro, .code yX6_ro cX6_ro 3 (some .int)] ++ wsX60)
def wsX6_move_r1 : List Cond := [Cond.fieldLink RX6 28 "GlassRopesModel" "thrown" "I", Cond.methodLink RX6 67 yX6_isRope, Cond.instanceMethod yX6_isRope, Cond.selects RX6 yX6_isRope yX6_isRope, Cond.initialized RX6, Cond.code yX6_isRope cX6_isRope 2 (some .boolean), Cond.fieldLink RX6 39 "GlassRopesModel" "ropes" "I", Cond.methodLink RX6 35 yX6_isIn, Cond.static yX6_isIn, Cond.code yX6_isIn cX6_isIn 3 (some .boolean), Cond.methodLink RX6 55 yX6_fail, Cond.instanceMethod yX6_fail, Cond.selects RX6 yX6_fail yX6_fail, Cond.code yX6_fail cX6_fail 2 (some .int), Cond.methodLink RX6 59 yX6_isHung, Cond.instanceMethod yX6_isHung, Cond.selects RX6 yX6_isHung yX6_isHung, Cond.code yX6_isHung cX6_isHung 3 (some .boolean), Cond.methodLink RX6 42 yX6_ro, Cond.instanceMethod yX6_ro, Cond.selects RX6 yX6_ro yX6_ro, Cond.code yX6_ro cX6_ro 3 (some .int), Cond.fieldLink RX6 22 "GlassRopesModel" "now" "[I", Cond.methodLink RX6 70 yX6_hang]
def wsX6_move_r2 : List Cond := [Cond.instanceMethod yX6_hang, Cond.selects RX6 yX6_hang yX6_hang, Cond.code yX6_hang cX6_hang 3 none, Cond.methodLink RX6 63 yX6_let, Cond.instanceMethod yX6_let, Cond.selects RX6 yX6_let yX6_let, Cond.code yX6_let cX6_let 4 none]
def wsX6_move : List Cond := .code yX6_move cX6_move 4 (some .int) :: ((wsX6_move_r1 ++ wsX6_move_r2) ++ wsX60)
def wsX6_turn : List Cond := .code yX6_turn cX6_turn 2 (some .boolean) :: ([.fieldLink RX6 28 "GlassRopesModel" "thrown" "I", .methodLink RX6 67 yX6_isRope, .instanceMethod yX6_isRope, .selects RX6 yX6_isRope yX6_isRope, .initialized RX6, .code yX6_isRope cX6_isRope 2 (some .boolean), .fieldLink RX6 39 "GlassRopesModel" "ropes" "I", .methodLink RX6 35 yX6_isIn, .static yX6_isIn, .code yX6_isIn cX6_isIn 3 (some .boolean), .methodLink RX6 42 yX6_ro, .instanceMethod yX6_ro, .selects RX6 yX6_ro yX6_ro, .code yX6_ro cX6_ro 3 (some .int), .fieldLink RX6 22 "GlassRopesModel" "now" "[I", .methodLink RX6 63 yX6_let, .instanceMethod yX6_let, .selects RX6 yX6_let yX6_let, .code yX6_let cX6_let 4 none] ++ wsX60)
def wsX6_wipe : List Cond := .code yX6_wipe cX6_wipe 5 (some .int) :: ([.fieldLink RX6 28 "GlassRopesModel" "thrown" "I", .fieldLink RX6 22 "GlassRopesModel" "now" "[I", .methodLink RX6 74 yX6_isWindow, .instanceMethod yX6_isWindow, .selects RX6 yX6_isWindow yX6_isWindow, .initialized RX6, .code yX6_isWindow cX6_isWindow 2 (some .boolean), .fieldLink RX6 32 "GlassRopesModel" "windows" "I", .methodLink RX6 35 yX6_isIn, .static yX6_isIn, .code yX6_isIn cX6_isIn 3 (some .boolean), .methodLink RX6 55 yX6_fail, .instanceMethod yX6_fail, .selects RX6 yX6_fail yX6_fail, .code yX6_fail cX6_fail 2 (some .int), .methodLink RX6 77 yX6_wi, .instanceMethod yX6_wi, .selects RX6 yX6_wi yX6_wi, .code yX6_wi cX6_wi 3 (some .int), .fieldLink RX6 9 "GlassRopesModel" "told" "[I", .methodLink RX6 80 yX6_pane, .static yX6_pane, .code yX6_pane cX6_pane 2 (some .int)] ++ wsX60)
def wsX6_blown : List Cond := .code yX6_blown cX6_blown 2 (some .int) :: ([.fieldLink RX6 22 "GlassRopesModel" "now" "[I", .methodLink RX6 83 Lib.Math.max.name, .static Lib.Math.max.name, .initialized "java/lang/Math", .code Lib.Math.max.name Lib.Math.max.code 2 (some .int)] ++ wsX60)
def wsX6_panes : List Cond := .code yX6_panes cX6_panes 2 (some .int) :: ([.methodLink RX6 77 yX6_wi, .instanceMethod yX6_wi, .selects RX6 yX6_wi yX6_wi, .initialized RX6, .code yX6_wi cX6_wi 3 (some .int), .fieldLink RX6 9 "GlassRopesModel" "told" "[I"] ++ wsX60)
def wsX6_sootOf : List Cond := .code yX6_sootOf cX6_sootOf 7 (some .int) :: ([.fieldLink RX6 22 "GlassRopesModel" "now" "[I", .methodLink RX6 83 Lib.Math.max.name, .static Lib.Math.max.name, .initialized "java/lang/Math", .code Lib.Math.max.name Lib.Math.max.code 2 (some .int), .methodLink RX6 77 yX6_wi, .instanceMethod yX6_wi, .selects RX6 yX6_wi yX6_wi, .initialized RX6, .code yX6_wi cX6_wi 3 (some .int), .fieldLink RX6 9 "GlassRopesModel" "told" "[I", .methodLink RX6 80 yX6_pane, .static yX6_pane, .code yX6_pane cX6_pane 2 (some .int)] ++ wsX60)
def wsX6_brings : List Cond := .code yX6_brings cX6_brings 2 (some .int) :: ([.methodLink RX6 83 Lib.Math.max.name, .static Lib.Math.max.name, .initialized "java/lang/Math", .code Lib.Math.max.name Lib.Math.max.code 2 (some .int), .methodLink RX6 77 yX6_wi, .instanceMethod yX6_wi, .selects RX6 yX6_wi yX6_wi, .initialized RX6, .code yX6_wi cX6_wi 3 (some .int), .fieldLink RX6 9 "GlassRopesModel" "told" "[I", .methodLink RX6 88 yX6_panes, .instanceMethod yX6_panes, .selects RX6 yX6_panes yX6_panes, .code yX6_panes cX6_panes 2 (some .int), .methodLink RX6 91 yX6_sootOf, .instanceMethod yX6_sootOf, .selects RX6 yX6_sootOf yX6_sootOf, .code yX6_sootOf cX6_sootOf 7 (some .int), .fieldLink RX6 22 "GlassRopesModel" "now" "[I", .methodLink RX6 80 yX6_pane, .static yX6_pane, .code yX6_pane cX6_pane 2 (some .int)] ++ wsX60)
def wsX6_allBring_r1 : List Cond := [Cond.fieldLink RX6 32 "GlassRopesModel" "windows" "I", Cond.methodLink RX6 95 yX6_brings, Cond.instanceMethod yX6_brings, Cond.selects RX6 yX6_brings yX6_brings, Cond.initialized RX6, Cond.code yX6_brings cX6_brings 2 (some .int), Cond.methodLink RX6 83 Lib.Math.max.name, Cond.static Lib.Math.max.name, Cond.initialized "java/lang/Math", Cond.code Lib.Math.max.name Lib.Math.max.code 2 (some .int), Cond.methodLink RX6 77 yX6_wi, Cond.instanceMethod yX6_wi, Cond.selects RX6 yX6_wi yX6_wi, Cond.code yX6_wi cX6_wi 3 (some .int), Cond.fieldLink RX6 9 "GlassRopesModel" "told" "[I", Cond.methodLink RX6 88 yX6_panes, Cond.instanceMethod yX6_panes, Cond.selects RX6 yX6_panes yX6_panes, Cond.code yX6_panes cX6_panes 2 (some .int), Cond.methodLink RX6 91 yX6_sootOf, Cond.instanceMethod yX6_sootOf, Cond.selects RX6 yX6_sootOf yX6_sootOf, Cond.code yX6_sootOf cX6_sootOf 7 (some .int), Cond.fieldLink RX6 22 "GlassRopesModel" "now" "[I"]
def wsX6_allBring_r2 : List Cond := [Cond.methodLink RX6 80 yX6_pane, Cond.static yX6_pane, Cond.code yX6_pane cX6_pane 2 (some .int)]
def wsX6_allBring : List Cond := .code yX6_allBring cX6_allBring 3 (some .int) :: ((wsX6_allBring_r1 ++ wsX6_allBring_r2) ++ wsX60)
def wsX6_moveOn : List Cond := .code yX6_moveOn cX6_moveOn 3 none :: ([.methodLink RX6 42 yX6_ro, .instanceMethod yX6_ro, .selects RX6 yX6_ro yX6_ro, .initialized RX6, .code yX6_ro cX6_ro 3 (some .int), .fieldLink RX6 22 "GlassRopesModel" "now" "[I", .methodLink RX6 59 yX6_isHung, .instanceMethod yX6_isHung, .selects RX6 yX6_isHung yX6_isHung, .code yX6_isHung cX6_isHung 3 (some .boolean), .fieldLink RX6 39 "GlassRopesModel" "ropes" "I", .methodLink RX6 70 yX6_hang, .instanceMethod yX6_hang, .selects RX6 yX6_hang yX6_hang, .code yX6_hang cX6_hang 3 none, .methodLink RX6 63 yX6_let, .instanceMethod yX6_let, .selects RX6 yX6_let yX6_let, .code yX6_let cX6_let 4 none] ++ wsX60)
def wsX6_work_r1 : List Cond := [Cond.fieldLink RX6 13 "GlassRopesModel" "strengths" "[I", Cond.fieldLink RX6 22 "GlassRopesModel" "now" "[I", Cond.methodLink RX6 98 Lib.Math.min.name, Cond.static Lib.Math.min.name, Cond.initialized "java/lang/Math", Cond.code Lib.Math.min.name Lib.Math.min.code 2 (some .int), Cond.methodLink RX6 42 yX6_ro, Cond.instanceMethod yX6_ro, Cond.selects RX6 yX6_ro yX6_ro, Cond.initialized RX6, Cond.code yX6_ro cX6_ro 3 (some .int), Cond.methodLink RX6 80 yX6_pane, Cond.static yX6_pane, Cond.code yX6_pane cX6_pane 2 (some .int), Cond.methodLink RX6 63 yX6_let, Cond.instanceMethod yX6_let, Cond.selects RX6 yX6_let yX6_let, Cond.code yX6_let cX6_let 4 none, Cond.methodLink RX6 101 yX6_moveOn, Cond.instanceMethod yX6_moveOn, Cond.selects RX6 yX6_moveOn yX6_moveOn, Cond.code yX6_moveOn cX6_moveOn 3 none, Cond.methodLink RX6 59 yX6_isHung, Cond.instanceMethod yX6_isHung]
def wsX6_work_r2 : List Cond := [Cond.selects RX6 yX6_isHung yX6_isHung, Cond.code yX6_isHung cX6_isHung 3 (some .boolean), Cond.fieldLink RX6 39 "GlassRopesModel" "ropes" "I", Cond.methodLink RX6 70 yX6_hang, Cond.instanceMethod yX6_hang, Cond.selects RX6 yX6_hang yX6_hang, Cond.code yX6_hang cX6_hang 3 none]
def wsX6_work : List Cond := .code yX6_work cX6_work 5 none :: ((wsX6_work_r1 ++ wsX6_work_r2) ++ wsX60)
def wsX6_dayOn_r1 : List Cond := [Cond.fieldLink RX6 22 "GlassRopesModel" "now" "[I", Cond.methodLink RX6 98 Lib.Math.min.name, Cond.static Lib.Math.min.name, Cond.initialized "java/lang/Math", Cond.code Lib.Math.min.name Lib.Math.min.code 2 (some .int), Cond.fieldLink RX6 39 "GlassRopesModel" "ropes" "I", Cond.methodLink RX6 105 yX6_blown, Cond.instanceMethod yX6_blown, Cond.selects RX6 yX6_blown yX6_blown, Cond.initialized RX6, Cond.code yX6_blown cX6_blown 2 (some .int), Cond.methodLink RX6 83 Lib.Math.max.name, Cond.static Lib.Math.max.name, Cond.code Lib.Math.max.name Lib.Math.max.code 2 (some .int), Cond.methodLink RX6 80 yX6_pane, Cond.static yX6_pane, Cond.code yX6_pane cX6_pane 2 (some .int), Cond.methodLink RX6 108 yX6_isFeastOn, Cond.instanceMethod yX6_isFeastOn, Cond.selects RX6 yX6_isFeastOn yX6_isFeastOn, Cond.code yX6_isFeastOn cX6_isFeastOn 3 (some .boolean), Cond.fieldLink RX6 46 "GlassRopesModel" "feasts" "I", Cond.fieldLink RX6 16 "GlassRopesModel" "every" "[I", Cond.fieldLink RX6 19 "GlassRopesModel" "on" "[I"]
def wsX6_dayOn_r2 : List Cond := [Cond.methodLink RX6 111 yX6_allBring, Cond.instanceMethod yX6_allBring, Cond.selects RX6 yX6_allBring yX6_allBring, Cond.code yX6_allBring cX6_allBring 3 (some .int), Cond.fieldLink RX6 32 "GlassRopesModel" "windows" "I", Cond.methodLink RX6 95 yX6_brings, Cond.instanceMethod yX6_brings, Cond.selects RX6 yX6_brings yX6_brings, Cond.code yX6_brings cX6_brings 2 (some .int), Cond.methodLink RX6 77 yX6_wi, Cond.instanceMethod yX6_wi, Cond.selects RX6 yX6_wi yX6_wi, Cond.code yX6_wi cX6_wi 3 (some .int), Cond.fieldLink RX6 9 "GlassRopesModel" "told" "[I", Cond.methodLink RX6 88 yX6_panes, Cond.instanceMethod yX6_panes, Cond.selects RX6 yX6_panes yX6_panes, Cond.code yX6_panes cX6_panes 2 (some .int), Cond.methodLink RX6 91 yX6_sootOf, Cond.instanceMethod yX6_sootOf, Cond.selects RX6 yX6_sootOf yX6_sootOf, Cond.code yX6_sootOf cX6_sootOf 7 (some .int), Cond.methodLink RX6 115 yX6_work, Cond.instanceMethod yX6_work]
def wsX6_dayOn_r3 : List Cond := [Cond.selects RX6 yX6_work yX6_work, Cond.code yX6_work cX6_work 5 none, Cond.fieldLink RX6 13 "GlassRopesModel" "strengths" "[I", Cond.methodLink RX6 42 yX6_ro, Cond.instanceMethod yX6_ro, Cond.selects RX6 yX6_ro yX6_ro, Cond.code yX6_ro cX6_ro 3 (some .int), Cond.methodLink RX6 63 yX6_let, Cond.instanceMethod yX6_let, Cond.selects RX6 yX6_let yX6_let, Cond.code yX6_let cX6_let 4 none, Cond.methodLink RX6 101 yX6_moveOn, Cond.instanceMethod yX6_moveOn, Cond.selects RX6 yX6_moveOn yX6_moveOn, Cond.code yX6_moveOn cX6_moveOn 3 none, Cond.methodLink RX6 59 yX6_isHung, Cond.instanceMethod yX6_isHung, Cond.selects RX6 yX6_isHung yX6_isHung, Cond.code yX6_isHung cX6_isHung 3 (some .boolean), Cond.methodLink RX6 70 yX6_hang, Cond.instanceMethod yX6_hang, Cond.selects RX6 yX6_hang yX6_hang, Cond.code yX6_hang cX6_hang 3 none]
def wsX6_dayOn : List Cond := .code yX6_dayOn cX6_dayOn 4 none :: ((wsX6_dayOn_r1 ++ (wsX6_dayOn_r2 ++ wsX6_dayOn_r3)) ++ wsX60)
def wsX6_daysOn_r1 : List Cond := [Cond.methodLink RX6 118 yX6_dayOn, Cond.instanceMethod yX6_dayOn, Cond.selects RX6 yX6_dayOn yX6_dayOn, Cond.initialized RX6, Cond.code yX6_dayOn cX6_dayOn 4 none, Cond.fieldLink RX6 22 "GlassRopesModel" "now" "[I", Cond.methodLink RX6 98 Lib.Math.min.name, Cond.static Lib.Math.min.name, Cond.initialized "java/lang/Math", Cond.code Lib.Math.min.name Lib.Math.min.code 2 (some .int), Cond.fieldLink RX6 39 "GlassRopesModel" "ropes" "I", Cond.methodLink RX6 105 yX6_blown, Cond.instanceMethod yX6_blown, Cond.selects RX6 yX6_blown yX6_blown, Cond.code yX6_blown cX6_blown 2 (some .int), Cond.methodLink RX6 83 Lib.Math.max.name, Cond.static Lib.Math.max.name, Cond.code Lib.Math.max.name Lib.Math.max.code 2 (some .int), Cond.methodLink RX6 80 yX6_pane, Cond.static yX6_pane, Cond.code yX6_pane cX6_pane 2 (some .int), Cond.methodLink RX6 108 yX6_isFeastOn, Cond.instanceMethod yX6_isFeastOn, Cond.selects RX6 yX6_isFeastOn yX6_isFeastOn]
def wsX6_daysOn_r2 : List Cond := [Cond.code yX6_isFeastOn cX6_isFeastOn 3 (some .boolean), Cond.fieldLink RX6 46 "GlassRopesModel" "feasts" "I", Cond.fieldLink RX6 16 "GlassRopesModel" "every" "[I", Cond.fieldLink RX6 19 "GlassRopesModel" "on" "[I", Cond.methodLink RX6 111 yX6_allBring, Cond.instanceMethod yX6_allBring, Cond.selects RX6 yX6_allBring yX6_allBring, Cond.code yX6_allBring cX6_allBring 3 (some .int), Cond.fieldLink RX6 32 "GlassRopesModel" "windows" "I", Cond.methodLink RX6 95 yX6_brings, Cond.instanceMethod yX6_brings, Cond.selects RX6 yX6_brings yX6_brings, Cond.code yX6_brings cX6_brings 2 (some .int), Cond.methodLink RX6 77 yX6_wi, Cond.instanceMethod yX6_wi, Cond.selects RX6 yX6_wi yX6_wi, Cond.code yX6_wi cX6_wi 3 (some .int), Cond.fieldLink RX6 9 "GlassRopesModel" "told" "[I", Cond.methodLink RX6 88 yX6_panes, Cond.instanceMethod yX6_panes, Cond.selects RX6 yX6_panes yX6_panes, Cond.code yX6_panes cX6_panes 2 (some .int), Cond.methodLink RX6 91 yX6_sootOf, Cond.instanceMethod yX6_sootOf]
def wsX6_daysOn_r3 : List Cond := [Cond.selects RX6 yX6_sootOf yX6_sootOf, Cond.code yX6_sootOf cX6_sootOf 7 (some .int), Cond.methodLink RX6 115 yX6_work, Cond.instanceMethod yX6_work, Cond.selects RX6 yX6_work yX6_work, Cond.code yX6_work cX6_work 5 none, Cond.fieldLink RX6 13 "GlassRopesModel" "strengths" "[I", Cond.methodLink RX6 42 yX6_ro, Cond.instanceMethod yX6_ro, Cond.selects RX6 yX6_ro yX6_ro, Cond.code yX6_ro cX6_ro 3 (some .int), Cond.methodLink RX6 63 yX6_let, Cond.instanceMethod yX6_let, Cond.selects RX6 yX6_let yX6_let, Cond.code yX6_let cX6_let 4 none, Cond.methodLink RX6 101 yX6_moveOn, Cond.instanceMethod yX6_moveOn, Cond.selects RX6 yX6_moveOn yX6_moveOn, Cond.code yX6_moveOn cX6_moveOn 3 none, Cond.methodLink RX6 59 yX6_isHung, Cond.instanceMethod yX6_isHung, Cond.selects RX6 yX6_isHung yX6_isHung, Cond.code yX6_isHung cX6_isHung 3 (some .boolean), Cond.methodLink RX6 70 yX6_hang]
def wsX6_daysOn_r4 : List Cond := [Cond.instanceMethod yX6_hang, Cond.selects RX6 yX6_hang yX6_hang, Cond.code yX6_hang cX6_hang 3 none]
def wsX6_daysOn : List Cond := .code yX6_daysOn cX6_daysOn 3 none :: ((wsX6_daysOn_r1 ++ (wsX6_daysOn_r2 ++ (wsX6_daysOn_r3 ++ wsX6_daysOn_r4))) ++ wsX60)
def wsX6_pass_r1 : List Cond := [Cond.fieldLink RX6 28 "GlassRopesModel" "thrown" "I", Cond.fieldLink RX6 22 "GlassRopesModel" "now" "[I", Cond.methodLink RX6 35 yX6_isIn, Cond.static yX6_isIn, Cond.initialized RX6, Cond.code yX6_isIn cX6_isIn 3 (some .boolean), Cond.methodLink RX6 55 yX6_fail, Cond.instanceMethod yX6_fail, Cond.selects RX6 yX6_fail yX6_fail, Cond.code yX6_fail cX6_fail 2 (some .int), Cond.methodLink RX6 121 yX6_daysOn, Cond.instanceMethod yX6_daysOn, Cond.selects RX6 yX6_daysOn yX6_daysOn, Cond.code yX6_daysOn cX6_daysOn 3 none, Cond.methodLink RX6 118 yX6_dayOn, Cond.instanceMethod yX6_dayOn, Cond.selects RX6 yX6_dayOn yX6_dayOn, Cond.code yX6_dayOn cX6_dayOn 4 none, Cond.methodLink RX6 98 Lib.Math.min.name, Cond.static Lib.Math.min.name, Cond.initialized "java/lang/Math", Cond.code Lib.Math.min.name Lib.Math.min.code 2 (some .int), Cond.fieldLink RX6 39 "GlassRopesModel" "ropes" "I", Cond.methodLink RX6 105 yX6_blown]
def wsX6_pass_r2 : List Cond := [Cond.instanceMethod yX6_blown, Cond.selects RX6 yX6_blown yX6_blown, Cond.code yX6_blown cX6_blown 2 (some .int), Cond.methodLink RX6 83 Lib.Math.max.name, Cond.static Lib.Math.max.name, Cond.code Lib.Math.max.name Lib.Math.max.code 2 (some .int), Cond.methodLink RX6 80 yX6_pane, Cond.static yX6_pane, Cond.code yX6_pane cX6_pane 2 (some .int), Cond.methodLink RX6 108 yX6_isFeastOn, Cond.instanceMethod yX6_isFeastOn, Cond.selects RX6 yX6_isFeastOn yX6_isFeastOn, Cond.code yX6_isFeastOn cX6_isFeastOn 3 (some .boolean), Cond.fieldLink RX6 46 "GlassRopesModel" "feasts" "I", Cond.fieldLink RX6 16 "GlassRopesModel" "every" "[I", Cond.fieldLink RX6 19 "GlassRopesModel" "on" "[I", Cond.methodLink RX6 111 yX6_allBring, Cond.instanceMethod yX6_allBring, Cond.selects RX6 yX6_allBring yX6_allBring, Cond.code yX6_allBring cX6_allBring 3 (some .int), Cond.fieldLink RX6 32 "GlassRopesModel" "windows" "I", Cond.methodLink RX6 95 yX6_brings, Cond.instanceMethod yX6_brings, Cond.selects RX6 yX6_brings yX6_brings]
def wsX6_pass_r3 : List Cond := [Cond.code yX6_brings cX6_brings 2 (some .int), Cond.methodLink RX6 77 yX6_wi, Cond.instanceMethod yX6_wi, Cond.selects RX6 yX6_wi yX6_wi, Cond.code yX6_wi cX6_wi 3 (some .int), Cond.fieldLink RX6 9 "GlassRopesModel" "told" "[I", Cond.methodLink RX6 88 yX6_panes, Cond.instanceMethod yX6_panes, Cond.selects RX6 yX6_panes yX6_panes, Cond.code yX6_panes cX6_panes 2 (some .int), Cond.methodLink RX6 91 yX6_sootOf, Cond.instanceMethod yX6_sootOf, Cond.selects RX6 yX6_sootOf yX6_sootOf, Cond.code yX6_sootOf cX6_sootOf 7 (some .int), Cond.methodLink RX6 115 yX6_work, Cond.instanceMethod yX6_work, Cond.selects RX6 yX6_work yX6_work, Cond.code yX6_work cX6_work 5 none, Cond.fieldLink RX6 13 "GlassRopesModel" "strengths" "[I", Cond.methodLink RX6 42 yX6_ro, Cond.instanceMethod yX6_ro, Cond.selects RX6 yX6_ro yX6_ro, Cond.code yX6_ro cX6_ro 3 (some .int), Cond.methodLink RX6 63 yX6_let]
def wsX6_pass_r4 : List Cond := [Cond.instanceMethod yX6_let, Cond.selects RX6 yX6_let yX6_let, Cond.code yX6_let cX6_let 4 none, Cond.methodLink RX6 101 yX6_moveOn, Cond.instanceMethod yX6_moveOn, Cond.selects RX6 yX6_moveOn yX6_moveOn, Cond.code yX6_moveOn cX6_moveOn 3 none, Cond.methodLink RX6 59 yX6_isHung, Cond.instanceMethod yX6_isHung, Cond.selects RX6 yX6_isHung yX6_isHung, Cond.code yX6_isHung cX6_isHung 3 (some .boolean), Cond.methodLink RX6 70 yX6_hang, Cond.instanceMethod yX6_hang, Cond.selects RX6 yX6_hang yX6_hang, Cond.code yX6_hang cX6_hang 3 none]
def wsX6_pass : List Cond := .code yX6_pass cX6_pass 3 (some .int) :: ((wsX6_pass_r1 ++ (wsX6_pass_r2 ++ (wsX6_pass_r3 ++ wsX6_pass_r4))) ++ wsX60)
def wsX6_soot : List Cond := .code yX6_soot cX6_soot 3 (some .int) :: ([.fieldLink RX6 28 "GlassRopesModel" "thrown" "I", .fieldLink RX6 22 "GlassRopesModel" "now" "[I", .methodLink RX6 35 yX6_isIn, .static yX6_isIn, .initialized RX6, .code yX6_isIn cX6_isIn 3 (some .boolean), .methodLink RX6 80 yX6_pane, .static yX6_pane, .code yX6_pane cX6_pane 2 (some .int), .methodLink RX6 55 yX6_fail, .instanceMethod yX6_fail, .selects RX6 yX6_fail yX6_fail, .code yX6_fail cX6_fail 2 (some .int)] ++ wsX60)
def wsX6_windowTold_r1 : List Cond := [Cond.methodLink RX6 91 yX6_sootOf, Cond.instanceMethod yX6_sootOf, Cond.selects RX6 yX6_sootOf yX6_sootOf, Cond.initialized RX6, Cond.code yX6_sootOf cX6_sootOf 7 (some .int), Cond.fieldLink RX6 22 "GlassRopesModel" "now" "[I", Cond.methodLink RX6 83 Lib.Math.max.name, Cond.static Lib.Math.max.name, Cond.initialized "java/lang/Math", Cond.code Lib.Math.max.name Lib.Math.max.code 2 (some .int), Cond.methodLink RX6 77 yX6_wi, Cond.instanceMethod yX6_wi, Cond.selects RX6 yX6_wi yX6_wi, Cond.code yX6_wi cX6_wi 3 (some .int), Cond.fieldLink RX6 9 "GlassRopesModel" "told" "[I", Cond.methodLink RX6 80 yX6_pane, Cond.static yX6_pane, Cond.code yX6_pane cX6_pane 2 (some .int), Cond.methodLink RX6 95 yX6_brings, Cond.instanceMethod yX6_brings, Cond.selects RX6 yX6_brings yX6_brings, Cond.code yX6_brings cX6_brings 2 (some .int), Cond.methodLink RX6 88 yX6_panes, Cond.instanceMethod yX6_panes]
def wsX6_windowTold_r2 : List Cond := [Cond.selects RX6 yX6_panes yX6_panes, Cond.code yX6_panes cX6_panes 2 (some .int)]
def wsX6_windowTold : List Cond := .code yX6_windowTold cX6_windowTold 3 (some .int) :: ((wsX6_windowTold_r1 ++ wsX6_windowTold_r2) ++ wsX60)
def wsX6_about_r1 : List Cond := [Cond.fieldLink RX6 28 "GlassRopesModel" "thrown" "I", Cond.methodLink RX6 74 yX6_isWindow, Cond.instanceMethod yX6_isWindow, Cond.selects RX6 yX6_isWindow yX6_isWindow, Cond.initialized RX6, Cond.code yX6_isWindow cX6_isWindow 2 (some .boolean), Cond.fieldLink RX6 32 "GlassRopesModel" "windows" "I", Cond.methodLink RX6 35 yX6_isIn, Cond.static yX6_isIn, Cond.code yX6_isIn cX6_isIn 3 (some .boolean), Cond.methodLink RX6 124 yX6_windowTold, Cond.instanceMethod yX6_windowTold, Cond.selects RX6 yX6_windowTold yX6_windowTold, Cond.code yX6_windowTold cX6_windowTold 3 (some .int), Cond.methodLink RX6 91 yX6_sootOf, Cond.instanceMethod yX6_sootOf, Cond.selects RX6 yX6_sootOf yX6_sootOf, Cond.code yX6_sootOf cX6_sootOf 7 (some .int), Cond.fieldLink RX6 22 "GlassRopesModel" "now" "[I", Cond.methodLink RX6 83 Lib.Math.max.name, Cond.static Lib.Math.max.name, Cond.initialized "java/lang/Math", Cond.code Lib.Math.max.name Lib.Math.max.code 2 (some .int), Cond.methodLink RX6 77 yX6_wi]
def wsX6_about_r2 : List Cond := [Cond.instanceMethod yX6_wi, Cond.selects RX6 yX6_wi yX6_wi, Cond.code yX6_wi cX6_wi 3 (some .int), Cond.fieldLink RX6 9 "GlassRopesModel" "told" "[I", Cond.methodLink RX6 80 yX6_pane, Cond.static yX6_pane, Cond.code yX6_pane cX6_pane 2 (some .int), Cond.methodLink RX6 95 yX6_brings, Cond.instanceMethod yX6_brings, Cond.selects RX6 yX6_brings yX6_brings, Cond.code yX6_brings cX6_brings 2 (some .int), Cond.methodLink RX6 88 yX6_panes, Cond.instanceMethod yX6_panes, Cond.selects RX6 yX6_panes yX6_panes, Cond.code yX6_panes cX6_panes 2 (some .int), Cond.methodLink RX6 55 yX6_fail, Cond.instanceMethod yX6_fail, Cond.selects RX6 yX6_fail yX6_fail, Cond.code yX6_fail cX6_fail 2 (some .int)]
def wsX6_about : List Cond := .code yX6_about cX6_about 3 (some .int) :: ((wsX6_about_r1 ++ wsX6_about_r2) ++ wsX60)
def wsX6_ropeTold : List Cond := .code yX6_ropeTold cX6_ropeTold 3 (some .int) :: ([.fieldLink RX6 13 "GlassRopesModel" "strengths" "[I", .methodLink RX6 42 yX6_ro, .instanceMethod yX6_ro, .selects RX6 yX6_ro yX6_ro, .initialized RX6, .code yX6_ro cX6_ro 3 (some .int), .fieldLink RX6 22 "GlassRopesModel" "now" "[I"] ++ wsX60)
def wsX6_told : List Cond := .code yX6_told cX6_told 3 (some .int) :: ([.fieldLink RX6 28 "GlassRopesModel" "thrown" "I", .methodLink RX6 67 yX6_isRope, .instanceMethod yX6_isRope, .selects RX6 yX6_isRope yX6_isRope, .initialized RX6, .code yX6_isRope cX6_isRope 2 (some .boolean), .fieldLink RX6 39 "GlassRopesModel" "ropes" "I", .methodLink RX6 35 yX6_isIn, .static yX6_isIn, .code yX6_isIn cX6_isIn 3 (some .boolean), .methodLink RX6 127 yX6_ropeTold, .instanceMethod yX6_ropeTold, .selects RX6 yX6_ropeTold yX6_ropeTold, .code yX6_ropeTold cX6_ropeTold 3 (some .int), .fieldLink RX6 13 "GlassRopesModel" "strengths" "[I", .methodLink RX6 42 yX6_ro, .instanceMethod yX6_ro, .selects RX6 yX6_ro yX6_ro, .code yX6_ro cX6_ro 3 (some .int), .fieldLink RX6 22 "GlassRopesModel" "now" "[I", .methodLink RX6 55 yX6_fail, .instanceMethod yX6_fail, .selects RX6 yX6_fail yX6_fail, .code yX6_fail cX6_fail 2 (some .int)] ++ wsX60)
def wsX6_allSoot : List Cond := .code yX6_allSoot cX6_allSoot 3 (some .int) :: ([.fieldLink RX6 22 "GlassRopesModel" "now" "[I"] ++ wsX60)
def wsX6_cleaned : List Cond := .code yX6_cleaned cX6_cleaned 3 (some .int) :: ([.fieldLink RX6 39 "GlassRopesModel" "ropes" "I", .methodLink RX6 42 yX6_ro, .instanceMethod yX6_ro, .selects RX6 yX6_ro yX6_ro, .initialized RX6, .code yX6_ro cX6_ro 3 (some .int), .fieldLink RX6 22 "GlassRopesModel" "now" "[I"] ++ wsX60)
def wsX6_counted_r1 : List Cond := [Cond.fieldLink RX6 22 "GlassRopesModel" "now" "[I", Cond.fieldLink RX6 32 "GlassRopesModel" "windows" "I", Cond.fieldLink RX6 39 "GlassRopesModel" "ropes" "I", Cond.fieldLink RX6 46 "GlassRopesModel" "feasts" "I", Cond.methodLink RX6 130 yX6_allSoot, Cond.instanceMethod yX6_allSoot, Cond.selects RX6 yX6_allSoot yX6_allSoot, Cond.initialized RX6, Cond.code yX6_allSoot cX6_allSoot 3 (some .int), Cond.methodLink RX6 133 yX6_cleaned, Cond.instanceMethod yX6_cleaned, Cond.selects RX6 yX6_cleaned yX6_cleaned, Cond.code yX6_cleaned cX6_cleaned 3 (some .int), Cond.methodLink RX6 42 yX6_ro, Cond.instanceMethod yX6_ro, Cond.selects RX6 yX6_ro yX6_ro, Cond.code yX6_ro cX6_ro 3 (some .int), Cond.methodLink RX6 111 yX6_allBring, Cond.instanceMethod yX6_allBring, Cond.selects RX6 yX6_allBring yX6_allBring, Cond.code yX6_allBring cX6_allBring 3 (some .int), Cond.methodLink RX6 95 yX6_brings, Cond.instanceMethod yX6_brings, Cond.selects RX6 yX6_brings yX6_brings]
def wsX6_counted_r2 : List Cond := [Cond.code yX6_brings cX6_brings 2 (some .int), Cond.methodLink RX6 83 Lib.Math.max.name, Cond.static Lib.Math.max.name, Cond.initialized "java/lang/Math", Cond.code Lib.Math.max.name Lib.Math.max.code 2 (some .int), Cond.methodLink RX6 77 yX6_wi, Cond.instanceMethod yX6_wi, Cond.selects RX6 yX6_wi yX6_wi, Cond.code yX6_wi cX6_wi 3 (some .int), Cond.fieldLink RX6 9 "GlassRopesModel" "told" "[I", Cond.methodLink RX6 88 yX6_panes, Cond.instanceMethod yX6_panes, Cond.selects RX6 yX6_panes yX6_panes, Cond.code yX6_panes cX6_panes 2 (some .int), Cond.methodLink RX6 91 yX6_sootOf, Cond.instanceMethod yX6_sootOf, Cond.selects RX6 yX6_sootOf yX6_sootOf, Cond.code yX6_sootOf cX6_sootOf 7 (some .int), Cond.methodLink RX6 80 yX6_pane, Cond.static yX6_pane, Cond.code yX6_pane cX6_pane 2 (some .int)]
def wsX6_counted : List Cond := .code yX6_counted cX6_counted 4 (some .int) :: ((wsX6_counted_r1 ++ wsX6_counted_r2) ++ wsX60)
def wsX6_count_r1 : List Cond := [Cond.fieldLink RX6 28 "GlassRopesModel" "thrown" "I", Cond.methodLink RX6 35 yX6_isIn, Cond.static yX6_isIn, Cond.initialized RX6, Cond.code yX6_isIn cX6_isIn 3 (some .boolean), Cond.methodLink RX6 136 yX6_counted, Cond.instanceMethod yX6_counted, Cond.selects RX6 yX6_counted yX6_counted, Cond.code yX6_counted cX6_counted 4 (some .int), Cond.fieldLink RX6 22 "GlassRopesModel" "now" "[I", Cond.fieldLink RX6 32 "GlassRopesModel" "windows" "I", Cond.fieldLink RX6 39 "GlassRopesModel" "ropes" "I", Cond.fieldLink RX6 46 "GlassRopesModel" "feasts" "I", Cond.methodLink RX6 130 yX6_allSoot, Cond.instanceMethod yX6_allSoot, Cond.selects RX6 yX6_allSoot yX6_allSoot, Cond.code yX6_allSoot cX6_allSoot 3 (some .int), Cond.methodLink RX6 133 yX6_cleaned, Cond.instanceMethod yX6_cleaned, Cond.selects RX6 yX6_cleaned yX6_cleaned, Cond.code yX6_cleaned cX6_cleaned 3 (some .int), Cond.methodLink RX6 42 yX6_ro, Cond.instanceMethod yX6_ro, Cond.selects RX6 yX6_ro yX6_ro]
def wsX6_count_r2 : List Cond := [Cond.code yX6_ro cX6_ro 3 (some .int), Cond.methodLink RX6 111 yX6_allBring, Cond.instanceMethod yX6_allBring, Cond.selects RX6 yX6_allBring yX6_allBring, Cond.code yX6_allBring cX6_allBring 3 (some .int), Cond.methodLink RX6 95 yX6_brings, Cond.instanceMethod yX6_brings, Cond.selects RX6 yX6_brings yX6_brings, Cond.code yX6_brings cX6_brings 2 (some .int), Cond.methodLink RX6 83 Lib.Math.max.name, Cond.static Lib.Math.max.name, Cond.initialized "java/lang/Math", Cond.code Lib.Math.max.name Lib.Math.max.code 2 (some .int), Cond.methodLink RX6 77 yX6_wi, Cond.instanceMethod yX6_wi, Cond.selects RX6 yX6_wi yX6_wi, Cond.code yX6_wi cX6_wi 3 (some .int), Cond.fieldLink RX6 9 "GlassRopesModel" "told" "[I", Cond.methodLink RX6 88 yX6_panes, Cond.instanceMethod yX6_panes, Cond.selects RX6 yX6_panes yX6_panes, Cond.code yX6_panes cX6_panes 2 (some .int), Cond.methodLink RX6 91 yX6_sootOf, Cond.instanceMethod yX6_sootOf]
def wsX6_count_r3 : List Cond := [Cond.selects RX6 yX6_sootOf yX6_sootOf, Cond.code yX6_sootOf cX6_sootOf 7 (some .int), Cond.methodLink RX6 80 yX6_pane, Cond.static yX6_pane, Cond.code yX6_pane cX6_pane 2 (some .int), Cond.methodLink RX6 55 yX6_fail, Cond.instanceMethod yX6_fail, Cond.selects RX6 yX6_fail yX6_fail, Cond.code yX6_fail cX6_fail 2 (some .int)]
def wsX6_count : List Cond := .code yX6_count cX6_count 2 (some .int) :: ((wsX6_count_r1 ++ (wsX6_count_r2 ++ wsX6_count_r3)) ++ wsX60)
def wsX6_isFeast : List Cond := .code yX6_isFeast cX6_isFeast 2 (some .boolean) :: ([.fieldLink RX6 28 "GlassRopesModel" "thrown" "I", .fieldLink RX6 22 "GlassRopesModel" "now" "[I", .methodLink RX6 35 yX6_isIn, .static yX6_isIn, .initialized RX6, .code yX6_isIn cX6_isIn 3 (some .boolean), .methodLink RX6 108 yX6_isFeastOn, .instanceMethod yX6_isFeastOn, .selects RX6 yX6_isFeastOn yX6_isFeastOn, .code yX6_isFeastOn cX6_isFeastOn 3 (some .boolean), .fieldLink RX6 46 "GlassRopesModel" "feasts" "I", .fieldLink RX6 16 "GlassRopesModel" "every" "[I", .fieldLink RX6 19 "GlassRopesModel" "on" "[I"] ++ wsX60)
def wsX6_nextFeast : List Cond := .code yX6_nextFeast cX6_nextFeast 2 (some .int) :: ([.fieldLink RX6 22 "GlassRopesModel" "now" "[I", .methodLink RX6 108 yX6_isFeastOn, .instanceMethod yX6_isFeastOn, .selects RX6 yX6_isFeastOn yX6_isFeastOn, .initialized RX6, .code yX6_isFeastOn cX6_isFeastOn 3 (some .boolean), .fieldLink RX6 46 "GlassRopesModel" "feasts" "I", .fieldLink RX6 16 "GlassRopesModel" "every" "[I", .fieldLink RX6 19 "GlassRopesModel" "on" "[I"] ++ wsX60)
def wsX6_next : List Cond := .code yX6_next cX6_next 1 (some .int) :: ([.fieldLink RX6 28 "GlassRopesModel" "thrown" "I", .methodLink RX6 139 yX6_nextFeast, .instanceMethod yX6_nextFeast, .selects RX6 yX6_nextFeast yX6_nextFeast, .initialized RX6, .code yX6_nextFeast cX6_nextFeast 2 (some .int), .fieldLink RX6 22 "GlassRopesModel" "now" "[I", .methodLink RX6 108 yX6_isFeastOn, .instanceMethod yX6_isFeastOn, .selects RX6 yX6_isFeastOn yX6_isFeastOn, .code yX6_isFeastOn cX6_isFeastOn 3 (some .boolean), .fieldLink RX6 46 "GlassRopesModel" "feasts" "I", .fieldLink RX6 16 "GlassRopesModel" "every" "[I", .fieldLink RX6 19 "GlassRopesModel" "on" "[I"] ++ wsX60)
def wsX6_would_r1 : List Cond := [Cond.fieldLink RX6 28 "GlassRopesModel" "thrown" "I", Cond.fieldLink RX6 22 "GlassRopesModel" "now" "[I", Cond.methodLink RX6 35 yX6_isIn, Cond.static yX6_isIn, Cond.initialized RX6, Cond.code yX6_isIn cX6_isIn 3 (some .boolean), Cond.methodLink RX6 55 yX6_fail, Cond.instanceMethod yX6_fail, Cond.selects RX6 yX6_fail yX6_fail, Cond.code yX6_fail cX6_fail 2 (some .int), Cond.methodLink RX6 142 yX6_keep, Cond.instanceMethod yX6_keep, Cond.selects RX6 yX6_keep yX6_keep, Cond.code yX6_keep cX6_keep 1 none, Cond.fieldLink RX6 25 "GlassRopesModel" "kept" "[I", Cond.methodLink RX6 49 arraycopyName, Cond.native arraycopyName, Cond.static arraycopyName, Cond.initialized "java/lang/System", Cond.methodLink RX6 121 yX6_daysOn, Cond.instanceMethod yX6_daysOn, Cond.selects RX6 yX6_daysOn yX6_daysOn, Cond.code yX6_daysOn cX6_daysOn 3 none, Cond.methodLink RX6 118 yX6_dayOn]
def wsX6_would_r2 : List Cond := [Cond.instanceMethod yX6_dayOn, Cond.selects RX6 yX6_dayOn yX6_dayOn, Cond.code yX6_dayOn cX6_dayOn 4 none, Cond.methodLink RX6 98 Lib.Math.min.name, Cond.static Lib.Math.min.name, Cond.initialized "java/lang/Math", Cond.code Lib.Math.min.name Lib.Math.min.code 2 (some .int), Cond.fieldLink RX6 39 "GlassRopesModel" "ropes" "I", Cond.methodLink RX6 105 yX6_blown, Cond.instanceMethod yX6_blown, Cond.selects RX6 yX6_blown yX6_blown, Cond.code yX6_blown cX6_blown 2 (some .int), Cond.methodLink RX6 83 Lib.Math.max.name, Cond.static Lib.Math.max.name, Cond.code Lib.Math.max.name Lib.Math.max.code 2 (some .int), Cond.methodLink RX6 80 yX6_pane, Cond.static yX6_pane, Cond.code yX6_pane cX6_pane 2 (some .int), Cond.methodLink RX6 108 yX6_isFeastOn, Cond.instanceMethod yX6_isFeastOn, Cond.selects RX6 yX6_isFeastOn yX6_isFeastOn, Cond.code yX6_isFeastOn cX6_isFeastOn 3 (some .boolean), Cond.fieldLink RX6 46 "GlassRopesModel" "feasts" "I", Cond.fieldLink RX6 16 "GlassRopesModel" "every" "[I"]
def wsX6_would_r3 : List Cond := [Cond.fieldLink RX6 19 "GlassRopesModel" "on" "[I", Cond.methodLink RX6 111 yX6_allBring, Cond.instanceMethod yX6_allBring, Cond.selects RX6 yX6_allBring yX6_allBring, Cond.code yX6_allBring cX6_allBring 3 (some .int), Cond.fieldLink RX6 32 "GlassRopesModel" "windows" "I", Cond.methodLink RX6 95 yX6_brings, Cond.instanceMethod yX6_brings, Cond.selects RX6 yX6_brings yX6_brings, Cond.code yX6_brings cX6_brings 2 (some .int), Cond.methodLink RX6 77 yX6_wi, Cond.instanceMethod yX6_wi, Cond.selects RX6 yX6_wi yX6_wi, Cond.code yX6_wi cX6_wi 3 (some .int), Cond.fieldLink RX6 9 "GlassRopesModel" "told" "[I", Cond.methodLink RX6 88 yX6_panes, Cond.instanceMethod yX6_panes, Cond.selects RX6 yX6_panes yX6_panes, Cond.code yX6_panes cX6_panes 2 (some .int), Cond.methodLink RX6 91 yX6_sootOf, Cond.instanceMethod yX6_sootOf, Cond.selects RX6 yX6_sootOf yX6_sootOf, Cond.code yX6_sootOf cX6_sootOf 7 (some .int), Cond.methodLink RX6 115 yX6_work]
def wsX6_would_r4 : List Cond := [Cond.instanceMethod yX6_work, Cond.selects RX6 yX6_work yX6_work, Cond.code yX6_work cX6_work 5 none, Cond.fieldLink RX6 13 "GlassRopesModel" "strengths" "[I", Cond.methodLink RX6 42 yX6_ro, Cond.instanceMethod yX6_ro, Cond.selects RX6 yX6_ro yX6_ro, Cond.code yX6_ro cX6_ro 3 (some .int), Cond.methodLink RX6 63 yX6_let, Cond.instanceMethod yX6_let, Cond.selects RX6 yX6_let yX6_let, Cond.code yX6_let cX6_let 4 none, Cond.methodLink RX6 101 yX6_moveOn, Cond.instanceMethod yX6_moveOn, Cond.selects RX6 yX6_moveOn yX6_moveOn, Cond.code yX6_moveOn cX6_moveOn 3 none, Cond.methodLink RX6 59 yX6_isHung, Cond.instanceMethod yX6_isHung, Cond.selects RX6 yX6_isHung yX6_isHung, Cond.code yX6_isHung cX6_isHung 3 (some .boolean), Cond.methodLink RX6 70 yX6_hang, Cond.instanceMethod yX6_hang, Cond.selects RX6 yX6_hang yX6_hang, Cond.code yX6_hang cX6_hang 3 none]
def wsX6_would_r5 : List Cond := [Cond.methodLink RX6 130 yX6_allSoot, Cond.instanceMethod yX6_allSoot, Cond.selects RX6 yX6_allSoot yX6_allSoot, Cond.code yX6_allSoot cX6_allSoot 3 (some .int), Cond.methodLink RX6 133 yX6_cleaned, Cond.instanceMethod yX6_cleaned, Cond.selects RX6 yX6_cleaned yX6_cleaned, Cond.code yX6_cleaned cX6_cleaned 3 (some .int), Cond.methodLink RX6 145 yX6_bringBack, Cond.instanceMethod yX6_bringBack, Cond.selects RX6 yX6_bringBack yX6_bringBack, Cond.code yX6_bringBack cX6_bringBack 1 none]
def wsX6_would : List Cond := .code yX6_would cX6_would 4 (some .int) :: ((wsX6_would_r1 ++ (wsX6_would_r2 ++ (wsX6_would_r3 ++ (wsX6_would_r4 ++ wsX6_would_r5)))) ++ wsX60)
def wsX6_until_r1 : List Cond := [Cond.fieldLink RX6 28 "GlassRopesModel" "thrown" "I", Cond.methodLink RX6 74 yX6_isWindow, Cond.instanceMethod yX6_isWindow, Cond.selects RX6 yX6_isWindow yX6_isWindow, Cond.initialized RX6, Cond.code yX6_isWindow cX6_isWindow 2 (some .boolean), Cond.fieldLink RX6 32 "GlassRopesModel" "windows" "I", Cond.methodLink RX6 35 yX6_isIn, Cond.static yX6_isIn, Cond.code yX6_isIn cX6_isIn 3 (some .boolean), Cond.methodLink RX6 55 yX6_fail, Cond.instanceMethod yX6_fail, Cond.selects RX6 yX6_fail yX6_fail, Cond.code yX6_fail cX6_fail 2 (some .int), Cond.methodLink RX6 142 yX6_keep, Cond.instanceMethod yX6_keep, Cond.selects RX6 yX6_keep yX6_keep, Cond.code yX6_keep cX6_keep 1 none, Cond.fieldLink RX6 22 "GlassRopesModel" "now" "[I", Cond.fieldLink RX6 25 "GlassRopesModel" "kept" "[I", Cond.methodLink RX6 49 arraycopyName, Cond.native arraycopyName, Cond.static arraycopyName, Cond.initialized "java/lang/System"]
def wsX6_until_r2 : List Cond := [Cond.methodLink RX6 91 yX6_sootOf, Cond.instanceMethod yX6_sootOf, Cond.selects RX6 yX6_sootOf yX6_sootOf, Cond.code yX6_sootOf cX6_sootOf 7 (some .int), Cond.methodLink RX6 83 Lib.Math.max.name, Cond.static Lib.Math.max.name, Cond.initialized "java/lang/Math", Cond.code Lib.Math.max.name Lib.Math.max.code 2 (some .int), Cond.methodLink RX6 77 yX6_wi, Cond.instanceMethod yX6_wi, Cond.selects RX6 yX6_wi yX6_wi, Cond.code yX6_wi cX6_wi 3 (some .int), Cond.fieldLink RX6 9 "GlassRopesModel" "told" "[I", Cond.methodLink RX6 80 yX6_pane, Cond.static yX6_pane, Cond.code yX6_pane cX6_pane 2 (some .int), Cond.methodLink RX6 88 yX6_panes, Cond.instanceMethod yX6_panes, Cond.selects RX6 yX6_panes yX6_panes, Cond.code yX6_panes cX6_panes 2 (some .int), Cond.methodLink RX6 118 yX6_dayOn, Cond.instanceMethod yX6_dayOn, Cond.selects RX6 yX6_dayOn yX6_dayOn, Cond.code yX6_dayOn cX6_dayOn 4 none]
def wsX6_until_r3 : List Cond := [Cond.methodLink RX6 98 Lib.Math.min.name, Cond.static Lib.Math.min.name, Cond.code Lib.Math.min.name Lib.Math.min.code 2 (some .int), Cond.fieldLink RX6 39 "GlassRopesModel" "ropes" "I", Cond.methodLink RX6 105 yX6_blown, Cond.instanceMethod yX6_blown, Cond.selects RX6 yX6_blown yX6_blown, Cond.code yX6_blown cX6_blown 2 (some .int), Cond.methodLink RX6 108 yX6_isFeastOn, Cond.instanceMethod yX6_isFeastOn, Cond.selects RX6 yX6_isFeastOn yX6_isFeastOn, Cond.code yX6_isFeastOn cX6_isFeastOn 3 (some .boolean), Cond.fieldLink RX6 46 "GlassRopesModel" "feasts" "I", Cond.fieldLink RX6 16 "GlassRopesModel" "every" "[I", Cond.fieldLink RX6 19 "GlassRopesModel" "on" "[I", Cond.methodLink RX6 111 yX6_allBring, Cond.instanceMethod yX6_allBring, Cond.selects RX6 yX6_allBring yX6_allBring, Cond.code yX6_allBring cX6_allBring 3 (some .int), Cond.methodLink RX6 95 yX6_brings, Cond.instanceMethod yX6_brings, Cond.selects RX6 yX6_brings yX6_brings, Cond.code yX6_brings cX6_brings 2 (some .int), Cond.methodLink RX6 115 yX6_work]
def wsX6_until_r4 : List Cond := [Cond.instanceMethod yX6_work, Cond.selects RX6 yX6_work yX6_work, Cond.code yX6_work cX6_work 5 none, Cond.fieldLink RX6 13 "GlassRopesModel" "strengths" "[I", Cond.methodLink RX6 42 yX6_ro, Cond.instanceMethod yX6_ro, Cond.selects RX6 yX6_ro yX6_ro, Cond.code yX6_ro cX6_ro 3 (some .int), Cond.methodLink RX6 63 yX6_let, Cond.instanceMethod yX6_let, Cond.selects RX6 yX6_let yX6_let, Cond.code yX6_let cX6_let 4 none, Cond.methodLink RX6 101 yX6_moveOn, Cond.instanceMethod yX6_moveOn, Cond.selects RX6 yX6_moveOn yX6_moveOn, Cond.code yX6_moveOn cX6_moveOn 3 none, Cond.methodLink RX6 59 yX6_isHung, Cond.instanceMethod yX6_isHung, Cond.selects RX6 yX6_isHung yX6_isHung, Cond.code yX6_isHung cX6_isHung 3 (some .boolean), Cond.methodLink RX6 70 yX6_hang, Cond.instanceMethod yX6_hang, Cond.selects RX6 yX6_hang yX6_hang, Cond.code yX6_hang cX6_hang 3 none]
def wsX6_until_r5 : List Cond := [Cond.methodLink RX6 145 yX6_bringBack, Cond.instanceMethod yX6_bringBack, Cond.selects RX6 yX6_bringBack yX6_bringBack, Cond.code yX6_bringBack cX6_bringBack 1 none]
def wsX6_until : List Cond := .code yX6_until cX6_until 3 (some .int) :: ((wsX6_until_r1 ++ (wsX6_until_r2 ++ (wsX6_until_r3 ++ (wsX6_until_r4 ++ wsX6_until_r5)))) ++ wsX60)
def wsX6_advise_r1 : List Cond := [Cond.fieldLink RX6 28 "GlassRopesModel" "thrown" "I", Cond.fieldLink RX6 22 "GlassRopesModel" "now" "[I", Cond.methodLink RX6 67 yX6_isRope, Cond.instanceMethod yX6_isRope, Cond.selects RX6 yX6_isRope yX6_isRope, Cond.initialized RX6, Cond.code yX6_isRope cX6_isRope 2 (some .boolean), Cond.fieldLink RX6 39 "GlassRopesModel" "ropes" "I", Cond.methodLink RX6 35 yX6_isIn, Cond.static yX6_isIn, Cond.code yX6_isIn cX6_isIn 3 (some .boolean), Cond.methodLink RX6 55 yX6_fail, Cond.instanceMethod yX6_fail, Cond.selects RX6 yX6_fail yX6_fail, Cond.code yX6_fail cX6_fail 2 (some .int), Cond.methodLink RX6 139 yX6_nextFeast, Cond.instanceMethod yX6_nextFeast, Cond.selects RX6 yX6_nextFeast yX6_nextFeast, Cond.code yX6_nextFeast cX6_nextFeast 2 (some .int), Cond.methodLink RX6 108 yX6_isFeastOn, Cond.instanceMethod yX6_isFeastOn, Cond.selects RX6 yX6_isFeastOn yX6_isFeastOn, Cond.code yX6_isFeastOn cX6_isFeastOn 3 (some .boolean), Cond.fieldLink RX6 46 "GlassRopesModel" "feasts" "I"]
def wsX6_advise_r2 : List Cond := [Cond.fieldLink RX6 16 "GlassRopesModel" "every" "[I", Cond.fieldLink RX6 19 "GlassRopesModel" "on" "[I", Cond.methodLink RX6 142 yX6_keep, Cond.instanceMethod yX6_keep, Cond.selects RX6 yX6_keep yX6_keep, Cond.code yX6_keep cX6_keep 1 none, Cond.fieldLink RX6 25 "GlassRopesModel" "kept" "[I", Cond.methodLink RX6 49 arraycopyName, Cond.native arraycopyName, Cond.static arraycopyName, Cond.initialized "java/lang/System", Cond.methodLink RX6 42 yX6_ro, Cond.instanceMethod yX6_ro, Cond.selects RX6 yX6_ro yX6_ro, Cond.code yX6_ro cX6_ro 3 (some .int), Cond.methodLink RX6 59 yX6_isHung, Cond.instanceMethod yX6_isHung, Cond.selects RX6 yX6_isHung yX6_isHung, Cond.code yX6_isHung cX6_isHung 3 (some .boolean), Cond.methodLink RX6 70 yX6_hang, Cond.instanceMethod yX6_hang, Cond.selects RX6 yX6_hang yX6_hang, Cond.code yX6_hang cX6_hang 3 none, Cond.methodLink RX6 63 yX6_let]
def wsX6_advise_r3 : List Cond := [Cond.instanceMethod yX6_let, Cond.selects RX6 yX6_let yX6_let, Cond.code yX6_let cX6_let 4 none, Cond.methodLink RX6 121 yX6_daysOn, Cond.instanceMethod yX6_daysOn, Cond.selects RX6 yX6_daysOn yX6_daysOn, Cond.code yX6_daysOn cX6_daysOn 3 none, Cond.methodLink RX6 118 yX6_dayOn, Cond.instanceMethod yX6_dayOn, Cond.selects RX6 yX6_dayOn yX6_dayOn, Cond.code yX6_dayOn cX6_dayOn 4 none, Cond.methodLink RX6 98 Lib.Math.min.name, Cond.static Lib.Math.min.name, Cond.initialized "java/lang/Math", Cond.code Lib.Math.min.name Lib.Math.min.code 2 (some .int), Cond.methodLink RX6 105 yX6_blown, Cond.instanceMethod yX6_blown, Cond.selects RX6 yX6_blown yX6_blown, Cond.code yX6_blown cX6_blown 2 (some .int), Cond.methodLink RX6 83 Lib.Math.max.name, Cond.static Lib.Math.max.name, Cond.code Lib.Math.max.name Lib.Math.max.code 2 (some .int), Cond.methodLink RX6 80 yX6_pane, Cond.static yX6_pane]
def wsX6_advise_r4 : List Cond := [Cond.code yX6_pane cX6_pane 2 (some .int), Cond.methodLink RX6 111 yX6_allBring, Cond.instanceMethod yX6_allBring, Cond.selects RX6 yX6_allBring yX6_allBring, Cond.code yX6_allBring cX6_allBring 3 (some .int), Cond.fieldLink RX6 32 "GlassRopesModel" "windows" "I", Cond.methodLink RX6 95 yX6_brings, Cond.instanceMethod yX6_brings, Cond.selects RX6 yX6_brings yX6_brings, Cond.code yX6_brings cX6_brings 2 (some .int), Cond.methodLink RX6 77 yX6_wi, Cond.instanceMethod yX6_wi, Cond.selects RX6 yX6_wi yX6_wi, Cond.code yX6_wi cX6_wi 3 (some .int), Cond.fieldLink RX6 9 "GlassRopesModel" "told" "[I", Cond.methodLink RX6 88 yX6_panes, Cond.instanceMethod yX6_panes, Cond.selects RX6 yX6_panes yX6_panes, Cond.code yX6_panes cX6_panes 2 (some .int), Cond.methodLink RX6 91 yX6_sootOf, Cond.instanceMethod yX6_sootOf, Cond.selects RX6 yX6_sootOf yX6_sootOf, Cond.code yX6_sootOf cX6_sootOf 7 (some .int), Cond.methodLink RX6 115 yX6_work]
def wsX6_advise_r5 : List Cond := [Cond.instanceMethod yX6_work, Cond.selects RX6 yX6_work yX6_work, Cond.code yX6_work cX6_work 5 none, Cond.fieldLink RX6 13 "GlassRopesModel" "strengths" "[I", Cond.methodLink RX6 101 yX6_moveOn, Cond.instanceMethod yX6_moveOn, Cond.selects RX6 yX6_moveOn yX6_moveOn, Cond.code yX6_moveOn cX6_moveOn 3 none, Cond.methodLink RX6 145 yX6_bringBack, Cond.instanceMethod yX6_bringBack, Cond.selects RX6 yX6_bringBack yX6_bringBack, Cond.code yX6_bringBack cX6_bringBack 1 none]
def wsX6_advise : List Cond := .code yX6_advise cX6_advise 7 (some .int) :: ((wsX6_advise_r1 ++ (wsX6_advise_r2 ++ (wsX6_advise_r3 ++ (wsX6_advise_r4 ++ wsX6_advise_r5)))) ++ wsX60)
def wsX6_mean : List Cond := .code yX6_mean cX6_mean 1 (some .double) :: ([.fieldLink RX6 28 "GlassRopesModel" "thrown" "I", .constantDouble RX6 148 (4636455816377925632), .methodLink RX6 130 yX6_allSoot, .instanceMethod yX6_allSoot, .selects RX6 yX6_allSoot yX6_allSoot, .initialized RX6, .code yX6_allSoot cX6_allSoot 3 (some .int), .fieldLink RX6 22 "GlassRopesModel" "now" "[I"] ++ wsX60)
def wsX6_digest_r1 : List Cond := [Cond.fieldLink RX6 28 "GlassRopesModel" "thrown" "I", Cond.constantLong RX6 150 (1823), Cond.constantLong RX6 152 (31), Cond.fieldLink RX6 32 "GlassRopesModel" "windows" "I", Cond.fieldLink RX6 39 "GlassRopesModel" "ropes" "I", Cond.fieldLink RX6 22 "GlassRopesModel" "now" "[I", Cond.methodLink RX6 136 yX6_counted, Cond.instanceMethod yX6_counted, Cond.selects RX6 yX6_counted yX6_counted, Cond.initialized RX6, Cond.code yX6_counted cX6_counted 4 (some .int), Cond.fieldLink RX6 46 "GlassRopesModel" "feasts" "I", Cond.methodLink RX6 130 yX6_allSoot, Cond.instanceMethod yX6_allSoot, Cond.selects RX6 yX6_allSoot yX6_allSoot, Cond.code yX6_allSoot cX6_allSoot 3 (some .int), Cond.methodLink RX6 133 yX6_cleaned, Cond.instanceMethod yX6_cleaned, Cond.selects RX6 yX6_cleaned yX6_cleaned, Cond.code yX6_cleaned cX6_cleaned 3 (some .int), Cond.methodLink RX6 42 yX6_ro, Cond.instanceMethod yX6_ro, Cond.selects RX6 yX6_ro yX6_ro, Cond.code yX6_ro cX6_ro 3 (some .int)]
def wsX6_digest_r2 : List Cond := [Cond.methodLink RX6 111 yX6_allBring, Cond.instanceMethod yX6_allBring, Cond.selects RX6 yX6_allBring yX6_allBring, Cond.code yX6_allBring cX6_allBring 3 (some .int), Cond.methodLink RX6 95 yX6_brings, Cond.instanceMethod yX6_brings, Cond.selects RX6 yX6_brings yX6_brings, Cond.code yX6_brings cX6_brings 2 (some .int), Cond.methodLink RX6 83 Lib.Math.max.name, Cond.static Lib.Math.max.name, Cond.initialized "java/lang/Math", Cond.code Lib.Math.max.name Lib.Math.max.code 2 (some .int), Cond.methodLink RX6 77 yX6_wi, Cond.instanceMethod yX6_wi, Cond.selects RX6 yX6_wi yX6_wi, Cond.code yX6_wi cX6_wi 3 (some .int), Cond.fieldLink RX6 9 "GlassRopesModel" "told" "[I", Cond.methodLink RX6 88 yX6_panes, Cond.instanceMethod yX6_panes, Cond.selects RX6 yX6_panes yX6_panes, Cond.code yX6_panes cX6_panes 2 (some .int), Cond.methodLink RX6 91 yX6_sootOf, Cond.instanceMethod yX6_sootOf, Cond.selects RX6 yX6_sootOf yX6_sootOf]
def wsX6_digest_r3 : List Cond := [Cond.code yX6_sootOf cX6_sootOf 7 (some .int), Cond.methodLink RX6 80 yX6_pane, Cond.static yX6_pane, Cond.code yX6_pane cX6_pane 2 (some .int), Cond.methodLink RX6 124 yX6_windowTold, Cond.instanceMethod yX6_windowTold, Cond.selects RX6 yX6_windowTold yX6_windowTold, Cond.code yX6_windowTold cX6_windowTold 3 (some .int), Cond.methodLink RX6 127 yX6_ropeTold, Cond.instanceMethod yX6_ropeTold, Cond.selects RX6 yX6_ropeTold yX6_ropeTold, Cond.code yX6_ropeTold cX6_ropeTold 3 (some .int), Cond.fieldLink RX6 13 "GlassRopesModel" "strengths" "[I"]
def wsX6_digest : List Cond := .code yX6_digest cX6_digest 5 (some .long) :: ((wsX6_digest_r1 ++ (wsX6_digest_r2 ++ wsX6_digest_r3)) ++ wsX60)
def wsJ9_max_7cf53 : List Cond := .code yJ9_max_7cf53 cJ9_max_7cf53 2 (some .int) :: ([])
def wsJ9_min_7cf53 : List Cond := .code yJ9_min_7cf53 cJ9_min_7cf53 2 (some .int) :: ([])
def wsL_window_r1 : List Cond := [Cond.classLink RL 13 "java/lang/IllegalArgumentException", Cond.classLink RL 15 "java/lang/IndexOutOfBoundsException", Cond.classLink RL 17 "java/lang/IllegalStateException", Cond.methodLink RL 7 yX5_window, Cond.instanceMethod yX5_window, Cond.selects RX5 yX5_window yX5_window, Cond.initialized RX5, Cond.code yX5_window cX5_window 6 (some .int), Cond.classLink RX5 33 "java/lang/IllegalArgumentException", Cond.initialized "java/lang/IllegalArgumentException", Cond.classLink RX5 40 "java/lang/IndexOutOfBoundsException", Cond.initialized "java/lang/IndexOutOfBoundsException", Cond.classLink RX5 49 "java/lang/IllegalStateException", Cond.initialized "java/lang/IllegalStateException", Cond.fieldLink RX5 12 "GlassRopes" "windows" "LGlassRopes$Windows;", Cond.methodLink RX5 54 yX4_put, Cond.instanceMethod yX4_put, Cond.selects RX4 yX4_put yX4_put, Cond.initialized RX4, Cond.code yX4_put cX4_put 6 (some .int), Cond.fieldLink RX4 15 "GlassRopes$Windows" "x" "[I", Cond.fieldLink RX4 9 "GlassRopes$Windows" "size" "I", Cond.fieldLink RX4 19 "GlassRopes$Windows" "y" "[I", Cond.fieldLink RX4 22 "GlassRopes$Windows" "width" "[I"]
def wsL_window_r2 : List Cond := [Cond.fieldLink RX4 25 "GlassRopes$Windows" "height" "[I", Cond.fieldLink RX4 28 "GlassRopes$Windows" "worth" "[I"]
def wsL_window : List Cond := .codeWith yL_window cL_window 8 (some .int) [(0, 16, 19, 13), (0, 16, 23, 15), (0, 16, 27, 17)] :: ((wsL_window_r1 ++ wsL_window_r2) ++ wsX50 ++ wsX40 ++ (vx_atS RX5 37 "java/lang/IllegalArgumentException" ["java/lang/RuntimeException", "java/lang/Exception"]).filter goodWord ++ (vx_atS RX5 44 "java/lang/IndexOutOfBoundsException" ["java/lang/RuntimeException", "java/lang/Exception"]).filter goodWord ++ (vx_atS RX5 53 "java/lang/IllegalStateException" ["java/lang/RuntimeException", "java/lang/Exception"]).filter goodWord)
def wsL_rope_r1 : List Cond := [Cond.classLink RL 15 "java/lang/IndexOutOfBoundsException", Cond.classLink RL 13 "java/lang/IllegalArgumentException", Cond.classLink RL 17 "java/lang/IllegalStateException", Cond.methodLink RL 19 yX5_rope, Cond.instanceMethod yX5_rope, Cond.selects RX5 yX5_rope yX5_rope, Cond.initialized RX5, Cond.code yX5_rope cX5_rope 4 (some .int), Cond.classLink RX5 40 "java/lang/IndexOutOfBoundsException", Cond.initialized "java/lang/IndexOutOfBoundsException", Cond.classLink RX5 33 "java/lang/IllegalArgumentException", Cond.initialized "java/lang/IllegalArgumentException", Cond.classLink RX5 49 "java/lang/IllegalStateException", Cond.initialized "java/lang/IllegalStateException", Cond.fieldLink RX5 26 "GlassRopes" "now" "LGlassRopes$Course;", Cond.methodLink RX5 58 yX5_isColumn, Cond.static yX5_isColumn, Cond.code yX5_isColumn cX5_isColumn 1 (some .boolean), Cond.methodLink RX5 73 yX3_hangAt, Cond.instanceMethod yX3_hangAt, Cond.selects RX3 yX3_hangAt yX3_hangAt, Cond.initialized RX3, Cond.code yX3_hangAt cX3_hangAt 3 (some .boolean), Cond.fieldLink RX3 9 "GlassRopes$Ropes" "size" "I"]
def wsL_rope_r2 : List Cond := [Cond.fieldLink RX3 15 "GlassRopes$Ropes" "column" "[I", Cond.methodLink RX5 78 yX3_put, Cond.instanceMethod yX3_put, Cond.selects RX3 yX3_put yX3_put, Cond.code yX3_put cX3_put 4 (some .int), Cond.fieldLink RX3 22 "GlassRopes$Ropes" "strength" "[I", Cond.fieldLink RX3 25 "GlassRopes$Ropes" "toRight" "[Z"]
def wsL_rope : List Cond := .codeWith yL_rope cL_rope 6 (some .int) [(0, 12, 15, 15), (0, 12, 19, 13), (0, 12, 23, 17)] :: ((wsL_rope_r1 ++ wsL_rope_r2) ++ wsX50 ++ wsX00 ++ wsX30 ++ (vx_atS RX5 44 "java/lang/IndexOutOfBoundsException" ["java/lang/RuntimeException", "java/lang/Exception"]).filter goodWord ++ (vx_atS RX5 37 "java/lang/IllegalArgumentException" ["java/lang/RuntimeException", "java/lang/Exception"]).filter goodWord ++ (vx_atS RX5 53 "java/lang/IllegalStateException" ["java/lang/RuntimeException", "java/lang/Exception"]).filter goodWord)
def wsL_feast : List Cond := .codeWith yL_feast cL_feast 5 (some .int) [(0, 10, 13, 13), (0, 10, 17, 17)] :: ([.classLink RL 13 "java/lang/IllegalArgumentException", .classLink RL 17 "java/lang/IllegalStateException", .methodLink RL 23 yX5_feast, .instanceMethod yX5_feast, .selects RX5 yX5_feast yX5_feast, .initialized RX5, .code yX5_feast cX5_feast 3 (some .int), .classLink RX5 33 "java/lang/IllegalArgumentException", .initialized "java/lang/IllegalArgumentException", .classLink RX5 49 "java/lang/IllegalStateException", .initialized "java/lang/IllegalStateException", .fieldLink RX5 19 "GlassRopes" "feasts" "LGlassRopes$Feasts;", .methodLink RX5 86 yX1_put, .instanceMethod yX1_put, .selects RX1 yX1_put yX1_put, .initialized RX1, .code yX1_put cX1_put 3 (some .int), .fieldLink RX1 15 "GlassRopes$Feasts" "every" "[I", .fieldLink RX1 9 "GlassRopes$Feasts" "size" "I", .fieldLink RX1 19 "GlassRopes$Feasts" "on" "[I"] ++ wsX50 ++ wsX10 ++ (vx_atS RX5 37 "java/lang/IllegalArgumentException" ["java/lang/RuntimeException", "java/lang/Exception"]).filter goodWord ++ (vx_atS RX5 53 "java/lang/IllegalStateException" ["java/lang/RuntimeException", "java/lang/Exception"]).filter goodWord)
def wsL_setWind : List Cond := .codeWith yL_setWind cL_setWind 4 (some .int) [(0, 9, 12, 13)] :: ([.classLink RL 13 "java/lang/IllegalArgumentException", .methodLink RL 27 yX5_setWind, .instanceMethod yX5_setWind, .selects RX5 yX5_setWind yX5_setWind, .initialized RX5, .code yX5_setWind cX5_setWind 3 (some .int), .classLink RX5 33 "java/lang/IllegalArgumentException", .initialized "java/lang/IllegalArgumentException", .fieldLink RX5 26 "GlassRopes" "now" "LGlassRopes$Course;"] ++ wsX50 ++ wsX00 ++ (vx_atS RX5 37 "java/lang/IllegalArgumentException" ["java/lang/RuntimeException", "java/lang/Exception"]).filter goodWord)
def wsL_move_r1 : List Cond := [Cond.classLink RL 15 "java/lang/IndexOutOfBoundsException", Cond.classLink RL 17 "java/lang/IllegalStateException", Cond.methodLink RL 31 yX5_move, Cond.instanceMethod yX5_move, Cond.selects RX5 yX5_move yX5_move, Cond.initialized RX5, Cond.code yX5_move cX5_move 4 (some .int), Cond.classLink RX5 40 "java/lang/IndexOutOfBoundsException", Cond.initialized "java/lang/IndexOutOfBoundsException", Cond.classLink RX5 49 "java/lang/IllegalStateException", Cond.initialized "java/lang/IllegalStateException", Cond.fieldLink RX5 26 "GlassRopes" "now" "LGlassRopes$Course;", Cond.methodLink RX5 94 yX5_isRope, Cond.instanceMethod yX5_isRope, Cond.selects RX5 yX5_isRope yX5_isRope, Cond.code yX5_isRope cX5_isRope 2 (some .boolean), Cond.methodLink RX5 58 yX5_isColumn, Cond.static yX5_isColumn, Cond.code yX5_isColumn cX5_isColumn 1 (some .boolean), Cond.methodLink RX5 73 yX3_hangAt, Cond.instanceMethod yX3_hangAt, Cond.selects RX3 yX3_hangAt yX3_hangAt, Cond.initialized RX3, Cond.code yX3_hangAt cX3_hangAt 3 (some .boolean)]
def wsL_move_r2 : List Cond := [Cond.fieldLink RX3 9 "GlassRopes$Ropes" "size" "I", Cond.fieldLink RX3 15 "GlassRopes$Ropes" "column" "[I", Cond.methodLink RX5 105 yX3_rehang, Cond.instanceMethod yX3_rehang, Cond.selects RX3 yX3_rehang yX3_rehang, Cond.code yX3_rehang cX3_rehang 3 none, Cond.fieldLink RX3 19 "GlassRopes$Ropes" "row" "[I", Cond.fieldLink RX3 32 "GlassRopes$Ropes" "moved" "[I"]
def wsL_move : List Cond := .codeWith yL_move cL_move 5 (some .int) [(0, 10, 13, 15), (0, 10, 17, 17)] :: ((wsL_move_r1 ++ wsL_move_r2) ++ wsX50 ++ wsX00 ++ wsX30 ++ (vx_atS RX5 44 "java/lang/IndexOutOfBoundsException" ["java/lang/RuntimeException", "java/lang/Exception"]).filter goodWord ++ (vx_atS RX5 53 "java/lang/IllegalStateException" ["java/lang/RuntimeException", "java/lang/Exception"]).filter goodWord)
def wsL_turn : List Cond := .codeWith yL_turn cL_turn 4 (some .int) [(0, 16, 19, 15)] :: ([.classLink RL 15 "java/lang/IndexOutOfBoundsException", .methodLink RL 34 yX5_turn, .instanceMethod yX5_turn, .selects RX5 yX5_turn yX5_turn, .initialized RX5, .code yX5_turn cX5_turn 2 (some .boolean), .classLink RX5 40 "java/lang/IndexOutOfBoundsException", .initialized "java/lang/IndexOutOfBoundsException", .fieldLink RX5 26 "GlassRopes" "now" "LGlassRopes$Course;", .methodLink RX5 94 yX5_isRope, .instanceMethod yX5_isRope, .selects RX5 yX5_isRope yX5_isRope, .code yX5_isRope cX5_isRope 2 (some .boolean)] ++ wsX50 ++ wsX00 ++ wsX30 ++ (vx_atS RX5 44 "java/lang/IndexOutOfBoundsException" ["java/lang/RuntimeException", "java/lang/Exception"]).filter goodWord)
def wsL_wipe_r1 : List Cond := [Cond.classLink RL 15 "java/lang/IndexOutOfBoundsException", Cond.methodLink RL 38 yX5_wipe, Cond.instanceMethod yX5_wipe, Cond.selects RX5 yX5_wipe yX5_wipe, Cond.initialized RX5, Cond.code yX5_wipe cX5_wipe 2 (some .int), Cond.classLink RX5 40 "java/lang/IndexOutOfBoundsException", Cond.initialized "java/lang/IndexOutOfBoundsException", Cond.fieldLink RX5 12 "GlassRopes" "windows" "LGlassRopes$Windows;", Cond.fieldLink RX5 26 "GlassRopes" "now" "LGlassRopes$Course;", Cond.methodLink RX5 115 yX5_isWindow, Cond.instanceMethod yX5_isWindow, Cond.selects RX5 yX5_isWindow yX5_isWindow, Cond.code yX5_isWindow cX5_isWindow 2 (some .boolean), Cond.methodLink RX5 124 yX4_wipeOff, Cond.instanceMethod yX4_wipeOff, Cond.selects RX4 yX4_wipeOff yX4_wipeOff, Cond.initialized RX4, Cond.code yX4_wipeOff cX4_wipeOff 6 (some .int), Cond.fieldLink RX4 15 "GlassRopes$Windows" "x" "[I", Cond.fieldLink RX4 22 "GlassRopes$Windows" "width" "[I", Cond.fieldLink RX4 19 "GlassRopes$Windows" "y" "[I", Cond.fieldLink RX4 25 "GlassRopes$Windows" "height" "[I", Cond.methodLink RX4 56 yX2_takeOff]
def wsL_wipe_r2 : List Cond := [Cond.instanceMethod yX2_takeOff, Cond.selects RX2 yX2_takeOff yX2_takeOff, Cond.initialized RX2, Cond.code yX2_takeOff cX2_takeOff 6 (some .int), Cond.fieldLink RX2 9 "GlassRopes$Glass" "soot" "[I", Cond.methodLink RX2 25 Lib.Math.min.name, Cond.static Lib.Math.min.name, Cond.initialized "java/lang/Math", Cond.code Lib.Math.min.name Lib.Math.min.code 2 (some .int)]
def wsL_wipe : List Cond := .codeWith yL_wipe cL_wipe 4 (some .int) [(0, 9, 12, 15)] :: ((wsL_wipe_r1 ++ wsL_wipe_r2) ++ wsX50 ++ wsX00 ++ wsX40 ++ wsX20 ++ (vx_atS RX5 44 "java/lang/IndexOutOfBoundsException" ["java/lang/RuntimeException", "java/lang/Exception"]).filter goodWord)
def wsL_pass_r1 : List Cond := [Cond.classLink RL 13 "java/lang/IllegalArgumentException", Cond.methodLink RL 41 yX5_pass, Cond.instanceMethod yX5_pass, Cond.selects RX5 yX5_pass yX5_pass, Cond.initialized RX5, Cond.code yX5_pass cX5_pass 3 (some .int), Cond.classLink RX5 33 "java/lang/IllegalArgumentException", Cond.initialized "java/lang/IllegalArgumentException", Cond.fieldLink RX5 26 "GlassRopes" "now" "LGlassRopes$Course;", Cond.fieldLink RX5 12 "GlassRopes" "windows" "LGlassRopes$Windows;", Cond.fieldLink RX5 19 "GlassRopes" "feasts" "LGlassRopes$Feasts;", Cond.methodLink RX5 133 yX0_goOn, Cond.instanceMethod yX0_goOn, Cond.selects RX0 yX0_goOn yX0_goOn, Cond.initialized RX0, Cond.code yX0_goOn cX0_goOn 5 none, Cond.methodLink RX0 43 yX0_goOneDay, Cond.instanceMethod yX0_goOneDay, Cond.selects RX0 yX0_goOneDay yX0_goOneDay, Cond.code yX0_goOneDay cX0_goOneDay 3 none, Cond.fieldLink RX0 10 "GlassRopes$Course" "glass" "LGlassRopes$Glass;", Cond.fieldLink RX0 23 "GlassRopes$Course" "wind" "I", Cond.fieldLink RX0 27 "GlassRopes$Course" "day" "I", Cond.fieldLink RX0 30 "GlassRopes$Course" "coins" "I"]
def wsL_pass_r2 : List Cond := [Cond.fieldLink RX0 33 "GlassRopes$Course" "feastDays" "I", Cond.fieldLink RX0 19 "GlassRopes$Course" "ropes" "LGlassRopes$Ropes;", Cond.methodLink RX0 47 yX2_gather, Cond.instanceMethod yX2_gather, Cond.selects RX2 yX2_gather yX2_gather, Cond.initialized RX2, Cond.code yX2_gather cX2_gather 6 none, Cond.fieldLink RX2 9 "GlassRopes$Glass" "soot" "[I", Cond.methodLink RX2 25 Lib.Math.min.name, Cond.static Lib.Math.min.name, Cond.initialized "java/lang/Math", Cond.code Lib.Math.min.name Lib.Math.min.code 2 (some .int), Cond.methodLink RX2 21 yX2_broughtTo, Cond.static yX2_broughtTo, Cond.code yX2_broughtTo cX2_broughtTo 3 (some .int), Cond.methodLink RX2 30 Lib.Math.max.name, Cond.static Lib.Math.max.name, Cond.code Lib.Math.max.name Lib.Math.max.code 2 (some .int), Cond.methodLink RX0 51 yX1_areOn, Cond.instanceMethod yX1_areOn, Cond.selects RX1 yX1_areOn yX1_areOn, Cond.initialized RX1, Cond.code yX1_areOn cX1_areOn 4 (some .boolean), Cond.fieldLink RX1 9 "GlassRopes$Feasts" "size" "I"]
def wsL_pass_r3 : List Cond := [Cond.fieldLink RX1 15 "GlassRopes$Feasts" "every" "[I", Cond.fieldLink RX1 19 "GlassRopes$Feasts" "on" "[I", Cond.methodLink RX0 57 yX4_allBring, Cond.instanceMethod yX4_allBring, Cond.selects RX4 yX4_allBring yX4_allBring, Cond.initialized RX4, Cond.code yX4_allBring cX4_allBring 4 (some .int), Cond.fieldLink RX4 9 "GlassRopes$Windows" "size" "I", Cond.methodLink RX4 38 yX4_brings, Cond.instanceMethod yX4_brings, Cond.selects RX4 yX4_brings yX4_brings, Cond.code yX4_brings cX4_brings 3 (some .int), Cond.fieldLink RX4 28 "GlassRopes$Windows" "worth" "[I", Cond.methodLink RX4 47 Lib.Math.max.name, Cond.methodLink RX4 52 yX4_panes, Cond.instanceMethod yX4_panes, Cond.selects RX4 yX4_panes yX4_panes, Cond.code yX4_panes cX4_panes 2 (some .int), Cond.fieldLink RX4 22 "GlassRopes$Windows" "width" "[I", Cond.fieldLink RX4 25 "GlassRopes$Windows" "height" "[I", Cond.methodLink RX4 31 yX4_added, Cond.instanceMethod yX4_added, Cond.selects RX4 yX4_added yX4_added, Cond.code yX4_added cX4_added 6 (some .int)]
def wsL_pass_r4 : List Cond := [Cond.fieldLink RX4 15 "GlassRopes$Windows" "x" "[I", Cond.fieldLink RX4 19 "GlassRopes$Windows" "y" "[I", Cond.methodLink RX4 41 yX2_at, Cond.instanceMethod yX2_at, Cond.selects RX2 yX2_at yX2_at, Cond.code yX2_at cX2_at 3 (some .int), Cond.methodLink RX0 63 yX3_work, Cond.instanceMethod yX3_work, Cond.selects RX3 yX3_work yX3_work, Cond.initialized RX3, Cond.code yX3_work cX3_work 3 none, Cond.fieldLink RX3 9 "GlassRopes$Ropes" "size" "I", Cond.methodLink RX3 35 yX3_workOnOne, Cond.instanceMethod yX3_workOnOne, Cond.selects RX3 yX3_workOnOne yX3_workOnOne, Cond.code yX3_workOnOne cX3_workOnOne 6 none, Cond.fieldLink RX3 22 "GlassRopes$Ropes" "strength" "[I", Cond.fieldLink RX3 15 "GlassRopes$Ropes" "column" "[I", Cond.fieldLink RX3 19 "GlassRopes$Ropes" "row" "[I", Cond.fieldLink RX3 29 "GlassRopes$Ropes" "cleaned" "[I", Cond.methodLink RX3 39 yX2_takeOff, Cond.instanceMethod yX2_takeOff, Cond.selects RX2 yX2_takeOff yX2_takeOff, Cond.code yX2_takeOff cX2_takeOff 6 (some .int)]
def wsL_pass_r5 : List Cond := [Cond.methodLink RX3 45 yX3_nextFreeColumn, Cond.instanceMethod yX3_nextFreeColumn, Cond.selects RX3 yX3_nextFreeColumn yX3_nextFreeColumn, Cond.code yX3_nextFreeColumn cX3_nextFreeColumn 5 (some .int), Cond.fieldLink RX3 25 "GlassRopes$Ropes" "toRight" "[Z", Cond.methodLink RX3 53 yX3_hangAt, Cond.instanceMethod yX3_hangAt, Cond.selects RX3 yX3_hangAt yX3_hangAt, Cond.code yX3_hangAt cX3_hangAt 3 (some .boolean), Cond.methodLink RX3 49 yX3_rehang, Cond.instanceMethod yX3_rehang, Cond.selects RX3 yX3_rehang yX3_rehang, Cond.code yX3_rehang cX3_rehang 3 none, Cond.fieldLink RX3 32 "GlassRopes$Ropes" "moved" "[I"]
def wsL_pass : List Cond := .codeWith yL_pass cL_pass 4 (some .int) [(0, 9, 12, 13)] :: ((wsL_pass_r1 ++ (wsL_pass_r2 ++ (wsL_pass_r3 ++ (wsL_pass_r4 ++ wsL_pass_r5)))) ++ wsX50 ++ wsX00 ++ wsX20 ++ wsX10 ++ wsX40 ++ wsX30 ++ (vx_atS RX5 37 "java/lang/IllegalArgumentException" ["java/lang/RuntimeException", "java/lang/Exception"]).filter goodWord)
def wsL_soot : List Cond := .codeWith yL_soot cL_soot 5 (some .int) [(0, 10, 13, 15)] :: ([.classLink RL 15 "java/lang/IndexOutOfBoundsException", .methodLink RL 44 yX5_soot, .instanceMethod yX5_soot, .selects RX5 yX5_soot yX5_soot, .initialized RX5, .code yX5_soot cX5_soot 3 (some .int), .classLink RX5 40 "java/lang/IndexOutOfBoundsException", .initialized "java/lang/IndexOutOfBoundsException", .fieldLink RX5 26 "GlassRopes" "now" "LGlassRopes$Course;", .methodLink RX5 58 yX5_isColumn, .static yX5_isColumn, .code yX5_isColumn cX5_isColumn 1 (some .boolean), .methodLink RX5 139 yX2_at, .instanceMethod yX2_at, .selects RX2 yX2_at yX2_at, .initialized RX2, .code yX2_at cX2_at 3 (some .int), .fieldLink RX2 9 "GlassRopes$Glass" "soot" "[I"] ++ wsX50 ++ wsX00 ++ wsX20 ++ (vx_atS RX5 44 "java/lang/IndexOutOfBoundsException" ["java/lang/RuntimeException", "java/lang/Exception"]).filter goodWord)
def wsL_about_r1 : List Cond := [Cond.classLink RL 15 "java/lang/IndexOutOfBoundsException", Cond.methodLink RL 47 yX5_about, Cond.instanceMethod yX5_about, Cond.selects RX5 yX5_about yX5_about, Cond.initialized RX5, Cond.code yX5_about cX5_about 3 (some .int), Cond.classLink RX5 40 "java/lang/IndexOutOfBoundsException", Cond.initialized "java/lang/IndexOutOfBoundsException", Cond.fieldLink RX5 12 "GlassRopes" "windows" "LGlassRopes$Windows;", Cond.fieldLink RX5 26 "GlassRopes" "now" "LGlassRopes$Course;", Cond.methodLink RX5 115 yX5_isWindow, Cond.instanceMethod yX5_isWindow, Cond.selects RX5 yX5_isWindow yX5_isWindow, Cond.code yX5_isWindow cX5_isWindow 2 (some .boolean), Cond.methodLink RX5 146 yX4_number, Cond.instanceMethod yX4_number, Cond.selects RX4 yX4_number yX4_number, Cond.initialized RX4, Cond.code yX4_number cX4_number 4 (some .int), Cond.fieldLink RX4 15 "GlassRopes$Windows" "x" "[I", Cond.fieldLink RX4 19 "GlassRopes$Windows" "y" "[I", Cond.fieldLink RX4 22 "GlassRopes$Windows" "width" "[I", Cond.fieldLink RX4 25 "GlassRopes$Windows" "height" "[I", Cond.fieldLink RX4 28 "GlassRopes$Windows" "worth" "[I"]
def wsL_about_r2 : List Cond := [Cond.methodLink RX4 31 yX4_added, Cond.instanceMethod yX4_added, Cond.selects RX4 yX4_added yX4_added, Cond.code yX4_added cX4_added 6 (some .int), Cond.methodLink RX4 41 yX2_at, Cond.instanceMethod yX2_at, Cond.selects RX2 yX2_at yX2_at, Cond.initialized RX2, Cond.code yX2_at cX2_at 3 (some .int), Cond.fieldLink RX2 9 "GlassRopes$Glass" "soot" "[I", Cond.methodLink RX4 35 yX4_darkest, Cond.instanceMethod yX4_darkest, Cond.selects RX4 yX4_darkest yX4_darkest, Cond.code yX4_darkest cX4_darkest 6 (some .int), Cond.methodLink RX4 47 Lib.Math.max.name, Cond.static Lib.Math.max.name, Cond.initialized "java/lang/Math", Cond.code Lib.Math.max.name Lib.Math.max.code 2 (some .int), Cond.methodLink RX4 38 yX4_brings, Cond.instanceMethod yX4_brings, Cond.selects RX4 yX4_brings yX4_brings, Cond.code yX4_brings cX4_brings 3 (some .int), Cond.methodLink RX4 52 yX4_panes, Cond.instanceMethod yX4_panes]
def wsL_about_r3 : List Cond := [Cond.selects RX4 yX4_panes yX4_panes, Cond.code yX4_panes cX4_panes 2 (some .int)]
def wsL_about : List Cond := .codeWith yL_about cL_about 5 (some .int) [(0, 10, 13, 15)] :: ((wsL_about_r1 ++ (wsL_about_r2 ++ wsL_about_r3)) ++ wsX50 ++ wsX00 ++ wsX40 ++ wsX20 ++ (vx_atS RX5 44 "java/lang/IndexOutOfBoundsException" ["java/lang/RuntimeException", "java/lang/Exception"]).filter goodWord)
def wsL_told : List Cond := .codeWith yL_told cL_told 5 (some .int) [(0, 10, 13, 15)] :: ([.classLink RL 15 "java/lang/IndexOutOfBoundsException", .methodLink RL 50 yX5_told, .instanceMethod yX5_told, .selects RX5 yX5_told yX5_told, .initialized RX5, .code yX5_told cX5_told 3 (some .int), .classLink RX5 40 "java/lang/IndexOutOfBoundsException", .initialized "java/lang/IndexOutOfBoundsException", .fieldLink RX5 26 "GlassRopes" "now" "LGlassRopes$Course;", .methodLink RX5 94 yX5_isRope, .instanceMethod yX5_isRope, .selects RX5 yX5_isRope yX5_isRope, .code yX5_isRope cX5_isRope 2 (some .boolean), .methodLink RX5 152 yX3_number, .instanceMethod yX3_number, .selects RX3 yX3_number yX3_number, .initialized RX3, .code yX3_number cX3_number 3 (some .int), .fieldLink RX3 15 "GlassRopes$Ropes" "column" "[I", .fieldLink RX3 19 "GlassRopes$Ropes" "row" "[I", .fieldLink RX3 22 "GlassRopes$Ropes" "strength" "[I", .fieldLink RX3 25 "GlassRopes$Ropes" "toRight" "[Z", .fieldLink RX3 29 "GlassRopes$Ropes" "cleaned" "[I", .fieldLink RX3 32 "GlassRopes$Ropes" "moved" "[I"] ++ wsX50 ++ wsX00 ++ wsX30 ++ (vx_atS RX5 44 "java/lang/IndexOutOfBoundsException" ["java/lang/RuntimeException", "java/lang/Exception"]).filter goodWord)
def wsL_count_r1 : List Cond := [Cond.classLink RL 15 "java/lang/IndexOutOfBoundsException", Cond.methodLink RL 53 yX5_count, Cond.instanceMethod yX5_count, Cond.selects RX5 yX5_count yX5_count, Cond.initialized RX5, Cond.code yX5_count cX5_count 2 (some .int), Cond.classLink RX5 40 "java/lang/IndexOutOfBoundsException", Cond.initialized "java/lang/IndexOutOfBoundsException", Cond.methodLink RX5 156 yX5_number, Cond.instanceMethod yX5_number, Cond.selects RX5 yX5_number yX5_number, Cond.code yX5_number cX5_number 2 (some .int), Cond.fieldLink RX5 26 "GlassRopes" "now" "LGlassRopes$Course;", Cond.fieldLink RX5 12 "GlassRopes" "windows" "LGlassRopes$Windows;", Cond.fieldLink RX5 19 "GlassRopes" "feasts" "LGlassRopes$Feasts;", Cond.methodLink RX5 172 yX2_total, Cond.instanceMethod yX2_total, Cond.selects RX2 yX2_total yX2_total, Cond.initialized RX2, Cond.code yX2_total cX2_total 3 (some .int), Cond.fieldLink RX2 9 "GlassRopes$Glass" "soot" "[I", Cond.methodLink RX5 199 yX2_cleanPanes, Cond.instanceMethod yX2_cleanPanes, Cond.selects RX2 yX2_cleanPanes yX2_cleanPanes]
def wsL_count_r2 : List Cond := [Cond.code yX2_cleanPanes cX2_cleanPanes 3 (some .int), Cond.methodLink RX5 176 yX3_allCleaned, Cond.instanceMethod yX3_allCleaned, Cond.selects RX3 yX3_allCleaned yX3_allCleaned, Cond.initialized RX3, Cond.code yX3_allCleaned cX3_allCleaned 3 (some .int), Cond.fieldLink RX3 9 "GlassRopes$Ropes" "size" "I", Cond.fieldLink RX3 29 "GlassRopes$Ropes" "cleaned" "[I", Cond.methodLink RX5 205 yX4_allBring, Cond.instanceMethod yX4_allBring, Cond.selects RX4 yX4_allBring yX4_allBring, Cond.initialized RX4, Cond.code yX4_allBring cX4_allBring 4 (some .int), Cond.fieldLink RX4 9 "GlassRopes$Windows" "size" "I", Cond.methodLink RX4 38 yX4_brings, Cond.instanceMethod yX4_brings, Cond.selects RX4 yX4_brings yX4_brings, Cond.code yX4_brings cX4_brings 3 (some .int), Cond.fieldLink RX4 28 "GlassRopes$Windows" "worth" "[I", Cond.methodLink RX4 47 Lib.Math.max.name, Cond.static Lib.Math.max.name, Cond.initialized "java/lang/Math", Cond.code Lib.Math.max.name Lib.Math.max.code 2 (some .int), Cond.methodLink RX4 52 yX4_panes]
def wsL_count_r3 : List Cond := [Cond.instanceMethod yX4_panes, Cond.selects RX4 yX4_panes yX4_panes, Cond.code yX4_panes cX4_panes 2 (some .int), Cond.fieldLink RX4 22 "GlassRopes$Windows" "width" "[I", Cond.fieldLink RX4 25 "GlassRopes$Windows" "height" "[I", Cond.methodLink RX4 31 yX4_added, Cond.instanceMethod yX4_added, Cond.selects RX4 yX4_added yX4_added, Cond.code yX4_added cX4_added 6 (some .int), Cond.fieldLink RX4 15 "GlassRopes$Windows" "x" "[I", Cond.fieldLink RX4 19 "GlassRopes$Windows" "y" "[I", Cond.methodLink RX4 41 yX2_at, Cond.instanceMethod yX2_at, Cond.selects RX2 yX2_at yX2_at, Cond.code yX2_at cX2_at 3 (some .int)]
def wsL_count : List Cond := .codeWith yL_count cL_count 4 (some .int) [(0, 9, 12, 15)] :: ((wsL_count_r1 ++ (wsL_count_r2 ++ wsL_count_r3)) ++ wsX50 ++ wsX00 ++ wsX40 ++ wsX30 ++ wsX10 ++ wsX20 ++ (vx_atS RX5 44 "java/lang/IndexOutOfBoundsException" ["java/lang/RuntimeException", "java/lang/Exception"]).filter goodWord)
def wsL_isFeast : List Cond := .codeWith yL_isFeast cL_isFeast 4 (some .int) [(0, 16, 19, 13)] :: ([.classLink RL 13 "java/lang/IllegalArgumentException", .methodLink RL 56 yX5_isFeast, .instanceMethod yX5_isFeast, .selects RX5 yX5_isFeast yX5_isFeast, .initialized RX5, .code yX5_isFeast cX5_isFeast 2 (some .boolean), .classLink RX5 33 "java/lang/IllegalArgumentException", .initialized "java/lang/IllegalArgumentException", .fieldLink RX5 19 "GlassRopes" "feasts" "LGlassRopes$Feasts;", .fieldLink RX5 26 "GlassRopes" "now" "LGlassRopes$Course;", .methodLink RX5 162 yX1_areOn, .instanceMethod yX1_areOn, .selects RX1 yX1_areOn yX1_areOn, .initialized RX1, .code yX1_areOn cX1_areOn 4 (some .boolean), .fieldLink RX1 9 "GlassRopes$Feasts" "size" "I", .fieldLink RX1 15 "GlassRopes$Feasts" "every" "[I", .fieldLink RX1 19 "GlassRopes$Feasts" "on" "[I"] ++ wsX50 ++ wsX00 ++ wsX10 ++ (vx_atS RX5 37 "java/lang/IllegalArgumentException" ["java/lang/RuntimeException", "java/lang/Exception"]).filter goodWord)
def wsL_would_r1 : List Cond := [Cond.classLink RL 13 "java/lang/IllegalArgumentException", Cond.classLink RL 15 "java/lang/IndexOutOfBoundsException", Cond.methodLink RL 59 yX5_would, Cond.instanceMethod yX5_would, Cond.selects RX5 yX5_would yX5_would, Cond.initialized RX5, Cond.code yX5_would cX5_would 3 (some .int), Cond.classLink RX5 33 "java/lang/IllegalArgumentException", Cond.initialized "java/lang/IllegalArgumentException", Cond.classLink RX5 40 "java/lang/IndexOutOfBoundsException", Cond.initialized "java/lang/IndexOutOfBoundsException", Cond.fieldLink RX5 30 "GlassRopes" "ahead" "LGlassRopes$Course;", Cond.fieldLink RX5 26 "GlassRopes" "now" "LGlassRopes$Course;", Cond.fieldLink RX5 12 "GlassRopes" "windows" "LGlassRopes$Windows;", Cond.fieldLink RX5 19 "GlassRopes" "feasts" "LGlassRopes$Feasts;", Cond.methodLink RX5 168 yX0_copyFrom, Cond.instanceMethod yX0_copyFrom, Cond.selects RX0 yX0_copyFrom yX0_copyFrom, Cond.initialized RX0, Cond.code yX0_copyFrom cX0_copyFrom 2 none, Cond.fieldLink RX0 10 "GlassRopes$Course" "glass" "LGlassRopes$Glass;", Cond.fieldLink RX0 19 "GlassRopes$Course" "ropes" "LGlassRopes$Ropes;", Cond.fieldLink RX0 23 "GlassRopes$Course" "wind" "I", Cond.fieldLink RX0 27 "GlassRopes$Course" "day" "I"]
def wsL_would_r2 : List Cond := [Cond.fieldLink RX0 30 "GlassRopes$Course" "coins" "I", Cond.fieldLink RX0 33 "GlassRopes$Course" "feastDays" "I", Cond.methodLink RX0 36 yX2_copyFrom, Cond.instanceMethod yX2_copyFrom, Cond.selects RX2 yX2_copyFrom yX2_copyFrom, Cond.initialized RX2, Cond.code yX2_copyFrom cX2_copyFrom 2 none, Cond.fieldLink RX2 9 "GlassRopes$Glass" "soot" "[I", Cond.methodLink RX2 15 arraycopyName, Cond.native arraycopyName, Cond.static arraycopyName, Cond.initialized "java/lang/System", Cond.methodLink RX0 40 yX3_copyFrom, Cond.instanceMethod yX3_copyFrom, Cond.selects RX3 yX3_copyFrom yX3_copyFrom, Cond.initialized RX3, Cond.code yX3_copyFrom cX3_copyFrom 3 none, Cond.fieldLink RX3 9 "GlassRopes$Ropes" "size" "I", Cond.fieldLink RX3 15 "GlassRopes$Ropes" "column" "[I", Cond.fieldLink RX3 19 "GlassRopes$Ropes" "row" "[I", Cond.fieldLink RX3 22 "GlassRopes$Ropes" "strength" "[I", Cond.fieldLink RX3 25 "GlassRopes$Ropes" "toRight" "[Z", Cond.fieldLink RX3 29 "GlassRopes$Ropes" "cleaned" "[I", Cond.fieldLink RX3 32 "GlassRopes$Ropes" "moved" "[I"]
def wsL_would_r3 : List Cond := [Cond.methodLink RX5 133 yX0_goOn, Cond.instanceMethod yX0_goOn, Cond.selects RX0 yX0_goOn yX0_goOn, Cond.code yX0_goOn cX0_goOn 5 none, Cond.methodLink RX0 43 yX0_goOneDay, Cond.instanceMethod yX0_goOneDay, Cond.selects RX0 yX0_goOneDay yX0_goOneDay, Cond.code yX0_goOneDay cX0_goOneDay 3 none, Cond.methodLink RX0 47 yX2_gather, Cond.instanceMethod yX2_gather, Cond.selects RX2 yX2_gather yX2_gather, Cond.code yX2_gather cX2_gather 6 none, Cond.methodLink RX2 25 Lib.Math.min.name, Cond.static Lib.Math.min.name, Cond.initialized "java/lang/Math", Cond.code Lib.Math.min.name Lib.Math.min.code 2 (some .int), Cond.methodLink RX2 21 yX2_broughtTo, Cond.static yX2_broughtTo, Cond.code yX2_broughtTo cX2_broughtTo 3 (some .int), Cond.methodLink RX2 30 Lib.Math.max.name, Cond.static Lib.Math.max.name, Cond.code Lib.Math.max.name Lib.Math.max.code 2 (some .int), Cond.methodLink RX0 51 yX1_areOn, Cond.instanceMethod yX1_areOn]
def wsL_would_r4 : List Cond := [Cond.selects RX1 yX1_areOn yX1_areOn, Cond.initialized RX1, Cond.code yX1_areOn cX1_areOn 4 (some .boolean), Cond.fieldLink RX1 9 "GlassRopes$Feasts" "size" "I", Cond.fieldLink RX1 15 "GlassRopes$Feasts" "every" "[I", Cond.fieldLink RX1 19 "GlassRopes$Feasts" "on" "[I", Cond.methodLink RX0 57 yX4_allBring, Cond.instanceMethod yX4_allBring, Cond.selects RX4 yX4_allBring yX4_allBring, Cond.initialized RX4, Cond.code yX4_allBring cX4_allBring 4 (some .int), Cond.fieldLink RX4 9 "GlassRopes$Windows" "size" "I", Cond.methodLink RX4 38 yX4_brings, Cond.instanceMethod yX4_brings, Cond.selects RX4 yX4_brings yX4_brings, Cond.code yX4_brings cX4_brings 3 (some .int), Cond.fieldLink RX4 28 "GlassRopes$Windows" "worth" "[I", Cond.methodLink RX4 47 Lib.Math.max.name, Cond.methodLink RX4 52 yX4_panes, Cond.instanceMethod yX4_panes, Cond.selects RX4 yX4_panes yX4_panes, Cond.code yX4_panes cX4_panes 2 (some .int), Cond.fieldLink RX4 22 "GlassRopes$Windows" "width" "[I", Cond.fieldLink RX4 25 "GlassRopes$Windows" "height" "[I"]
def wsL_would_r5 : List Cond := [Cond.methodLink RX4 31 yX4_added, Cond.instanceMethod yX4_added, Cond.selects RX4 yX4_added yX4_added, Cond.code yX4_added cX4_added 6 (some .int), Cond.fieldLink RX4 15 "GlassRopes$Windows" "x" "[I", Cond.fieldLink RX4 19 "GlassRopes$Windows" "y" "[I", Cond.methodLink RX4 41 yX2_at, Cond.instanceMethod yX2_at, Cond.selects RX2 yX2_at yX2_at, Cond.code yX2_at cX2_at 3 (some .int), Cond.methodLink RX0 63 yX3_work, Cond.instanceMethod yX3_work, Cond.selects RX3 yX3_work yX3_work, Cond.code yX3_work cX3_work 3 none, Cond.methodLink RX3 35 yX3_workOnOne, Cond.instanceMethod yX3_workOnOne, Cond.selects RX3 yX3_workOnOne yX3_workOnOne, Cond.code yX3_workOnOne cX3_workOnOne 6 none, Cond.methodLink RX3 39 yX2_takeOff, Cond.instanceMethod yX2_takeOff, Cond.selects RX2 yX2_takeOff yX2_takeOff, Cond.code yX2_takeOff cX2_takeOff 6 (some .int), Cond.methodLink RX3 45 yX3_nextFreeColumn, Cond.instanceMethod yX3_nextFreeColumn]
def wsL_would_r6 : List Cond := [Cond.selects RX3 yX3_nextFreeColumn yX3_nextFreeColumn, Cond.code yX3_nextFreeColumn cX3_nextFreeColumn 5 (some .int), Cond.methodLink RX3 53 yX3_hangAt, Cond.instanceMethod yX3_hangAt, Cond.selects RX3 yX3_hangAt yX3_hangAt, Cond.code yX3_hangAt cX3_hangAt 3 (some .boolean), Cond.methodLink RX3 49 yX3_rehang, Cond.instanceMethod yX3_rehang, Cond.selects RX3 yX3_rehang yX3_rehang, Cond.code yX3_rehang cX3_rehang 3 none, Cond.methodLink RX5 172 yX2_total, Cond.instanceMethod yX2_total, Cond.selects RX2 yX2_total yX2_total, Cond.code yX2_total cX2_total 3 (some .int), Cond.methodLink RX5 176 yX3_allCleaned, Cond.instanceMethod yX3_allCleaned, Cond.selects RX3 yX3_allCleaned yX3_allCleaned, Cond.code yX3_allCleaned cX3_allCleaned 3 (some .int)]
def wsL_would : List Cond := .codeWith yL_would cL_would 5 (some .int) [(0, 10, 13, 13), (0, 10, 17, 15)] :: ((wsL_would_r1 ++ (wsL_would_r2 ++ (wsL_would_r3 ++ (wsL_would_r4 ++ (wsL_would_r5 ++ wsL_would_r6))))) ++ wsX50 ++ wsX00 ++ wsX20 ++ wsX30 ++ wsX10 ++ wsX40 ++ (vx_atS RX5 37 "java/lang/IllegalArgumentException" ["java/lang/RuntimeException", "java/lang/Exception"]).filter goodWord ++ (vx_atS RX5 44 "java/lang/IndexOutOfBoundsException" ["java/lang/RuntimeException", "java/lang/Exception"]).filter goodWord)
def wsL_until_r1 : List Cond := [Cond.classLink RL 15 "java/lang/IndexOutOfBoundsException", Cond.methodLink RL 62 yX5_until, Cond.instanceMethod yX5_until, Cond.selects RX5 yX5_until yX5_until, Cond.initialized RX5, Cond.code yX5_until cX5_until 3 (some .int), Cond.classLink RX5 40 "java/lang/IndexOutOfBoundsException", Cond.initialized "java/lang/IndexOutOfBoundsException", Cond.fieldLink RX5 30 "GlassRopes" "ahead" "LGlassRopes$Course;", Cond.fieldLink RX5 26 "GlassRopes" "now" "LGlassRopes$Course;", Cond.fieldLink RX5 12 "GlassRopes" "windows" "LGlassRopes$Windows;", Cond.fieldLink RX5 19 "GlassRopes" "feasts" "LGlassRopes$Feasts;", Cond.methodLink RX5 115 yX5_isWindow, Cond.instanceMethod yX5_isWindow, Cond.selects RX5 yX5_isWindow yX5_isWindow, Cond.code yX5_isWindow cX5_isWindow 2 (some .boolean), Cond.methodLink RX5 168 yX0_copyFrom, Cond.instanceMethod yX0_copyFrom, Cond.selects RX0 yX0_copyFrom yX0_copyFrom, Cond.initialized RX0, Cond.code yX0_copyFrom cX0_copyFrom 2 none, Cond.fieldLink RX0 10 "GlassRopes$Course" "glass" "LGlassRopes$Glass;", Cond.fieldLink RX0 19 "GlassRopes$Course" "ropes" "LGlassRopes$Ropes;", Cond.fieldLink RX0 23 "GlassRopes$Course" "wind" "I"]
def wsL_until_r2 : List Cond := [Cond.fieldLink RX0 27 "GlassRopes$Course" "day" "I", Cond.fieldLink RX0 30 "GlassRopes$Course" "coins" "I", Cond.fieldLink RX0 33 "GlassRopes$Course" "feastDays" "I", Cond.methodLink RX0 36 yX2_copyFrom, Cond.instanceMethod yX2_copyFrom, Cond.selects RX2 yX2_copyFrom yX2_copyFrom, Cond.initialized RX2, Cond.code yX2_copyFrom cX2_copyFrom 2 none, Cond.fieldLink RX2 9 "GlassRopes$Glass" "soot" "[I", Cond.methodLink RX2 15 arraycopyName, Cond.native arraycopyName, Cond.static arraycopyName, Cond.initialized "java/lang/System", Cond.methodLink RX0 40 yX3_copyFrom, Cond.instanceMethod yX3_copyFrom, Cond.selects RX3 yX3_copyFrom yX3_copyFrom, Cond.initialized RX3, Cond.code yX3_copyFrom cX3_copyFrom 3 none, Cond.fieldLink RX3 9 "GlassRopes$Ropes" "size" "I", Cond.fieldLink RX3 15 "GlassRopes$Ropes" "column" "[I", Cond.fieldLink RX3 19 "GlassRopes$Ropes" "row" "[I", Cond.fieldLink RX3 22 "GlassRopes$Ropes" "strength" "[I", Cond.fieldLink RX3 25 "GlassRopes$Ropes" "toRight" "[Z", Cond.fieldLink RX3 29 "GlassRopes$Ropes" "cleaned" "[I"]
def wsL_until_r3 : List Cond := [Cond.fieldLink RX3 32 "GlassRopes$Ropes" "moved" "[I", Cond.methodLink RX5 179 yX4_isClean, Cond.instanceMethod yX4_isClean, Cond.selects RX4 yX4_isClean yX4_isClean, Cond.initialized RX4, Cond.code yX4_isClean cX4_isClean 3 (some .boolean), Cond.methodLink RX4 31 yX4_added, Cond.instanceMethod yX4_added, Cond.selects RX4 yX4_added yX4_added, Cond.code yX4_added cX4_added 6 (some .int), Cond.fieldLink RX4 15 "GlassRopes$Windows" "x" "[I", Cond.fieldLink RX4 22 "GlassRopes$Windows" "width" "[I", Cond.fieldLink RX4 19 "GlassRopes$Windows" "y" "[I", Cond.fieldLink RX4 25 "GlassRopes$Windows" "height" "[I", Cond.methodLink RX4 41 yX2_at, Cond.instanceMethod yX2_at, Cond.selects RX2 yX2_at yX2_at, Cond.code yX2_at cX2_at 3 (some .int), Cond.methodLink RX4 52 yX4_panes, Cond.instanceMethod yX4_panes, Cond.selects RX4 yX4_panes yX4_panes, Cond.code yX4_panes cX4_panes 2 (some .int), Cond.methodLink RX5 183 yX0_goOneDay, Cond.instanceMethod yX0_goOneDay]
def wsL_until_r4 : List Cond := [Cond.selects RX0 yX0_goOneDay yX0_goOneDay, Cond.code yX0_goOneDay cX0_goOneDay 3 none, Cond.methodLink RX0 47 yX2_gather, Cond.instanceMethod yX2_gather, Cond.selects RX2 yX2_gather yX2_gather, Cond.code yX2_gather cX2_gather 6 none, Cond.methodLink RX2 25 Lib.Math.min.name, Cond.static Lib.Math.min.name, Cond.initialized "java/lang/Math", Cond.code Lib.Math.min.name Lib.Math.min.code 2 (some .int), Cond.methodLink RX2 21 yX2_broughtTo, Cond.static yX2_broughtTo, Cond.code yX2_broughtTo cX2_broughtTo 3 (some .int), Cond.methodLink RX2 30 Lib.Math.max.name, Cond.static Lib.Math.max.name, Cond.code Lib.Math.max.name Lib.Math.max.code 2 (some .int), Cond.methodLink RX0 51 yX1_areOn, Cond.instanceMethod yX1_areOn, Cond.selects RX1 yX1_areOn yX1_areOn, Cond.initialized RX1, Cond.code yX1_areOn cX1_areOn 4 (some .boolean), Cond.fieldLink RX1 9 "GlassRopes$Feasts" "size" "I", Cond.fieldLink RX1 15 "GlassRopes$Feasts" "every" "[I", Cond.fieldLink RX1 19 "GlassRopes$Feasts" "on" "[I"]
def wsL_until_r5 : List Cond := [Cond.methodLink RX0 57 yX4_allBring, Cond.instanceMethod yX4_allBring, Cond.selects RX4 yX4_allBring yX4_allBring, Cond.code yX4_allBring cX4_allBring 4 (some .int), Cond.fieldLink RX4 9 "GlassRopes$Windows" "size" "I", Cond.methodLink RX4 38 yX4_brings, Cond.instanceMethod yX4_brings, Cond.selects RX4 yX4_brings yX4_brings, Cond.code yX4_brings cX4_brings 3 (some .int), Cond.fieldLink RX4 28 "GlassRopes$Windows" "worth" "[I", Cond.methodLink RX4 47 Lib.Math.max.name, Cond.methodLink RX0 63 yX3_work, Cond.instanceMethod yX3_work, Cond.selects RX3 yX3_work yX3_work, Cond.code yX3_work cX3_work 3 none, Cond.methodLink RX3 35 yX3_workOnOne, Cond.instanceMethod yX3_workOnOne, Cond.selects RX3 yX3_workOnOne yX3_workOnOne, Cond.code yX3_workOnOne cX3_workOnOne 6 none, Cond.methodLink RX3 39 yX2_takeOff, Cond.instanceMethod yX2_takeOff, Cond.selects RX2 yX2_takeOff yX2_takeOff, Cond.code yX2_takeOff cX2_takeOff 6 (some .int), Cond.methodLink RX3 45 yX3_nextFreeColumn]
def wsL_until_r6 : List Cond := [Cond.instanceMethod yX3_nextFreeColumn, Cond.selects RX3 yX3_nextFreeColumn yX3_nextFreeColumn, Cond.code yX3_nextFreeColumn cX3_nextFreeColumn 5 (some .int), Cond.methodLink RX3 53 yX3_hangAt, Cond.instanceMethod yX3_hangAt, Cond.selects RX3 yX3_hangAt yX3_hangAt, Cond.code yX3_hangAt cX3_hangAt 3 (some .boolean), Cond.methodLink RX3 49 yX3_rehang, Cond.instanceMethod yX3_rehang, Cond.selects RX3 yX3_rehang yX3_rehang, Cond.code yX3_rehang cX3_rehang 3 none]
def wsL_until : List Cond := .codeWith yL_until cL_until 4 (some .int) [(0, 9, 12, 15)] :: ((wsL_until_r1 ++ (wsL_until_r2 ++ (wsL_until_r3 ++ (wsL_until_r4 ++ (wsL_until_r5 ++ wsL_until_r6))))) ++ wsX50 ++ wsX00 ++ wsX40 ++ wsX20 ++ wsX30 ++ wsX10 ++ (vx_atS RX5 44 "java/lang/IndexOutOfBoundsException" ["java/lang/RuntimeException", "java/lang/Exception"]).filter goodWord)
def wsL_advise_r1 : List Cond := [Cond.classLink RL 15 "java/lang/IndexOutOfBoundsException", Cond.classLink RL 17 "java/lang/IllegalStateException", Cond.methodLink RL 65 yX5_advise, Cond.instanceMethod yX5_advise, Cond.selects RX5 yX5_advise yX5_advise, Cond.initialized RX5, Cond.code yX5_advise cX5_advise 8 (some .int), Cond.classLink RX5 40 "java/lang/IndexOutOfBoundsException", Cond.initialized "java/lang/IndexOutOfBoundsException", Cond.classLink RX5 49 "java/lang/IllegalStateException", Cond.initialized "java/lang/IllegalStateException", Cond.fieldLink RX5 19 "GlassRopes" "feasts" "LGlassRopes$Feasts;", Cond.fieldLink RX5 26 "GlassRopes" "now" "LGlassRopes$Course;", Cond.methodLink RX5 94 yX5_isRope, Cond.instanceMethod yX5_isRope, Cond.selects RX5 yX5_isRope yX5_isRope, Cond.code yX5_isRope cX5_isRope 2 (some .boolean), Cond.methodLink RX5 165 yX1_daysUntil, Cond.instanceMethod yX1_daysUntil, Cond.selects RX1 yX1_daysUntil yX1_daysUntil, Cond.initialized RX1, Cond.code yX1_daysUntil cX1_daysUntil 3 (some .int), Cond.methodLink RX1 22 yX1_areOn, Cond.instanceMethod yX1_areOn]
def wsL_advise_r2 : List Cond := [Cond.selects RX1 yX1_areOn yX1_areOn, Cond.code yX1_areOn cX1_areOn 4 (some .boolean), Cond.fieldLink RX1 9 "GlassRopes$Feasts" "size" "I", Cond.fieldLink RX1 15 "GlassRopes$Feasts" "every" "[I", Cond.fieldLink RX1 19 "GlassRopes$Feasts" "on" "[I", Cond.methodLink RX5 189 yX5_coinsBehind, Cond.instanceMethod yX5_coinsBehind, Cond.selects RX5 yX5_coinsBehind yX5_coinsBehind, Cond.code yX5_coinsBehind cX5_coinsBehind 5 (some .int), Cond.fieldLink RX5 30 "GlassRopes" "ahead" "LGlassRopes$Course;", Cond.fieldLink RX5 12 "GlassRopes" "windows" "LGlassRopes$Windows;", Cond.methodLink RX5 168 yX0_copyFrom, Cond.instanceMethod yX0_copyFrom, Cond.selects RX0 yX0_copyFrom yX0_copyFrom, Cond.initialized RX0, Cond.code yX0_copyFrom cX0_copyFrom 2 none, Cond.fieldLink RX0 10 "GlassRopes$Course" "glass" "LGlassRopes$Glass;", Cond.fieldLink RX0 19 "GlassRopes$Course" "ropes" "LGlassRopes$Ropes;", Cond.fieldLink RX0 23 "GlassRopes$Course" "wind" "I", Cond.fieldLink RX0 27 "GlassRopes$Course" "day" "I", Cond.fieldLink RX0 30 "GlassRopes$Course" "coins" "I", Cond.fieldLink RX0 33 "GlassRopes$Course" "feastDays" "I", Cond.methodLink RX0 36 yX2_copyFrom, Cond.instanceMethod yX2_copyFrom]
def wsL_advise_r3 : List Cond := [Cond.selects RX2 yX2_copyFrom yX2_copyFrom, Cond.initialized RX2, Cond.code yX2_copyFrom cX2_copyFrom 2 none, Cond.fieldLink RX2 9 "GlassRopes$Glass" "soot" "[I", Cond.methodLink RX2 15 arraycopyName, Cond.native arraycopyName, Cond.static arraycopyName, Cond.initialized "java/lang/System", Cond.methodLink RX0 40 yX3_copyFrom, Cond.instanceMethod yX3_copyFrom, Cond.selects RX3 yX3_copyFrom yX3_copyFrom, Cond.initialized RX3, Cond.code yX3_copyFrom cX3_copyFrom 3 none, Cond.fieldLink RX3 9 "GlassRopes$Ropes" "size" "I", Cond.fieldLink RX3 15 "GlassRopes$Ropes" "column" "[I", Cond.fieldLink RX3 19 "GlassRopes$Ropes" "row" "[I", Cond.fieldLink RX3 22 "GlassRopes$Ropes" "strength" "[I", Cond.fieldLink RX3 25 "GlassRopes$Ropes" "toRight" "[Z", Cond.fieldLink RX3 29 "GlassRopes$Ropes" "cleaned" "[I", Cond.fieldLink RX3 32 "GlassRopes$Ropes" "moved" "[I", Cond.methodLink RX5 105 yX3_rehang, Cond.instanceMethod yX3_rehang, Cond.selects RX3 yX3_rehang yX3_rehang, Cond.code yX3_rehang cX3_rehang 3 none]
def wsL_advise_r4 : List Cond := [Cond.methodLink RX5 183 yX0_goOneDay, Cond.instanceMethod yX0_goOneDay, Cond.selects RX0 yX0_goOneDay yX0_goOneDay, Cond.code yX0_goOneDay cX0_goOneDay 3 none, Cond.methodLink RX0 47 yX2_gather, Cond.instanceMethod yX2_gather, Cond.selects RX2 yX2_gather yX2_gather, Cond.code yX2_gather cX2_gather 6 none, Cond.methodLink RX2 25 Lib.Math.min.name, Cond.static Lib.Math.min.name, Cond.initialized "java/lang/Math", Cond.code Lib.Math.min.name Lib.Math.min.code 2 (some .int), Cond.methodLink RX2 21 yX2_broughtTo, Cond.static yX2_broughtTo, Cond.code yX2_broughtTo cX2_broughtTo 3 (some .int), Cond.methodLink RX2 30 Lib.Math.max.name, Cond.static Lib.Math.max.name, Cond.code Lib.Math.max.name Lib.Math.max.code 2 (some .int), Cond.methodLink RX0 51 yX1_areOn, Cond.methodLink RX0 57 yX4_allBring, Cond.instanceMethod yX4_allBring, Cond.selects RX4 yX4_allBring yX4_allBring, Cond.initialized RX4, Cond.code yX4_allBring cX4_allBring 4 (some .int)]
def wsL_advise_r5 : List Cond := [Cond.fieldLink RX4 9 "GlassRopes$Windows" "size" "I", Cond.methodLink RX4 38 yX4_brings, Cond.instanceMethod yX4_brings, Cond.selects RX4 yX4_brings yX4_brings, Cond.code yX4_brings cX4_brings 3 (some .int), Cond.fieldLink RX4 28 "GlassRopes$Windows" "worth" "[I", Cond.methodLink RX4 47 Lib.Math.max.name, Cond.methodLink RX4 52 yX4_panes, Cond.instanceMethod yX4_panes, Cond.selects RX4 yX4_panes yX4_panes, Cond.code yX4_panes cX4_panes 2 (some .int), Cond.fieldLink RX4 22 "GlassRopes$Windows" "width" "[I", Cond.fieldLink RX4 25 "GlassRopes$Windows" "height" "[I", Cond.methodLink RX4 31 yX4_added, Cond.instanceMethod yX4_added, Cond.selects RX4 yX4_added yX4_added, Cond.code yX4_added cX4_added 6 (some .int), Cond.fieldLink RX4 15 "GlassRopes$Windows" "x" "[I", Cond.fieldLink RX4 19 "GlassRopes$Windows" "y" "[I", Cond.methodLink RX4 41 yX2_at, Cond.instanceMethod yX2_at, Cond.selects RX2 yX2_at yX2_at, Cond.code yX2_at cX2_at 3 (some .int), Cond.methodLink RX0 63 yX3_work]
def wsL_advise_r6 : List Cond := [Cond.instanceMethod yX3_work, Cond.selects RX3 yX3_work yX3_work, Cond.code yX3_work cX3_work 3 none, Cond.methodLink RX3 35 yX3_workOnOne, Cond.instanceMethod yX3_workOnOne, Cond.selects RX3 yX3_workOnOne yX3_workOnOne, Cond.code yX3_workOnOne cX3_workOnOne 6 none, Cond.methodLink RX3 39 yX2_takeOff, Cond.instanceMethod yX2_takeOff, Cond.selects RX2 yX2_takeOff yX2_takeOff, Cond.code yX2_takeOff cX2_takeOff 6 (some .int), Cond.methodLink RX3 45 yX3_nextFreeColumn, Cond.instanceMethod yX3_nextFreeColumn, Cond.selects RX3 yX3_nextFreeColumn yX3_nextFreeColumn, Cond.code yX3_nextFreeColumn cX3_nextFreeColumn 5 (some .int), Cond.methodLink RX3 53 yX3_hangAt, Cond.instanceMethod yX3_hangAt, Cond.selects RX3 yX3_hangAt yX3_hangAt, Cond.code yX3_hangAt cX3_hangAt 3 (some .boolean), Cond.methodLink RX3 49 yX3_rehang, Cond.methodLink RX5 73 yX3_hangAt]
def wsL_advise : List Cond := .codeWith yL_advise cL_advise 4 (some .int) [(0, 9, 12, 15), (0, 9, 15, 17)] :: ((wsL_advise_r1 ++ (wsL_advise_r2 ++ (wsL_advise_r3 ++ (wsL_advise_r4 ++ (wsL_advise_r5 ++ wsL_advise_r6))))) ++ wsX50 ++ wsX00 ++ wsX30 ++ wsX10 ++ wsX20 ++ wsX40 ++ (vx_atS RX5 44 "java/lang/IndexOutOfBoundsException" ["java/lang/RuntimeException", "java/lang/Exception"]).filter goodWord ++ (vx_atS RX5 53 "java/lang/IllegalStateException" ["java/lang/RuntimeException", "java/lang/Exception"]).filter goodWord)
def wsL_law0_r1 : List Cond := [Cond.classLink RL 8 RX5, Cond.instantiable RX5 4, Cond.initialized RX5, Cond.classLink RL 69 RX6, Cond.instantiable RX6 10, Cond.initialized RX6, Cond.arrayClass .long, Cond.methodLink RL 68 yX5_init, Cond.instanceMethod yX5_init, Cond.code yX5_init cX5_init 1 none, Cond.methodLink RX5 3 objectInit, Cond.instanceMethod objectInit, Cond.code objectInit ⟨#[0xb1]⟩ 1 none, Cond.classLink RX5 9 RX4, Cond.instantiable RX4 6, Cond.initialized RX4, Cond.fieldLink RX5 12 "GlassRopes" "windows" "LGlassRopes$Windows;", Cond.classLink RX5 16 RX1, Cond.instantiable RX1 3, Cond.initialized RX1, Cond.fieldLink RX5 19 "GlassRopes" "feasts" "LGlassRopes$Feasts;", Cond.classLink RX5 23 RX0, Cond.instantiable RX0 6, Cond.initialized RX0]
def wsL_law0_r2 : List Cond := [Cond.fieldLink RX5 26 "GlassRopes" "now" "LGlassRopes$Course;", Cond.fieldLink RX5 30 "GlassRopes" "ahead" "LGlassRopes$Course;", Cond.instanceMethod yX4_init, Cond.code yX4_init cX4_init 1 none, Cond.methodLink RX4 3 objectInit, Cond.fieldLink RX4 9 "GlassRopes$Windows" "size" "I", Cond.arrayClass .int, Cond.fieldLink RX4 15 "GlassRopes$Windows" "x" "[I", Cond.fieldLink RX4 19 "GlassRopes$Windows" "y" "[I", Cond.fieldLink RX4 22 "GlassRopes$Windows" "width" "[I", Cond.fieldLink RX4 25 "GlassRopes$Windows" "height" "[I", Cond.fieldLink RX4 28 "GlassRopes$Windows" "worth" "[I", Cond.instanceMethod yX1_init, Cond.code yX1_init cX1_init 1 none, Cond.methodLink RX1 3 objectInit, Cond.fieldLink RX1 9 "GlassRopes$Feasts" "size" "I", Cond.fieldLink RX1 15 "GlassRopes$Feasts" "every" "[I", Cond.fieldLink RX1 19 "GlassRopes$Feasts" "on" "[I", Cond.instanceMethod yX0_init, Cond.code yX0_init cX0_init 1 none, Cond.methodLink RX0 1 objectInit, Cond.classLink RX0 7 RX2, Cond.instantiable RX2 1, Cond.initialized RX2]
def wsL_law0_r3 : List Cond := [Cond.fieldLink RX0 10 "GlassRopes$Course" "glass" "LGlassRopes$Glass;", Cond.classLink RX0 16 RX3, Cond.instantiable RX3 7, Cond.initialized RX3, Cond.fieldLink RX0 19 "GlassRopes$Course" "ropes" "LGlassRopes$Ropes;", Cond.fieldLink RX0 23 "GlassRopes$Course" "wind" "I", Cond.fieldLink RX0 27 "GlassRopes$Course" "day" "I", Cond.fieldLink RX0 30 "GlassRopes$Course" "coins" "I", Cond.fieldLink RX0 33 "GlassRopes$Course" "feastDays" "I", Cond.instanceMethod yX2_init, Cond.code yX2_init cX2_init 1 none, Cond.methodLink RX2 3 objectInit, Cond.fieldLink RX2 9 "GlassRopes$Glass" "soot" "[I", Cond.instanceMethod yX3_init, Cond.code yX3_init cX3_init 1 none, Cond.methodLink RX3 3 objectInit, Cond.fieldLink RX3 9 "GlassRopes$Ropes" "size" "I", Cond.fieldLink RX3 15 "GlassRopes$Ropes" "column" "[I", Cond.fieldLink RX3 19 "GlassRopes$Ropes" "row" "[I", Cond.fieldLink RX3 22 "GlassRopes$Ropes" "strength" "[I", Cond.arrayClass .boolean, Cond.fieldLink RX3 25 "GlassRopes$Ropes" "toRight" "[Z", Cond.fieldLink RX3 29 "GlassRopes$Ropes" "cleaned" "[I", Cond.fieldLink RX3 32 "GlassRopes$Ropes" "moved" "[I"]
def wsL_law0_r4 : List Cond := [Cond.methodLink RL 71 yX6_init, Cond.instanceMethod yX6_init, Cond.code yX6_init cX6_init 1 none, Cond.methodLink RX6 1 objectInit, Cond.fieldLink RX6 9 "GlassRopesModel" "told" "[I", Cond.fieldLink RX6 13 "GlassRopesModel" "strengths" "[I", Cond.fieldLink RX6 16 "GlassRopesModel" "every" "[I", Cond.fieldLink RX6 19 "GlassRopesModel" "on" "[I", Cond.fieldLink RX6 22 "GlassRopesModel" "now" "[I", Cond.fieldLink RX6 25 "GlassRopesModel" "kept" "[I", Cond.methodLink RL 72 yL_window, Cond.static yL_window, Cond.initialized RL, Cond.codeWith yL_window cL_window 8 (some .int) [(0, 16, 19, 13), (0, 16, 23, 15), (0, 16, 27, 17)], Cond.classLink RL 13 "java/lang/IllegalArgumentException", Cond.classLink RL 15 "java/lang/IndexOutOfBoundsException", Cond.classLink RL 17 "java/lang/IllegalStateException", Cond.methodLink RL 7 yX5_window, Cond.instanceMethod yX5_window, Cond.selects RX5 yX5_window yX5_window, Cond.code yX5_window cX5_window 6 (some .int), Cond.classLink RX5 33 "java/lang/IllegalArgumentException", Cond.initialized "java/lang/IllegalArgumentException", Cond.classLink RX5 40 "java/lang/IndexOutOfBoundsException"]
def wsL_law0_r5 : List Cond := [Cond.initialized "java/lang/IndexOutOfBoundsException", Cond.classLink RX5 49 "java/lang/IllegalStateException", Cond.initialized "java/lang/IllegalStateException", Cond.methodLink RX5 54 yX4_put, Cond.instanceMethod yX4_put, Cond.selects RX4 yX4_put yX4_put, Cond.code yX4_put cX4_put 6 (some .int), Cond.methodLink RL 77 yX6_window, Cond.instanceMethod yX6_window, Cond.selects RX6 yX6_window yX6_window, Cond.code yX6_window cX6_window 7 (some .int), Cond.fieldLink RX6 28 "GlassRopesModel" "thrown" "I", Cond.fieldLink RX6 32 "GlassRopesModel" "windows" "I", Cond.methodLink RX6 49 arraycopyName, Cond.native arraycopyName, Cond.static arraycopyName, Cond.initialized "java/lang/System", Cond.methodLink RX6 35 yX6_isIn, Cond.static yX6_isIn, Cond.code yX6_isIn cX6_isIn 3 (some .boolean), Cond.methodLink RX6 55 yX6_fail, Cond.instanceMethod yX6_fail, Cond.selects RX6 yX6_fail yX6_fail, Cond.code yX6_fail cX6_fail 2 (some .int)]
def wsL_law0_r6 : List Cond := [Cond.methodLink RL 78 yX6_thrown, Cond.instanceMethod yX6_thrown, Cond.selects RX6 yX6_thrown yX6_thrown, Cond.code yX6_thrown cX6_thrown 1 (some .int), Cond.methodLink RL 82 yL_rope, Cond.static yL_rope, Cond.codeWith yL_rope cL_rope 6 (some .int) [(0, 12, 15, 15), (0, 12, 19, 13), (0, 12, 23, 17)], Cond.methodLink RL 19 yX5_rope, Cond.instanceMethod yX5_rope, Cond.selects RX5 yX5_rope yX5_rope, Cond.code yX5_rope cX5_rope 4 (some .int), Cond.methodLink RX5 58 yX5_isColumn, Cond.static yX5_isColumn, Cond.code yX5_isColumn cX5_isColumn 1 (some .boolean), Cond.methodLink RX5 73 yX3_hangAt, Cond.instanceMethod yX3_hangAt, Cond.selects RX3 yX3_hangAt yX3_hangAt, Cond.code yX3_hangAt cX3_hangAt 3 (some .boolean), Cond.methodLink RX5 78 yX3_put, Cond.instanceMethod yX3_put, Cond.selects RX3 yX3_put yX3_put, Cond.code yX3_put cX3_put 4 (some .int), Cond.methodLink RL 85 yX6_rope, Cond.instanceMethod yX6_rope]
def wsL_law0_r7 : List Cond := [Cond.selects RX6 yX6_rope yX6_rope, Cond.code yX6_rope cX6_rope 4 (some .int), Cond.fieldLink RX6 39 "GlassRopesModel" "ropes" "I", Cond.methodLink RX6 59 yX6_isHung, Cond.instanceMethod yX6_isHung, Cond.selects RX6 yX6_isHung yX6_isHung, Cond.code yX6_isHung cX6_isHung 3 (some .boolean), Cond.methodLink RX6 42 yX6_ro, Cond.instanceMethod yX6_ro, Cond.selects RX6 yX6_ro yX6_ro, Cond.code yX6_ro cX6_ro 3 (some .int), Cond.methodLink RX6 63 yX6_let, Cond.instanceMethod yX6_let, Cond.selects RX6 yX6_let yX6_let, Cond.code yX6_let cX6_let 4 none, Cond.methodLink RL 86 yL_feast, Cond.static yL_feast, Cond.codeWith yL_feast cL_feast 5 (some .int) [(0, 10, 13, 13), (0, 10, 17, 17)], Cond.methodLink RL 23 yX5_feast, Cond.instanceMethod yX5_feast, Cond.selects RX5 yX5_feast yX5_feast, Cond.code yX5_feast cX5_feast 3 (some .int), Cond.methodLink RX5 86 yX1_put, Cond.instanceMethod yX1_put]
def wsL_law0_r8 : List Cond := [Cond.selects RX1 yX1_put yX1_put, Cond.code yX1_put cX1_put 3 (some .int), Cond.methodLink RL 89 yX6_feast, Cond.instanceMethod yX6_feast, Cond.selects RX6 yX6_feast yX6_feast, Cond.code yX6_feast cX6_feast 3 (some .int), Cond.fieldLink RX6 46 "GlassRopesModel" "feasts" "I", Cond.methodLink RL 90 yL_setWind, Cond.static yL_setWind, Cond.codeWith yL_setWind cL_setWind 4 (some .int) [(0, 9, 12, 13)], Cond.methodLink RL 27 yX5_setWind, Cond.instanceMethod yX5_setWind, Cond.selects RX5 yX5_setWind yX5_setWind, Cond.code yX5_setWind cX5_setWind 3 (some .int), Cond.methodLink RL 93 yX6_setWind, Cond.instanceMethod yX6_setWind, Cond.selects RX6 yX6_setWind yX6_setWind, Cond.code yX6_setWind cX6_setWind 3 (some .int), Cond.methodLink RL 94 yL_move, Cond.static yL_move, Cond.codeWith yL_move cL_move 5 (some .int) [(0, 10, 13, 15), (0, 10, 17, 17)], Cond.methodLink RL 31 yX5_move, Cond.instanceMethod yX5_move, Cond.selects RX5 yX5_move yX5_move]
def wsL_law0_r9 : List Cond := [Cond.code yX5_move cX5_move 4 (some .int), Cond.methodLink RX5 94 yX5_isRope, Cond.instanceMethod yX5_isRope, Cond.selects RX5 yX5_isRope yX5_isRope, Cond.code yX5_isRope cX5_isRope 2 (some .boolean), Cond.methodLink RX5 105 yX3_rehang, Cond.instanceMethod yX3_rehang, Cond.selects RX3 yX3_rehang yX3_rehang, Cond.code yX3_rehang cX3_rehang 3 none, Cond.methodLink RL 96 yX6_move, Cond.instanceMethod yX6_move, Cond.selects RX6 yX6_move yX6_move, Cond.code yX6_move cX6_move 4 (some .int), Cond.methodLink RX6 67 yX6_isRope, Cond.instanceMethod yX6_isRope, Cond.selects RX6 yX6_isRope yX6_isRope, Cond.code yX6_isRope cX6_isRope 2 (some .boolean), Cond.methodLink RX6 70 yX6_hang, Cond.instanceMethod yX6_hang, Cond.selects RX6 yX6_hang yX6_hang, Cond.code yX6_hang cX6_hang 3 none, Cond.methodLink RL 97 yL_turn, Cond.static yL_turn, Cond.codeWith yL_turn cL_turn 4 (some .int) [(0, 16, 19, 15)]]
def wsL_law0_r10 : List Cond := [Cond.methodLink RL 34 yX5_turn, Cond.instanceMethod yX5_turn, Cond.selects RX5 yX5_turn yX5_turn, Cond.code yX5_turn cX5_turn 2 (some .boolean), Cond.methodLink RL 99 yX6_turn, Cond.instanceMethod yX6_turn, Cond.selects RX6 yX6_turn yX6_turn, Cond.code yX6_turn cX6_turn 2 (some .boolean), Cond.methodLink RL 100 yL_wipe, Cond.static yL_wipe, Cond.codeWith yL_wipe cL_wipe 4 (some .int) [(0, 9, 12, 15)], Cond.methodLink RL 38 yX5_wipe, Cond.instanceMethod yX5_wipe, Cond.selects RX5 yX5_wipe yX5_wipe, Cond.code yX5_wipe cX5_wipe 2 (some .int), Cond.methodLink RX5 115 yX5_isWindow, Cond.instanceMethod yX5_isWindow, Cond.selects RX5 yX5_isWindow yX5_isWindow, Cond.code yX5_isWindow cX5_isWindow 2 (some .boolean), Cond.methodLink RX5 124 yX4_wipeOff, Cond.instanceMethod yX4_wipeOff, Cond.selects RX4 yX4_wipeOff yX4_wipeOff, Cond.code yX4_wipeOff cX4_wipeOff 6 (some .int), Cond.methodLink RX4 56 yX2_takeOff]
def wsL_law0_r11 : List Cond := [Cond.instanceMethod yX2_takeOff, Cond.selects RX2 yX2_takeOff yX2_takeOff, Cond.code yX2_takeOff cX2_takeOff 6 (some .int), Cond.methodLink RX2 25 Lib.Math.min.name, Cond.static Lib.Math.min.name, Cond.initialized "java/lang/Math", Cond.code Lib.Math.min.name Lib.Math.min.code 2 (some .int), Cond.methodLink RL 102 yX6_wipe, Cond.instanceMethod yX6_wipe, Cond.selects RX6 yX6_wipe yX6_wipe, Cond.code yX6_wipe cX6_wipe 5 (some .int), Cond.methodLink RX6 74 yX6_isWindow, Cond.instanceMethod yX6_isWindow, Cond.selects RX6 yX6_isWindow yX6_isWindow, Cond.code yX6_isWindow cX6_isWindow 2 (some .boolean), Cond.methodLink RX6 77 yX6_wi, Cond.instanceMethod yX6_wi, Cond.selects RX6 yX6_wi yX6_wi, Cond.code yX6_wi cX6_wi 3 (some .int), Cond.methodLink RX6 80 yX6_pane, Cond.static yX6_pane, Cond.code yX6_pane cX6_pane 2 (some .int), Cond.methodLink RL 103 yL_pass, Cond.static yL_pass]
def wsL_law0_r12 : List Cond := [Cond.codeWith yL_pass cL_pass 4 (some .int) [(0, 9, 12, 13)], Cond.methodLink RL 41 yX5_pass, Cond.instanceMethod yX5_pass, Cond.selects RX5 yX5_pass yX5_pass, Cond.code yX5_pass cX5_pass 3 (some .int), Cond.methodLink RX5 133 yX0_goOn, Cond.instanceMethod yX0_goOn, Cond.selects RX0 yX0_goOn yX0_goOn, Cond.code yX0_goOn cX0_goOn 5 none, Cond.methodLink RX0 43 yX0_goOneDay, Cond.instanceMethod yX0_goOneDay, Cond.selects RX0 yX0_goOneDay yX0_goOneDay, Cond.code yX0_goOneDay cX0_goOneDay 3 none, Cond.methodLink RX0 47 yX2_gather, Cond.instanceMethod yX2_gather, Cond.selects RX2 yX2_gather yX2_gather, Cond.code yX2_gather cX2_gather 6 none, Cond.methodLink RX2 21 yX2_broughtTo, Cond.static yX2_broughtTo, Cond.code yX2_broughtTo cX2_broughtTo 3 (some .int), Cond.methodLink RX2 30 Lib.Math.max.name, Cond.static Lib.Math.max.name, Cond.code Lib.Math.max.name Lib.Math.max.code 2 (some .int), Cond.methodLink RX0 51 yX1_areOn]
def wsL_law0_r13 : List Cond := [Cond.instanceMethod yX1_areOn, Cond.selects RX1 yX1_areOn yX1_areOn, Cond.code yX1_areOn cX1_areOn 4 (some .boolean), Cond.methodLink RX0 57 yX4_allBring, Cond.instanceMethod yX4_allBring, Cond.selects RX4 yX4_allBring yX4_allBring, Cond.code yX4_allBring cX4_allBring 4 (some .int), Cond.methodLink RX4 38 yX4_brings, Cond.instanceMethod yX4_brings, Cond.selects RX4 yX4_brings yX4_brings, Cond.code yX4_brings cX4_brings 3 (some .int), Cond.methodLink RX4 47 Lib.Math.max.name, Cond.methodLink RX4 52 yX4_panes, Cond.instanceMethod yX4_panes, Cond.selects RX4 yX4_panes yX4_panes, Cond.code yX4_panes cX4_panes 2 (some .int), Cond.methodLink RX4 31 yX4_added, Cond.instanceMethod yX4_added, Cond.selects RX4 yX4_added yX4_added, Cond.code yX4_added cX4_added 6 (some .int), Cond.methodLink RX4 41 yX2_at, Cond.instanceMethod yX2_at, Cond.selects RX2 yX2_at yX2_at, Cond.code yX2_at cX2_at 3 (some .int)]
def wsL_law0_r14 : List Cond := [Cond.methodLink RX0 63 yX3_work, Cond.instanceMethod yX3_work, Cond.selects RX3 yX3_work yX3_work, Cond.code yX3_work cX3_work 3 none, Cond.methodLink RX3 35 yX3_workOnOne, Cond.instanceMethod yX3_workOnOne, Cond.selects RX3 yX3_workOnOne yX3_workOnOne, Cond.code yX3_workOnOne cX3_workOnOne 6 none, Cond.methodLink RX3 39 yX2_takeOff, Cond.methodLink RX3 45 yX3_nextFreeColumn, Cond.instanceMethod yX3_nextFreeColumn, Cond.selects RX3 yX3_nextFreeColumn yX3_nextFreeColumn, Cond.code yX3_nextFreeColumn cX3_nextFreeColumn 5 (some .int), Cond.methodLink RX3 53 yX3_hangAt, Cond.methodLink RX3 49 yX3_rehang, Cond.methodLink RL 105 yX6_pass, Cond.instanceMethod yX6_pass, Cond.selects RX6 yX6_pass yX6_pass, Cond.code yX6_pass cX6_pass 3 (some .int), Cond.methodLink RX6 121 yX6_daysOn, Cond.instanceMethod yX6_daysOn, Cond.selects RX6 yX6_daysOn yX6_daysOn, Cond.code yX6_daysOn cX6_daysOn 3 none, Cond.methodLink RX6 118 yX6_dayOn]
def wsL_law0_r15 : List Cond := [Cond.instanceMethod yX6_dayOn, Cond.selects RX6 yX6_dayOn yX6_dayOn, Cond.code yX6_dayOn cX6_dayOn 4 none, Cond.methodLink RX6 98 Lib.Math.min.name, Cond.methodLink RX6 105 yX6_blown, Cond.instanceMethod yX6_blown, Cond.selects RX6 yX6_blown yX6_blown, Cond.code yX6_blown cX6_blown 2 (some .int), Cond.methodLink RX6 83 Lib.Math.max.name, Cond.methodLink RX6 108 yX6_isFeastOn, Cond.instanceMethod yX6_isFeastOn, Cond.selects RX6 yX6_isFeastOn yX6_isFeastOn, Cond.code yX6_isFeastOn cX6_isFeastOn 3 (some .boolean), Cond.methodLink RX6 111 yX6_allBring, Cond.instanceMethod yX6_allBring, Cond.selects RX6 yX6_allBring yX6_allBring, Cond.code yX6_allBring cX6_allBring 3 (some .int), Cond.methodLink RX6 95 yX6_brings, Cond.instanceMethod yX6_brings, Cond.selects RX6 yX6_brings yX6_brings, Cond.code yX6_brings cX6_brings 2 (some .int), Cond.methodLink RX6 88 yX6_panes, Cond.instanceMethod yX6_panes, Cond.selects RX6 yX6_panes yX6_panes]
def wsL_law0_r16 : List Cond := [Cond.code yX6_panes cX6_panes 2 (some .int), Cond.methodLink RX6 91 yX6_sootOf, Cond.instanceMethod yX6_sootOf, Cond.selects RX6 yX6_sootOf yX6_sootOf, Cond.code yX6_sootOf cX6_sootOf 7 (some .int), Cond.methodLink RX6 115 yX6_work, Cond.instanceMethod yX6_work, Cond.selects RX6 yX6_work yX6_work, Cond.code yX6_work cX6_work 5 none, Cond.methodLink RX6 101 yX6_moveOn, Cond.instanceMethod yX6_moveOn, Cond.selects RX6 yX6_moveOn yX6_moveOn, Cond.code yX6_moveOn cX6_moveOn 3 none, Cond.methodLink RL 106 yL_soot, Cond.static yL_soot, Cond.codeWith yL_soot cL_soot 5 (some .int) [(0, 10, 13, 15)], Cond.methodLink RL 44 yX5_soot, Cond.instanceMethod yX5_soot, Cond.selects RX5 yX5_soot yX5_soot, Cond.code yX5_soot cX5_soot 3 (some .int), Cond.methodLink RX5 139 yX2_at, Cond.methodLink RL 108 yX6_soot, Cond.instanceMethod yX6_soot, Cond.selects RX6 yX6_soot yX6_soot]
def wsL_law0_r17 : List Cond := [Cond.code yX6_soot cX6_soot 3 (some .int), Cond.methodLink RL 109 yL_about, Cond.static yL_about, Cond.codeWith yL_about cL_about 5 (some .int) [(0, 10, 13, 15)], Cond.methodLink RL 47 yX5_about, Cond.instanceMethod yX5_about, Cond.selects RX5 yX5_about yX5_about, Cond.code yX5_about cX5_about 3 (some .int), Cond.methodLink RX5 146 yX4_number, Cond.instanceMethod yX4_number, Cond.selects RX4 yX4_number yX4_number, Cond.code yX4_number cX4_number 4 (some .int), Cond.methodLink RX4 35 yX4_darkest, Cond.instanceMethod yX4_darkest, Cond.selects RX4 yX4_darkest yX4_darkest, Cond.code yX4_darkest cX4_darkest 6 (some .int), Cond.methodLink RL 111 yX6_about, Cond.instanceMethod yX6_about, Cond.selects RX6 yX6_about yX6_about, Cond.code yX6_about cX6_about 3 (some .int), Cond.methodLink RX6 124 yX6_windowTold, Cond.instanceMethod yX6_windowTold, Cond.selects RX6 yX6_windowTold yX6_windowTold, Cond.code yX6_windowTold cX6_windowTold 3 (some .int)]
def wsL_law0_r18 : List Cond := [Cond.methodLink RL 112 yL_told, Cond.static yL_told, Cond.codeWith yL_told cL_told 5 (some .int) [(0, 10, 13, 15)], Cond.methodLink RL 50 yX5_told, Cond.instanceMethod yX5_told, Cond.selects RX5 yX5_told yX5_told, Cond.code yX5_told cX5_told 3 (some .int), Cond.methodLink RX5 152 yX3_number, Cond.instanceMethod yX3_number, Cond.selects RX3 yX3_number yX3_number, Cond.code yX3_number cX3_number 3 (some .int), Cond.methodLink RL 114 yX6_told, Cond.instanceMethod yX6_told, Cond.selects RX6 yX6_told yX6_told, Cond.code yX6_told cX6_told 3 (some .int), Cond.methodLink RX6 127 yX6_ropeTold, Cond.instanceMethod yX6_ropeTold, Cond.selects RX6 yX6_ropeTold yX6_ropeTold, Cond.code yX6_ropeTold cX6_ropeTold 3 (some .int), Cond.methodLink RL 115 yL_count, Cond.static yL_count, Cond.codeWith yL_count cL_count 4 (some .int) [(0, 9, 12, 15)], Cond.methodLink RL 53 yX5_count, Cond.instanceMethod yX5_count]
def wsL_law0_r19 : List Cond := [Cond.selects RX5 yX5_count yX5_count, Cond.code yX5_count cX5_count 2 (some .int), Cond.methodLink RX5 156 yX5_number, Cond.instanceMethod yX5_number, Cond.selects RX5 yX5_number yX5_number, Cond.code yX5_number cX5_number 2 (some .int), Cond.methodLink RX5 172 yX2_total, Cond.instanceMethod yX2_total, Cond.selects RX2 yX2_total yX2_total, Cond.code yX2_total cX2_total 3 (some .int), Cond.methodLink RX5 199 yX2_cleanPanes, Cond.instanceMethod yX2_cleanPanes, Cond.selects RX2 yX2_cleanPanes yX2_cleanPanes, Cond.code yX2_cleanPanes cX2_cleanPanes 3 (some .int), Cond.methodLink RX5 176 yX3_allCleaned, Cond.instanceMethod yX3_allCleaned, Cond.selects RX3 yX3_allCleaned yX3_allCleaned, Cond.code yX3_allCleaned cX3_allCleaned 3 (some .int), Cond.methodLink RX5 205 yX4_allBring, Cond.methodLink RL 117 yX6_count, Cond.instanceMethod yX6_count, Cond.selects RX6 yX6_count yX6_count, Cond.code yX6_count cX6_count 2 (some .int), Cond.methodLink RX6 136 yX6_counted]
def wsL_law0_r20 : List Cond := [Cond.instanceMethod yX6_counted, Cond.selects RX6 yX6_counted yX6_counted, Cond.code yX6_counted cX6_counted 4 (some .int), Cond.methodLink RX6 130 yX6_allSoot, Cond.instanceMethod yX6_allSoot, Cond.selects RX6 yX6_allSoot yX6_allSoot, Cond.code yX6_allSoot cX6_allSoot 3 (some .int), Cond.methodLink RX6 133 yX6_cleaned, Cond.instanceMethod yX6_cleaned, Cond.selects RX6 yX6_cleaned yX6_cleaned, Cond.code yX6_cleaned cX6_cleaned 3 (some .int), Cond.methodLink RL 118 yL_isFeast, Cond.static yL_isFeast, Cond.codeWith yL_isFeast cL_isFeast 4 (some .int) [(0, 16, 19, 13)], Cond.methodLink RL 56 yX5_isFeast, Cond.instanceMethod yX5_isFeast, Cond.selects RX5 yX5_isFeast yX5_isFeast, Cond.code yX5_isFeast cX5_isFeast 2 (some .boolean), Cond.methodLink RX5 162 yX1_areOn, Cond.methodLink RL 120 yX6_isFeast, Cond.instanceMethod yX6_isFeast, Cond.selects RX6 yX6_isFeast yX6_isFeast, Cond.code yX6_isFeast cX6_isFeast 2 (some .boolean), Cond.methodLink RL 121 yX5_next]
def wsL_law0_r21 : List Cond := [Cond.instanceMethod yX5_next, Cond.selects RX5 yX5_next yX5_next, Cond.code yX5_next cX5_next 1 (some .int), Cond.methodLink RX5 165 yX1_daysUntil, Cond.instanceMethod yX1_daysUntil, Cond.selects RX1 yX1_daysUntil yX1_daysUntil, Cond.code yX1_daysUntil cX1_daysUntil 3 (some .int), Cond.methodLink RX1 22 yX1_areOn, Cond.methodLink RL 124 yX6_next, Cond.instanceMethod yX6_next, Cond.selects RX6 yX6_next yX6_next, Cond.code yX6_next cX6_next 1 (some .int), Cond.methodLink RX6 139 yX6_nextFeast, Cond.instanceMethod yX6_nextFeast, Cond.selects RX6 yX6_nextFeast yX6_nextFeast, Cond.code yX6_nextFeast cX6_nextFeast 2 (some .int), Cond.methodLink RL 125 yL_would, Cond.static yL_would, Cond.codeWith yL_would cL_would 5 (some .int) [(0, 10, 13, 13), (0, 10, 17, 15)], Cond.methodLink RL 59 yX5_would, Cond.instanceMethod yX5_would, Cond.selects RX5 yX5_would yX5_would, Cond.code yX5_would cX5_would 3 (some .int), Cond.methodLink RX5 168 yX0_copyFrom]
def wsL_law0_r22 : List Cond := [Cond.instanceMethod yX0_copyFrom, Cond.selects RX0 yX0_copyFrom yX0_copyFrom, Cond.code yX0_copyFrom cX0_copyFrom 2 none, Cond.methodLink RX0 36 yX2_copyFrom, Cond.instanceMethod yX2_copyFrom, Cond.selects RX2 yX2_copyFrom yX2_copyFrom, Cond.code yX2_copyFrom cX2_copyFrom 2 none, Cond.methodLink RX2 15 arraycopyName, Cond.methodLink RX0 40 yX3_copyFrom, Cond.instanceMethod yX3_copyFrom, Cond.selects RX3 yX3_copyFrom yX3_copyFrom, Cond.code yX3_copyFrom cX3_copyFrom 3 none, Cond.methodLink RL 127 yX6_would, Cond.instanceMethod yX6_would, Cond.selects RX6 yX6_would yX6_would, Cond.code yX6_would cX6_would 4 (some .int), Cond.methodLink RX6 142 yX6_keep, Cond.instanceMethod yX6_keep, Cond.selects RX6 yX6_keep yX6_keep, Cond.code yX6_keep cX6_keep 1 none, Cond.methodLink RX6 145 yX6_bringBack, Cond.instanceMethod yX6_bringBack, Cond.selects RX6 yX6_bringBack yX6_bringBack, Cond.code yX6_bringBack cX6_bringBack 1 none]
def wsL_law0_r23 : List Cond := [Cond.methodLink RL 128 yL_until, Cond.static yL_until, Cond.codeWith yL_until cL_until 4 (some .int) [(0, 9, 12, 15)], Cond.methodLink RL 62 yX5_until, Cond.instanceMethod yX5_until, Cond.selects RX5 yX5_until yX5_until, Cond.code yX5_until cX5_until 3 (some .int), Cond.methodLink RX5 179 yX4_isClean, Cond.instanceMethod yX4_isClean, Cond.selects RX4 yX4_isClean yX4_isClean, Cond.code yX4_isClean cX4_isClean 3 (some .boolean), Cond.methodLink RX5 183 yX0_goOneDay, Cond.methodLink RL 130 yX6_until, Cond.instanceMethod yX6_until, Cond.selects RX6 yX6_until yX6_until, Cond.code yX6_until cX6_until 3 (some .int), Cond.methodLink RL 131 yL_advise, Cond.static yL_advise, Cond.codeWith yL_advise cL_advise 4 (some .int) [(0, 9, 12, 15), (0, 9, 15, 17)], Cond.methodLink RL 65 yX5_advise, Cond.instanceMethod yX5_advise, Cond.selects RX5 yX5_advise yX5_advise, Cond.code yX5_advise cX5_advise 8 (some .int), Cond.methodLink RX5 189 yX5_coinsBehind]
def wsL_law0_r24 : List Cond := [Cond.instanceMethod yX5_coinsBehind, Cond.selects RX5 yX5_coinsBehind yX5_coinsBehind, Cond.code yX5_coinsBehind cX5_coinsBehind 5 (some .int), Cond.methodLink RL 133 yX6_advise, Cond.instanceMethod yX6_advise, Cond.selects RX6 yX6_advise yX6_advise, Cond.code yX6_advise cX6_advise 7 (some .int), Cond.methodLink RL 134 yX5_mean, Cond.instanceMethod yX5_mean, Cond.selects RX5 yX5_mean yX5_mean, Cond.code yX5_mean cX5_mean 1 (some .double), Cond.constantDouble RX5 193 (4636455816377925632), Cond.methodLink RL 138 yX6_mean, Cond.instanceMethod yX6_mean, Cond.selects RX6 yX6_mean yX6_mean, Cond.code yX6_mean cX6_mean 1 (some .double), Cond.constantDouble RX6 148 (4636455816377925632), Cond.methodLink RL 139 yX5_digest, Cond.instanceMethod yX5_digest, Cond.selects RX5 yX5_digest yX5_digest, Cond.code yX5_digest cX5_digest 5 (some .long), Cond.constantLong RX5 195 (1823), Cond.constantLong RX5 197 (31), Cond.methodLink RL 143 yX6_digest]
def wsL_law0_r25 : List Cond := [Cond.instanceMethod yX6_digest, Cond.selects RX6 yX6_digest yX6_digest, Cond.code yX6_digest cX6_digest 5 (some .long), Cond.constantLong RX6 150 (1823), Cond.constantLong RX6 152 (31)]
def wsL_law0 : List Cond := (wsL_law0_r1 ++ (wsL_law0_r2 ++ (wsL_law0_r3 ++ (wsL_law0_r4 ++ (wsL_law0_r5 ++ (wsL_law0_r6 ++ (wsL_law0_r7 ++ (wsL_law0_r8 ++ (wsL_law0_r9 ++ (wsL_law0_r10 ++ (wsL_law0_r11 ++ (wsL_law0_r12 ++ (wsL_law0_r13 ++ (wsL_law0_r14 ++ (wsL_law0_r15 ++ (wsL_law0_r16 ++ (wsL_law0_r17 ++ (wsL_law0_r18 ++ (wsL_law0_r19 ++ (wsL_law0_r20 ++ (wsL_law0_r21 ++ (wsL_law0_r22 ++ (wsL_law0_r23 ++ (wsL_law0_r24 ++ wsL_law0_r25)))))))))))))))))))))))) ++ wsX50 ++ wsX60 ++ wsX40 ++ wsX10 ++ wsX00 ++ wsX20 ++ wsX30 ++ ([] : List Cond)
def wsL_law : List Cond := wsL_law0 ++ (vx_atS RX5 37 "java/lang/IllegalArgumentException" ["java/lang/RuntimeException", "java/lang/Exception"]).filter goodWord ++ (vx_atS RX5 44 "java/lang/IndexOutOfBoundsException" ["java/lang/RuntimeException", "java/lang/Exception"]).filter goodWord ++ (vx_atS RX5 53 "java/lang/IllegalStateException" ["java/lang/RuntimeException", "java/lang/Exception"]).filter goodWord
abbrev vwCl : List vw_C := [(RX0, TX0, 6), (RX1, TX1, 3), (RX2, TX2, 1), (RX3, TX3, 7), (RX4, TX4, 6), (RX5, TX5, 4), (RX6, TX6, 10)]
end
section
/-! THE WALK'S OWN LAYER: G says 'from this pc, with these locals, this stack and these cells, the machine comes to Q'; a row an instruction. -/
theorem fm_map {α : Type} {ws : List α} : ∀ (is : List Nat) (w : List α), is.map (fun i => ws[i]?) = w.map some → is.filterMap (fun i => ws[i]?) = w := by
  intro is
  induction is with
  | nil => intro w hw; cases w with
    | nil => rfl
    | cons a w => cases hw
  | cons i is ih =>
    intro w hw
    cases w with
    | nil => cases hw
    | cons a w =>
      simp only [List.map_cons, List.cons.injEq] at hw
      rw [List.filterMap_cons, hw.1]
      simp only [ih w hw.2]
section GL
variable {p : Program} {l : Launch} {e : Env} {R : Room} {s : State} {m : MethodId} {args : Array Value} {below : List Frame} {meth : Method} {c : Code} {Q : State → Prop}
variable {D : va_G} {tys : List (ClassId × FieldType)} {A : Nat → Prop} {cc : ByteArray} {nL kc ks : Nat} {own : String} {Ts : List Cond}
variable {ws ws' : va_W} {lv lv' : List (Nat × Value)} {pc pc' tgt : Nat} {st : List Value}
/-- what stays the same through a walk -/
def gX (p : Program) (s : State) (m : MethodId) (args : Array Value) (c : Code) (D : va_G) (tys : List (ClassId × FieldType)) (A : Nat → Prop) (cc : ByteArray) (nL : Nat) (own : String) (Ts : List Cond) : Prop :=
  p.tables.exec = Jvm.exec ∧ c.code = cc ∧ c.maxLocals = nL ∧ s.vm.findClass own = some m.cls ∧ (∀ w ∈ Ts, w.before args s = true) ∧ va_K D vwCl tys s ∧ (∀ q : Nat, s.heap.size ≤ q → A q)
def G (p : Program) (l : Launch) (e : Env) (R : Room) (s : State) (m : MethodId) (args : Array Value) (below : List Frame) (meth : Method) (c : Code) (Q : State → Prop) (D : va_G) (A : Nat → Prop) (nL kc ks : Nat) (ws : va_W) (lv : List (Nat × Value)) (pc : Nat) (st : List Value) : Prop :=
  ∀ (H : Heap) (locs : List Loc) (ls : Array Slot), va_P D vwCl ws H → va_D A ws → va_S A s.heap H locs → lv_has ls nL lv → W p l e R s m args below meth c H locs kc ks Q (F0 m pc ls st)
theorem gX.fix (X : gX p s m args c D tys A cc nL own Ts) : CallFix p m c cc nL s args Ts own := ⟨X.1, X.2.1, X.2.2.1, X.2.2.2.1, X.2.2.2.2.1⟩
theorem gX.K (X : gX p s m args c D tys A cc nL own Ts) : va_K D vwCl tys s := X.2.2.2.2.2.1
theorem gX.hA (X : gX p s m args c D tys A cc nL own Ts) : ∀ q : Nat, s.heap.size ≤ q → A q := X.2.2.2.2.2.2
theorem gX.hts (X : gX p s m args c D tys A cc nL own Ts) : ∀ w ∈ Ts, w.before args s = true := X.2.2.2.2.1
/-- constants -/
theorem g_iconst (X : gX p s m args c D tys A cc nL own Ts) {n : Int} (v : Int32) (pc' : Nat) (hd : decode cc pc = .ok (.iconst n, 1)) (hn : pc + 1 = pc') (hv : Int32.ofInt n = v) (k : G p l e R s m args below meth c Q D A nL kc ks ws lv pc' (.int v :: st)) : G p l e R s m args below meth c Q D A nL kc ks ws lv pc st := by
  subst hn
  exact fun H locs ls hP hD hS hl => lv_iconst X.1 X.2.1 hd hv (k H locs ls hP hD hS hl)
theorem g_bipush (X : gX p s m args c D tys A cc nL own Ts) {n : Int} (v : Int32) (pc' : Nat) (hd : decode cc pc = .ok (.bipush n, 2)) (hn : pc + 2 = pc') (hv : (Int8.ofInt n).toInt32 = v) (k : G p l e R s m args below meth c Q D A nL kc ks ws lv pc' (.int v :: st)) : G p l e R s m args below meth c Q D A nL kc ks ws lv pc st := by
  subst hn
  exact fun H locs ls hP hD hS hl => lv_bipush X.1 X.2.1 hd hv (k H locs ls hP hD hS hl)
theorem g_sipush (X : gX p s m args c D tys A cc nL own Ts) {n : Int} (v : Int32) (pc' : Nat) (hd : decode cc pc = .ok (.sipush n, 3)) (hn : pc + 3 = pc') (hv : (Int16.ofInt n).toInt32 = v) (k : G p l e R s m args below meth c Q D A nL kc ks ws lv pc' (.int v :: st)) : G p l e R s m args below meth c Q D A nL kc ks ws lv pc st := by
  subst hn
  exact fun H locs ls hP hD hS hl => lv_sipush X.1 X.2.1 hd hv (k H locs ls hP hD hS hl)
/-- locals -/
theorem g_iload_n (X : gX p s m args c D tys A cc nL own Ts) {i : Fin 4} {j : Nat} {x : Int32} (q pc' : Nat) (hd : decode cc pc = .ok (.iload_n i, 1)) (hn : pc + 1 = pc') (hi : (i : Nat) = j) (hj : lv[q]? = some (j, .int x)) (k : G p l e R s m args below meth c Q D A nL kc ks ws lv pc' (.int x :: st)) : G p l e R s m args below meth c Q D A nL kc ks ws lv pc st := by
  subst hn
  exact fun H locs ls hP hD hS hl => lv_iload_n X.1 X.2.1 hd hi (lv_at hl q hj) (k H locs ls hP hD hS hl)
theorem g_iload (X : gX p s m args c D tys A cc nL own Ts) {i : Nat} {x : Int32} (q pc' : Nat) (hd : decode cc pc = .ok (.iload i, 2)) (hn : pc + 2 = pc') (hj : lv[q]? = some (i, .int x)) (k : G p l e R s m args below meth c Q D A nL kc ks ws lv pc' (.int x :: st)) : G p l e R s m args below meth c Q D A nL kc ks ws lv pc st := by
  subst hn
  exact fun H locs ls hP hD hS hl => lv_iload X.1 X.2.1 hd (lv_at hl q hj) (k H locs ls hP hD hS hl)
theorem g_aload_n (X : gX p s m args c D tys A cc nL own Ts) {i : Fin 4} {j : Nat} {x : Nat} (q pc' : Nat) (hd : decode cc pc = .ok (.aload_n i, 1)) (hn : pc + 1 = pc') (hi : (i : Nat) = j) (hj : lv[q]? = some (j, .ref x)) (k : G p l e R s m args below meth c Q D A nL kc ks ws lv pc' (.ref x :: st)) : G p l e R s m args below meth c Q D A nL kc ks ws lv pc st := by
  subst hn
  exact fun H locs ls hP hD hS hl => lv_aload_n X.1 X.2.1 hd hi (lv_at hl q hj) (k H locs ls hP hD hS hl)
theorem g_aload (X : gX p s m args c D tys A cc nL own Ts) {i : Nat} {x : Nat} (q pc' : Nat) (hd : decode cc pc = .ok (.aload i, 2)) (hn : pc + 2 = pc') (hj : lv[q]? = some (i, .ref x)) (k : G p l e R s m args below meth c Q D A nL kc ks ws lv pc' (.ref x :: st)) : G p l e R s m args below meth c Q D A nL kc ks ws lv pc st := by
  subst hn
  exact fun H locs ls hP hD hS hl => lv_aload X.1 X.2.1 hd (lv_at hl q hj) (k H locs ls hP hD hS hl)
theorem g_lload_n (X : gX p s m args c D tys A cc nL own Ts) {i : Fin 4} {j : Nat} {x : Int64} (q pc' : Nat) (hd : decode cc pc = .ok (.lload_n i, 1)) (hn : pc + 1 = pc') (hi : (i : Nat) = j) (hj : lv[q]? = some (j, .long x)) (k : G p l e R s m args below meth c Q D A nL kc ks ws lv pc' (.long x :: st)) : G p l e R s m args below meth c Q D A nL kc ks ws lv pc st := by
  subst hn
  exact fun H locs ls hP hD hS hl => lv_lload_n X.1 X.2.1 hd hi (lv_at hl q hj) (k H locs ls hP hD hS hl)
theorem g_dload (X : gX p s m args c D tys A cc nL own Ts) {i : Nat} {x : UInt64} (q pc' : Nat) (hd : decode cc pc = .ok (.dload i, 2)) (hn : pc + 2 = pc') (hj : lv[q]? = some (i, .double x)) (k : G p l e R s m args below meth c Q D A nL kc ks ws lv pc' (.double x :: st)) : G p l e R s m args below meth c Q D A nL kc ks ws lv pc st := by
  subst hn
  exact fun H locs ls hP hD hS hl => lv_dload X.1 X.2.1 hd (lv_at hl q hj) (k H locs ls hP hD hS hl)
abbrev gSt (i : Nat) (v : Value) (lv : List (Nat × Value)) : List (Nat × Value) := (i, v) :: lv.filter (fun q => !(q.1 == i) && !(q.1 + 1 == i && q.2.category == 2))
theorem g_istore_n (X : gX p s m args c D tys A cc nL own Ts) {i : Fin 4} {j : Nat} {x : Int32} (lv' : List (Nat × Value)) (pc' : Nat) (hd : decode cc pc = .ok (.istore_n i, 1)) (hn : pc + 1 = pc') (hi : (i : Nat) = j) (hj : j < nL) (hl' : gSt j (.int x) lv = lv') (k : G p l e R s m args below meth c Q D A nL kc ks ws lv' pc' st) : G p l e R s m args below meth c Q D A nL kc ks ws lv pc (.int x :: st) := by
  subst hn
  exact fun H locs ls hP hD hS hl => lv_istore_n X.1 X.2.1 hd hi hl hj hl' (fun ls hl => k H locs ls hP hD hS hl)
theorem g_istore (X : gX p s m args c D tys A cc nL own Ts) {i : Nat} {x : Int32} (lv' : List (Nat × Value)) (pc' : Nat) (hd : decode cc pc = .ok (.istore i, 2)) (hn : pc + 2 = pc') (hj : i < nL) (hl' : gSt i (.int x) lv = lv') (k : G p l e R s m args below meth c Q D A nL kc ks ws lv' pc' st) : G p l e R s m args below meth c Q D A nL kc ks ws lv pc (.int x :: st) := by
  subst hn
  exact fun H locs ls hP hD hS hl => lv_istore X.1 X.2.1 hd hl hj hl' (fun ls hl => k H locs ls hP hD hS hl)
theorem g_astore_n (X : gX p s m args c D tys A cc nL own Ts) {i : Fin 4} {j : Nat} {x : Nat} (lv' : List (Nat × Value)) (pc' : Nat) (hd : decode cc pc = .ok (.astore_n i, 1)) (hn : pc + 1 = pc') (hi : (i : Nat) = j) (hj : j < nL) (hl' : gSt j (.ref x) lv = lv') (k : G p l e R s m args below meth c Q D A nL kc ks ws lv' pc' st) : G p l e R s m args below meth c Q D A nL kc ks ws lv pc (.ref x :: st) := by
  subst hn
  exact fun H locs ls hP hD hS hl => lv_astore_n X.1 X.2.1 hd hi hl hj hl' (fun ls hl => k H locs ls hP hD hS hl)
theorem g_astore (X : gX p s m args c D tys A cc nL own Ts) {i : Nat} {x : Nat} (lv' : List (Nat × Value)) (pc' : Nat) (hd : decode cc pc = .ok (.astore i, 2)) (hn : pc + 2 = pc') (hj : i < nL) (hl' : gSt i (.ref x) lv = lv') (k : G p l e R s m args below meth c Q D A nL kc ks ws lv' pc' st) : G p l e R s m args below meth c Q D A nL kc ks ws lv pc (.ref x :: st) := by
  subst hn
  exact fun H locs ls hP hD hS hl => lv_astore X.1 X.2.1 hd hl hj hl' (fun ls hl => k H locs ls hP hD hS hl)
theorem g_lstore_n (X : gX p s m args c D tys A cc nL own Ts) {i : Fin 4} {j : Nat} {x : Int64} (lv' : List (Nat × Value)) (pc' : Nat) (hd : decode cc pc = .ok (.lstore_n i, 1)) (hn : pc + 1 = pc') (hi : (i : Nat) = j) (hj : j + 1 < nL) (hl' : (j, Value.long x) :: lv.filter (fun q => !(q.1 == j) && (!(q.1 == j + 1) && !(q.1 + 1 == j && q.2.category == 2))) = lv') (k : G p l e R s m args below meth c Q D A nL kc ks ws lv' pc' st) : G p l e R s m args below meth c Q D A nL kc ks ws lv pc (.long x :: st) := by
  subst hn
  exact fun H locs ls hP hD hS hl => lv_lstore_n X.1 X.2.1 hd hi hl hj hl' (fun ls hl => k H locs ls hP hD hS hl)
theorem g_dstore (X : gX p s m args c D tys A cc nL own Ts) {i : Nat} {x : UInt64} (lv' : List (Nat × Value)) (pc' : Nat) (hd : decode cc pc = .ok (.dstore i, 2)) (hn : pc + 2 = pc') (hj : i + 1 < nL) (hl' : (i, Value.double x) :: lv.filter (fun q => !(q.1 == i) && (!(q.1 == i + 1) && !(q.1 + 1 == i && q.2.category == 2))) = lv') (k : G p l e R s m args below meth c Q D A nL kc ks ws lv' pc' st) : G p l e R s m args below meth c Q D A nL kc ks ws lv pc (.double x :: st) := by
  subst hn
  exact fun H locs ls hP hD hS hl => lv_dstore X.1 X.2.1 hd hl hj hl' (fun ls hl => k H locs ls hP hD hS hl)
/-- an int's counter goes on -/
theorem g_iinc (X : gX p s m args c D tys A cc nL own Ts) {i : Nat} {n : Int} {x : Int32} (q : Nat) (v : Int32) (lv' : List (Nat × Value)) (pc' : Nat) (hd : decode cc pc = .ok (.iinc i n, 3)) (hn : pc + 3 = pc') (hq : lv[q]? = some (i, .int x)) (hv : x + Int32.ofInt n = v) (hj : i < nL) (hl' : gSt i (.int v) lv = lv') (k : G p l e R s m args below meth c Q D A nL kc ks ws lv' pc' st) : G p l e R s m args below meth c Q D A nL kc ks ws lv pc st := by
  subst hn
  exact fun H locs ls hP hD hS hl => lv_iinc X.1 X.2.1 hd hl hq hv hj hl' (fun ls hl => k H locs ls hP hD hS hl)
/-- fewer locals, in any order -/
theorem g_lv (ks0 : List Nat) (hl' : lv_pick lv ks0 = lv') (k : G p l e R s m args below meth c Q D A nL kc ks ws lv' pc st) : G p l e R s m args below meth c Q D A nL kc ks ws lv pc st :=
  fun H locs ls hP hD hS hl => k H locs ls hP hD hS (lv_sub hl ks0 hl')
/-- the stack -/
theorem g_dup (X : gX p s m args c D tys A cc nL own Ts) {v : Value} (pc' : Nat) (hd : decode cc pc = .ok (.dup, 1)) (hn : pc + 1 = pc') (hv : v.category = 1) (k : G p l e R s m args below meth c Q D A nL kc ks ws lv pc' (v :: v :: st)) : G p l e R s m args below meth c Q D A nL kc ks ws lv pc (v :: st) := by
  subst hn
  exact fun H locs ls hP hD hS hl => lv_dup X.1 X.2.1 hd hv (k H locs ls hP hD hS hl)
theorem g_pop (X : gX p s m args c D tys A cc nL own Ts) {v : Value} (pc' : Nat) (hd : decode cc pc = .ok (.pop, 1)) (hn : pc + 1 = pc') (hv : v.category = 1) (k : G p l e R s m args below meth c Q D A nL kc ks ws lv pc' st) : G p l e R s m args below meth c Q D A nL kc ks ws lv pc (v :: st) := by
  subst hn
  exact fun H locs ls hP hD hS hl => lv_pop X.1 X.2.1 hd hv (k H locs ls hP hD hS hl)
/-- arithmetic: the answer under a name of its own -/
theorem g_iadd (X : gX p s m args c D tys A cc nL own Ts) {x y : Int32} (z : Int32) (pc' : Nat) (hd : decode cc pc = .ok (.iadd, 1)) (hn : pc + 1 = pc') (hz : x + y = z) (k : G p l e R s m args below meth c Q D A nL kc ks ws lv pc' (.int z :: st)) : G p l e R s m args below meth c Q D A nL kc ks ws lv pc (.int y :: .int x :: st) := by
  subst hn
  subst hz
  exact fun H locs ls hP hD hS hl => lv_iadd X.1 X.2.1 hd (k H locs ls hP hD hS hl)
theorem g_isub (X : gX p s m args c D tys A cc nL own Ts) {x y : Int32} (z : Int32) (pc' : Nat) (hd : decode cc pc = .ok (.isub, 1)) (hn : pc + 1 = pc') (hz : x - y = z) (k : G p l e R s m args below meth c Q D A nL kc ks ws lv pc' (.int z :: st)) : G p l e R s m args below meth c Q D A nL kc ks ws lv pc (.int y :: .int x :: st) := by
  subst hn
  subst hz
  exact fun H locs ls hP hD hS hl => lv_isub X.1 X.2.1 hd (k H locs ls hP hD hS hl)
theorem g_imul (X : gX p s m args c D tys A cc nL own Ts) {x y : Int32} (z : Int32) (pc' : Nat) (hd : decode cc pc = .ok (.imul, 1)) (hn : pc + 1 = pc') (hz : x * y = z) (k : G p l e R s m args below meth c Q D A nL kc ks ws lv pc' (.int z :: st)) : G p l e R s m args below meth c Q D A nL kc ks ws lv pc (.int y :: .int x :: st) := by
  subst hn
  subst hz
  exact fun H locs ls hP hD hS hl => lv_imul X.1 X.2.1 hd (k H locs ls hP hD hS hl)
theorem g_idiv (X : gX p s m args c D tys A cc nL own Ts) {x y : Int32} (z : Int32) (pc' : Nat) (hd : decode cc pc = .ok (.idiv, 1)) (hn : pc + 1 = pc') (hy : ¬ y = 0) (hz : x / y = z) (k : G p l e R s m args below meth c Q D A nL kc ks ws lv pc' (.int z :: st)) : G p l e R s m args below meth c Q D A nL kc ks ws lv pc (.int y :: .int x :: st) := by
  subst hn
  subst hz
  exact fun H locs ls hP hD hS hl => lv_idiv X.1 X.2.1 hd hy (k H locs ls hP hD hS hl)
theorem g_irem (X : gX p s m args c D tys A cc nL own Ts) {x y : Int32} (z : Int32) (pc' : Nat) (hd : decode cc pc = .ok (.irem, 1)) (hn : pc + 1 = pc') (hy : ¬ y = 0) (hz : x - x / y * y = z) (k : G p l e R s m args below meth c Q D A nL kc ks ws lv pc' (.int z :: st)) : G p l e R s m args below meth c Q D A nL kc ks ws lv pc (.int y :: .int x :: st) := by
  subst hn
  subst hz
  exact fun H locs ls hP hD hS hl => lv_irem X.1 X.2.1 hd hy (k H locs ls hP hD hS hl)
theorem g_ineg (X : gX p s m args c D tys A cc nL own Ts) {x : Int32} (pc' : Nat) (hd : decode cc pc = .ok (.ineg, 1)) (hn : pc + 1 = pc') (k : G p l e R s m args below meth c Q D A nL kc ks ws lv pc' (.int (-x) :: st)) : G p l e R s m args below meth c Q D A nL kc ks ws lv pc (.int x :: st) := by
  subst hn
  exact fun H locs ls hP hD hS hl => lv_ineg X.1 X.2.1 hd (k H locs ls hP hD hS hl)
theorem g_iand (X : gX p s m args c D tys A cc nL own Ts) {x y : Int32} (pc' : Nat) (hd : decode cc pc = .ok (.iand, 1)) (hn : pc + 1 = pc') (k : G p l e R s m args below meth c Q D A nL kc ks ws lv pc' (.int (x &&& y) :: st)) : G p l e R s m args below meth c Q D A nL kc ks ws lv pc (.int y :: .int x :: st) := by
  subst hn
  exact fun H locs ls hP hD hS hl => lv_iand X.1 X.2.1 hd (k H locs ls hP hD hS hl)
theorem g_i2l (X : gX p s m args c D tys A cc nL own Ts) {x : Int32} (pc' : Nat) (hd : decode cc pc = .ok (.i2l, 1)) (hn : pc + 1 = pc') (k : G p l e R s m args below meth c Q D A nL kc ks ws lv pc' (.long x.toInt64 :: st)) : G p l e R s m args below meth c Q D A nL kc ks ws lv pc (.int x :: st) := by
  subst hn
  exact fun H locs ls hP hD hS hl => lv_i2l X.1 X.2.1 hd rfl (k H locs ls hP hD hS hl)
theorem g_ladd (X : gX p s m args c D tys A cc nL own Ts) {x y : Int64} (pc' : Nat) (hd : decode cc pc = .ok (.ladd, 1)) (hn : pc + 1 = pc') (k : G p l e R s m args below meth c Q D A nL kc ks ws lv pc' (.long (x + y) :: st)) : G p l e R s m args below meth c Q D A nL kc ks ws lv pc (.long y :: .long x :: st) := by
  subst hn
  exact fun H locs ls hP hD hS hl => lv_ladd X.1 X.2.1 hd (k H locs ls hP hD hS hl)
theorem g_lmul (X : gX p s m args c D tys A cc nL own Ts) {x y : Int64} (pc' : Nat) (hd : decode cc pc = .ok (.lmul, 1)) (hn : pc + 1 = pc') (k : G p l e R s m args below meth c Q D A nL kc ks ws lv pc' (.long (x * y) :: st)) : G p l e R s m args below meth c Q D A nL kc ks ws lv pc (.long y :: .long x :: st) := by
  subst hn
  exact fun H locs ls hP hD hS hl => lv_lmul X.1 X.2.1 hd (k H locs ls hP hD hS hl)
theorem g_i2d (X : gX p s m args c D tys A cc nL own Ts) {x : Int32} (pc' : Nat) (hd : decode cc pc = .ok (.i2d, 1)) (hn : pc + 1 = pc') (k : G p l e R s m args below meth c Q D A nL kc ks ws lv pc' (.double (FP.i2d x) :: st)) : G p l e R s m args below meth c Q D A nL kc ks ws lv pc (.int x :: st) := by
  subst hn
  exact fun H locs ls hP hD hS hl => lv_i2d X.1 X.2.1 hd (k H locs ls hP hD hS hl)
/-- branches -/
theorem g_goto (X : gX p s m args c D tys A cc nL own Ts) {off : Int} (tgt : Nat) (hd : decode cc pc = .ok (.goto off, 3)) (ht : (pc : Int) + off = (tgt : Int)) (k : G p l e R s m args below meth c Q D A nL kc ks ws lv tgt st) : G p l e R s m args below meth c Q D A nL kc ks ws lv pc st :=
  fun H locs ls hP hD hS hl => lv_goto X.1 X.2.1 hd ht (k H locs ls hP hD hS hl)
theorem g_icmp_eq (X : gX p s m args c D tys A cc nL own Ts) {x y : Int32} {off : Int} {P : Prop} (pc' tgt : Nat) (hd : decode cc pc = .ok (.if_icmp .eq off, 3)) (hn : pc + 3 = pc') (ht : (pc : Int) + off = (tgt : Int)) (hi : x = y ↔ P) (kt : P → G p l e R s m args below meth c Q D A nL kc ks ws lv tgt st) (kf : ¬ P → G p l e R s m args below meth c Q D A nL kc ks ws lv pc' st) : G p l e R s m args below meth c Q D A nL kc ks ws lv pc (.int y :: .int x :: st) := by
  subst hn
  exact fun H locs ls hP hD hS hl => lv_icmp_eq X.1 X.2.1 hd ht (fun h => kt (hi.mp h) H locs ls hP hD hS hl) (fun h => kf (fun z => h (hi.mpr z)) H locs ls hP hD hS hl)
theorem g_if_eq (X : gX p s m args c D tys A cc nL own Ts) {x : Int32} {off : Int} {P : Prop} (pc' tgt : Nat) (hd : decode cc pc = .ok (.ifCond .eq off, 3)) (hn : pc + 3 = pc') (ht : (pc : Int) + off = (tgt : Int)) (hi : x = 0 ↔ P) (kt : P → G p l e R s m args below meth c Q D A nL kc ks ws lv tgt st) (kf : ¬ P → G p l e R s m args below meth c Q D A nL kc ks ws lv pc' st) : G p l e R s m args below meth c Q D A nL kc ks ws lv pc (.int x :: st) := by
  subst hn
  exact fun H locs ls hP hD hS hl => lv_if_eq X.1 X.2.1 hd ht (fun h => kt (hi.mp h) H locs ls hP hD hS hl) (fun h => kf (fun z => h (hi.mpr z)) H locs ls hP hD hS hl)
theorem g_icmp_ne (X : gX p s m args c D tys A cc nL own Ts) {x y : Int32} {off : Int} {P : Prop} (pc' tgt : Nat) (hd : decode cc pc = .ok (.if_icmp .ne off, 3)) (hn : pc + 3 = pc') (ht : (pc : Int) + off = (tgt : Int)) (hi : x = y ↔ P) (kt : ¬ P → G p l e R s m args below meth c Q D A nL kc ks ws lv tgt st) (kf : P → G p l e R s m args below meth c Q D A nL kc ks ws lv pc' st) : G p l e R s m args below meth c Q D A nL kc ks ws lv pc (.int y :: .int x :: st) := by
  subst hn
  exact fun H locs ls hP hD hS hl => lv_icmp_ne X.1 X.2.1 hd ht (fun h => kt (fun z => h (hi.mpr z)) H locs ls hP hD hS hl) (fun h => kf (hi.mp h) H locs ls hP hD hS hl)
theorem g_if_ne (X : gX p s m args c D tys A cc nL own Ts) {x : Int32} {off : Int} {P : Prop} (pc' tgt : Nat) (hd : decode cc pc = .ok (.ifCond .ne off, 3)) (hn : pc + 3 = pc') (ht : (pc : Int) + off = (tgt : Int)) (hi : x = 0 ↔ P) (kt : ¬ P → G p l e R s m args below meth c Q D A nL kc ks ws lv tgt st) (kf : P → G p l e R s m args below meth c Q D A nL kc ks ws lv pc' st) : G p l e R s m args below meth c Q D A nL kc ks ws lv pc (.int x :: st) := by
  subst hn
  exact fun H locs ls hP hD hS hl => lv_if_ne X.1 X.2.1 hd ht (fun h => kt (fun z => h (hi.mpr z)) H locs ls hP hD hS hl) (fun h => kf (hi.mp h) H locs ls hP hD hS hl)
theorem g_icmp_lt (X : gX p s m args c D tys A cc nL own Ts) {x y : Int32} {off : Int} {P : Prop} (pc' tgt : Nat) (hd : decode cc pc = .ok (.if_icmp .lt off, 3)) (hn : pc + 3 = pc') (ht : (pc : Int) + off = (tgt : Int)) (hi : x < y ↔ P) (kt : P → G p l e R s m args below meth c Q D A nL kc ks ws lv tgt st) (kf : ¬ P → G p l e R s m args below meth c Q D A nL kc ks ws lv pc' st) : G p l e R s m args below meth c Q D A nL kc ks ws lv pc (.int y :: .int x :: st) := by
  subst hn
  exact fun H locs ls hP hD hS hl => lv_icmp_lt X.1 X.2.1 hd ht (fun h => kt (hi.mp h) H locs ls hP hD hS hl) (fun h => kf (fun z => h (hi.mpr z)) H locs ls hP hD hS hl)
theorem g_if_lt (X : gX p s m args c D tys A cc nL own Ts) {x : Int32} {off : Int} {P : Prop} (pc' tgt : Nat) (hd : decode cc pc = .ok (.ifCond .lt off, 3)) (hn : pc + 3 = pc') (ht : (pc : Int) + off = (tgt : Int)) (hi : x < 0 ↔ P) (kt : P → G p l e R s m args below meth c Q D A nL kc ks ws lv tgt st) (kf : ¬ P → G p l e R s m args below meth c Q D A nL kc ks ws lv pc' st) : G p l e R s m args below meth c Q D A nL kc ks ws lv pc (.int x :: st) := by
  subst hn
  exact fun H locs ls hP hD hS hl => lv_if_lt X.1 X.2.1 hd ht (fun h => kt (hi.mp h) H locs ls hP hD hS hl) (fun h => kf (fun z => h (hi.mpr z)) H locs ls hP hD hS hl)
theorem g_icmp_ge (X : gX p s m args c D tys A cc nL own Ts) {x y : Int32} {off : Int} {P : Prop} (pc' tgt : Nat) (hd : decode cc pc = .ok (.if_icmp .ge off, 3)) (hn : pc + 3 = pc') (ht : (pc : Int) + off = (tgt : Int)) (hi : y ≤ x ↔ P) (kt : P → G p l e R s m args below meth c Q D A nL kc ks ws lv tgt st) (kf : ¬ P → G p l e R s m args below meth c Q D A nL kc ks ws lv pc' st) : G p l e R s m args below meth c Q D A nL kc ks ws lv pc (.int y :: .int x :: st) := by
  subst hn
  exact fun H locs ls hP hD hS hl => lv_icmp_ge X.1 X.2.1 hd ht (fun h => kt (hi.mp h) H locs ls hP hD hS hl) (fun h => kf (fun z => h (hi.mpr z)) H locs ls hP hD hS hl)
theorem g_if_ge (X : gX p s m args c D tys A cc nL own Ts) {x : Int32} {off : Int} {P : Prop} (pc' tgt : Nat) (hd : decode cc pc = .ok (.ifCond .ge off, 3)) (hn : pc + 3 = pc') (ht : (pc : Int) + off = (tgt : Int)) (hi : 0 ≤ x ↔ P) (kt : P → G p l e R s m args below meth c Q D A nL kc ks ws lv tgt st) (kf : ¬ P → G p l e R s m args below meth c Q D A nL kc ks ws lv pc' st) : G p l e R s m args below meth c Q D A nL kc ks ws lv pc (.int x :: st) := by
  subst hn
  exact fun H locs ls hP hD hS hl => lv_if_ge X.1 X.2.1 hd ht (fun h => kt (hi.mp h) H locs ls hP hD hS hl) (fun h => kf (fun z => h (hi.mpr z)) H locs ls hP hD hS hl)
theorem g_icmp_gt (X : gX p s m args c D tys A cc nL own Ts) {x y : Int32} {off : Int} {P : Prop} (pc' tgt : Nat) (hd : decode cc pc = .ok (.if_icmp .gt off, 3)) (hn : pc + 3 = pc') (ht : (pc : Int) + off = (tgt : Int)) (hi : y < x ↔ P) (kt : P → G p l e R s m args below meth c Q D A nL kc ks ws lv tgt st) (kf : ¬ P → G p l e R s m args below meth c Q D A nL kc ks ws lv pc' st) : G p l e R s m args below meth c Q D A nL kc ks ws lv pc (.int y :: .int x :: st) := by
  subst hn
  exact fun H locs ls hP hD hS hl => lv_icmp_gt X.1 X.2.1 hd ht (fun h => kt (hi.mp h) H locs ls hP hD hS hl) (fun h => kf (fun z => h (hi.mpr z)) H locs ls hP hD hS hl)
theorem g_if_gt (X : gX p s m args c D tys A cc nL own Ts) {x : Int32} {off : Int} {P : Prop} (pc' tgt : Nat) (hd : decode cc pc = .ok (.ifCond .gt off, 3)) (hn : pc + 3 = pc') (ht : (pc : Int) + off = (tgt : Int)) (hi : 0 < x ↔ P) (kt : P → G p l e R s m args below meth c Q D A nL kc ks ws lv tgt st) (kf : ¬ P → G p l e R s m args below meth c Q D A nL kc ks ws lv pc' st) : G p l e R s m args below meth c Q D A nL kc ks ws lv pc (.int x :: st) := by
  subst hn
  exact fun H locs ls hP hD hS hl => lv_if_gt X.1 X.2.1 hd ht (fun h => kt (hi.mp h) H locs ls hP hD hS hl) (fun h => kf (fun z => h (hi.mpr z)) H locs ls hP hD hS hl)
theorem g_icmp_le (X : gX p s m args c D tys A cc nL own Ts) {x y : Int32} {off : Int} {P : Prop} (pc' tgt : Nat) (hd : decode cc pc = .ok (.if_icmp .le off, 3)) (hn : pc + 3 = pc') (ht : (pc : Int) + off = (tgt : Int)) (hi : x ≤ y ↔ P) (kt : P → G p l e R s m args below meth c Q D A nL kc ks ws lv tgt st) (kf : ¬ P → G p l e R s m args below meth c Q D A nL kc ks ws lv pc' st) : G p l e R s m args below meth c Q D A nL kc ks ws lv pc (.int y :: .int x :: st) := by
  subst hn
  exact fun H locs ls hP hD hS hl => lv_icmp_le X.1 X.2.1 hd ht (fun h => kt (hi.mp h) H locs ls hP hD hS hl) (fun h => kf (fun z => h (hi.mpr z)) H locs ls hP hD hS hl)
theorem g_if_le (X : gX p s m args c D tys A cc nL own Ts) {x : Int32} {off : Int} {P : Prop} (pc' tgt : Nat) (hd : decode cc pc = .ok (.ifCond .le off, 3)) (hn : pc + 3 = pc') (ht : (pc : Int) + off = (tgt : Int)) (hi : x ≤ 0 ↔ P) (kt : P → G p l e R s m args below meth c Q D A nL kc ks ws lv tgt st) (kf : ¬ P → G p l e R s m args below meth c Q D A nL kc ks ws lv pc' st) : G p l e R s m args below meth c Q D A nL kc ks ws lv pc (.int x :: st) := by
  subst hn
  exact fun H locs ls hP hD hS hl => lv_if_le X.1 X.2.1 hd ht (fun h => kt (hi.mp h) H locs ls hP hD hS hl) (fun h => kf (fun z => h (hi.mpr z)) H locs ls hP hD hS hl)
/-- switches -/
theorem g_tableIn (X : gX p s m args c D tys A cc nL own Ts) {dflt lo hi : Int} {offs : Array Int} {len : Nat} {x : Int32} {off : Int} (tgt : Nat) (hd : decode cc pc = .ok (.tableswitch dflt lo hi offs, len)) (z : Int) (hz : x.toInt = z) (h1 : ¬ z < lo) (h2 : ¬ hi < z) (ho : offs[(z - lo).toNat]? = some off) (ht : (pc : Int) + off = (tgt : Int)) (k : G p l e R s m args below meth c Q D A nL kc ks ws lv tgt st) : G p l e R s m args below meth c Q D A nL kc ks ws lv pc (.int x :: st) := by
  subst hz
  exact fun H locs ls hP hD hS hl => lv_tableIn X.1 X.2.1 hd h1 h2 ho ht (k H locs ls hP hD hS hl)
theorem g_tableOut (X : gX p s m args c D tys A cc nL own Ts) {dflt lo hi : Int} {offs : Array Int} {len : Nat} {x : Int32} (tgt : Nat) (hd : decode cc pc = .ok (.tableswitch dflt lo hi offs, len)) (h : x.toInt < lo ∨ hi < x.toInt) (ht : (pc : Int) + dflt = (tgt : Int)) (k : G p l e R s m args below meth c Q D A nL kc ks ws lv tgt st) : G p l e R s m args below meth c Q D A nL kc ks ws lv pc (.int x :: st) :=
  fun H locs ls hP hD hS hl => lv_tableOut X.1 X.2.1 hd h ht (k H locs ls hP hD hS hl)
/-- fields -/
theorem g_get (X : gX p s m args c D tys A cc nL own Ts) {C : String} {T : u_T} {N ci index a : Nat} (hin : ∀ w ∈ u_ws C T N, w ∈ Ts) (q0 : Nat) (k0 pc' : Nat) {fs : List Value} (he : ws[q0]? = some (a, .inr (ci, fs))) (hc : vwCl[ci]? = some (C, T, N)) (hk : k0 < N) (hl0 : Cond.fieldLink own index (T k0).1 (T k0).2.1 (T k0).2.2.1 ∈ Ts) {v : Value} (hv : fs[k0]? = some v) (hd : decode cc pc = .ok (.getfield index, 3)) (hn : pc + 3 = pc') (k : G p l e R s m args below meth c Q D A nL kc ks ws lv pc' (v :: st)) : G p l e R s m args below meth c Q D A nL kc ks ws lv pc (.ref a :: st) := by
  subst hn
  exact fun H locs ls hP hD hS hl => va_get (D := D) X.1 X.2.1 X.hts hin X.2.2.2.1 X.K hP q0 he hc k0 hk (X.hts _ hl0) (fun _ h => h) hv hd (k H locs ls hP hD hS hl)
theorem g_put (X : gX p s m args c D tys A cc nL own Ts) {C : String} {T : u_T} {N ci index a : Nat} (hin : ∀ w ∈ u_ws C T N, w ∈ Ts) (ty0 : Nat → FieldType) (hty : ∀ k, k < N → parseFieldDescriptor (T k).2.2.1 = some (ty0 k)) (hnm : ∀ a, a < N → ∀ b, b < N → a ≠ b → (T a).2.1 ≠ (T b).2.1) (q0 : Nat) (k0 pc' : Nat) {fs : List Value} (he : ws[q0]? = some (a, .inr (ci, fs))) (hc : vwCl[ci]? = some (C, T, N)) (hk : k0 < N) (hl0 : Cond.fieldLink own index (T k0).1 (T k0).2.1 (T k0).2.2.1 ∈ Ts) (hfin : (T k0).2.2.2 = false) {ty : FieldType} {v : Value} (hpd : parseFieldDescriptor (T k0).2.2.1 = some ty) (hnv : narrow ty v = v) (hfit : fits ty v = true) (hlen : k0 < fs.length) (hd : decode cc pc = .ok (.putfield index, 3)) (hn : pc + 3 = pc') (hw : ws.set q0 (a, .inr (ci, fs.set k0 v)) = ws') (k : G p l e R s m args below meth c Q D A nL kc ks ws' lv pc' st) : G p l e R s m args below meth c Q D A nL kc ks ws lv pc (v :: .ref a :: st) := by
  subst hn
  subst hw
  exact fun H locs ls hP hD hS hl => va_put (D := D) X.1 X.2.1 X.hts hin ty0 hty hnm X.2.2.2.1 X.K hP hD hS q0 he hc k0 hk (X.hts _ hl0) (fun _ h => h) hfin hpd hnv hfit hlen hd (fun H locs hP hD hS => k H locs ls hP hD hS hl)
theorem g_putF (X : gX p s m args c D tys A cc nL own Ts) (hin2 : meth.name = "<init>") {C : String} {T : u_T} {N ci index a : Nat} (hin : ∀ w ∈ u_ws C T N, w ∈ Ts) (ty0 : Nat → FieldType) (hty : ∀ k, k < N → parseFieldDescriptor (T k).2.2.1 = some (ty0 k)) (hnm : ∀ a, a < N → ∀ b, b < N → a ≠ b → (T a).2.1 ≠ (T b).2.1) (q0 : Nat) (k0 pc' : Nat) {fs : List Value} (he : ws[q0]? = some (a, .inr (ci, fs))) (hc : vwCl[ci]? = some (C, T, N)) (hk : k0 < N) (hl0 : Cond.fieldLink own index (T k0).1 (T k0).2.1 (T k0).2.2.1 ∈ Ts) (hfin : (T k0).2.2.2 = true) (hdecl : (T k0).1 = own) {ty : FieldType} {v : Value} (hpd : parseFieldDescriptor (T k0).2.2.1 = some ty) (hnv : narrow ty v = v) (hfit : fits ty v = true) (hlen : k0 < fs.length) (hd : decode cc pc = .ok (.putfield index, 3)) (hn : pc + 3 = pc') (hw : ws.set q0 (a, .inr (ci, fs.set k0 v)) = ws') (k : G p l e R s m args below meth c Q D A nL kc ks ws' lv pc' st) : G p l e R s m args below meth c Q D A nL kc ks ws lv pc (v :: .ref a :: st) := by
  subst hn
  subst hw
  exact fun H locs ls hP hD hS hl => va_putF (D := D) X.1 X.2.1 X.hts hin ty0 hty hnm X.2.2.2.1 X.K hP hD hS q0 he hc k0 hk (X.hts _ hl0) (fun _ h => h) hfin hin2 hdecl hpd hnv hfit hlen hd (fun H locs hP hD hS => k H locs ls hP hD hS hl)
/-- arrays: the index is a number -/
theorem nIc {n : Nat} (h : n < 2 ^ 31) : (nI n).toNatClampNeg = n := nI_clamp h
theorem g_iald (X : gX p s m args c D tys A cc nL own Ts) {a n : Nat} {cA : ClassId} {f : Nat → Int32} (q0 t0 : Nat) (j : Nat) (v : Int32) (pc' : Nat) (ha : ws[q0]? = some (a, .inl (cA, n, .inl f))) (ht : tys[t0]? = some (cA, .int)) (hj : j < n) (hn31 : n < 2 ^ 31) (hv : f j = v) (hd : decode cc pc = .ok (.iaload, 1)) (hn : pc + 1 = pc') (k : G p l e R s m args below meth c Q D A nL kc ks ws lv pc' (.int v :: st)) : G p l e R s m args below meth c Q D A nL kc ks ws lv pc (.int (nI j) :: .ref a :: st) := by
  subst hn
  subst hv
  have hc : (nI j).toNatClampNeg = j := nI_clamp (Nat.lt_trans hj hn31)
  exact fun H locs ls hP hD hS hl => va_iald (D := D) X.1 X.2.1 X.K hP q0 t0 ha ht (vp_in_nI hj hn31) hd (by rw [hc]; exact k H locs ls hP hD hS hl)
theorem g_zald (X : gX p s m args c D tys A cc nL own Ts) {a n : Nat} {cA : ClassId} {f : Nat → Int32} (q0 t0 : Nat) (j : Nat) (v : Int32) (pc' : Nat) (ha : ws[q0]? = some (a, .inl (cA, n, .inl f))) (ht : tys[t0]? = some (cA, .boolean)) (hj : j < n) (hn31 : n < 2 ^ 31) (hv : f j = v) (hd : decode cc pc = .ok (.baload, 1)) (hn : pc + 1 = pc') (k : G p l e R s m args below meth c Q D A nL kc ks ws lv pc' (.int v :: st)) : G p l e R s m args below meth c Q D A nL kc ks ws lv pc (.int (nI j) :: .ref a :: st) := by
  subst hn
  subst hv
  have hc : (nI j).toNatClampNeg = j := nI_clamp (Nat.lt_trans hj hn31)
  exact fun H locs ls hP hD hS hl => va_zald (D := D) X.1 X.2.1 X.K hP q0 t0 ha ht (vp_in_nI hj hn31) hd (by rw [hc]; exact k H locs ls hP hD hS hl)
theorem g_lald (X : gX p s m args c D tys A cc nL own Ts) {a n : Nat} {cA : ClassId} {f : Nat → Int64} (q0 t0 : Nat) (j : Nat) (v : Int64) (pc' : Nat) (ha : ws[q0]? = some (a, .inl (cA, n, .inr (.inl f)))) (ht : tys[t0]? = some (cA, .long)) (hj : j < n) (hn31 : n < 2 ^ 31) (hv : f j = v) (hd : decode cc pc = .ok (.laload, 1)) (hn : pc + 1 = pc') (k : G p l e R s m args below meth c Q D A nL kc ks ws lv pc' (.long v :: st)) : G p l e R s m args below meth c Q D A nL kc ks ws lv pc (.int (nI j) :: .ref a :: st) := by
  subst hn
  subst hv
  have hc : (nI j).toNatClampNeg = j := nI_clamp (Nat.lt_trans hj hn31)
  exact fun H locs ls hP hD hS hl => va_lald (D := D) X.1 X.2.1 X.K hP q0 t0 ha ht (vp_in_nI hj hn31) hd (by rw [hc]; exact k H locs ls hP hD hS hl)
theorem g_iast (X : gX p s m args c D tys A cc nL own Ts) {a n : Nat} {cA : ClassId} {f : Nat → Int32} (q0 t0 : Nat) (j : Nat) (f' : Nat → Int32) {x : Int32} (pc' : Nat) (ha : ws[q0]? = some (a, .inl (cA, n, .inl f))) (ht : tys[t0]? = some (cA, .int)) (hj : j < n) (hn31 : n < 2 ^ 31) (hf : upd f j x = f') (hd : decode cc pc = .ok (.iastore, 1)) (hn : pc + 1 = pc') (hw : ws.set q0 (a, .inl (cA, n, .inl f')) = ws') (k : G p l e R s m args below meth c Q D A nL kc ks ws' lv pc' st) : G p l e R s m args below meth c Q D A nL kc ks ws lv pc (.int x :: .int (nI j) :: .ref a :: st) := by
  subst hn
  subst hf
  subst hw
  have hc : (nI j).toNatClampNeg = j := nI_clamp (Nat.lt_trans hj hn31)
  exact fun H locs ls hP hD hS hl => va_iast (D := D) X.1 X.2.1 X.K hP hD hS q0 t0 ha ht (vp_in_nI hj hn31) hd (by rw [hc]; exact fun H locs hP hD hS => k H locs ls hP hD hS hl)
theorem g_zast (X : gX p s m args c D tys A cc nL own Ts) {a n : Nat} {cA : ClassId} {f : Nat → Int32} (q0 t0 : Nat) (j : Nat) (f' : Nat → Int32) {x : Int32} (pc' : Nat) (ha : ws[q0]? = some (a, .inl (cA, n, .inl f))) (ht : tys[t0]? = some (cA, .boolean)) (hj : j < n) (hn31 : n < 2 ^ 31) (hf : upd f j (vp_nar .boolean x) = f') (hd : decode cc pc = .ok (.bastore, 1)) (hn : pc + 1 = pc') (hw : ws.set q0 (a, .inl (cA, n, .inl f')) = ws') (k : G p l e R s m args below meth c Q D A nL kc ks ws' lv pc' st) : G p l e R s m args below meth c Q D A nL kc ks ws lv pc (.int x :: .int (nI j) :: .ref a :: st) := by
  subst hn
  subst hf
  subst hw
  have hc : (nI j).toNatClampNeg = j := nI_clamp (Nat.lt_trans hj hn31)
  exact fun H locs ls hP hD hS hl => va_zast (D := D) X.1 X.2.1 X.K hP hD hS q0 t0 ha ht (vp_in_nI hj hn31) hd (by rw [hc]; exact fun H locs hP hD hS => k H locs ls hP hD hS hl)
theorem g_last (X : gX p s m args c D tys A cc nL own Ts) {a n : Nat} {cA : ClassId} {f : Nat → Int64} (q0 t0 : Nat) (j : Nat) (f' : Nat → Int64) {x : Int64} (pc' : Nat) (ha : ws[q0]? = some (a, .inl (cA, n, .inr (.inl f)))) (ht : tys[t0]? = some (cA, .long)) (hj : j < n) (hn31 : n < 2 ^ 31) (hf : vp_updL f j x = f') (hd : decode cc pc = .ok (.lastore, 1)) (hn : pc + 1 = pc') (hw : ws.set q0 (a, .inl (cA, n, .inr (.inl f'))) = ws') (k : G p l e R s m args below meth c Q D A nL kc ks ws' lv pc' st) : G p l e R s m args below meth c Q D A nL kc ks ws lv pc (.long x :: .int (nI j) :: .ref a :: st) := by
  subst hn
  subst hf
  subst hw
  have hc : (nI j).toNatClampNeg = j := nI_clamp (Nat.lt_trans hj hn31)
  exact fun H locs ls hP hD hS hl => va_last (D := D) X.1 X.2.1 X.K hP hD hS q0 t0 ha ht (vp_in_nI hj hn31) hd (by rw [hc]; exact fun H locs hP hD hS => k H locs ls hP hD hS hl)
/-- Math.max, Math.min -/
theorem g_max (X : gX p s m args c D tys A cc nL own Ts) {index : Nat} {x y : Int32} (z : Int32) (pc' : Nat) (h1 : Cond.methodLink own index Lib.Math.max.name ∈ Ts) (h2 : Cond.static Lib.Math.max.name ∈ Ts) (h3 : Cond.initialized "java/lang/Math" ∈ Ts) (h4 : Cond.code Lib.Math.max.name Lib.Math.max.code 2 (some .int) ∈ Ts) (hR : 1 ≤ R.frames) (hL : (st.map fun v => v.category).sum + 13 ≤ R.locals) (hkc : kc ≤ R.cells) (hks : ks ≤ R.slots) (hz : (if x < y then y else x) = z) (hd : decode cc pc = .ok (.invokestatic index, 3)) (hn : pc + 3 = pc') (k : G p l e R s m args below meth c Q D A nL kc ks ws lv pc' (.int z :: st)) : G p l e R s m args below meth c Q D A nL kc ks ws lv pc (.int y :: .int x :: st) := by
  subst hn
  subst hz
  exact fun H locs ls hP hD hS hl => va_mmax X.1 X.2.1 (X.2.2.1.trans hl.1.symm) X.2.2.2.1 (X.hts _ h1) (X.hts _ h2) (X.hts _ h3) (X.hts _ h4) hR hL hkc hks hd (k H locs ls hP hD hS hl)
theorem g_min (X : gX p s m args c D tys A cc nL own Ts) {index : Nat} {x y : Int32} (z : Int32) (pc' : Nat) (h1 : Cond.methodLink own index Lib.Math.min.name ∈ Ts) (h2 : Cond.static Lib.Math.min.name ∈ Ts) (h3 : Cond.initialized "java/lang/Math" ∈ Ts) (h4 : Cond.code Lib.Math.min.name Lib.Math.min.code 2 (some .int) ∈ Ts) (hR : 1 ≤ R.frames) (hL : (st.map fun v => v.category).sum + 13 ≤ R.locals) (hkc : kc ≤ R.cells) (hks : ks ≤ R.slots) (hz : (if y < x then y else x) = z) (hd : decode cc pc = .ok (.invokestatic index, 3)) (hn : pc + 3 = pc') (k : G p l e R s m args below meth c Q D A nL kc ks ws lv pc' (.int z :: st)) : G p l e R s m args below meth c Q D A nL kc ks ws lv pc (.int y :: .int x :: st) := by
  subst hn
  subst hz
  exact fun H locs ls hP hD hS hl => va_mmin X.1 X.2.1 (X.2.2.1.trans hl.1.symm) X.2.2.2.1 (X.hts _ h1) (X.hts _ h2) (X.hts _ h3) (X.hts _ h4) hR hL hkc hks hd (k H locs ls hP hD hS hl)
/-- a part of the cells, in any order -/
theorem g_ws (is : List Nat) (hn : va_nd is = true) (h : is.map (fun i => ws[i]?) = ws'.map some) (k : G p l e R s m args below meth c Q D A nL kc ks ws' lv pc st) : G p l e R s m args below meth c Q D A nL kc ks ws lv pc st :=
  fun H locs ls hP hD hS hl => k H locs ls (hP.sub is (fm_map is ws' h)) (hD.sub is hn h) hS hl
/-- the contents of an array count as far as it goes -/
theorem arrV_congr (cA : ClassId) (n : Nat) (f g : Nat → Value) (h : ∀ j, j < n → f j = g j) : arrV cA n f = arrV cA n g := by
  have h1 : (fun j : Fin n => f j.val) = (fun j : Fin n => g j.val) := funext fun j => h j.val j.isLt
  simp only [arrV, h1]
theorem g_arr {a n : Nat} {cA : ClassId} {f : Nat → Int32} (q0 : Nat) (g : Nat → Int32) (ha : ws[q0]? = some (a, .inl (cA, n, .inl f))) (hfg : ∀ j, j < n → f j = g j) (hw : ws.set q0 (a, .inl (cA, n, .inl g)) = ws') (k : G p l e R s m args below meth c Q D A nL kc ks ws' lv pc st) : G p l e R s m args below meth c Q D A nL kc ks ws lv pc st := by
  subst hw
  refine fun H locs ls hP hD hS hl => k H locs ls (hP.set hD ha ?_ (fun _ _ => rfl)) (hD.set ha) hS hl
  have h1 : H[a]? = some (vp_cell cA (n, .inl f)) := hP q0 _ ha
  show H[a]? = some (vp_cell cA (n, .inl g))
  rw [h1, vp_cell_i, vp_cell_i, arrV_congr cA n _ _ (fun j hj => by rw [hfg j hj])]
theorem g_w {kc' ks' : Nat} (h1 : kc ≤ kc') (h2 : ks ≤ ks') (k : G p l e R s m args below meth c Q D A nL kc' ks' ws lv pc st) : G p l e R s m args below meth c Q D A nL kc ks ws lv pc st :=
  fun H locs ls hP hD hS hl => W.widen h1 h2 (k H locs ls hP hD hS hl)
end GL
end
section
/-! CONTRACTS: what a method answers, and which cells it leaves; calls in G -/
abbrev gT (cI cZ cJ : ClassId) : List (ClassId × FieldType) := [(cI, .int), (cZ, .boolean), (cJ, .long)]
/-- the world u, in the state t -/
def gB (D : va_G) (tys : List (ClassId × FieldType)) (A : Nat → Prop) (u : va_W) (t : State) : Prop := va_P D vwCl u t.heap ∧ va_K D vwCl tys t ∧ va_D A u
def gPc (D : va_G) (tys : List (ClassId × FieldType)) (ws : va_W) (av : List Value) (sz : Nat) : Array Value → State → Prop := va_Pc av (fun U => U.heap.size = sz ∧ va_P D vwCl ws U.heap ∧ va_K D vwCl tys U ∧ va_D (fun _ => True) ws)
def MI (l : Launch) (y : MethodName) (wds : List Cond) (rm : Room) (D : va_G) (tys : List (ClassId × FieldType)) (ws : va_W) (av : List Value) (post : Int32 → va_W → Prop) : Prop :=
  ∀ sz : Nat, Met l y wds rm (gPc D tys ws av sz) (va_Qi post (gB D tys (va_A ws sz)) (va_A ws sz)) rm.cells rm.slots (va_A ws sz)
def MV (l : Launch) (y : MethodName) (wds : List Cond) (rm : Room) (D : va_G) (tys : List (ClassId × FieldType)) (ws : va_W) (av : List Value) (post : va_W → Prop) : Prop :=
  ∀ sz : Nat, Met l y wds rm (gPc D tys ws av sz) (va_Qv post (gB D tys (va_A ws sz)) (va_A ws sz)) rm.cells rm.slots (va_A ws sz)
def ML (l : Launch) (y : MethodName) (wds : List Cond) (rm : Room) (D : va_G) (tys : List (ClassId × FieldType)) (ws : va_W) (av : List Value) (post : Int64 → va_W → Prop) : Prop :=
  ∀ sz : Nat, Met l y wds rm (gPc D tys ws av sz) (va_Ql post (gB D tys (va_A ws sz)) (va_A ws sz)) rm.cells rm.slots (va_A ws sz)
def MDb (l : Launch) (y : MethodName) (wds : List Cond) (rm : Room) (D : va_G) (tys : List (ClassId × FieldType)) (ws : va_W) (av : List Value) (post : UInt64 → va_W → Prop) : Prop :=
  ∀ sz : Nat, Met l y wds rm (gPc D tys ws av sz) (va_Qd post (gB D tys (va_A ws sz)) (va_A ws sz)) rm.cells rm.slots (va_A ws sz)
theorem gPc_blind (D : va_G) (tys : List (ClassId × FieldType)) (ws : va_W) (av : List Value) (sz : Nat) : FrameBlind (gPc D tys ws av sz) :=
  fun a U g mk q => by
    obtain ⟨q0, q1, qP, qK, qD⟩ := q
    exact ⟨q0, q1, qP, va_K.moved (u := U) (U := U.calling g mk a) (Vm.Alike.refl U.vm) qK, qD⟩
section GM
variable {l : Launch} {D : va_G} {tys : List (ClassId × FieldType)}
/-- a method's proof: the walk of its body from the entry, over any Q that its returns reach -/
theorem MI_of {y : MethodName} {wds wds' : List Cond} {rm : Room} {cc : ByteArray} {nL : Nat} {ty : FieldType} {ws : va_W} {av : List Value} {post : Int32 → va_W → Prop} (lv0 : List (Nat × Value)) (hy : plainName y.cls = true) (hw : wds = Cond.code y cc nL (some ty) :: wds') (hlen : (lg_sl av).length ≤ nL) (hlv : lv_args 0 av = lv0)
    (body : ∀ (p : Program) (e : Env) (s : State) (m : MethodId) (args : Array Value) (below : List Frame) (meth : Method) (c : Code) (A : Nat → Prop) (Q : State → Prop), gX p s m args c D tys A cc nL y.cls wds →
      (∀ (u : va_W) (lv : List (Nat × Value)) (pc : Nat) (r : Int32), decode cc pc = .ok (.ireturn, 1) → narrow ty (.int r) = .int r → post r u → G p l e rm s m args below meth c Q D A nL rm.cells rm.slots u lv pc [.int r]) →
      G p l e rm s m args below meth c Q D A nL 0 0 ws lv0 0 []) : MI l y wds rm D tys ws av post := by
  intro sz
  refine Met.ofW (cc := cc) (maxL := nL) (ret := some ty) hy hw ?_
  intro p e s m args below meth c s₁ B hml hv
  obtain ⟨rfl, hsz, hP, hK, hD0⟩ := hv
  have hlocks := B.notSynchronized
  subst hsz
  have hl := lv_entry av (n := nL) hlen
  rw [lg_entry_eq]
  rw [hlv] at hl
  refine body p e s m _ below meth c (va_A ws s.heap.size) _ ⟨B.exec, B.bytes, hml, findClass_of_methodNamed B.named, atoms_spec (ws := wds) B.pre, hK, fun q h => Or.inr h⟩ ?_ _ _ _ hP hD0.self va_S.rf hl
  intro u lv pc r hd hnr hp H locs ls hP hD hS hl
  exact W.zret B.exec B.bytes B.returns hnr (fun t ht hW => ⟨⟨r, u, rfl, hp, by rw [ht]; exact hP, va_K.moved hW.alike hK, hD⟩, hS.F ht⟩) hS.2.2 hd hlocks
theorem MV_of {y : MethodName} {wds wds' : List Cond} {rm : Room} {cc : ByteArray} {nL : Nat} {ws : va_W} {av : List Value} {post : va_W → Prop} (lv0 : List (Nat × Value)) (hy : plainName y.cls = true) (hw : wds = Cond.code y cc nL none :: wds') (hlen : (lg_sl av).length ≤ nL) (hlv : lv_args 0 av = lv0)
    (body : ∀ (p : Program) (e : Env) (s : State) (m : MethodId) (args : Array Value) (below : List Frame) (meth : Method) (c : Code) (A : Nat → Prop) (Q : State → Prop), gX p s m args c D tys A cc nL y.cls wds →
      (∀ (u : va_W) (lv : List (Nat × Value)) (pc : Nat), decode cc pc = .ok (.return_, 1) → post u → G p l e rm s m args below meth c Q D A nL rm.cells rm.slots u lv pc []) →
      G p l e rm s m args below meth c Q D A nL 0 0 ws lv0 0 []) : MV l y wds rm D tys ws av post := by
  intro sz
  refine Met.ofW (cc := cc) (maxL := nL) (ret := none) hy hw ?_
  intro p e s m args below meth c s₁ B hml hv
  obtain ⟨rfl, hsz, hP, hK, hD0⟩ := hv
  have hlocks := B.notSynchronized
  subst hsz
  have hl := lv_entry av (n := nL) hlen
  rw [lg_entry_eq]
  rw [hlv] at hl
  refine body p e s m _ below meth c (va_A ws s.heap.size) _ ⟨B.exec, B.bytes, hml, findClass_of_methodNamed B.named, atoms_spec (ws := wds) B.pre, hK, fun q h => Or.inr h⟩ ?_ _ _ _ hP hD0.self va_S.rf hl
  intro u lv pc hd hp H locs ls hP hD hS hl
  exact W.vret B.exec B.bytes B.returns (fun t ht hW => ⟨⟨u, rfl, hp, by rw [ht]; exact hP, va_K.moved hW.alike hK, hD⟩, hS.F ht⟩) hS.2.2 hd hlocks
theorem ML_of {y : MethodName} {wds wds' : List Cond} {rm : Room} {cc : ByteArray} {nL : Nat} {ws : va_W} {av : List Value} {post : Int64 → va_W → Prop} (lv0 : List (Nat × Value)) (hy : plainName y.cls = true) (hw : wds = Cond.code y cc nL (some .long) :: wds') (hlen : (lg_sl av).length ≤ nL) (hlv : lv_args 0 av = lv0)
    (body : ∀ (p : Program) (e : Env) (s : State) (m : MethodId) (args : Array Value) (below : List Frame) (meth : Method) (c : Code) (A : Nat → Prop) (Q : State → Prop), gX p s m args c D tys A cc nL y.cls wds →
      (∀ (u : va_W) (lv : List (Nat × Value)) (pc : Nat) (r : Int64), decode cc pc = .ok (.lreturn, 1) → post r u → G p l e rm s m args below meth c Q D A nL rm.cells rm.slots u lv pc [.long r]) →
      G p l e rm s m args below meth c Q D A nL 0 0 ws lv0 0 []) : ML l y wds rm D tys ws av post := by
  intro sz
  refine Met.ofW (cc := cc) (maxL := nL) (ret := some .long) hy hw ?_
  intro p e s m args below meth c s₁ B hml hv
  obtain ⟨rfl, hsz, hP, hK, hD0⟩ := hv
  have hlocks := B.notSynchronized
  subst hsz
  have hl := lv_entry av (n := nL) hlen
  rw [lg_entry_eq]
  rw [hlv] at hl
  refine body p e s m _ below meth c (va_A ws s.heap.size) _ ⟨B.exec, B.bytes, hml, findClass_of_methodNamed B.named, atoms_spec (ws := wds) B.pre, hK, fun q h => Or.inr h⟩ ?_ _ _ _ hP hD0.self va_S.rf hl
  intro u lv pc r hd hp H locs ls hP hD hS hl
  exact W.lret B.exec B.bytes B.returns (fun t ht hW => ⟨⟨r, u, rfl, hp, by rw [ht]; exact hP, va_K.moved hW.alike hK, hD⟩, hS.F ht⟩) hS.2.2 hd hlocks
theorem MDb_of {y : MethodName} {wds wds' : List Cond} {rm : Room} {cc : ByteArray} {nL : Nat} {ws : va_W} {av : List Value} {post : UInt64 → va_W → Prop} (lv0 : List (Nat × Value)) (hy : plainName y.cls = true) (hw : wds = Cond.code y cc nL (some .double) :: wds') (hlen : (lg_sl av).length ≤ nL) (hlv : lv_args 0 av = lv0)
    (body : ∀ (p : Program) (e : Env) (s : State) (m : MethodId) (args : Array Value) (below : List Frame) (meth : Method) (c : Code) (A : Nat → Prop) (Q : State → Prop), gX p s m args c D tys A cc nL y.cls wds →
      (∀ (u : va_W) (lv : List (Nat × Value)) (pc : Nat) (r : UInt64), decode cc pc = .ok (.dreturn, 1) → post r u → G p l e rm s m args below meth c Q D A nL rm.cells rm.slots u lv pc [.double r]) →
      G p l e rm s m args below meth c Q D A nL 0 0 ws lv0 0 []) : MDb l y wds rm D tys ws av post := by
  intro sz
  refine Met.ofW (cc := cc) (maxL := nL) (ret := some .double) hy hw ?_
  intro p e s m args below meth c s₁ B hml hv
  obtain ⟨rfl, hsz, hP, hK, hD0⟩ := hv
  have hlocks := B.notSynchronized
  subst hsz
  have hl := lv_entry av (n := nL) hlen
  rw [lg_entry_eq]
  rw [hlv] at hl
  refine body p e s m _ below meth c (va_A ws s.heap.size) _ ⟨B.exec, B.bytes, hml, findClass_of_methodNamed B.named, atoms_spec (ws := wds) B.pre, hK, fun q h => Or.inr h⟩ ?_ _ _ _ hP hD0.self va_S.rf hl
  intro u lv pc r hd hp H locs ls hP hD hS hl
  exact W.dret B.exec B.bytes B.returns (fun t ht hW => ⟨⟨r, u, rfl, hp, by rw [ht]; exact hP, va_K.moved hW.alike hK, hD⟩, hS.F ht⟩) hS.2.2 hd hlocks
end GM
/-- the callee's cells, put back at their places -/
def putB : va_W → List Nat → va_W → va_W
  | ws, i :: is, q :: qs => putB (ws.set i q) is qs
  | ws, _, _ => ws
theorem putB_len : ∀ (is : List Nat) (ws wc : va_W), (putB ws is wc).length = ws.length
  | [], ws, wc => by cases wc <;> rfl
  | i :: is, ws, [] => rfl
  | i :: is, ws, q :: qs => by
    show (putB (ws.set i q) is qs).length = _
    rw [putB_len, List.length_set]
/-- a place that isn't the callee's stays; each of the callee's places holds a cell of its -/
theorem putB_at : ∀ (is : List Nat) (ws wc : va_W) (k : Nat) (q : Nat × va_E), (putB ws is wc)[k]? = some q → (ws[k]? = some q ∧ (k ∉ is ∨ wc.length < is.length)) ∨ q ∈ wc
  | [], ws, wc, k, q, h => by
    have h1 : putB ws [] wc = ws := by cases wc <;> rfl
    rw [h1] at h
    exact Or.inl ⟨h, Or.inl List.not_mem_nil⟩
  | i :: is, ws, [], k, q, h => Or.inl ⟨h, Or.inr (Nat.succ_pos _)⟩
  | i :: is, ws, q0 :: qs, k, q, h => by
    have h1 : (putB (ws.set i q0) is qs)[k]? = some q := h
    rcases putB_at is (ws.set i q0) qs k q h1 with ⟨h2, h3⟩ | h2
    · by_cases hk : k = i
      · subst hk
        have hl : k < ws.length := by
          have := (List.getElem?_eq_some_iff.mp h2).1
          rwa [List.length_set] at this
        rw [List.getElem?_set_self hl] at h2
        cases h2
        exact Or.inr List.mem_cons_self
      · rw [List.getElem?_set_ne (Ne.symm hk)] at h2
        refine Or.inl ⟨h2, ?_⟩
        rcases h3 with h3 | h3
        · exact Or.inl (fun z => (List.mem_cons.mp z).elim hk h3)
        · exact Or.inr (Nat.succ_lt_succ h3)
    · exact Or.inr (List.mem_cons_of_mem _ h2)
theorem putB_adr : ∀ (is : List Nat) (ws wc wc0 : va_W), is.map (fun i => ws[i]?) = wc0.map some → wc.map Prod.fst = wc0.map Prod.fst → va_nd is = true → (putB ws is wc).map Prod.fst = ws.map Prod.fst
  | [], ws, wc, wc0, _, _, _ => by cases wc <;> rfl
  | i :: is, ws, [], wc0, _, _, _ => rfl
  | i :: is, ws, q0 :: qs, [], h, _, _ => by cases h
  | i :: is, ws, q0 :: qs, q1 :: wc0, h, ha, hn => by
    simp only [List.map_cons, List.cons.injEq] at h ha
    have hl := (List.getElem?_eq_some_iff.mp h.1).1
    have hn1 : i ∉ is ∧ va_nd is = true := by
      simpa [va_nd] using hn
    have hs : (ws.set i q0).map Prod.fst = ws.map Prod.fst := by
      apply List.ext_getElem?
      intro k
      rw [List.getElem?_map, List.getElem?_map]
      by_cases hk : k = i
      · subst hk
        rw [List.getElem?_set_self hl, h.1]
        exact congrArg some ha.1
      · rw [List.getElem?_set_ne (Ne.symm hk)]
    have hm : is.map (fun j => (ws.set i q0)[j]?) = wc0.map some := by
      rw [← h.2]
      apply List.map_congr_left
      intro j hj
      rw [List.getElem?_set_ne (fun z => hn1.1 (by rw [z]; exact hj))]
    show (putB (ws.set i q0) is qs).map Prod.fst = _
    rw [putB_adr is (ws.set i q0) qs wc0 hm ha.2 hn1.2, hs]
theorem va_D.adr {A : Nat → Prop} {ws ws' : va_W} (h : va_D A ws) (ha : ws'.map Prod.fst = ws.map Prod.fst) : va_D A ws' := by
  have key : ∀ (k : Nat) (q : Nat × va_E), ws'[k]? = some q → ∃ q0, ws[k]? = some q0 ∧ q0.1 = q.1 := by
    intro k q hk
    have h1 : (ws'.map Prod.fst)[k]? = some q.1 := by rw [List.getElem?_map, hk]; rfl
    rw [ha, List.getElem?_map] at h1
    cases h2 : ws[k]? with
    | none => rw [h2] at h1; cases h1
    | some q0 => rw [h2] at h1; exact ⟨q0, rfl, Option.some.inj h1⟩
  refine ⟨fun i j x y hi hj hxy => ?_, fun k q hk => ?_⟩
  · obtain ⟨x0, h1, h2⟩ := key i x hi
    obtain ⟨y0, h3, h4⟩ := key j y hj
    exact h.1 i j x0 y0 h1 h3 (h2.trans (hxy.trans h4.symm))
  · obtain ⟨q0, h1, h2⟩ := key k q hk
    rw [← h2]
    exact h.2 k q0 h1
/-- behind a call: the callee's cells at their places, the others as they were -/
theorem putB_join {A0 : Nat → Prop} {D : va_G} {cl : List vw_C} {ws wc wc' : va_W} {H H1 : Heap} (hP : va_P D cl ws H) (hD : va_D A0 ws) (isC : List Nat) (hC : isC.map (fun i => ws[i]?) = wc.map some) (hn : va_nd isC = true) (ha : wc'.map Prod.fst = wc.map Prod.fst)
    (hk : ∀ q : Nat, q < H.size → ¬ va_A wc H.size q → H1[q]? = H[q]?) (hP1 : va_P D cl wc' H1) : va_P D cl (putB ws isC wc') H1 ∧ va_D A0 (putB ws isC wc') := by
  have hlen : wc'.length = isC.length := by
    have h1 := congrArg List.length ha
    have h2 := congrArg List.length hC
    simp only [List.length_map] at h1 h2
    omega
  refine ⟨fun k q hq => ?_, hD.adr (putB_adr isC ws wc' wc hC ha hn)⟩
  rcases putB_at isC ws wc' k q hq with ⟨h1, h2⟩ | h1
  · have hni : k ∉ isC := h2.elim id (fun z => absurd z (by omega))
    have hl := (hP k q h1).lt
    refine (hP k q h1).kept (hk q.1 hl ?_)
    rintro (⟨k2, e, h3⟩ | h3)
    · have h4 : (isC.map (fun i => ws[i]?))[k2]? = some (some (q.1, e)) := by rw [hC, List.getElem?_map, h3]; rfl
      rw [List.getElem?_map] at h4
      cases h5 : isC[k2]? with
      | none => rw [h5] at h4; cases h4
      | some j =>
        rw [h5] at h4
        have h6 : ws[j]? = some (q.1, e) := Option.some.inj h4
        have := hD.1 k j q (q.1, e) h1 h6 rfl
        subst this
        exact hni (List.mem_of_getElem? h5)
    · omega
  · obtain ⟨j, hj⟩ := List.getElem?_of_mem h1
    exact hP1 j q hj
section GC
variable {p : Program} {l : Launch} {e : Env} {R : Room} {s : State} {m : MethodId} {args : Array Value} {below : List Frame} {meth : Method} {c : Code} {Q : State → Prop}
variable {D : va_G} {tys : List (ClassId × FieldType)} {A : Nat → Prop} {cc : ByteArray} {nL kc ks : Nat} {own : String} {Ts : List Cond}
variable {ws ws' : va_W} {lv lv' : List (Nat × Value)} {pc : Nat} {st rest : List Value}
variable {y : MethodName} {wds ws9 : List Cond} {rm : Room} {bytes : ByteArray} {maxL n index : Nat} {ret : Option FieldType} {C : String} {b : Nat} {av : List Value} {wc wc' : va_W}
theorem gPreV (hK : va_K D vwCl tys s) {H : Heap} (hP : va_P D vwCl wc H) (hD : va_D (fun _ => True) wc) {ci : Nat} {T : u_T} {N q0 : Nat} {fs : List Value} (hc : vwCl[ci]? = some (C, T, N)) (he : wc[q0]? = some (b, .inr (ci, fs))) : PreV s H C b (gPc D tys wc (.ref b :: av) H.size) av :=
  ⟨gPc_blind _ _ _ _ _, va_recv hK hP hc he, fun U hU hW => ⟨rfl, by rw [hU], by rw [hU]; exact hP, va_K.moved hW.alike hK, hD⟩⟩
theorem gPreS (hK : va_K D vwCl tys s) {H : Heap} (hP : va_P D vwCl wc H) (hD : va_D (fun _ => True) wc) : PreS s H (gPc D tys wc av H.size) av :=
  ⟨gPc_blind _ _ _ _ _, fun U hU hW => ⟨rfl, by rw [hU], by rw [hU]; exact hP, va_K.moved hW.alike hK, hD⟩⟩
/-- a virtual call that answers an int: the answer and the cells are told -/
theorem g_callVi (X : gX p s m args c D tys A cc nL own Ts) {r0 : Int32} (hM : MI l y wds rm D tys wc (.ref b :: av) (fun r u => r = r0 ∧ u = wc')) (pc' : Nat) (isC : List Nat) (hG : GoodIn Ts (wsV own index C y wds)) (hwd : wds = Cond.code y bytes maxL ret :: ws9)
    (hdy : y.cls = C ∧ y.cls ≠ "java/lang/invoke/MethodHandle" ∧ y.cls ≠ "java/lang/invoke/VarHandle" ∧ (parseMethodDescriptor y.desc).map (fun d => d.parameters.length) = some n) (hnn : av.length = n) (hR : rm.frames + 1 ≤ R.frames ∧ 8 + (maxL + 11) + rm.locals ≤ R.locals) {ci : Nat} {T : u_T} {N q0 : Nat} {fs : List Value} (hc : vwCl[ci]? = some (C, T, N)) (he : wc[q0]? = some (b, .inr (ci, fs)))
    (hst : st = av.reverse ++ .ref b :: rest) (hrest : (rest.map fun v => v.category).sum ≤ 8) (hC : isC.map (fun i => ws[i]?) = wc.map some) (hn : va_nd isC = true) (ha : wc'.map Prod.fst = wc.map Prod.fst) (hws : putB ws isC wc' = ws')
    (hd : decode cc pc = .ok (.invokevirtual index, 3)) (hpc : pc + 3 = pc') (hf : kc + rm.cells ≤ R.cells ∧ ks + rm.slots ≤ R.slots) (k : G p l e R s m args below meth c Q D A nL (kc + rm.cells) (ks + rm.slots) ws' lv pc' (.int r0 :: rest)) : G p l e R s m args below meth c Q D A nL kc ks ws lv pc st := by
  subst hnn
  subst hpc
  subst hst
  subst hws
  intro H locs ls hP hD hS hl
  have hPc : va_P D vwCl wc H := (va_P.sub hP isC (fm_map isC wc hC))
  have hDc : va_D (fun _ => True) wc := (va_D.sub hD isC hn hC).weaken (fun _ _ _ _ => trivial)
  have hFc := va_free (wc := wc) hD hS X.hA isC hC
  refine va_calli (va_runV (As := av) (rest := rest) X.fix (hM H.size) (cwV av.length X.hts hG hwd rfl rfl hdy hR) (gPreV X.K hPc hDc hc he) rfl rfl hl.1 rfl (lv_room hrest) hd hf) hS (fun q _ h => hFc q h) hFc (fun r u t H1 locs1 ht hvm hw hB hz1 hk1 hS => ?_)
  obtain ⟨rfl, rfl⟩ := hw
  obtain ⟨hP1, hK1, hD1⟩ := hB
  rw [ht] at hP1
  obtain ⟨hP2, hD2⟩ := putB_join hP hD isC hC hn ha hk1 hP1
  exact k H1 locs1 ls hP2 hD2 hS hl
theorem g_callSi (X : gX p s m args c D tys A cc nL own Ts) {r0 : Int32} (hM : MI l y wds rm D tys wc av (fun r u => r = r0 ∧ u = wc')) (pc' : Nat) (isC : List Nat) (hG : GoodIn Ts (va_wsS own index y wds)) (hwd : wds = Cond.code y bytes maxL ret :: ws9)
    (hdy : y.cls ≠ "java/lang/invoke/MethodHandle" ∧ y.cls ≠ "java/lang/invoke/VarHandle" ∧ (parseMethodDescriptor y.desc).map (fun d => d.parameters.length) = some n) (hnn : av.length = n) (hR : rm.frames + 1 ≤ R.frames ∧ 8 + (maxL + 11) + rm.locals ≤ R.locals)
    (hst : st = av.reverse ++ rest) (hrest : (rest.map fun v => v.category).sum ≤ 8) (hC : isC.map (fun i => ws[i]?) = wc.map some) (hn : va_nd isC = true) (ha : wc'.map Prod.fst = wc.map Prod.fst) (hws : putB ws isC wc' = ws')
    (hd : decode cc pc = .ok (.invokestatic index, 3)) (hpc : pc + 3 = pc') (hf : kc + rm.cells ≤ R.cells ∧ ks + rm.slots ≤ R.slots) (k : G p l e R s m args below meth c Q D A nL (kc + rm.cells) (ks + rm.slots) ws' lv pc' (.int r0 :: rest)) : G p l e R s m args below meth c Q D A nL kc ks ws lv pc st := by
  subst hnn
  subst hpc
  subst hst
  subst hws
  intro H locs ls hP hD hS hl
  have hPc : va_P D vwCl wc H := (va_P.sub hP isC (fm_map isC wc hC))
  have hDc : va_D (fun _ => True) wc := (va_D.sub hD isC hn hC).weaken (fun _ _ _ _ => trivial)
  have hFc := va_free (wc := wc) hD hS X.hA isC hC
  refine va_calli (va_runS (As := av) (rest := rest) X.fix (hM H.size) (va_cwS av.length X.hts hG hwd rfl rfl hdy hR) (gPreS X.K hPc hDc) rfl rfl hl.1 rfl (lv_room hrest) hd hf) hS (fun q _ h => hFc q h) hFc (fun r u t H1 locs1 ht hvm hw hB hz1 hk1 hS => ?_)
  obtain ⟨rfl, rfl⟩ := hw
  obtain ⟨hP1, hK1, hD1⟩ := hB
  rw [ht] at hP1
  obtain ⟨hP2, hD2⟩ := putB_join hP hD isC hC hn ha hk1 hP1
  exact k H1 locs1 ls hP2 hD2 hS hl
theorem g_callVl (X : gX p s m args c D tys A cc nL own Ts) {r0 : Int64} (hM : ML l y wds rm D tys wc (.ref b :: av) (fun r u => r = r0 ∧ u = wc')) (pc' : Nat) (isC : List Nat) (hG : GoodIn Ts (wsV own index C y wds)) (hwd : wds = Cond.code y bytes maxL ret :: ws9)
    (hdy : y.cls = C ∧ y.cls ≠ "java/lang/invoke/MethodHandle" ∧ y.cls ≠ "java/lang/invoke/VarHandle" ∧ (parseMethodDescriptor y.desc).map (fun d => d.parameters.length) = some n) (hnn : av.length = n) (hR : rm.frames + 1 ≤ R.frames ∧ 8 + (maxL + 11) + rm.locals ≤ R.locals) {ci : Nat} {T : u_T} {N q0 : Nat} {fs : List Value} (hc : vwCl[ci]? = some (C, T, N)) (he : wc[q0]? = some (b, .inr (ci, fs)))
    (hst : st = av.reverse ++ .ref b :: rest) (hrest : (rest.map fun v => v.category).sum ≤ 8) (hC : isC.map (fun i => ws[i]?) = wc.map some) (hn : va_nd isC = true) (ha : wc'.map Prod.fst = wc.map Prod.fst) (hws : putB ws isC wc' = ws')
    (hd : decode cc pc = .ok (.invokevirtual index, 3)) (hpc : pc + 3 = pc') (hf : kc + rm.cells ≤ R.cells ∧ ks + rm.slots ≤ R.slots) (k : G p l e R s m args below meth c Q D A nL (kc + rm.cells) (ks + rm.slots) ws' lv pc' (.long r0 :: rest)) : G p l e R s m args below meth c Q D A nL kc ks ws lv pc st := by
  subst hnn
  subst hpc
  subst hst
  subst hws
  intro H locs ls hP hD hS hl
  have hPc : va_P D vwCl wc H := (va_P.sub hP isC (fm_map isC wc hC))
  have hDc : va_D (fun _ => True) wc := (va_D.sub hD isC hn hC).weaken (fun _ _ _ _ => trivial)
  have hFc := va_free (wc := wc) hD hS X.hA isC hC
  refine va_calll (va_runV (As := av) (rest := rest) X.fix (hM H.size) (cwV av.length X.hts hG hwd rfl rfl hdy hR) (gPreV X.K hPc hDc hc he) rfl rfl hl.1 rfl (lv_room hrest) hd hf) hS (fun q _ h => hFc q h) hFc (fun r u t H1 locs1 ht hvm hw hB hz1 hk1 hS => ?_)
  obtain ⟨rfl, rfl⟩ := hw
  obtain ⟨hP1, hK1, hD1⟩ := hB
  rw [ht] at hP1
  obtain ⟨hP2, hD2⟩ := putB_join hP hD isC hC hn ha hk1 hP1
  exact k H1 locs1 ls hP2 hD2 hS hl
theorem g_callVd (X : gX p s m args c D tys A cc nL own Ts) {r0 : UInt64} (hM : MDb l y wds rm D tys wc (.ref b :: av) (fun r u => r = r0 ∧ u = wc')) (pc' : Nat) (isC : List Nat) (hG : GoodIn Ts (wsV own index C y wds)) (hwd : wds = Cond.code y bytes maxL ret :: ws9)
    (hdy : y.cls = C ∧ y.cls ≠ "java/lang/invoke/MethodHandle" ∧ y.cls ≠ "java/lang/invoke/VarHandle" ∧ (parseMethodDescriptor y.desc).map (fun d => d.parameters.length) = some n) (hnn : av.length = n) (hR : rm.frames + 1 ≤ R.frames ∧ 8 + (maxL + 11) + rm.locals ≤ R.locals) {ci : Nat} {T : u_T} {N q0 : Nat} {fs : List Value} (hc : vwCl[ci]? = some (C, T, N)) (he : wc[q0]? = some (b, .inr (ci, fs)))
    (hst : st = av.reverse ++ .ref b :: rest) (hrest : (rest.map fun v => v.category).sum ≤ 8) (hC : isC.map (fun i => ws[i]?) = wc.map some) (hn : va_nd isC = true) (ha : wc'.map Prod.fst = wc.map Prod.fst) (hws : putB ws isC wc' = ws')
    (hd : decode cc pc = .ok (.invokevirtual index, 3)) (hpc : pc + 3 = pc') (hf : kc + rm.cells ≤ R.cells ∧ ks + rm.slots ≤ R.slots) (k : G p l e R s m args below meth c Q D A nL (kc + rm.cells) (ks + rm.slots) ws' lv pc' (.double r0 :: rest)) : G p l e R s m args below meth c Q D A nL kc ks ws lv pc st := by
  subst hnn
  subst hpc
  subst hst
  subst hws
  intro H locs ls hP hD hS hl
  have hPc : va_P D vwCl wc H := (va_P.sub hP isC (fm_map isC wc hC))
  have hDc : va_D (fun _ => True) wc := (va_D.sub hD isC hn hC).weaken (fun _ _ _ _ => trivial)
  have hFc := va_free (wc := wc) hD hS X.hA isC hC
  refine va_calld (va_runV (As := av) (rest := rest) X.fix (hM H.size) (cwV av.length X.hts hG hwd rfl rfl hdy hR) (gPreV X.K hPc hDc hc he) rfl rfl hl.1 rfl (lv_room hrest) hd hf) hS (fun q _ h => hFc q h) hFc (fun r u t H1 locs1 ht hvm hw hB hz1 hk1 hS => ?_)
  obtain ⟨rfl, rfl⟩ := hw
  obtain ⟨hP1, hK1, hD1⟩ := hB
  rw [ht] at hP1
  obtain ⟨hP2, hD2⟩ := putB_join hP hD isC hC hn ha hk1 hP1
  exact k H1 locs1 ls hP2 hD2 hS hl
theorem g_callVv (X : gX p s m args c D tys A cc nL own Ts) (hM : MV l y wds rm D tys wc (.ref b :: av) (fun u => u = wc')) (pc' : Nat) (isC : List Nat) (hG : GoodIn Ts (wsV own index C y wds)) (hwd : wds = Cond.code y bytes maxL ret :: ws9)
    (hdy : y.cls = C ∧ y.cls ≠ "java/lang/invoke/MethodHandle" ∧ y.cls ≠ "java/lang/invoke/VarHandle" ∧ (parseMethodDescriptor y.desc).map (fun d => d.parameters.length) = some n) (hnn : av.length = n) (hR : rm.frames + 1 ≤ R.frames ∧ 8 + (maxL + 11) + rm.locals ≤ R.locals) {ci : Nat} {T : u_T} {N q0 : Nat} {fs : List Value} (hc : vwCl[ci]? = some (C, T, N)) (he : wc[q0]? = some (b, .inr (ci, fs)))
    (hst : st = av.reverse ++ .ref b :: rest) (hrest : (rest.map fun v => v.category).sum ≤ 8) (hC : isC.map (fun i => ws[i]?) = wc.map some) (hn : va_nd isC = true) (ha : wc'.map Prod.fst = wc.map Prod.fst) (hws : putB ws isC wc' = ws')
    (hd : decode cc pc = .ok (.invokevirtual index, 3)) (hpc : pc + 3 = pc') (hf : kc + rm.cells ≤ R.cells ∧ ks + rm.slots ≤ R.slots) (k : G p l e R s m args below meth c Q D A nL (kc + rm.cells) (ks + rm.slots) ws' lv pc' rest) : G p l e R s m args below meth c Q D A nL kc ks ws lv pc st := by
  subst hnn
  subst hpc
  subst hst
  subst hws
  intro H locs ls hP hD hS hl
  have hPc : va_P D vwCl wc H := (va_P.sub hP isC (fm_map isC wc hC))
  have hDc : va_D (fun _ => True) wc := (va_D.sub hD isC hn hC).weaken (fun _ _ _ _ => trivial)
  have hFc := va_free (wc := wc) hD hS X.hA isC hC
  refine va_callv (va_runV (As := av) (rest := rest) X.fix (hM H.size) (cwV av.length X.hts hG hwd rfl rfl hdy hR) (gPreV X.K hPc hDc hc he) rfl rfl hl.1 rfl (lv_room hrest) hd hf) hS (fun q _ h => hFc q h) hFc (fun u t H1 locs1 ht hvm hw hB hz1 hk1 hS => ?_)
  obtain rfl := hw
  obtain ⟨hP1, hK1, hD1⟩ := hB
  rw [ht] at hP1
  obtain ⟨hP2, hD2⟩ := putB_join hP hD isC hC hn ha hk1 hP1
  exact k H1 locs1 ls hP2 hD2 hS hl
end GC
end
section
set_option maxRecDepth 20000 in
theorem wsL_law0_r1_in : ∀ w ∈ wsL_law0_r1, w ∈ lw_tbl := fun w h => (goodIn_p wsL_law0_r1 [57, 60] (by decide +kernel) (by decide +kernel) w h).1
set_option maxRecDepth 20000 in
theorem wsL_law0_r2_in : ∀ w ∈ wsL_law0_r2, w ∈ lw_tbl := fun w h => (goodIn_p wsL_law0_r2 [65, 92, 109] (by decide +kernel) (by decide +kernel) w h).1
set_option maxRecDepth 20000 in
theorem wsL_law0_r3_in : ∀ w ∈ wsL_law0_r3, w ∈ lw_tbl := fun w h => (goodIn_p wsL_law0_r3 [115, 125] (by decide +kernel) (by decide +kernel) w h).1
set_option maxRecDepth 20000 in
theorem wsL_law0_r4_in : ∀ w ∈ wsL_law0_r4, w ∈ lw_tbl := fun w h => (goodIn_p wsL_law0_r4 [601, 275] (by decide +kernel) (by decide +kernel) w h).1
set_option maxRecDepth 20000 in
theorem wsL_law0_r5_in : ∀ w ∈ wsL_law0_r5, w ∈ lw_tbl := fun w h => (goodIn_p wsL_law0_r5 [379, 641, 644, 648] (by decide +kernel) (by decide +kernel) w h).1
set_option maxRecDepth 20000 in
theorem wsL_law0_r6_in : ∀ w ∈ wsL_law0_r6, w ∈ lw_tbl := fun w h => (goodIn_p wsL_law0_r6 [637, 386, 389, 395, 400] (by decide +kernel) (by decide +kernel) w h).1
set_option maxRecDepth 20000 in
theorem wsL_law0_r7_in : ∀ w ∈ wsL_law0_r7, w ∈ lw_tbl := fun w h => (goodIn_p wsL_law0_r7 [653, 657, 661, 665, 407] (by decide +kernel) (by decide +kernel) w h).1
set_option maxRecDepth 20000 in
theorem wsL_law0_r8_in : ∀ w ∈ wsL_law0_r8, w ∈ lw_tbl := fun w h => (goodIn_p wsL_law0_r8 [413, 669, 420, 673] (by decide +kernel) (by decide +kernel) w h).1
set_option maxRecDepth 20000 in
theorem wsL_law0_r9_in : ∀ w ∈ wsL_law0_r9, w ∈ lw_tbl := fun w h => (goodIn_p wsL_law0_r9 [428, 432, 438, 677, 681, 685] (by decide +kernel) (by decide +kernel) w h).1
set_option maxRecDepth 20000 in
theorem wsL_law0_r10_in : ∀ w ∈ wsL_law0_r10, w ∈ lw_tbl := fun w h => (goodIn_p wsL_law0_r10 [445, 689, 453, 457, 462] (by decide +kernel) (by decide +kernel) w h).1
set_option maxRecDepth 20000 in
theorem wsL_law0_r11_in : ∀ w ∈ wsL_law0_r11, w ∈ lw_tbl := fun w h => (goodIn_p wsL_law0_r11 [466, 469, 693, 697, 701, 704] (by decide +kernel) (by decide +kernel) w h).1
set_option maxRecDepth 20000 in
theorem wsL_law0_r12_in : ∀ w ∈ wsL_law0_r12, w ∈ lw_tbl := fun w h => (goodIn_p wsL_law0_r12 [476, 481, 485, 489, 492, 252] (by decide +kernel) (by decide +kernel) w h).1
set_option maxRecDepth 20000 in
theorem wsL_law0_r13_in : ∀ w ∈ wsL_law0_r13, w ∈ lw_tbl := fun w h => (goodIn_p wsL_law0_r13 [202, 233, 237, 241, 245, 249] (by decide +kernel) (by decide +kernel) w h).1
set_option maxRecDepth 20000 in
theorem wsL_law0_r14_in : ∀ w ∈ wsL_law0_r14, w ∈ lw_tbl := fun w h => (goodIn_p wsL_law0_r14 [499, 503, 508, 708, 712] (by decide +kernel) (by decide +kernel) w h).1
set_option maxRecDepth 20000 in
theorem wsL_law0_r15_in : ∀ w ∈ wsL_law0_r15, w ∈ lw_tbl := fun w h => (goodIn_p wsL_law0_r15 [716, 720, 726, 730, 734] (by decide +kernel) (by decide +kernel) w h).1
set_option maxRecDepth 20000 in
theorem wsL_law0_r16_in : ∀ w ∈ wsL_law0_r16, w ∈ lw_tbl := fun w h => (goodIn_p wsL_law0_r16 [738, 742, 746, 750, 517] (by decide +kernel) (by decide +kernel) w h).1
set_option maxRecDepth 20000 in
theorem wsL_law0_r17_in : ∀ w ∈ wsL_law0_r17, w ∈ lw_tbl := fun w h => (goodIn_p wsL_law0_r17 [754, 525, 256, 260, 758, 762] (by decide +kernel) (by decide +kernel) w h).1
set_option maxRecDepth 20000 in
theorem wsL_law0_r18_in : ∀ w ∈ wsL_law0_r18, w ∈ lw_tbl := fun w h => (goodIn_p wsL_law0_r18 [533, 264, 766, 770] (by decide +kernel) (by decide +kernel) w h).1
set_option maxRecDepth 20000 in
theorem wsL_law0_r19_in : ∀ w ∈ wsL_law0_r19, w ∈ lw_tbl := fun w h => (goodIn_p wsL_law0_r19 [541, 221, 210, 225, 229, 774] (by decide +kernel) (by decide +kernel) w h).1
set_option maxRecDepth 20000 in
theorem wsL_law0_r20_in : ∀ w ∈ wsL_law0_r20, w ∈ lw_tbl := fun w h => (goodIn_p wsL_law0_r20 [778, 782, 786, 549, 790] (by decide +kernel) (by decide +kernel) w h).1
set_option maxRecDepth 20000 in
theorem wsL_law0_r21_in : ∀ w ∈ wsL_law0_r21, w ∈ lw_tbl := fun w h => (goodIn_p wsL_law0_r21 [194, 198, 794, 798, 557] (by decide +kernel) (by decide +kernel) w h).1
set_option maxRecDepth 20000 in
theorem wsL_law0_r22_in : ∀ w ∈ wsL_law0_r22, w ∈ lw_tbl := fun w h => (goodIn_p wsL_law0_r22 [561, 565, 572, 802, 806, 810] (by decide +kernel) (by decide +kernel) w h).1
set_option maxRecDepth 20000 in
theorem wsL_law0_r23_in : ∀ w ∈ wsL_law0_r23, w ∈ lw_tbl := fun w h => (goodIn_p wsL_law0_r23 [579, 583, 814, 591] (by decide +kernel) (by decide +kernel) w h).1
set_option maxRecDepth 20000 in
theorem wsL_law0_r24_in : ∀ w ∈ wsL_law0_r24, w ∈ lw_tbl := fun w h => (goodIn_p wsL_law0_r24 [596, 818, 206, 822, 215] (by decide +kernel) (by decide +kernel) w h).1
set_option maxRecDepth 20000 in
theorem wsL_law0_r25_in : ∀ w ∈ wsL_law0_r25, w ∈ lw_tbl := fun w h => (goodIn_p wsL_law0_r25 [827] (by decide +kernel) (by decide +kernel) w h).1
theorem wsX50_in : ∀ w ∈ wsX50, w ∈ lw_tbl := fun w h => (goodIn_p wsX50 [] (by decide +kernel) (by decide +kernel) w h).1
theorem wsX60_in : ∀ w ∈ wsX60, w ∈ lw_tbl := fun w h => (goodIn_p wsX60 [] (by decide +kernel) (by decide +kernel) w h).1
theorem wsX40_in : ∀ w ∈ wsX40, w ∈ lw_tbl := fun w h => (goodIn_p wsX40 [] (by decide +kernel) (by decide +kernel) w h).1
theorem wsX10_in : ∀ w ∈ wsX10, w ∈ lw_tbl := fun w h => (goodIn_p wsX10 [] (by decide +kernel) (by decide +kernel) w h).1
theorem wsX00_in : ∀ w ∈ wsX00, w ∈ lw_tbl := fun w h => (goodIn_p wsX00 [] (by decide +kernel) (by decide +kernel) w h).1
theorem wsX20_in : ∀ w ∈ wsX20, w ∈ lw_tbl := fun w h => (goodIn_p wsX20 [] (by decide +kernel) (by decide +kernel) w h).1
theorem wsX30_in : ∀ w ∈ wsX30, w ∈ lw_tbl := fun w h => (goodIn_p wsX30 [] (by decide +kernel) (by decide +kernel) w h).1
theorem wsL_app {a b : List Cond} (h1 : ∀ w ∈ a, w ∈ lw_tbl) (h2 : ∀ w ∈ b, w ∈ lw_tbl) : ∀ w ∈ a ++ b, w ∈ lw_tbl := fun w h => (List.mem_append.mp h).elim (h1 w) (h2 w)
theorem wsL_law_in0 : ∀ w ∈ wsL_law0, w ∈ lw_tbl := (wsL_app (wsL_app (wsL_app (wsL_app (wsL_app (wsL_app (wsL_app (wsL_app (wsL_app wsL_law0_r1_in (wsL_app wsL_law0_r2_in (wsL_app wsL_law0_r3_in (wsL_app wsL_law0_r4_in (wsL_app wsL_law0_r5_in (wsL_app wsL_law0_r6_in (wsL_app wsL_law0_r7_in (wsL_app wsL_law0_r8_in (wsL_app wsL_law0_r9_in (wsL_app wsL_law0_r10_in (wsL_app wsL_law0_r11_in (wsL_app wsL_law0_r12_in (wsL_app wsL_law0_r13_in (wsL_app wsL_law0_r14_in (wsL_app wsL_law0_r15_in (wsL_app wsL_law0_r16_in (wsL_app wsL_law0_r17_in (wsL_app wsL_law0_r18_in (wsL_app wsL_law0_r19_in (wsL_app wsL_law0_r20_in (wsL_app wsL_law0_r21_in (wsL_app wsL_law0_r22_in (wsL_app wsL_law0_r23_in (wsL_app wsL_law0_r24_in wsL_law0_r25_in)))))))))))))))))))))))) wsX50_in) wsX60_in) wsX40_in) wsX10_in) wsX00_in) wsX20_in) wsX30_in) (fun w h => absurd h List.not_mem_nil))
theorem wsL_law_x0 : ∀ w ∈ (vx_atS RX5 37 "java/lang/IllegalArgumentException" ["java/lang/RuntimeException", "java/lang/Exception"]).filter goodWord, w ∈ lw_tbl := by decide +kernel
theorem wsL_law_x1 : ∀ w ∈ (vx_atS RX5 44 "java/lang/IndexOutOfBoundsException" ["java/lang/RuntimeException", "java/lang/Exception"]).filter goodWord, w ∈ lw_tbl := by decide +kernel
theorem wsL_law_x2 : ∀ w ∈ (vx_atS RX5 53 "java/lang/IllegalStateException" ["java/lang/RuntimeException", "java/lang/Exception"]).filter goodWord, w ∈ lw_tbl := by decide +kernel
theorem wsL_law_in : ∀ w ∈ wsL_law, w ∈ lw_tbl := fun w h => (List.mem_append.mp h).elim (fun h => (List.mem_append.mp h).elim (fun h => (List.mem_append.mp h).elim (fun h => wsL_law_in0 w h) (fun h => wsL_law_x0 w h)) (fun h => wsL_law_x1 w h)) (fun h => wsL_law_x2 w h)
theorem inlX0 : ∀ w ∈ wsX00, w ∈ wsL_law := fun _ h => List.mem_append_left _ (List.mem_append_left _ (List.mem_append_left _ (List.mem_append_left _ (List.mem_append_left _ (List.mem_append_left _ (List.mem_append_right _ h))))))
theorem inX0 : ∀ w ∈ wsX00, w ∈ lw_tbl := fun w h => wsL_law_in w (inlX0 w h)
theorem inlX1 : ∀ w ∈ wsX10, w ∈ wsL_law := fun _ h => List.mem_append_left _ (List.mem_append_left _ (List.mem_append_left _ (List.mem_append_left _ (List.mem_append_left _ (List.mem_append_left _ (List.mem_append_left _ (List.mem_append_right _ h)))))))
theorem inX1 : ∀ w ∈ wsX10, w ∈ lw_tbl := fun w h => wsL_law_in w (inlX1 w h)
theorem inlX2 : ∀ w ∈ wsX20, w ∈ wsL_law := fun _ h => List.mem_append_left _ (List.mem_append_left _ (List.mem_append_left _ (List.mem_append_left _ (List.mem_append_left _ (List.mem_append_right _ h)))))
theorem inX2 : ∀ w ∈ wsX20, w ∈ lw_tbl := fun w h => wsL_law_in w (inlX2 w h)
theorem inlX3 : ∀ w ∈ wsX30, w ∈ wsL_law := fun _ h => List.mem_append_left _ (List.mem_append_left _ (List.mem_append_left _ (List.mem_append_left _ (List.mem_append_right _ h))))
theorem inX3 : ∀ w ∈ wsX30, w ∈ lw_tbl := fun w h => wsL_law_in w (inlX3 w h)
theorem inlX4 : ∀ w ∈ wsX40, w ∈ wsL_law := fun _ h => List.mem_append_left _ (List.mem_append_left _ (List.mem_append_left _ (List.mem_append_left _ (List.mem_append_left _ (List.mem_append_left _ (List.mem_append_left _ (List.mem_append_left _ (List.mem_append_right _ h))))))))
theorem inX4 : ∀ w ∈ wsX40, w ∈ lw_tbl := fun w h => wsL_law_in w (inlX4 w h)
theorem inlX5 : ∀ w ∈ wsX50, w ∈ wsL_law := fun _ h => List.mem_append_left _ (List.mem_append_left _ (List.mem_append_left _ (List.mem_append_left _ (List.mem_append_left _ (List.mem_append_left _ (List.mem_append_left _ (List.mem_append_left _ (List.mem_append_left _ (List.mem_append_left _ (List.mem_append_right _ h))))))))))
theorem inX5 : ∀ w ∈ wsX50, w ∈ lw_tbl := fun w h => wsL_law_in w (inlX5 w h)
theorem inlX6 : ∀ w ∈ wsX60, w ∈ wsL_law := fun _ h => List.mem_append_left _ (List.mem_append_left _ (List.mem_append_left _ (List.mem_append_left _ (List.mem_append_left _ (List.mem_append_left _ (List.mem_append_left _ (List.mem_append_left _ (List.mem_append_left _ (List.mem_append_right _ h)))))))))
theorem inX6 : ∀ w ∈ wsX60, w ∈ lw_tbl := fun w h => wsL_law_in w (inlX6 w h)
theorem inJ9 : ∀ w ∈ wsJ90, w ∈ lw_tbl := by decide +kernel
theorem inJ0 : ∀ w ∈ wsJ00, w ∈ lw_tbl := by decide +kernel
theorem inJ10 : ∀ w ∈ wsJ100, w ∈ lw_tbl := by decide +kernel
end
section
set_option maxRecDepth 20000 in
theorem ggX0_init_X2_init : GoodIn wsX0_init wsX2_init := goodIn_r _ [17, 18, 2, 3, 19, 20, 32] (by decide +kernel) (by decide +kernel)
set_option maxRecDepth 20000 in
theorem gX0_init_X2_init_n9 : GoodIn wsX0_init (wsX2_init) := ggX0_init_X2_init
set_option maxRecDepth 20000 in
theorem ggX0_init_X3_init : GoodIn wsX0_init wsX3_init := goodIn_r _ [22, 23, 2, 3, 24, 19, 25, 26, 27, 28, 29, 30, 31, 39, 40, 41, 42, 43, 44, 45] (by decide +kernel) (by decide +kernel)
set_option maxRecDepth 20000 in
theorem gX0_init_X3_init_n18 : GoodIn wsX0_init (wsX3_init) := ggX0_init_X3_init
theorem dX0_init_0 : decode cX0_init 0 = .ok (.aload_n 0, 1) := by decide +kernel
theorem dX0_init_1 : decode cX0_init 1 = .ok (.invokespecial 1, 3) := by decide +kernel
theorem dX0_init_4 : decode cX0_init 4 = .ok (.aload_n 0, 1) := by decide +kernel
theorem dX0_init_5 : decode cX0_init 5 = .ok (.new 7, 3) := by decide +kernel
theorem dX0_init_8 : decode cX0_init 8 = .ok (.dup, 1) := by decide +kernel
theorem dX0_init_9 : decode cX0_init 9 = .ok (.invokespecial 9, 3) := by decide +kernel
theorem dX0_init_12 : decode cX0_init 12 = .ok (.putfield 10, 3) := by decide +kernel
theorem dX0_init_15 : decode cX0_init 15 = .ok (.aload_n 0, 1) := by decide +kernel
theorem dX0_init_16 : decode cX0_init 16 = .ok (.new 16, 3) := by decide +kernel
theorem dX0_init_19 : decode cX0_init 19 = .ok (.dup, 1) := by decide +kernel
theorem dX0_init_20 : decode cX0_init 20 = .ok (.invokespecial 18, 3) := by decide +kernel
theorem dX0_init_23 : decode cX0_init 23 = .ok (.putfield 19, 3) := by decide +kernel
theorem dX0_init_26 : decode cX0_init 26 = .ok (.aload_n 0, 1) := by decide +kernel
theorem dX0_init_27 : decode cX0_init 27 = .ok (.iconst 0, 1) := by decide +kernel
theorem dX0_init_28 : decode cX0_init 28 = .ok (.putfield 23, 3) := by decide +kernel
theorem dX0_init_31 : decode cX0_init 31 = .ok (.aload_n 0, 1) := by decide +kernel
theorem dX0_init_32 : decode cX0_init 32 = .ok (.iconst 0, 1) := by decide +kernel
theorem dX0_init_33 : decode cX0_init 33 = .ok (.putfield 27, 3) := by decide +kernel
theorem dX0_init_36 : decode cX0_init 36 = .ok (.aload_n 0, 1) := by decide +kernel
theorem dX0_init_37 : decode cX0_init 37 = .ok (.iconst 0, 1) := by decide +kernel
theorem dX0_init_38 : decode cX0_init 38 = .ok (.putfield 30, 3) := by decide +kernel
theorem dX0_init_41 : decode cX0_init 41 = .ok (.aload_n 0, 1) := by decide +kernel
theorem dX0_init_42 : decode cX0_init 42 = .ok (.iconst 0, 1) := by decide +kernel
theorem dX0_init_43 : decode cX0_init 43 = .ok (.putfield 33, 3) := by decide +kernel
theorem dX0_init_46 : decode cX0_init 46 = .ok (.return_, 1) := by decide +kernel
set_option maxRecDepth 20000 in
theorem ggX0_copyFrom_X2_copyFrom : GoodIn wsX0_copyFrom wsX2_copyFrom := goodIn_r _ [11, 12, 13, 14, 15, 16, 35] (by decide +kernel) (by decide +kernel)
set_option maxRecDepth 20000 in
theorem gX0_copyFrom_X2_copyFrom : GoodIn wsX0_copyFrom (wsV RX0 36 RX2 yX2_copyFrom wsX2_copyFrom) := goodIn_app (goodIn_of _ (by decide +kernel)) ggX0_copyFrom_X2_copyFrom
set_option maxRecDepth 20000 in
theorem ggX0_copyFrom_X3_copyFrom : GoodIn wsX0_copyFrom wsX3_copyFrom := goodIn_r _ [21, 22, 23, 24, 25, 26, 27, 28, 36, 37, 38, 39, 40, 41, 42] (by decide +kernel) (by decide +kernel)
set_option maxRecDepth 20000 in
theorem gX0_copyFrom_X3_copyFrom : GoodIn wsX0_copyFrom (wsV RX0 40 RX3 yX3_copyFrom wsX3_copyFrom) := goodIn_app (goodIn_of _ (by decide +kernel)) ggX0_copyFrom_X3_copyFrom
theorem dX0_copyFrom_0 : decode cX0_copyFrom 0 = .ok (.aload_n 0, 1) := by decide +kernel
theorem dX0_copyFrom_1 : decode cX0_copyFrom 1 = .ok (.getfield 10, 3) := by decide +kernel
theorem dX0_copyFrom_4 : decode cX0_copyFrom 4 = .ok (.aload_n 1, 1) := by decide +kernel
theorem dX0_copyFrom_5 : decode cX0_copyFrom 5 = .ok (.getfield 10, 3) := by decide +kernel
theorem dX0_copyFrom_8 : decode cX0_copyFrom 8 = .ok (.invokevirtual 36, 3) := by decide +kernel
theorem dX0_copyFrom_11 : decode cX0_copyFrom 11 = .ok (.aload_n 0, 1) := by decide +kernel
theorem dX0_copyFrom_12 : decode cX0_copyFrom 12 = .ok (.getfield 19, 3) := by decide +kernel
theorem dX0_copyFrom_15 : decode cX0_copyFrom 15 = .ok (.aload_n 1, 1) := by decide +kernel
theorem dX0_copyFrom_16 : decode cX0_copyFrom 16 = .ok (.getfield 19, 3) := by decide +kernel
theorem dX0_copyFrom_19 : decode cX0_copyFrom 19 = .ok (.invokevirtual 40, 3) := by decide +kernel
theorem dX0_copyFrom_22 : decode cX0_copyFrom 22 = .ok (.aload_n 0, 1) := by decide +kernel
theorem dX0_copyFrom_23 : decode cX0_copyFrom 23 = .ok (.aload_n 1, 1) := by decide +kernel
theorem dX0_copyFrom_24 : decode cX0_copyFrom 24 = .ok (.getfield 23, 3) := by decide +kernel
theorem dX0_copyFrom_27 : decode cX0_copyFrom 27 = .ok (.putfield 23, 3) := by decide +kernel
theorem dX0_copyFrom_30 : decode cX0_copyFrom 30 = .ok (.aload_n 0, 1) := by decide +kernel
theorem dX0_copyFrom_31 : decode cX0_copyFrom 31 = .ok (.aload_n 1, 1) := by decide +kernel
theorem dX0_copyFrom_32 : decode cX0_copyFrom 32 = .ok (.getfield 27, 3) := by decide +kernel
theorem dX0_copyFrom_35 : decode cX0_copyFrom 35 = .ok (.putfield 27, 3) := by decide +kernel
theorem dX0_copyFrom_38 : decode cX0_copyFrom 38 = .ok (.aload_n 0, 1) := by decide +kernel
theorem dX0_copyFrom_39 : decode cX0_copyFrom 39 = .ok (.aload_n 1, 1) := by decide +kernel
theorem dX0_copyFrom_40 : decode cX0_copyFrom 40 = .ok (.getfield 30, 3) := by decide +kernel
theorem dX0_copyFrom_43 : decode cX0_copyFrom 43 = .ok (.putfield 30, 3) := by decide +kernel
theorem dX0_copyFrom_46 : decode cX0_copyFrom 46 = .ok (.aload_n 0, 1) := by decide +kernel
theorem dX0_copyFrom_47 : decode cX0_copyFrom 47 = .ok (.aload_n 1, 1) := by decide +kernel
theorem dX0_copyFrom_48 : decode cX0_copyFrom 48 = .ok (.getfield 33, 3) := by decide +kernel
theorem dX0_copyFrom_51 : decode cX0_copyFrom 51 = .ok (.putfield 33, 3) := by decide +kernel
theorem dX0_copyFrom_54 : decode cX0_copyFrom 54 = .ok (.return_, 1) := by decide +kernel
set_option maxRecDepth 20000 in
theorem ggX0_goOn_X0_goOneDay : GoodIn wsX0_goOn wsX0_goOneDay := goodIn_r _ [5, 6, 7, 8, 9, 10, 11, 12, 13, 14, 15, 16, 17, 18, 19, 20, 21, 22, 23, 24, 25, 26, 27, 28, 29, 30, 31, 32, 33, 34, 35, 36, 37, 38, 39, 40, 41, 42, 43, 44, 45, 46, 47, 48, 49, 50, 51, 52, 53, 54, 55, 56, 57, 58, 59, 60, 61, 62, 63, 64, 65, 66, 67, 68, 69, 70, 71, 72, 73, 74, 75, 76, 77, 78, 79, 80, 81, 82, 83, 84, 85, 86, 87, 88, 89, 90, 91, 92, 93, 94, 95, 96, 97, 98, 99, 100, 101, 102, 103, 104, 105, 106, 107, 108, 109, 110, 111, 112, 113, 114, 115, 116, 117, 118] (by decide +kernel) (by decide +kernel)
set_option maxRecDepth 20000 in
theorem gX0_goOn_X0_goOneDay : GoodIn wsX0_goOn (wsV RX0 43 RX0 yX0_goOneDay wsX0_goOneDay) := goodIn_app (goodIn_of _ (by decide +kernel)) ggX0_goOn_X0_goOneDay
theorem dX0_goOn_0 : decode cX0_goOn 0 = .ok (.iconst 0, 1) := by decide +kernel
theorem dX0_goOn_1 : decode cX0_goOn 1 = .ok (.istore 4, 2) := by decide +kernel
theorem dX0_goOn_3 : decode cX0_goOn 3 = .ok (.iload 4, 2) := by decide +kernel
theorem dX0_goOn_5 : decode cX0_goOn 5 = .ok (.iload_n 1, 1) := by decide +kernel
theorem dX0_goOn_6 : decode cX0_goOn 6 = .ok (.if_icmp .ge 15, 3) := by decide +kernel
theorem dX0_goOn_9 : decode cX0_goOn 9 = .ok (.aload_n 0, 1) := by decide +kernel
theorem dX0_goOn_10 : decode cX0_goOn 10 = .ok (.aload_n 2, 1) := by decide +kernel
theorem dX0_goOn_11 : decode cX0_goOn 11 = .ok (.aload_n 3, 1) := by decide +kernel
theorem dX0_goOn_12 : decode cX0_goOn 12 = .ok (.invokevirtual 43, 3) := by decide +kernel
theorem dX0_goOn_15 : decode cX0_goOn 15 = .ok (.iinc 4 1, 3) := by decide +kernel
theorem dX0_goOn_18 : decode cX0_goOn 18 = .ok (.goto (-15), 3) := by decide +kernel
theorem dX0_goOn_21 : decode cX0_goOn 21 = .ok (.return_, 1) := by decide +kernel
set_option maxRecDepth 20000 in
theorem ggX0_goOneDay_X2_gather : GoodIn wsX0_goOneDay wsX2_gather := goodIn_r _ [11, 12, 13, 14, 15, 16, 17, 18, 10, 19, 20, 21, 22, 97] (by decide +kernel) (by decide +kernel)
set_option maxRecDepth 20000 in
theorem gX0_goOneDay_X2_gather : GoodIn wsX0_goOneDay (wsV RX0 47 RX2 yX2_gather wsX2_gather) := goodIn_app (goodIn_of _ (by decide +kernel)) ggX0_goOneDay_X2_gather
set_option maxRecDepth 20000 in
theorem ggX0_goOneDay_X1_areOn : GoodIn wsX0_goOneDay wsX1_areOn := goodIn_r _ [27, 28, 29, 30, 98, 99, 100] (by decide +kernel) (by decide +kernel)
set_option maxRecDepth 20000 in
theorem gX0_goOneDay_X1_areOn : GoodIn wsX0_goOneDay (wsV RX0 51 RX1 yX1_areOn wsX1_areOn) := goodIn_app (goodIn_of _ (by decide +kernel)) ggX0_goOneDay_X1_areOn
set_option maxRecDepth 20000 in
theorem ggX0_goOneDay_X4_allBring : GoodIn wsX0_goOneDay wsX4_allBring := goodIn_r _ [35, 36, 37, 38, 39, 34, 40, 41, 42, 21, 15, 22, 43, 44, 45, 46, 47, 48, 49, 50, 51, 52, 53, 54, 55, 56, 57, 10, 58, 12, 101, 102, 103, 104, 105, 106, 97] (by decide +kernel) (by decide +kernel)
set_option maxRecDepth 20000 in
theorem gX0_goOneDay_X4_allBring : GoodIn wsX0_goOneDay (wsV RX0 57 RX4 yX4_allBring wsX4_allBring) := goodIn_app (goodIn_of _ (by decide +kernel)) ggX0_goOneDay_X4_allBring
set_option maxRecDepth 20000 in
theorem ggX0_goOneDay_X3_work : GoodIn wsX0_goOneDay wsX3_work := goodIn_r _ [63, 64, 65, 66, 67, 62, 68, 69, 70, 71, 72, 73, 74, 75, 10, 76, 12, 13, 14, 15, 16, 77, 78, 79, 80, 81, 82, 83, 84, 85, 86, 87, 88, 89, 90, 107, 108, 109, 110, 111, 112, 113, 97] (by decide +kernel) (by decide +kernel)
set_option maxRecDepth 20000 in
theorem gX0_goOneDay_X3_work : GoodIn wsX0_goOneDay (wsV RX0 63 RX3 yX3_work wsX3_work) := goodIn_app (goodIn_of _ (by decide +kernel)) ggX0_goOneDay_X3_work
theorem dX0_goOneDay_0 : decode cX0_goOneDay 0 = .ok (.aload_n 0, 1) := by decide +kernel
theorem dX0_goOneDay_1 : decode cX0_goOneDay 1 = .ok (.getfield 10, 3) := by decide +kernel
theorem dX0_goOneDay_4 : decode cX0_goOneDay 4 = .ok (.aload_n 0, 1) := by decide +kernel
theorem dX0_goOneDay_5 : decode cX0_goOneDay 5 = .ok (.getfield 23, 3) := by decide +kernel
theorem dX0_goOneDay_8 : decode cX0_goOneDay 8 = .ok (.invokevirtual 47, 3) := by decide +kernel
theorem dX0_goOneDay_11 : decode cX0_goOneDay 11 = .ok (.aload_n 2, 1) := by decide +kernel
theorem dX0_goOneDay_12 : decode cX0_goOneDay 12 = .ok (.aload_n 0, 1) := by decide +kernel
theorem dX0_goOneDay_13 : decode cX0_goOneDay 13 = .ok (.getfield 27, 3) := by decide +kernel
theorem dX0_goOneDay_16 : decode cX0_goOneDay 16 = .ok (.invokevirtual 51, 3) := by decide +kernel
theorem dX0_goOneDay_19 : decode cX0_goOneDay 19 = .ok (.ifCond .eq 33, 3) := by decide +kernel
theorem dX0_goOneDay_22 : decode cX0_goOneDay 22 = .ok (.aload_n 0, 1) := by decide +kernel
theorem dX0_goOneDay_23 : decode cX0_goOneDay 23 = .ok (.dup, 1) := by decide +kernel
theorem dX0_goOneDay_24 : decode cX0_goOneDay 24 = .ok (.getfield 30, 3) := by decide +kernel
theorem dX0_goOneDay_27 : decode cX0_goOneDay 27 = .ok (.aload_n 1, 1) := by decide +kernel
theorem dX0_goOneDay_28 : decode cX0_goOneDay 28 = .ok (.aload_n 0, 1) := by decide +kernel
theorem dX0_goOneDay_29 : decode cX0_goOneDay 29 = .ok (.getfield 10, 3) := by decide +kernel
theorem dX0_goOneDay_32 : decode cX0_goOneDay 32 = .ok (.invokevirtual 57, 3) := by decide +kernel
theorem dX0_goOneDay_35 : decode cX0_goOneDay 35 = .ok (.iadd, 1) := by decide +kernel
theorem dX0_goOneDay_36 : decode cX0_goOneDay 36 = .ok (.putfield 30, 3) := by decide +kernel
theorem dX0_goOneDay_39 : decode cX0_goOneDay 39 = .ok (.aload_n 0, 1) := by decide +kernel
theorem dX0_goOneDay_40 : decode cX0_goOneDay 40 = .ok (.dup, 1) := by decide +kernel
theorem dX0_goOneDay_41 : decode cX0_goOneDay 41 = .ok (.getfield 33, 3) := by decide +kernel
theorem dX0_goOneDay_44 : decode cX0_goOneDay 44 = .ok (.iconst 1, 1) := by decide +kernel
theorem dX0_goOneDay_45 : decode cX0_goOneDay 45 = .ok (.iadd, 1) := by decide +kernel
theorem dX0_goOneDay_46 : decode cX0_goOneDay 46 = .ok (.putfield 33, 3) := by decide +kernel
theorem dX0_goOneDay_49 : decode cX0_goOneDay 49 = .ok (.goto 14, 3) := by decide +kernel
theorem dX0_goOneDay_52 : decode cX0_goOneDay 52 = .ok (.aload_n 0, 1) := by decide +kernel
theorem dX0_goOneDay_53 : decode cX0_goOneDay 53 = .ok (.getfield 19, 3) := by decide +kernel
theorem dX0_goOneDay_56 : decode cX0_goOneDay 56 = .ok (.aload_n 0, 1) := by decide +kernel
theorem dX0_goOneDay_57 : decode cX0_goOneDay 57 = .ok (.getfield 10, 3) := by decide +kernel
theorem dX0_goOneDay_60 : decode cX0_goOneDay 60 = .ok (.invokevirtual 63, 3) := by decide +kernel
theorem dX0_goOneDay_63 : decode cX0_goOneDay 63 = .ok (.aload_n 0, 1) := by decide +kernel
theorem dX0_goOneDay_64 : decode cX0_goOneDay 64 = .ok (.dup, 1) := by decide +kernel
theorem dX0_goOneDay_65 : decode cX0_goOneDay 65 = .ok (.getfield 27, 3) := by decide +kernel
theorem dX0_goOneDay_68 : decode cX0_goOneDay 68 = .ok (.iconst 1, 1) := by decide +kernel
theorem dX0_goOneDay_69 : decode cX0_goOneDay 69 = .ok (.iadd, 1) := by decide +kernel
theorem dX0_goOneDay_70 : decode cX0_goOneDay 70 = .ok (.putfield 27, 3) := by decide +kernel
theorem dX0_goOneDay_73 : decode cX0_goOneDay 73 = .ok (.return_, 1) := by decide +kernel
theorem dX1_init_0 : decode cX1_init 0 = .ok (.aload_n 0, 1) := by decide +kernel
theorem dX1_init_1 : decode cX1_init 1 = .ok (.invokespecial 3, 3) := by decide +kernel
theorem dX1_init_4 : decode cX1_init 4 = .ok (.aload_n 0, 1) := by decide +kernel
theorem dX1_init_5 : decode cX1_init 5 = .ok (.iconst 0, 1) := by decide +kernel
theorem dX1_init_6 : decode cX1_init 6 = .ok (.putfield 9, 3) := by decide +kernel
theorem dX1_init_9 : decode cX1_init 9 = .ok (.aload_n 0, 1) := by decide +kernel
theorem dX1_init_10 : decode cX1_init 10 = .ok (.iconst 4, 1) := by decide +kernel
theorem dX1_init_11 : decode cX1_init 11 = .ok (.newarray .int, 2) := by decide +kernel
theorem dX1_init_13 : decode cX1_init 13 = .ok (.putfield 15, 3) := by decide +kernel
theorem dX1_init_16 : decode cX1_init 16 = .ok (.aload_n 0, 1) := by decide +kernel
theorem dX1_init_17 : decode cX1_init 17 = .ok (.iconst 4, 1) := by decide +kernel
theorem dX1_init_18 : decode cX1_init 18 = .ok (.newarray .int, 2) := by decide +kernel
theorem dX1_init_20 : decode cX1_init 20 = .ok (.putfield 19, 3) := by decide +kernel
theorem dX1_init_23 : decode cX1_init 23 = .ok (.return_, 1) := by decide +kernel
theorem dX1_put_0 : decode cX1_put 0 = .ok (.aload_n 0, 1) := by decide +kernel
theorem dX1_put_1 : decode cX1_put 1 = .ok (.getfield 15, 3) := by decide +kernel
theorem dX1_put_4 : decode cX1_put 4 = .ok (.aload_n 0, 1) := by decide +kernel
theorem dX1_put_5 : decode cX1_put 5 = .ok (.getfield 9, 3) := by decide +kernel
theorem dX1_put_8 : decode cX1_put 8 = .ok (.iload_n 1, 1) := by decide +kernel
theorem dX1_put_9 : decode cX1_put 9 = .ok (.iastore, 1) := by decide +kernel
theorem dX1_put_10 : decode cX1_put 10 = .ok (.aload_n 0, 1) := by decide +kernel
theorem dX1_put_11 : decode cX1_put 11 = .ok (.getfield 19, 3) := by decide +kernel
theorem dX1_put_14 : decode cX1_put 14 = .ok (.aload_n 0, 1) := by decide +kernel
theorem dX1_put_15 : decode cX1_put 15 = .ok (.getfield 9, 3) := by decide +kernel
theorem dX1_put_18 : decode cX1_put 18 = .ok (.iload_n 2, 1) := by decide +kernel
theorem dX1_put_19 : decode cX1_put 19 = .ok (.iastore, 1) := by decide +kernel
theorem dX1_put_20 : decode cX1_put 20 = .ok (.aload_n 0, 1) := by decide +kernel
theorem dX1_put_21 : decode cX1_put 21 = .ok (.dup, 1) := by decide +kernel
theorem dX1_put_22 : decode cX1_put 22 = .ok (.getfield 9, 3) := by decide +kernel
theorem dX1_put_25 : decode cX1_put 25 = .ok (.iconst 1, 1) := by decide +kernel
theorem dX1_put_26 : decode cX1_put 26 = .ok (.iadd, 1) := by decide +kernel
theorem dX1_put_27 : decode cX1_put 27 = .ok (.putfield 9, 3) := by decide +kernel
theorem dX1_put_30 : decode cX1_put 30 = .ok (.aload_n 0, 1) := by decide +kernel
theorem dX1_put_31 : decode cX1_put 31 = .ok (.getfield 9, 3) := by decide +kernel
theorem dX1_put_34 : decode cX1_put 34 = .ok (.iconst 1, 1) := by decide +kernel
theorem dX1_put_35 : decode cX1_put 35 = .ok (.isub, 1) := by decide +kernel
theorem dX1_put_36 : decode cX1_put 36 = .ok (.ireturn, 1) := by decide +kernel
theorem dX1_areOn_0 : decode cX1_areOn 0 = .ok (.iconst 0, 1) := by decide +kernel
theorem dX1_areOn_1 : decode cX1_areOn 1 = .ok (.istore_n 2, 1) := by decide +kernel
theorem dX1_areOn_2 : decode cX1_areOn 2 = .ok (.iload_n 2, 1) := by decide +kernel
theorem dX1_areOn_3 : decode cX1_areOn 3 = .ok (.aload_n 0, 1) := by decide +kernel
theorem dX1_areOn_4 : decode cX1_areOn 4 = .ok (.getfield 9, 3) := by decide +kernel
theorem dX1_areOn_7 : decode cX1_areOn 7 = .ok (.if_icmp .ge 35, 3) := by decide +kernel
theorem dX1_areOn_10 : decode cX1_areOn 10 = .ok (.aload_n 0, 1) := by decide +kernel
theorem dX1_areOn_11 : decode cX1_areOn 11 = .ok (.getfield 15, 3) := by decide +kernel
theorem dX1_areOn_14 : decode cX1_areOn 14 = .ok (.iload_n 2, 1) := by decide +kernel
theorem dX1_areOn_15 : decode cX1_areOn 15 = .ok (.iaload, 1) := by decide +kernel
theorem dX1_areOn_16 : decode cX1_areOn 16 = .ok (.istore_n 3, 1) := by decide +kernel
theorem dX1_areOn_17 : decode cX1_areOn 17 = .ok (.iload_n 3, 1) := by decide +kernel
theorem dX1_areOn_18 : decode cX1_areOn 18 = .ok (.iconst 2, 1) := by decide +kernel
theorem dX1_areOn_19 : decode cX1_areOn 19 = .ok (.if_icmp .lt 17, 3) := by decide +kernel
theorem dX1_areOn_22 : decode cX1_areOn 22 = .ok (.iload_n 1, 1) := by decide +kernel
theorem dX1_areOn_23 : decode cX1_areOn 23 = .ok (.iload_n 3, 1) := by decide +kernel
theorem dX1_areOn_24 : decode cX1_areOn 24 = .ok (.irem, 1) := by decide +kernel
theorem dX1_areOn_25 : decode cX1_areOn 25 = .ok (.aload_n 0, 1) := by decide +kernel
theorem dX1_areOn_26 : decode cX1_areOn 26 = .ok (.getfield 19, 3) := by decide +kernel
theorem dX1_areOn_29 : decode cX1_areOn 29 = .ok (.iload_n 2, 1) := by decide +kernel
theorem dX1_areOn_30 : decode cX1_areOn 30 = .ok (.iaload, 1) := by decide +kernel
theorem dX1_areOn_31 : decode cX1_areOn 31 = .ok (.if_icmp .ne 5, 3) := by decide +kernel
theorem dX1_areOn_34 : decode cX1_areOn 34 = .ok (.iconst 1, 1) := by decide +kernel
theorem dX1_areOn_35 : decode cX1_areOn 35 = .ok (.ireturn, 1) := by decide +kernel
theorem dX1_areOn_36 : decode cX1_areOn 36 = .ok (.iinc 2 1, 3) := by decide +kernel
theorem dX1_areOn_39 : decode cX1_areOn 39 = .ok (.goto (-37), 3) := by decide +kernel
theorem dX1_areOn_42 : decode cX1_areOn 42 = .ok (.iconst 0, 1) := by decide +kernel
theorem dX1_areOn_43 : decode cX1_areOn 43 = .ok (.ireturn, 1) := by decide +kernel
set_option maxRecDepth 20000 in
theorem ggX1_daysUntil_X1_areOn : GoodIn wsX1_daysUntil wsX1_areOn := goodIn_r _ [5, 6, 7, 8, 9, 10, 11] (by decide +kernel) (by decide +kernel)
set_option maxRecDepth 20000 in
theorem gX1_daysUntil_X1_areOn : GoodIn wsX1_daysUntil (wsV RX1 22 RX1 yX1_areOn wsX1_areOn) := goodIn_app (goodIn_of _ (by decide +kernel)) ggX1_daysUntil_X1_areOn
theorem dX1_daysUntil_0 : decode cX1_daysUntil 0 = .ok (.iconst 0, 1) := by decide +kernel
theorem dX1_daysUntil_1 : decode cX1_daysUntil 1 = .ok (.istore_n 2, 1) := by decide +kernel
theorem dX1_daysUntil_2 : decode cX1_daysUntil 2 = .ok (.iload_n 2, 1) := by decide +kernel
theorem dX1_daysUntil_3 : decode cX1_daysUntil 3 = .ok (.bipush 60, 2) := by decide +kernel
theorem dX1_daysUntil_5 : decode cX1_daysUntil 5 = .ok (.if_icmp .gt 21, 3) := by decide +kernel
theorem dX1_daysUntil_8 : decode cX1_daysUntil 8 = .ok (.aload_n 0, 1) := by decide +kernel
theorem dX1_daysUntil_9 : decode cX1_daysUntil 9 = .ok (.iload_n 1, 1) := by decide +kernel
theorem dX1_daysUntil_10 : decode cX1_daysUntil 10 = .ok (.iload_n 2, 1) := by decide +kernel
theorem dX1_daysUntil_11 : decode cX1_daysUntil 11 = .ok (.iadd, 1) := by decide +kernel
theorem dX1_daysUntil_12 : decode cX1_daysUntil 12 = .ok (.invokevirtual 22, 3) := by decide +kernel
theorem dX1_daysUntil_15 : decode cX1_daysUntil 15 = .ok (.ifCond .eq 5, 3) := by decide +kernel
theorem dX1_daysUntil_18 : decode cX1_daysUntil 18 = .ok (.iload_n 2, 1) := by decide +kernel
theorem dX1_daysUntil_19 : decode cX1_daysUntil 19 = .ok (.ireturn, 1) := by decide +kernel
theorem dX1_daysUntil_20 : decode cX1_daysUntil 20 = .ok (.iinc 2 1, 3) := by decide +kernel
theorem dX1_daysUntil_23 : decode cX1_daysUntil 23 = .ok (.goto (-21), 3) := by decide +kernel
theorem dX1_daysUntil_26 : decode cX1_daysUntil 26 = .ok (.iconst (-1), 1) := by decide +kernel
theorem dX1_daysUntil_27 : decode cX1_daysUntil 27 = .ok (.ireturn, 1) := by decide +kernel
theorem dX2_init_0 : decode cX2_init 0 = .ok (.aload_n 0, 1) := by decide +kernel
theorem dX2_init_1 : decode cX2_init 1 = .ok (.invokespecial 3, 3) := by decide +kernel
theorem dX2_init_4 : decode cX2_init 4 = .ok (.aload_n 0, 1) := by decide +kernel
theorem dX2_init_5 : decode cX2_init 5 = .ok (.bipush 96, 2) := by decide +kernel
theorem dX2_init_7 : decode cX2_init 7 = .ok (.newarray .int, 2) := by decide +kernel
theorem dX2_init_9 : decode cX2_init 9 = .ok (.putfield 9, 3) := by decide +kernel
theorem dX2_init_12 : decode cX2_init 12 = .ok (.return_, 1) := by decide +kernel
theorem dX2_copyFrom_0 : decode cX2_copyFrom 0 = .ok (.aload_n 1, 1) := by decide +kernel
theorem dX2_copyFrom_1 : decode cX2_copyFrom 1 = .ok (.getfield 9, 3) := by decide +kernel
theorem dX2_copyFrom_4 : decode cX2_copyFrom 4 = .ok (.iconst 0, 1) := by decide +kernel
theorem dX2_copyFrom_5 : decode cX2_copyFrom 5 = .ok (.aload_n 0, 1) := by decide +kernel
theorem dX2_copyFrom_6 : decode cX2_copyFrom 6 = .ok (.getfield 9, 3) := by decide +kernel
theorem dX2_copyFrom_9 : decode cX2_copyFrom 9 = .ok (.iconst 0, 1) := by decide +kernel
theorem dX2_copyFrom_10 : decode cX2_copyFrom 10 = .ok (.bipush 96, 2) := by decide +kernel
theorem dX2_copyFrom_12 : decode cX2_copyFrom 12 = .ok (.invokestatic 15, 3) := by decide +kernel
theorem dX2_copyFrom_15 : decode cX2_copyFrom 15 = .ok (.return_, 1) := by decide +kernel
theorem dX2_at_0 : decode cX2_at 0 = .ok (.aload_n 0, 1) := by decide +kernel
theorem dX2_at_1 : decode cX2_at 1 = .ok (.getfield 9, 3) := by decide +kernel
theorem dX2_at_4 : decode cX2_at 4 = .ok (.iload_n 1, 1) := by decide +kernel
theorem dX2_at_5 : decode cX2_at 5 = .ok (.bipush 8, 2) := by decide +kernel
theorem dX2_at_7 : decode cX2_at 7 = .ok (.imul, 1) := by decide +kernel
theorem dX2_at_8 : decode cX2_at 8 = .ok (.iload_n 2, 1) := by decide +kernel
theorem dX2_at_9 : decode cX2_at 9 = .ok (.iadd, 1) := by decide +kernel
theorem dX2_at_10 : decode cX2_at 10 = .ok (.iaload, 1) := by decide +kernel
theorem dX2_at_11 : decode cX2_at 11 = .ok (.ireturn, 1) := by decide +kernel
set_option maxRecDepth 20000 in
theorem ggX2_gather_X2_broughtTo : GoodIn wsX2_gather wsX2_broughtTo := goodIn_r _ [9, 10, 11, 4, 12] (by decide +kernel) (by decide +kernel)
set_option maxRecDepth 20000 in
theorem gX2_gather_X2_broughtTo : GoodIn wsX2_gather (va_wsS RX2 21 yX2_broughtTo wsX2_broughtTo) := goodIn_app (goodIn_of _ (by decide +kernel)) ggX2_gather_X2_broughtTo
theorem dX2_gather_0 : decode cX2_gather 0 = .ok (.iconst 0, 1) := by decide +kernel
theorem dX2_gather_1 : decode cX2_gather 1 = .ok (.istore_n 2, 1) := by decide +kernel
theorem dX2_gather_2 : decode cX2_gather 2 = .ok (.iload_n 2, 1) := by decide +kernel
theorem dX2_gather_3 : decode cX2_gather 3 = .ok (.bipush 12, 2) := by decide +kernel
theorem dX2_gather_5 : decode cX2_gather 5 = .ok (.if_icmp .ge 63, 3) := by decide +kernel
theorem dX2_gather_8 : decode cX2_gather 8 = .ok (.iconst 1, 1) := by decide +kernel
theorem dX2_gather_9 : decode cX2_gather 9 = .ok (.iload_n 2, 1) := by decide +kernel
theorem dX2_gather_10 : decode cX2_gather 10 = .ok (.iload_n 1, 1) := by decide +kernel
theorem dX2_gather_11 : decode cX2_gather 11 = .ok (.invokestatic 21, 3) := by decide +kernel
theorem dX2_gather_14 : decode cX2_gather 14 = .ok (.iadd, 1) := by decide +kernel
theorem dX2_gather_15 : decode cX2_gather 15 = .ok (.istore_n 3, 1) := by decide +kernel
theorem dX2_gather_16 : decode cX2_gather 16 = .ok (.iconst 0, 1) := by decide +kernel
theorem dX2_gather_17 : decode cX2_gather 17 = .ok (.istore 4, 2) := by decide +kernel
theorem dX2_gather_19 : decode cX2_gather 19 = .ok (.iload 4, 2) := by decide +kernel
theorem dX2_gather_21 : decode cX2_gather 21 = .ok (.bipush 8, 2) := by decide +kernel
theorem dX2_gather_23 : decode cX2_gather 23 = .ok (.if_icmp .ge 39, 3) := by decide +kernel
theorem dX2_gather_26 : decode cX2_gather 26 = .ok (.iload_n 2, 1) := by decide +kernel
theorem dX2_gather_27 : decode cX2_gather 27 = .ok (.bipush 8, 2) := by decide +kernel
theorem dX2_gather_29 : decode cX2_gather 29 = .ok (.imul, 1) := by decide +kernel
theorem dX2_gather_30 : decode cX2_gather 30 = .ok (.iload 4, 2) := by decide +kernel
theorem dX2_gather_32 : decode cX2_gather 32 = .ok (.iadd, 1) := by decide +kernel
theorem dX2_gather_33 : decode cX2_gather 33 = .ok (.istore 5, 2) := by decide +kernel
theorem dX2_gather_35 : decode cX2_gather 35 = .ok (.aload_n 0, 1) := by decide +kernel
theorem dX2_gather_36 : decode cX2_gather 36 = .ok (.getfield 9, 3) := by decide +kernel
theorem dX2_gather_39 : decode cX2_gather 39 = .ok (.iload 5, 2) := by decide +kernel
theorem dX2_gather_41 : decode cX2_gather 41 = .ok (.bipush 20, 2) := by decide +kernel
theorem dX2_gather_43 : decode cX2_gather 43 = .ok (.aload_n 0, 1) := by decide +kernel
theorem dX2_gather_44 : decode cX2_gather 44 = .ok (.getfield 9, 3) := by decide +kernel
theorem dX2_gather_47 : decode cX2_gather 47 = .ok (.iload 5, 2) := by decide +kernel
theorem dX2_gather_49 : decode cX2_gather 49 = .ok (.iaload, 1) := by decide +kernel
theorem dX2_gather_50 : decode cX2_gather 50 = .ok (.iload_n 3, 1) := by decide +kernel
theorem dX2_gather_51 : decode cX2_gather 51 = .ok (.iadd, 1) := by decide +kernel
theorem dX2_gather_52 : decode cX2_gather 52 = .ok (.invokestatic 25, 3) := by decide +kernel
theorem dX2_gather_55 : decode cX2_gather 55 = .ok (.iastore, 1) := by decide +kernel
theorem dX2_gather_56 : decode cX2_gather 56 = .ok (.iinc 4 1, 3) := by decide +kernel
theorem dX2_gather_59 : decode cX2_gather 59 = .ok (.goto (-40), 3) := by decide +kernel
theorem dX2_gather_62 : decode cX2_gather 62 = .ok (.iinc 2 1, 3) := by decide +kernel
theorem dX2_gather_65 : decode cX2_gather 65 = .ok (.goto (-63), 3) := by decide +kernel
theorem dX2_gather_68 : decode cX2_gather 68 = .ok (.return_, 1) := by decide +kernel
theorem dX2_broughtTo_0 : decode cX2_broughtTo 0 = .ok (.iload_n 1, 1) := by decide +kernel
theorem dX2_broughtTo_1 : decode cX2_broughtTo 1 = .ok (.ifCond .lt 11, 3) := by decide +kernel
theorem dX2_broughtTo_4 : decode cX2_broughtTo 4 = .ok (.iload_n 1, 1) := by decide +kernel
theorem dX2_broughtTo_5 : decode cX2_broughtTo 5 = .ok (.iload_n 0, 1) := by decide +kernel
theorem dX2_broughtTo_6 : decode cX2_broughtTo 6 = .ok (.iconst 2, 1) := by decide +kernel
theorem dX2_broughtTo_7 : decode cX2_broughtTo 7 = .ok (.idiv, 1) := by decide +kernel
theorem dX2_broughtTo_8 : decode cX2_broughtTo 8 = .ok (.isub, 1) := by decide +kernel
theorem dX2_broughtTo_9 : decode cX2_broughtTo 9 = .ok (.goto 12, 3) := by decide +kernel
theorem dX2_broughtTo_12 : decode cX2_broughtTo 12 = .ok (.iload_n 1, 1) := by decide +kernel
theorem dX2_broughtTo_13 : decode cX2_broughtTo 13 = .ok (.ineg, 1) := by decide +kernel
theorem dX2_broughtTo_14 : decode cX2_broughtTo 14 = .ok (.bipush 11, 2) := by decide +kernel
theorem dX2_broughtTo_16 : decode cX2_broughtTo 16 = .ok (.iload_n 0, 1) := by decide +kernel
theorem dX2_broughtTo_17 : decode cX2_broughtTo 17 = .ok (.isub, 1) := by decide +kernel
theorem dX2_broughtTo_18 : decode cX2_broughtTo 18 = .ok (.iconst 2, 1) := by decide +kernel
theorem dX2_broughtTo_19 : decode cX2_broughtTo 19 = .ok (.idiv, 1) := by decide +kernel
theorem dX2_broughtTo_20 : decode cX2_broughtTo 20 = .ok (.isub, 1) := by decide +kernel
theorem dX2_broughtTo_21 : decode cX2_broughtTo 21 = .ok (.istore_n 2, 1) := by decide +kernel
theorem dX2_broughtTo_22 : decode cX2_broughtTo 22 = .ok (.iconst 0, 1) := by decide +kernel
theorem dX2_broughtTo_23 : decode cX2_broughtTo 23 = .ok (.iload_n 2, 1) := by decide +kernel
theorem dX2_broughtTo_24 : decode cX2_broughtTo 24 = .ok (.invokestatic 30, 3) := by decide +kernel
theorem dX2_broughtTo_27 : decode cX2_broughtTo 27 = .ok (.ireturn, 1) := by decide +kernel
theorem dX2_takeOff_0 : decode cX2_takeOff 0 = .ok (.iload_n 1, 1) := by decide +kernel
theorem dX2_takeOff_1 : decode cX2_takeOff 1 = .ok (.bipush 8, 2) := by decide +kernel
theorem dX2_takeOff_3 : decode cX2_takeOff 3 = .ok (.imul, 1) := by decide +kernel
theorem dX2_takeOff_4 : decode cX2_takeOff 4 = .ok (.iload_n 2, 1) := by decide +kernel
theorem dX2_takeOff_5 : decode cX2_takeOff 5 = .ok (.iadd, 1) := by decide +kernel
theorem dX2_takeOff_6 : decode cX2_takeOff 6 = .ok (.istore 4, 2) := by decide +kernel
theorem dX2_takeOff_8 : decode cX2_takeOff 8 = .ok (.iload_n 3, 1) := by decide +kernel
theorem dX2_takeOff_9 : decode cX2_takeOff 9 = .ok (.aload_n 0, 1) := by decide +kernel
theorem dX2_takeOff_10 : decode cX2_takeOff 10 = .ok (.getfield 9, 3) := by decide +kernel
theorem dX2_takeOff_13 : decode cX2_takeOff 13 = .ok (.iload 4, 2) := by decide +kernel
theorem dX2_takeOff_15 : decode cX2_takeOff 15 = .ok (.iaload, 1) := by decide +kernel
theorem dX2_takeOff_16 : decode cX2_takeOff 16 = .ok (.invokestatic 25, 3) := by decide +kernel
theorem dX2_takeOff_19 : decode cX2_takeOff 19 = .ok (.istore 5, 2) := by decide +kernel
theorem dX2_takeOff_21 : decode cX2_takeOff 21 = .ok (.aload_n 0, 1) := by decide +kernel
theorem dX2_takeOff_22 : decode cX2_takeOff 22 = .ok (.getfield 9, 3) := by decide +kernel
theorem dX2_takeOff_25 : decode cX2_takeOff 25 = .ok (.iload 4, 2) := by decide +kernel
theorem dX2_takeOff_27 : decode cX2_takeOff 27 = .ok (.dup2, 1) := by decide +kernel
theorem dX2_takeOff_28 : decode cX2_takeOff 28 = .ok (.iaload, 1) := by decide +kernel
theorem dX2_takeOff_29 : decode cX2_takeOff 29 = .ok (.iload 5, 2) := by decide +kernel
theorem dX2_takeOff_31 : decode cX2_takeOff 31 = .ok (.isub, 1) := by decide +kernel
theorem dX2_takeOff_32 : decode cX2_takeOff 32 = .ok (.iastore, 1) := by decide +kernel
theorem dX2_takeOff_33 : decode cX2_takeOff 33 = .ok (.iload 5, 2) := by decide +kernel
theorem dX2_takeOff_35 : decode cX2_takeOff 35 = .ok (.ireturn, 1) := by decide +kernel
theorem dX2_total_0 : decode cX2_total 0 = .ok (.iconst 0, 1) := by decide +kernel
theorem dX2_total_1 : decode cX2_total 1 = .ok (.istore_n 1, 1) := by decide +kernel
theorem dX2_total_2 : decode cX2_total 2 = .ok (.iconst 0, 1) := by decide +kernel
theorem dX2_total_3 : decode cX2_total 3 = .ok (.istore_n 2, 1) := by decide +kernel
theorem dX2_total_4 : decode cX2_total 4 = .ok (.iload_n 2, 1) := by decide +kernel
theorem dX2_total_5 : decode cX2_total 5 = .ok (.bipush 96, 2) := by decide +kernel
theorem dX2_total_7 : decode cX2_total 7 = .ok (.if_icmp .ge 18, 3) := by decide +kernel
theorem dX2_total_10 : decode cX2_total 10 = .ok (.iload_n 1, 1) := by decide +kernel
theorem dX2_total_11 : decode cX2_total 11 = .ok (.aload_n 0, 1) := by decide +kernel
theorem dX2_total_12 : decode cX2_total 12 = .ok (.getfield 9, 3) := by decide +kernel
theorem dX2_total_15 : decode cX2_total 15 = .ok (.iload_n 2, 1) := by decide +kernel
theorem dX2_total_16 : decode cX2_total 16 = .ok (.iaload, 1) := by decide +kernel
theorem dX2_total_17 : decode cX2_total 17 = .ok (.iadd, 1) := by decide +kernel
theorem dX2_total_18 : decode cX2_total 18 = .ok (.istore_n 1, 1) := by decide +kernel
theorem dX2_total_19 : decode cX2_total 19 = .ok (.iinc 2 1, 3) := by decide +kernel
theorem dX2_total_22 : decode cX2_total 22 = .ok (.goto (-18), 3) := by decide +kernel
theorem dX2_total_25 : decode cX2_total 25 = .ok (.iload_n 1, 1) := by decide +kernel
theorem dX2_total_26 : decode cX2_total 26 = .ok (.ireturn, 1) := by decide +kernel
theorem dX2_cleanPanes_0 : decode cX2_cleanPanes 0 = .ok (.iconst 0, 1) := by decide +kernel
theorem dX2_cleanPanes_1 : decode cX2_cleanPanes 1 = .ok (.istore_n 1, 1) := by decide +kernel
theorem dX2_cleanPanes_2 : decode cX2_cleanPanes 2 = .ok (.iconst 0, 1) := by decide +kernel
theorem dX2_cleanPanes_3 : decode cX2_cleanPanes 3 = .ok (.istore_n 2, 1) := by decide +kernel
theorem dX2_cleanPanes_4 : decode cX2_cleanPanes 4 = .ok (.iload_n 2, 1) := by decide +kernel
theorem dX2_cleanPanes_5 : decode cX2_cleanPanes 5 = .ok (.bipush 96, 2) := by decide +kernel
theorem dX2_cleanPanes_7 : decode cX2_cleanPanes 7 = .ok (.if_icmp .ge 21, 3) := by decide +kernel
theorem dX2_cleanPanes_10 : decode cX2_cleanPanes 10 = .ok (.aload_n 0, 1) := by decide +kernel
theorem dX2_cleanPanes_11 : decode cX2_cleanPanes 11 = .ok (.getfield 9, 3) := by decide +kernel
theorem dX2_cleanPanes_14 : decode cX2_cleanPanes 14 = .ok (.iload_n 2, 1) := by decide +kernel
theorem dX2_cleanPanes_15 : decode cX2_cleanPanes 15 = .ok (.iaload, 1) := by decide +kernel
theorem dX2_cleanPanes_16 : decode cX2_cleanPanes 16 = .ok (.ifCond .ne 6, 3) := by decide +kernel
theorem dX2_cleanPanes_19 : decode cX2_cleanPanes 19 = .ok (.iinc 1 1, 3) := by decide +kernel
theorem dX2_cleanPanes_22 : decode cX2_cleanPanes 22 = .ok (.iinc 2 1, 3) := by decide +kernel
theorem dX2_cleanPanes_25 : decode cX2_cleanPanes 25 = .ok (.goto (-21), 3) := by decide +kernel
theorem dX2_cleanPanes_28 : decode cX2_cleanPanes 28 = .ok (.iload_n 1, 1) := by decide +kernel
theorem dX2_cleanPanes_29 : decode cX2_cleanPanes 29 = .ok (.ireturn, 1) := by decide +kernel
theorem dX3_init_0 : decode cX3_init 0 = .ok (.aload_n 0, 1) := by decide +kernel
theorem dX3_init_1 : decode cX3_init 1 = .ok (.invokespecial 3, 3) := by decide +kernel
theorem dX3_init_4 : decode cX3_init 4 = .ok (.aload_n 0, 1) := by decide +kernel
theorem dX3_init_5 : decode cX3_init 5 = .ok (.iconst 0, 1) := by decide +kernel
theorem dX3_init_6 : decode cX3_init 6 = .ok (.putfield 9, 3) := by decide +kernel
theorem dX3_init_9 : decode cX3_init 9 = .ok (.aload_n 0, 1) := by decide +kernel
theorem dX3_init_10 : decode cX3_init 10 = .ok (.bipush 6, 2) := by decide +kernel
theorem dX3_init_12 : decode cX3_init 12 = .ok (.newarray .int, 2) := by decide +kernel
theorem dX3_init_14 : decode cX3_init 14 = .ok (.putfield 15, 3) := by decide +kernel
theorem dX3_init_17 : decode cX3_init 17 = .ok (.aload_n 0, 1) := by decide +kernel
theorem dX3_init_18 : decode cX3_init 18 = .ok (.bipush 6, 2) := by decide +kernel
theorem dX3_init_20 : decode cX3_init 20 = .ok (.newarray .int, 2) := by decide +kernel
theorem dX3_init_22 : decode cX3_init 22 = .ok (.putfield 19, 3) := by decide +kernel
theorem dX3_init_25 : decode cX3_init 25 = .ok (.aload_n 0, 1) := by decide +kernel
theorem dX3_init_26 : decode cX3_init 26 = .ok (.bipush 6, 2) := by decide +kernel
theorem dX3_init_28 : decode cX3_init 28 = .ok (.newarray .int, 2) := by decide +kernel
theorem dX3_init_30 : decode cX3_init 30 = .ok (.putfield 22, 3) := by decide +kernel
theorem dX3_init_33 : decode cX3_init 33 = .ok (.aload_n 0, 1) := by decide +kernel
theorem dX3_init_34 : decode cX3_init 34 = .ok (.bipush 6, 2) := by decide +kernel
theorem dX3_init_36 : decode cX3_init 36 = .ok (.newarray .boolean, 2) := by decide +kernel
theorem dX3_init_38 : decode cX3_init 38 = .ok (.putfield 25, 3) := by decide +kernel
theorem dX3_init_41 : decode cX3_init 41 = .ok (.aload_n 0, 1) := by decide +kernel
theorem dX3_init_42 : decode cX3_init 42 = .ok (.bipush 6, 2) := by decide +kernel
theorem dX3_init_44 : decode cX3_init 44 = .ok (.newarray .int, 2) := by decide +kernel
theorem dX3_init_46 : decode cX3_init 46 = .ok (.putfield 29, 3) := by decide +kernel
theorem dX3_init_49 : decode cX3_init 49 = .ok (.aload_n 0, 1) := by decide +kernel
theorem dX3_init_50 : decode cX3_init 50 = .ok (.bipush 6, 2) := by decide +kernel
theorem dX3_init_52 : decode cX3_init 52 = .ok (.newarray .int, 2) := by decide +kernel
theorem dX3_init_54 : decode cX3_init 54 = .ok (.putfield 32, 3) := by decide +kernel
theorem dX3_init_57 : decode cX3_init 57 = .ok (.return_, 1) := by decide +kernel
theorem dX3_copyFrom_0 : decode cX3_copyFrom 0 = .ok (.aload_n 0, 1) := by decide +kernel
theorem dX3_copyFrom_1 : decode cX3_copyFrom 1 = .ok (.aload_n 1, 1) := by decide +kernel
theorem dX3_copyFrom_2 : decode cX3_copyFrom 2 = .ok (.getfield 9, 3) := by decide +kernel
theorem dX3_copyFrom_5 : decode cX3_copyFrom 5 = .ok (.putfield 9, 3) := by decide +kernel
theorem dX3_copyFrom_8 : decode cX3_copyFrom 8 = .ok (.iconst 0, 1) := by decide +kernel
theorem dX3_copyFrom_9 : decode cX3_copyFrom 9 = .ok (.istore_n 2, 1) := by decide +kernel
theorem dX3_copyFrom_10 : decode cX3_copyFrom 10 = .ok (.iload_n 2, 1) := by decide +kernel
theorem dX3_copyFrom_11 : decode cX3_copyFrom 11 = .ok (.bipush 6, 2) := by decide +kernel
theorem dX3_copyFrom_13 : decode cX3_copyFrom 13 = .ok (.if_icmp .ge 81, 3) := by decide +kernel
theorem dX3_copyFrom_16 : decode cX3_copyFrom 16 = .ok (.aload_n 0, 1) := by decide +kernel
theorem dX3_copyFrom_17 : decode cX3_copyFrom 17 = .ok (.getfield 15, 3) := by decide +kernel
theorem dX3_copyFrom_20 : decode cX3_copyFrom 20 = .ok (.iload_n 2, 1) := by decide +kernel
theorem dX3_copyFrom_21 : decode cX3_copyFrom 21 = .ok (.aload_n 1, 1) := by decide +kernel
theorem dX3_copyFrom_22 : decode cX3_copyFrom 22 = .ok (.getfield 15, 3) := by decide +kernel
theorem dX3_copyFrom_25 : decode cX3_copyFrom 25 = .ok (.iload_n 2, 1) := by decide +kernel
theorem dX3_copyFrom_26 : decode cX3_copyFrom 26 = .ok (.iaload, 1) := by decide +kernel
theorem dX3_copyFrom_27 : decode cX3_copyFrom 27 = .ok (.iastore, 1) := by decide +kernel
theorem dX3_copyFrom_28 : decode cX3_copyFrom 28 = .ok (.aload_n 0, 1) := by decide +kernel
theorem dX3_copyFrom_29 : decode cX3_copyFrom 29 = .ok (.getfield 19, 3) := by decide +kernel
theorem dX3_copyFrom_32 : decode cX3_copyFrom 32 = .ok (.iload_n 2, 1) := by decide +kernel
theorem dX3_copyFrom_33 : decode cX3_copyFrom 33 = .ok (.aload_n 1, 1) := by decide +kernel
theorem dX3_copyFrom_34 : decode cX3_copyFrom 34 = .ok (.getfield 19, 3) := by decide +kernel
theorem dX3_copyFrom_37 : decode cX3_copyFrom 37 = .ok (.iload_n 2, 1) := by decide +kernel
theorem dX3_copyFrom_38 : decode cX3_copyFrom 38 = .ok (.iaload, 1) := by decide +kernel
theorem dX3_copyFrom_39 : decode cX3_copyFrom 39 = .ok (.iastore, 1) := by decide +kernel
theorem dX3_copyFrom_40 : decode cX3_copyFrom 40 = .ok (.aload_n 0, 1) := by decide +kernel
theorem dX3_copyFrom_41 : decode cX3_copyFrom 41 = .ok (.getfield 22, 3) := by decide +kernel
theorem dX3_copyFrom_44 : decode cX3_copyFrom 44 = .ok (.iload_n 2, 1) := by decide +kernel
theorem dX3_copyFrom_45 : decode cX3_copyFrom 45 = .ok (.aload_n 1, 1) := by decide +kernel
theorem dX3_copyFrom_46 : decode cX3_copyFrom 46 = .ok (.getfield 22, 3) := by decide +kernel
theorem dX3_copyFrom_49 : decode cX3_copyFrom 49 = .ok (.iload_n 2, 1) := by decide +kernel
theorem dX3_copyFrom_50 : decode cX3_copyFrom 50 = .ok (.iaload, 1) := by decide +kernel
theorem dX3_copyFrom_51 : decode cX3_copyFrom 51 = .ok (.iastore, 1) := by decide +kernel
theorem dX3_copyFrom_52 : decode cX3_copyFrom 52 = .ok (.aload_n 0, 1) := by decide +kernel
theorem dX3_copyFrom_53 : decode cX3_copyFrom 53 = .ok (.getfield 25, 3) := by decide +kernel
theorem dX3_copyFrom_56 : decode cX3_copyFrom 56 = .ok (.iload_n 2, 1) := by decide +kernel
theorem dX3_copyFrom_57 : decode cX3_copyFrom 57 = .ok (.aload_n 1, 1) := by decide +kernel
theorem dX3_copyFrom_58 : decode cX3_copyFrom 58 = .ok (.getfield 25, 3) := by decide +kernel
theorem dX3_copyFrom_61 : decode cX3_copyFrom 61 = .ok (.iload_n 2, 1) := by decide +kernel
theorem dX3_copyFrom_62 : decode cX3_copyFrom 62 = .ok (.baload, 1) := by decide +kernel
theorem dX3_copyFrom_63 : decode cX3_copyFrom 63 = .ok (.bastore, 1) := by decide +kernel
theorem dX3_copyFrom_64 : decode cX3_copyFrom 64 = .ok (.aload_n 0, 1) := by decide +kernel
theorem dX3_copyFrom_65 : decode cX3_copyFrom 65 = .ok (.getfield 29, 3) := by decide +kernel
theorem dX3_copyFrom_68 : decode cX3_copyFrom 68 = .ok (.iload_n 2, 1) := by decide +kernel
theorem dX3_copyFrom_69 : decode cX3_copyFrom 69 = .ok (.aload_n 1, 1) := by decide +kernel
theorem dX3_copyFrom_70 : decode cX3_copyFrom 70 = .ok (.getfield 29, 3) := by decide +kernel
theorem dX3_copyFrom_73 : decode cX3_copyFrom 73 = .ok (.iload_n 2, 1) := by decide +kernel
theorem dX3_copyFrom_74 : decode cX3_copyFrom 74 = .ok (.iaload, 1) := by decide +kernel
theorem dX3_copyFrom_75 : decode cX3_copyFrom 75 = .ok (.iastore, 1) := by decide +kernel
theorem dX3_copyFrom_76 : decode cX3_copyFrom 76 = .ok (.aload_n 0, 1) := by decide +kernel
theorem dX3_copyFrom_77 : decode cX3_copyFrom 77 = .ok (.getfield 32, 3) := by decide +kernel
theorem dX3_copyFrom_80 : decode cX3_copyFrom 80 = .ok (.iload_n 2, 1) := by decide +kernel
theorem dX3_copyFrom_81 : decode cX3_copyFrom 81 = .ok (.aload_n 1, 1) := by decide +kernel
theorem dX3_copyFrom_82 : decode cX3_copyFrom 82 = .ok (.getfield 32, 3) := by decide +kernel
theorem dX3_copyFrom_85 : decode cX3_copyFrom 85 = .ok (.iload_n 2, 1) := by decide +kernel
theorem dX3_copyFrom_86 : decode cX3_copyFrom 86 = .ok (.iaload, 1) := by decide +kernel
theorem dX3_copyFrom_87 : decode cX3_copyFrom 87 = .ok (.iastore, 1) := by decide +kernel
theorem dX3_copyFrom_88 : decode cX3_copyFrom 88 = .ok (.iinc 2 1, 3) := by decide +kernel
theorem dX3_copyFrom_91 : decode cX3_copyFrom 91 = .ok (.goto (-81), 3) := by decide +kernel
theorem dX3_copyFrom_94 : decode cX3_copyFrom 94 = .ok (.return_, 1) := by decide +kernel
theorem dX3_put_0 : decode cX3_put 0 = .ok (.aload_n 0, 1) := by decide +kernel
theorem dX3_put_1 : decode cX3_put 1 = .ok (.getfield 15, 3) := by decide +kernel
theorem dX3_put_4 : decode cX3_put 4 = .ok (.aload_n 0, 1) := by decide +kernel
theorem dX3_put_5 : decode cX3_put 5 = .ok (.getfield 9, 3) := by decide +kernel
theorem dX3_put_8 : decode cX3_put 8 = .ok (.iload_n 1, 1) := by decide +kernel
theorem dX3_put_9 : decode cX3_put 9 = .ok (.iastore, 1) := by decide +kernel
theorem dX3_put_10 : decode cX3_put 10 = .ok (.aload_n 0, 1) := by decide +kernel
theorem dX3_put_11 : decode cX3_put 11 = .ok (.getfield 22, 3) := by decide +kernel
theorem dX3_put_14 : decode cX3_put 14 = .ok (.aload_n 0, 1) := by decide +kernel
theorem dX3_put_15 : decode cX3_put 15 = .ok (.getfield 9, 3) := by decide +kernel
theorem dX3_put_18 : decode cX3_put 18 = .ok (.iload_n 2, 1) := by decide +kernel
theorem dX3_put_19 : decode cX3_put 19 = .ok (.iastore, 1) := by decide +kernel
theorem dX3_put_20 : decode cX3_put 20 = .ok (.aload_n 0, 1) := by decide +kernel
theorem dX3_put_21 : decode cX3_put 21 = .ok (.getfield 25, 3) := by decide +kernel
theorem dX3_put_24 : decode cX3_put 24 = .ok (.aload_n 0, 1) := by decide +kernel
theorem dX3_put_25 : decode cX3_put 25 = .ok (.getfield 9, 3) := by decide +kernel
theorem dX3_put_28 : decode cX3_put 28 = .ok (.iload_n 3, 1) := by decide +kernel
theorem dX3_put_29 : decode cX3_put 29 = .ok (.bastore, 1) := by decide +kernel
theorem dX3_put_30 : decode cX3_put 30 = .ok (.aload_n 0, 1) := by decide +kernel
theorem dX3_put_31 : decode cX3_put 31 = .ok (.dup, 1) := by decide +kernel
theorem dX3_put_32 : decode cX3_put 32 = .ok (.getfield 9, 3) := by decide +kernel
theorem dX3_put_35 : decode cX3_put 35 = .ok (.iconst 1, 1) := by decide +kernel
theorem dX3_put_36 : decode cX3_put 36 = .ok (.iadd, 1) := by decide +kernel
theorem dX3_put_37 : decode cX3_put 37 = .ok (.putfield 9, 3) := by decide +kernel
theorem dX3_put_40 : decode cX3_put 40 = .ok (.aload_n 0, 1) := by decide +kernel
theorem dX3_put_41 : decode cX3_put 41 = .ok (.getfield 9, 3) := by decide +kernel
theorem dX3_put_44 : decode cX3_put 44 = .ok (.iconst 1, 1) := by decide +kernel
theorem dX3_put_45 : decode cX3_put 45 = .ok (.isub, 1) := by decide +kernel
theorem dX3_put_46 : decode cX3_put 46 = .ok (.ireturn, 1) := by decide +kernel
theorem dX3_number_0 : decode cX3_number 0 = .ok (.iload_n 2, 1) := by decide +kernel
theorem dX3_number_1 : decode cX3_number 1 = .ok (.tableswitch 78 0 4 #[35, 42, 49, 56, 71], 35) := by decide +kernel
theorem dX3_number_36 : decode cX3_number 36 = .ok (.aload_n 0, 1) := by decide +kernel
theorem dX3_number_37 : decode cX3_number 37 = .ok (.getfield 15, 3) := by decide +kernel
theorem dX3_number_40 : decode cX3_number 40 = .ok (.iload_n 1, 1) := by decide +kernel
theorem dX3_number_41 : decode cX3_number 41 = .ok (.iaload, 1) := by decide +kernel
theorem dX3_number_42 : decode cX3_number 42 = .ok (.ireturn, 1) := by decide +kernel
theorem dX3_number_43 : decode cX3_number 43 = .ok (.aload_n 0, 1) := by decide +kernel
theorem dX3_number_44 : decode cX3_number 44 = .ok (.getfield 19, 3) := by decide +kernel
theorem dX3_number_47 : decode cX3_number 47 = .ok (.iload_n 1, 1) := by decide +kernel
theorem dX3_number_48 : decode cX3_number 48 = .ok (.iaload, 1) := by decide +kernel
theorem dX3_number_49 : decode cX3_number 49 = .ok (.ireturn, 1) := by decide +kernel
theorem dX3_number_50 : decode cX3_number 50 = .ok (.aload_n 0, 1) := by decide +kernel
theorem dX3_number_51 : decode cX3_number 51 = .ok (.getfield 22, 3) := by decide +kernel
theorem dX3_number_54 : decode cX3_number 54 = .ok (.iload_n 1, 1) := by decide +kernel
theorem dX3_number_55 : decode cX3_number 55 = .ok (.iaload, 1) := by decide +kernel
theorem dX3_number_56 : decode cX3_number 56 = .ok (.ireturn, 1) := by decide +kernel
theorem dX3_number_57 : decode cX3_number 57 = .ok (.aload_n 0, 1) := by decide +kernel
theorem dX3_number_58 : decode cX3_number 58 = .ok (.getfield 25, 3) := by decide +kernel
theorem dX3_number_61 : decode cX3_number 61 = .ok (.iload_n 1, 1) := by decide +kernel
theorem dX3_number_62 : decode cX3_number 62 = .ok (.baload, 1) := by decide +kernel
theorem dX3_number_63 : decode cX3_number 63 = .ok (.ifCond .eq 7, 3) := by decide +kernel
theorem dX3_number_66 : decode cX3_number 66 = .ok (.iconst 0, 1) := by decide +kernel
theorem dX3_number_67 : decode cX3_number 67 = .ok (.goto 4, 3) := by decide +kernel
theorem dX3_number_70 : decode cX3_number 70 = .ok (.iconst 1, 1) := by decide +kernel
theorem dX3_number_71 : decode cX3_number 71 = .ok (.ireturn, 1) := by decide +kernel
theorem dX3_number_72 : decode cX3_number 72 = .ok (.aload_n 0, 1) := by decide +kernel
theorem dX3_number_73 : decode cX3_number 73 = .ok (.getfield 29, 3) := by decide +kernel
theorem dX3_number_76 : decode cX3_number 76 = .ok (.iload_n 1, 1) := by decide +kernel
theorem dX3_number_77 : decode cX3_number 77 = .ok (.iaload, 1) := by decide +kernel
theorem dX3_number_78 : decode cX3_number 78 = .ok (.ireturn, 1) := by decide +kernel
theorem dX3_number_79 : decode cX3_number 79 = .ok (.aload_n 0, 1) := by decide +kernel
theorem dX3_number_80 : decode cX3_number 80 = .ok (.getfield 32, 3) := by decide +kernel
theorem dX3_number_83 : decode cX3_number 83 = .ok (.iload_n 1, 1) := by decide +kernel
theorem dX3_number_84 : decode cX3_number 84 = .ok (.iaload, 1) := by decide +kernel
theorem dX3_number_85 : decode cX3_number 85 = .ok (.ireturn, 1) := by decide +kernel
theorem dX3_allCleaned_0 : decode cX3_allCleaned 0 = .ok (.iconst 0, 1) := by decide +kernel
theorem dX3_allCleaned_1 : decode cX3_allCleaned 1 = .ok (.istore_n 1, 1) := by decide +kernel
theorem dX3_allCleaned_2 : decode cX3_allCleaned 2 = .ok (.iconst 0, 1) := by decide +kernel
theorem dX3_allCleaned_3 : decode cX3_allCleaned 3 = .ok (.istore_n 2, 1) := by decide +kernel
theorem dX3_allCleaned_4 : decode cX3_allCleaned 4 = .ok (.iload_n 2, 1) := by decide +kernel
theorem dX3_allCleaned_5 : decode cX3_allCleaned 5 = .ok (.aload_n 0, 1) := by decide +kernel
theorem dX3_allCleaned_6 : decode cX3_allCleaned 6 = .ok (.getfield 9, 3) := by decide +kernel
theorem dX3_allCleaned_9 : decode cX3_allCleaned 9 = .ok (.if_icmp .ge 18, 3) := by decide +kernel
theorem dX3_allCleaned_12 : decode cX3_allCleaned 12 = .ok (.iload_n 1, 1) := by decide +kernel
theorem dX3_allCleaned_13 : decode cX3_allCleaned 13 = .ok (.aload_n 0, 1) := by decide +kernel
theorem dX3_allCleaned_14 : decode cX3_allCleaned 14 = .ok (.getfield 29, 3) := by decide +kernel
theorem dX3_allCleaned_17 : decode cX3_allCleaned 17 = .ok (.iload_n 2, 1) := by decide +kernel
theorem dX3_allCleaned_18 : decode cX3_allCleaned 18 = .ok (.iaload, 1) := by decide +kernel
theorem dX3_allCleaned_19 : decode cX3_allCleaned 19 = .ok (.iadd, 1) := by decide +kernel
theorem dX3_allCleaned_20 : decode cX3_allCleaned 20 = .ok (.istore_n 1, 1) := by decide +kernel
theorem dX3_allCleaned_21 : decode cX3_allCleaned 21 = .ok (.iinc 2 1, 3) := by decide +kernel
theorem dX3_allCleaned_24 : decode cX3_allCleaned 24 = .ok (.goto (-20), 3) := by decide +kernel
theorem dX3_allCleaned_27 : decode cX3_allCleaned 27 = .ok (.iload_n 1, 1) := by decide +kernel
theorem dX3_allCleaned_28 : decode cX3_allCleaned 28 = .ok (.ireturn, 1) := by decide +kernel
theorem dX3_hangAt_0 : decode cX3_hangAt 0 = .ok (.iconst 0, 1) := by decide +kernel
theorem dX3_hangAt_1 : decode cX3_hangAt 1 = .ok (.istore_n 2, 1) := by decide +kernel
theorem dX3_hangAt_2 : decode cX3_hangAt 2 = .ok (.iload_n 2, 1) := by decide +kernel
theorem dX3_hangAt_3 : decode cX3_hangAt 3 = .ok (.aload_n 0, 1) := by decide +kernel
theorem dX3_hangAt_4 : decode cX3_hangAt 4 = .ok (.getfield 9, 3) := by decide +kernel
theorem dX3_hangAt_7 : decode cX3_hangAt 7 = .ok (.if_icmp .ge 21, 3) := by decide +kernel
theorem dX3_hangAt_10 : decode cX3_hangAt 10 = .ok (.aload_n 0, 1) := by decide +kernel
theorem dX3_hangAt_11 : decode cX3_hangAt 11 = .ok (.getfield 15, 3) := by decide +kernel
theorem dX3_hangAt_14 : decode cX3_hangAt 14 = .ok (.iload_n 2, 1) := by decide +kernel
theorem dX3_hangAt_15 : decode cX3_hangAt 15 = .ok (.iaload, 1) := by decide +kernel
theorem dX3_hangAt_16 : decode cX3_hangAt 16 = .ok (.iload_n 1, 1) := by decide +kernel
theorem dX3_hangAt_17 : decode cX3_hangAt 17 = .ok (.if_icmp .ne 5, 3) := by decide +kernel
theorem dX3_hangAt_20 : decode cX3_hangAt 20 = .ok (.iconst 1, 1) := by decide +kernel
theorem dX3_hangAt_21 : decode cX3_hangAt 21 = .ok (.ireturn, 1) := by decide +kernel
theorem dX3_hangAt_22 : decode cX3_hangAt 22 = .ok (.iinc 2 1, 3) := by decide +kernel
theorem dX3_hangAt_25 : decode cX3_hangAt 25 = .ok (.goto (-23), 3) := by decide +kernel
theorem dX3_hangAt_28 : decode cX3_hangAt 28 = .ok (.iconst 0, 1) := by decide +kernel
theorem dX3_hangAt_29 : decode cX3_hangAt 29 = .ok (.ireturn, 1) := by decide +kernel
theorem dX3_rehang_0 : decode cX3_rehang 0 = .ok (.aload_n 0, 1) := by decide +kernel
theorem dX3_rehang_1 : decode cX3_rehang 1 = .ok (.getfield 15, 3) := by decide +kernel
theorem dX3_rehang_4 : decode cX3_rehang 4 = .ok (.iload_n 1, 1) := by decide +kernel
theorem dX3_rehang_5 : decode cX3_rehang 5 = .ok (.iload_n 2, 1) := by decide +kernel
theorem dX3_rehang_6 : decode cX3_rehang 6 = .ok (.iastore, 1) := by decide +kernel
theorem dX3_rehang_7 : decode cX3_rehang 7 = .ok (.aload_n 0, 1) := by decide +kernel
theorem dX3_rehang_8 : decode cX3_rehang 8 = .ok (.getfield 19, 3) := by decide +kernel
theorem dX3_rehang_11 : decode cX3_rehang 11 = .ok (.iload_n 1, 1) := by decide +kernel
theorem dX3_rehang_12 : decode cX3_rehang 12 = .ok (.iconst 0, 1) := by decide +kernel
theorem dX3_rehang_13 : decode cX3_rehang 13 = .ok (.iastore, 1) := by decide +kernel
theorem dX3_rehang_14 : decode cX3_rehang 14 = .ok (.aload_n 0, 1) := by decide +kernel
theorem dX3_rehang_15 : decode cX3_rehang 15 = .ok (.getfield 32, 3) := by decide +kernel
theorem dX3_rehang_18 : decode cX3_rehang 18 = .ok (.iload_n 1, 1) := by decide +kernel
theorem dX3_rehang_19 : decode cX3_rehang 19 = .ok (.dup2, 1) := by decide +kernel
theorem dX3_rehang_20 : decode cX3_rehang 20 = .ok (.iaload, 1) := by decide +kernel
theorem dX3_rehang_21 : decode cX3_rehang 21 = .ok (.iconst 1, 1) := by decide +kernel
theorem dX3_rehang_22 : decode cX3_rehang 22 = .ok (.iadd, 1) := by decide +kernel
theorem dX3_rehang_23 : decode cX3_rehang 23 = .ok (.iastore, 1) := by decide +kernel
theorem dX3_rehang_24 : decode cX3_rehang 24 = .ok (.return_, 1) := by decide +kernel
set_option maxRecDepth 20000 in
theorem ggX3_work_X3_workOnOne : GoodIn wsX3_work wsX3_workOnOne := goodIn_r _ [6, 7, 8, 9, 10, 11, 12, 13, 14, 15, 16, 17, 18, 19, 20, 21, 22, 23, 5, 24, 25, 26, 27, 28, 29, 1, 30, 31, 32, 33, 34, 35, 36, 37, 38, 39, 40, 41, 42] (by decide +kernel) (by decide +kernel)
set_option maxRecDepth 20000 in
theorem gX3_work_X3_workOnOne : GoodIn wsX3_work (wsV RX3 35 RX3 yX3_workOnOne wsX3_workOnOne) := goodIn_app (goodIn_of _ (by decide +kernel)) ggX3_work_X3_workOnOne
theorem dX3_work_0 : decode cX3_work 0 = .ok (.iconst 0, 1) := by decide +kernel
theorem dX3_work_1 : decode cX3_work 1 = .ok (.istore_n 2, 1) := by decide +kernel
theorem dX3_work_2 : decode cX3_work 2 = .ok (.iload_n 2, 1) := by decide +kernel
theorem dX3_work_3 : decode cX3_work 3 = .ok (.aload_n 0, 1) := by decide +kernel
theorem dX3_work_4 : decode cX3_work 4 = .ok (.getfield 9, 3) := by decide +kernel
theorem dX3_work_7 : decode cX3_work 7 = .ok (.if_icmp .ge 15, 3) := by decide +kernel
theorem dX3_work_10 : decode cX3_work 10 = .ok (.aload_n 0, 1) := by decide +kernel
theorem dX3_work_11 : decode cX3_work 11 = .ok (.iload_n 2, 1) := by decide +kernel
theorem dX3_work_12 : decode cX3_work 12 = .ok (.aload_n 1, 1) := by decide +kernel
theorem dX3_work_13 : decode cX3_work 13 = .ok (.invokevirtual 35, 3) := by decide +kernel
theorem dX3_work_16 : decode cX3_work 16 = .ok (.iinc 2 1, 3) := by decide +kernel
theorem dX3_work_19 : decode cX3_work 19 = .ok (.goto (-17), 3) := by decide +kernel
theorem dX3_work_22 : decode cX3_work 22 = .ok (.return_, 1) := by decide +kernel
set_option maxRecDepth 20000 in
theorem ggX3_workOnOne_X2_takeOff : GoodIn wsX3_workOnOne wsX2_takeOff := goodIn_r _ [9, 10, 11, 12, 13, 14, 38] (by decide +kernel) (by decide +kernel)
set_option maxRecDepth 20000 in
theorem gX3_workOnOne_X2_takeOff : GoodIn wsX3_workOnOne (wsV RX3 39 RX2 yX2_takeOff wsX2_takeOff) := goodIn_app (goodIn_of _ (by decide +kernel)) ggX3_workOnOne_X2_takeOff
set_option maxRecDepth 20000 in
theorem ggX3_workOnOne_X3_nextFreeColumn : GoodIn wsX3_workOnOne wsX3_nextFreeColumn := goodIn_r _ [19, 20, 2, 21, 22, 23, 18, 24, 25, 31, 32, 33, 34, 35, 36, 37] (by decide +kernel) (by decide +kernel)
set_option maxRecDepth 20000 in
theorem gX3_workOnOne_X3_nextFreeColumn : GoodIn wsX3_workOnOne (wsV RX3 45 RX3 yX3_nextFreeColumn wsX3_nextFreeColumn) := goodIn_app (goodIn_of _ (by decide +kernel)) ggX3_workOnOne_X3_nextFreeColumn
set_option maxRecDepth 20000 in
theorem ggX3_workOnOne_X3_rehang : GoodIn wsX3_workOnOne wsX3_rehang := goodIn_r _ [29, 2, 3, 30, 31, 32, 33, 34, 35, 36, 37] (by decide +kernel) (by decide +kernel)
set_option maxRecDepth 20000 in
theorem gX3_workOnOne_X3_rehang : GoodIn wsX3_workOnOne (wsV RX3 49 RX3 yX3_rehang wsX3_rehang) := goodIn_app (goodIn_of _ (by decide +kernel)) ggX3_workOnOne_X3_rehang
theorem dX3_workOnOne_0 : decode cX3_workOnOne 0 = .ok (.aload_n 0, 1) := by decide +kernel
theorem dX3_workOnOne_1 : decode cX3_workOnOne 1 = .ok (.getfield 22, 3) := by decide +kernel
theorem dX3_workOnOne_4 : decode cX3_workOnOne 4 = .ok (.iload_n 1, 1) := by decide +kernel
theorem dX3_workOnOne_5 : decode cX3_workOnOne 5 = .ok (.iaload, 1) := by decide +kernel
theorem dX3_workOnOne_6 : decode cX3_workOnOne 6 = .ok (.istore_n 3, 1) := by decide +kernel
theorem dX3_workOnOne_7 : decode cX3_workOnOne 7 = .ok (.iconst 0, 1) := by decide +kernel
theorem dX3_workOnOne_8 : decode cX3_workOnOne 8 = .ok (.istore 4, 2) := by decide +kernel
theorem dX3_workOnOne_10 : decode cX3_workOnOne 10 = .ok (.iload 4, 2) := by decide +kernel
theorem dX3_workOnOne_12 : decode cX3_workOnOne 12 = .ok (.bipush 30, 2) := by decide +kernel
theorem dX3_workOnOne_14 : decode cX3_workOnOne 14 = .ok (.if_icmp .ge 98, 3) := by decide +kernel
theorem dX3_workOnOne_17 : decode cX3_workOnOne 17 = .ok (.aload_n 2, 1) := by decide +kernel
theorem dX3_workOnOne_18 : decode cX3_workOnOne 18 = .ok (.aload_n 0, 1) := by decide +kernel
theorem dX3_workOnOne_19 : decode cX3_workOnOne 19 = .ok (.getfield 15, 3) := by decide +kernel
theorem dX3_workOnOne_22 : decode cX3_workOnOne 22 = .ok (.iload_n 1, 1) := by decide +kernel
theorem dX3_workOnOne_23 : decode cX3_workOnOne 23 = .ok (.iaload, 1) := by decide +kernel
theorem dX3_workOnOne_24 : decode cX3_workOnOne 24 = .ok (.aload_n 0, 1) := by decide +kernel
theorem dX3_workOnOne_25 : decode cX3_workOnOne 25 = .ok (.getfield 19, 3) := by decide +kernel
theorem dX3_workOnOne_28 : decode cX3_workOnOne 28 = .ok (.iload_n 1, 1) := by decide +kernel
theorem dX3_workOnOne_29 : decode cX3_workOnOne 29 = .ok (.iaload, 1) := by decide +kernel
theorem dX3_workOnOne_30 : decode cX3_workOnOne 30 = .ok (.iload_n 3, 1) := by decide +kernel
theorem dX3_workOnOne_31 : decode cX3_workOnOne 31 = .ok (.invokevirtual 39, 3) := by decide +kernel
theorem dX3_workOnOne_34 : decode cX3_workOnOne 34 = .ok (.istore 5, 2) := by decide +kernel
theorem dX3_workOnOne_36 : decode cX3_workOnOne 36 = .ok (.aload_n 0, 1) := by decide +kernel
theorem dX3_workOnOne_37 : decode cX3_workOnOne 37 = .ok (.getfield 29, 3) := by decide +kernel
theorem dX3_workOnOne_40 : decode cX3_workOnOne 40 = .ok (.iload_n 1, 1) := by decide +kernel
theorem dX3_workOnOne_41 : decode cX3_workOnOne 41 = .ok (.dup2, 1) := by decide +kernel
theorem dX3_workOnOne_42 : decode cX3_workOnOne 42 = .ok (.iaload, 1) := by decide +kernel
theorem dX3_workOnOne_43 : decode cX3_workOnOne 43 = .ok (.iload 5, 2) := by decide +kernel
theorem dX3_workOnOne_45 : decode cX3_workOnOne 45 = .ok (.iadd, 1) := by decide +kernel
theorem dX3_workOnOne_46 : decode cX3_workOnOne 46 = .ok (.iastore, 1) := by decide +kernel
theorem dX3_workOnOne_47 : decode cX3_workOnOne 47 = .ok (.iload_n 3, 1) := by decide +kernel
theorem dX3_workOnOne_48 : decode cX3_workOnOne 48 = .ok (.iload 5, 2) := by decide +kernel
theorem dX3_workOnOne_50 : decode cX3_workOnOne 50 = .ok (.isub, 1) := by decide +kernel
theorem dX3_workOnOne_51 : decode cX3_workOnOne 51 = .ok (.istore_n 3, 1) := by decide +kernel
theorem dX3_workOnOne_52 : decode cX3_workOnOne 52 = .ok (.iload_n 3, 1) := by decide +kernel
theorem dX3_workOnOne_53 : decode cX3_workOnOne 53 = .ok (.ifCond .ne 4, 3) := by decide +kernel
theorem dX3_workOnOne_56 : decode cX3_workOnOne 56 = .ok (.return_, 1) := by decide +kernel
theorem dX3_workOnOne_57 : decode cX3_workOnOne 57 = .ok (.aload_n 0, 1) := by decide +kernel
theorem dX3_workOnOne_58 : decode cX3_workOnOne 58 = .ok (.getfield 19, 3) := by decide +kernel
theorem dX3_workOnOne_61 : decode cX3_workOnOne 61 = .ok (.iload_n 1, 1) := by decide +kernel
theorem dX3_workOnOne_62 : decode cX3_workOnOne 62 = .ok (.iaload, 1) := by decide +kernel
theorem dX3_workOnOne_63 : decode cX3_workOnOne 63 = .ok (.bipush 7, 2) := by decide +kernel
theorem dX3_workOnOne_65 : decode cX3_workOnOne 65 = .ok (.if_icmp .ge 19, 3) := by decide +kernel
theorem dX3_workOnOne_68 : decode cX3_workOnOne 68 = .ok (.aload_n 0, 1) := by decide +kernel
theorem dX3_workOnOne_69 : decode cX3_workOnOne 69 = .ok (.getfield 19, 3) := by decide +kernel
theorem dX3_workOnOne_72 : decode cX3_workOnOne 72 = .ok (.iload_n 1, 1) := by decide +kernel
theorem dX3_workOnOne_73 : decode cX3_workOnOne 73 = .ok (.dup2, 1) := by decide +kernel
theorem dX3_workOnOne_74 : decode cX3_workOnOne 74 = .ok (.iaload, 1) := by decide +kernel
theorem dX3_workOnOne_75 : decode cX3_workOnOne 75 = .ok (.iconst 1, 1) := by decide +kernel
theorem dX3_workOnOne_76 : decode cX3_workOnOne 76 = .ok (.iadd, 1) := by decide +kernel
theorem dX3_workOnOne_77 : decode cX3_workOnOne 77 = .ok (.iastore, 1) := by decide +kernel
theorem dX3_workOnOne_78 : decode cX3_workOnOne 78 = .ok (.iinc 3 (-1), 3) := by decide +kernel
theorem dX3_workOnOne_81 : decode cX3_workOnOne 81 = .ok (.goto 25, 3) := by decide +kernel
theorem dX3_workOnOne_84 : decode cX3_workOnOne 84 = .ok (.iload_n 3, 1) := by decide +kernel
theorem dX3_workOnOne_85 : decode cX3_workOnOne 85 = .ok (.iconst 3, 1) := by decide +kernel
theorem dX3_workOnOne_86 : decode cX3_workOnOne 86 = .ok (.if_icmp .lt 19, 3) := by decide +kernel
theorem dX3_workOnOne_89 : decode cX3_workOnOne 89 = .ok (.aload_n 0, 1) := by decide +kernel
theorem dX3_workOnOne_90 : decode cX3_workOnOne 90 = .ok (.iload_n 1, 1) := by decide +kernel
theorem dX3_workOnOne_91 : decode cX3_workOnOne 91 = .ok (.aload_n 0, 1) := by decide +kernel
theorem dX3_workOnOne_92 : decode cX3_workOnOne 92 = .ok (.iload_n 1, 1) := by decide +kernel
theorem dX3_workOnOne_93 : decode cX3_workOnOne 93 = .ok (.invokevirtual 45, 3) := by decide +kernel
theorem dX3_workOnOne_96 : decode cX3_workOnOne 96 = .ok (.invokevirtual 49, 3) := by decide +kernel
theorem dX3_workOnOne_99 : decode cX3_workOnOne 99 = .ok (.iinc 3 (-3), 3) := by decide +kernel
theorem dX3_workOnOne_102 : decode cX3_workOnOne 102 = .ok (.goto 4, 3) := by decide +kernel
theorem dX3_workOnOne_105 : decode cX3_workOnOne 105 = .ok (.return_, 1) := by decide +kernel
theorem dX3_workOnOne_106 : decode cX3_workOnOne 106 = .ok (.iinc 4 1, 3) := by decide +kernel
theorem dX3_workOnOne_109 : decode cX3_workOnOne 109 = .ok (.goto (-99), 3) := by decide +kernel
theorem dX3_workOnOne_112 : decode cX3_workOnOne 112 = .ok (.return_, 1) := by decide +kernel
set_option maxRecDepth 20000 in
theorem ggX3_nextFreeColumn_X3_hangAt : GoodIn wsX3_nextFreeColumn wsX3_hangAt := goodIn_r _ [7, 8, 2, 9, 10, 11, 12, 13, 14, 15] (by decide +kernel) (by decide +kernel)
set_option maxRecDepth 20000 in
theorem gX3_nextFreeColumn_X3_hangAt : GoodIn wsX3_nextFreeColumn (wsV RX3 53 RX3 yX3_hangAt wsX3_hangAt) := goodIn_app (goodIn_of _ (by decide +kernel)) ggX3_nextFreeColumn_X3_hangAt
theorem dX3_nextFreeColumn_0 : decode cX3_nextFreeColumn 0 = .ok (.aload_n 0, 1) := by decide +kernel
theorem dX3_nextFreeColumn_1 : decode cX3_nextFreeColumn 1 = .ok (.getfield 25, 3) := by decide +kernel
theorem dX3_nextFreeColumn_4 : decode cX3_nextFreeColumn 4 = .ok (.iload_n 1, 1) := by decide +kernel
theorem dX3_nextFreeColumn_5 : decode cX3_nextFreeColumn 5 = .ok (.baload, 1) := by decide +kernel
theorem dX3_nextFreeColumn_6 : decode cX3_nextFreeColumn 6 = .ok (.ifCond .eq 7, 3) := by decide +kernel
theorem dX3_nextFreeColumn_9 : decode cX3_nextFreeColumn 9 = .ok (.iconst 1, 1) := by decide +kernel
theorem dX3_nextFreeColumn_10 : decode cX3_nextFreeColumn 10 = .ok (.goto 5, 3) := by decide +kernel
theorem dX3_nextFreeColumn_13 : decode cX3_nextFreeColumn 13 = .ok (.bipush 11, 2) := by decide +kernel
theorem dX3_nextFreeColumn_15 : decode cX3_nextFreeColumn 15 = .ok (.istore_n 2, 1) := by decide +kernel
theorem dX3_nextFreeColumn_16 : decode cX3_nextFreeColumn 16 = .ok (.aload_n 0, 1) := by decide +kernel
theorem dX3_nextFreeColumn_17 : decode cX3_nextFreeColumn 17 = .ok (.getfield 15, 3) := by decide +kernel
theorem dX3_nextFreeColumn_20 : decode cX3_nextFreeColumn 20 = .ok (.iload_n 1, 1) := by decide +kernel
theorem dX3_nextFreeColumn_21 : decode cX3_nextFreeColumn 21 = .ok (.iaload, 1) := by decide +kernel
theorem dX3_nextFreeColumn_22 : decode cX3_nextFreeColumn 22 = .ok (.istore_n 3, 1) := by decide +kernel
theorem dX3_nextFreeColumn_23 : decode cX3_nextFreeColumn 23 = .ok (.iconst 1, 1) := by decide +kernel
theorem dX3_nextFreeColumn_24 : decode cX3_nextFreeColumn 24 = .ok (.istore 4, 2) := by decide +kernel
theorem dX3_nextFreeColumn_26 : decode cX3_nextFreeColumn 26 = .ok (.iload 4, 2) := by decide +kernel
theorem dX3_nextFreeColumn_28 : decode cX3_nextFreeColumn 28 = .ok (.bipush 12, 2) := by decide +kernel
theorem dX3_nextFreeColumn_30 : decode cX3_nextFreeColumn 30 = .ok (.if_icmp .ge 26, 3) := by decide +kernel
theorem dX3_nextFreeColumn_33 : decode cX3_nextFreeColumn 33 = .ok (.iload_n 3, 1) := by decide +kernel
theorem dX3_nextFreeColumn_34 : decode cX3_nextFreeColumn 34 = .ok (.iload_n 2, 1) := by decide +kernel
theorem dX3_nextFreeColumn_35 : decode cX3_nextFreeColumn 35 = .ok (.iadd, 1) := by decide +kernel
theorem dX3_nextFreeColumn_36 : decode cX3_nextFreeColumn 36 = .ok (.bipush 12, 2) := by decide +kernel
theorem dX3_nextFreeColumn_38 : decode cX3_nextFreeColumn 38 = .ok (.irem, 1) := by decide +kernel
theorem dX3_nextFreeColumn_39 : decode cX3_nextFreeColumn 39 = .ok (.istore_n 3, 1) := by decide +kernel
theorem dX3_nextFreeColumn_40 : decode cX3_nextFreeColumn 40 = .ok (.aload_n 0, 1) := by decide +kernel
theorem dX3_nextFreeColumn_41 : decode cX3_nextFreeColumn 41 = .ok (.iload_n 3, 1) := by decide +kernel
theorem dX3_nextFreeColumn_42 : decode cX3_nextFreeColumn 42 = .ok (.invokevirtual 53, 3) := by decide +kernel
theorem dX3_nextFreeColumn_45 : decode cX3_nextFreeColumn 45 = .ok (.ifCond .ne 5, 3) := by decide +kernel
theorem dX3_nextFreeColumn_48 : decode cX3_nextFreeColumn 48 = .ok (.iload_n 3, 1) := by decide +kernel
theorem dX3_nextFreeColumn_49 : decode cX3_nextFreeColumn 49 = .ok (.ireturn, 1) := by decide +kernel
theorem dX3_nextFreeColumn_50 : decode cX3_nextFreeColumn 50 = .ok (.iinc 4 1, 3) := by decide +kernel
theorem dX3_nextFreeColumn_53 : decode cX3_nextFreeColumn 53 = .ok (.goto (-27), 3) := by decide +kernel
theorem dX3_nextFreeColumn_56 : decode cX3_nextFreeColumn 56 = .ok (.aload_n 0, 1) := by decide +kernel
theorem dX3_nextFreeColumn_57 : decode cX3_nextFreeColumn 57 = .ok (.getfield 15, 3) := by decide +kernel
theorem dX3_nextFreeColumn_60 : decode cX3_nextFreeColumn 60 = .ok (.iload_n 1, 1) := by decide +kernel
theorem dX3_nextFreeColumn_61 : decode cX3_nextFreeColumn 61 = .ok (.iaload, 1) := by decide +kernel
theorem dX3_nextFreeColumn_62 : decode cX3_nextFreeColumn 62 = .ok (.ireturn, 1) := by decide +kernel
theorem dX4_init_0 : decode cX4_init 0 = .ok (.aload_n 0, 1) := by decide +kernel
theorem dX4_init_1 : decode cX4_init 1 = .ok (.invokespecial 3, 3) := by decide +kernel
theorem dX4_init_4 : decode cX4_init 4 = .ok (.aload_n 0, 1) := by decide +kernel
theorem dX4_init_5 : decode cX4_init 5 = .ok (.iconst 0, 1) := by decide +kernel
theorem dX4_init_6 : decode cX4_init 6 = .ok (.putfield 9, 3) := by decide +kernel
theorem dX4_init_9 : decode cX4_init 9 = .ok (.aload_n 0, 1) := by decide +kernel
theorem dX4_init_10 : decode cX4_init 10 = .ok (.bipush 6, 2) := by decide +kernel
theorem dX4_init_12 : decode cX4_init 12 = .ok (.newarray .int, 2) := by decide +kernel
theorem dX4_init_14 : decode cX4_init 14 = .ok (.putfield 15, 3) := by decide +kernel
theorem dX4_init_17 : decode cX4_init 17 = .ok (.aload_n 0, 1) := by decide +kernel
theorem dX4_init_18 : decode cX4_init 18 = .ok (.bipush 6, 2) := by decide +kernel
theorem dX4_init_20 : decode cX4_init 20 = .ok (.newarray .int, 2) := by decide +kernel
theorem dX4_init_22 : decode cX4_init 22 = .ok (.putfield 19, 3) := by decide +kernel
theorem dX4_init_25 : decode cX4_init 25 = .ok (.aload_n 0, 1) := by decide +kernel
theorem dX4_init_26 : decode cX4_init 26 = .ok (.bipush 6, 2) := by decide +kernel
theorem dX4_init_28 : decode cX4_init 28 = .ok (.newarray .int, 2) := by decide +kernel
theorem dX4_init_30 : decode cX4_init 30 = .ok (.putfield 22, 3) := by decide +kernel
theorem dX4_init_33 : decode cX4_init 33 = .ok (.aload_n 0, 1) := by decide +kernel
theorem dX4_init_34 : decode cX4_init 34 = .ok (.bipush 6, 2) := by decide +kernel
theorem dX4_init_36 : decode cX4_init 36 = .ok (.newarray .int, 2) := by decide +kernel
theorem dX4_init_38 : decode cX4_init 38 = .ok (.putfield 25, 3) := by decide +kernel
theorem dX4_init_41 : decode cX4_init 41 = .ok (.aload_n 0, 1) := by decide +kernel
theorem dX4_init_42 : decode cX4_init 42 = .ok (.bipush 6, 2) := by decide +kernel
theorem dX4_init_44 : decode cX4_init 44 = .ok (.newarray .int, 2) := by decide +kernel
theorem dX4_init_46 : decode cX4_init 46 = .ok (.putfield 28, 3) := by decide +kernel
theorem dX4_init_49 : decode cX4_init 49 = .ok (.return_, 1) := by decide +kernel
theorem dX4_put_0 : decode cX4_put 0 = .ok (.aload_n 0, 1) := by decide +kernel
theorem dX4_put_1 : decode cX4_put 1 = .ok (.getfield 15, 3) := by decide +kernel
theorem dX4_put_4 : decode cX4_put 4 = .ok (.aload_n 0, 1) := by decide +kernel
theorem dX4_put_5 : decode cX4_put 5 = .ok (.getfield 9, 3) := by decide +kernel
theorem dX4_put_8 : decode cX4_put 8 = .ok (.iload_n 1, 1) := by decide +kernel
theorem dX4_put_9 : decode cX4_put 9 = .ok (.iastore, 1) := by decide +kernel
theorem dX4_put_10 : decode cX4_put 10 = .ok (.aload_n 0, 1) := by decide +kernel
theorem dX4_put_11 : decode cX4_put 11 = .ok (.getfield 19, 3) := by decide +kernel
theorem dX4_put_14 : decode cX4_put 14 = .ok (.aload_n 0, 1) := by decide +kernel
theorem dX4_put_15 : decode cX4_put 15 = .ok (.getfield 9, 3) := by decide +kernel
theorem dX4_put_18 : decode cX4_put 18 = .ok (.iload_n 2, 1) := by decide +kernel
theorem dX4_put_19 : decode cX4_put 19 = .ok (.iastore, 1) := by decide +kernel
theorem dX4_put_20 : decode cX4_put 20 = .ok (.aload_n 0, 1) := by decide +kernel
theorem dX4_put_21 : decode cX4_put 21 = .ok (.getfield 22, 3) := by decide +kernel
theorem dX4_put_24 : decode cX4_put 24 = .ok (.aload_n 0, 1) := by decide +kernel
theorem dX4_put_25 : decode cX4_put 25 = .ok (.getfield 9, 3) := by decide +kernel
theorem dX4_put_28 : decode cX4_put 28 = .ok (.iload_n 3, 1) := by decide +kernel
theorem dX4_put_29 : decode cX4_put 29 = .ok (.iastore, 1) := by decide +kernel
theorem dX4_put_30 : decode cX4_put 30 = .ok (.aload_n 0, 1) := by decide +kernel
theorem dX4_put_31 : decode cX4_put 31 = .ok (.getfield 25, 3) := by decide +kernel
theorem dX4_put_34 : decode cX4_put 34 = .ok (.aload_n 0, 1) := by decide +kernel
theorem dX4_put_35 : decode cX4_put 35 = .ok (.getfield 9, 3) := by decide +kernel
theorem dX4_put_38 : decode cX4_put 38 = .ok (.iload 4, 2) := by decide +kernel
theorem dX4_put_40 : decode cX4_put 40 = .ok (.iastore, 1) := by decide +kernel
theorem dX4_put_41 : decode cX4_put 41 = .ok (.aload_n 0, 1) := by decide +kernel
theorem dX4_put_42 : decode cX4_put 42 = .ok (.getfield 28, 3) := by decide +kernel
theorem dX4_put_45 : decode cX4_put 45 = .ok (.aload_n 0, 1) := by decide +kernel
theorem dX4_put_46 : decode cX4_put 46 = .ok (.getfield 9, 3) := by decide +kernel
theorem dX4_put_49 : decode cX4_put 49 = .ok (.iload 5, 2) := by decide +kernel
theorem dX4_put_51 : decode cX4_put 51 = .ok (.iastore, 1) := by decide +kernel
theorem dX4_put_52 : decode cX4_put 52 = .ok (.aload_n 0, 1) := by decide +kernel
theorem dX4_put_53 : decode cX4_put 53 = .ok (.dup, 1) := by decide +kernel
theorem dX4_put_54 : decode cX4_put 54 = .ok (.getfield 9, 3) := by decide +kernel
theorem dX4_put_57 : decode cX4_put 57 = .ok (.iconst 1, 1) := by decide +kernel
theorem dX4_put_58 : decode cX4_put 58 = .ok (.iadd, 1) := by decide +kernel
theorem dX4_put_59 : decode cX4_put 59 = .ok (.putfield 9, 3) := by decide +kernel
theorem dX4_put_62 : decode cX4_put 62 = .ok (.aload_n 0, 1) := by decide +kernel
theorem dX4_put_63 : decode cX4_put 63 = .ok (.getfield 9, 3) := by decide +kernel
theorem dX4_put_66 : decode cX4_put 66 = .ok (.iconst 1, 1) := by decide +kernel
theorem dX4_put_67 : decode cX4_put 67 = .ok (.isub, 1) := by decide +kernel
theorem dX4_put_68 : decode cX4_put 68 = .ok (.ireturn, 1) := by decide +kernel
set_option maxRecDepth 20000 in
theorem ggX4_number_X4_added : GoodIn wsX4_number wsX4_added := goodIn_r _ [10, 1, 3, 2, 4, 11, 12, 13, 14, 15, 16, 33, 34, 35, 36, 37, 38, 39] (by decide +kernel) (by decide +kernel)
set_option maxRecDepth 20000 in
theorem gX4_number_X4_added : GoodIn wsX4_number (wsV RX4 31 RX4 yX4_added wsX4_added) := goodIn_app (goodIn_of _ (by decide +kernel)) ggX4_number_X4_added
set_option maxRecDepth 20000 in
theorem ggX4_number_X4_darkest : GoodIn wsX4_number wsX4_darkest := goodIn_r _ [20, 1, 3, 2, 4, 21, 22, 23, 24, 11, 12, 13, 14, 15, 16, 33, 34, 35, 36, 37, 38, 39] (by decide +kernel) (by decide +kernel)
set_option maxRecDepth 20000 in
theorem gX4_number_X4_darkest : GoodIn wsX4_number (wsV RX4 35 RX4 yX4_darkest wsX4_darkest) := goodIn_app (goodIn_of _ (by decide +kernel)) ggX4_number_X4_darkest
set_option maxRecDepth 20000 in
theorem ggX4_number_X4_brings : GoodIn wsX4_number wsX4_brings := goodIn_r _ [28, 5, 21, 22, 23, 24, 29, 30, 31, 9, 32, 3, 4, 6, 7, 8, 10, 1, 2, 11, 12, 13, 14, 15, 16, 33, 34, 35, 36, 37, 38, 39] (by decide +kernel) (by decide +kernel)
set_option maxRecDepth 20000 in
theorem gX4_number_X4_brings : GoodIn wsX4_number (wsV RX4 38 RX4 yX4_brings wsX4_brings) := goodIn_app (goodIn_of _ (by decide +kernel)) ggX4_number_X4_brings
theorem dX4_number_0 : decode cX4_number 0 = .ok (.iload_n 2, 1) := by decide +kernel
theorem dX4_number_1 : decode cX4_number 1 = .ok (.tableswitch 92 0 6 #[43, 50, 57, 64, 71, 78, 85], 43) := by decide +kernel
theorem dX4_number_44 : decode cX4_number 44 = .ok (.aload_n 0, 1) := by decide +kernel
theorem dX4_number_45 : decode cX4_number 45 = .ok (.getfield 15, 3) := by decide +kernel
theorem dX4_number_48 : decode cX4_number 48 = .ok (.iload_n 1, 1) := by decide +kernel
theorem dX4_number_49 : decode cX4_number 49 = .ok (.iaload, 1) := by decide +kernel
theorem dX4_number_50 : decode cX4_number 50 = .ok (.ireturn, 1) := by decide +kernel
theorem dX4_number_51 : decode cX4_number 51 = .ok (.aload_n 0, 1) := by decide +kernel
theorem dX4_number_52 : decode cX4_number 52 = .ok (.getfield 19, 3) := by decide +kernel
theorem dX4_number_55 : decode cX4_number 55 = .ok (.iload_n 1, 1) := by decide +kernel
theorem dX4_number_56 : decode cX4_number 56 = .ok (.iaload, 1) := by decide +kernel
theorem dX4_number_57 : decode cX4_number 57 = .ok (.ireturn, 1) := by decide +kernel
theorem dX4_number_58 : decode cX4_number 58 = .ok (.aload_n 0, 1) := by decide +kernel
theorem dX4_number_59 : decode cX4_number 59 = .ok (.getfield 22, 3) := by decide +kernel
theorem dX4_number_62 : decode cX4_number 62 = .ok (.iload_n 1, 1) := by decide +kernel
theorem dX4_number_63 : decode cX4_number 63 = .ok (.iaload, 1) := by decide +kernel
theorem dX4_number_64 : decode cX4_number 64 = .ok (.ireturn, 1) := by decide +kernel
theorem dX4_number_65 : decode cX4_number 65 = .ok (.aload_n 0, 1) := by decide +kernel
theorem dX4_number_66 : decode cX4_number 66 = .ok (.getfield 25, 3) := by decide +kernel
theorem dX4_number_69 : decode cX4_number 69 = .ok (.iload_n 1, 1) := by decide +kernel
theorem dX4_number_70 : decode cX4_number 70 = .ok (.iaload, 1) := by decide +kernel
theorem dX4_number_71 : decode cX4_number 71 = .ok (.ireturn, 1) := by decide +kernel
theorem dX4_number_72 : decode cX4_number 72 = .ok (.aload_n 0, 1) := by decide +kernel
theorem dX4_number_73 : decode cX4_number 73 = .ok (.getfield 28, 3) := by decide +kernel
theorem dX4_number_76 : decode cX4_number 76 = .ok (.iload_n 1, 1) := by decide +kernel
theorem dX4_number_77 : decode cX4_number 77 = .ok (.iaload, 1) := by decide +kernel
theorem dX4_number_78 : decode cX4_number 78 = .ok (.ireturn, 1) := by decide +kernel
theorem dX4_number_79 : decode cX4_number 79 = .ok (.aload_n 0, 1) := by decide +kernel
theorem dX4_number_80 : decode cX4_number 80 = .ok (.iload_n 1, 1) := by decide +kernel
theorem dX4_number_81 : decode cX4_number 81 = .ok (.aload_n 3, 1) := by decide +kernel
theorem dX4_number_82 : decode cX4_number 82 = .ok (.invokevirtual 31, 3) := by decide +kernel
theorem dX4_number_85 : decode cX4_number 85 = .ok (.ireturn, 1) := by decide +kernel
theorem dX4_number_86 : decode cX4_number 86 = .ok (.aload_n 0, 1) := by decide +kernel
theorem dX4_number_87 : decode cX4_number 87 = .ok (.iload_n 1, 1) := by decide +kernel
theorem dX4_number_88 : decode cX4_number 88 = .ok (.aload_n 3, 1) := by decide +kernel
theorem dX4_number_89 : decode cX4_number 89 = .ok (.invokevirtual 35, 3) := by decide +kernel
theorem dX4_number_92 : decode cX4_number 92 = .ok (.ireturn, 1) := by decide +kernel
theorem dX4_number_93 : decode cX4_number 93 = .ok (.aload_n 0, 1) := by decide +kernel
theorem dX4_number_94 : decode cX4_number 94 = .ok (.iload_n 1, 1) := by decide +kernel
theorem dX4_number_95 : decode cX4_number 95 = .ok (.aload_n 3, 1) := by decide +kernel
theorem dX4_number_96 : decode cX4_number 96 = .ok (.invokevirtual 38, 3) := by decide +kernel
theorem dX4_number_99 : decode cX4_number 99 = .ok (.ireturn, 1) := by decide +kernel
theorem dX4_panes_0 : decode cX4_panes 0 = .ok (.aload_n 0, 1) := by decide +kernel
theorem dX4_panes_1 : decode cX4_panes 1 = .ok (.getfield 22, 3) := by decide +kernel
theorem dX4_panes_4 : decode cX4_panes 4 = .ok (.iload_n 1, 1) := by decide +kernel
theorem dX4_panes_5 : decode cX4_panes 5 = .ok (.iaload, 1) := by decide +kernel
theorem dX4_panes_6 : decode cX4_panes 6 = .ok (.aload_n 0, 1) := by decide +kernel
theorem dX4_panes_7 : decode cX4_panes 7 = .ok (.getfield 25, 3) := by decide +kernel
theorem dX4_panes_10 : decode cX4_panes 10 = .ok (.iload_n 1, 1) := by decide +kernel
theorem dX4_panes_11 : decode cX4_panes 11 = .ok (.iaload, 1) := by decide +kernel
theorem dX4_panes_12 : decode cX4_panes 12 = .ok (.imul, 1) := by decide +kernel
theorem dX4_panes_13 : decode cX4_panes 13 = .ok (.ireturn, 1) := by decide +kernel
set_option maxRecDepth 20000 in
theorem ggX4_added_X2_at : GoodIn wsX4_added wsX2_at := goodIn_r _ [9, 10, 17] (by decide +kernel) (by decide +kernel)
set_option maxRecDepth 20000 in
theorem gX4_added_X2_at : GoodIn wsX4_added (wsV RX4 41 RX2 yX2_at wsX2_at) := goodIn_app (goodIn_of _ (by decide +kernel)) ggX4_added_X2_at
theorem dX4_added_0 : decode cX4_added 0 = .ok (.iconst 0, 1) := by decide +kernel
theorem dX4_added_1 : decode cX4_added 1 = .ok (.istore_n 3, 1) := by decide +kernel
theorem dX4_added_2 : decode cX4_added 2 = .ok (.aload_n 0, 1) := by decide +kernel
theorem dX4_added_3 : decode cX4_added 3 = .ok (.getfield 15, 3) := by decide +kernel
theorem dX4_added_6 : decode cX4_added 6 = .ok (.iload_n 1, 1) := by decide +kernel
theorem dX4_added_7 : decode cX4_added 7 = .ok (.iaload, 1) := by decide +kernel
theorem dX4_added_8 : decode cX4_added 8 = .ok (.istore 4, 2) := by decide +kernel
theorem dX4_added_10 : decode cX4_added 10 = .ok (.iload 4, 2) := by decide +kernel
theorem dX4_added_12 : decode cX4_added 12 = .ok (.aload_n 0, 1) := by decide +kernel
theorem dX4_added_13 : decode cX4_added 13 = .ok (.getfield 15, 3) := by decide +kernel
theorem dX4_added_16 : decode cX4_added 16 = .ok (.iload_n 1, 1) := by decide +kernel
theorem dX4_added_17 : decode cX4_added 17 = .ok (.iaload, 1) := by decide +kernel
theorem dX4_added_18 : decode cX4_added 18 = .ok (.aload_n 0, 1) := by decide +kernel
theorem dX4_added_19 : decode cX4_added 19 = .ok (.getfield 22, 3) := by decide +kernel
theorem dX4_added_22 : decode cX4_added 22 = .ok (.iload_n 1, 1) := by decide +kernel
theorem dX4_added_23 : decode cX4_added 23 = .ok (.iaload, 1) := by decide +kernel
theorem dX4_added_24 : decode cX4_added 24 = .ok (.iadd, 1) := by decide +kernel
theorem dX4_added_25 : decode cX4_added 25 = .ok (.if_icmp .ge 52, 3) := by decide +kernel
theorem dX4_added_28 : decode cX4_added 28 = .ok (.aload_n 0, 1) := by decide +kernel
theorem dX4_added_29 : decode cX4_added 29 = .ok (.getfield 19, 3) := by decide +kernel
theorem dX4_added_32 : decode cX4_added 32 = .ok (.iload_n 1, 1) := by decide +kernel
theorem dX4_added_33 : decode cX4_added 33 = .ok (.iaload, 1) := by decide +kernel
theorem dX4_added_34 : decode cX4_added 34 = .ok (.istore 5, 2) := by decide +kernel
theorem dX4_added_36 : decode cX4_added 36 = .ok (.iload 5, 2) := by decide +kernel
theorem dX4_added_38 : decode cX4_added 38 = .ok (.aload_n 0, 1) := by decide +kernel
theorem dX4_added_39 : decode cX4_added 39 = .ok (.getfield 19, 3) := by decide +kernel
theorem dX4_added_42 : decode cX4_added 42 = .ok (.iload_n 1, 1) := by decide +kernel
theorem dX4_added_43 : decode cX4_added 43 = .ok (.iaload, 1) := by decide +kernel
theorem dX4_added_44 : decode cX4_added 44 = .ok (.aload_n 0, 1) := by decide +kernel
theorem dX4_added_45 : decode cX4_added 45 = .ok (.getfield 25, 3) := by decide +kernel
theorem dX4_added_48 : decode cX4_added 48 = .ok (.iload_n 1, 1) := by decide +kernel
theorem dX4_added_49 : decode cX4_added 49 = .ok (.iaload, 1) := by decide +kernel
theorem dX4_added_50 : decode cX4_added 50 = .ok (.iadd, 1) := by decide +kernel
theorem dX4_added_51 : decode cX4_added 51 = .ok (.if_icmp .ge 20, 3) := by decide +kernel
theorem dX4_added_54 : decode cX4_added 54 = .ok (.iload_n 3, 1) := by decide +kernel
theorem dX4_added_55 : decode cX4_added 55 = .ok (.aload_n 2, 1) := by decide +kernel
theorem dX4_added_56 : decode cX4_added 56 = .ok (.iload 4, 2) := by decide +kernel
theorem dX4_added_58 : decode cX4_added 58 = .ok (.iload 5, 2) := by decide +kernel
theorem dX4_added_60 : decode cX4_added 60 = .ok (.invokevirtual 41, 3) := by decide +kernel
theorem dX4_added_63 : decode cX4_added 63 = .ok (.iadd, 1) := by decide +kernel
theorem dX4_added_64 : decode cX4_added 64 = .ok (.istore_n 3, 1) := by decide +kernel
theorem dX4_added_65 : decode cX4_added 65 = .ok (.iinc 5 1, 3) := by decide +kernel
theorem dX4_added_68 : decode cX4_added 68 = .ok (.goto (-32), 3) := by decide +kernel
theorem dX4_added_71 : decode cX4_added 71 = .ok (.iinc 4 1, 3) := by decide +kernel
end
section
theorem dX4_added_74 : decode cX4_added 74 = .ok (.goto (-64), 3) := by decide +kernel
theorem dX4_added_77 : decode cX4_added 77 = .ok (.iload_n 3, 1) := by decide +kernel
theorem dX4_added_78 : decode cX4_added 78 = .ok (.ireturn, 1) := by decide +kernel
set_option maxRecDepth 20000 in
theorem ggX4_darkest_X2_at : GoodIn wsX4_darkest wsX2_at := goodIn_r _ [13, 14, 21] (by decide +kernel) (by decide +kernel)
set_option maxRecDepth 20000 in
theorem gX4_darkest_X2_at : GoodIn wsX4_darkest (wsV RX4 41 RX2 yX2_at wsX2_at) := goodIn_app (goodIn_of _ (by decide +kernel)) ggX4_darkest_X2_at
theorem dX4_darkest_0 : decode cX4_darkest 0 = .ok (.iconst 0, 1) := by decide +kernel
theorem dX4_darkest_1 : decode cX4_darkest 1 = .ok (.istore_n 3, 1) := by decide +kernel
theorem dX4_darkest_2 : decode cX4_darkest 2 = .ok (.aload_n 0, 1) := by decide +kernel
theorem dX4_darkest_3 : decode cX4_darkest 3 = .ok (.getfield 15, 3) := by decide +kernel
theorem dX4_darkest_6 : decode cX4_darkest 6 = .ok (.iload_n 1, 1) := by decide +kernel
theorem dX4_darkest_7 : decode cX4_darkest 7 = .ok (.iaload, 1) := by decide +kernel
theorem dX4_darkest_8 : decode cX4_darkest 8 = .ok (.istore 4, 2) := by decide +kernel
theorem dX4_darkest_10 : decode cX4_darkest 10 = .ok (.iload 4, 2) := by decide +kernel
theorem dX4_darkest_12 : decode cX4_darkest 12 = .ok (.aload_n 0, 1) := by decide +kernel
theorem dX4_darkest_13 : decode cX4_darkest 13 = .ok (.getfield 15, 3) := by decide +kernel
theorem dX4_darkest_16 : decode cX4_darkest 16 = .ok (.iload_n 1, 1) := by decide +kernel
theorem dX4_darkest_17 : decode cX4_darkest 17 = .ok (.iaload, 1) := by decide +kernel
theorem dX4_darkest_18 : decode cX4_darkest 18 = .ok (.aload_n 0, 1) := by decide +kernel
theorem dX4_darkest_19 : decode cX4_darkest 19 = .ok (.getfield 22, 3) := by decide +kernel
theorem dX4_darkest_22 : decode cX4_darkest 22 = .ok (.iload_n 1, 1) := by decide +kernel
theorem dX4_darkest_23 : decode cX4_darkest 23 = .ok (.iaload, 1) := by decide +kernel
theorem dX4_darkest_24 : decode cX4_darkest 24 = .ok (.iadd, 1) := by decide +kernel
theorem dX4_darkest_25 : decode cX4_darkest 25 = .ok (.if_icmp .ge 54, 3) := by decide +kernel
theorem dX4_darkest_28 : decode cX4_darkest 28 = .ok (.aload_n 0, 1) := by decide +kernel
theorem dX4_darkest_29 : decode cX4_darkest 29 = .ok (.getfield 19, 3) := by decide +kernel
theorem dX4_darkest_32 : decode cX4_darkest 32 = .ok (.iload_n 1, 1) := by decide +kernel
theorem dX4_darkest_33 : decode cX4_darkest 33 = .ok (.iaload, 1) := by decide +kernel
theorem dX4_darkest_34 : decode cX4_darkest 34 = .ok (.istore 5, 2) := by decide +kernel
theorem dX4_darkest_36 : decode cX4_darkest 36 = .ok (.iload 5, 2) := by decide +kernel
theorem dX4_darkest_38 : decode cX4_darkest 38 = .ok (.aload_n 0, 1) := by decide +kernel
theorem dX4_darkest_39 : decode cX4_darkest 39 = .ok (.getfield 19, 3) := by decide +kernel
theorem dX4_darkest_42 : decode cX4_darkest 42 = .ok (.iload_n 1, 1) := by decide +kernel
theorem dX4_darkest_43 : decode cX4_darkest 43 = .ok (.iaload, 1) := by decide +kernel
theorem dX4_darkest_44 : decode cX4_darkest 44 = .ok (.aload_n 0, 1) := by decide +kernel
theorem dX4_darkest_45 : decode cX4_darkest 45 = .ok (.getfield 25, 3) := by decide +kernel
theorem dX4_darkest_48 : decode cX4_darkest 48 = .ok (.iload_n 1, 1) := by decide +kernel
theorem dX4_darkest_49 : decode cX4_darkest 49 = .ok (.iaload, 1) := by decide +kernel
theorem dX4_darkest_50 : decode cX4_darkest 50 = .ok (.iadd, 1) := by decide +kernel
theorem dX4_darkest_51 : decode cX4_darkest 51 = .ok (.if_icmp .ge 22, 3) := by decide +kernel
theorem dX4_darkest_54 : decode cX4_darkest 54 = .ok (.iload_n 3, 1) := by decide +kernel
theorem dX4_darkest_55 : decode cX4_darkest 55 = .ok (.aload_n 2, 1) := by decide +kernel
theorem dX4_darkest_56 : decode cX4_darkest 56 = .ok (.iload 4, 2) := by decide +kernel
theorem dX4_darkest_58 : decode cX4_darkest 58 = .ok (.iload 5, 2) := by decide +kernel
theorem dX4_darkest_60 : decode cX4_darkest 60 = .ok (.invokevirtual 41, 3) := by decide +kernel
theorem dX4_darkest_63 : decode cX4_darkest 63 = .ok (.invokestatic 47, 3) := by decide +kernel
theorem dX4_darkest_66 : decode cX4_darkest 66 = .ok (.istore_n 3, 1) := by decide +kernel
theorem dX4_darkest_67 : decode cX4_darkest 67 = .ok (.iinc 5 1, 3) := by decide +kernel
theorem dX4_darkest_70 : decode cX4_darkest 70 = .ok (.goto (-34), 3) := by decide +kernel
theorem dX4_darkest_73 : decode cX4_darkest 73 = .ok (.iinc 4 1, 3) := by decide +kernel
theorem dX4_darkest_76 : decode cX4_darkest 76 = .ok (.goto (-66), 3) := by decide +kernel
theorem dX4_darkest_79 : decode cX4_darkest 79 = .ok (.iload_n 3, 1) := by decide +kernel
theorem dX4_darkest_80 : decode cX4_darkest 80 = .ok (.ireturn, 1) := by decide +kernel
set_option maxRecDepth 20000 in
theorem ggX4_brings_X4_panes : GoodIn wsX4_brings wsX4_panes := goodIn_r _ [10, 11, 12, 25, 26, 27, 28, 29, 30] (by decide +kernel) (by decide +kernel)
set_option maxRecDepth 20000 in
theorem gX4_brings_X4_panes : GoodIn wsX4_brings (wsV RX4 52 RX4 yX4_panes wsX4_panes) := goodIn_app (goodIn_of _ (by decide +kernel)) ggX4_brings_X4_panes
set_option maxRecDepth 20000 in
theorem ggX4_brings_X4_added : GoodIn wsX4_brings wsX4_added := goodIn_r _ [16, 17, 11, 18, 12, 19, 20, 21, 22, 23, 24, 25, 26, 27, 28, 29, 30, 31] (by decide +kernel) (by decide +kernel)
set_option maxRecDepth 20000 in
theorem gX4_brings_X4_added : GoodIn wsX4_brings (wsV RX4 31 RX4 yX4_added wsX4_added) := goodIn_app (goodIn_of _ (by decide +kernel)) ggX4_brings_X4_added
theorem dX4_brings_0 : decode cX4_brings 0 = .ok (.iconst 0, 1) := by decide +kernel
theorem dX4_brings_1 : decode cX4_brings 1 = .ok (.aload_n 0, 1) := by decide +kernel
theorem dX4_brings_2 : decode cX4_brings 2 = .ok (.getfield 28, 3) := by decide +kernel
theorem dX4_brings_5 : decode cX4_brings 5 = .ok (.iload_n 1, 1) := by decide +kernel
theorem dX4_brings_6 : decode cX4_brings 6 = .ok (.iaload, 1) := by decide +kernel
theorem dX4_brings_7 : decode cX4_brings 7 = .ok (.aload_n 0, 1) := by decide +kernel
theorem dX4_brings_8 : decode cX4_brings 8 = .ok (.iload_n 1, 1) := by decide +kernel
theorem dX4_brings_9 : decode cX4_brings 9 = .ok (.invokevirtual 52, 3) := by decide +kernel
theorem dX4_brings_12 : decode cX4_brings 12 = .ok (.imul, 1) := by decide +kernel
theorem dX4_brings_13 : decode cX4_brings 13 = .ok (.aload_n 0, 1) := by decide +kernel
theorem dX4_brings_14 : decode cX4_brings 14 = .ok (.iload_n 1, 1) := by decide +kernel
theorem dX4_brings_15 : decode cX4_brings 15 = .ok (.aload_n 2, 1) := by decide +kernel
theorem dX4_brings_16 : decode cX4_brings 16 = .ok (.invokevirtual 31, 3) := by decide +kernel
theorem dX4_brings_19 : decode cX4_brings 19 = .ok (.isub, 1) := by decide +kernel
theorem dX4_brings_20 : decode cX4_brings 20 = .ok (.invokestatic 47, 3) := by decide +kernel
theorem dX4_brings_23 : decode cX4_brings 23 = .ok (.ireturn, 1) := by decide +kernel
set_option maxRecDepth 20000 in
theorem ggX4_allBring_X4_brings : GoodIn wsX4_allBring wsX4_brings := goodIn_r _ [6, 7, 8, 9, 10, 11, 12, 13, 14, 5, 15, 16, 17, 18, 19, 20, 21, 22, 23, 24, 25, 26, 27, 28, 29, 30, 31, 32, 33, 34, 35, 36] (by decide +kernel) (by decide +kernel)
set_option maxRecDepth 20000 in
theorem gX4_allBring_X4_brings : GoodIn wsX4_allBring (wsV RX4 38 RX4 yX4_brings wsX4_brings) := goodIn_app (goodIn_of _ (by decide +kernel)) ggX4_allBring_X4_brings
theorem dX4_allBring_0 : decode cX4_allBring 0 = .ok (.iconst 0, 1) := by decide +kernel
theorem dX4_allBring_1 : decode cX4_allBring 1 = .ok (.istore_n 2, 1) := by decide +kernel
theorem dX4_allBring_2 : decode cX4_allBring 2 = .ok (.iconst 0, 1) := by decide +kernel
theorem dX4_allBring_3 : decode cX4_allBring 3 = .ok (.istore_n 3, 1) := by decide +kernel
theorem dX4_allBring_4 : decode cX4_allBring 4 = .ok (.iload_n 3, 1) := by decide +kernel
theorem dX4_allBring_5 : decode cX4_allBring 5 = .ok (.aload_n 0, 1) := by decide +kernel
theorem dX4_allBring_6 : decode cX4_allBring 6 = .ok (.getfield 9, 3) := by decide +kernel
theorem dX4_allBring_9 : decode cX4_allBring 9 = .ok (.if_icmp .ge 18, 3) := by decide +kernel
theorem dX4_allBring_12 : decode cX4_allBring 12 = .ok (.iload_n 2, 1) := by decide +kernel
theorem dX4_allBring_13 : decode cX4_allBring 13 = .ok (.aload_n 0, 1) := by decide +kernel
theorem dX4_allBring_14 : decode cX4_allBring 14 = .ok (.iload_n 3, 1) := by decide +kernel
theorem dX4_allBring_15 : decode cX4_allBring 15 = .ok (.aload_n 1, 1) := by decide +kernel
theorem dX4_allBring_16 : decode cX4_allBring 16 = .ok (.invokevirtual 38, 3) := by decide +kernel
theorem dX4_allBring_19 : decode cX4_allBring 19 = .ok (.iadd, 1) := by decide +kernel
theorem dX4_allBring_20 : decode cX4_allBring 20 = .ok (.istore_n 2, 1) := by decide +kernel
theorem dX4_allBring_21 : decode cX4_allBring 21 = .ok (.iinc 3 1, 3) := by decide +kernel
theorem dX4_allBring_24 : decode cX4_allBring 24 = .ok (.goto (-20), 3) := by decide +kernel
theorem dX4_allBring_27 : decode cX4_allBring 27 = .ok (.iload_n 2, 1) := by decide +kernel
theorem dX4_allBring_28 : decode cX4_allBring 28 = .ok (.ireturn, 1) := by decide +kernel
set_option maxRecDepth 20000 in
theorem ggX4_isClean_X4_added : GoodIn wsX4_isClean wsX4_added := goodIn_r _ [5, 6, 7, 8, 9, 10, 11, 12, 13, 14, 15, 20, 21, 22, 23, 24, 25, 26] (by decide +kernel) (by decide +kernel)
set_option maxRecDepth 20000 in
theorem gX4_isClean_X4_added : GoodIn wsX4_isClean (wsV RX4 31 RX4 yX4_added wsX4_added) := goodIn_app (goodIn_of _ (by decide +kernel)) ggX4_isClean_X4_added
set_option maxRecDepth 20000 in
theorem ggX4_isClean_X4_panes : GoodIn wsX4_isClean wsX4_panes := goodIn_r _ [19, 7, 9, 20, 21, 22, 23, 24, 25] (by decide +kernel) (by decide +kernel)
set_option maxRecDepth 20000 in
theorem gX4_isClean_X4_panes : GoodIn wsX4_isClean (wsV RX4 52 RX4 yX4_panes wsX4_panes) := goodIn_app (goodIn_of _ (by decide +kernel)) ggX4_isClean_X4_panes
theorem dX4_isClean_0 : decode cX4_isClean 0 = .ok (.aload_n 0, 1) := by decide +kernel
theorem dX4_isClean_1 : decode cX4_isClean 1 = .ok (.iload_n 1, 1) := by decide +kernel
theorem dX4_isClean_2 : decode cX4_isClean 2 = .ok (.aload_n 2, 1) := by decide +kernel
theorem dX4_isClean_3 : decode cX4_isClean 3 = .ok (.invokevirtual 31, 3) := by decide +kernel
theorem dX4_isClean_6 : decode cX4_isClean 6 = .ok (.aload_n 0, 1) := by decide +kernel
theorem dX4_isClean_7 : decode cX4_isClean 7 = .ok (.iload_n 1, 1) := by decide +kernel
theorem dX4_isClean_8 : decode cX4_isClean 8 = .ok (.invokevirtual 52, 3) := by decide +kernel
theorem dX4_isClean_11 : decode cX4_isClean 11 = .ok (.if_icmp .gt 7, 3) := by decide +kernel
theorem dX4_isClean_14 : decode cX4_isClean 14 = .ok (.iconst 1, 1) := by decide +kernel
theorem dX4_isClean_15 : decode cX4_isClean 15 = .ok (.goto 4, 3) := by decide +kernel
theorem dX4_isClean_18 : decode cX4_isClean 18 = .ok (.iconst 0, 1) := by decide +kernel
theorem dX4_isClean_19 : decode cX4_isClean 19 = .ok (.ireturn, 1) := by decide +kernel
set_option maxRecDepth 20000 in
theorem ggX4_wipeOff_X2_takeOff : GoodIn wsX4_wipeOff wsX2_takeOff := goodIn_r _ [9, 10, 11, 12, 13, 14, 21] (by decide +kernel) (by decide +kernel)
set_option maxRecDepth 20000 in
theorem gX4_wipeOff_X2_takeOff : GoodIn wsX4_wipeOff (wsV RX4 56 RX2 yX2_takeOff wsX2_takeOff) := goodIn_app (goodIn_of _ (by decide +kernel)) ggX4_wipeOff_X2_takeOff
theorem dX4_wipeOff_0 : decode cX4_wipeOff 0 = .ok (.iconst 0, 1) := by decide +kernel
theorem dX4_wipeOff_1 : decode cX4_wipeOff 1 = .ok (.istore_n 3, 1) := by decide +kernel
theorem dX4_wipeOff_2 : decode cX4_wipeOff 2 = .ok (.aload_n 0, 1) := by decide +kernel
theorem dX4_wipeOff_3 : decode cX4_wipeOff 3 = .ok (.getfield 15, 3) := by decide +kernel
theorem dX4_wipeOff_6 : decode cX4_wipeOff 6 = .ok (.iload_n 1, 1) := by decide +kernel
theorem dX4_wipeOff_7 : decode cX4_wipeOff 7 = .ok (.iaload, 1) := by decide +kernel
theorem dX4_wipeOff_8 : decode cX4_wipeOff 8 = .ok (.istore 4, 2) := by decide +kernel
theorem dX4_wipeOff_10 : decode cX4_wipeOff 10 = .ok (.iload 4, 2) := by decide +kernel
theorem dX4_wipeOff_12 : decode cX4_wipeOff 12 = .ok (.aload_n 0, 1) := by decide +kernel
theorem dX4_wipeOff_13 : decode cX4_wipeOff 13 = .ok (.getfield 15, 3) := by decide +kernel
theorem dX4_wipeOff_16 : decode cX4_wipeOff 16 = .ok (.iload_n 1, 1) := by decide +kernel
theorem dX4_wipeOff_17 : decode cX4_wipeOff 17 = .ok (.iaload, 1) := by decide +kernel
theorem dX4_wipeOff_18 : decode cX4_wipeOff 18 = .ok (.aload_n 0, 1) := by decide +kernel
theorem dX4_wipeOff_19 : decode cX4_wipeOff 19 = .ok (.getfield 22, 3) := by decide +kernel
theorem dX4_wipeOff_22 : decode cX4_wipeOff 22 = .ok (.iload_n 1, 1) := by decide +kernel
theorem dX4_wipeOff_23 : decode cX4_wipeOff 23 = .ok (.iaload, 1) := by decide +kernel
theorem dX4_wipeOff_24 : decode cX4_wipeOff 24 = .ok (.iadd, 1) := by decide +kernel
theorem dX4_wipeOff_25 : decode cX4_wipeOff 25 = .ok (.if_icmp .ge 54, 3) := by decide +kernel
theorem dX4_wipeOff_28 : decode cX4_wipeOff 28 = .ok (.aload_n 0, 1) := by decide +kernel
theorem dX4_wipeOff_29 : decode cX4_wipeOff 29 = .ok (.getfield 19, 3) := by decide +kernel
theorem dX4_wipeOff_32 : decode cX4_wipeOff 32 = .ok (.iload_n 1, 1) := by decide +kernel
theorem dX4_wipeOff_33 : decode cX4_wipeOff 33 = .ok (.iaload, 1) := by decide +kernel
theorem dX4_wipeOff_34 : decode cX4_wipeOff 34 = .ok (.istore 5, 2) := by decide +kernel
theorem dX4_wipeOff_36 : decode cX4_wipeOff 36 = .ok (.iload 5, 2) := by decide +kernel
theorem dX4_wipeOff_38 : decode cX4_wipeOff 38 = .ok (.aload_n 0, 1) := by decide +kernel
theorem dX4_wipeOff_39 : decode cX4_wipeOff 39 = .ok (.getfield 19, 3) := by decide +kernel
theorem dX4_wipeOff_42 : decode cX4_wipeOff 42 = .ok (.iload_n 1, 1) := by decide +kernel
theorem dX4_wipeOff_43 : decode cX4_wipeOff 43 = .ok (.iaload, 1) := by decide +kernel
theorem dX4_wipeOff_44 : decode cX4_wipeOff 44 = .ok (.aload_n 0, 1) := by decide +kernel
theorem dX4_wipeOff_45 : decode cX4_wipeOff 45 = .ok (.getfield 25, 3) := by decide +kernel
theorem dX4_wipeOff_48 : decode cX4_wipeOff 48 = .ok (.iload_n 1, 1) := by decide +kernel
theorem dX4_wipeOff_49 : decode cX4_wipeOff 49 = .ok (.iaload, 1) := by decide +kernel
theorem dX4_wipeOff_50 : decode cX4_wipeOff 50 = .ok (.iadd, 1) := by decide +kernel
theorem dX4_wipeOff_51 : decode cX4_wipeOff 51 = .ok (.if_icmp .ge 22, 3) := by decide +kernel
theorem dX4_wipeOff_54 : decode cX4_wipeOff 54 = .ok (.iload_n 3, 1) := by decide +kernel
theorem dX4_wipeOff_55 : decode cX4_wipeOff 55 = .ok (.aload_n 2, 1) := by decide +kernel
theorem dX4_wipeOff_56 : decode cX4_wipeOff 56 = .ok (.iload 4, 2) := by decide +kernel
theorem dX4_wipeOff_58 : decode cX4_wipeOff 58 = .ok (.iload 5, 2) := by decide +kernel
theorem dX4_wipeOff_60 : decode cX4_wipeOff 60 = .ok (.bipush 20, 2) := by decide +kernel
theorem dX4_wipeOff_62 : decode cX4_wipeOff 62 = .ok (.invokevirtual 56, 3) := by decide +kernel
theorem dX4_wipeOff_65 : decode cX4_wipeOff 65 = .ok (.iadd, 1) := by decide +kernel
theorem dX4_wipeOff_66 : decode cX4_wipeOff 66 = .ok (.istore_n 3, 1) := by decide +kernel
theorem dX4_wipeOff_67 : decode cX4_wipeOff 67 = .ok (.iinc 5 1, 3) := by decide +kernel
theorem dX4_wipeOff_70 : decode cX4_wipeOff 70 = .ok (.goto (-34), 3) := by decide +kernel
theorem dX4_wipeOff_73 : decode cX4_wipeOff 73 = .ok (.iinc 4 1, 3) := by decide +kernel
theorem dX4_wipeOff_76 : decode cX4_wipeOff 76 = .ok (.goto (-66), 3) := by decide +kernel
theorem dX4_wipeOff_79 : decode cX4_wipeOff 79 = .ok (.iload_n 3, 1) := by decide +kernel
theorem dX4_wipeOff_80 : decode cX4_wipeOff 80 = .ok (.ireturn, 1) := by decide +kernel
set_option maxRecDepth 20000 in
theorem ggX5_init_X4_init : GoodIn wsX5_init wsX4_init := goodIn_r _ [18, 19, 2, 3, 20, 21, 22, 23, 24, 25, 26, 63, 64, 65, 66, 67, 68] (by decide +kernel) (by decide +kernel)
set_option maxRecDepth 20000 in
theorem gX5_init_X4_init_n11 : GoodIn wsX5_init (wsX4_init) := ggX5_init_X4_init
set_option maxRecDepth 20000 in
theorem ggX5_init_X1_init : GoodIn wsX5_init wsX1_init := goodIn_r _ [28, 29, 2, 3, 30, 21, 31, 32, 73, 74, 75] (by decide +kernel) (by decide +kernel)
set_option maxRecDepth 20000 in
theorem gX5_init_X1_init_n18 : GoodIn wsX5_init (wsX1_init) := ggX5_init_X1_init
set_option maxRecDepth 20000 in
theorem ggX5_init_X0_init : GoodIn wsX5_init wsX0_init := goodIn_r _ [34, 35, 2, 3, 36, 37, 38, 39, 40, 41, 42, 43, 44, 45, 46, 47, 48, 49, 50, 21, 51, 52, 53, 54, 55, 56, 57, 58, 59, 60, 61, 62, 82, 76, 77, 78, 79, 80, 81, 83, 84, 85, 86, 87, 88, 89] (by decide +kernel) (by decide +kernel)
set_option maxRecDepth 20000 in
theorem gX5_init_X0_init_n25 : GoodIn wsX5_init (wsX0_init) := ggX5_init_X0_init
theorem dX5_init_0 : decode cX5_init 0 = .ok (.aload_n 0, 1) := by decide +kernel
theorem dX5_init_1 : decode cX5_init 1 = .ok (.invokespecial 3, 3) := by decide +kernel
theorem dX5_init_4 : decode cX5_init 4 = .ok (.aload_n 0, 1) := by decide +kernel
theorem dX5_init_5 : decode cX5_init 5 = .ok (.new 9, 3) := by decide +kernel
theorem dX5_init_8 : decode cX5_init 8 = .ok (.dup, 1) := by decide +kernel
theorem dX5_init_9 : decode cX5_init 9 = .ok (.invokespecial 11, 3) := by decide +kernel
theorem dX5_init_12 : decode cX5_init 12 = .ok (.putfield 12, 3) := by decide +kernel
theorem dX5_init_15 : decode cX5_init 15 = .ok (.aload_n 0, 1) := by decide +kernel
theorem dX5_init_16 : decode cX5_init 16 = .ok (.new 16, 3) := by decide +kernel
theorem dX5_init_19 : decode cX5_init 19 = .ok (.dup, 1) := by decide +kernel
theorem dX5_init_20 : decode cX5_init 20 = .ok (.invokespecial 18, 3) := by decide +kernel
theorem dX5_init_23 : decode cX5_init 23 = .ok (.putfield 19, 3) := by decide +kernel
theorem dX5_init_26 : decode cX5_init 26 = .ok (.aload_n 0, 1) := by decide +kernel
theorem dX5_init_27 : decode cX5_init 27 = .ok (.new 23, 3) := by decide +kernel
theorem dX5_init_30 : decode cX5_init 30 = .ok (.dup, 1) := by decide +kernel
theorem dX5_init_31 : decode cX5_init 31 = .ok (.invokespecial 25, 3) := by decide +kernel
theorem dX5_init_34 : decode cX5_init 34 = .ok (.putfield 26, 3) := by decide +kernel
theorem dX5_init_37 : decode cX5_init 37 = .ok (.aload_n 0, 1) := by decide +kernel
theorem dX5_init_38 : decode cX5_init 38 = .ok (.new 23, 3) := by decide +kernel
theorem dX5_init_41 : decode cX5_init 41 = .ok (.dup, 1) := by decide +kernel
theorem dX5_init_42 : decode cX5_init 42 = .ok (.invokespecial 25, 3) := by decide +kernel
theorem dX5_init_45 : decode cX5_init 45 = .ok (.putfield 30, 3) := by decide +kernel
theorem dX5_init_48 : decode cX5_init 48 = .ok (.return_, 1) := by decide +kernel
set_option maxRecDepth 20000 in
theorem ggX5_window_X4_put : GoodIn wsX5_window wsX4_put := goodIn_r _ [12, 13, 14, 15, 16, 17, 18, 23, 24, 25, 26, 27, 28] (by decide +kernel) (by decide +kernel)
set_option maxRecDepth 20000 in
theorem gX5_window_X4_put : GoodIn wsX5_window (wsV RX5 54 RX4 yX4_put wsX4_put) := goodIn_app (goodIn_of _ (by decide +kernel)) ggX5_window_X4_put
theorem dX5_window_0 : decode cX5_window 0 = .ok (.iload_n 3, 1) := by decide +kernel
theorem dX5_window_1 : decode cX5_window 1 = .ok (.iconst 1, 1) := by decide +kernel
theorem dX5_window_2 : decode cX5_window 2 = .ok (.if_icmp .lt 35, 3) := by decide +kernel
theorem dX5_window_5 : decode cX5_window 5 = .ok (.iload_n 3, 1) := by decide +kernel
theorem dX5_window_6 : decode cX5_window 6 = .ok (.bipush 12, 2) := by decide +kernel
theorem dX5_window_8 : decode cX5_window 8 = .ok (.if_icmp .gt 29, 3) := by decide +kernel
theorem dX5_window_11 : decode cX5_window 11 = .ok (.iload 4, 2) := by decide +kernel
theorem dX5_window_13 : decode cX5_window 13 = .ok (.iconst 1, 1) := by decide +kernel
theorem dX5_window_14 : decode cX5_window 14 = .ok (.if_icmp .lt 23, 3) := by decide +kernel
theorem dX5_window_17 : decode cX5_window 17 = .ok (.iload 4, 2) := by decide +kernel
theorem dX5_window_19 : decode cX5_window 19 = .ok (.bipush 8, 2) := by decide +kernel
theorem dX5_window_21 : decode cX5_window 21 = .ok (.if_icmp .gt 16, 3) := by decide +kernel
theorem dX5_window_24 : decode cX5_window 24 = .ok (.iload 5, 2) := by decide +kernel
theorem dX5_window_26 : decode cX5_window 26 = .ok (.iconst 1, 1) := by decide +kernel
theorem dX5_window_27 : decode cX5_window 27 = .ok (.if_icmp .lt 10, 3) := by decide +kernel
theorem dX5_window_30 : decode cX5_window 30 = .ok (.iload 5, 2) := by decide +kernel
theorem dX5_window_32 : decode cX5_window 32 = .ok (.bipush 9, 2) := by decide +kernel
theorem dX5_window_34 : decode cX5_window 34 = .ok (.if_icmp .le 13, 3) := by decide +kernel
theorem dX5_window_37 : decode cX5_window 37 = .ok (.new 33, 3) := by decide +kernel
theorem dX5_window_40 : decode cX5_window 40 = .ok (.dup, 1) := by decide +kernel
theorem dX5_window_41 : decode cX5_window 41 = .ok (.ldc 35, 2) := by decide +kernel
theorem dX5_window_43 : decode cX5_window 43 = .ok (.invokespecial 37, 3) := by decide +kernel
theorem dX5_window_46 : decode cX5_window 46 = .ok (.athrow, 1) := by decide +kernel
theorem dX5_window_47 : decode cX5_window 47 = .ok (.iload_n 1, 1) := by decide +kernel
theorem dX5_window_48 : decode cX5_window 48 = .ok (.ifCond .lt 24, 3) := by decide +kernel
theorem dX5_window_51 : decode cX5_window 51 = .ok (.iload_n 1, 1) := by decide +kernel
theorem dX5_window_52 : decode cX5_window 52 = .ok (.bipush 12, 2) := by decide +kernel
theorem dX5_window_54 : decode cX5_window 54 = .ok (.iload_n 3, 1) := by decide +kernel
theorem dX5_window_55 : decode cX5_window 55 = .ok (.isub, 1) := by decide +kernel
theorem dX5_window_56 : decode cX5_window 56 = .ok (.if_icmp .gt 16, 3) := by decide +kernel
theorem dX5_window_59 : decode cX5_window 59 = .ok (.iload_n 2, 1) := by decide +kernel
theorem dX5_window_60 : decode cX5_window 60 = .ok (.ifCond .lt 12, 3) := by decide +kernel
theorem dX5_window_63 : decode cX5_window 63 = .ok (.iload_n 2, 1) := by decide +kernel
theorem dX5_window_64 : decode cX5_window 64 = .ok (.bipush 8, 2) := by decide +kernel
theorem dX5_window_66 : decode cX5_window 66 = .ok (.iload 4, 2) := by decide +kernel
theorem dX5_window_68 : decode cX5_window 68 = .ok (.isub, 1) := by decide +kernel
theorem dX5_window_69 : decode cX5_window 69 = .ok (.if_icmp .le 13, 3) := by decide +kernel
theorem dX5_window_72 : decode cX5_window 72 = .ok (.new 40, 3) := by decide +kernel
theorem dX5_window_75 : decode cX5_window 75 = .ok (.dup, 1) := by decide +kernel
theorem dX5_window_76 : decode cX5_window 76 = .ok (.ldc 42, 2) := by decide +kernel
theorem dX5_window_78 : decode cX5_window 78 = .ok (.invokespecial 44, 3) := by decide +kernel
theorem dX5_window_81 : decode cX5_window 81 = .ok (.athrow, 1) := by decide +kernel
theorem dX5_window_82 : decode cX5_window 82 = .ok (.aload_n 0, 1) := by decide +kernel
theorem dX5_window_83 : decode cX5_window 83 = .ok (.getfield 12, 3) := by decide +kernel
theorem dX5_window_86 : decode cX5_window 86 = .ok (.getfield 45, 3) := by decide +kernel
theorem dX5_window_89 : decode cX5_window 89 = .ok (.bipush 6, 2) := by decide +kernel
theorem dX5_window_91 : decode cX5_window 91 = .ok (.if_icmp .lt 13, 3) := by decide +kernel
theorem dX5_window_94 : decode cX5_window 94 = .ok (.new 49, 3) := by decide +kernel
theorem dX5_window_97 : decode cX5_window 97 = .ok (.dup, 1) := by decide +kernel
theorem dX5_window_98 : decode cX5_window 98 = .ok (.ldc 51, 2) := by decide +kernel
theorem dX5_window_100 : decode cX5_window 100 = .ok (.invokespecial 53, 3) := by decide +kernel
theorem dX5_window_103 : decode cX5_window 103 = .ok (.athrow, 1) := by decide +kernel
theorem dX5_window_104 : decode cX5_window 104 = .ok (.aload_n 0, 1) := by decide +kernel
theorem dX5_window_105 : decode cX5_window 105 = .ok (.getfield 12, 3) := by decide +kernel
theorem dX5_window_108 : decode cX5_window 108 = .ok (.iload_n 1, 1) := by decide +kernel
theorem dX5_window_109 : decode cX5_window 109 = .ok (.iload_n 2, 1) := by decide +kernel
theorem dX5_window_110 : decode cX5_window 110 = .ok (.iload_n 3, 1) := by decide +kernel
theorem dX5_window_111 : decode cX5_window 111 = .ok (.iload 4, 2) := by decide +kernel
theorem dX5_window_113 : decode cX5_window 113 = .ok (.iload 5, 2) := by decide +kernel
theorem dX5_window_115 : decode cX5_window 115 = .ok (.invokevirtual 54, 3) := by decide +kernel
theorem dX5_window_118 : decode cX5_window 118 = .ok (.ireturn, 1) := by decide +kernel
set_option maxRecDepth 20000 in
theorem ggX5_rope_X5_isColumn : GoodIn wsX5_rope wsX5_isColumn := goodIn_r _ [11] (by decide +kernel) (by decide +kernel)
set_option maxRecDepth 20000 in
theorem gX5_rope_X5_isColumn : GoodIn wsX5_rope (va_wsS RX5 58 yX5_isColumn wsX5_isColumn) := goodIn_app (goodIn_of _ (by decide +kernel)) ggX5_rope_X5_isColumn
set_option maxRecDepth 20000 in
theorem ggX5_rope_X3_hangAt : GoodIn wsX5_rope wsX3_hangAt := goodIn_r _ [16, 17, 18, 35, 36, 37, 38, 39, 40, 41] (by decide +kernel) (by decide +kernel)
set_option maxRecDepth 20000 in
theorem gX5_rope_X3_hangAt : GoodIn wsX5_rope (wsV RX5 73 RX3 yX3_hangAt wsX3_hangAt) := goodIn_app (goodIn_of _ (by decide +kernel)) ggX5_rope_X3_hangAt
set_option maxRecDepth 20000 in
theorem ggX5_rope_X3_put : GoodIn wsX5_rope wsX3_put := goodIn_r _ [22, 18, 17, 23, 24, 35, 36, 37, 38, 39, 40, 41] (by decide +kernel) (by decide +kernel)
set_option maxRecDepth 20000 in
theorem gX5_rope_X3_put : GoodIn wsX5_rope (wsV RX5 78 RX3 yX3_put wsX3_put) := goodIn_app (goodIn_of _ (by decide +kernel)) ggX5_rope_X3_put
theorem dX5_rope_0 : decode cX5_rope 0 = .ok (.iload_n 1, 1) := by decide +kernel
theorem dX5_rope_1 : decode cX5_rope 1 = .ok (.invokestatic 58, 3) := by decide +kernel
theorem dX5_rope_4 : decode cX5_rope 4 = .ok (.ifCond .ne 13, 3) := by decide +kernel
theorem dX5_rope_7 : decode cX5_rope 7 = .ok (.new 40, 3) := by decide +kernel
theorem dX5_rope_10 : decode cX5_rope 10 = .ok (.dup, 1) := by decide +kernel
theorem dX5_rope_11 : decode cX5_rope 11 = .ok (.ldc 62, 2) := by decide +kernel
theorem dX5_rope_13 : decode cX5_rope 13 = .ok (.invokespecial 44, 3) := by decide +kernel
theorem dX5_rope_16 : decode cX5_rope 16 = .ok (.athrow, 1) := by decide +kernel
theorem dX5_rope_17 : decode cX5_rope 17 = .ok (.iload_n 2, 1) := by decide +kernel
theorem dX5_rope_18 : decode cX5_rope 18 = .ok (.iconst 1, 1) := by decide +kernel
theorem dX5_rope_19 : decode cX5_rope 19 = .ok (.if_icmp .lt 9, 3) := by decide +kernel
theorem dX5_rope_22 : decode cX5_rope 22 = .ok (.iload_n 2, 1) := by decide +kernel
theorem dX5_rope_23 : decode cX5_rope 23 = .ok (.bipush 30, 2) := by decide +kernel
theorem dX5_rope_25 : decode cX5_rope 25 = .ok (.if_icmp .le 13, 3) := by decide +kernel
theorem dX5_rope_28 : decode cX5_rope 28 = .ok (.new 33, 3) := by decide +kernel
theorem dX5_rope_31 : decode cX5_rope 31 = .ok (.dup, 1) := by decide +kernel
theorem dX5_rope_32 : decode cX5_rope 32 = .ok (.ldc 64, 2) := by decide +kernel
theorem dX5_rope_34 : decode cX5_rope 34 = .ok (.invokespecial 37, 3) := by decide +kernel
theorem dX5_rope_37 : decode cX5_rope 37 = .ok (.athrow, 1) := by decide +kernel
theorem dX5_rope_38 : decode cX5_rope 38 = .ok (.aload_n 0, 1) := by decide +kernel
theorem dX5_rope_39 : decode cX5_rope 39 = .ok (.getfield 26, 3) := by decide +kernel
theorem dX5_rope_42 : decode cX5_rope 42 = .ok (.getfield 66, 3) := by decide +kernel
theorem dX5_rope_45 : decode cX5_rope 45 = .ok (.getfield 70, 3) := by decide +kernel
theorem dX5_rope_48 : decode cX5_rope 48 = .ok (.bipush 6, 2) := by decide +kernel
theorem dX5_rope_50 : decode cX5_rope 50 = .ok (.if_icmp .ge 17, 3) := by decide +kernel
theorem dX5_rope_53 : decode cX5_rope 53 = .ok (.aload_n 0, 1) := by decide +kernel
theorem dX5_rope_54 : decode cX5_rope 54 = .ok (.getfield 26, 3) := by decide +kernel
theorem dX5_rope_57 : decode cX5_rope 57 = .ok (.getfield 66, 3) := by decide +kernel
theorem dX5_rope_60 : decode cX5_rope 60 = .ok (.iload_n 1, 1) := by decide +kernel
theorem dX5_rope_61 : decode cX5_rope 61 = .ok (.invokevirtual 73, 3) := by decide +kernel
theorem dX5_rope_64 : decode cX5_rope 64 = .ok (.ifCond .eq 13, 3) := by decide +kernel
theorem dX5_rope_67 : decode cX5_rope 67 = .ok (.new 49, 3) := by decide +kernel
theorem dX5_rope_70 : decode cX5_rope 70 = .ok (.dup, 1) := by decide +kernel
theorem dX5_rope_71 : decode cX5_rope 71 = .ok (.ldc 76, 2) := by decide +kernel
theorem dX5_rope_73 : decode cX5_rope 73 = .ok (.invokespecial 53, 3) := by decide +kernel
theorem dX5_rope_76 : decode cX5_rope 76 = .ok (.athrow, 1) := by decide +kernel
theorem dX5_rope_77 : decode cX5_rope 77 = .ok (.aload_n 0, 1) := by decide +kernel
theorem dX5_rope_78 : decode cX5_rope 78 = .ok (.getfield 26, 3) := by decide +kernel
theorem dX5_rope_81 : decode cX5_rope 81 = .ok (.getfield 66, 3) := by decide +kernel
theorem dX5_rope_84 : decode cX5_rope 84 = .ok (.iload_n 1, 1) := by decide +kernel
theorem dX5_rope_85 : decode cX5_rope 85 = .ok (.iload_n 2, 1) := by decide +kernel
theorem dX5_rope_86 : decode cX5_rope 86 = .ok (.iload_n 3, 1) := by decide +kernel
theorem dX5_rope_87 : decode cX5_rope 87 = .ok (.invokevirtual 78, 3) := by decide +kernel
theorem dX5_rope_90 : decode cX5_rope 90 = .ok (.ireturn, 1) := by decide +kernel
set_option maxRecDepth 20000 in
theorem ggX5_feast_X1_put : GoodIn wsX5_feast wsX1_put := goodIn_r _ [10, 11, 12, 13, 18, 19, 20] (by decide +kernel) (by decide +kernel)
set_option maxRecDepth 20000 in
theorem gX5_feast_X1_put : GoodIn wsX5_feast (wsV RX5 86 RX1 yX1_put wsX1_put) := goodIn_app (goodIn_of _ (by decide +kernel)) ggX5_feast_X1_put
theorem dX5_feast_0 : decode cX5_feast 0 = .ok (.iload_n 1, 1) := by decide +kernel
theorem dX5_feast_1 : decode cX5_feast 1 = .ok (.iconst 2, 1) := by decide +kernel
theorem dX5_feast_2 : decode cX5_feast 2 = .ok (.if_icmp .lt 18, 3) := by decide +kernel
theorem dX5_feast_5 : decode cX5_feast 5 = .ok (.iload_n 1, 1) := by decide +kernel
theorem dX5_feast_6 : decode cX5_feast 6 = .ok (.bipush 30, 2) := by decide +kernel
theorem dX5_feast_8 : decode cX5_feast 8 = .ok (.if_icmp .gt 12, 3) := by decide +kernel
theorem dX5_feast_11 : decode cX5_feast 11 = .ok (.iload_n 2, 1) := by decide +kernel
theorem dX5_feast_12 : decode cX5_feast 12 = .ok (.ifCond .lt 8, 3) := by decide +kernel
theorem dX5_feast_15 : decode cX5_feast 15 = .ok (.iload_n 2, 1) := by decide +kernel
theorem dX5_feast_16 : decode cX5_feast 16 = .ok (.iload_n 1, 1) := by decide +kernel
theorem dX5_feast_17 : decode cX5_feast 17 = .ok (.if_icmp .lt 13, 3) := by decide +kernel
theorem dX5_feast_20 : decode cX5_feast 20 = .ok (.new 33, 3) := by decide +kernel
theorem dX5_feast_23 : decode cX5_feast 23 = .ok (.dup, 1) := by decide +kernel
theorem dX5_feast_24 : decode cX5_feast 24 = .ok (.ldc 81, 2) := by decide +kernel
theorem dX5_feast_26 : decode cX5_feast 26 = .ok (.invokespecial 37, 3) := by decide +kernel
theorem dX5_feast_29 : decode cX5_feast 29 = .ok (.athrow, 1) := by decide +kernel
theorem dX5_feast_30 : decode cX5_feast 30 = .ok (.aload_n 0, 1) := by decide +kernel
theorem dX5_feast_31 : decode cX5_feast 31 = .ok (.getfield 19, 3) := by decide +kernel
theorem dX5_feast_34 : decode cX5_feast 34 = .ok (.getfield 83, 3) := by decide +kernel
theorem dX5_feast_37 : decode cX5_feast 37 = .ok (.iconst 4, 1) := by decide +kernel
theorem dX5_feast_38 : decode cX5_feast 38 = .ok (.if_icmp .lt 13, 3) := by decide +kernel
theorem dX5_feast_41 : decode cX5_feast 41 = .ok (.new 49, 3) := by decide +kernel
theorem dX5_feast_44 : decode cX5_feast 44 = .ok (.dup, 1) := by decide +kernel
theorem dX5_feast_45 : decode cX5_feast 45 = .ok (.ldc 84, 2) := by decide +kernel
theorem dX5_feast_47 : decode cX5_feast 47 = .ok (.invokespecial 53, 3) := by decide +kernel
theorem dX5_feast_50 : decode cX5_feast 50 = .ok (.athrow, 1) := by decide +kernel
theorem dX5_feast_51 : decode cX5_feast 51 = .ok (.aload_n 0, 1) := by decide +kernel
theorem dX5_feast_52 : decode cX5_feast 52 = .ok (.getfield 19, 3) := by decide +kernel
theorem dX5_feast_55 : decode cX5_feast 55 = .ok (.iload_n 1, 1) := by decide +kernel
theorem dX5_feast_56 : decode cX5_feast 56 = .ok (.iload_n 2, 1) := by decide +kernel
theorem dX5_feast_57 : decode cX5_feast 57 = .ok (.invokevirtual 86, 3) := by decide +kernel
theorem dX5_feast_60 : decode cX5_feast 60 = .ok (.ireturn, 1) := by decide +kernel
theorem dX5_setWind_0 : decode cX5_setWind 0 = .ok (.iload_n 1, 1) := by decide +kernel
theorem dX5_setWind_1 : decode cX5_setWind 1 = .ok (.bipush (-5), 2) := by decide +kernel
theorem dX5_setWind_3 : decode cX5_setWind 3 = .ok (.if_icmp .lt 8, 3) := by decide +kernel
theorem dX5_setWind_6 : decode cX5_setWind 6 = .ok (.iload_n 1, 1) := by decide +kernel
theorem dX5_setWind_7 : decode cX5_setWind 7 = .ok (.iconst 5, 1) := by decide +kernel
theorem dX5_setWind_8 : decode cX5_setWind 8 = .ok (.if_icmp .le 13, 3) := by decide +kernel
theorem dX5_setWind_11 : decode cX5_setWind 11 = .ok (.new 33, 3) := by decide +kernel
theorem dX5_setWind_14 : decode cX5_setWind 14 = .ok (.dup, 1) := by decide +kernel
theorem dX5_setWind_15 : decode cX5_setWind 15 = .ok (.ldc 89, 2) := by decide +kernel
theorem dX5_setWind_17 : decode cX5_setWind 17 = .ok (.invokespecial 37, 3) := by decide +kernel
theorem dX5_setWind_20 : decode cX5_setWind 20 = .ok (.athrow, 1) := by decide +kernel
theorem dX5_setWind_21 : decode cX5_setWind 21 = .ok (.aload_n 0, 1) := by decide +kernel
theorem dX5_setWind_22 : decode cX5_setWind 22 = .ok (.getfield 26, 3) := by decide +kernel
theorem dX5_setWind_25 : decode cX5_setWind 25 = .ok (.getfield 91, 3) := by decide +kernel
theorem dX5_setWind_28 : decode cX5_setWind 28 = .ok (.istore_n 2, 1) := by decide +kernel
theorem dX5_setWind_29 : decode cX5_setWind 29 = .ok (.aload_n 0, 1) := by decide +kernel
theorem dX5_setWind_30 : decode cX5_setWind 30 = .ok (.getfield 26, 3) := by decide +kernel
theorem dX5_setWind_33 : decode cX5_setWind 33 = .ok (.iload_n 1, 1) := by decide +kernel
theorem dX5_setWind_34 : decode cX5_setWind 34 = .ok (.putfield 91, 3) := by decide +kernel
theorem dX5_setWind_37 : decode cX5_setWind 37 = .ok (.iload_n 2, 1) := by decide +kernel
theorem dX5_setWind_38 : decode cX5_setWind 38 = .ok (.ireturn, 1) := by decide +kernel
set_option maxRecDepth 20000 in
theorem ggX5_move_X5_isRope : GoodIn wsX5_move wsX5_isRope := goodIn_r _ [10, 5, 27, 28, 29, 30, 31, 32, 33, 34, 35, 36, 37, 38, 39, 40, 41, 42, 43] (by decide +kernel) (by decide +kernel)
set_option maxRecDepth 20000 in
theorem gX5_move_X5_isRope : GoodIn wsX5_move (wsV RX5 94 RX5 yX5_isRope wsX5_isRope) := goodIn_app (goodIn_of _ (by decide +kernel)) ggX5_move_X5_isRope
set_option maxRecDepth 20000 in
theorem ggX5_move_X5_isColumn : GoodIn wsX5_move wsX5_isColumn := goodIn_r _ [13] (by decide +kernel) (by decide +kernel)
set_option maxRecDepth 20000 in
theorem gX5_move_X5_isColumn : GoodIn wsX5_move (va_wsS RX5 58 yX5_isColumn wsX5_isColumn) := goodIn_app (goodIn_of _ (by decide +kernel)) ggX5_move_X5_isColumn
set_option maxRecDepth 20000 in
theorem ggX5_move_X3_hangAt : GoodIn wsX5_move wsX3_hangAt := goodIn_r _ [18, 19, 20, 37, 38, 39, 40, 41, 42, 43] (by decide +kernel) (by decide +kernel)
set_option maxRecDepth 20000 in
theorem gX5_move_X3_hangAt : GoodIn wsX5_move (wsV RX5 73 RX3 yX3_hangAt wsX3_hangAt) := goodIn_app (goodIn_of _ (by decide +kernel)) ggX5_move_X3_hangAt
set_option maxRecDepth 20000 in
theorem ggX5_move_X3_rehang : GoodIn wsX5_move wsX3_rehang := goodIn_r _ [24, 20, 25, 26, 37, 38, 39, 40, 41, 42, 43] (by decide +kernel) (by decide +kernel)
set_option maxRecDepth 20000 in
theorem gX5_move_X3_rehang : GoodIn wsX5_move (wsV RX5 105 RX3 yX3_rehang wsX3_rehang) := goodIn_app (goodIn_of _ (by decide +kernel)) ggX5_move_X3_rehang
theorem dX5_move_0 : decode cX5_move 0 = .ok (.aload_n 0, 1) := by decide +kernel
theorem dX5_move_1 : decode cX5_move 1 = .ok (.iload_n 1, 1) := by decide +kernel
theorem dX5_move_2 : decode cX5_move 2 = .ok (.invokevirtual 94, 3) := by decide +kernel
theorem dX5_move_5 : decode cX5_move 5 = .ok (.ifCond .eq 10, 3) := by decide +kernel
theorem dX5_move_8 : decode cX5_move 8 = .ok (.iload_n 2, 1) := by decide +kernel
theorem dX5_move_9 : decode cX5_move 9 = .ok (.invokestatic 58, 3) := by decide +kernel
theorem dX5_move_12 : decode cX5_move 12 = .ok (.ifCond .ne 13, 3) := by decide +kernel
theorem dX5_move_15 : decode cX5_move 15 = .ok (.new 40, 3) := by decide +kernel
theorem dX5_move_18 : decode cX5_move 18 = .ok (.dup, 1) := by decide +kernel
theorem dX5_move_19 : decode cX5_move 19 = .ok (.ldc 97, 2) := by decide +kernel
theorem dX5_move_21 : decode cX5_move 21 = .ok (.invokespecial 44, 3) := by decide +kernel
theorem dX5_move_24 : decode cX5_move 24 = .ok (.athrow, 1) := by decide +kernel
theorem dX5_move_25 : decode cX5_move 25 = .ok (.aload_n 0, 1) := by decide +kernel
theorem dX5_move_26 : decode cX5_move 26 = .ok (.getfield 26, 3) := by decide +kernel
theorem dX5_move_29 : decode cX5_move 29 = .ok (.getfield 66, 3) := by decide +kernel
theorem dX5_move_32 : decode cX5_move 32 = .ok (.iload_n 2, 1) := by decide +kernel
theorem dX5_move_33 : decode cX5_move 33 = .ok (.invokevirtual 73, 3) := by decide +kernel
theorem dX5_move_36 : decode cX5_move 36 = .ok (.ifCond .eq 13, 3) := by decide +kernel
theorem dX5_move_39 : decode cX5_move 39 = .ok (.new 49, 3) := by decide +kernel
theorem dX5_move_42 : decode cX5_move 42 = .ok (.dup, 1) := by decide +kernel
theorem dX5_move_43 : decode cX5_move 43 = .ok (.ldc 99, 2) := by decide +kernel
theorem dX5_move_45 : decode cX5_move 45 = .ok (.invokespecial 53, 3) := by decide +kernel
theorem dX5_move_48 : decode cX5_move 48 = .ok (.athrow, 1) := by decide +kernel
theorem dX5_move_49 : decode cX5_move 49 = .ok (.aload_n 0, 1) := by decide +kernel
theorem dX5_move_50 : decode cX5_move 50 = .ok (.getfield 26, 3) := by decide +kernel
theorem dX5_move_53 : decode cX5_move 53 = .ok (.getfield 66, 3) := by decide +kernel
theorem dX5_move_56 : decode cX5_move 56 = .ok (.getfield 101, 3) := by decide +kernel
theorem dX5_move_59 : decode cX5_move 59 = .ok (.iload_n 1, 1) := by decide +kernel
theorem dX5_move_60 : decode cX5_move 60 = .ok (.iaload, 1) := by decide +kernel
theorem dX5_move_61 : decode cX5_move 61 = .ok (.istore_n 3, 1) := by decide +kernel
theorem dX5_move_62 : decode cX5_move 62 = .ok (.aload_n 0, 1) := by decide +kernel
theorem dX5_move_63 : decode cX5_move 63 = .ok (.getfield 26, 3) := by decide +kernel
theorem dX5_move_66 : decode cX5_move 66 = .ok (.getfield 66, 3) := by decide +kernel
theorem dX5_move_69 : decode cX5_move 69 = .ok (.iload_n 1, 1) := by decide +kernel
theorem dX5_move_70 : decode cX5_move 70 = .ok (.iload_n 2, 1) := by decide +kernel
theorem dX5_move_71 : decode cX5_move 71 = .ok (.invokevirtual 105, 3) := by decide +kernel
theorem dX5_move_74 : decode cX5_move 74 = .ok (.iload_n 3, 1) := by decide +kernel
theorem dX5_move_75 : decode cX5_move 75 = .ok (.ireturn, 1) := by decide +kernel
set_option maxRecDepth 20000 in
theorem ggX5_turn_X5_isRope : GoodIn wsX5_turn wsX5_isRope := goodIn_r _ [8, 3, 9, 10, 11, 12, 13, 14, 15, 16, 17, 18, 19, 20, 21, 22, 23, 24, 25] (by decide +kernel) (by decide +kernel)
set_option maxRecDepth 20000 in
theorem gX5_turn_X5_isRope : GoodIn wsX5_turn (wsV RX5 94 RX5 yX5_isRope wsX5_isRope) := goodIn_app (goodIn_of _ (by decide +kernel)) ggX5_turn_X5_isRope
theorem dX5_turn_0 : decode cX5_turn 0 = .ok (.aload_n 0, 1) := by decide +kernel
theorem dX5_turn_1 : decode cX5_turn 1 = .ok (.iload_n 1, 1) := by decide +kernel
theorem dX5_turn_2 : decode cX5_turn 2 = .ok (.invokevirtual 94, 3) := by decide +kernel
theorem dX5_turn_5 : decode cX5_turn 5 = .ok (.ifCond .ne 13, 3) := by decide +kernel
theorem dX5_turn_8 : decode cX5_turn 8 = .ok (.new 40, 3) := by decide +kernel
theorem dX5_turn_11 : decode cX5_turn 11 = .ok (.dup, 1) := by decide +kernel
theorem dX5_turn_12 : decode cX5_turn 12 = .ok (.ldc 109, 2) := by decide +kernel
theorem dX5_turn_14 : decode cX5_turn 14 = .ok (.invokespecial 44, 3) := by decide +kernel
theorem dX5_turn_17 : decode cX5_turn 17 = .ok (.athrow, 1) := by decide +kernel
theorem dX5_turn_18 : decode cX5_turn 18 = .ok (.aload_n 0, 1) := by decide +kernel
theorem dX5_turn_19 : decode cX5_turn 19 = .ok (.getfield 26, 3) := by decide +kernel
theorem dX5_turn_22 : decode cX5_turn 22 = .ok (.getfield 66, 3) := by decide +kernel
theorem dX5_turn_25 : decode cX5_turn 25 = .ok (.getfield 111, 3) := by decide +kernel
theorem dX5_turn_28 : decode cX5_turn 28 = .ok (.iload_n 1, 1) := by decide +kernel
theorem dX5_turn_29 : decode cX5_turn 29 = .ok (.aload_n 0, 1) := by decide +kernel
theorem dX5_turn_30 : decode cX5_turn 30 = .ok (.getfield 26, 3) := by decide +kernel
theorem dX5_turn_33 : decode cX5_turn 33 = .ok (.getfield 66, 3) := by decide +kernel
theorem dX5_turn_36 : decode cX5_turn 36 = .ok (.getfield 111, 3) := by decide +kernel
theorem dX5_turn_39 : decode cX5_turn 39 = .ok (.iload_n 1, 1) := by decide +kernel
theorem dX5_turn_40 : decode cX5_turn 40 = .ok (.baload, 1) := by decide +kernel
theorem dX5_turn_41 : decode cX5_turn 41 = .ok (.ifCond .ne 7, 3) := by decide +kernel
theorem dX5_turn_44 : decode cX5_turn 44 = .ok (.iconst 1, 1) := by decide +kernel
theorem dX5_turn_45 : decode cX5_turn 45 = .ok (.goto 4, 3) := by decide +kernel
theorem dX5_turn_48 : decode cX5_turn 48 = .ok (.iconst 0, 1) := by decide +kernel
theorem dX5_turn_49 : decode cX5_turn 49 = .ok (.bastore, 1) := by decide +kernel
theorem dX5_turn_50 : decode cX5_turn 50 = .ok (.aload_n 0, 1) := by decide +kernel
theorem dX5_turn_51 : decode cX5_turn 51 = .ok (.getfield 26, 3) := by decide +kernel
theorem dX5_turn_54 : decode cX5_turn 54 = .ok (.getfield 66, 3) := by decide +kernel
theorem dX5_turn_57 : decode cX5_turn 57 = .ok (.getfield 111, 3) := by decide +kernel
theorem dX5_turn_60 : decode cX5_turn 60 = .ok (.iload_n 1, 1) := by decide +kernel
theorem dX5_turn_61 : decode cX5_turn 61 = .ok (.baload, 1) := by decide +kernel
theorem dX5_turn_62 : decode cX5_turn 62 = .ok (.ireturn, 1) := by decide +kernel
set_option maxRecDepth 20000 in
theorem ggX5_wipe_X5_isWindow : GoodIn wsX5_wipe wsX5_isWindow := goodIn_r _ [9, 3, 29, 30, 31, 32, 39, 40, 41, 42, 43, 44] (by decide +kernel) (by decide +kernel)
set_option maxRecDepth 20000 in
theorem gX5_wipe_X5_isWindow : GoodIn wsX5_wipe (wsV RX5 115 RX5 yX5_isWindow wsX5_isWindow) := goodIn_app (goodIn_of _ (by decide +kernel)) ggX5_wipe_X5_isWindow
set_option maxRecDepth 20000 in
theorem ggX5_wipe_X4_wipeOff : GoodIn wsX5_wipe wsX4_wipeOff := goodIn_r _ [14, 15, 16, 17, 18, 19, 20, 21, 22, 23, 24, 25, 26, 27, 28, 39, 40, 41, 42, 43, 44, 45] (by decide +kernel) (by decide +kernel)
set_option maxRecDepth 20000 in
theorem gX5_wipe_X4_wipeOff : GoodIn wsX5_wipe (wsV RX5 124 RX4 yX4_wipeOff wsX4_wipeOff) := goodIn_app (goodIn_of _ (by decide +kernel)) ggX5_wipe_X4_wipeOff
theorem dX5_wipe_0 : decode cX5_wipe 0 = .ok (.aload_n 0, 1) := by decide +kernel
theorem dX5_wipe_1 : decode cX5_wipe 1 = .ok (.iload_n 1, 1) := by decide +kernel
theorem dX5_wipe_2 : decode cX5_wipe 2 = .ok (.invokevirtual 115, 3) := by decide +kernel
theorem dX5_wipe_5 : decode cX5_wipe 5 = .ok (.ifCond .ne 13, 3) := by decide +kernel
theorem dX5_wipe_8 : decode cX5_wipe 8 = .ok (.new 40, 3) := by decide +kernel
theorem dX5_wipe_11 : decode cX5_wipe 11 = .ok (.dup, 1) := by decide +kernel
theorem dX5_wipe_12 : decode cX5_wipe 12 = .ok (.ldc 118, 2) := by decide +kernel
theorem dX5_wipe_14 : decode cX5_wipe 14 = .ok (.invokespecial 44, 3) := by decide +kernel
theorem dX5_wipe_17 : decode cX5_wipe 17 = .ok (.athrow, 1) := by decide +kernel
theorem dX5_wipe_18 : decode cX5_wipe 18 = .ok (.aload_n 0, 1) := by decide +kernel
theorem dX5_wipe_19 : decode cX5_wipe 19 = .ok (.getfield 12, 3) := by decide +kernel
theorem dX5_wipe_22 : decode cX5_wipe 22 = .ok (.iload_n 1, 1) := by decide +kernel
theorem dX5_wipe_23 : decode cX5_wipe 23 = .ok (.aload_n 0, 1) := by decide +kernel
theorem dX5_wipe_24 : decode cX5_wipe 24 = .ok (.getfield 26, 3) := by decide +kernel
theorem dX5_wipe_27 : decode cX5_wipe 27 = .ok (.getfield 120, 3) := by decide +kernel
theorem dX5_wipe_30 : decode cX5_wipe 30 = .ok (.invokevirtual 124, 3) := by decide +kernel
theorem dX5_wipe_33 : decode cX5_wipe 33 = .ok (.ireturn, 1) := by decide +kernel
set_option maxRecDepth 20000 in
theorem ggX5_pass_X0_goOn : GoodIn wsX5_pass wsX0_goOn := goodIn_r _ [10, 11, 12, 13, 9, 14, 15, 16, 17, 18, 19, 20, 21, 22, 23, 24, 25, 26, 27, 28, 29, 30, 31, 32, 33, 34, 35, 36, 37, 38, 39, 40, 41, 42, 43, 44, 45, 46, 47, 48, 49, 50, 51, 52, 53, 54, 55, 56, 57, 58, 59, 60, 61, 62, 63, 64, 65, 66, 67, 68, 69, 70, 71, 72, 73, 74, 75, 76, 77, 78, 79, 80, 81, 82, 83, 84, 85, 86, 87, 88, 89, 90, 91, 92, 93, 94, 95, 96, 97, 98, 99, 100, 101, 102, 103, 104, 109, 110, 111, 112, 113, 114, 115, 116, 117, 118, 119, 120, 121, 122, 123, 124, 125, 126, 127, 128, 129, 130, 131] (by decide +kernel) (by decide +kernel)
set_option maxRecDepth 20000 in
theorem gX5_pass_X0_goOn : GoodIn wsX5_pass (wsV RX5 133 RX0 yX0_goOn wsX0_goOn) := goodIn_app (goodIn_of _ (by decide +kernel)) ggX5_pass_X0_goOn
theorem dX5_pass_0 : decode cX5_pass 0 = .ok (.iload_n 1, 1) := by decide +kernel
theorem dX5_pass_1 : decode cX5_pass 1 = .ok (.iconst 1, 1) := by decide +kernel
theorem dX5_pass_2 : decode cX5_pass 2 = .ok (.if_icmp .lt 9, 3) := by decide +kernel
theorem dX5_pass_5 : decode cX5_pass 5 = .ok (.iload_n 1, 1) := by decide +kernel
theorem dX5_pass_6 : decode cX5_pass 6 = .ok (.bipush 40, 2) := by decide +kernel
theorem dX5_pass_8 : decode cX5_pass 8 = .ok (.if_icmp .le 13, 3) := by decide +kernel
theorem dX5_pass_11 : decode cX5_pass 11 = .ok (.new 33, 3) := by decide +kernel
theorem dX5_pass_14 : decode cX5_pass 14 = .ok (.dup, 1) := by decide +kernel
theorem dX5_pass_15 : decode cX5_pass 15 = .ok (.ldc 128, 2) := by decide +kernel
theorem dX5_pass_17 : decode cX5_pass 17 = .ok (.invokespecial 37, 3) := by decide +kernel
theorem dX5_pass_20 : decode cX5_pass 20 = .ok (.athrow, 1) := by decide +kernel
theorem dX5_pass_21 : decode cX5_pass 21 = .ok (.aload_n 0, 1) := by decide +kernel
theorem dX5_pass_22 : decode cX5_pass 22 = .ok (.getfield 26, 3) := by decide +kernel
theorem dX5_pass_25 : decode cX5_pass 25 = .ok (.getfield 130, 3) := by decide +kernel
theorem dX5_pass_28 : decode cX5_pass 28 = .ok (.istore_n 2, 1) := by decide +kernel
theorem dX5_pass_29 : decode cX5_pass 29 = .ok (.aload_n 0, 1) := by decide +kernel
theorem dX5_pass_30 : decode cX5_pass 30 = .ok (.getfield 26, 3) := by decide +kernel
theorem dX5_pass_33 : decode cX5_pass 33 = .ok (.iload_n 1, 1) := by decide +kernel
theorem dX5_pass_34 : decode cX5_pass 34 = .ok (.aload_n 0, 1) := by decide +kernel
theorem dX5_pass_35 : decode cX5_pass 35 = .ok (.getfield 12, 3) := by decide +kernel
theorem dX5_pass_38 : decode cX5_pass 38 = .ok (.aload_n 0, 1) := by decide +kernel
theorem dX5_pass_39 : decode cX5_pass 39 = .ok (.getfield 19, 3) := by decide +kernel
theorem dX5_pass_42 : decode cX5_pass 42 = .ok (.invokevirtual 133, 3) := by decide +kernel
theorem dX5_pass_45 : decode cX5_pass 45 = .ok (.aload_n 0, 1) := by decide +kernel
theorem dX5_pass_46 : decode cX5_pass 46 = .ok (.getfield 26, 3) := by decide +kernel
theorem dX5_pass_49 : decode cX5_pass 49 = .ok (.getfield 130, 3) := by decide +kernel
theorem dX5_pass_52 : decode cX5_pass 52 = .ok (.iload_n 2, 1) := by decide +kernel
theorem dX5_pass_53 : decode cX5_pass 53 = .ok (.isub, 1) := by decide +kernel
theorem dX5_pass_54 : decode cX5_pass 54 = .ok (.ireturn, 1) := by decide +kernel
set_option maxRecDepth 20000 in
theorem ggX5_soot_X5_isColumn : GoodIn wsX5_soot wsX5_isColumn := goodIn_r _ [7] (by decide +kernel) (by decide +kernel)
set_option maxRecDepth 20000 in
theorem gX5_soot_X5_isColumn : GoodIn wsX5_soot (va_wsS RX5 58 yX5_isColumn wsX5_isColumn) := goodIn_app (goodIn_of _ (by decide +kernel)) ggX5_soot_X5_isColumn
set_option maxRecDepth 20000 in
theorem ggX5_soot_X2_at : GoodIn wsX5_soot wsX2_at := goodIn_r _ [12, 13, 24] (by decide +kernel) (by decide +kernel)
set_option maxRecDepth 20000 in
theorem gX5_soot_X2_at : GoodIn wsX5_soot (wsV RX5 139 RX2 yX2_at wsX2_at) := goodIn_app (goodIn_of _ (by decide +kernel)) ggX5_soot_X2_at
theorem dX5_soot_0 : decode cX5_soot 0 = .ok (.iload_n 1, 1) := by decide +kernel
theorem dX5_soot_1 : decode cX5_soot 1 = .ok (.invokestatic 58, 3) := by decide +kernel
theorem dX5_soot_4 : decode cX5_soot 4 = .ok (.ifCond .eq 13, 3) := by decide +kernel
theorem dX5_soot_7 : decode cX5_soot 7 = .ok (.iload_n 2, 1) := by decide +kernel
theorem dX5_soot_8 : decode cX5_soot 8 = .ok (.ifCond .lt 9, 3) := by decide +kernel
theorem dX5_soot_11 : decode cX5_soot 11 = .ok (.iload_n 2, 1) := by decide +kernel
theorem dX5_soot_12 : decode cX5_soot 12 = .ok (.bipush 8, 2) := by decide +kernel
theorem dX5_soot_14 : decode cX5_soot 14 = .ok (.if_icmp .lt 13, 3) := by decide +kernel
theorem dX5_soot_17 : decode cX5_soot 17 = .ok (.new 40, 3) := by decide +kernel
theorem dX5_soot_20 : decode cX5_soot 20 = .ok (.dup, 1) := by decide +kernel
theorem dX5_soot_21 : decode cX5_soot 21 = .ok (.ldc 137, 2) := by decide +kernel
theorem dX5_soot_23 : decode cX5_soot 23 = .ok (.invokespecial 44, 3) := by decide +kernel
theorem dX5_soot_26 : decode cX5_soot 26 = .ok (.athrow, 1) := by decide +kernel
theorem dX5_soot_27 : decode cX5_soot 27 = .ok (.aload_n 0, 1) := by decide +kernel
theorem dX5_soot_28 : decode cX5_soot 28 = .ok (.getfield 26, 3) := by decide +kernel
theorem dX5_soot_31 : decode cX5_soot 31 = .ok (.getfield 120, 3) := by decide +kernel
theorem dX5_soot_34 : decode cX5_soot 34 = .ok (.iload_n 1, 1) := by decide +kernel
theorem dX5_soot_35 : decode cX5_soot 35 = .ok (.iload_n 2, 1) := by decide +kernel
theorem dX5_soot_36 : decode cX5_soot 36 = .ok (.invokevirtual 139, 3) := by decide +kernel
theorem dX5_soot_39 : decode cX5_soot 39 = .ok (.ireturn, 1) := by decide +kernel
set_option maxRecDepth 20000 in
theorem ggX5_about_X5_isWindow : GoodIn wsX5_about wsX5_isWindow := goodIn_r _ [9, 3, 46, 47, 48, 49, 56, 57, 58, 59, 60, 61] (by decide +kernel) (by decide +kernel)
set_option maxRecDepth 20000 in
theorem gX5_about_X5_isWindow : GoodIn wsX5_about (wsV RX5 115 RX5 yX5_isWindow wsX5_isWindow) := goodIn_app (goodIn_of _ (by decide +kernel)) ggX5_about_X5_isWindow
set_option maxRecDepth 20000 in
theorem ggX5_about_X4_number : GoodIn wsX5_about wsX4_number := goodIn_r _ [14, 15, 16, 17, 18, 19, 20, 21, 22, 13, 23, 24, 25, 26, 27, 28, 29, 30, 31, 32, 33, 34, 35, 36, 37, 38, 39, 40, 41, 42, 43, 44, 45, 56, 57, 58, 59, 60, 61, 62] (by decide +kernel) (by decide +kernel)
set_option maxRecDepth 20000 in
theorem gX5_about_X4_number : GoodIn wsX5_about (wsV RX5 146 RX4 yX4_number wsX4_number) := goodIn_app (goodIn_of _ (by decide +kernel)) ggX5_about_X4_number
theorem dX5_about_0 : decode cX5_about 0 = .ok (.aload_n 0, 1) := by decide +kernel
theorem dX5_about_1 : decode cX5_about 1 = .ok (.iload_n 1, 1) := by decide +kernel
theorem dX5_about_2 : decode cX5_about 2 = .ok (.invokevirtual 115, 3) := by decide +kernel
theorem dX5_about_5 : decode cX5_about 5 = .ok (.ifCond .eq 13, 3) := by decide +kernel
theorem dX5_about_8 : decode cX5_about 8 = .ok (.iload_n 2, 1) := by decide +kernel
theorem dX5_about_9 : decode cX5_about 9 = .ok (.ifCond .lt 9, 3) := by decide +kernel
theorem dX5_about_12 : decode cX5_about 12 = .ok (.iload_n 2, 1) := by decide +kernel
theorem dX5_about_13 : decode cX5_about 13 = .ok (.bipush 8, 2) := by decide +kernel
theorem dX5_about_15 : decode cX5_about 15 = .ok (.if_icmp .lt 13, 3) := by decide +kernel
theorem dX5_about_18 : decode cX5_about 18 = .ok (.new 40, 3) := by decide +kernel
theorem dX5_about_21 : decode cX5_about 21 = .ok (.dup, 1) := by decide +kernel
theorem dX5_about_22 : decode cX5_about 22 = .ok (.ldc 144, 2) := by decide +kernel
theorem dX5_about_24 : decode cX5_about 24 = .ok (.invokespecial 44, 3) := by decide +kernel
theorem dX5_about_27 : decode cX5_about 27 = .ok (.athrow, 1) := by decide +kernel
theorem dX5_about_28 : decode cX5_about 28 = .ok (.aload_n 0, 1) := by decide +kernel
theorem dX5_about_29 : decode cX5_about 29 = .ok (.getfield 12, 3) := by decide +kernel
theorem dX5_about_32 : decode cX5_about 32 = .ok (.iload_n 1, 1) := by decide +kernel
theorem dX5_about_33 : decode cX5_about 33 = .ok (.iload_n 2, 1) := by decide +kernel
theorem dX5_about_34 : decode cX5_about 34 = .ok (.aload_n 0, 1) := by decide +kernel
theorem dX5_about_35 : decode cX5_about 35 = .ok (.getfield 26, 3) := by decide +kernel
theorem dX5_about_38 : decode cX5_about 38 = .ok (.getfield 120, 3) := by decide +kernel
theorem dX5_about_41 : decode cX5_about 41 = .ok (.invokevirtual 146, 3) := by decide +kernel
theorem dX5_about_44 : decode cX5_about 44 = .ok (.ireturn, 1) := by decide +kernel
set_option maxRecDepth 20000 in
theorem ggX5_told_X5_isRope : GoodIn wsX5_told wsX5_isRope := goodIn_r _ [8, 3, 20, 21, 22, 23, 24, 25, 26, 27, 28, 29, 30, 31, 32, 33, 34, 35, 36] (by decide +kernel) (by decide +kernel)
set_option maxRecDepth 20000 in
theorem gX5_told_X5_isRope : GoodIn wsX5_told (wsV RX5 94 RX5 yX5_isRope wsX5_isRope) := goodIn_app (goodIn_of _ (by decide +kernel)) ggX5_told_X5_isRope
set_option maxRecDepth 20000 in
theorem ggX5_told_X3_number : GoodIn wsX5_told wsX3_number := goodIn_r _ [13, 14, 15, 16, 17, 18, 19, 30, 31, 32, 33, 34, 35, 36] (by decide +kernel) (by decide +kernel)
set_option maxRecDepth 20000 in
theorem gX5_told_X3_number : GoodIn wsX5_told (wsV RX5 152 RX3 yX3_number wsX3_number) := goodIn_app (goodIn_of _ (by decide +kernel)) ggX5_told_X3_number
theorem dX5_told_0 : decode cX5_told 0 = .ok (.aload_n 0, 1) := by decide +kernel
theorem dX5_told_1 : decode cX5_told 1 = .ok (.iload_n 1, 1) := by decide +kernel
theorem dX5_told_2 : decode cX5_told 2 = .ok (.invokevirtual 94, 3) := by decide +kernel
theorem dX5_told_5 : decode cX5_told 5 = .ok (.ifCond .eq 13, 3) := by decide +kernel
theorem dX5_told_8 : decode cX5_told 8 = .ok (.iload_n 2, 1) := by decide +kernel
theorem dX5_told_9 : decode cX5_told 9 = .ok (.ifCond .lt 9, 3) := by decide +kernel
theorem dX5_told_12 : decode cX5_told 12 = .ok (.iload_n 2, 1) := by decide +kernel
theorem dX5_told_13 : decode cX5_told 13 = .ok (.bipush 6, 2) := by decide +kernel
theorem dX5_told_15 : decode cX5_told 15 = .ok (.if_icmp .lt 13, 3) := by decide +kernel
theorem dX5_told_18 : decode cX5_told 18 = .ok (.new 40, 3) := by decide +kernel
theorem dX5_told_21 : decode cX5_told 21 = .ok (.dup, 1) := by decide +kernel
theorem dX5_told_22 : decode cX5_told 22 = .ok (.ldc 150, 2) := by decide +kernel
theorem dX5_told_24 : decode cX5_told 24 = .ok (.invokespecial 44, 3) := by decide +kernel
theorem dX5_told_27 : decode cX5_told 27 = .ok (.athrow, 1) := by decide +kernel
theorem dX5_told_28 : decode cX5_told 28 = .ok (.aload_n 0, 1) := by decide +kernel
theorem dX5_told_29 : decode cX5_told 29 = .ok (.getfield 26, 3) := by decide +kernel
theorem dX5_told_32 : decode cX5_told 32 = .ok (.getfield 66, 3) := by decide +kernel
theorem dX5_told_35 : decode cX5_told 35 = .ok (.iload_n 1, 1) := by decide +kernel
theorem dX5_told_36 : decode cX5_told 36 = .ok (.iload_n 2, 1) := by decide +kernel
theorem dX5_told_37 : decode cX5_told 37 = .ok (.invokevirtual 152, 3) := by decide +kernel
theorem dX5_told_40 : decode cX5_told 40 = .ok (.ireturn, 1) := by decide +kernel
set_option maxRecDepth 20000 in
theorem ggX5_count_X5_number : GoodIn wsX5_count wsX5_number := goodIn_r _ [7, 8, 9, 10, 11, 12, 13, 14, 15, 16, 17, 18, 19, 20, 21, 22, 23, 24, 25, 26, 27, 28, 29, 30, 31, 32, 33, 34, 35, 36, 37, 38, 39, 40, 41, 42, 43, 44, 45, 46, 47, 48, 49, 50, 51, 52, 53, 54, 55, 56, 57, 58, 59, 60, 61, 62, 63, 64, 65, 66, 67, 68, 69, 70, 71, 72, 73, 74, 75, 76, 77, 78, 79, 80, 81, 82, 83, 84, 85] (by decide +kernel) (by decide +kernel)
set_option maxRecDepth 20000 in
theorem gX5_count_X5_number : GoodIn wsX5_count (wsV RX5 156 RX5 yX5_number wsX5_number) := goodIn_app (goodIn_of _ (by decide +kernel)) ggX5_count_X5_number
theorem dX5_count_0 : decode cX5_count 0 = .ok (.iload_n 1, 1) := by decide +kernel
theorem dX5_count_1 : decode cX5_count 1 = .ok (.ifCond .lt 9, 3) := by decide +kernel
theorem dX5_count_4 : decode cX5_count 4 = .ok (.iload_n 1, 1) := by decide +kernel
theorem dX5_count_5 : decode cX5_count 5 = .ok (.bipush 11, 2) := by decide +kernel
theorem dX5_count_7 : decode cX5_count 7 = .ok (.if_icmp .lt 13, 3) := by decide +kernel
theorem dX5_count_10 : decode cX5_count 10 = .ok (.new 40, 3) := by decide +kernel
theorem dX5_count_13 : decode cX5_count 13 = .ok (.dup, 1) := by decide +kernel
theorem dX5_count_14 : decode cX5_count 14 = .ok (.ldc 154, 2) := by decide +kernel
theorem dX5_count_16 : decode cX5_count 16 = .ok (.invokespecial 44, 3) := by decide +kernel
theorem dX5_count_19 : decode cX5_count 19 = .ok (.athrow, 1) := by decide +kernel
theorem dX5_count_20 : decode cX5_count 20 = .ok (.aload_n 0, 1) := by decide +kernel
theorem dX5_count_21 : decode cX5_count 21 = .ok (.iload_n 1, 1) := by decide +kernel
theorem dX5_count_22 : decode cX5_count 22 = .ok (.invokevirtual 156, 3) := by decide +kernel
theorem dX5_count_25 : decode cX5_count 25 = .ok (.ireturn, 1) := by decide +kernel
set_option maxRecDepth 20000 in
theorem ggX5_isFeast_X1_areOn : GoodIn wsX5_isFeast wsX1_areOn := goodIn_r _ [9, 10, 11, 12, 23, 24, 25] (by decide +kernel) (by decide +kernel)
set_option maxRecDepth 20000 in
theorem gX5_isFeast_X1_areOn : GoodIn wsX5_isFeast (wsV RX5 162 RX1 yX1_areOn wsX1_areOn) := goodIn_app (goodIn_of _ (by decide +kernel)) ggX5_isFeast_X1_areOn
theorem dX5_isFeast_0 : decode cX5_isFeast 0 = .ok (.iload_n 1, 1) := by decide +kernel
theorem dX5_isFeast_1 : decode cX5_isFeast 1 = .ok (.ifCond .lt 9, 3) := by decide +kernel
theorem dX5_isFeast_4 : decode cX5_isFeast 4 = .ok (.iload_n 1, 1) := by decide +kernel
theorem dX5_isFeast_5 : decode cX5_isFeast 5 = .ok (.bipush 60, 2) := by decide +kernel
theorem dX5_isFeast_7 : decode cX5_isFeast 7 = .ok (.if_icmp .le 13, 3) := by decide +kernel
theorem dX5_isFeast_10 : decode cX5_isFeast 10 = .ok (.new 33, 3) := by decide +kernel
theorem dX5_isFeast_13 : decode cX5_isFeast 13 = .ok (.dup, 1) := by decide +kernel
theorem dX5_isFeast_14 : decode cX5_isFeast 14 = .ok (.ldc 128, 2) := by decide +kernel
theorem dX5_isFeast_16 : decode cX5_isFeast 16 = .ok (.invokespecial 37, 3) := by decide +kernel
theorem dX5_isFeast_19 : decode cX5_isFeast 19 = .ok (.athrow, 1) := by decide +kernel
theorem dX5_isFeast_20 : decode cX5_isFeast 20 = .ok (.aload_n 0, 1) := by decide +kernel
theorem dX5_isFeast_21 : decode cX5_isFeast 21 = .ok (.getfield 19, 3) := by decide +kernel
theorem dX5_isFeast_24 : decode cX5_isFeast 24 = .ok (.aload_n 0, 1) := by decide +kernel
theorem dX5_isFeast_25 : decode cX5_isFeast 25 = .ok (.getfield 26, 3) := by decide +kernel
theorem dX5_isFeast_28 : decode cX5_isFeast 28 = .ok (.getfield 159, 3) := by decide +kernel
theorem dX5_isFeast_31 : decode cX5_isFeast 31 = .ok (.iload_n 1, 1) := by decide +kernel
theorem dX5_isFeast_32 : decode cX5_isFeast 32 = .ok (.iadd, 1) := by decide +kernel
theorem dX5_isFeast_33 : decode cX5_isFeast 33 = .ok (.invokevirtual 162, 3) := by decide +kernel
theorem dX5_isFeast_36 : decode cX5_isFeast 36 = .ok (.ireturn, 1) := by decide +kernel
set_option maxRecDepth 20000 in
theorem ggX5_next_X1_daysUntil : GoodIn wsX5_next wsX1_daysUntil := goodIn_r _ [7, 8, 9, 10, 6, 11, 12, 13, 14, 25, 26, 27] (by decide +kernel) (by decide +kernel)
set_option maxRecDepth 20000 in
theorem gX5_next_X1_daysUntil : GoodIn wsX5_next (wsV RX5 165 RX1 yX1_daysUntil wsX1_daysUntil) := goodIn_app (goodIn_of _ (by decide +kernel)) ggX5_next_X1_daysUntil
theorem dX5_next_0 : decode cX5_next 0 = .ok (.aload_n 0, 1) := by decide +kernel
theorem dX5_next_1 : decode cX5_next 1 = .ok (.getfield 19, 3) := by decide +kernel
theorem dX5_next_4 : decode cX5_next 4 = .ok (.aload_n 0, 1) := by decide +kernel
theorem dX5_next_5 : decode cX5_next 5 = .ok (.getfield 26, 3) := by decide +kernel
theorem dX5_next_8 : decode cX5_next 8 = .ok (.getfield 159, 3) := by decide +kernel
theorem dX5_next_11 : decode cX5_next 11 = .ok (.invokevirtual 165, 3) := by decide +kernel
theorem dX5_next_14 : decode cX5_next 14 = .ok (.ireturn, 1) := by decide +kernel
set_option maxRecDepth 20000 in
theorem ggX5_would_X0_copyFrom : GoodIn wsX5_would wsX0_copyFrom := goodIn_r _ [13, 14, 15, 16, 17, 18, 19, 20, 21, 22, 23, 24, 25, 26, 27, 28, 29, 30, 31, 32, 33, 34, 35, 36, 37, 38, 39, 40, 41, 136, 137, 138, 139, 140, 141, 142, 143, 144, 145, 146, 147, 148, 149] (by decide +kernel) (by decide +kernel)
set_option maxRecDepth 20000 in
theorem gX5_would_X0_copyFrom : GoodIn wsX5_would (wsV RX5 168 RX0 yX0_copyFrom wsX0_copyFrom) := goodIn_app (goodIn_of _ (by decide +kernel)) ggX5_would_X0_copyFrom
set_option maxRecDepth 20000 in
theorem ggX5_would_X0_goOn : GoodIn wsX5_would wsX0_goOn := goodIn_r _ [45, 46, 47, 48, 12, 49, 14, 16, 17, 18, 19, 15, 50, 51, 52, 23, 53, 25, 54, 55, 56, 57, 58, 59, 60, 61, 62, 63, 64, 65, 66, 67, 68, 69, 70, 71, 72, 73, 74, 75, 76, 77, 78, 79, 80, 81, 82, 83, 84, 85, 86, 87, 88, 89, 90, 91, 92, 93, 94, 95, 96, 97, 98, 99, 100, 101, 102, 33, 103, 35, 104, 105, 106, 107, 38, 36, 37, 40, 108, 109, 110, 111, 112, 113, 114, 115, 39, 116, 117, 118, 119, 120, 121, 122, 123, 41, 136, 137, 138, 139, 140, 141, 142, 150, 151, 152, 153, 154, 155, 156, 157, 158, 143, 144, 145, 146, 147, 148, 149] (by decide +kernel) (by decide +kernel)
set_option maxRecDepth 20000 in
theorem gX5_would_X0_goOn : GoodIn wsX5_would (wsV RX5 133 RX0 yX0_goOn wsX0_goOn) := goodIn_app (goodIn_of _ (by decide +kernel)) ggX5_would_X0_goOn
set_option maxRecDepth 20000 in
theorem ggX5_would_X2_total : GoodIn wsX5_would wsX2_total := goodIn_r _ [127, 25, 142] (by decide +kernel) (by decide +kernel)
set_option maxRecDepth 20000 in
theorem gX5_would_X2_total : GoodIn wsX5_would (wsV RX5 172 RX2 yX2_total wsX2_total) := goodIn_app (goodIn_of _ (by decide +kernel)) ggX5_would_X2_total
set_option maxRecDepth 20000 in
theorem ggX5_would_X3_allCleaned : GoodIn wsX5_would wsX3_allCleaned := goodIn_r _ [131, 35, 40, 143, 144, 145, 146, 147, 148, 149] (by decide +kernel) (by decide +kernel)
set_option maxRecDepth 20000 in
theorem gX5_would_X3_allCleaned : GoodIn wsX5_would (wsV RX5 176 RX3 yX3_allCleaned wsX3_allCleaned) := goodIn_app (goodIn_of _ (by decide +kernel)) ggX5_would_X3_allCleaned
theorem dX5_would_0 : decode cX5_would 0 = .ok (.iload_n 1, 1) := by decide +kernel
theorem dX5_would_1 : decode cX5_would 1 = .ok (.iconst 1, 1) := by decide +kernel
theorem dX5_would_2 : decode cX5_would 2 = .ok (.if_icmp .lt 9, 3) := by decide +kernel
theorem dX5_would_5 : decode cX5_would 5 = .ok (.iload_n 1, 1) := by decide +kernel
theorem dX5_would_6 : decode cX5_would 6 = .ok (.bipush 40, 2) := by decide +kernel
theorem dX5_would_8 : decode cX5_would 8 = .ok (.if_icmp .le 13, 3) := by decide +kernel
theorem dX5_would_11 : decode cX5_would 11 = .ok (.new 33, 3) := by decide +kernel
theorem dX5_would_14 : decode cX5_would 14 = .ok (.dup, 1) := by decide +kernel
theorem dX5_would_15 : decode cX5_would 15 = .ok (.ldc 128, 2) := by decide +kernel
theorem dX5_would_17 : decode cX5_would 17 = .ok (.invokespecial 37, 3) := by decide +kernel
theorem dX5_would_20 : decode cX5_would 20 = .ok (.athrow, 1) := by decide +kernel
theorem dX5_would_21 : decode cX5_would 21 = .ok (.iload_n 2, 1) := by decide +kernel
theorem dX5_would_22 : decode cX5_would 22 = .ok (.ifCond .lt 8, 3) := by decide +kernel
theorem dX5_would_25 : decode cX5_would 25 = .ok (.iload_n 2, 1) := by decide +kernel
theorem dX5_would_26 : decode cX5_would 26 = .ok (.iconst 3, 1) := by decide +kernel
theorem dX5_would_27 : decode cX5_would 27 = .ok (.if_icmp .lt 13, 3) := by decide +kernel
theorem dX5_would_30 : decode cX5_would 30 = .ok (.new 40, 3) := by decide +kernel
theorem dX5_would_33 : decode cX5_would 33 = .ok (.dup, 1) := by decide +kernel
theorem dX5_would_34 : decode cX5_would 34 = .ok (.ldc 154, 2) := by decide +kernel
theorem dX5_would_36 : decode cX5_would 36 = .ok (.invokespecial 44, 3) := by decide +kernel
theorem dX5_would_39 : decode cX5_would 39 = .ok (.athrow, 1) := by decide +kernel
theorem dX5_would_40 : decode cX5_would 40 = .ok (.aload_n 0, 1) := by decide +kernel
theorem dX5_would_41 : decode cX5_would 41 = .ok (.getfield 30, 3) := by decide +kernel
theorem dX5_would_44 : decode cX5_would 44 = .ok (.aload_n 0, 1) := by decide +kernel
theorem dX5_would_45 : decode cX5_would 45 = .ok (.getfield 26, 3) := by decide +kernel
theorem dX5_would_48 : decode cX5_would 48 = .ok (.invokevirtual 168, 3) := by decide +kernel
theorem dX5_would_51 : decode cX5_would 51 = .ok (.aload_n 0, 1) := by decide +kernel
theorem dX5_would_52 : decode cX5_would 52 = .ok (.getfield 30, 3) := by decide +kernel
theorem dX5_would_55 : decode cX5_would 55 = .ok (.iload_n 1, 1) := by decide +kernel
theorem dX5_would_56 : decode cX5_would 56 = .ok (.aload_n 0, 1) := by decide +kernel
theorem dX5_would_57 : decode cX5_would 57 = .ok (.getfield 12, 3) := by decide +kernel
theorem dX5_would_60 : decode cX5_would 60 = .ok (.aload_n 0, 1) := by decide +kernel
theorem dX5_would_61 : decode cX5_would 61 = .ok (.getfield 19, 3) := by decide +kernel
theorem dX5_would_64 : decode cX5_would 64 = .ok (.invokevirtual 133, 3) := by decide +kernel
theorem dX5_would_67 : decode cX5_would 67 = .ok (.iload_n 2, 1) := by decide +kernel
theorem dX5_would_68 : decode cX5_would 68 = .ok (.lookupswitch 47 #[(0, 28), (1, 39)], 28) := by decide +kernel
theorem dX5_would_96 : decode cX5_would 96 = .ok (.aload_n 0, 1) := by decide +kernel
theorem dX5_would_97 : decode cX5_would 97 = .ok (.getfield 30, 3) := by decide +kernel
theorem dX5_would_100 : decode cX5_would 100 = .ok (.getfield 120, 3) := by decide +kernel
theorem dX5_would_103 : decode cX5_would 103 = .ok (.invokevirtual 172, 3) := by decide +kernel
theorem dX5_would_106 : decode cX5_would 106 = .ok (.ireturn, 1) := by decide +kernel
theorem dX5_would_107 : decode cX5_would 107 = .ok (.aload_n 0, 1) := by decide +kernel
theorem dX5_would_108 : decode cX5_would 108 = .ok (.getfield 30, 3) := by decide +kernel
theorem dX5_would_111 : decode cX5_would 111 = .ok (.getfield 130, 3) := by decide +kernel
theorem dX5_would_114 : decode cX5_would 114 = .ok (.ireturn, 1) := by decide +kernel
theorem dX5_would_115 : decode cX5_would 115 = .ok (.aload_n 0, 1) := by decide +kernel
theorem dX5_would_116 : decode cX5_would 116 = .ok (.getfield 30, 3) := by decide +kernel
theorem dX5_would_119 : decode cX5_would 119 = .ok (.getfield 66, 3) := by decide +kernel
theorem dX5_would_122 : decode cX5_would 122 = .ok (.invokevirtual 176, 3) := by decide +kernel
theorem dX5_would_125 : decode cX5_would 125 = .ok (.ireturn, 1) := by decide +kernel
set_option maxRecDepth 20000 in
theorem ggX5_until_X5_isWindow : GoodIn wsX5_until wsX5_isWindow := goodIn_r _ [11, 5, 127, 128, 129, 130, 137, 138, 139, 140, 141, 142] (by decide +kernel) (by decide +kernel)
set_option maxRecDepth 20000 in
theorem gX5_until_X5_isWindow : GoodIn wsX5_until (wsV RX5 115 RX5 yX5_isWindow wsX5_isWindow) := goodIn_app (goodIn_of _ (by decide +kernel)) ggX5_until_X5_isWindow
set_option maxRecDepth 20000 in
theorem ggX5_until_X0_copyFrom : GoodIn wsX5_until wsX0_copyFrom := goodIn_r _ [16, 17, 18, 19, 20, 21, 22, 23, 24, 25, 26, 27, 28, 29, 30, 31, 32, 33, 34, 35, 36, 37, 38, 39, 40, 41, 42, 43, 44, 131, 132, 133, 134, 135, 136, 143, 144, 145, 146, 147, 148, 149, 150] (by decide +kernel) (by decide +kernel)
set_option maxRecDepth 20000 in
theorem gX5_until_X0_copyFrom : GoodIn wsX5_until (wsV RX5 168 RX0 yX0_copyFrom wsX0_copyFrom) := goodIn_app (goodIn_of _ (by decide +kernel)) ggX5_until_X0_copyFrom
set_option maxRecDepth 20000 in
theorem ggX5_until_X4_isClean : GoodIn wsX5_until wsX4_isClean := goodIn_r _ [49, 50, 51, 52, 48, 53, 54, 55, 56, 57, 58, 59, 60, 26, 61, 28, 62, 63, 64, 65, 137, 138, 139, 140, 141, 142, 143] (by decide +kernel) (by decide +kernel)
set_option maxRecDepth 20000 in
theorem gX5_until_X4_isClean : GoodIn wsX5_until (wsV RX5 179 RX4 yX4_isClean wsX4_isClean) := goodIn_app (goodIn_of _ (by decide +kernel)) ggX5_until_X4_isClean
set_option maxRecDepth 20000 in
theorem ggX5_until_X0_goOneDay : GoodIn wsX5_until wsX0_goOneDay := goodIn_r _ [69, 17, 19, 20, 21, 22, 18, 70, 71, 72, 26, 73, 28, 74, 75, 76, 77, 78, 79, 80, 81, 82, 83, 84, 85, 86, 87, 88, 89, 90, 91, 92, 93, 94, 48, 95, 96, 97, 98, 99, 100, 101, 102, 62, 63, 64, 65, 55, 57, 50, 51, 52, 53, 54, 56, 58, 59, 60, 61, 103, 104, 105, 36, 106, 38, 107, 108, 109, 110, 41, 39, 40, 43, 111, 112, 113, 114, 115, 116, 117, 118, 42, 119, 120, 121, 122, 123, 124, 125, 126, 44, 131, 132, 133, 134, 135, 136, 143, 151, 152, 153, 137, 138, 139, 140, 141, 142, 144, 145, 146, 147, 148, 149, 150] (by decide +kernel) (by decide +kernel)
set_option maxRecDepth 20000 in
theorem gX5_until_X0_goOneDay : GoodIn wsX5_until (wsV RX5 183 RX0 yX0_goOneDay wsX0_goOneDay) := goodIn_app (goodIn_of _ (by decide +kernel)) ggX5_until_X0_goOneDay
theorem dX5_until_0 : decode cX5_until 0 = .ok (.aload_n 0, 1) := by decide +kernel
theorem dX5_until_1 : decode cX5_until 1 = .ok (.iload_n 1, 1) := by decide +kernel
theorem dX5_until_2 : decode cX5_until 2 = .ok (.invokevirtual 115, 3) := by decide +kernel
theorem dX5_until_5 : decode cX5_until 5 = .ok (.ifCond .ne 13, 3) := by decide +kernel
theorem dX5_until_8 : decode cX5_until 8 = .ok (.new 40, 3) := by decide +kernel
theorem dX5_until_11 : decode cX5_until 11 = .ok (.dup, 1) := by decide +kernel
theorem dX5_until_12 : decode cX5_until 12 = .ok (.ldc 118, 2) := by decide +kernel
theorem dX5_until_14 : decode cX5_until 14 = .ok (.invokespecial 44, 3) := by decide +kernel
theorem dX5_until_17 : decode cX5_until 17 = .ok (.athrow, 1) := by decide +kernel
theorem dX5_until_18 : decode cX5_until 18 = .ok (.aload_n 0, 1) := by decide +kernel
theorem dX5_until_19 : decode cX5_until 19 = .ok (.getfield 30, 3) := by decide +kernel
theorem dX5_until_22 : decode cX5_until 22 = .ok (.aload_n 0, 1) := by decide +kernel
theorem dX5_until_23 : decode cX5_until 23 = .ok (.getfield 26, 3) := by decide +kernel
theorem dX5_until_26 : decode cX5_until 26 = .ok (.invokevirtual 168, 3) := by decide +kernel
theorem dX5_until_29 : decode cX5_until 29 = .ok (.iconst 0, 1) := by decide +kernel
theorem dX5_until_30 : decode cX5_until 30 = .ok (.istore_n 2, 1) := by decide +kernel
theorem dX5_until_31 : decode cX5_until 31 = .ok (.iload_n 2, 1) := by decide +kernel
theorem dX5_until_32 : decode cX5_until 32 = .ok (.bipush 60, 2) := by decide +kernel
theorem dX5_until_34 : decode cX5_until 34 = .ok (.if_icmp .gt 44, 3) := by decide +kernel
theorem dX5_until_37 : decode cX5_until 37 = .ok (.aload_n 0, 1) := by decide +kernel
theorem dX5_until_38 : decode cX5_until 38 = .ok (.getfield 12, 3) := by decide +kernel
theorem dX5_until_41 : decode cX5_until 41 = .ok (.iload_n 1, 1) := by decide +kernel
theorem dX5_until_42 : decode cX5_until 42 = .ok (.aload_n 0, 1) := by decide +kernel
theorem dX5_until_43 : decode cX5_until 43 = .ok (.getfield 30, 3) := by decide +kernel
theorem dX5_until_46 : decode cX5_until 46 = .ok (.getfield 120, 3) := by decide +kernel
theorem dX5_until_49 : decode cX5_until 49 = .ok (.invokevirtual 179, 3) := by decide +kernel
theorem dX5_until_52 : decode cX5_until 52 = .ok (.ifCond .eq 5, 3) := by decide +kernel
theorem dX5_until_55 : decode cX5_until 55 = .ok (.iload_n 2, 1) := by decide +kernel
theorem dX5_until_56 : decode cX5_until 56 = .ok (.ireturn, 1) := by decide +kernel
theorem dX5_until_57 : decode cX5_until 57 = .ok (.aload_n 0, 1) := by decide +kernel
theorem dX5_until_58 : decode cX5_until 58 = .ok (.getfield 30, 3) := by decide +kernel
theorem dX5_until_61 : decode cX5_until 61 = .ok (.aload_n 0, 1) := by decide +kernel
theorem dX5_until_62 : decode cX5_until 62 = .ok (.getfield 12, 3) := by decide +kernel
theorem dX5_until_65 : decode cX5_until 65 = .ok (.aload_n 0, 1) := by decide +kernel
theorem dX5_until_66 : decode cX5_until 66 = .ok (.getfield 19, 3) := by decide +kernel
theorem dX5_until_69 : decode cX5_until 69 = .ok (.invokevirtual 183, 3) := by decide +kernel
theorem dX5_until_72 : decode cX5_until 72 = .ok (.iinc 2 1, 3) := by decide +kernel
theorem dX5_until_75 : decode cX5_until 75 = .ok (.goto (-44), 3) := by decide +kernel
theorem dX5_until_78 : decode cX5_until 78 = .ok (.iconst (-1), 1) := by decide +kernel
theorem dX5_until_79 : decode cX5_until 79 = .ok (.ireturn, 1) := by decide +kernel
set_option maxRecDepth 20000 in
theorem ggX5_advise_X5_isRope : GoodIn wsX5_advise wsX5_isRope := goodIn_r _ [11, 6, 136, 137, 138, 139, 140, 141, 142, 143, 144, 145, 146, 147, 148, 149, 150, 151, 152] (by decide +kernel) (by decide +kernel)
set_option maxRecDepth 20000 in
theorem gX5_advise_X5_isRope : GoodIn wsX5_advise (wsV RX5 94 RX5 yX5_isRope wsX5_isRope) := goodIn_app (goodIn_of _ (by decide +kernel)) ggX5_advise_X5_isRope
set_option maxRecDepth 20000 in
theorem ggX5_advise_X1_daysUntil : GoodIn wsX5_advise wsX1_daysUntil := goodIn_r _ [16, 17, 18, 19, 15, 20, 21, 22, 23, 153, 154, 155] (by decide +kernel) (by decide +kernel)
set_option maxRecDepth 20000 in
theorem gX5_advise_X1_daysUntil : GoodIn wsX5_advise (wsV RX5 165 RX1 yX1_daysUntil wsX1_daysUntil) := goodIn_app (goodIn_of _ (by decide +kernel)) ggX5_advise_X1_daysUntil
set_option maxRecDepth 20000 in
theorem ggX5_advise_X5_coinsBehind : GoodIn wsX5_advise wsX5_coinsBehind := goodIn_r _ [27, 28, 6, 29, 5, 30, 31, 32, 33, 34, 35, 36, 37, 38, 39, 40, 41, 42, 43, 44, 45, 46, 47, 48, 49, 50, 51, 52, 53, 54, 55, 56, 57, 58, 59, 60, 61, 62, 63, 64, 65, 66, 67, 68, 69, 70, 71, 72, 73, 74, 75, 76, 77, 78, 79, 80, 81, 82, 83, 84, 85, 18, 19, 15, 20, 21, 22, 23, 86, 87, 88, 89, 90, 91, 92, 93, 94, 95, 96, 97, 98, 99, 100, 101, 102, 103, 104, 105, 106, 107, 108, 109, 110, 111, 112, 113, 114, 115, 116, 117, 118, 119, 120, 121, 122, 123, 124, 125, 126, 127, 128, 129, 130, 131, 132, 133, 134, 136, 137, 138, 139, 140, 141, 142, 143, 144, 145, 146, 147, 148, 149, 150, 151, 152, 156, 153, 154, 155, 157, 158, 159, 160, 161, 162] (by decide +kernel) (by decide +kernel)
set_option maxRecDepth 20000 in
theorem gX5_advise_X5_coinsBehind : GoodIn wsX5_advise (wsV RX5 189 RX5 yX5_coinsBehind wsX5_coinsBehind) := goodIn_app (goodIn_of _ (by decide +kernel)) ggX5_advise_X5_coinsBehind
set_option maxRecDepth 20000 in
theorem ggX5_advise_X3_hangAt : GoodIn wsX5_advise wsX3_hangAt := goodIn_r _ [133, 56, 57, 146, 147, 148, 149, 150, 151, 152] (by decide +kernel) (by decide +kernel)
set_option maxRecDepth 20000 in
theorem gX5_advise_X3_hangAt : GoodIn wsX5_advise (wsV RX5 73 RX3 yX3_hangAt wsX3_hangAt) := goodIn_app (goodIn_of _ (by decide +kernel)) ggX5_advise_X3_hangAt
theorem dX5_advise_0 : decode cX5_advise 0 = .ok (.aload_n 0, 1) := by decide +kernel
theorem dX5_advise_1 : decode cX5_advise 1 = .ok (.iload_n 1, 1) := by decide +kernel
theorem dX5_advise_2 : decode cX5_advise 2 = .ok (.invokevirtual 94, 3) := by decide +kernel
theorem dX5_advise_5 : decode cX5_advise 5 = .ok (.ifCond .ne 13, 3) := by decide +kernel
theorem dX5_advise_8 : decode cX5_advise 8 = .ok (.new 40, 3) := by decide +kernel
theorem dX5_advise_11 : decode cX5_advise 11 = .ok (.dup, 1) := by decide +kernel
theorem dX5_advise_12 : decode cX5_advise 12 = .ok (.ldc 109, 2) := by decide +kernel
theorem dX5_advise_14 : decode cX5_advise 14 = .ok (.invokespecial 44, 3) := by decide +kernel
theorem dX5_advise_17 : decode cX5_advise 17 = .ok (.athrow, 1) := by decide +kernel
theorem dX5_advise_18 : decode cX5_advise 18 = .ok (.aload_n 0, 1) := by decide +kernel
theorem dX5_advise_19 : decode cX5_advise 19 = .ok (.getfield 19, 3) := by decide +kernel
theorem dX5_advise_22 : decode cX5_advise 22 = .ok (.aload_n 0, 1) := by decide +kernel
theorem dX5_advise_23 : decode cX5_advise 23 = .ok (.getfield 26, 3) := by decide +kernel
theorem dX5_advise_26 : decode cX5_advise 26 = .ok (.getfield 159, 3) := by decide +kernel
theorem dX5_advise_29 : decode cX5_advise 29 = .ok (.invokevirtual 165, 3) := by decide +kernel
theorem dX5_advise_32 : decode cX5_advise 32 = .ok (.istore_n 2, 1) := by decide +kernel
theorem dX5_advise_33 : decode cX5_advise 33 = .ok (.iload_n 2, 1) := by decide +kernel
theorem dX5_advise_34 : decode cX5_advise 34 = .ok (.ifCond .ge 13, 3) := by decide +kernel
theorem dX5_advise_37 : decode cX5_advise 37 = .ok (.new 49, 3) := by decide +kernel
theorem dX5_advise_40 : decode cX5_advise 40 = .ok (.dup, 1) := by decide +kernel
theorem dX5_advise_41 : decode cX5_advise 41 = .ok (.ldc 187, 2) := by decide +kernel
theorem dX5_advise_43 : decode cX5_advise 43 = .ok (.invokespecial 53, 3) := by decide +kernel
theorem dX5_advise_46 : decode cX5_advise 46 = .ok (.athrow, 1) := by decide +kernel
theorem dX5_advise_47 : decode cX5_advise 47 = .ok (.aload_n 0, 1) := by decide +kernel
theorem dX5_advise_48 : decode cX5_advise 48 = .ok (.getfield 26, 3) := by decide +kernel
theorem dX5_advise_51 : decode cX5_advise 51 = .ok (.getfield 66, 3) := by decide +kernel
theorem dX5_advise_54 : decode cX5_advise 54 = .ok (.getfield 101, 3) := by decide +kernel
theorem dX5_advise_57 : decode cX5_advise 57 = .ok (.iload_n 1, 1) := by decide +kernel
theorem dX5_advise_58 : decode cX5_advise 58 = .ok (.iaload, 1) := by decide +kernel
theorem dX5_advise_59 : decode cX5_advise 59 = .ok (.istore_n 3, 1) := by decide +kernel
theorem dX5_advise_60 : decode cX5_advise 60 = .ok (.iload_n 3, 1) := by decide +kernel
theorem dX5_advise_61 : decode cX5_advise 61 = .ok (.istore 4, 2) := by decide +kernel
theorem dX5_advise_63 : decode cX5_advise 63 = .ok (.aload_n 0, 1) := by decide +kernel
theorem dX5_advise_64 : decode cX5_advise 64 = .ok (.iload_n 2, 1) := by decide +kernel
theorem dX5_advise_65 : decode cX5_advise 65 = .ok (.iconst 1, 1) := by decide +kernel
theorem dX5_advise_66 : decode cX5_advise 66 = .ok (.iadd, 1) := by decide +kernel
theorem dX5_advise_67 : decode cX5_advise 67 = .ok (.iload_n 1, 1) := by decide +kernel
theorem dX5_advise_68 : decode cX5_advise 68 = .ok (.iload_n 3, 1) := by decide +kernel
theorem dX5_advise_69 : decode cX5_advise 69 = .ok (.invokevirtual 189, 3) := by decide +kernel
theorem dX5_advise_72 : decode cX5_advise 72 = .ok (.istore 5, 2) := by decide +kernel
theorem dX5_advise_74 : decode cX5_advise 74 = .ok (.iconst 0, 1) := by decide +kernel
theorem dX5_advise_75 : decode cX5_advise 75 = .ok (.istore 6, 2) := by decide +kernel
theorem dX5_advise_77 : decode cX5_advise 77 = .ok (.iload 6, 2) := by decide +kernel
theorem dX5_advise_79 : decode cX5_advise 79 = .ok (.bipush 12, 2) := by decide +kernel
theorem dX5_advise_81 : decode cX5_advise 81 = .ok (.if_icmp .ge 68, 3) := by decide +kernel
theorem dX5_advise_84 : decode cX5_advise 84 = .ok (.aload_n 0, 1) := by decide +kernel
theorem dX5_advise_85 : decode cX5_advise 85 = .ok (.getfield 26, 3) := by decide +kernel
theorem dX5_advise_88 : decode cX5_advise 88 = .ok (.getfield 66, 3) := by decide +kernel
theorem dX5_advise_91 : decode cX5_advise 91 = .ok (.iload 6, 2) := by decide +kernel
theorem dX5_advise_93 : decode cX5_advise 93 = .ok (.invokevirtual 73, 3) := by decide +kernel
theorem dX5_advise_96 : decode cX5_advise 96 = .ok (.ifCond .eq 6, 3) := by decide +kernel
theorem dX5_advise_99 : decode cX5_advise 99 = .ok (.goto 44, 3) := by decide +kernel
theorem dX5_advise_102 : decode cX5_advise 102 = .ok (.aload_n 0, 1) := by decide +kernel
theorem dX5_advise_103 : decode cX5_advise 103 = .ok (.iload_n 2, 1) := by decide +kernel
theorem dX5_advise_104 : decode cX5_advise 104 = .ok (.iconst 1, 1) := by decide +kernel
theorem dX5_advise_105 : decode cX5_advise 105 = .ok (.iadd, 1) := by decide +kernel
theorem dX5_advise_106 : decode cX5_advise 106 = .ok (.iload_n 1, 1) := by decide +kernel
theorem dX5_advise_107 : decode cX5_advise 107 = .ok (.iload 6, 2) := by decide +kernel
theorem dX5_advise_109 : decode cX5_advise 109 = .ok (.invokevirtual 189, 3) := by decide +kernel
theorem dX5_advise_112 : decode cX5_advise 112 = .ok (.istore 7, 2) := by decide +kernel
theorem dX5_advise_114 : decode cX5_advise 114 = .ok (.iload 7, 2) := by decide +kernel
theorem dX5_advise_116 : decode cX5_advise 116 = .ok (.iload 5, 2) := by decide +kernel
theorem dX5_advise_118 : decode cX5_advise 118 = .ok (.if_icmp .gt 17, 3) := by decide +kernel
theorem dX5_advise_121 : decode cX5_advise 121 = .ok (.iload 7, 2) := by decide +kernel
theorem dX5_advise_123 : decode cX5_advise 123 = .ok (.iload 5, 2) := by decide +kernel
theorem dX5_advise_125 : decode cX5_advise 125 = .ok (.if_icmp .ne 18, 3) := by decide +kernel
theorem dX5_advise_128 : decode cX5_advise 128 = .ok (.iload 6, 2) := by decide +kernel
theorem dX5_advise_130 : decode cX5_advise 130 = .ok (.iload 4, 2) := by decide +kernel
theorem dX5_advise_132 : decode cX5_advise 132 = .ok (.if_icmp .ge 11, 3) := by decide +kernel
theorem dX5_advise_135 : decode cX5_advise 135 = .ok (.iload 7, 2) := by decide +kernel
theorem dX5_advise_137 : decode cX5_advise 137 = .ok (.istore 5, 2) := by decide +kernel
theorem dX5_advise_139 : decode cX5_advise 139 = .ok (.iload 6, 2) := by decide +kernel
theorem dX5_advise_141 : decode cX5_advise 141 = .ok (.istore 4, 2) := by decide +kernel
theorem dX5_advise_143 : decode cX5_advise 143 = .ok (.iinc 6 1, 3) := by decide +kernel
theorem dX5_advise_146 : decode cX5_advise 146 = .ok (.goto (-69), 3) := by decide +kernel
theorem dX5_advise_149 : decode cX5_advise 149 = .ok (.iload 4, 2) := by decide +kernel
theorem dX5_advise_151 : decode cX5_advise 151 = .ok (.ireturn, 1) := by decide +kernel
set_option maxRecDepth 20000 in
theorem ggX5_mean_X2_total : GoodIn wsX5_mean wsX2_total := goodIn_r _ [7, 8, 19] (by decide +kernel) (by decide +kernel)
set_option maxRecDepth 20000 in
theorem gX5_mean_X2_total : GoodIn wsX5_mean (wsV RX5 172 RX2 yX2_total wsX2_total) := goodIn_app (goodIn_of _ (by decide +kernel)) ggX5_mean_X2_total
theorem dX5_mean_0 : decode cX5_mean 0 = .ok (.aload_n 0, 1) := by decide +kernel
theorem dX5_mean_1 : decode cX5_mean 1 = .ok (.getfield 26, 3) := by decide +kernel
theorem dX5_mean_4 : decode cX5_mean 4 = .ok (.getfield 120, 3) := by decide +kernel
theorem dX5_mean_7 : decode cX5_mean 7 = .ok (.invokevirtual 172, 3) := by decide +kernel
theorem dX5_mean_10 : decode cX5_mean 10 = .ok (.i2d, 1) := by decide +kernel
theorem dX5_mean_11 : decode cX5_mean 11 = .ok (.ldc2_w 193, 3) := by decide +kernel
theorem dX5_mean_14 : decode cX5_mean 14 = .ok (.ddiv, 1) := by decide +kernel
end
section
theorem dX5_mean_15 : decode cX5_mean 15 = .ok (.dreturn, 1) := by decide +kernel
set_option maxRecDepth 20000 in
theorem ggX5_digest_X5_number : GoodIn wsX5_digest wsX5_number := goodIn_r _ [9, 4, 3, 10, 11, 12, 13, 14, 15, 16, 17, 18, 19, 20, 21, 22, 23, 24, 25, 26, 27, 28, 29, 30, 31, 32, 33, 34, 35, 36, 37, 38, 39, 40, 41, 42, 43, 44, 45, 46, 47, 48, 49, 50, 51, 52, 53, 54, 55, 56, 57, 58, 77, 78, 79, 80, 87, 88, 89, 90, 91, 92, 81, 82, 83, 84, 85, 86, 93, 94, 95, 96, 97, 98, 99, 100, 101, 102, 103] (by decide +kernel) (by decide +kernel)
set_option maxRecDepth 20000 in
theorem gX5_digest_X5_number : GoodIn wsX5_digest (wsV RX5 156 RX5 yX5_number wsX5_number) := goodIn_app (goodIn_of _ (by decide +kernel)) ggX5_digest_X5_number
set_option maxRecDepth 20000 in
theorem ggX5_digest_X4_number : GoodIn wsX5_digest wsX4_number := goodIn_r _ [62, 53, 54, 47, 48, 38, 49, 50, 51, 31, 52, 55, 56, 57, 14, 58, 16, 63, 64, 65, 66, 39, 40, 41, 42, 34, 35, 36, 37, 43, 44, 45, 46, 81, 82, 83, 84, 85, 86, 103] (by decide +kernel) (by decide +kernel)
set_option maxRecDepth 20000 in
theorem gX5_digest_X4_number : GoodIn wsX5_digest (wsV RX5 146 RX4 yX4_number wsX4_number) := goodIn_app (goodIn_of _ (by decide +kernel)) ggX5_digest_X4_number
set_option maxRecDepth 20000 in
theorem ggX5_digest_X3_number : GoodIn wsX5_digest wsX3_number := goodIn_r _ [70, 71, 72, 73, 74, 27, 75, 93, 94, 95, 96, 97, 98, 99] (by decide +kernel) (by decide +kernel)
set_option maxRecDepth 20000 in
theorem gX5_digest_X3_number : GoodIn wsX5_digest (wsV RX5 152 RX3 yX3_number wsX3_number) := goodIn_app (goodIn_of _ (by decide +kernel)) ggX5_digest_X3_number
set_option maxRecDepth 20000 in
theorem ggX5_digest_X2_at : GoodIn wsX5_digest wsX2_at := goodIn_r _ [58, 16, 103] (by decide +kernel) (by decide +kernel)
set_option maxRecDepth 20000 in
theorem gX5_digest_X2_at : GoodIn wsX5_digest (wsV RX5 139 RX2 yX2_at wsX2_at) := goodIn_app (goodIn_of _ (by decide +kernel)) ggX5_digest_X2_at
theorem dX5_digest_0 : decode cX5_digest 0 = .ok (.ldc2_w 195, 3) := by decide +kernel
theorem dX5_digest_3 : decode cX5_digest 3 = .ok (.lstore_n 1, 1) := by decide +kernel
theorem dX5_digest_4 : decode cX5_digest 4 = .ok (.iconst 0, 1) := by decide +kernel
theorem dX5_digest_5 : decode cX5_digest 5 = .ok (.istore_n 3, 1) := by decide +kernel
theorem dX5_digest_6 : decode cX5_digest 6 = .ok (.iload_n 3, 1) := by decide +kernel
theorem dX5_digest_7 : decode cX5_digest 7 = .ok (.bipush 11, 2) := by decide +kernel
theorem dX5_digest_9 : decode cX5_digest 9 = .ok (.if_icmp .ge 22, 3) := by decide +kernel
theorem dX5_digest_12 : decode cX5_digest 12 = .ok (.lload_n 1, 1) := by decide +kernel
theorem dX5_digest_13 : decode cX5_digest 13 = .ok (.ldc2_w 197, 3) := by decide +kernel
theorem dX5_digest_16 : decode cX5_digest 16 = .ok (.lmul, 1) := by decide +kernel
theorem dX5_digest_17 : decode cX5_digest 17 = .ok (.aload_n 0, 1) := by decide +kernel
theorem dX5_digest_18 : decode cX5_digest 18 = .ok (.iload_n 3, 1) := by decide +kernel
theorem dX5_digest_19 : decode cX5_digest 19 = .ok (.invokevirtual 156, 3) := by decide +kernel
theorem dX5_digest_22 : decode cX5_digest 22 = .ok (.i2l, 1) := by decide +kernel
theorem dX5_digest_23 : decode cX5_digest 23 = .ok (.ladd, 1) := by decide +kernel
theorem dX5_digest_24 : decode cX5_digest 24 = .ok (.lstore_n 1, 1) := by decide +kernel
theorem dX5_digest_25 : decode cX5_digest 25 = .ok (.iinc 3 1, 3) := by decide +kernel
theorem dX5_digest_28 : decode cX5_digest 28 = .ok (.goto (-22), 3) := by decide +kernel
theorem dX5_digest_31 : decode cX5_digest 31 = .ok (.iconst 0, 1) := by decide +kernel
theorem dX5_digest_32 : decode cX5_digest 32 = .ok (.istore_n 3, 1) := by decide +kernel
theorem dX5_digest_33 : decode cX5_digest 33 = .ok (.iload_n 3, 1) := by decide +kernel
theorem dX5_digest_34 : decode cX5_digest 34 = .ok (.aload_n 0, 1) := by decide +kernel
theorem dX5_digest_35 : decode cX5_digest 35 = .ok (.getfield 12, 3) := by decide +kernel
theorem dX5_digest_38 : decode cX5_digest 38 = .ok (.getfield 45, 3) := by decide +kernel
theorem dX5_digest_41 : decode cX5_digest 41 = .ok (.if_icmp .ge 50, 3) := by decide +kernel
theorem dX5_digest_44 : decode cX5_digest 44 = .ok (.iconst 0, 1) := by decide +kernel
theorem dX5_digest_45 : decode cX5_digest 45 = .ok (.istore 4, 2) := by decide +kernel
theorem dX5_digest_47 : decode cX5_digest 47 = .ok (.iload 4, 2) := by decide +kernel
theorem dX5_digest_49 : decode cX5_digest 49 = .ok (.bipush 8, 2) := by decide +kernel
theorem dX5_digest_51 : decode cX5_digest 51 = .ok (.if_icmp .ge 34, 3) := by decide +kernel
theorem dX5_digest_54 : decode cX5_digest 54 = .ok (.lload_n 1, 1) := by decide +kernel
theorem dX5_digest_55 : decode cX5_digest 55 = .ok (.ldc2_w 197, 3) := by decide +kernel
theorem dX5_digest_58 : decode cX5_digest 58 = .ok (.lmul, 1) := by decide +kernel
theorem dX5_digest_59 : decode cX5_digest 59 = .ok (.aload_n 0, 1) := by decide +kernel
theorem dX5_digest_60 : decode cX5_digest 60 = .ok (.getfield 12, 3) := by decide +kernel
theorem dX5_digest_63 : decode cX5_digest 63 = .ok (.iload_n 3, 1) := by decide +kernel
theorem dX5_digest_64 : decode cX5_digest 64 = .ok (.iload 4, 2) := by decide +kernel
theorem dX5_digest_66 : decode cX5_digest 66 = .ok (.aload_n 0, 1) := by decide +kernel
theorem dX5_digest_67 : decode cX5_digest 67 = .ok (.getfield 26, 3) := by decide +kernel
theorem dX5_digest_70 : decode cX5_digest 70 = .ok (.getfield 120, 3) := by decide +kernel
theorem dX5_digest_73 : decode cX5_digest 73 = .ok (.invokevirtual 146, 3) := by decide +kernel
theorem dX5_digest_76 : decode cX5_digest 76 = .ok (.i2l, 1) := by decide +kernel
theorem dX5_digest_77 : decode cX5_digest 77 = .ok (.ladd, 1) := by decide +kernel
theorem dX5_digest_78 : decode cX5_digest 78 = .ok (.lstore_n 1, 1) := by decide +kernel
theorem dX5_digest_79 : decode cX5_digest 79 = .ok (.iinc 4 1, 3) := by decide +kernel
theorem dX5_digest_82 : decode cX5_digest 82 = .ok (.goto (-35), 3) := by decide +kernel
theorem dX5_digest_85 : decode cX5_digest 85 = .ok (.iinc 3 1, 3) := by decide +kernel
theorem dX5_digest_88 : decode cX5_digest 88 = .ok (.goto (-55), 3) := by decide +kernel
theorem dX5_digest_91 : decode cX5_digest 91 = .ok (.iconst 0, 1) := by decide +kernel
theorem dX5_digest_92 : decode cX5_digest 92 = .ok (.istore_n 3, 1) := by decide +kernel
theorem dX5_digest_93 : decode cX5_digest 93 = .ok (.iload_n 3, 1) := by decide +kernel
theorem dX5_digest_94 : decode cX5_digest 94 = .ok (.aload_n 0, 1) := by decide +kernel
theorem dX5_digest_95 : decode cX5_digest 95 = .ok (.getfield 26, 3) := by decide +kernel
theorem dX5_digest_98 : decode cX5_digest 98 = .ok (.getfield 66, 3) := by decide +kernel
theorem dX5_digest_101 : decode cX5_digest 101 = .ok (.getfield 70, 3) := by decide +kernel
theorem dX5_digest_104 : decode cX5_digest 104 = .ok (.if_icmp .ge 46, 3) := by decide +kernel
theorem dX5_digest_107 : decode cX5_digest 107 = .ok (.iconst 0, 1) := by decide +kernel
theorem dX5_digest_108 : decode cX5_digest 108 = .ok (.istore 4, 2) := by decide +kernel
theorem dX5_digest_110 : decode cX5_digest 110 = .ok (.iload 4, 2) := by decide +kernel
theorem dX5_digest_112 : decode cX5_digest 112 = .ok (.bipush 6, 2) := by decide +kernel
theorem dX5_digest_114 : decode cX5_digest 114 = .ok (.if_icmp .ge 30, 3) := by decide +kernel
theorem dX5_digest_117 : decode cX5_digest 117 = .ok (.lload_n 1, 1) := by decide +kernel
theorem dX5_digest_118 : decode cX5_digest 118 = .ok (.ldc2_w 197, 3) := by decide +kernel
theorem dX5_digest_121 : decode cX5_digest 121 = .ok (.lmul, 1) := by decide +kernel
theorem dX5_digest_122 : decode cX5_digest 122 = .ok (.aload_n 0, 1) := by decide +kernel
theorem dX5_digest_123 : decode cX5_digest 123 = .ok (.getfield 26, 3) := by decide +kernel
theorem dX5_digest_126 : decode cX5_digest 126 = .ok (.getfield 66, 3) := by decide +kernel
theorem dX5_digest_129 : decode cX5_digest 129 = .ok (.iload_n 3, 1) := by decide +kernel
theorem dX5_digest_130 : decode cX5_digest 130 = .ok (.iload 4, 2) := by decide +kernel
theorem dX5_digest_132 : decode cX5_digest 132 = .ok (.invokevirtual 152, 3) := by decide +kernel
theorem dX5_digest_135 : decode cX5_digest 135 = .ok (.i2l, 1) := by decide +kernel
theorem dX5_digest_136 : decode cX5_digest 136 = .ok (.ladd, 1) := by decide +kernel
theorem dX5_digest_137 : decode cX5_digest 137 = .ok (.lstore_n 1, 1) := by decide +kernel
theorem dX5_digest_138 : decode cX5_digest 138 = .ok (.iinc 4 1, 3) := by decide +kernel
theorem dX5_digest_141 : decode cX5_digest 141 = .ok (.goto (-31), 3) := by decide +kernel
theorem dX5_digest_144 : decode cX5_digest 144 = .ok (.iinc 3 1, 3) := by decide +kernel
theorem dX5_digest_147 : decode cX5_digest 147 = .ok (.goto (-54), 3) := by decide +kernel
theorem dX5_digest_150 : decode cX5_digest 150 = .ok (.iconst 0, 1) := by decide +kernel
theorem dX5_digest_151 : decode cX5_digest 151 = .ok (.istore_n 3, 1) := by decide +kernel
theorem dX5_digest_152 : decode cX5_digest 152 = .ok (.iload_n 3, 1) := by decide +kernel
theorem dX5_digest_153 : decode cX5_digest 153 = .ok (.bipush 12, 2) := by decide +kernel
theorem dX5_digest_155 : decode cX5_digest 155 = .ok (.if_icmp .ge 46, 3) := by decide +kernel
theorem dX5_digest_158 : decode cX5_digest 158 = .ok (.iconst 0, 1) := by decide +kernel
theorem dX5_digest_159 : decode cX5_digest 159 = .ok (.istore 4, 2) := by decide +kernel
theorem dX5_digest_161 : decode cX5_digest 161 = .ok (.iload 4, 2) := by decide +kernel
theorem dX5_digest_163 : decode cX5_digest 163 = .ok (.bipush 8, 2) := by decide +kernel
theorem dX5_digest_165 : decode cX5_digest 165 = .ok (.if_icmp .ge 30, 3) := by decide +kernel
theorem dX5_digest_168 : decode cX5_digest 168 = .ok (.lload_n 1, 1) := by decide +kernel
theorem dX5_digest_169 : decode cX5_digest 169 = .ok (.ldc2_w 197, 3) := by decide +kernel
theorem dX5_digest_172 : decode cX5_digest 172 = .ok (.lmul, 1) := by decide +kernel
theorem dX5_digest_173 : decode cX5_digest 173 = .ok (.aload_n 0, 1) := by decide +kernel
theorem dX5_digest_174 : decode cX5_digest 174 = .ok (.getfield 26, 3) := by decide +kernel
theorem dX5_digest_177 : decode cX5_digest 177 = .ok (.getfield 120, 3) := by decide +kernel
theorem dX5_digest_180 : decode cX5_digest 180 = .ok (.iload_n 3, 1) := by decide +kernel
theorem dX5_digest_181 : decode cX5_digest 181 = .ok (.iload 4, 2) := by decide +kernel
theorem dX5_digest_183 : decode cX5_digest 183 = .ok (.invokevirtual 139, 3) := by decide +kernel
theorem dX5_digest_186 : decode cX5_digest 186 = .ok (.i2l, 1) := by decide +kernel
theorem dX5_digest_187 : decode cX5_digest 187 = .ok (.ladd, 1) := by decide +kernel
theorem dX5_digest_188 : decode cX5_digest 188 = .ok (.lstore_n 1, 1) := by decide +kernel
theorem dX5_digest_189 : decode cX5_digest 189 = .ok (.iinc 4 1, 3) := by decide +kernel
theorem dX5_digest_192 : decode cX5_digest 192 = .ok (.goto (-31), 3) := by decide +kernel
theorem dX5_digest_195 : decode cX5_digest 195 = .ok (.iinc 3 1, 3) := by decide +kernel
theorem dX5_digest_198 : decode cX5_digest 198 = .ok (.goto (-46), 3) := by decide +kernel
theorem dX5_digest_201 : decode cX5_digest 201 = .ok (.lload_n 1, 1) := by decide +kernel
theorem dX5_digest_202 : decode cX5_digest 202 = .ok (.lreturn, 1) := by decide +kernel
theorem dX5_isColumn_0 : decode cX5_isColumn 0 = .ok (.iload_n 0, 1) := by decide +kernel
theorem dX5_isColumn_1 : decode cX5_isColumn 1 = .ok (.ifCond .lt 13, 3) := by decide +kernel
theorem dX5_isColumn_4 : decode cX5_isColumn 4 = .ok (.iload_n 0, 1) := by decide +kernel
theorem dX5_isColumn_5 : decode cX5_isColumn 5 = .ok (.bipush 12, 2) := by decide +kernel
theorem dX5_isColumn_7 : decode cX5_isColumn 7 = .ok (.if_icmp .ge 7, 3) := by decide +kernel
theorem dX5_isColumn_10 : decode cX5_isColumn 10 = .ok (.iconst 1, 1) := by decide +kernel
theorem dX5_isColumn_11 : decode cX5_isColumn 11 = .ok (.goto 4, 3) := by decide +kernel
theorem dX5_isColumn_14 : decode cX5_isColumn 14 = .ok (.iconst 0, 1) := by decide +kernel
theorem dX5_isColumn_15 : decode cX5_isColumn 15 = .ok (.ireturn, 1) := by decide +kernel
theorem dX5_isWindow_0 : decode cX5_isWindow 0 = .ok (.iload_n 1, 1) := by decide +kernel
theorem dX5_isWindow_1 : decode cX5_isWindow 1 = .ok (.ifCond .lt 18, 3) := by decide +kernel
theorem dX5_isWindow_4 : decode cX5_isWindow 4 = .ok (.iload_n 1, 1) := by decide +kernel
theorem dX5_isWindow_5 : decode cX5_isWindow 5 = .ok (.aload_n 0, 1) := by decide +kernel
theorem dX5_isWindow_6 : decode cX5_isWindow 6 = .ok (.getfield 12, 3) := by decide +kernel
theorem dX5_isWindow_9 : decode cX5_isWindow 9 = .ok (.getfield 45, 3) := by decide +kernel
theorem dX5_isWindow_12 : decode cX5_isWindow 12 = .ok (.if_icmp .ge 7, 3) := by decide +kernel
theorem dX5_isWindow_15 : decode cX5_isWindow 15 = .ok (.iconst 1, 1) := by decide +kernel
theorem dX5_isWindow_16 : decode cX5_isWindow 16 = .ok (.goto 4, 3) := by decide +kernel
theorem dX5_isWindow_19 : decode cX5_isWindow 19 = .ok (.iconst 0, 1) := by decide +kernel
theorem dX5_isWindow_20 : decode cX5_isWindow 20 = .ok (.ireturn, 1) := by decide +kernel
theorem dX5_isRope_0 : decode cX5_isRope 0 = .ok (.iload_n 1, 1) := by decide +kernel
theorem dX5_isRope_1 : decode cX5_isRope 1 = .ok (.ifCond .lt 21, 3) := by decide +kernel
theorem dX5_isRope_4 : decode cX5_isRope 4 = .ok (.iload_n 1, 1) := by decide +kernel
theorem dX5_isRope_5 : decode cX5_isRope 5 = .ok (.aload_n 0, 1) := by decide +kernel
theorem dX5_isRope_6 : decode cX5_isRope 6 = .ok (.getfield 26, 3) := by decide +kernel
theorem dX5_isRope_9 : decode cX5_isRope 9 = .ok (.getfield 66, 3) := by decide +kernel
theorem dX5_isRope_12 : decode cX5_isRope 12 = .ok (.getfield 70, 3) := by decide +kernel
theorem dX5_isRope_15 : decode cX5_isRope 15 = .ok (.if_icmp .ge 7, 3) := by decide +kernel
theorem dX5_isRope_18 : decode cX5_isRope 18 = .ok (.iconst 1, 1) := by decide +kernel
theorem dX5_isRope_19 : decode cX5_isRope 19 = .ok (.goto 4, 3) := by decide +kernel
theorem dX5_isRope_22 : decode cX5_isRope 22 = .ok (.iconst 0, 1) := by decide +kernel
theorem dX5_isRope_23 : decode cX5_isRope 23 = .ok (.ireturn, 1) := by decide +kernel
set_option maxRecDepth 20000 in
theorem ggX5_number_X2_total : GoodIn wsX5_number wsX2_total := goodIn_r _ [8, 9, 78] (by decide +kernel) (by decide +kernel)
set_option maxRecDepth 20000 in
theorem gX5_number_X2_total : GoodIn wsX5_number (wsV RX5 172 RX2 yX2_total wsX2_total) := goodIn_app (goodIn_of _ (by decide +kernel)) ggX5_number_X2_total
set_option maxRecDepth 20000 in
theorem ggX5_number_X2_cleanPanes : GoodIn wsX5_number wsX2_cleanPanes := goodIn_r _ [13, 9, 78] (by decide +kernel) (by decide +kernel)
set_option maxRecDepth 20000 in
theorem gX5_number_X2_cleanPanes : GoodIn wsX5_number (wsV RX5 199 RX2 yX2_cleanPanes wsX2_cleanPanes) := goodIn_app (goodIn_of _ (by decide +kernel)) ggX5_number_X2_cleanPanes
set_option maxRecDepth 20000 in
theorem ggX5_number_X3_allCleaned : GoodIn wsX5_number wsX3_allCleaned := goodIn_r _ [18, 19, 20, 68, 69, 70, 71, 72, 73, 74] (by decide +kernel) (by decide +kernel)
set_option maxRecDepth 20000 in
theorem gX5_number_X3_allCleaned : GoodIn wsX5_number (wsV RX5 176 RX3 yX3_allCleaned wsX3_allCleaned) := goodIn_app (goodIn_of _ (by decide +kernel)) ggX5_number_X3_allCleaned
set_option maxRecDepth 20000 in
theorem ggX5_number_X4_allBring : GoodIn wsX5_number wsX4_allBring := goodIn_r _ [25, 26, 27, 28, 29, 24, 30, 31, 32, 33, 34, 35, 36, 37, 38, 39, 40, 41, 42, 43, 44, 45, 46, 47, 48, 49, 50, 7, 51, 9, 62, 63, 64, 65, 66, 67, 78] (by decide +kernel) (by decide +kernel)
set_option maxRecDepth 20000 in
theorem gX5_number_X4_allBring : GoodIn wsX5_number (wsV RX5 205 RX4 yX4_allBring wsX4_allBring) := goodIn_app (goodIn_of _ (by decide +kernel)) ggX5_number_X4_allBring
theorem dX5_number_0 : decode cX5_number 0 = .ok (.iload_n 1, 1) := by decide +kernel
theorem dX5_number_1 : decode cX5_number 1 = .ok (.tableswitch 147 0 9 #[55, 63, 71, 82, 90, 98, 109, 120, 131, 139], 55) := by decide +kernel
theorem dX5_number_56 : decode cX5_number 56 = .ok (.aload_n 0, 1) := by decide +kernel
theorem dX5_number_57 : decode cX5_number 57 = .ok (.getfield 26, 3) := by decide +kernel
theorem dX5_number_60 : decode cX5_number 60 = .ok (.getfield 159, 3) := by decide +kernel
theorem dX5_number_63 : decode cX5_number 63 = .ok (.ireturn, 1) := by decide +kernel
theorem dX5_number_64 : decode cX5_number 64 = .ok (.aload_n 0, 1) := by decide +kernel
theorem dX5_number_65 : decode cX5_number 65 = .ok (.getfield 12, 3) := by decide +kernel
theorem dX5_number_68 : decode cX5_number 68 = .ok (.getfield 45, 3) := by decide +kernel
theorem dX5_number_71 : decode cX5_number 71 = .ok (.ireturn, 1) := by decide +kernel
theorem dX5_number_72 : decode cX5_number 72 = .ok (.aload_n 0, 1) := by decide +kernel
theorem dX5_number_73 : decode cX5_number 73 = .ok (.getfield 26, 3) := by decide +kernel
theorem dX5_number_76 : decode cX5_number 76 = .ok (.getfield 66, 3) := by decide +kernel
theorem dX5_number_79 : decode cX5_number 79 = .ok (.getfield 70, 3) := by decide +kernel
theorem dX5_number_82 : decode cX5_number 82 = .ok (.ireturn, 1) := by decide +kernel
theorem dX5_number_83 : decode cX5_number 83 = .ok (.aload_n 0, 1) := by decide +kernel
theorem dX5_number_84 : decode cX5_number 84 = .ok (.getfield 19, 3) := by decide +kernel
theorem dX5_number_87 : decode cX5_number 87 = .ok (.getfield 83, 3) := by decide +kernel
theorem dX5_number_90 : decode cX5_number 90 = .ok (.ireturn, 1) := by decide +kernel
theorem dX5_number_91 : decode cX5_number 91 = .ok (.aload_n 0, 1) := by decide +kernel
theorem dX5_number_92 : decode cX5_number 92 = .ok (.getfield 26, 3) := by decide +kernel
theorem dX5_number_95 : decode cX5_number 95 = .ok (.getfield 91, 3) := by decide +kernel
theorem dX5_number_98 : decode cX5_number 98 = .ok (.ireturn, 1) := by decide +kernel
theorem dX5_number_99 : decode cX5_number 99 = .ok (.aload_n 0, 1) := by decide +kernel
theorem dX5_number_100 : decode cX5_number 100 = .ok (.getfield 26, 3) := by decide +kernel
theorem dX5_number_103 : decode cX5_number 103 = .ok (.getfield 120, 3) := by decide +kernel
theorem dX5_number_106 : decode cX5_number 106 = .ok (.invokevirtual 172, 3) := by decide +kernel
theorem dX5_number_109 : decode cX5_number 109 = .ok (.ireturn, 1) := by decide +kernel
theorem dX5_number_110 : decode cX5_number 110 = .ok (.aload_n 0, 1) := by decide +kernel
theorem dX5_number_111 : decode cX5_number 111 = .ok (.getfield 26, 3) := by decide +kernel
theorem dX5_number_114 : decode cX5_number 114 = .ok (.getfield 120, 3) := by decide +kernel
theorem dX5_number_117 : decode cX5_number 117 = .ok (.invokevirtual 199, 3) := by decide +kernel
theorem dX5_number_120 : decode cX5_number 120 = .ok (.ireturn, 1) := by decide +kernel
theorem dX5_number_121 : decode cX5_number 121 = .ok (.aload_n 0, 1) := by decide +kernel
theorem dX5_number_122 : decode cX5_number 122 = .ok (.getfield 26, 3) := by decide +kernel
theorem dX5_number_125 : decode cX5_number 125 = .ok (.getfield 66, 3) := by decide +kernel
theorem dX5_number_128 : decode cX5_number 128 = .ok (.invokevirtual 176, 3) := by decide +kernel
theorem dX5_number_131 : decode cX5_number 131 = .ok (.ireturn, 1) := by decide +kernel
theorem dX5_number_132 : decode cX5_number 132 = .ok (.aload_n 0, 1) := by decide +kernel
theorem dX5_number_133 : decode cX5_number 133 = .ok (.getfield 26, 3) := by decide +kernel
theorem dX5_number_136 : decode cX5_number 136 = .ok (.getfield 130, 3) := by decide +kernel
theorem dX5_number_139 : decode cX5_number 139 = .ok (.ireturn, 1) := by decide +kernel
theorem dX5_number_140 : decode cX5_number 140 = .ok (.aload_n 0, 1) := by decide +kernel
theorem dX5_number_141 : decode cX5_number 141 = .ok (.getfield 26, 3) := by decide +kernel
theorem dX5_number_144 : decode cX5_number 144 = .ok (.getfield 202, 3) := by decide +kernel
theorem dX5_number_147 : decode cX5_number 147 = .ok (.ireturn, 1) := by decide +kernel
theorem dX5_number_148 : decode cX5_number 148 = .ok (.aload_n 0, 1) := by decide +kernel
theorem dX5_number_149 : decode cX5_number 149 = .ok (.getfield 12, 3) := by decide +kernel
theorem dX5_number_152 : decode cX5_number 152 = .ok (.aload_n 0, 1) := by decide +kernel
theorem dX5_number_153 : decode cX5_number 153 = .ok (.getfield 26, 3) := by decide +kernel
theorem dX5_number_156 : decode cX5_number 156 = .ok (.getfield 120, 3) := by decide +kernel
theorem dX5_number_159 : decode cX5_number 159 = .ok (.invokevirtual 205, 3) := by decide +kernel
theorem dX5_number_162 : decode cX5_number 162 = .ok (.ireturn, 1) := by decide +kernel
set_option maxRecDepth 20000 in
theorem ggX5_coinsBehind_X0_copyFrom : GoodIn wsX5_coinsBehind wsX0_copyFrom := goodIn_r _ [9, 10, 11, 12, 13, 14, 15, 16, 17, 18, 19, 20, 21, 22, 23, 24, 25, 26, 27, 28, 29, 30, 31, 32, 33, 34, 35, 36, 37, 121, 122, 123, 124, 125, 126, 134, 127, 128, 129, 130, 131, 132, 133] (by decide +kernel) (by decide +kernel)
set_option maxRecDepth 20000 in
theorem gX5_coinsBehind_X0_copyFrom : GoodIn wsX5_coinsBehind (wsV RX5 168 RX0 yX0_copyFrom wsX0_copyFrom) := goodIn_app (goodIn_of _ (by decide +kernel)) ggX5_coinsBehind_X0_copyFrom
set_option maxRecDepth 20000 in
theorem ggX5_coinsBehind_X3_rehang : GoodIn wsX5_coinsBehind wsX3_rehang := goodIn_r _ [41, 32, 33, 37, 127, 128, 129, 130, 131, 132, 133] (by decide +kernel) (by decide +kernel)
set_option maxRecDepth 20000 in
theorem gX5_coinsBehind_X3_rehang : GoodIn wsX5_coinsBehind (wsV RX5 105 RX3 yX3_rehang wsX3_rehang) := goodIn_app (goodIn_of _ (by decide +kernel)) ggX5_coinsBehind_X3_rehang
set_option maxRecDepth 20000 in
theorem ggX5_coinsBehind_X0_goOneDay : GoodIn wsX5_coinsBehind wsX0_goOneDay := goodIn_r _ [45, 10, 12, 13, 14, 15, 11, 46, 47, 48, 19, 49, 21, 50, 51, 52, 53, 54, 55, 56, 57, 58, 59, 60, 61, 62, 63, 64, 65, 66, 67, 68, 69, 70, 71, 72, 73, 74, 75, 76, 77, 78, 79, 80, 81, 82, 83, 84, 85, 86, 87, 88, 89, 90, 91, 92, 93, 94, 95, 96, 97, 98, 29, 99, 31, 100, 101, 102, 103, 34, 32, 33, 36, 104, 105, 106, 107, 108, 109, 110, 111, 35, 112, 113, 114, 115, 116, 39, 40, 41, 37, 121, 122, 123, 124, 125, 126, 134, 135, 136, 137, 138, 139, 140, 141, 142, 143, 127, 128, 129, 130, 131, 132, 133] (by decide +kernel) (by decide +kernel)
set_option maxRecDepth 20000 in
theorem gX5_coinsBehind_X0_goOneDay : GoodIn wsX5_coinsBehind (wsV RX5 183 RX0 yX0_goOneDay wsX0_goOneDay) := goodIn_app (goodIn_of _ (by decide +kernel)) ggX5_coinsBehind_X0_goOneDay
theorem dX5_coinsBehind_0 : decode cX5_coinsBehind 0 = .ok (.aload_n 0, 1) := by decide +kernel
theorem dX5_coinsBehind_1 : decode cX5_coinsBehind 1 = .ok (.getfield 30, 3) := by decide +kernel
theorem dX5_coinsBehind_4 : decode cX5_coinsBehind 4 = .ok (.aload_n 0, 1) := by decide +kernel
theorem dX5_coinsBehind_5 : decode cX5_coinsBehind 5 = .ok (.getfield 26, 3) := by decide +kernel
theorem dX5_coinsBehind_8 : decode cX5_coinsBehind 8 = .ok (.invokevirtual 168, 3) := by decide +kernel
theorem dX5_coinsBehind_11 : decode cX5_coinsBehind 11 = .ok (.iload_n 3, 1) := by decide +kernel
theorem dX5_coinsBehind_12 : decode cX5_coinsBehind 12 = .ok (.aload_n 0, 1) := by decide +kernel
theorem dX5_coinsBehind_13 : decode cX5_coinsBehind 13 = .ok (.getfield 26, 3) := by decide +kernel
theorem dX5_coinsBehind_16 : decode cX5_coinsBehind 16 = .ok (.getfield 66, 3) := by decide +kernel
theorem dX5_coinsBehind_19 : decode cX5_coinsBehind 19 = .ok (.getfield 101, 3) := by decide +kernel
theorem dX5_coinsBehind_22 : decode cX5_coinsBehind 22 = .ok (.iload_n 2, 1) := by decide +kernel
theorem dX5_coinsBehind_23 : decode cX5_coinsBehind 23 = .ok (.iaload, 1) := by decide +kernel
theorem dX5_coinsBehind_24 : decode cX5_coinsBehind 24 = .ok (.if_icmp .eq 15, 3) := by decide +kernel
theorem dX5_coinsBehind_27 : decode cX5_coinsBehind 27 = .ok (.aload_n 0, 1) := by decide +kernel
theorem dX5_coinsBehind_28 : decode cX5_coinsBehind 28 = .ok (.getfield 30, 3) := by decide +kernel
theorem dX5_coinsBehind_31 : decode cX5_coinsBehind 31 = .ok (.getfield 66, 3) := by decide +kernel
theorem dX5_coinsBehind_34 : decode cX5_coinsBehind 34 = .ok (.iload_n 2, 1) := by decide +kernel
theorem dX5_coinsBehind_35 : decode cX5_coinsBehind 35 = .ok (.iload_n 3, 1) := by decide +kernel
theorem dX5_coinsBehind_36 : decode cX5_coinsBehind 36 = .ok (.invokevirtual 105, 3) := by decide +kernel
theorem dX5_coinsBehind_39 : decode cX5_coinsBehind 39 = .ok (.iconst 0, 1) := by decide +kernel
theorem dX5_coinsBehind_40 : decode cX5_coinsBehind 40 = .ok (.istore 4, 2) := by decide +kernel
theorem dX5_coinsBehind_42 : decode cX5_coinsBehind 42 = .ok (.iload 4, 2) := by decide +kernel
theorem dX5_coinsBehind_44 : decode cX5_coinsBehind 44 = .ok (.iload_n 1, 1) := by decide +kernel
theorem dX5_coinsBehind_45 : decode cX5_coinsBehind 45 = .ok (.if_icmp .ge 24, 3) := by decide +kernel
theorem dX5_coinsBehind_48 : decode cX5_coinsBehind 48 = .ok (.aload_n 0, 1) := by decide +kernel
theorem dX5_coinsBehind_49 : decode cX5_coinsBehind 49 = .ok (.getfield 30, 3) := by decide +kernel
theorem dX5_coinsBehind_52 : decode cX5_coinsBehind 52 = .ok (.aload_n 0, 1) := by decide +kernel
theorem dX5_coinsBehind_53 : decode cX5_coinsBehind 53 = .ok (.getfield 12, 3) := by decide +kernel
theorem dX5_coinsBehind_56 : decode cX5_coinsBehind 56 = .ok (.aload_n 0, 1) := by decide +kernel
theorem dX5_coinsBehind_57 : decode cX5_coinsBehind 57 = .ok (.getfield 19, 3) := by decide +kernel
theorem dX5_coinsBehind_60 : decode cX5_coinsBehind 60 = .ok (.invokevirtual 183, 3) := by decide +kernel
theorem dX5_coinsBehind_63 : decode cX5_coinsBehind 63 = .ok (.iinc 4 1, 3) := by decide +kernel
theorem dX5_coinsBehind_66 : decode cX5_coinsBehind 66 = .ok (.goto (-24), 3) := by decide +kernel
theorem dX5_coinsBehind_69 : decode cX5_coinsBehind 69 = .ok (.aload_n 0, 1) := by decide +kernel
theorem dX5_coinsBehind_70 : decode cX5_coinsBehind 70 = .ok (.getfield 30, 3) := by decide +kernel
theorem dX5_coinsBehind_73 : decode cX5_coinsBehind 73 = .ok (.getfield 130, 3) := by decide +kernel
theorem dX5_coinsBehind_76 : decode cX5_coinsBehind 76 = .ok (.ireturn, 1) := by decide +kernel
theorem dX6_init_0 : decode cX6_init 0 = .ok (.aload_n 0, 1) := by decide +kernel
theorem dX6_init_1 : decode cX6_init 1 = .ok (.invokespecial 1, 3) := by decide +kernel
theorem dX6_init_4 : decode cX6_init 4 = .ok (.aload_n 0, 1) := by decide +kernel
theorem dX6_init_5 : decode cX6_init 5 = .ok (.bipush 30, 2) := by decide +kernel
theorem dX6_init_7 : decode cX6_init 7 = .ok (.newarray .int, 2) := by decide +kernel
theorem dX6_init_9 : decode cX6_init 9 = .ok (.putfield 9, 3) := by decide +kernel
theorem dX6_init_12 : decode cX6_init 12 = .ok (.aload_n 0, 1) := by decide +kernel
theorem dX6_init_13 : decode cX6_init 13 = .ok (.bipush 6, 2) := by decide +kernel
theorem dX6_init_15 : decode cX6_init 15 = .ok (.newarray .int, 2) := by decide +kernel
theorem dX6_init_17 : decode cX6_init 17 = .ok (.putfield 13, 3) := by decide +kernel
theorem dX6_init_20 : decode cX6_init 20 = .ok (.aload_n 0, 1) := by decide +kernel
theorem dX6_init_21 : decode cX6_init 21 = .ok (.iconst 4, 1) := by decide +kernel
theorem dX6_init_22 : decode cX6_init 22 = .ok (.newarray .int, 2) := by decide +kernel
theorem dX6_init_24 : decode cX6_init 24 = .ok (.putfield 16, 3) := by decide +kernel
theorem dX6_init_27 : decode cX6_init 27 = .ok (.aload_n 0, 1) := by decide +kernel
theorem dX6_init_28 : decode cX6_init 28 = .ok (.iconst 4, 1) := by decide +kernel
theorem dX6_init_29 : decode cX6_init 29 = .ok (.newarray .int, 2) := by decide +kernel
theorem dX6_init_31 : decode cX6_init 31 = .ok (.putfield 19, 3) := by decide +kernel
theorem dX6_init_34 : decode cX6_init 34 = .ok (.aload_n 0, 1) := by decide +kernel
theorem dX6_init_35 : decode cX6_init 35 = .ok (.sipush 130, 3) := by decide +kernel
theorem dX6_init_38 : decode cX6_init 38 = .ok (.newarray .int, 2) := by decide +kernel
theorem dX6_init_40 : decode cX6_init 40 = .ok (.putfield 22, 3) := by decide +kernel
theorem dX6_init_43 : decode cX6_init 43 = .ok (.aload_n 0, 1) := by decide +kernel
theorem dX6_init_44 : decode cX6_init 44 = .ok (.sipush 130, 3) := by decide +kernel
theorem dX6_init_47 : decode cX6_init 47 = .ok (.newarray .int, 2) := by decide +kernel
theorem dX6_init_49 : decode cX6_init 49 = .ok (.putfield 25, 3) := by decide +kernel
theorem dX6_init_52 : decode cX6_init 52 = .ok (.return_, 1) := by decide +kernel
theorem dX6_thrown_0 : decode cX6_thrown 0 = .ok (.aload_n 0, 1) := by decide +kernel
theorem dX6_thrown_1 : decode cX6_thrown 1 = .ok (.getfield 28, 3) := by decide +kernel
theorem dX6_thrown_4 : decode cX6_thrown 4 = .ok (.ireturn, 1) := by decide +kernel
theorem dX6_fail_0 : decode cX6_fail 0 = .ok (.aload_n 0, 1) := by decide +kernel
theorem dX6_fail_1 : decode cX6_fail 1 = .ok (.iload_n 1, 1) := by decide +kernel
theorem dX6_fail_2 : decode cX6_fail 2 = .ok (.putfield 28, 3) := by decide +kernel
theorem dX6_fail_5 : decode cX6_fail 5 = .ok (.iconst 0, 1) := by decide +kernel
theorem dX6_fail_6 : decode cX6_fail 6 = .ok (.ireturn, 1) := by decide +kernel
theorem dX6_isIn_0 : decode cX6_isIn 0 = .ok (.iload_n 0, 1) := by decide +kernel
theorem dX6_isIn_1 : decode cX6_isIn 1 = .ok (.iload_n 1, 1) := by decide +kernel
theorem dX6_isIn_2 : decode cX6_isIn 2 = .ok (.if_icmp .lt 12, 3) := by decide +kernel
theorem dX6_isIn_5 : decode cX6_isIn 5 = .ok (.iload_n 0, 1) := by decide +kernel
theorem dX6_isIn_6 : decode cX6_isIn 6 = .ok (.iload_n 2, 1) := by decide +kernel
theorem dX6_isIn_7 : decode cX6_isIn 7 = .ok (.if_icmp .gt 7, 3) := by decide +kernel
theorem dX6_isIn_10 : decode cX6_isIn 10 = .ok (.iconst 1, 1) := by decide +kernel
theorem dX6_isIn_11 : decode cX6_isIn 11 = .ok (.goto 4, 3) := by decide +kernel
theorem dX6_isIn_14 : decode cX6_isIn 14 = .ok (.iconst 0, 1) := by decide +kernel
theorem dX6_isIn_15 : decode cX6_isIn 15 = .ok (.ireturn, 1) := by decide +kernel
set_option maxRecDepth 20000 in
theorem ggX6_isWindow_X6_isIn : GoodIn wsX6_isWindow wsX6_isIn := goodIn_r _ [5] (by decide +kernel) (by decide +kernel)
set_option maxRecDepth 20000 in
theorem gX6_isWindow_X6_isIn : GoodIn wsX6_isWindow (va_wsS RX6 35 yX6_isIn wsX6_isIn) := goodIn_app (goodIn_of _ (by decide +kernel)) ggX6_isWindow_X6_isIn
theorem dX6_isWindow_0 : decode cX6_isWindow 0 = .ok (.iload_n 1, 1) := by decide +kernel
theorem dX6_isWindow_1 : decode cX6_isWindow 1 = .ok (.iconst 0, 1) := by decide +kernel
theorem dX6_isWindow_2 : decode cX6_isWindow 2 = .ok (.aload_n 0, 1) := by decide +kernel
theorem dX6_isWindow_3 : decode cX6_isWindow 3 = .ok (.getfield 32, 3) := by decide +kernel
theorem dX6_isWindow_6 : decode cX6_isWindow 6 = .ok (.iconst 1, 1) := by decide +kernel
theorem dX6_isWindow_7 : decode cX6_isWindow 7 = .ok (.isub, 1) := by decide +kernel
theorem dX6_isWindow_8 : decode cX6_isWindow 8 = .ok (.invokestatic 35, 3) := by decide +kernel
theorem dX6_isWindow_11 : decode cX6_isWindow 11 = .ok (.ireturn, 1) := by decide +kernel
set_option maxRecDepth 20000 in
theorem ggX6_isRope_X6_isIn : GoodIn wsX6_isRope wsX6_isIn := goodIn_r _ [5] (by decide +kernel) (by decide +kernel)
set_option maxRecDepth 20000 in
theorem gX6_isRope_X6_isIn : GoodIn wsX6_isRope (va_wsS RX6 35 yX6_isIn wsX6_isIn) := goodIn_app (goodIn_of _ (by decide +kernel)) ggX6_isRope_X6_isIn
theorem dX6_isRope_0 : decode cX6_isRope 0 = .ok (.iload_n 1, 1) := by decide +kernel
theorem dX6_isRope_1 : decode cX6_isRope 1 = .ok (.iconst 0, 1) := by decide +kernel
theorem dX6_isRope_2 : decode cX6_isRope 2 = .ok (.aload_n 0, 1) := by decide +kernel
theorem dX6_isRope_3 : decode cX6_isRope 3 = .ok (.getfield 39, 3) := by decide +kernel
theorem dX6_isRope_6 : decode cX6_isRope 6 = .ok (.iconst 1, 1) := by decide +kernel
theorem dX6_isRope_7 : decode cX6_isRope 7 = .ok (.isub, 1) := by decide +kernel
theorem dX6_isRope_8 : decode cX6_isRope 8 = .ok (.invokestatic 35, 3) := by decide +kernel
theorem dX6_isRope_11 : decode cX6_isRope 11 = .ok (.ireturn, 1) := by decide +kernel
theorem dX6_wi_0 : decode cX6_wi 0 = .ok (.aload_n 0, 1) := by decide +kernel
theorem dX6_wi_1 : decode cX6_wi 1 = .ok (.getfield 9, 3) := by decide +kernel
theorem dX6_wi_4 : decode cX6_wi 4 = .ok (.iconst 5, 1) := by decide +kernel
theorem dX6_wi_5 : decode cX6_wi 5 = .ok (.iload_n 1, 1) := by decide +kernel
theorem dX6_wi_6 : decode cX6_wi 6 = .ok (.imul, 1) := by decide +kernel
theorem dX6_wi_7 : decode cX6_wi 7 = .ok (.iload_n 2, 1) := by decide +kernel
theorem dX6_wi_8 : decode cX6_wi 8 = .ok (.iadd, 1) := by decide +kernel
theorem dX6_wi_9 : decode cX6_wi 9 = .ok (.iaload, 1) := by decide +kernel
theorem dX6_wi_10 : decode cX6_wi 10 = .ok (.ireturn, 1) := by decide +kernel
theorem dX6_ro_0 : decode cX6_ro 0 = .ok (.aload_n 0, 1) := by decide +kernel
theorem dX6_ro_1 : decode cX6_ro 1 = .ok (.getfield 22, 3) := by decide +kernel
theorem dX6_ro_4 : decode cX6_ro 4 = .ok (.bipush 100, 2) := by decide +kernel
theorem dX6_ro_6 : decode cX6_ro 6 = .ok (.iconst 5, 1) := by decide +kernel
theorem dX6_ro_7 : decode cX6_ro 7 = .ok (.iload_n 1, 1) := by decide +kernel
theorem dX6_ro_8 : decode cX6_ro 8 = .ok (.imul, 1) := by decide +kernel
theorem dX6_ro_9 : decode cX6_ro 9 = .ok (.iadd, 1) := by decide +kernel
theorem dX6_ro_10 : decode cX6_ro 10 = .ok (.iload_n 2, 1) := by decide +kernel
theorem dX6_ro_11 : decode cX6_ro 11 = .ok (.iadd, 1) := by decide +kernel
theorem dX6_ro_12 : decode cX6_ro 12 = .ok (.iaload, 1) := by decide +kernel
theorem dX6_ro_13 : decode cX6_ro 13 = .ok (.ireturn, 1) := by decide +kernel
theorem dX6_let_0 : decode cX6_let 0 = .ok (.aload_n 0, 1) := by decide +kernel
theorem dX6_let_1 : decode cX6_let 1 = .ok (.getfield 22, 3) := by decide +kernel
theorem dX6_let_4 : decode cX6_let 4 = .ok (.bipush 100, 2) := by decide +kernel
theorem dX6_let_6 : decode cX6_let 6 = .ok (.iconst 5, 1) := by decide +kernel
theorem dX6_let_7 : decode cX6_let 7 = .ok (.iload_n 1, 1) := by decide +kernel
theorem dX6_let_8 : decode cX6_let 8 = .ok (.imul, 1) := by decide +kernel
theorem dX6_let_9 : decode cX6_let 9 = .ok (.iadd, 1) := by decide +kernel
theorem dX6_let_10 : decode cX6_let 10 = .ok (.iload_n 2, 1) := by decide +kernel
theorem dX6_let_11 : decode cX6_let 11 = .ok (.iadd, 1) := by decide +kernel
theorem dX6_let_12 : decode cX6_let 12 = .ok (.iload_n 3, 1) := by decide +kernel
theorem dX6_let_13 : decode cX6_let 13 = .ok (.iastore, 1) := by decide +kernel
theorem dX6_let_14 : decode cX6_let 14 = .ok (.return_, 1) := by decide +kernel
theorem dX6_pane_0 : decode cX6_pane 0 = .ok (.iconst 4, 1) := by decide +kernel
theorem dX6_pane_1 : decode cX6_pane 1 = .ok (.bipush 8, 2) := by decide +kernel
theorem dX6_pane_3 : decode cX6_pane 3 = .ok (.iload_n 0, 1) := by decide +kernel
theorem dX6_pane_4 : decode cX6_pane 4 = .ok (.imul, 1) := by decide +kernel
theorem dX6_pane_5 : decode cX6_pane 5 = .ok (.iadd, 1) := by decide +kernel
theorem dX6_pane_6 : decode cX6_pane 6 = .ok (.iload_n 1, 1) := by decide +kernel
theorem dX6_pane_7 : decode cX6_pane 7 = .ok (.iadd, 1) := by decide +kernel
theorem dX6_pane_8 : decode cX6_pane 8 = .ok (.ireturn, 1) := by decide +kernel
set_option maxRecDepth 20000 in
theorem ggX6_isHung_X6_ro : GoodIn wsX6_isHung wsX6_ro := goodIn_r _ [6, 7, 8, 9, 10, 11, 12, 13, 14, 15, 16, 17] (by decide +kernel) (by decide +kernel)
set_option maxRecDepth 20000 in
theorem gX6_isHung_X6_ro : GoodIn wsX6_isHung (wsV RX6 42 RX6 yX6_ro wsX6_ro) := goodIn_app (goodIn_of _ (by decide +kernel)) ggX6_isHung_X6_ro
theorem dX6_isHung_0 : decode cX6_isHung 0 = .ok (.iconst 0, 1) := by decide +kernel
theorem dX6_isHung_1 : decode cX6_isHung 1 = .ok (.istore_n 2, 1) := by decide +kernel
theorem dX6_isHung_2 : decode cX6_isHung 2 = .ok (.iload_n 2, 1) := by decide +kernel
theorem dX6_isHung_3 : decode cX6_isHung 3 = .ok (.aload_n 0, 1) := by decide +kernel
theorem dX6_isHung_4 : decode cX6_isHung 4 = .ok (.getfield 39, 3) := by decide +kernel
theorem dX6_isHung_7 : decode cX6_isHung 7 = .ok (.if_icmp .ge 21, 3) := by decide +kernel
theorem dX6_isHung_10 : decode cX6_isHung 10 = .ok (.aload_n 0, 1) := by decide +kernel
theorem dX6_isHung_11 : decode cX6_isHung 11 = .ok (.iload_n 2, 1) := by decide +kernel
theorem dX6_isHung_12 : decode cX6_isHung 12 = .ok (.iconst 0, 1) := by decide +kernel
theorem dX6_isHung_13 : decode cX6_isHung 13 = .ok (.invokevirtual 42, 3) := by decide +kernel
theorem dX6_isHung_16 : decode cX6_isHung 16 = .ok (.iload_n 1, 1) := by decide +kernel
theorem dX6_isHung_17 : decode cX6_isHung 17 = .ok (.if_icmp .ne 5, 3) := by decide +kernel
theorem dX6_isHung_20 : decode cX6_isHung 20 = .ok (.iconst 1, 1) := by decide +kernel
theorem dX6_isHung_21 : decode cX6_isHung 21 = .ok (.ireturn, 1) := by decide +kernel
theorem dX6_isHung_22 : decode cX6_isHung 22 = .ok (.iinc 2 1, 3) := by decide +kernel
theorem dX6_isHung_25 : decode cX6_isHung 25 = .ok (.goto (-23), 3) := by decide +kernel
theorem dX6_isHung_28 : decode cX6_isHung 28 = .ok (.iconst 0, 1) := by decide +kernel
theorem dX6_isHung_29 : decode cX6_isHung 29 = .ok (.ireturn, 1) := by decide +kernel
theorem dX6_isFeastOn_0 : decode cX6_isFeastOn 0 = .ok (.iconst 0, 1) := by decide +kernel
theorem dX6_isFeastOn_1 : decode cX6_isFeastOn 1 = .ok (.istore_n 2, 1) := by decide +kernel
theorem dX6_isFeastOn_2 : decode cX6_isFeastOn 2 = .ok (.iload_n 2, 1) := by decide +kernel
theorem dX6_isFeastOn_3 : decode cX6_isFeastOn 3 = .ok (.aload_n 0, 1) := by decide +kernel
theorem dX6_isFeastOn_4 : decode cX6_isFeastOn 4 = .ok (.getfield 46, 3) := by decide +kernel
theorem dX6_isFeastOn_7 : decode cX6_isFeastOn 7 = .ok (.if_icmp .ge 28, 3) := by decide +kernel
theorem dX6_isFeastOn_10 : decode cX6_isFeastOn 10 = .ok (.iload_n 1, 1) := by decide +kernel
theorem dX6_isFeastOn_11 : decode cX6_isFeastOn 11 = .ok (.aload_n 0, 1) := by decide +kernel
theorem dX6_isFeastOn_12 : decode cX6_isFeastOn 12 = .ok (.getfield 16, 3) := by decide +kernel
theorem dX6_isFeastOn_15 : decode cX6_isFeastOn 15 = .ok (.iload_n 2, 1) := by decide +kernel
theorem dX6_isFeastOn_16 : decode cX6_isFeastOn 16 = .ok (.iaload, 1) := by decide +kernel
theorem dX6_isFeastOn_17 : decode cX6_isFeastOn 17 = .ok (.irem, 1) := by decide +kernel
theorem dX6_isFeastOn_18 : decode cX6_isFeastOn 18 = .ok (.aload_n 0, 1) := by decide +kernel
theorem dX6_isFeastOn_19 : decode cX6_isFeastOn 19 = .ok (.getfield 19, 3) := by decide +kernel
theorem dX6_isFeastOn_22 : decode cX6_isFeastOn 22 = .ok (.iload_n 2, 1) := by decide +kernel
theorem dX6_isFeastOn_23 : decode cX6_isFeastOn 23 = .ok (.iaload, 1) := by decide +kernel
theorem dX6_isFeastOn_24 : decode cX6_isFeastOn 24 = .ok (.if_icmp .ne 5, 3) := by decide +kernel
theorem dX6_isFeastOn_27 : decode cX6_isFeastOn 27 = .ok (.iconst 1, 1) := by decide +kernel
theorem dX6_isFeastOn_28 : decode cX6_isFeastOn 28 = .ok (.ireturn, 1) := by decide +kernel
theorem dX6_isFeastOn_29 : decode cX6_isFeastOn 29 = .ok (.iinc 2 1, 3) := by decide +kernel
theorem dX6_isFeastOn_32 : decode cX6_isFeastOn 32 = .ok (.goto (-30), 3) := by decide +kernel
theorem dX6_isFeastOn_35 : decode cX6_isFeastOn 35 = .ok (.iconst 0, 1) := by decide +kernel
theorem dX6_isFeastOn_36 : decode cX6_isFeastOn 36 = .ok (.ireturn, 1) := by decide +kernel
theorem dX6_keep_0 : decode cX6_keep 0 = .ok (.aload_n 0, 1) := by decide +kernel
theorem dX6_keep_1 : decode cX6_keep 1 = .ok (.getfield 22, 3) := by decide +kernel
theorem dX6_keep_4 : decode cX6_keep 4 = .ok (.iconst 0, 1) := by decide +kernel
theorem dX6_keep_5 : decode cX6_keep 5 = .ok (.aload_n 0, 1) := by decide +kernel
theorem dX6_keep_6 : decode cX6_keep 6 = .ok (.getfield 25, 3) := by decide +kernel
theorem dX6_keep_9 : decode cX6_keep 9 = .ok (.iconst 0, 1) := by decide +kernel
theorem dX6_keep_10 : decode cX6_keep 10 = .ok (.sipush 130, 3) := by decide +kernel
theorem dX6_keep_13 : decode cX6_keep 13 = .ok (.invokestatic 49, 3) := by decide +kernel
theorem dX6_keep_16 : decode cX6_keep 16 = .ok (.return_, 1) := by decide +kernel
theorem dX6_bringBack_0 : decode cX6_bringBack 0 = .ok (.aload_n 0, 1) := by decide +kernel
theorem dX6_bringBack_1 : decode cX6_bringBack 1 = .ok (.getfield 25, 3) := by decide +kernel
theorem dX6_bringBack_4 : decode cX6_bringBack 4 = .ok (.iconst 0, 1) := by decide +kernel
theorem dX6_bringBack_5 : decode cX6_bringBack 5 = .ok (.aload_n 0, 1) := by decide +kernel
theorem dX6_bringBack_6 : decode cX6_bringBack 6 = .ok (.getfield 22, 3) := by decide +kernel
theorem dX6_bringBack_9 : decode cX6_bringBack 9 = .ok (.iconst 0, 1) := by decide +kernel
theorem dX6_bringBack_10 : decode cX6_bringBack 10 = .ok (.sipush 130, 3) := by decide +kernel
theorem dX6_bringBack_13 : decode cX6_bringBack 13 = .ok (.invokestatic 49, 3) := by decide +kernel
theorem dX6_bringBack_16 : decode cX6_bringBack 16 = .ok (.return_, 1) := by decide +kernel
set_option maxRecDepth 20000 in
theorem ggX6_window_X6_isIn : GoodIn wsX6_window wsX6_isIn := goodIn_r _ [12] (by decide +kernel) (by decide +kernel)
set_option maxRecDepth 20000 in
theorem gX6_window_X6_isIn : GoodIn wsX6_window (va_wsS RX6 35 yX6_isIn wsX6_isIn) := goodIn_app (goodIn_of _ (by decide +kernel)) ggX6_window_X6_isIn
set_option maxRecDepth 20000 in
theorem ggX6_window_X6_fail : GoodIn wsX6_window wsX6_fail := goodIn_r _ [16, 1, 17, 18, 19, 20, 21, 22, 23, 24, 25, 26] (by decide +kernel) (by decide +kernel)
set_option maxRecDepth 20000 in
theorem gX6_window_X6_fail : GoodIn wsX6_window (wsV RX6 55 RX6 yX6_fail wsX6_fail) := goodIn_app (goodIn_of _ (by decide +kernel)) ggX6_window_X6_fail
theorem dX6_window_0 : decode cX6_window 0 = .ok (.aload_n 0, 1) := by decide +kernel
theorem dX6_window_1 : decode cX6_window 1 = .ok (.iconst 0, 1) := by decide +kernel
theorem dX6_window_2 : decode cX6_window 2 = .ok (.putfield 28, 3) := by decide +kernel
theorem dX6_window_5 : decode cX6_window 5 = .ok (.iload_n 3, 1) := by decide +kernel
theorem dX6_window_6 : decode cX6_window 6 = .ok (.iconst 1, 1) := by decide +kernel
theorem dX6_window_7 : decode cX6_window 7 = .ok (.bipush 12, 2) := by decide +kernel
theorem dX6_window_9 : decode cX6_window 9 = .ok (.invokestatic 35, 3) := by decide +kernel
theorem dX6_window_12 : decode cX6_window 12 = .ok (.ifCond .eq 25, 3) := by decide +kernel
theorem dX6_window_15 : decode cX6_window 15 = .ok (.iload 4, 2) := by decide +kernel
theorem dX6_window_17 : decode cX6_window 17 = .ok (.iconst 1, 1) := by decide +kernel
theorem dX6_window_18 : decode cX6_window 18 = .ok (.bipush 8, 2) := by decide +kernel
theorem dX6_window_20 : decode cX6_window 20 = .ok (.invokestatic 35, 3) := by decide +kernel
theorem dX6_window_23 : decode cX6_window 23 = .ok (.ifCond .eq 14, 3) := by decide +kernel
theorem dX6_window_26 : decode cX6_window 26 = .ok (.iload 5, 2) := by decide +kernel
theorem dX6_window_28 : decode cX6_window 28 = .ok (.iconst 1, 1) := by decide +kernel
theorem dX6_window_29 : decode cX6_window 29 = .ok (.bipush 9, 2) := by decide +kernel
theorem dX6_window_31 : decode cX6_window 31 = .ok (.invokestatic 35, 3) := by decide +kernel
theorem dX6_window_34 : decode cX6_window 34 = .ok (.ifCond .ne 9, 3) := by decide +kernel
theorem dX6_window_37 : decode cX6_window 37 = .ok (.aload_n 0, 1) := by decide +kernel
theorem dX6_window_38 : decode cX6_window 38 = .ok (.iconst 1, 1) := by decide +kernel
theorem dX6_window_39 : decode cX6_window 39 = .ok (.invokevirtual 55, 3) := by decide +kernel
theorem dX6_window_42 : decode cX6_window 42 = .ok (.ireturn, 1) := by decide +kernel
theorem dX6_window_43 : decode cX6_window 43 = .ok (.iload_n 1, 1) := by decide +kernel
theorem dX6_window_44 : decode cX6_window 44 = .ok (.iconst 0, 1) := by decide +kernel
theorem dX6_window_45 : decode cX6_window 45 = .ok (.bipush 12, 2) := by decide +kernel
theorem dX6_window_47 : decode cX6_window 47 = .ok (.iload_n 3, 1) := by decide +kernel
theorem dX6_window_48 : decode cX6_window 48 = .ok (.isub, 1) := by decide +kernel
theorem dX6_window_49 : decode cX6_window 49 = .ok (.invokestatic 35, 3) := by decide +kernel
theorem dX6_window_52 : decode cX6_window 52 = .ok (.ifCond .eq 16, 3) := by decide +kernel
theorem dX6_window_55 : decode cX6_window 55 = .ok (.iload_n 2, 1) := by decide +kernel
theorem dX6_window_56 : decode cX6_window 56 = .ok (.iconst 0, 1) := by decide +kernel
theorem dX6_window_57 : decode cX6_window 57 = .ok (.bipush 8, 2) := by decide +kernel
theorem dX6_window_59 : decode cX6_window 59 = .ok (.iload 4, 2) := by decide +kernel
theorem dX6_window_61 : decode cX6_window 61 = .ok (.isub, 1) := by decide +kernel
theorem dX6_window_62 : decode cX6_window 62 = .ok (.invokestatic 35, 3) := by decide +kernel
theorem dX6_window_65 : decode cX6_window 65 = .ok (.ifCond .ne 9, 3) := by decide +kernel
theorem dX6_window_68 : decode cX6_window 68 = .ok (.aload_n 0, 1) := by decide +kernel
theorem dX6_window_69 : decode cX6_window 69 = .ok (.iconst 2, 1) := by decide +kernel
theorem dX6_window_70 : decode cX6_window 70 = .ok (.invokevirtual 55, 3) := by decide +kernel
theorem dX6_window_73 : decode cX6_window 73 = .ok (.ireturn, 1) := by decide +kernel
theorem dX6_window_74 : decode cX6_window 74 = .ok (.aload_n 0, 1) := by decide +kernel
theorem dX6_window_75 : decode cX6_window 75 = .ok (.getfield 32, 3) := by decide +kernel
theorem dX6_window_78 : decode cX6_window 78 = .ok (.bipush 6, 2) := by decide +kernel
theorem dX6_window_80 : decode cX6_window 80 = .ok (.if_icmp .ne 9, 3) := by decide +kernel
theorem dX6_window_83 : decode cX6_window 83 = .ok (.aload_n 0, 1) := by decide +kernel
theorem dX6_window_84 : decode cX6_window 84 = .ok (.iconst 3, 1) := by decide +kernel
theorem dX6_window_85 : decode cX6_window 85 = .ok (.invokevirtual 55, 3) := by decide +kernel
theorem dX6_window_88 : decode cX6_window 88 = .ok (.ireturn, 1) := by decide +kernel
theorem dX6_window_89 : decode cX6_window 89 = .ok (.iconst 5, 1) := by decide +kernel
theorem dX6_window_90 : decode cX6_window 90 = .ok (.newarray .int, 2) := by decide +kernel
theorem dX6_window_92 : decode cX6_window 92 = .ok (.dup, 1) := by decide +kernel
theorem dX6_window_93 : decode cX6_window 93 = .ok (.iconst 0, 1) := by decide +kernel
theorem dX6_window_94 : decode cX6_window 94 = .ok (.iload_n 1, 1) := by decide +kernel
theorem dX6_window_95 : decode cX6_window 95 = .ok (.iastore, 1) := by decide +kernel
theorem dX6_window_96 : decode cX6_window 96 = .ok (.dup, 1) := by decide +kernel
theorem dX6_window_97 : decode cX6_window 97 = .ok (.iconst 1, 1) := by decide +kernel
theorem dX6_window_98 : decode cX6_window 98 = .ok (.iload_n 2, 1) := by decide +kernel
theorem dX6_window_99 : decode cX6_window 99 = .ok (.iastore, 1) := by decide +kernel
theorem dX6_window_100 : decode cX6_window 100 = .ok (.dup, 1) := by decide +kernel
theorem dX6_window_101 : decode cX6_window 101 = .ok (.iconst 2, 1) := by decide +kernel
theorem dX6_window_102 : decode cX6_window 102 = .ok (.iload_n 3, 1) := by decide +kernel
theorem dX6_window_103 : decode cX6_window 103 = .ok (.iastore, 1) := by decide +kernel
theorem dX6_window_104 : decode cX6_window 104 = .ok (.dup, 1) := by decide +kernel
theorem dX6_window_105 : decode cX6_window 105 = .ok (.iconst 3, 1) := by decide +kernel
theorem dX6_window_106 : decode cX6_window 106 = .ok (.iload 4, 2) := by decide +kernel
theorem dX6_window_108 : decode cX6_window 108 = .ok (.iastore, 1) := by decide +kernel
theorem dX6_window_109 : decode cX6_window 109 = .ok (.dup, 1) := by decide +kernel
theorem dX6_window_110 : decode cX6_window 110 = .ok (.iconst 4, 1) := by decide +kernel
theorem dX6_window_111 : decode cX6_window 111 = .ok (.iload 5, 2) := by decide +kernel
theorem dX6_window_113 : decode cX6_window 113 = .ok (.iastore, 1) := by decide +kernel
theorem dX6_window_114 : decode cX6_window 114 = .ok (.astore 6, 2) := by decide +kernel
theorem dX6_window_116 : decode cX6_window 116 = .ok (.aload 6, 2) := by decide +kernel
theorem dX6_window_118 : decode cX6_window 118 = .ok (.iconst 0, 1) := by decide +kernel
theorem dX6_window_119 : decode cX6_window 119 = .ok (.aload_n 0, 1) := by decide +kernel
theorem dX6_window_120 : decode cX6_window 120 = .ok (.getfield 9, 3) := by decide +kernel
theorem dX6_window_123 : decode cX6_window 123 = .ok (.iconst 5, 1) := by decide +kernel
theorem dX6_window_124 : decode cX6_window 124 = .ok (.aload_n 0, 1) := by decide +kernel
theorem dX6_window_125 : decode cX6_window 125 = .ok (.getfield 32, 3) := by decide +kernel
theorem dX6_window_128 : decode cX6_window 128 = .ok (.imul, 1) := by decide +kernel
theorem dX6_window_129 : decode cX6_window 129 = .ok (.iconst 5, 1) := by decide +kernel
theorem dX6_window_130 : decode cX6_window 130 = .ok (.invokestatic 49, 3) := by decide +kernel
theorem dX6_window_133 : decode cX6_window 133 = .ok (.aload_n 0, 1) := by decide +kernel
theorem dX6_window_134 : decode cX6_window 134 = .ok (.dup, 1) := by decide +kernel
theorem dX6_window_135 : decode cX6_window 135 = .ok (.getfield 32, 3) := by decide +kernel
theorem dX6_window_138 : decode cX6_window 138 = .ok (.iconst 1, 1) := by decide +kernel
theorem dX6_window_139 : decode cX6_window 139 = .ok (.iadd, 1) := by decide +kernel
theorem dX6_window_140 : decode cX6_window 140 = .ok (.putfield 32, 3) := by decide +kernel
theorem dX6_window_143 : decode cX6_window 143 = .ok (.aload_n 0, 1) := by decide +kernel
theorem dX6_window_144 : decode cX6_window 144 = .ok (.getfield 32, 3) := by decide +kernel
theorem dX6_window_147 : decode cX6_window 147 = .ok (.iconst 1, 1) := by decide +kernel
theorem dX6_window_148 : decode cX6_window 148 = .ok (.isub, 1) := by decide +kernel
theorem dX6_window_149 : decode cX6_window 149 = .ok (.ireturn, 1) := by decide +kernel
set_option maxRecDepth 20000 in
theorem ggX6_rope_X6_isIn : GoodIn wsX6_rope wsX6_isIn := goodIn_r _ [7] (by decide +kernel) (by decide +kernel)
set_option maxRecDepth 20000 in
theorem gX6_rope_X6_isIn : GoodIn wsX6_rope (va_wsS RX6 35 yX6_isIn wsX6_isIn) := goodIn_app (goodIn_of _ (by decide +kernel)) ggX6_rope_X6_isIn
set_option maxRecDepth 20000 in
theorem ggX6_rope_X6_fail : GoodIn wsX6_rope wsX6_fail := goodIn_r _ [11, 1, 25, 26, 27, 28, 29, 30, 31, 32, 33, 34] (by decide +kernel) (by decide +kernel)
set_option maxRecDepth 20000 in
theorem gX6_rope_X6_fail : GoodIn wsX6_rope (wsV RX6 55 RX6 yX6_fail wsX6_fail) := goodIn_app (goodIn_of _ (by decide +kernel)) ggX6_rope_X6_fail
set_option maxRecDepth 20000 in
theorem ggX6_rope_X6_isHung : GoodIn wsX6_rope wsX6_isHung := goodIn_r _ [15, 2, 16, 17, 18, 6, 19, 20, 25, 26, 27, 28, 29, 30, 31, 32, 33, 34] (by decide +kernel) (by decide +kernel)
set_option maxRecDepth 20000 in
theorem gX6_rope_X6_isHung : GoodIn wsX6_rope (wsV RX6 59 RX6 yX6_isHung wsX6_isHung) := goodIn_app (goodIn_of _ (by decide +kernel)) ggX6_rope_X6_isHung
set_option maxRecDepth 20000 in
theorem ggX6_rope_X6_let : GoodIn wsX6_rope wsX6_let := goodIn_r _ [24, 20, 25, 26, 27, 28, 29, 30, 31, 32, 33, 34] (by decide +kernel) (by decide +kernel)
set_option maxRecDepth 20000 in
theorem gX6_rope_X6_let : GoodIn wsX6_rope (wsV RX6 63 RX6 yX6_let wsX6_let) := goodIn_app (goodIn_of _ (by decide +kernel)) ggX6_rope_X6_let
theorem dX6_rope_0 : decode cX6_rope 0 = .ok (.aload_n 0, 1) := by decide +kernel
theorem dX6_rope_1 : decode cX6_rope 1 = .ok (.iconst 0, 1) := by decide +kernel
theorem dX6_rope_2 : decode cX6_rope 2 = .ok (.putfield 28, 3) := by decide +kernel
theorem dX6_rope_5 : decode cX6_rope 5 = .ok (.iload_n 1, 1) := by decide +kernel
theorem dX6_rope_6 : decode cX6_rope 6 = .ok (.iconst 0, 1) := by decide +kernel
theorem dX6_rope_7 : decode cX6_rope 7 = .ok (.bipush 11, 2) := by decide +kernel
theorem dX6_rope_9 : decode cX6_rope 9 = .ok (.invokestatic 35, 3) := by decide +kernel
theorem dX6_rope_12 : decode cX6_rope 12 = .ok (.ifCond .ne 9, 3) := by decide +kernel
theorem dX6_rope_15 : decode cX6_rope 15 = .ok (.aload_n 0, 1) := by decide +kernel
theorem dX6_rope_16 : decode cX6_rope 16 = .ok (.iconst 1, 1) := by decide +kernel
theorem dX6_rope_17 : decode cX6_rope 17 = .ok (.invokevirtual 55, 3) := by decide +kernel
theorem dX6_rope_20 : decode cX6_rope 20 = .ok (.ireturn, 1) := by decide +kernel
theorem dX6_rope_21 : decode cX6_rope 21 = .ok (.iload_n 2, 1) := by decide +kernel
theorem dX6_rope_22 : decode cX6_rope 22 = .ok (.iconst 1, 1) := by decide +kernel
theorem dX6_rope_23 : decode cX6_rope 23 = .ok (.bipush 30, 2) := by decide +kernel
theorem dX6_rope_25 : decode cX6_rope 25 = .ok (.invokestatic 35, 3) := by decide +kernel
theorem dX6_rope_28 : decode cX6_rope 28 = .ok (.ifCond .ne 9, 3) := by decide +kernel
theorem dX6_rope_31 : decode cX6_rope 31 = .ok (.aload_n 0, 1) := by decide +kernel
theorem dX6_rope_32 : decode cX6_rope 32 = .ok (.iconst 2, 1) := by decide +kernel
theorem dX6_rope_33 : decode cX6_rope 33 = .ok (.invokevirtual 55, 3) := by decide +kernel
theorem dX6_rope_36 : decode cX6_rope 36 = .ok (.ireturn, 1) := by decide +kernel
theorem dX6_rope_37 : decode cX6_rope 37 = .ok (.aload_n 0, 1) := by decide +kernel
theorem dX6_rope_38 : decode cX6_rope 38 = .ok (.getfield 39, 3) := by decide +kernel
theorem dX6_rope_41 : decode cX6_rope 41 = .ok (.bipush 6, 2) := by decide +kernel
theorem dX6_rope_43 : decode cX6_rope 43 = .ok (.if_icmp .eq 11, 3) := by decide +kernel
theorem dX6_rope_46 : decode cX6_rope 46 = .ok (.aload_n 0, 1) := by decide +kernel
theorem dX6_rope_47 : decode cX6_rope 47 = .ok (.iload_n 1, 1) := by decide +kernel
theorem dX6_rope_48 : decode cX6_rope 48 = .ok (.invokevirtual 59, 3) := by decide +kernel
theorem dX6_rope_51 : decode cX6_rope 51 = .ok (.ifCond .eq 9, 3) := by decide +kernel
theorem dX6_rope_54 : decode cX6_rope 54 = .ok (.aload_n 0, 1) := by decide +kernel
theorem dX6_rope_55 : decode cX6_rope 55 = .ok (.iconst 3, 1) := by decide +kernel
theorem dX6_rope_56 : decode cX6_rope 56 = .ok (.invokevirtual 55, 3) := by decide +kernel
theorem dX6_rope_59 : decode cX6_rope 59 = .ok (.ireturn, 1) := by decide +kernel
theorem dX6_rope_60 : decode cX6_rope 60 = .ok (.aload_n 0, 1) := by decide +kernel
theorem dX6_rope_61 : decode cX6_rope 61 = .ok (.getfield 13, 3) := by decide +kernel
theorem dX6_rope_64 : decode cX6_rope 64 = .ok (.aload_n 0, 1) := by decide +kernel
theorem dX6_rope_65 : decode cX6_rope 65 = .ok (.getfield 39, 3) := by decide +kernel
theorem dX6_rope_68 : decode cX6_rope 68 = .ok (.iload_n 2, 1) := by decide +kernel
theorem dX6_rope_69 : decode cX6_rope 69 = .ok (.iastore, 1) := by decide +kernel
theorem dX6_rope_70 : decode cX6_rope 70 = .ok (.aload_n 0, 1) := by decide +kernel
theorem dX6_rope_71 : decode cX6_rope 71 = .ok (.aload_n 0, 1) := by decide +kernel
theorem dX6_rope_72 : decode cX6_rope 72 = .ok (.getfield 39, 3) := by decide +kernel
theorem dX6_rope_75 : decode cX6_rope 75 = .ok (.iconst 0, 1) := by decide +kernel
theorem dX6_rope_76 : decode cX6_rope 76 = .ok (.iload_n 1, 1) := by decide +kernel
theorem dX6_rope_77 : decode cX6_rope 77 = .ok (.invokevirtual 63, 3) := by decide +kernel
theorem dX6_rope_80 : decode cX6_rope 80 = .ok (.aload_n 0, 1) := by decide +kernel
theorem dX6_rope_81 : decode cX6_rope 81 = .ok (.aload_n 0, 1) := by decide +kernel
theorem dX6_rope_82 : decode cX6_rope 82 = .ok (.getfield 39, 3) := by decide +kernel
theorem dX6_rope_85 : decode cX6_rope 85 = .ok (.iconst 2, 1) := by decide +kernel
theorem dX6_rope_86 : decode cX6_rope 86 = .ok (.iload_n 3, 1) := by decide +kernel
theorem dX6_rope_87 : decode cX6_rope 87 = .ok (.ifCond .eq 7, 3) := by decide +kernel
theorem dX6_rope_90 : decode cX6_rope 90 = .ok (.iconst 0, 1) := by decide +kernel
theorem dX6_rope_91 : decode cX6_rope 91 = .ok (.goto 4, 3) := by decide +kernel
theorem dX6_rope_94 : decode cX6_rope 94 = .ok (.iconst 1, 1) := by decide +kernel
theorem dX6_rope_95 : decode cX6_rope 95 = .ok (.invokevirtual 63, 3) := by decide +kernel
theorem dX6_rope_98 : decode cX6_rope 98 = .ok (.aload_n 0, 1) := by decide +kernel
theorem dX6_rope_99 : decode cX6_rope 99 = .ok (.dup, 1) := by decide +kernel
theorem dX6_rope_100 : decode cX6_rope 100 = .ok (.getfield 39, 3) := by decide +kernel
theorem dX6_rope_103 : decode cX6_rope 103 = .ok (.iconst 1, 1) := by decide +kernel
theorem dX6_rope_104 : decode cX6_rope 104 = .ok (.iadd, 1) := by decide +kernel
theorem dX6_rope_105 : decode cX6_rope 105 = .ok (.putfield 39, 3) := by decide +kernel
theorem dX6_rope_108 : decode cX6_rope 108 = .ok (.aload_n 0, 1) := by decide +kernel
theorem dX6_rope_109 : decode cX6_rope 109 = .ok (.getfield 39, 3) := by decide +kernel
theorem dX6_rope_112 : decode cX6_rope 112 = .ok (.iconst 1, 1) := by decide +kernel
theorem dX6_rope_113 : decode cX6_rope 113 = .ok (.isub, 1) := by decide +kernel
theorem dX6_rope_114 : decode cX6_rope 114 = .ok (.ireturn, 1) := by decide +kernel
set_option maxRecDepth 20000 in
theorem ggX6_feast_X6_isIn : GoodIn wsX6_feast wsX6_isIn := goodIn_r _ [8] (by decide +kernel) (by decide +kernel)
set_option maxRecDepth 20000 in
theorem gX6_feast_X6_isIn : GoodIn wsX6_feast (va_wsS RX6 35 yX6_isIn wsX6_isIn) := goodIn_app (goodIn_of _ (by decide +kernel)) ggX6_feast_X6_isIn
set_option maxRecDepth 20000 in
theorem ggX6_feast_X6_fail : GoodIn wsX6_feast wsX6_fail := goodIn_r _ [12, 1, 13, 14, 15, 16, 17, 18, 19, 20, 21, 22] (by decide +kernel) (by decide +kernel)
set_option maxRecDepth 20000 in
theorem gX6_feast_X6_fail : GoodIn wsX6_feast (wsV RX6 55 RX6 yX6_fail wsX6_fail) := goodIn_app (goodIn_of _ (by decide +kernel)) ggX6_feast_X6_fail
theorem dX6_feast_0 : decode cX6_feast 0 = .ok (.aload_n 0, 1) := by decide +kernel
theorem dX6_feast_1 : decode cX6_feast 1 = .ok (.iconst 0, 1) := by decide +kernel
theorem dX6_feast_2 : decode cX6_feast 2 = .ok (.putfield 28, 3) := by decide +kernel
theorem dX6_feast_5 : decode cX6_feast 5 = .ok (.iload_n 1, 1) := by decide +kernel
theorem dX6_feast_6 : decode cX6_feast 6 = .ok (.iconst 2, 1) := by decide +kernel
theorem dX6_feast_7 : decode cX6_feast 7 = .ok (.bipush 30, 2) := by decide +kernel
theorem dX6_feast_9 : decode cX6_feast 9 = .ok (.invokestatic 35, 3) := by decide +kernel
theorem dX6_feast_12 : decode cX6_feast 12 = .ok (.ifCond .eq 14, 3) := by decide +kernel
theorem dX6_feast_15 : decode cX6_feast 15 = .ok (.iload_n 2, 1) := by decide +kernel
theorem dX6_feast_16 : decode cX6_feast 16 = .ok (.iconst 0, 1) := by decide +kernel
theorem dX6_feast_17 : decode cX6_feast 17 = .ok (.iload_n 1, 1) := by decide +kernel
theorem dX6_feast_18 : decode cX6_feast 18 = .ok (.iconst 1, 1) := by decide +kernel
theorem dX6_feast_19 : decode cX6_feast 19 = .ok (.isub, 1) := by decide +kernel
theorem dX6_feast_20 : decode cX6_feast 20 = .ok (.invokestatic 35, 3) := by decide +kernel
theorem dX6_feast_23 : decode cX6_feast 23 = .ok (.ifCond .ne 9, 3) := by decide +kernel
theorem dX6_feast_26 : decode cX6_feast 26 = .ok (.aload_n 0, 1) := by decide +kernel
theorem dX6_feast_27 : decode cX6_feast 27 = .ok (.iconst 1, 1) := by decide +kernel
theorem dX6_feast_28 : decode cX6_feast 28 = .ok (.invokevirtual 55, 3) := by decide +kernel
theorem dX6_feast_31 : decode cX6_feast 31 = .ok (.ireturn, 1) := by decide +kernel
theorem dX6_feast_32 : decode cX6_feast 32 = .ok (.aload_n 0, 1) := by decide +kernel
theorem dX6_feast_33 : decode cX6_feast 33 = .ok (.getfield 46, 3) := by decide +kernel
theorem dX6_feast_36 : decode cX6_feast 36 = .ok (.iconst 4, 1) := by decide +kernel
theorem dX6_feast_37 : decode cX6_feast 37 = .ok (.if_icmp .ne 9, 3) := by decide +kernel
theorem dX6_feast_40 : decode cX6_feast 40 = .ok (.aload_n 0, 1) := by decide +kernel
theorem dX6_feast_41 : decode cX6_feast 41 = .ok (.iconst 2, 1) := by decide +kernel
theorem dX6_feast_42 : decode cX6_feast 42 = .ok (.invokevirtual 55, 3) := by decide +kernel
theorem dX6_feast_45 : decode cX6_feast 45 = .ok (.ireturn, 1) := by decide +kernel
theorem dX6_feast_46 : decode cX6_feast 46 = .ok (.aload_n 0, 1) := by decide +kernel
theorem dX6_feast_47 : decode cX6_feast 47 = .ok (.getfield 16, 3) := by decide +kernel
theorem dX6_feast_50 : decode cX6_feast 50 = .ok (.aload_n 0, 1) := by decide +kernel
theorem dX6_feast_51 : decode cX6_feast 51 = .ok (.getfield 46, 3) := by decide +kernel
theorem dX6_feast_54 : decode cX6_feast 54 = .ok (.iload_n 1, 1) := by decide +kernel
theorem dX6_feast_55 : decode cX6_feast 55 = .ok (.iastore, 1) := by decide +kernel
theorem dX6_feast_56 : decode cX6_feast 56 = .ok (.aload_n 0, 1) := by decide +kernel
theorem dX6_feast_57 : decode cX6_feast 57 = .ok (.getfield 19, 3) := by decide +kernel
theorem dX6_feast_60 : decode cX6_feast 60 = .ok (.aload_n 0, 1) := by decide +kernel
theorem dX6_feast_61 : decode cX6_feast 61 = .ok (.getfield 46, 3) := by decide +kernel
theorem dX6_feast_64 : decode cX6_feast 64 = .ok (.iload_n 2, 1) := by decide +kernel
theorem dX6_feast_65 : decode cX6_feast 65 = .ok (.iastore, 1) := by decide +kernel
theorem dX6_feast_66 : decode cX6_feast 66 = .ok (.aload_n 0, 1) := by decide +kernel
theorem dX6_feast_67 : decode cX6_feast 67 = .ok (.dup, 1) := by decide +kernel
theorem dX6_feast_68 : decode cX6_feast 68 = .ok (.getfield 46, 3) := by decide +kernel
theorem dX6_feast_71 : decode cX6_feast 71 = .ok (.iconst 1, 1) := by decide +kernel
theorem dX6_feast_72 : decode cX6_feast 72 = .ok (.iadd, 1) := by decide +kernel
theorem dX6_feast_73 : decode cX6_feast 73 = .ok (.putfield 46, 3) := by decide +kernel
theorem dX6_feast_76 : decode cX6_feast 76 = .ok (.aload_n 0, 1) := by decide +kernel
theorem dX6_feast_77 : decode cX6_feast 77 = .ok (.getfield 46, 3) := by decide +kernel
theorem dX6_feast_80 : decode cX6_feast 80 = .ok (.iconst 1, 1) := by decide +kernel
theorem dX6_feast_81 : decode cX6_feast 81 = .ok (.isub, 1) := by decide +kernel
theorem dX6_feast_82 : decode cX6_feast 82 = .ok (.ireturn, 1) := by decide +kernel
set_option maxRecDepth 20000 in
theorem ggX6_setWind_X6_isIn : GoodIn wsX6_setWind wsX6_isIn := goodIn_r _ [6] (by decide +kernel) (by decide +kernel)
set_option maxRecDepth 20000 in
theorem gX6_setWind_X6_isIn : GoodIn wsX6_setWind (va_wsS RX6 35 yX6_isIn wsX6_isIn) := goodIn_app (goodIn_of _ (by decide +kernel)) ggX6_setWind_X6_isIn
set_option maxRecDepth 20000 in
theorem ggX6_setWind_X6_fail : GoodIn wsX6_setWind wsX6_fail := goodIn_r _ [10, 1, 11, 12, 13, 14, 15, 16, 17, 18, 19, 20] (by decide +kernel) (by decide +kernel)
set_option maxRecDepth 20000 in
theorem gX6_setWind_X6_fail : GoodIn wsX6_setWind (wsV RX6 55 RX6 yX6_fail wsX6_fail) := goodIn_app (goodIn_of _ (by decide +kernel)) ggX6_setWind_X6_fail
theorem dX6_setWind_0 : decode cX6_setWind 0 = .ok (.aload_n 0, 1) := by decide +kernel
theorem dX6_setWind_1 : decode cX6_setWind 1 = .ok (.iconst 0, 1) := by decide +kernel
theorem dX6_setWind_2 : decode cX6_setWind 2 = .ok (.putfield 28, 3) := by decide +kernel
theorem dX6_setWind_5 : decode cX6_setWind 5 = .ok (.iload_n 1, 1) := by decide +kernel
theorem dX6_setWind_6 : decode cX6_setWind 6 = .ok (.bipush (-5), 2) := by decide +kernel
theorem dX6_setWind_8 : decode cX6_setWind 8 = .ok (.iconst 5, 1) := by decide +kernel
theorem dX6_setWind_9 : decode cX6_setWind 9 = .ok (.invokestatic 35, 3) := by decide +kernel
theorem dX6_setWind_12 : decode cX6_setWind 12 = .ok (.ifCond .ne 9, 3) := by decide +kernel
theorem dX6_setWind_15 : decode cX6_setWind 15 = .ok (.aload_n 0, 1) := by decide +kernel
theorem dX6_setWind_16 : decode cX6_setWind 16 = .ok (.iconst 1, 1) := by decide +kernel
theorem dX6_setWind_17 : decode cX6_setWind 17 = .ok (.invokevirtual 55, 3) := by decide +kernel
theorem dX6_setWind_20 : decode cX6_setWind 20 = .ok (.ireturn, 1) := by decide +kernel
theorem dX6_setWind_21 : decode cX6_setWind 21 = .ok (.aload_n 0, 1) := by decide +kernel
theorem dX6_setWind_22 : decode cX6_setWind 22 = .ok (.getfield 22, 3) := by decide +kernel
theorem dX6_setWind_25 : decode cX6_setWind 25 = .ok (.iconst 1, 1) := by decide +kernel
theorem dX6_setWind_26 : decode cX6_setWind 26 = .ok (.iaload, 1) := by decide +kernel
theorem dX6_setWind_27 : decode cX6_setWind 27 = .ok (.istore_n 2, 1) := by decide +kernel
theorem dX6_setWind_28 : decode cX6_setWind 28 = .ok (.aload_n 0, 1) := by decide +kernel
theorem dX6_setWind_29 : decode cX6_setWind 29 = .ok (.getfield 22, 3) := by decide +kernel
theorem dX6_setWind_32 : decode cX6_setWind 32 = .ok (.iconst 1, 1) := by decide +kernel
theorem dX6_setWind_33 : decode cX6_setWind 33 = .ok (.iload_n 1, 1) := by decide +kernel
theorem dX6_setWind_34 : decode cX6_setWind 34 = .ok (.iastore, 1) := by decide +kernel
theorem dX6_setWind_35 : decode cX6_setWind 35 = .ok (.iload_n 2, 1) := by decide +kernel
theorem dX6_setWind_36 : decode cX6_setWind 36 = .ok (.ireturn, 1) := by decide +kernel
set_option maxRecDepth 20000 in
theorem ggX6_hang_X6_let : GoodIn wsX6_hang wsX6_let := goodIn_r _ [5, 6, 11, 12, 13, 14, 15, 16, 17, 18, 19, 20] (by decide +kernel) (by decide +kernel)
set_option maxRecDepth 20000 in
theorem gX6_hang_X6_let : GoodIn wsX6_hang (wsV RX6 63 RX6 yX6_let wsX6_let) := goodIn_app (goodIn_of _ (by decide +kernel)) ggX6_hang_X6_let
set_option maxRecDepth 20000 in
theorem ggX6_hang_X6_ro : GoodIn wsX6_hang wsX6_ro := goodIn_r _ [10, 6, 11, 12, 13, 14, 15, 16, 17, 18, 19, 20] (by decide +kernel) (by decide +kernel)
set_option maxRecDepth 20000 in
theorem gX6_hang_X6_ro : GoodIn wsX6_hang (wsV RX6 42 RX6 yX6_ro wsX6_ro) := goodIn_app (goodIn_of _ (by decide +kernel)) ggX6_hang_X6_ro
theorem dX6_hang_0 : decode cX6_hang 0 = .ok (.aload_n 0, 1) := by decide +kernel
theorem dX6_hang_1 : decode cX6_hang 1 = .ok (.iload_n 1, 1) := by decide +kernel
theorem dX6_hang_2 : decode cX6_hang 2 = .ok (.iconst 0, 1) := by decide +kernel
theorem dX6_hang_3 : decode cX6_hang 3 = .ok (.iload_n 2, 1) := by decide +kernel
theorem dX6_hang_4 : decode cX6_hang 4 = .ok (.invokevirtual 63, 3) := by decide +kernel
theorem dX6_hang_7 : decode cX6_hang 7 = .ok (.aload_n 0, 1) := by decide +kernel
theorem dX6_hang_8 : decode cX6_hang 8 = .ok (.iload_n 1, 1) := by decide +kernel
theorem dX6_hang_9 : decode cX6_hang 9 = .ok (.iconst 1, 1) := by decide +kernel
theorem dX6_hang_10 : decode cX6_hang 10 = .ok (.iconst 0, 1) := by decide +kernel
theorem dX6_hang_11 : decode cX6_hang 11 = .ok (.invokevirtual 63, 3) := by decide +kernel
theorem dX6_hang_14 : decode cX6_hang 14 = .ok (.aload_n 0, 1) := by decide +kernel
theorem dX6_hang_15 : decode cX6_hang 15 = .ok (.iload_n 1, 1) := by decide +kernel
theorem dX6_hang_16 : decode cX6_hang 16 = .ok (.iconst 4, 1) := by decide +kernel
theorem dX6_hang_17 : decode cX6_hang 17 = .ok (.aload_n 0, 1) := by decide +kernel
theorem dX6_hang_18 : decode cX6_hang 18 = .ok (.iload_n 1, 1) := by decide +kernel
theorem dX6_hang_19 : decode cX6_hang 19 = .ok (.iconst 4, 1) := by decide +kernel
theorem dX6_hang_20 : decode cX6_hang 20 = .ok (.invokevirtual 42, 3) := by decide +kernel
theorem dX6_hang_23 : decode cX6_hang 23 = .ok (.iconst 1, 1) := by decide +kernel
theorem dX6_hang_24 : decode cX6_hang 24 = .ok (.iadd, 1) := by decide +kernel
theorem dX6_hang_25 : decode cX6_hang 25 = .ok (.invokevirtual 63, 3) := by decide +kernel
theorem dX6_hang_28 : decode cX6_hang 28 = .ok (.return_, 1) := by decide +kernel
set_option maxRecDepth 20000 in
theorem ggX6_move_X6_isRope : GoodIn wsX6_move wsX6_isRope := goodIn_r _ [6, 7, 8, 9, 5, 10, 32, 33, 34, 35, 36, 37, 38, 39, 40, 41] (by decide +kernel) (by decide +kernel)
set_option maxRecDepth 20000 in
theorem gX6_move_X6_isRope : GoodIn wsX6_move (wsV RX6 67 RX6 yX6_isRope wsX6_isRope) := goodIn_app (goodIn_of _ (by decide +kernel)) ggX6_move_X6_isRope
set_option maxRecDepth 20000 in
theorem ggX6_move_X6_isIn : GoodIn wsX6_move wsX6_isIn := goodIn_r _ [10] (by decide +kernel) (by decide +kernel)
set_option maxRecDepth 20000 in
theorem gX6_move_X6_isIn : GoodIn wsX6_move (va_wsS RX6 35 yX6_isIn wsX6_isIn) := goodIn_app (goodIn_of _ (by decide +kernel)) ggX6_move_X6_isIn
set_option maxRecDepth 20000 in
theorem ggX6_move_X6_fail : GoodIn wsX6_move wsX6_fail := goodIn_r _ [14, 1, 32, 33, 34, 35, 36, 37, 38, 39, 40, 41] (by decide +kernel) (by decide +kernel)
set_option maxRecDepth 20000 in
theorem gX6_move_X6_fail : GoodIn wsX6_move (wsV RX6 55 RX6 yX6_fail wsX6_fail) := goodIn_app (goodIn_of _ (by decide +kernel)) ggX6_move_X6_fail
set_option maxRecDepth 20000 in
theorem ggX6_move_X6_isHung : GoodIn wsX6_move wsX6_isHung := goodIn_r _ [18, 7, 19, 20, 21, 5, 22, 23, 32, 33, 34, 35, 36, 37, 38, 39, 40, 41] (by decide +kernel) (by decide +kernel)
set_option maxRecDepth 20000 in
theorem gX6_move_X6_isHung : GoodIn wsX6_move (wsV RX6 59 RX6 yX6_isHung wsX6_isHung) := goodIn_app (goodIn_of _ (by decide +kernel)) ggX6_move_X6_isHung
set_option maxRecDepth 20000 in
theorem ggX6_move_X6_ro : GoodIn wsX6_move wsX6_ro := goodIn_r _ [22, 23, 32, 33, 34, 35, 36, 37, 38, 39, 40, 41] (by decide +kernel) (by decide +kernel)
set_option maxRecDepth 20000 in
theorem gX6_move_X6_ro : GoodIn wsX6_move (wsV RX6 42 RX6 yX6_ro wsX6_ro) := goodIn_app (goodIn_of _ (by decide +kernel)) ggX6_move_X6_ro
set_option maxRecDepth 20000 in
theorem ggX6_move_X6_hang : GoodIn wsX6_move wsX6_hang := goodIn_r _ [27, 28, 29, 30, 5, 31, 23, 19, 20, 21, 22, 32, 33, 34, 35, 36, 37, 38, 39, 40, 41] (by decide +kernel) (by decide +kernel)
set_option maxRecDepth 20000 in
theorem gX6_move_X6_hang : GoodIn wsX6_move (wsV RX6 70 RX6 yX6_hang wsX6_hang) := goodIn_app (goodIn_of _ (by decide +kernel)) ggX6_move_X6_hang
theorem dX6_move_0 : decode cX6_move 0 = .ok (.aload_n 0, 1) := by decide +kernel
theorem dX6_move_1 : decode cX6_move 1 = .ok (.iconst 0, 1) := by decide +kernel
theorem dX6_move_2 : decode cX6_move 2 = .ok (.putfield 28, 3) := by decide +kernel
theorem dX6_move_5 : decode cX6_move 5 = .ok (.aload_n 0, 1) := by decide +kernel
theorem dX6_move_6 : decode cX6_move 6 = .ok (.iload_n 1, 1) := by decide +kernel
theorem dX6_move_7 : decode cX6_move 7 = .ok (.invokevirtual 67, 3) := by decide +kernel
theorem dX6_move_10 : decode cX6_move 10 = .ok (.ifCond .eq 13, 3) := by decide +kernel
theorem dX6_move_13 : decode cX6_move 13 = .ok (.iload_n 2, 1) := by decide +kernel
theorem dX6_move_14 : decode cX6_move 14 = .ok (.iconst 0, 1) := by decide +kernel
theorem dX6_move_15 : decode cX6_move 15 = .ok (.bipush 11, 2) := by decide +kernel
theorem dX6_move_17 : decode cX6_move 17 = .ok (.invokestatic 35, 3) := by decide +kernel
theorem dX6_move_20 : decode cX6_move 20 = .ok (.ifCond .ne 9, 3) := by decide +kernel
theorem dX6_move_23 : decode cX6_move 23 = .ok (.aload_n 0, 1) := by decide +kernel
theorem dX6_move_24 : decode cX6_move 24 = .ok (.iconst 1, 1) := by decide +kernel
theorem dX6_move_25 : decode cX6_move 25 = .ok (.invokevirtual 55, 3) := by decide +kernel
theorem dX6_move_28 : decode cX6_move 28 = .ok (.ireturn, 1) := by decide +kernel
theorem dX6_move_29 : decode cX6_move 29 = .ok (.aload_n 0, 1) := by decide +kernel
theorem dX6_move_30 : decode cX6_move 30 = .ok (.iload_n 2, 1) := by decide +kernel
theorem dX6_move_31 : decode cX6_move 31 = .ok (.invokevirtual 59, 3) := by decide +kernel
theorem dX6_move_34 : decode cX6_move 34 = .ok (.ifCond .eq 9, 3) := by decide +kernel
theorem dX6_move_37 : decode cX6_move 37 = .ok (.aload_n 0, 1) := by decide +kernel
theorem dX6_move_38 : decode cX6_move 38 = .ok (.iconst 2, 1) := by decide +kernel
theorem dX6_move_39 : decode cX6_move 39 = .ok (.invokevirtual 55, 3) := by decide +kernel
theorem dX6_move_42 : decode cX6_move 42 = .ok (.ireturn, 1) := by decide +kernel
theorem dX6_move_43 : decode cX6_move 43 = .ok (.aload_n 0, 1) := by decide +kernel
theorem dX6_move_44 : decode cX6_move 44 = .ok (.iload_n 1, 1) := by decide +kernel
theorem dX6_move_45 : decode cX6_move 45 = .ok (.iconst 0, 1) := by decide +kernel
theorem dX6_move_46 : decode cX6_move 46 = .ok (.invokevirtual 42, 3) := by decide +kernel
theorem dX6_move_49 : decode cX6_move 49 = .ok (.istore_n 3, 1) := by decide +kernel
theorem dX6_move_50 : decode cX6_move 50 = .ok (.aload_n 0, 1) := by decide +kernel
theorem dX6_move_51 : decode cX6_move 51 = .ok (.iload_n 1, 1) := by decide +kernel
theorem dX6_move_52 : decode cX6_move 52 = .ok (.iload_n 2, 1) := by decide +kernel
theorem dX6_move_53 : decode cX6_move 53 = .ok (.invokevirtual 70, 3) := by decide +kernel
theorem dX6_move_56 : decode cX6_move 56 = .ok (.iload_n 3, 1) := by decide +kernel
theorem dX6_move_57 : decode cX6_move 57 = .ok (.ireturn, 1) := by decide +kernel
set_option maxRecDepth 20000 in
theorem ggX6_turn_X6_isRope : GoodIn wsX6_turn wsX6_isRope := goodIn_r _ [6, 7, 8, 9, 5, 10, 20, 21, 22, 23, 24, 25, 26, 27, 28, 29] (by decide +kernel) (by decide +kernel)
set_option maxRecDepth 20000 in
theorem gX6_turn_X6_isRope : GoodIn wsX6_turn (wsV RX6 67 RX6 yX6_isRope wsX6_isRope) := goodIn_app (goodIn_of _ (by decide +kernel)) ggX6_turn_X6_isRope
set_option maxRecDepth 20000 in
theorem ggX6_turn_X6_ro : GoodIn wsX6_turn wsX6_ro := goodIn_r _ [14, 15, 20, 21, 22, 23, 24, 25, 26, 27, 28, 29] (by decide +kernel) (by decide +kernel)
set_option maxRecDepth 20000 in
theorem gX6_turn_X6_ro : GoodIn wsX6_turn (wsV RX6 42 RX6 yX6_ro wsX6_ro) := goodIn_app (goodIn_of _ (by decide +kernel)) ggX6_turn_X6_ro
set_option maxRecDepth 20000 in
theorem ggX6_turn_X6_let : GoodIn wsX6_turn wsX6_let := goodIn_r _ [19, 15, 20, 21, 22, 23, 24, 25, 26, 27, 28, 29] (by decide +kernel) (by decide +kernel)
set_option maxRecDepth 20000 in
theorem gX6_turn_X6_let : GoodIn wsX6_turn (wsV RX6 63 RX6 yX6_let wsX6_let) := goodIn_app (goodIn_of _ (by decide +kernel)) ggX6_turn_X6_let
theorem dX6_turn_0 : decode cX6_turn 0 = .ok (.aload_n 0, 1) := by decide +kernel
theorem dX6_turn_1 : decode cX6_turn 1 = .ok (.aload_n 0, 1) := by decide +kernel
theorem dX6_turn_2 : decode cX6_turn 2 = .ok (.iload_n 1, 1) := by decide +kernel
theorem dX6_turn_3 : decode cX6_turn 3 = .ok (.invokevirtual 67, 3) := by decide +kernel
theorem dX6_turn_6 : decode cX6_turn 6 = .ok (.ifCond .eq 7, 3) := by decide +kernel
theorem dX6_turn_9 : decode cX6_turn 9 = .ok (.iconst 0, 1) := by decide +kernel
theorem dX6_turn_10 : decode cX6_turn 10 = .ok (.goto 4, 3) := by decide +kernel
theorem dX6_turn_13 : decode cX6_turn 13 = .ok (.iconst 1, 1) := by decide +kernel
theorem dX6_turn_14 : decode cX6_turn 14 = .ok (.putfield 28, 3) := by decide +kernel
theorem dX6_turn_17 : decode cX6_turn 17 = .ok (.aload_n 0, 1) := by decide +kernel
theorem dX6_turn_18 : decode cX6_turn 18 = .ok (.getfield 28, 3) := by decide +kernel
theorem dX6_turn_21 : decode cX6_turn 21 = .ok (.ifCond .eq 5, 3) := by decide +kernel
theorem dX6_turn_24 : decode cX6_turn 24 = .ok (.iconst 0, 1) := by decide +kernel
theorem dX6_turn_25 : decode cX6_turn 25 = .ok (.ireturn, 1) := by decide +kernel
theorem dX6_turn_26 : decode cX6_turn 26 = .ok (.aload_n 0, 1) := by decide +kernel
theorem dX6_turn_27 : decode cX6_turn 27 = .ok (.iload_n 1, 1) := by decide +kernel
theorem dX6_turn_28 : decode cX6_turn 28 = .ok (.iconst 2, 1) := by decide +kernel
theorem dX6_turn_29 : decode cX6_turn 29 = .ok (.iconst 1, 1) := by decide +kernel
theorem dX6_turn_30 : decode cX6_turn 30 = .ok (.aload_n 0, 1) := by decide +kernel
theorem dX6_turn_31 : decode cX6_turn 31 = .ok (.iload_n 1, 1) := by decide +kernel
theorem dX6_turn_32 : decode cX6_turn 32 = .ok (.iconst 2, 1) := by decide +kernel
theorem dX6_turn_33 : decode cX6_turn 33 = .ok (.invokevirtual 42, 3) := by decide +kernel
theorem dX6_turn_36 : decode cX6_turn 36 = .ok (.isub, 1) := by decide +kernel
theorem dX6_turn_37 : decode cX6_turn 37 = .ok (.invokevirtual 63, 3) := by decide +kernel
theorem dX6_turn_40 : decode cX6_turn 40 = .ok (.aload_n 0, 1) := by decide +kernel
theorem dX6_turn_41 : decode cX6_turn 41 = .ok (.iload_n 1, 1) := by decide +kernel
theorem dX6_turn_42 : decode cX6_turn 42 = .ok (.iconst 2, 1) := by decide +kernel
theorem dX6_turn_43 : decode cX6_turn 43 = .ok (.invokevirtual 42, 3) := by decide +kernel
theorem dX6_turn_46 : decode cX6_turn 46 = .ok (.ifCond .ne 7, 3) := by decide +kernel
theorem dX6_turn_49 : decode cX6_turn 49 = .ok (.iconst 1, 1) := by decide +kernel
theorem dX6_turn_50 : decode cX6_turn 50 = .ok (.goto 4, 3) := by decide +kernel
theorem dX6_turn_53 : decode cX6_turn 53 = .ok (.iconst 0, 1) := by decide +kernel
theorem dX6_turn_54 : decode cX6_turn 54 = .ok (.ireturn, 1) := by decide +kernel
set_option maxRecDepth 20000 in
theorem ggX6_wipe_X6_isWindow : GoodIn wsX6_wipe wsX6_isWindow := goodIn_r _ [7, 8, 9, 10, 6, 11, 24, 25, 26, 27, 28, 29, 30, 31, 32, 33] (by decide +kernel) (by decide +kernel)
set_option maxRecDepth 20000 in
theorem gX6_wipe_X6_isWindow : GoodIn wsX6_wipe (wsV RX6 74 RX6 yX6_isWindow wsX6_isWindow) := goodIn_app (goodIn_of _ (by decide +kernel)) ggX6_wipe_X6_isWindow
set_option maxRecDepth 20000 in
theorem ggX6_wipe_X6_fail : GoodIn wsX6_wipe wsX6_fail := goodIn_r _ [15, 1, 24, 25, 26, 27, 28, 29, 30, 31, 32, 33] (by decide +kernel) (by decide +kernel)
set_option maxRecDepth 20000 in
theorem gX6_wipe_X6_fail : GoodIn wsX6_wipe (wsV RX6 55 RX6 yX6_fail wsX6_fail) := goodIn_app (goodIn_of _ (by decide +kernel)) ggX6_wipe_X6_fail
set_option maxRecDepth 20000 in
theorem ggX6_wipe_X6_wi : GoodIn wsX6_wipe wsX6_wi := goodIn_r _ [19, 20, 24, 25, 26, 27, 28, 29, 30, 31, 32, 33] (by decide +kernel) (by decide +kernel)
set_option maxRecDepth 20000 in
theorem gX6_wipe_X6_wi : GoodIn wsX6_wipe (wsV RX6 77 RX6 yX6_wi wsX6_wi) := goodIn_app (goodIn_of _ (by decide +kernel)) ggX6_wipe_X6_wi
set_option maxRecDepth 20000 in
theorem ggX6_wipe_X6_pane : GoodIn wsX6_wipe wsX6_pane := goodIn_r _ [23] (by decide +kernel) (by decide +kernel)
set_option maxRecDepth 20000 in
theorem gX6_wipe_X6_pane : GoodIn wsX6_wipe (va_wsS RX6 80 yX6_pane wsX6_pane) := goodIn_app (goodIn_of _ (by decide +kernel)) ggX6_wipe_X6_pane
theorem dX6_wipe_0 : decode cX6_wipe 0 = .ok (.aload_n 0, 1) := by decide +kernel
theorem dX6_wipe_1 : decode cX6_wipe 1 = .ok (.iconst 0, 1) := by decide +kernel
theorem dX6_wipe_2 : decode cX6_wipe 2 = .ok (.putfield 28, 3) := by decide +kernel
theorem dX6_wipe_5 : decode cX6_wipe 5 = .ok (.aload_n 0, 1) := by decide +kernel
theorem dX6_wipe_6 : decode cX6_wipe 6 = .ok (.iload_n 1, 1) := by decide +kernel
theorem dX6_wipe_7 : decode cX6_wipe 7 = .ok (.invokevirtual 74, 3) := by decide +kernel
theorem dX6_wipe_10 : decode cX6_wipe 10 = .ok (.ifCond .ne 9, 3) := by decide +kernel
theorem dX6_wipe_13 : decode cX6_wipe 13 = .ok (.aload_n 0, 1) := by decide +kernel
theorem dX6_wipe_14 : decode cX6_wipe 14 = .ok (.iconst 1, 1) := by decide +kernel
theorem dX6_wipe_15 : decode cX6_wipe 15 = .ok (.invokevirtual 55, 3) := by decide +kernel
theorem dX6_wipe_18 : decode cX6_wipe 18 = .ok (.ireturn, 1) := by decide +kernel
theorem dX6_wipe_19 : decode cX6_wipe 19 = .ok (.iconst 0, 1) := by decide +kernel
theorem dX6_wipe_20 : decode cX6_wipe 20 = .ok (.istore_n 2, 1) := by decide +kernel
theorem dX6_wipe_21 : decode cX6_wipe 21 = .ok (.aload_n 0, 1) := by decide +kernel
theorem dX6_wipe_22 : decode cX6_wipe 22 = .ok (.iload_n 1, 1) := by decide +kernel
theorem dX6_wipe_23 : decode cX6_wipe 23 = .ok (.iconst 0, 1) := by decide +kernel
theorem dX6_wipe_24 : decode cX6_wipe 24 = .ok (.invokevirtual 77, 3) := by decide +kernel
theorem dX6_wipe_27 : decode cX6_wipe 27 = .ok (.istore_n 3, 1) := by decide +kernel
theorem dX6_wipe_28 : decode cX6_wipe 28 = .ok (.iload_n 3, 1) := by decide +kernel
theorem dX6_wipe_29 : decode cX6_wipe 29 = .ok (.aload_n 0, 1) := by decide +kernel
theorem dX6_wipe_30 : decode cX6_wipe 30 = .ok (.iload_n 1, 1) := by decide +kernel
theorem dX6_wipe_31 : decode cX6_wipe 31 = .ok (.iconst 0, 1) := by decide +kernel
theorem dX6_wipe_32 : decode cX6_wipe 32 = .ok (.invokevirtual 77, 3) := by decide +kernel
theorem dX6_wipe_35 : decode cX6_wipe 35 = .ok (.aload_n 0, 1) := by decide +kernel
theorem dX6_wipe_36 : decode cX6_wipe 36 = .ok (.iload_n 1, 1) := by decide +kernel
theorem dX6_wipe_37 : decode cX6_wipe 37 = .ok (.iconst 2, 1) := by decide +kernel
theorem dX6_wipe_38 : decode cX6_wipe 38 = .ok (.invokevirtual 77, 3) := by decide +kernel
theorem dX6_wipe_41 : decode cX6_wipe 41 = .ok (.iadd, 1) := by decide +kernel
theorem dX6_wipe_42 : decode cX6_wipe 42 = .ok (.if_icmp .ge 67, 3) := by decide +kernel
theorem dX6_wipe_45 : decode cX6_wipe 45 = .ok (.aload_n 0, 1) := by decide +kernel
theorem dX6_wipe_46 : decode cX6_wipe 46 = .ok (.iload_n 1, 1) := by decide +kernel
theorem dX6_wipe_47 : decode cX6_wipe 47 = .ok (.iconst 1, 1) := by decide +kernel
theorem dX6_wipe_48 : decode cX6_wipe 48 = .ok (.invokevirtual 77, 3) := by decide +kernel
theorem dX6_wipe_51 : decode cX6_wipe 51 = .ok (.istore 4, 2) := by decide +kernel
theorem dX6_wipe_53 : decode cX6_wipe 53 = .ok (.iload 4, 2) := by decide +kernel
end
section
theorem dX6_wipe_55 : decode cX6_wipe 55 = .ok (.aload_n 0, 1) := by decide +kernel
theorem dX6_wipe_56 : decode cX6_wipe 56 = .ok (.iload_n 1, 1) := by decide +kernel
theorem dX6_wipe_57 : decode cX6_wipe 57 = .ok (.iconst 1, 1) := by decide +kernel
theorem dX6_wipe_58 : decode cX6_wipe 58 = .ok (.invokevirtual 77, 3) := by decide +kernel
theorem dX6_wipe_61 : decode cX6_wipe 61 = .ok (.aload_n 0, 1) := by decide +kernel
theorem dX6_wipe_62 : decode cX6_wipe 62 = .ok (.iload_n 1, 1) := by decide +kernel
theorem dX6_wipe_63 : decode cX6_wipe 63 = .ok (.iconst 3, 1) := by decide +kernel
theorem dX6_wipe_64 : decode cX6_wipe 64 = .ok (.invokevirtual 77, 3) := by decide +kernel
theorem dX6_wipe_67 : decode cX6_wipe 67 = .ok (.iadd, 1) := by decide +kernel
theorem dX6_wipe_68 : decode cX6_wipe 68 = .ok (.if_icmp .ge 35, 3) := by decide +kernel
theorem dX6_wipe_71 : decode cX6_wipe 71 = .ok (.iload_n 2, 1) := by decide +kernel
theorem dX6_wipe_72 : decode cX6_wipe 72 = .ok (.aload_n 0, 1) := by decide +kernel
theorem dX6_wipe_73 : decode cX6_wipe 73 = .ok (.getfield 22, 3) := by decide +kernel
theorem dX6_wipe_76 : decode cX6_wipe 76 = .ok (.iload_n 3, 1) := by decide +kernel
theorem dX6_wipe_77 : decode cX6_wipe 77 = .ok (.iload 4, 2) := by decide +kernel
theorem dX6_wipe_79 : decode cX6_wipe 79 = .ok (.invokestatic 80, 3) := by decide +kernel
theorem dX6_wipe_82 : decode cX6_wipe 82 = .ok (.iaload, 1) := by decide +kernel
theorem dX6_wipe_83 : decode cX6_wipe 83 = .ok (.iadd, 1) := by decide +kernel
theorem dX6_wipe_84 : decode cX6_wipe 84 = .ok (.istore_n 2, 1) := by decide +kernel
theorem dX6_wipe_85 : decode cX6_wipe 85 = .ok (.aload_n 0, 1) := by decide +kernel
theorem dX6_wipe_86 : decode cX6_wipe 86 = .ok (.getfield 22, 3) := by decide +kernel
theorem dX6_wipe_89 : decode cX6_wipe 89 = .ok (.iload_n 3, 1) := by decide +kernel
theorem dX6_wipe_90 : decode cX6_wipe 90 = .ok (.iload 4, 2) := by decide +kernel
theorem dX6_wipe_92 : decode cX6_wipe 92 = .ok (.invokestatic 80, 3) := by decide +kernel
theorem dX6_wipe_95 : decode cX6_wipe 95 = .ok (.iconst 0, 1) := by decide +kernel
theorem dX6_wipe_96 : decode cX6_wipe 96 = .ok (.iastore, 1) := by decide +kernel
theorem dX6_wipe_97 : decode cX6_wipe 97 = .ok (.iinc 4 1, 3) := by decide +kernel
theorem dX6_wipe_100 : decode cX6_wipe 100 = .ok (.goto (-47), 3) := by decide +kernel
theorem dX6_wipe_103 : decode cX6_wipe 103 = .ok (.iinc 3 1, 3) := by decide +kernel
theorem dX6_wipe_106 : decode cX6_wipe 106 = .ok (.goto (-78), 3) := by decide +kernel
theorem dX6_wipe_109 : decode cX6_wipe 109 = .ok (.iload_n 2, 1) := by decide +kernel
theorem dX6_wipe_110 : decode cX6_wipe 110 = .ok (.ireturn, 1) := by decide +kernel
theorem dX6_blown_0 : decode cX6_blown 0 = .ok (.iconst 0, 1) := by decide +kernel
theorem dX6_blown_1 : decode cX6_blown 1 = .ok (.aload_n 0, 1) := by decide +kernel
theorem dX6_blown_2 : decode cX6_blown 2 = .ok (.getfield 22, 3) := by decide +kernel
theorem dX6_blown_5 : decode cX6_blown 5 = .ok (.iconst 1, 1) := by decide +kernel
theorem dX6_blown_6 : decode cX6_blown 6 = .ok (.iaload, 1) := by decide +kernel
theorem dX6_blown_7 : decode cX6_blown 7 = .ok (.ifCond .lt 16, 3) := by decide +kernel
theorem dX6_blown_10 : decode cX6_blown 10 = .ok (.aload_n 0, 1) := by decide +kernel
theorem dX6_blown_11 : decode cX6_blown 11 = .ok (.getfield 22, 3) := by decide +kernel
theorem dX6_blown_14 : decode cX6_blown 14 = .ok (.iconst 1, 1) := by decide +kernel
theorem dX6_blown_15 : decode cX6_blown 15 = .ok (.iaload, 1) := by decide +kernel
theorem dX6_blown_16 : decode cX6_blown 16 = .ok (.iload_n 1, 1) := by decide +kernel
theorem dX6_blown_17 : decode cX6_blown 17 = .ok (.iconst 2, 1) := by decide +kernel
theorem dX6_blown_18 : decode cX6_blown 18 = .ok (.idiv, 1) := by decide +kernel
theorem dX6_blown_19 : decode cX6_blown 19 = .ok (.isub, 1) := by decide +kernel
theorem dX6_blown_20 : decode cX6_blown 20 = .ok (.goto 17, 3) := by decide +kernel
theorem dX6_blown_23 : decode cX6_blown 23 = .ok (.aload_n 0, 1) := by decide +kernel
theorem dX6_blown_24 : decode cX6_blown 24 = .ok (.getfield 22, 3) := by decide +kernel
theorem dX6_blown_27 : decode cX6_blown 27 = .ok (.iconst 1, 1) := by decide +kernel
theorem dX6_blown_28 : decode cX6_blown 28 = .ok (.iaload, 1) := by decide +kernel
theorem dX6_blown_29 : decode cX6_blown 29 = .ok (.ineg, 1) := by decide +kernel
theorem dX6_blown_30 : decode cX6_blown 30 = .ok (.bipush 11, 2) := by decide +kernel
theorem dX6_blown_32 : decode cX6_blown 32 = .ok (.iload_n 1, 1) := by decide +kernel
theorem dX6_blown_33 : decode cX6_blown 33 = .ok (.isub, 1) := by decide +kernel
theorem dX6_blown_34 : decode cX6_blown 34 = .ok (.iconst 2, 1) := by decide +kernel
theorem dX6_blown_35 : decode cX6_blown 35 = .ok (.idiv, 1) := by decide +kernel
theorem dX6_blown_36 : decode cX6_blown 36 = .ok (.isub, 1) := by decide +kernel
theorem dX6_blown_37 : decode cX6_blown 37 = .ok (.invokestatic 83, 3) := by decide +kernel
theorem dX6_blown_40 : decode cX6_blown 40 = .ok (.ireturn, 1) := by decide +kernel
set_option maxRecDepth 20000 in
theorem ggX6_panes_X6_wi : GoodIn wsX6_panes wsX6_wi := goodIn_r _ [5, 6, 7, 8, 9, 10, 11, 12, 13, 14, 15, 16] (by decide +kernel) (by decide +kernel)
set_option maxRecDepth 20000 in
theorem gX6_panes_X6_wi : GoodIn wsX6_panes (wsV RX6 77 RX6 yX6_wi wsX6_wi) := goodIn_app (goodIn_of _ (by decide +kernel)) ggX6_panes_X6_wi
theorem dX6_panes_0 : decode cX6_panes 0 = .ok (.aload_n 0, 1) := by decide +kernel
theorem dX6_panes_1 : decode cX6_panes 1 = .ok (.iload_n 1, 1) := by decide +kernel
theorem dX6_panes_2 : decode cX6_panes 2 = .ok (.iconst 2, 1) := by decide +kernel
theorem dX6_panes_3 : decode cX6_panes 3 = .ok (.invokevirtual 77, 3) := by decide +kernel
theorem dX6_panes_6 : decode cX6_panes 6 = .ok (.aload_n 0, 1) := by decide +kernel
theorem dX6_panes_7 : decode cX6_panes 7 = .ok (.iload_n 1, 1) := by decide +kernel
theorem dX6_panes_8 : decode cX6_panes 8 = .ok (.iconst 3, 1) := by decide +kernel
theorem dX6_panes_9 : decode cX6_panes 9 = .ok (.invokevirtual 77, 3) := by decide +kernel
theorem dX6_panes_12 : decode cX6_panes 12 = .ok (.imul, 1) := by decide +kernel
theorem dX6_panes_13 : decode cX6_panes 13 = .ok (.ireturn, 1) := by decide +kernel
set_option maxRecDepth 20000 in
theorem ggX6_sootOf_X6_wi : GoodIn wsX6_sootOf wsX6_wi := goodIn_r _ [10, 11, 15, 16, 17, 18, 19, 20, 21, 22, 23, 24] (by decide +kernel) (by decide +kernel)
set_option maxRecDepth 20000 in
theorem gX6_sootOf_X6_wi : GoodIn wsX6_sootOf (wsV RX6 77 RX6 yX6_wi wsX6_wi) := goodIn_app (goodIn_of _ (by decide +kernel)) ggX6_sootOf_X6_wi
set_option maxRecDepth 20000 in
theorem ggX6_sootOf_X6_pane : GoodIn wsX6_sootOf wsX6_pane := goodIn_r _ [14] (by decide +kernel) (by decide +kernel)
set_option maxRecDepth 20000 in
theorem gX6_sootOf_X6_pane : GoodIn wsX6_sootOf (va_wsS RX6 80 yX6_pane wsX6_pane) := goodIn_app (goodIn_of _ (by decide +kernel)) ggX6_sootOf_X6_pane
theorem dX6_sootOf_0 : decode cX6_sootOf 0 = .ok (.iconst 0, 1) := by decide +kernel
theorem dX6_sootOf_1 : decode cX6_sootOf 1 = .ok (.istore_n 3, 1) := by decide +kernel
theorem dX6_sootOf_2 : decode cX6_sootOf 2 = .ok (.iconst 0, 1) := by decide +kernel
theorem dX6_sootOf_3 : decode cX6_sootOf 3 = .ok (.istore 4, 2) := by decide +kernel
theorem dX6_sootOf_5 : decode cX6_sootOf 5 = .ok (.aload_n 0, 1) := by decide +kernel
theorem dX6_sootOf_6 : decode cX6_sootOf 6 = .ok (.iload_n 1, 1) := by decide +kernel
theorem dX6_sootOf_7 : decode cX6_sootOf 7 = .ok (.iconst 0, 1) := by decide +kernel
theorem dX6_sootOf_8 : decode cX6_sootOf 8 = .ok (.invokevirtual 77, 3) := by decide +kernel
theorem dX6_sootOf_11 : decode cX6_sootOf 11 = .ok (.istore 5, 2) := by decide +kernel
theorem dX6_sootOf_13 : decode cX6_sootOf 13 = .ok (.iload 5, 2) := by decide +kernel
theorem dX6_sootOf_15 : decode cX6_sootOf 15 = .ok (.aload_n 0, 1) := by decide +kernel
theorem dX6_sootOf_16 : decode cX6_sootOf 16 = .ok (.iload_n 1, 1) := by decide +kernel
theorem dX6_sootOf_17 : decode cX6_sootOf 17 = .ok (.iconst 0, 1) := by decide +kernel
theorem dX6_sootOf_18 : decode cX6_sootOf 18 = .ok (.invokevirtual 77, 3) := by decide +kernel
theorem dX6_sootOf_21 : decode cX6_sootOf 21 = .ok (.aload_n 0, 1) := by decide +kernel
theorem dX6_sootOf_22 : decode cX6_sootOf 22 = .ok (.iload_n 1, 1) := by decide +kernel
theorem dX6_sootOf_23 : decode cX6_sootOf 23 = .ok (.iconst 2, 1) := by decide +kernel
theorem dX6_sootOf_24 : decode cX6_sootOf 24 = .ok (.invokevirtual 77, 3) := by decide +kernel
theorem dX6_sootOf_27 : decode cX6_sootOf 27 = .ok (.iadd, 1) := by decide +kernel
theorem dX6_sootOf_28 : decode cX6_sootOf 28 = .ok (.if_icmp .ge 75, 3) := by decide +kernel
theorem dX6_sootOf_31 : decode cX6_sootOf 31 = .ok (.aload_n 0, 1) := by decide +kernel
theorem dX6_sootOf_32 : decode cX6_sootOf 32 = .ok (.iload_n 1, 1) := by decide +kernel
theorem dX6_sootOf_33 : decode cX6_sootOf 33 = .ok (.iconst 1, 1) := by decide +kernel
theorem dX6_sootOf_34 : decode cX6_sootOf 34 = .ok (.invokevirtual 77, 3) := by decide +kernel
theorem dX6_sootOf_37 : decode cX6_sootOf 37 = .ok (.istore 6, 2) := by decide +kernel
theorem dX6_sootOf_39 : decode cX6_sootOf 39 = .ok (.iload 6, 2) := by decide +kernel
theorem dX6_sootOf_41 : decode cX6_sootOf 41 = .ok (.aload_n 0, 1) := by decide +kernel
theorem dX6_sootOf_42 : decode cX6_sootOf 42 = .ok (.iload_n 1, 1) := by decide +kernel
theorem dX6_sootOf_43 : decode cX6_sootOf 43 = .ok (.iconst 1, 1) := by decide +kernel
theorem dX6_sootOf_44 : decode cX6_sootOf 44 = .ok (.invokevirtual 77, 3) := by decide +kernel
theorem dX6_sootOf_47 : decode cX6_sootOf 47 = .ok (.aload_n 0, 1) := by decide +kernel
theorem dX6_sootOf_48 : decode cX6_sootOf 48 = .ok (.iload_n 1, 1) := by decide +kernel
theorem dX6_sootOf_49 : decode cX6_sootOf 49 = .ok (.iconst 3, 1) := by decide +kernel
theorem dX6_sootOf_50 : decode cX6_sootOf 50 = .ok (.invokevirtual 77, 3) := by decide +kernel
theorem dX6_sootOf_53 : decode cX6_sootOf 53 = .ok (.iadd, 1) := by decide +kernel
theorem dX6_sootOf_54 : decode cX6_sootOf 54 = .ok (.if_icmp .ge 43, 3) := by decide +kernel
theorem dX6_sootOf_57 : decode cX6_sootOf 57 = .ok (.iload_n 3, 1) := by decide +kernel
theorem dX6_sootOf_58 : decode cX6_sootOf 58 = .ok (.aload_n 0, 1) := by decide +kernel
theorem dX6_sootOf_59 : decode cX6_sootOf 59 = .ok (.getfield 22, 3) := by decide +kernel
theorem dX6_sootOf_62 : decode cX6_sootOf 62 = .ok (.iload 5, 2) := by decide +kernel
theorem dX6_sootOf_64 : decode cX6_sootOf 64 = .ok (.iload 6, 2) := by decide +kernel
theorem dX6_sootOf_66 : decode cX6_sootOf 66 = .ok (.invokestatic 80, 3) := by decide +kernel
theorem dX6_sootOf_69 : decode cX6_sootOf 69 = .ok (.iaload, 1) := by decide +kernel
theorem dX6_sootOf_70 : decode cX6_sootOf 70 = .ok (.iadd, 1) := by decide +kernel
theorem dX6_sootOf_71 : decode cX6_sootOf 71 = .ok (.istore_n 3, 1) := by decide +kernel
theorem dX6_sootOf_72 : decode cX6_sootOf 72 = .ok (.iload 4, 2) := by decide +kernel
theorem dX6_sootOf_74 : decode cX6_sootOf 74 = .ok (.aload_n 0, 1) := by decide +kernel
theorem dX6_sootOf_75 : decode cX6_sootOf 75 = .ok (.getfield 22, 3) := by decide +kernel
theorem dX6_sootOf_78 : decode cX6_sootOf 78 = .ok (.iload 5, 2) := by decide +kernel
theorem dX6_sootOf_80 : decode cX6_sootOf 80 = .ok (.iload 6, 2) := by decide +kernel
theorem dX6_sootOf_82 : decode cX6_sootOf 82 = .ok (.invokestatic 80, 3) := by decide +kernel
theorem dX6_sootOf_85 : decode cX6_sootOf 85 = .ok (.iaload, 1) := by decide +kernel
theorem dX6_sootOf_86 : decode cX6_sootOf 86 = .ok (.invokestatic 83, 3) := by decide +kernel
theorem dX6_sootOf_89 : decode cX6_sootOf 89 = .ok (.istore 4, 2) := by decide +kernel
theorem dX6_sootOf_91 : decode cX6_sootOf 91 = .ok (.iinc 6 1, 3) := by decide +kernel
theorem dX6_sootOf_94 : decode cX6_sootOf 94 = .ok (.goto (-55), 3) := by decide +kernel
theorem dX6_sootOf_97 : decode cX6_sootOf 97 = .ok (.iinc 5 1, 3) := by decide +kernel
theorem dX6_sootOf_100 : decode cX6_sootOf 100 = .ok (.goto (-87), 3) := by decide +kernel
theorem dX6_sootOf_103 : decode cX6_sootOf 103 = .ok (.iload_n 2, 1) := by decide +kernel
theorem dX6_sootOf_104 : decode cX6_sootOf 104 = .ok (.ifCond .eq 8, 3) := by decide +kernel
theorem dX6_sootOf_107 : decode cX6_sootOf 107 = .ok (.iload 4, 2) := by decide +kernel
theorem dX6_sootOf_109 : decode cX6_sootOf 109 = .ok (.goto 4, 3) := by decide +kernel
theorem dX6_sootOf_112 : decode cX6_sootOf 112 = .ok (.iload_n 3, 1) := by decide +kernel
theorem dX6_sootOf_113 : decode cX6_sootOf 113 = .ok (.ireturn, 1) := by decide +kernel
set_option maxRecDepth 20000 in
theorem ggX6_brings_X6_wi : GoodIn wsX6_brings wsX6_wi := goodIn_r _ [9, 10, 23, 24, 25, 26, 27, 28, 29, 30, 31, 32] (by decide +kernel) (by decide +kernel)
set_option maxRecDepth 20000 in
theorem gX6_brings_X6_wi : GoodIn wsX6_brings (wsV RX6 77 RX6 yX6_wi wsX6_wi) := goodIn_app (goodIn_of _ (by decide +kernel)) ggX6_brings_X6_wi
set_option maxRecDepth 20000 in
theorem ggX6_brings_X6_panes : GoodIn wsX6_brings wsX6_panes := goodIn_r _ [14, 5, 6, 7, 8, 9, 10, 23, 24, 25, 26, 27, 28, 29, 30, 31, 32] (by decide +kernel) (by decide +kernel)
set_option maxRecDepth 20000 in
theorem gX6_brings_X6_panes : GoodIn wsX6_brings (wsV RX6 88 RX6 yX6_panes wsX6_panes) := goodIn_app (goodIn_of _ (by decide +kernel)) ggX6_brings_X6_panes
set_option maxRecDepth 20000 in
theorem ggX6_brings_X6_sootOf : GoodIn wsX6_brings wsX6_sootOf := goodIn_r _ [18, 19, 1, 2, 3, 4, 5, 6, 7, 8, 9, 10, 20, 21, 22, 23, 24, 25, 26, 27, 28, 29, 30, 31, 32] (by decide +kernel) (by decide +kernel)
set_option maxRecDepth 20000 in
theorem gX6_brings_X6_sootOf : GoodIn wsX6_brings (wsV RX6 91 RX6 yX6_sootOf wsX6_sootOf) := goodIn_app (goodIn_of _ (by decide +kernel)) ggX6_brings_X6_sootOf
theorem dX6_brings_0 : decode cX6_brings 0 = .ok (.iconst 0, 1) := by decide +kernel
theorem dX6_brings_1 : decode cX6_brings 1 = .ok (.aload_n 0, 1) := by decide +kernel
theorem dX6_brings_2 : decode cX6_brings 2 = .ok (.iload_n 1, 1) := by decide +kernel
theorem dX6_brings_3 : decode cX6_brings 3 = .ok (.iconst 4, 1) := by decide +kernel
theorem dX6_brings_4 : decode cX6_brings 4 = .ok (.invokevirtual 77, 3) := by decide +kernel
theorem dX6_brings_7 : decode cX6_brings 7 = .ok (.aload_n 0, 1) := by decide +kernel
theorem dX6_brings_8 : decode cX6_brings 8 = .ok (.iload_n 1, 1) := by decide +kernel
theorem dX6_brings_9 : decode cX6_brings 9 = .ok (.invokevirtual 88, 3) := by decide +kernel
theorem dX6_brings_12 : decode cX6_brings 12 = .ok (.imul, 1) := by decide +kernel
theorem dX6_brings_13 : decode cX6_brings 13 = .ok (.aload_n 0, 1) := by decide +kernel
theorem dX6_brings_14 : decode cX6_brings 14 = .ok (.iload_n 1, 1) := by decide +kernel
theorem dX6_brings_15 : decode cX6_brings 15 = .ok (.iconst 0, 1) := by decide +kernel
theorem dX6_brings_16 : decode cX6_brings 16 = .ok (.invokevirtual 91, 3) := by decide +kernel
theorem dX6_brings_19 : decode cX6_brings 19 = .ok (.isub, 1) := by decide +kernel
theorem dX6_brings_20 : decode cX6_brings 20 = .ok (.invokestatic 83, 3) := by decide +kernel
theorem dX6_brings_23 : decode cX6_brings 23 = .ok (.ireturn, 1) := by decide +kernel
set_option maxRecDepth 20000 in
theorem ggX6_allBring_X6_brings : GoodIn wsX6_allBring wsX6_brings := goodIn_r _ [6, 7, 8, 9, 10, 11, 12, 13, 5, 14, 15, 16, 17, 18, 19, 20, 21, 22, 23, 24, 25, 26, 27, 28, 29, 30, 31, 32, 33, 34, 35, 36, 37] (by decide +kernel) (by decide +kernel)
set_option maxRecDepth 20000 in
theorem gX6_allBring_X6_brings : GoodIn wsX6_allBring (wsV RX6 95 RX6 yX6_brings wsX6_brings) := goodIn_app (goodIn_of _ (by decide +kernel)) ggX6_allBring_X6_brings
theorem dX6_allBring_0 : decode cX6_allBring 0 = .ok (.iconst 0, 1) := by decide +kernel
theorem dX6_allBring_1 : decode cX6_allBring 1 = .ok (.istore_n 1, 1) := by decide +kernel
theorem dX6_allBring_2 : decode cX6_allBring 2 = .ok (.iconst 0, 1) := by decide +kernel
theorem dX6_allBring_3 : decode cX6_allBring 3 = .ok (.istore_n 2, 1) := by decide +kernel
theorem dX6_allBring_4 : decode cX6_allBring 4 = .ok (.iload_n 2, 1) := by decide +kernel
theorem dX6_allBring_5 : decode cX6_allBring 5 = .ok (.aload_n 0, 1) := by decide +kernel
theorem dX6_allBring_6 : decode cX6_allBring 6 = .ok (.getfield 32, 3) := by decide +kernel
theorem dX6_allBring_9 : decode cX6_allBring 9 = .ok (.if_icmp .ge 17, 3) := by decide +kernel
theorem dX6_allBring_12 : decode cX6_allBring 12 = .ok (.iload_n 1, 1) := by decide +kernel
theorem dX6_allBring_13 : decode cX6_allBring 13 = .ok (.aload_n 0, 1) := by decide +kernel
theorem dX6_allBring_14 : decode cX6_allBring 14 = .ok (.iload_n 2, 1) := by decide +kernel
theorem dX6_allBring_15 : decode cX6_allBring 15 = .ok (.invokevirtual 95, 3) := by decide +kernel
theorem dX6_allBring_18 : decode cX6_allBring 18 = .ok (.iadd, 1) := by decide +kernel
theorem dX6_allBring_19 : decode cX6_allBring 19 = .ok (.istore_n 1, 1) := by decide +kernel
theorem dX6_allBring_20 : decode cX6_allBring 20 = .ok (.iinc 2 1, 3) := by decide +kernel
theorem dX6_allBring_23 : decode cX6_allBring 23 = .ok (.goto (-19), 3) := by decide +kernel
theorem dX6_allBring_26 : decode cX6_allBring 26 = .ok (.iload_n 1, 1) := by decide +kernel
theorem dX6_allBring_27 : decode cX6_allBring 27 = .ok (.ireturn, 1) := by decide +kernel
set_option maxRecDepth 20000 in
theorem ggX6_moveOn_X6_ro : GoodIn wsX6_moveOn wsX6_ro := goodIn_r _ [5, 6, 20, 21, 22, 23, 24, 25, 26, 27, 28, 29] (by decide +kernel) (by decide +kernel)
set_option maxRecDepth 20000 in
theorem gX6_moveOn_X6_ro : GoodIn wsX6_moveOn (wsV RX6 42 RX6 yX6_ro wsX6_ro) := goodIn_app (goodIn_of _ (by decide +kernel)) ggX6_moveOn_X6_ro
set_option maxRecDepth 20000 in
theorem ggX6_moveOn_X6_isHung : GoodIn wsX6_moveOn wsX6_isHung := goodIn_r _ [10, 11, 1, 2, 3, 4, 5, 6, 20, 21, 22, 23, 24, 25, 26, 27, 28, 29] (by decide +kernel) (by decide +kernel)
set_option maxRecDepth 20000 in
theorem gX6_moveOn_X6_isHung : GoodIn wsX6_moveOn (wsV RX6 59 RX6 yX6_isHung wsX6_isHung) := goodIn_app (goodIn_of _ (by decide +kernel)) ggX6_moveOn_X6_isHung
set_option maxRecDepth 20000 in
theorem ggX6_moveOn_X6_hang : GoodIn wsX6_moveOn wsX6_hang := goodIn_r _ [15, 16, 17, 18, 4, 19, 6, 1, 2, 3, 5, 20, 21, 22, 23, 24, 25, 26, 27, 28, 29] (by decide +kernel) (by decide +kernel)
set_option maxRecDepth 20000 in
theorem gX6_moveOn_X6_hang : GoodIn wsX6_moveOn (wsV RX6 70 RX6 yX6_hang wsX6_hang) := goodIn_app (goodIn_of _ (by decide +kernel)) ggX6_moveOn_X6_hang
theorem dX6_moveOn_0 : decode cX6_moveOn 0 = .ok (.aload_n 0, 1) := by decide +kernel
theorem dX6_moveOn_1 : decode cX6_moveOn 1 = .ok (.iload_n 1, 1) := by decide +kernel
theorem dX6_moveOn_2 : decode cX6_moveOn 2 = .ok (.iconst 0, 1) := by decide +kernel
theorem dX6_moveOn_3 : decode cX6_moveOn 3 = .ok (.invokevirtual 42, 3) := by decide +kernel
theorem dX6_moveOn_6 : decode cX6_moveOn 6 = .ok (.istore_n 2, 1) := by decide +kernel
theorem dX6_moveOn_7 : decode cX6_moveOn 7 = .ok (.iload_n 2, 1) := by decide +kernel
theorem dX6_moveOn_8 : decode cX6_moveOn 8 = .ok (.aload_n 0, 1) := by decide +kernel
theorem dX6_moveOn_9 : decode cX6_moveOn 9 = .ok (.iload_n 1, 1) := by decide +kernel
theorem dX6_moveOn_10 : decode cX6_moveOn 10 = .ok (.iconst 2, 1) := by decide +kernel
theorem dX6_moveOn_11 : decode cX6_moveOn 11 = .ok (.invokevirtual 42, 3) := by decide +kernel
theorem dX6_moveOn_14 : decode cX6_moveOn 14 = .ok (.ifCond .ne 7, 3) := by decide +kernel
theorem dX6_moveOn_17 : decode cX6_moveOn 17 = .ok (.iconst 1, 1) := by decide +kernel
theorem dX6_moveOn_18 : decode cX6_moveOn 18 = .ok (.goto 5, 3) := by decide +kernel
theorem dX6_moveOn_21 : decode cX6_moveOn 21 = .ok (.bipush 11, 2) := by decide +kernel
theorem dX6_moveOn_23 : decode cX6_moveOn 23 = .ok (.iadd, 1) := by decide +kernel
theorem dX6_moveOn_24 : decode cX6_moveOn 24 = .ok (.bipush 12, 2) := by decide +kernel
theorem dX6_moveOn_26 : decode cX6_moveOn 26 = .ok (.irem, 1) := by decide +kernel
theorem dX6_moveOn_27 : decode cX6_moveOn 27 = .ok (.istore_n 2, 1) := by decide +kernel
theorem dX6_moveOn_28 : decode cX6_moveOn 28 = .ok (.aload_n 0, 1) := by decide +kernel
theorem dX6_moveOn_29 : decode cX6_moveOn 29 = .ok (.iload_n 2, 1) := by decide +kernel
theorem dX6_moveOn_30 : decode cX6_moveOn 30 = .ok (.invokevirtual 59, 3) := by decide +kernel
theorem dX6_moveOn_33 : decode cX6_moveOn 33 = .ok (.ifCond .ne (-26), 3) := by decide +kernel
theorem dX6_moveOn_36 : decode cX6_moveOn 36 = .ok (.aload_n 0, 1) := by decide +kernel
theorem dX6_moveOn_37 : decode cX6_moveOn 37 = .ok (.iload_n 1, 1) := by decide +kernel
theorem dX6_moveOn_38 : decode cX6_moveOn 38 = .ok (.iload_n 2, 1) := by decide +kernel
theorem dX6_moveOn_39 : decode cX6_moveOn 39 = .ok (.invokevirtual 70, 3) := by decide +kernel
theorem dX6_moveOn_42 : decode cX6_moveOn 42 = .ok (.return_, 1) := by decide +kernel
set_option maxRecDepth 20000 in
theorem ggX6_work_X6_ro : GoodIn wsX6_work wsX6_ro := goodIn_r _ [11, 2, 32, 33, 34, 35, 36, 37, 38, 39, 40, 41] (by decide +kernel) (by decide +kernel)
set_option maxRecDepth 20000 in
theorem gX6_work_X6_ro : GoodIn wsX6_work (wsV RX6 42 RX6 yX6_ro wsX6_ro) := goodIn_app (goodIn_of _ (by decide +kernel)) ggX6_work_X6_ro
set_option maxRecDepth 20000 in
theorem ggX6_work_X6_pane : GoodIn wsX6_work wsX6_pane := goodIn_r _ [14] (by decide +kernel) (by decide +kernel)
set_option maxRecDepth 20000 in
theorem gX6_work_X6_pane : GoodIn wsX6_work (va_wsS RX6 80 yX6_pane wsX6_pane) := goodIn_app (goodIn_of _ (by decide +kernel)) ggX6_work_X6_pane
set_option maxRecDepth 20000 in
theorem ggX6_work_X6_let : GoodIn wsX6_work wsX6_let := goodIn_r _ [18, 2, 32, 33, 34, 35, 36, 37, 38, 39, 40, 41] (by decide +kernel) (by decide +kernel)
set_option maxRecDepth 20000 in
theorem gX6_work_X6_let : GoodIn wsX6_work (wsV RX6 63 RX6 yX6_let wsX6_let) := goodIn_app (goodIn_of _ (by decide +kernel)) ggX6_work_X6_let
set_option maxRecDepth 20000 in
theorem ggX6_work_X6_moveOn : GoodIn wsX6_work wsX6_moveOn := goodIn_r _ [22, 7, 8, 9, 10, 11, 2, 23, 24, 25, 26, 27, 28, 29, 30, 31, 15, 16, 17, 18, 32, 33, 34, 35, 36, 37, 38, 39, 40, 41] (by decide +kernel) (by decide +kernel)
set_option maxRecDepth 20000 in
theorem gX6_work_X6_moveOn : GoodIn wsX6_work (wsV RX6 101 RX6 yX6_moveOn wsX6_moveOn) := goodIn_app (goodIn_of _ (by decide +kernel)) ggX6_work_X6_moveOn
theorem dX6_work_0 : decode cX6_work 0 = .ok (.aload_n 0, 1) := by decide +kernel
theorem dX6_work_1 : decode cX6_work 1 = .ok (.getfield 13, 3) := by decide +kernel
theorem dX6_work_4 : decode cX6_work 4 = .ok (.iload_n 1, 1) := by decide +kernel
theorem dX6_work_5 : decode cX6_work 5 = .ok (.iaload, 1) := by decide +kernel
theorem dX6_work_6 : decode cX6_work 6 = .ok (.istore_n 2, 1) := by decide +kernel
theorem dX6_work_7 : decode cX6_work 7 = .ok (.iload_n 2, 1) := by decide +kernel
theorem dX6_work_8 : decode cX6_work 8 = .ok (.ifCond .le 115, 3) := by decide +kernel
theorem dX6_work_11 : decode cX6_work 11 = .ok (.aload_n 0, 1) := by decide +kernel
theorem dX6_work_12 : decode cX6_work 12 = .ok (.iload_n 1, 1) := by decide +kernel
theorem dX6_work_13 : decode cX6_work 13 = .ok (.iconst 0, 1) := by decide +kernel
theorem dX6_work_14 : decode cX6_work 14 = .ok (.invokevirtual 42, 3) := by decide +kernel
theorem dX6_work_17 : decode cX6_work 17 = .ok (.aload_n 0, 1) := by decide +kernel
theorem dX6_work_18 : decode cX6_work 18 = .ok (.iload_n 1, 1) := by decide +kernel
theorem dX6_work_19 : decode cX6_work 19 = .ok (.iconst 1, 1) := by decide +kernel
theorem dX6_work_20 : decode cX6_work 20 = .ok (.invokevirtual 42, 3) := by decide +kernel
theorem dX6_work_23 : decode cX6_work 23 = .ok (.invokestatic 80, 3) := by decide +kernel
theorem dX6_work_26 : decode cX6_work 26 = .ok (.istore_n 3, 1) := by decide +kernel
theorem dX6_work_27 : decode cX6_work 27 = .ok (.iload_n 2, 1) := by decide +kernel
theorem dX6_work_28 : decode cX6_work 28 = .ok (.aload_n 0, 1) := by decide +kernel
theorem dX6_work_29 : decode cX6_work 29 = .ok (.getfield 22, 3) := by decide +kernel
theorem dX6_work_32 : decode cX6_work 32 = .ok (.iload_n 3, 1) := by decide +kernel
theorem dX6_work_33 : decode cX6_work 33 = .ok (.iaload, 1) := by decide +kernel
theorem dX6_work_34 : decode cX6_work 34 = .ok (.invokestatic 98, 3) := by decide +kernel
theorem dX6_work_37 : decode cX6_work 37 = .ok (.istore 4, 2) := by decide +kernel
theorem dX6_work_39 : decode cX6_work 39 = .ok (.aload_n 0, 1) := by decide +kernel
theorem dX6_work_40 : decode cX6_work 40 = .ok (.getfield 22, 3) := by decide +kernel
theorem dX6_work_43 : decode cX6_work 43 = .ok (.iload_n 3, 1) := by decide +kernel
theorem dX6_work_44 : decode cX6_work 44 = .ok (.dup2, 1) := by decide +kernel
theorem dX6_work_45 : decode cX6_work 45 = .ok (.iaload, 1) := by decide +kernel
theorem dX6_work_46 : decode cX6_work 46 = .ok (.iload 4, 2) := by decide +kernel
theorem dX6_work_48 : decode cX6_work 48 = .ok (.isub, 1) := by decide +kernel
theorem dX6_work_49 : decode cX6_work 49 = .ok (.iastore, 1) := by decide +kernel
theorem dX6_work_50 : decode cX6_work 50 = .ok (.iload_n 2, 1) := by decide +kernel
theorem dX6_work_51 : decode cX6_work 51 = .ok (.iload 4, 2) := by decide +kernel
theorem dX6_work_53 : decode cX6_work 53 = .ok (.isub, 1) := by decide +kernel
theorem dX6_work_54 : decode cX6_work 54 = .ok (.istore_n 2, 1) := by decide +kernel
theorem dX6_work_55 : decode cX6_work 55 = .ok (.aload_n 0, 1) := by decide +kernel
theorem dX6_work_56 : decode cX6_work 56 = .ok (.iload_n 1, 1) := by decide +kernel
theorem dX6_work_57 : decode cX6_work 57 = .ok (.iconst 3, 1) := by decide +kernel
theorem dX6_work_58 : decode cX6_work 58 = .ok (.aload_n 0, 1) := by decide +kernel
theorem dX6_work_59 : decode cX6_work 59 = .ok (.iload_n 1, 1) := by decide +kernel
theorem dX6_work_60 : decode cX6_work 60 = .ok (.iconst 3, 1) := by decide +kernel
theorem dX6_work_61 : decode cX6_work 61 = .ok (.invokevirtual 42, 3) := by decide +kernel
theorem dX6_work_64 : decode cX6_work 64 = .ok (.iload 4, 2) := by decide +kernel
theorem dX6_work_66 : decode cX6_work 66 = .ok (.iadd, 1) := by decide +kernel
theorem dX6_work_67 : decode cX6_work 67 = .ok (.invokevirtual 63, 3) := by decide +kernel
theorem dX6_work_70 : decode cX6_work 70 = .ok (.iload_n 2, 1) := by decide +kernel
theorem dX6_work_71 : decode cX6_work 71 = .ok (.ifCond .ne 4, 3) := by decide +kernel
theorem dX6_work_74 : decode cX6_work 74 = .ok (.return_, 1) := by decide +kernel
theorem dX6_work_75 : decode cX6_work 75 = .ok (.aload_n 0, 1) := by decide +kernel
theorem dX6_work_76 : decode cX6_work 76 = .ok (.iload_n 1, 1) := by decide +kernel
theorem dX6_work_77 : decode cX6_work 77 = .ok (.iconst 1, 1) := by decide +kernel
theorem dX6_work_78 : decode cX6_work 78 = .ok (.invokevirtual 42, 3) := by decide +kernel
theorem dX6_work_81 : decode cX6_work 81 = .ok (.bipush 7, 2) := by decide +kernel
theorem dX6_work_83 : decode cX6_work 83 = .ok (.if_icmp .ge 23, 3) := by decide +kernel
theorem dX6_work_86 : decode cX6_work 86 = .ok (.aload_n 0, 1) := by decide +kernel
theorem dX6_work_87 : decode cX6_work 87 = .ok (.iload_n 1, 1) := by decide +kernel
theorem dX6_work_88 : decode cX6_work 88 = .ok (.iconst 1, 1) := by decide +kernel
theorem dX6_work_89 : decode cX6_work 89 = .ok (.aload_n 0, 1) := by decide +kernel
theorem dX6_work_90 : decode cX6_work 90 = .ok (.iload_n 1, 1) := by decide +kernel
theorem dX6_work_91 : decode cX6_work 91 = .ok (.iconst 1, 1) := by decide +kernel
theorem dX6_work_92 : decode cX6_work 92 = .ok (.invokevirtual 42, 3) := by decide +kernel
theorem dX6_work_95 : decode cX6_work 95 = .ok (.iconst 1, 1) := by decide +kernel
theorem dX6_work_96 : decode cX6_work 96 = .ok (.iadd, 1) := by decide +kernel
theorem dX6_work_97 : decode cX6_work 97 = .ok (.invokevirtual 63, 3) := by decide +kernel
theorem dX6_work_100 : decode cX6_work 100 = .ok (.iinc 2 (-1), 3) := by decide +kernel
theorem dX6_work_103 : decode cX6_work 103 = .ok (.goto 17, 3) := by decide +kernel
theorem dX6_work_106 : decode cX6_work 106 = .ok (.iload_n 2, 1) := by decide +kernel
theorem dX6_work_107 : decode cX6_work 107 = .ok (.iconst 3, 1) := by decide +kernel
theorem dX6_work_108 : decode cX6_work 108 = .ok (.if_icmp .ge 4, 3) := by decide +kernel
theorem dX6_work_111 : decode cX6_work 111 = .ok (.return_, 1) := by decide +kernel
theorem dX6_work_112 : decode cX6_work 112 = .ok (.aload_n 0, 1) := by decide +kernel
theorem dX6_work_113 : decode cX6_work 113 = .ok (.iload_n 1, 1) := by decide +kernel
theorem dX6_work_114 : decode cX6_work 114 = .ok (.invokevirtual 101, 3) := by decide +kernel
theorem dX6_work_117 : decode cX6_work 117 = .ok (.iinc 2 (-3), 3) := by decide +kernel
theorem dX6_work_120 : decode cX6_work 120 = .ok (.goto (-113), 3) := by decide +kernel
theorem dX6_work_123 : decode cX6_work 123 = .ok (.return_, 1) := by decide +kernel
set_option maxRecDepth 20000 in
theorem ggX6_dayOn_X6_blown : GoodIn wsX6_dayOn wsX6_blown := goodIn_r _ [11, 1, 12, 13, 4, 14, 72, 73, 74, 75, 76, 77, 78, 79, 80, 81] (by decide +kernel) (by decide +kernel)
set_option maxRecDepth 20000 in
theorem gX6_dayOn_X6_blown : GoodIn wsX6_dayOn (wsV RX6 105 RX6 yX6_blown wsX6_blown) := goodIn_app (goodIn_of _ (by decide +kernel)) ggX6_dayOn_X6_blown
set_option maxRecDepth 20000 in
theorem ggX6_dayOn_X6_pane : GoodIn wsX6_dayOn wsX6_pane := goodIn_r _ [17] (by decide +kernel) (by decide +kernel)
set_option maxRecDepth 20000 in
theorem gX6_dayOn_X6_pane : GoodIn wsX6_dayOn (va_wsS RX6 80 yX6_pane wsX6_pane) := goodIn_app (goodIn_of _ (by decide +kernel)) ggX6_dayOn_X6_pane
set_option maxRecDepth 20000 in
theorem ggX6_dayOn_X6_isFeastOn : GoodIn wsX6_dayOn wsX6_isFeastOn := goodIn_r _ [21, 22, 23, 24, 72, 73, 74, 75, 76, 77, 78, 79, 80, 81] (by decide +kernel) (by decide +kernel)
set_option maxRecDepth 20000 in
theorem gX6_dayOn_X6_isFeastOn : GoodIn wsX6_dayOn (wsV RX6 108 RX6 yX6_isFeastOn wsX6_isFeastOn) := goodIn_app (goodIn_of _ (by decide +kernel)) ggX6_dayOn_X6_isFeastOn
set_option maxRecDepth 20000 in
theorem ggX6_dayOn_X6_allBring : GoodIn wsX6_dayOn wsX6_allBring := goodIn_r _ [28, 29, 30, 31, 32, 10, 33, 12, 13, 4, 14, 34, 35, 36, 37, 38, 39, 40, 41, 42, 43, 44, 45, 46, 1, 15, 16, 17, 72, 73, 74, 75, 76, 77, 78, 79, 80, 81] (by decide +kernel) (by decide +kernel)
set_option maxRecDepth 20000 in
theorem gX6_dayOn_X6_allBring : GoodIn wsX6_dayOn (wsV RX6 111 RX6 yX6_allBring wsX6_allBring) := goodIn_app (goodIn_of _ (by decide +kernel)) ggX6_dayOn_X6_allBring
set_option maxRecDepth 20000 in
theorem ggX6_dayOn_X6_work : GoodIn wsX6_dayOn wsX6_work := goodIn_r _ [50, 51, 1, 2, 3, 4, 5, 52, 53, 54, 10, 55, 15, 16, 17, 56, 57, 58, 59, 60, 61, 62, 63, 64, 65, 66, 67, 6, 68, 69, 70, 71, 72, 73, 74, 75, 76, 77, 78, 79, 80, 81] (by decide +kernel) (by decide +kernel)
set_option maxRecDepth 20000 in
theorem gX6_dayOn_X6_work : GoodIn wsX6_dayOn (wsV RX6 115 RX6 yX6_work wsX6_work) := goodIn_app (goodIn_of _ (by decide +kernel)) ggX6_dayOn_X6_work
theorem dX6_dayOn_0 : decode cX6_dayOn 0 = .ok (.iconst 0, 1) := by decide +kernel
theorem dX6_dayOn_1 : decode cX6_dayOn 1 = .ok (.istore_n 1, 1) := by decide +kernel
theorem dX6_dayOn_2 : decode cX6_dayOn 2 = .ok (.iload_n 1, 1) := by decide +kernel
theorem dX6_dayOn_3 : decode cX6_dayOn 3 = .ok (.bipush 12, 2) := by decide +kernel
theorem dX6_dayOn_5 : decode cX6_dayOn 5 = .ok (.if_icmp .ge 58, 3) := by decide +kernel
theorem dX6_dayOn_8 : decode cX6_dayOn 8 = .ok (.iconst 1, 1) := by decide +kernel
theorem dX6_dayOn_9 : decode cX6_dayOn 9 = .ok (.aload_n 0, 1) := by decide +kernel
theorem dX6_dayOn_10 : decode cX6_dayOn 10 = .ok (.iload_n 1, 1) := by decide +kernel
theorem dX6_dayOn_11 : decode cX6_dayOn 11 = .ok (.invokevirtual 105, 3) := by decide +kernel
theorem dX6_dayOn_14 : decode cX6_dayOn 14 = .ok (.iadd, 1) := by decide +kernel
theorem dX6_dayOn_15 : decode cX6_dayOn 15 = .ok (.istore_n 2, 1) := by decide +kernel
theorem dX6_dayOn_16 : decode cX6_dayOn 16 = .ok (.iconst 0, 1) := by decide +kernel
theorem dX6_dayOn_17 : decode cX6_dayOn 17 = .ok (.istore_n 3, 1) := by decide +kernel
theorem dX6_dayOn_18 : decode cX6_dayOn 18 = .ok (.iload_n 3, 1) := by decide +kernel
theorem dX6_dayOn_19 : decode cX6_dayOn 19 = .ok (.bipush 8, 2) := by decide +kernel
theorem dX6_dayOn_21 : decode cX6_dayOn 21 = .ok (.if_icmp .ge 36, 3) := by decide +kernel
theorem dX6_dayOn_24 : decode cX6_dayOn 24 = .ok (.aload_n 0, 1) := by decide +kernel
theorem dX6_dayOn_25 : decode cX6_dayOn 25 = .ok (.getfield 22, 3) := by decide +kernel
theorem dX6_dayOn_28 : decode cX6_dayOn 28 = .ok (.iload_n 1, 1) := by decide +kernel
theorem dX6_dayOn_29 : decode cX6_dayOn 29 = .ok (.iload_n 3, 1) := by decide +kernel
theorem dX6_dayOn_30 : decode cX6_dayOn 30 = .ok (.invokestatic 80, 3) := by decide +kernel
theorem dX6_dayOn_33 : decode cX6_dayOn 33 = .ok (.bipush 20, 2) := by decide +kernel
theorem dX6_dayOn_35 : decode cX6_dayOn 35 = .ok (.aload_n 0, 1) := by decide +kernel
theorem dX6_dayOn_36 : decode cX6_dayOn 36 = .ok (.getfield 22, 3) := by decide +kernel
theorem dX6_dayOn_39 : decode cX6_dayOn 39 = .ok (.iload_n 1, 1) := by decide +kernel
theorem dX6_dayOn_40 : decode cX6_dayOn 40 = .ok (.iload_n 3, 1) := by decide +kernel
theorem dX6_dayOn_41 : decode cX6_dayOn 41 = .ok (.invokestatic 80, 3) := by decide +kernel
theorem dX6_dayOn_44 : decode cX6_dayOn 44 = .ok (.iaload, 1) := by decide +kernel
theorem dX6_dayOn_45 : decode cX6_dayOn 45 = .ok (.iload_n 2, 1) := by decide +kernel
theorem dX6_dayOn_46 : decode cX6_dayOn 46 = .ok (.iadd, 1) := by decide +kernel
theorem dX6_dayOn_47 : decode cX6_dayOn 47 = .ok (.invokestatic 98, 3) := by decide +kernel
theorem dX6_dayOn_50 : decode cX6_dayOn 50 = .ok (.iastore, 1) := by decide +kernel
theorem dX6_dayOn_51 : decode cX6_dayOn 51 = .ok (.iinc 3 1, 3) := by decide +kernel
theorem dX6_dayOn_54 : decode cX6_dayOn 54 = .ok (.goto (-36), 3) := by decide +kernel
theorem dX6_dayOn_57 : decode cX6_dayOn 57 = .ok (.iinc 1 1, 3) := by decide +kernel
theorem dX6_dayOn_60 : decode cX6_dayOn 60 = .ok (.goto (-58), 3) := by decide +kernel
theorem dX6_dayOn_63 : decode cX6_dayOn 63 = .ok (.aload_n 0, 1) := by decide +kernel
theorem dX6_dayOn_64 : decode cX6_dayOn 64 = .ok (.aload_n 0, 1) := by decide +kernel
theorem dX6_dayOn_65 : decode cX6_dayOn 65 = .ok (.getfield 22, 3) := by decide +kernel
theorem dX6_dayOn_68 : decode cX6_dayOn 68 = .ok (.iconst 0, 1) := by decide +kernel
theorem dX6_dayOn_69 : decode cX6_dayOn 69 = .ok (.iaload, 1) := by decide +kernel
theorem dX6_dayOn_70 : decode cX6_dayOn 70 = .ok (.invokevirtual 108, 3) := by decide +kernel
theorem dX6_dayOn_73 : decode cX6_dayOn 73 = .ok (.ifCond .eq 29, 3) := by decide +kernel
theorem dX6_dayOn_76 : decode cX6_dayOn 76 = .ok (.aload_n 0, 1) := by decide +kernel
theorem dX6_dayOn_77 : decode cX6_dayOn 77 = .ok (.getfield 22, 3) := by decide +kernel
theorem dX6_dayOn_80 : decode cX6_dayOn 80 = .ok (.iconst 2, 1) := by decide +kernel
theorem dX6_dayOn_81 : decode cX6_dayOn 81 = .ok (.dup2, 1) := by decide +kernel
theorem dX6_dayOn_82 : decode cX6_dayOn 82 = .ok (.iaload, 1) := by decide +kernel
theorem dX6_dayOn_83 : decode cX6_dayOn 83 = .ok (.aload_n 0, 1) := by decide +kernel
theorem dX6_dayOn_84 : decode cX6_dayOn 84 = .ok (.invokevirtual 111, 3) := by decide +kernel
theorem dX6_dayOn_87 : decode cX6_dayOn 87 = .ok (.iadd, 1) := by decide +kernel
theorem dX6_dayOn_88 : decode cX6_dayOn 88 = .ok (.iastore, 1) := by decide +kernel
theorem dX6_dayOn_89 : decode cX6_dayOn 89 = .ok (.aload_n 0, 1) := by decide +kernel
theorem dX6_dayOn_90 : decode cX6_dayOn 90 = .ok (.getfield 22, 3) := by decide +kernel
theorem dX6_dayOn_93 : decode cX6_dayOn 93 = .ok (.iconst 3, 1) := by decide +kernel
theorem dX6_dayOn_94 : decode cX6_dayOn 94 = .ok (.dup2, 1) := by decide +kernel
theorem dX6_dayOn_95 : decode cX6_dayOn 95 = .ok (.iaload, 1) := by decide +kernel
theorem dX6_dayOn_96 : decode cX6_dayOn 96 = .ok (.iconst 1, 1) := by decide +kernel
theorem dX6_dayOn_97 : decode cX6_dayOn 97 = .ok (.iadd, 1) := by decide +kernel
theorem dX6_dayOn_98 : decode cX6_dayOn 98 = .ok (.iastore, 1) := by decide +kernel
theorem dX6_dayOn_99 : decode cX6_dayOn 99 = .ok (.goto 24, 3) := by decide +kernel
theorem dX6_dayOn_102 : decode cX6_dayOn 102 = .ok (.iconst 0, 1) := by decide +kernel
theorem dX6_dayOn_103 : decode cX6_dayOn 103 = .ok (.istore_n 1, 1) := by decide +kernel
theorem dX6_dayOn_104 : decode cX6_dayOn 104 = .ok (.iload_n 1, 1) := by decide +kernel
theorem dX6_dayOn_105 : decode cX6_dayOn 105 = .ok (.aload_n 0, 1) := by decide +kernel
theorem dX6_dayOn_106 : decode cX6_dayOn 106 = .ok (.getfield 39, 3) := by decide +kernel
theorem dX6_dayOn_109 : decode cX6_dayOn 109 = .ok (.if_icmp .ge 14, 3) := by decide +kernel
theorem dX6_dayOn_112 : decode cX6_dayOn 112 = .ok (.aload_n 0, 1) := by decide +kernel
theorem dX6_dayOn_113 : decode cX6_dayOn 113 = .ok (.iload_n 1, 1) := by decide +kernel
theorem dX6_dayOn_114 : decode cX6_dayOn 114 = .ok (.invokevirtual 115, 3) := by decide +kernel
theorem dX6_dayOn_117 : decode cX6_dayOn 117 = .ok (.iinc 1 1, 3) := by decide +kernel
theorem dX6_dayOn_120 : decode cX6_dayOn 120 = .ok (.goto (-16), 3) := by decide +kernel
theorem dX6_dayOn_123 : decode cX6_dayOn 123 = .ok (.aload_n 0, 1) := by decide +kernel
theorem dX6_dayOn_124 : decode cX6_dayOn 124 = .ok (.getfield 22, 3) := by decide +kernel
theorem dX6_dayOn_127 : decode cX6_dayOn 127 = .ok (.iconst 0, 1) := by decide +kernel
theorem dX6_dayOn_128 : decode cX6_dayOn 128 = .ok (.dup2, 1) := by decide +kernel
theorem dX6_dayOn_129 : decode cX6_dayOn 129 = .ok (.iaload, 1) := by decide +kernel
theorem dX6_dayOn_130 : decode cX6_dayOn 130 = .ok (.iconst 1, 1) := by decide +kernel
theorem dX6_dayOn_131 : decode cX6_dayOn 131 = .ok (.iadd, 1) := by decide +kernel
theorem dX6_dayOn_132 : decode cX6_dayOn 132 = .ok (.iastore, 1) := by decide +kernel
theorem dX6_dayOn_133 : decode cX6_dayOn 133 = .ok (.return_, 1) := by decide +kernel
set_option maxRecDepth 20000 in
theorem ggX6_daysOn_X6_dayOn : GoodIn wsX6_daysOn wsX6_dayOn := goodIn_r _ [5, 6, 7, 8, 9, 10, 11, 12, 13, 14, 4, 15, 16, 17, 18, 19, 20, 21, 22, 23, 24, 25, 26, 27, 28, 29, 30, 31, 32, 33, 34, 35, 36, 37, 38, 39, 40, 41, 42, 43, 44, 45, 46, 47, 48, 49, 50, 51, 52, 53, 54, 55, 56, 57, 58, 59, 60, 61, 62, 63, 64, 65, 66, 67, 68, 69, 70, 71, 72, 73, 74, 75, 76, 77, 78, 79, 80, 81, 82, 83, 84, 85] (by decide +kernel) (by decide +kernel)
set_option maxRecDepth 20000 in
theorem gX6_daysOn_X6_dayOn : GoodIn wsX6_daysOn (wsV RX6 118 RX6 yX6_dayOn wsX6_dayOn) := goodIn_app (goodIn_of _ (by decide +kernel)) ggX6_daysOn_X6_dayOn
theorem dX6_daysOn_0 : decode cX6_daysOn 0 = .ok (.iconst 0, 1) := by decide +kernel
theorem dX6_daysOn_1 : decode cX6_daysOn 1 = .ok (.istore_n 2, 1) := by decide +kernel
theorem dX6_daysOn_2 : decode cX6_daysOn 2 = .ok (.iload_n 2, 1) := by decide +kernel
theorem dX6_daysOn_3 : decode cX6_daysOn 3 = .ok (.iload_n 1, 1) := by decide +kernel
theorem dX6_daysOn_4 : decode cX6_daysOn 4 = .ok (.if_icmp .ge 13, 3) := by decide +kernel
theorem dX6_daysOn_7 : decode cX6_daysOn 7 = .ok (.aload_n 0, 1) := by decide +kernel
theorem dX6_daysOn_8 : decode cX6_daysOn 8 = .ok (.invokevirtual 118, 3) := by decide +kernel
theorem dX6_daysOn_11 : decode cX6_daysOn 11 = .ok (.iinc 2 1, 3) := by decide +kernel
theorem dX6_daysOn_14 : decode cX6_daysOn 14 = .ok (.goto (-12), 3) := by decide +kernel
theorem dX6_daysOn_17 : decode cX6_daysOn 17 = .ok (.return_, 1) := by decide +kernel
set_option maxRecDepth 20000 in
theorem ggX6_pass_X6_isIn : GoodIn wsX6_pass wsX6_isIn := goodIn_r _ [6] (by decide +kernel) (by decide +kernel)
set_option maxRecDepth 20000 in
theorem gX6_pass_X6_isIn : GoodIn wsX6_pass (va_wsS RX6 35 yX6_isIn wsX6_isIn) := goodIn_app (goodIn_of _ (by decide +kernel)) ggX6_pass_X6_isIn
set_option maxRecDepth 20000 in
theorem ggX6_pass_X6_fail : GoodIn wsX6_pass wsX6_fail := goodIn_r _ [10, 1, 88, 89, 90, 91, 92, 93, 94, 95, 96, 97] (by decide +kernel) (by decide +kernel)
set_option maxRecDepth 20000 in
theorem gX6_pass_X6_fail : GoodIn wsX6_pass (wsV RX6 55 RX6 yX6_fail wsX6_fail) := goodIn_app (goodIn_of _ (by decide +kernel)) ggX6_pass_X6_fail
set_option maxRecDepth 20000 in
theorem ggX6_pass_X6_daysOn : GoodIn wsX6_pass wsX6_daysOn := goodIn_r _ [14, 15, 16, 17, 5, 18, 2, 19, 20, 21, 22, 23, 24, 25, 26, 27, 28, 29, 30, 31, 32, 33, 34, 35, 36, 37, 38, 39, 40, 41, 42, 43, 44, 45, 46, 47, 48, 49, 50, 51, 52, 53, 54, 55, 56, 57, 58, 59, 60, 61, 62, 63, 64, 65, 66, 67, 68, 69, 70, 71, 72, 73, 74, 75, 76, 77, 78, 79, 80, 81, 82, 83, 84, 85, 86, 87, 88, 89, 90, 91, 92, 93, 94, 95, 96, 97] (by decide +kernel) (by decide +kernel)
set_option maxRecDepth 20000 in
theorem gX6_pass_X6_daysOn : GoodIn wsX6_pass (wsV RX6 121 RX6 yX6_daysOn wsX6_daysOn) := goodIn_app (goodIn_of _ (by decide +kernel)) ggX6_pass_X6_daysOn
theorem dX6_pass_0 : decode cX6_pass 0 = .ok (.aload_n 0, 1) := by decide +kernel
theorem dX6_pass_1 : decode cX6_pass 1 = .ok (.iconst 0, 1) := by decide +kernel
theorem dX6_pass_2 : decode cX6_pass 2 = .ok (.putfield 28, 3) := by decide +kernel
theorem dX6_pass_5 : decode cX6_pass 5 = .ok (.iload_n 1, 1) := by decide +kernel
theorem dX6_pass_6 : decode cX6_pass 6 = .ok (.iconst 1, 1) := by decide +kernel
theorem dX6_pass_7 : decode cX6_pass 7 = .ok (.bipush 40, 2) := by decide +kernel
theorem dX6_pass_9 : decode cX6_pass 9 = .ok (.invokestatic 35, 3) := by decide +kernel
theorem dX6_pass_12 : decode cX6_pass 12 = .ok (.ifCond .ne 9, 3) := by decide +kernel
theorem dX6_pass_15 : decode cX6_pass 15 = .ok (.aload_n 0, 1) := by decide +kernel
theorem dX6_pass_16 : decode cX6_pass 16 = .ok (.iconst 1, 1) := by decide +kernel
theorem dX6_pass_17 : decode cX6_pass 17 = .ok (.invokevirtual 55, 3) := by decide +kernel
theorem dX6_pass_20 : decode cX6_pass 20 = .ok (.ireturn, 1) := by decide +kernel
theorem dX6_pass_21 : decode cX6_pass 21 = .ok (.aload_n 0, 1) := by decide +kernel
theorem dX6_pass_22 : decode cX6_pass 22 = .ok (.getfield 22, 3) := by decide +kernel
theorem dX6_pass_25 : decode cX6_pass 25 = .ok (.iconst 2, 1) := by decide +kernel
theorem dX6_pass_26 : decode cX6_pass 26 = .ok (.iaload, 1) := by decide +kernel
theorem dX6_pass_27 : decode cX6_pass 27 = .ok (.istore_n 2, 1) := by decide +kernel
theorem dX6_pass_28 : decode cX6_pass 28 = .ok (.aload_n 0, 1) := by decide +kernel
theorem dX6_pass_29 : decode cX6_pass 29 = .ok (.iload_n 1, 1) := by decide +kernel
theorem dX6_pass_30 : decode cX6_pass 30 = .ok (.invokevirtual 121, 3) := by decide +kernel
theorem dX6_pass_33 : decode cX6_pass 33 = .ok (.aload_n 0, 1) := by decide +kernel
theorem dX6_pass_34 : decode cX6_pass 34 = .ok (.getfield 22, 3) := by decide +kernel
theorem dX6_pass_37 : decode cX6_pass 37 = .ok (.iconst 2, 1) := by decide +kernel
theorem dX6_pass_38 : decode cX6_pass 38 = .ok (.iaload, 1) := by decide +kernel
theorem dX6_pass_39 : decode cX6_pass 39 = .ok (.iload_n 2, 1) := by decide +kernel
theorem dX6_pass_40 : decode cX6_pass 40 = .ok (.isub, 1) := by decide +kernel
theorem dX6_pass_41 : decode cX6_pass 41 = .ok (.ireturn, 1) := by decide +kernel
set_option maxRecDepth 20000 in
theorem ggX6_soot_X6_isIn : GoodIn wsX6_soot wsX6_isIn := goodIn_r _ [6] (by decide +kernel) (by decide +kernel)
set_option maxRecDepth 20000 in
theorem gX6_soot_X6_isIn : GoodIn wsX6_soot (va_wsS RX6 35 yX6_isIn wsX6_isIn) := goodIn_app (goodIn_of _ (by decide +kernel)) ggX6_soot_X6_isIn
set_option maxRecDepth 20000 in
theorem ggX6_soot_X6_pane : GoodIn wsX6_soot wsX6_pane := goodIn_r _ [9] (by decide +kernel) (by decide +kernel)
set_option maxRecDepth 20000 in
theorem gX6_soot_X6_pane : GoodIn wsX6_soot (va_wsS RX6 80 yX6_pane wsX6_pane) := goodIn_app (goodIn_of _ (by decide +kernel)) ggX6_soot_X6_pane
set_option maxRecDepth 20000 in
theorem ggX6_soot_X6_fail : GoodIn wsX6_soot wsX6_fail := goodIn_r _ [13, 1, 14, 15, 16, 17, 18, 19, 20, 21, 22, 23] (by decide +kernel) (by decide +kernel)
set_option maxRecDepth 20000 in
theorem gX6_soot_X6_fail : GoodIn wsX6_soot (wsV RX6 55 RX6 yX6_fail wsX6_fail) := goodIn_app (goodIn_of _ (by decide +kernel)) ggX6_soot_X6_fail
theorem dX6_soot_0 : decode cX6_soot 0 = .ok (.aload_n 0, 1) := by decide +kernel
theorem dX6_soot_1 : decode cX6_soot 1 = .ok (.iconst 0, 1) := by decide +kernel
theorem dX6_soot_2 : decode cX6_soot 2 = .ok (.putfield 28, 3) := by decide +kernel
theorem dX6_soot_5 : decode cX6_soot 5 = .ok (.iload_n 1, 1) := by decide +kernel
theorem dX6_soot_6 : decode cX6_soot 6 = .ok (.iconst 0, 1) := by decide +kernel
theorem dX6_soot_7 : decode cX6_soot 7 = .ok (.bipush 11, 2) := by decide +kernel
theorem dX6_soot_9 : decode cX6_soot 9 = .ok (.invokestatic 35, 3) := by decide +kernel
theorem dX6_soot_12 : decode cX6_soot 12 = .ok (.ifCond .eq 26, 3) := by decide +kernel
theorem dX6_soot_15 : decode cX6_soot 15 = .ok (.iload_n 2, 1) := by decide +kernel
theorem dX6_soot_16 : decode cX6_soot 16 = .ok (.iconst 0, 1) := by decide +kernel
theorem dX6_soot_17 : decode cX6_soot 17 = .ok (.bipush 7, 2) := by decide +kernel
theorem dX6_soot_19 : decode cX6_soot 19 = .ok (.invokestatic 35, 3) := by decide +kernel
theorem dX6_soot_22 : decode cX6_soot 22 = .ok (.ifCond .eq 16, 3) := by decide +kernel
theorem dX6_soot_25 : decode cX6_soot 25 = .ok (.aload_n 0, 1) := by decide +kernel
theorem dX6_soot_26 : decode cX6_soot 26 = .ok (.getfield 22, 3) := by decide +kernel
theorem dX6_soot_29 : decode cX6_soot 29 = .ok (.iload_n 1, 1) := by decide +kernel
theorem dX6_soot_30 : decode cX6_soot 30 = .ok (.iload_n 2, 1) := by decide +kernel
theorem dX6_soot_31 : decode cX6_soot 31 = .ok (.invokestatic 80, 3) := by decide +kernel
theorem dX6_soot_34 : decode cX6_soot 34 = .ok (.iaload, 1) := by decide +kernel
theorem dX6_soot_35 : decode cX6_soot 35 = .ok (.goto 8, 3) := by decide +kernel
theorem dX6_soot_38 : decode cX6_soot 38 = .ok (.aload_n 0, 1) := by decide +kernel
theorem dX6_soot_39 : decode cX6_soot 39 = .ok (.iconst 1, 1) := by decide +kernel
theorem dX6_soot_40 : decode cX6_soot 40 = .ok (.invokevirtual 55, 3) := by decide +kernel
theorem dX6_soot_43 : decode cX6_soot 43 = .ok (.ireturn, 1) := by decide +kernel
set_option maxRecDepth 20000 in
theorem ggX6_windowTold_X6_sootOf : GoodIn wsX6_windowTold wsX6_sootOf := goodIn_r _ [5, 6, 7, 8, 9, 10, 11, 12, 13, 4, 14, 15, 16, 17, 18, 27, 28, 29, 30, 31, 32, 33, 34, 35, 36] (by decide +kernel) (by decide +kernel)
set_option maxRecDepth 20000 in
theorem gX6_windowTold_X6_sootOf : GoodIn wsX6_windowTold (wsV RX6 91 RX6 yX6_sootOf wsX6_sootOf) := goodIn_app (goodIn_of _ (by decide +kernel)) ggX6_windowTold_X6_sootOf
set_option maxRecDepth 20000 in
theorem ggX6_windowTold_X6_brings : GoodIn wsX6_windowTold wsX6_brings := goodIn_r _ [22, 7, 8, 9, 10, 11, 12, 13, 4, 14, 15, 23, 24, 25, 26, 1, 2, 3, 5, 6, 16, 17, 18, 27, 28, 29, 30, 31, 32, 33, 34, 35, 36] (by decide +kernel) (by decide +kernel)
set_option maxRecDepth 20000 in
theorem gX6_windowTold_X6_brings : GoodIn wsX6_windowTold (wsV RX6 95 RX6 yX6_brings wsX6_brings) := goodIn_app (goodIn_of _ (by decide +kernel)) ggX6_windowTold_X6_brings
set_option maxRecDepth 20000 in
theorem ggX6_windowTold_X6_wi : GoodIn wsX6_windowTold wsX6_wi := goodIn_r _ [14, 15, 27, 28, 29, 30, 31, 32, 33, 34, 35, 36] (by decide +kernel) (by decide +kernel)
set_option maxRecDepth 20000 in
theorem gX6_windowTold_X6_wi : GoodIn wsX6_windowTold (wsV RX6 77 RX6 yX6_wi wsX6_wi) := goodIn_app (goodIn_of _ (by decide +kernel)) ggX6_windowTold_X6_wi
theorem dX6_windowTold_0 : decode cX6_windowTold 0 = .ok (.iload_n 2, 1) := by decide +kernel
theorem dX6_windowTold_1 : decode cX6_windowTold 1 = .ok (.tableswitch 47 5 7 #[27, 34, 41], 27) := by decide +kernel
theorem dX6_windowTold_28 : decode cX6_windowTold 28 = .ok (.aload_n 0, 1) := by decide +kernel
theorem dX6_windowTold_29 : decode cX6_windowTold 29 = .ok (.iload_n 1, 1) := by decide +kernel
theorem dX6_windowTold_30 : decode cX6_windowTold 30 = .ok (.iconst 0, 1) := by decide +kernel
theorem dX6_windowTold_31 : decode cX6_windowTold 31 = .ok (.invokevirtual 91, 3) := by decide +kernel
theorem dX6_windowTold_34 : decode cX6_windowTold 34 = .ok (.ireturn, 1) := by decide +kernel
theorem dX6_windowTold_35 : decode cX6_windowTold 35 = .ok (.aload_n 0, 1) := by decide +kernel
theorem dX6_windowTold_36 : decode cX6_windowTold 36 = .ok (.iload_n 1, 1) := by decide +kernel
theorem dX6_windowTold_37 : decode cX6_windowTold 37 = .ok (.iconst 1, 1) := by decide +kernel
theorem dX6_windowTold_38 : decode cX6_windowTold 38 = .ok (.invokevirtual 91, 3) := by decide +kernel
theorem dX6_windowTold_41 : decode cX6_windowTold 41 = .ok (.ireturn, 1) := by decide +kernel
theorem dX6_windowTold_42 : decode cX6_windowTold 42 = .ok (.aload_n 0, 1) := by decide +kernel
theorem dX6_windowTold_43 : decode cX6_windowTold 43 = .ok (.iload_n 1, 1) := by decide +kernel
theorem dX6_windowTold_44 : decode cX6_windowTold 44 = .ok (.invokevirtual 95, 3) := by decide +kernel
theorem dX6_windowTold_47 : decode cX6_windowTold 47 = .ok (.ireturn, 1) := by decide +kernel
theorem dX6_windowTold_48 : decode cX6_windowTold 48 = .ok (.aload_n 0, 1) := by decide +kernel
theorem dX6_windowTold_49 : decode cX6_windowTold 49 = .ok (.iload_n 1, 1) := by decide +kernel
theorem dX6_windowTold_50 : decode cX6_windowTold 50 = .ok (.iload_n 2, 1) := by decide +kernel
theorem dX6_windowTold_51 : decode cX6_windowTold 51 = .ok (.invokevirtual 77, 3) := by decide +kernel
theorem dX6_windowTold_54 : decode cX6_windowTold 54 = .ok (.ireturn, 1) := by decide +kernel
set_option maxRecDepth 20000 in
theorem ggX6_about_X6_isWindow : GoodIn wsX6_about wsX6_isWindow := goodIn_r _ [6, 7, 8, 9, 5, 10, 44, 45, 46, 47, 48, 49, 50, 51, 52, 53] (by decide +kernel) (by decide +kernel)
set_option maxRecDepth 20000 in
theorem gX6_about_X6_isWindow : GoodIn wsX6_about (wsV RX6 74 RX6 yX6_isWindow wsX6_isWindow) := goodIn_app (goodIn_of _ (by decide +kernel)) ggX6_about_X6_isWindow
set_option maxRecDepth 20000 in
theorem ggX6_about_X6_isIn : GoodIn wsX6_about wsX6_isIn := goodIn_r _ [10] (by decide +kernel) (by decide +kernel)
set_option maxRecDepth 20000 in
theorem gX6_about_X6_isIn : GoodIn wsX6_about (va_wsS RX6 35 yX6_isIn wsX6_isIn) := goodIn_app (goodIn_of _ (by decide +kernel)) ggX6_about_X6_isIn
set_option maxRecDepth 20000 in
theorem ggX6_about_X6_windowTold : GoodIn wsX6_about wsX6_windowTold := goodIn_r _ [14, 15, 16, 17, 5, 18, 19, 20, 21, 22, 23, 24, 25, 26, 27, 28, 29, 30, 31, 32, 33, 34, 35, 36, 37, 38, 39, 44, 45, 46, 47, 48, 49, 50, 51, 52, 53] (by decide +kernel) (by decide +kernel)
set_option maxRecDepth 20000 in
theorem gX6_about_X6_windowTold : GoodIn wsX6_about (wsV RX6 124 RX6 yX6_windowTold wsX6_windowTold) := goodIn_app (goodIn_of _ (by decide +kernel)) ggX6_about_X6_windowTold
set_option maxRecDepth 20000 in
theorem ggX6_about_X6_fail : GoodIn wsX6_about wsX6_fail := goodIn_r _ [43, 1, 44, 45, 46, 47, 48, 49, 50, 51, 52, 53] (by decide +kernel) (by decide +kernel)
set_option maxRecDepth 20000 in
theorem gX6_about_X6_fail : GoodIn wsX6_about (wsV RX6 55 RX6 yX6_fail wsX6_fail) := goodIn_app (goodIn_of _ (by decide +kernel)) ggX6_about_X6_fail
theorem dX6_about_0 : decode cX6_about 0 = .ok (.aload_n 0, 1) := by decide +kernel
theorem dX6_about_1 : decode cX6_about 1 = .ok (.iconst 0, 1) := by decide +kernel
theorem dX6_about_2 : decode cX6_about 2 = .ok (.putfield 28, 3) := by decide +kernel
theorem dX6_about_5 : decode cX6_about 5 = .ok (.aload_n 0, 1) := by decide +kernel
theorem dX6_about_6 : decode cX6_about 6 = .ok (.iload_n 1, 1) := by decide +kernel
theorem dX6_about_7 : decode cX6_about 7 = .ok (.invokevirtual 74, 3) := by decide +kernel
theorem dX6_about_10 : decode cX6_about 10 = .ok (.ifCond .eq 22, 3) := by decide +kernel
theorem dX6_about_13 : decode cX6_about 13 = .ok (.iload_n 2, 1) := by decide +kernel
theorem dX6_about_14 : decode cX6_about 14 = .ok (.iconst 0, 1) := by decide +kernel
theorem dX6_about_15 : decode cX6_about 15 = .ok (.bipush 7, 2) := by decide +kernel
theorem dX6_about_17 : decode cX6_about 17 = .ok (.invokestatic 35, 3) := by decide +kernel
theorem dX6_about_20 : decode cX6_about 20 = .ok (.ifCond .eq 12, 3) := by decide +kernel
theorem dX6_about_23 : decode cX6_about 23 = .ok (.aload_n 0, 1) := by decide +kernel
theorem dX6_about_24 : decode cX6_about 24 = .ok (.iload_n 1, 1) := by decide +kernel
theorem dX6_about_25 : decode cX6_about 25 = .ok (.iload_n 2, 1) := by decide +kernel
theorem dX6_about_26 : decode cX6_about 26 = .ok (.invokevirtual 124, 3) := by decide +kernel
theorem dX6_about_29 : decode cX6_about 29 = .ok (.goto 8, 3) := by decide +kernel
theorem dX6_about_32 : decode cX6_about 32 = .ok (.aload_n 0, 1) := by decide +kernel
theorem dX6_about_33 : decode cX6_about 33 = .ok (.iconst 1, 1) := by decide +kernel
theorem dX6_about_34 : decode cX6_about 34 = .ok (.invokevirtual 55, 3) := by decide +kernel
theorem dX6_about_37 : decode cX6_about 37 = .ok (.ireturn, 1) := by decide +kernel
set_option maxRecDepth 20000 in
theorem ggX6_ropeTold_X6_ro : GoodIn wsX6_ropeTold wsX6_ro := goodIn_r _ [6, 7, 8, 9, 10, 11, 12, 13, 14, 15, 16, 17] (by decide +kernel) (by decide +kernel)
set_option maxRecDepth 20000 in
theorem gX6_ropeTold_X6_ro : GoodIn wsX6_ropeTold (wsV RX6 42 RX6 yX6_ro wsX6_ro) := goodIn_app (goodIn_of _ (by decide +kernel)) ggX6_ropeTold_X6_ro
theorem dX6_ropeTold_0 : decode cX6_ropeTold 0 = .ok (.iload_n 2, 1) := by decide +kernel
theorem dX6_ropeTold_1 : decode cX6_ropeTold 1 = .ok (.iconst 2, 1) := by decide +kernel
theorem dX6_ropeTold_2 : decode cX6_ropeTold 2 = .ok (.if_icmp .ge 12, 3) := by decide +kernel
theorem dX6_ropeTold_5 : decode cX6_ropeTold 5 = .ok (.aload_n 0, 1) := by decide +kernel
theorem dX6_ropeTold_6 : decode cX6_ropeTold 6 = .ok (.iload_n 1, 1) := by decide +kernel
theorem dX6_ropeTold_7 : decode cX6_ropeTold 7 = .ok (.iload_n 2, 1) := by decide +kernel
theorem dX6_ropeTold_8 : decode cX6_ropeTold 8 = .ok (.invokevirtual 42, 3) := by decide +kernel
theorem dX6_ropeTold_11 : decode cX6_ropeTold 11 = .ok (.goto 25, 3) := by decide +kernel
theorem dX6_ropeTold_14 : decode cX6_ropeTold 14 = .ok (.iload_n 2, 1) := by decide +kernel
theorem dX6_ropeTold_15 : decode cX6_ropeTold 15 = .ok (.iconst 2, 1) := by decide +kernel
theorem dX6_ropeTold_16 : decode cX6_ropeTold 16 = .ok (.if_icmp .ne 12, 3) := by decide +kernel
theorem dX6_ropeTold_19 : decode cX6_ropeTold 19 = .ok (.aload_n 0, 1) := by decide +kernel
theorem dX6_ropeTold_20 : decode cX6_ropeTold 20 = .ok (.getfield 13, 3) := by decide +kernel
theorem dX6_ropeTold_23 : decode cX6_ropeTold 23 = .ok (.iload_n 1, 1) := by decide +kernel
theorem dX6_ropeTold_24 : decode cX6_ropeTold 24 = .ok (.iaload, 1) := by decide +kernel
theorem dX6_ropeTold_25 : decode cX6_ropeTold 25 = .ok (.goto 11, 3) := by decide +kernel
theorem dX6_ropeTold_28 : decode cX6_ropeTold 28 = .ok (.aload_n 0, 1) := by decide +kernel
theorem dX6_ropeTold_29 : decode cX6_ropeTold 29 = .ok (.iload_n 1, 1) := by decide +kernel
theorem dX6_ropeTold_30 : decode cX6_ropeTold 30 = .ok (.iload_n 2, 1) := by decide +kernel
theorem dX6_ropeTold_31 : decode cX6_ropeTold 31 = .ok (.iconst 1, 1) := by decide +kernel
theorem dX6_ropeTold_32 : decode cX6_ropeTold 32 = .ok (.isub, 1) := by decide +kernel
theorem dX6_ropeTold_33 : decode cX6_ropeTold 33 = .ok (.invokevirtual 42, 3) := by decide +kernel
theorem dX6_ropeTold_36 : decode cX6_ropeTold 36 = .ok (.ireturn, 1) := by decide +kernel
set_option maxRecDepth 20000 in
theorem ggX6_told_X6_isRope : GoodIn wsX6_told wsX6_isRope := goodIn_r _ [6, 7, 8, 9, 5, 10, 25, 26, 27, 28, 29, 30, 31, 32, 33, 34] (by decide +kernel) (by decide +kernel)
set_option maxRecDepth 20000 in
theorem gX6_told_X6_isRope : GoodIn wsX6_told (wsV RX6 67 RX6 yX6_isRope wsX6_isRope) := goodIn_app (goodIn_of _ (by decide +kernel)) ggX6_told_X6_isRope
set_option maxRecDepth 20000 in
theorem ggX6_told_X6_isIn : GoodIn wsX6_told wsX6_isIn := goodIn_r _ [10] (by decide +kernel) (by decide +kernel)
set_option maxRecDepth 20000 in
theorem gX6_told_X6_isIn : GoodIn wsX6_told (va_wsS RX6 35 yX6_isIn wsX6_isIn) := goodIn_app (goodIn_of _ (by decide +kernel)) ggX6_told_X6_isIn
set_option maxRecDepth 20000 in
theorem ggX6_told_X6_ropeTold : GoodIn wsX6_told wsX6_ropeTold := goodIn_r _ [14, 15, 16, 17, 18, 5, 19, 20, 25, 26, 27, 28, 29, 30, 31, 32, 33, 34] (by decide +kernel) (by decide +kernel)
set_option maxRecDepth 20000 in
theorem gX6_told_X6_ropeTold : GoodIn wsX6_told (wsV RX6 127 RX6 yX6_ropeTold wsX6_ropeTold) := goodIn_app (goodIn_of _ (by decide +kernel)) ggX6_told_X6_ropeTold
set_option maxRecDepth 20000 in
theorem ggX6_told_X6_fail : GoodIn wsX6_told wsX6_fail := goodIn_r _ [24, 1, 25, 26, 27, 28, 29, 30, 31, 32, 33, 34] (by decide +kernel) (by decide +kernel)
set_option maxRecDepth 20000 in
theorem gX6_told_X6_fail : GoodIn wsX6_told (wsV RX6 55 RX6 yX6_fail wsX6_fail) := goodIn_app (goodIn_of _ (by decide +kernel)) ggX6_told_X6_fail
theorem dX6_told_0 : decode cX6_told 0 = .ok (.aload_n 0, 1) := by decide +kernel
theorem dX6_told_1 : decode cX6_told 1 = .ok (.iconst 0, 1) := by decide +kernel
theorem dX6_told_2 : decode cX6_told 2 = .ok (.putfield 28, 3) := by decide +kernel
theorem dX6_told_5 : decode cX6_told 5 = .ok (.aload_n 0, 1) := by decide +kernel
theorem dX6_told_6 : decode cX6_told 6 = .ok (.iload_n 1, 1) := by decide +kernel
theorem dX6_told_7 : decode cX6_told 7 = .ok (.invokevirtual 67, 3) := by decide +kernel
theorem dX6_told_10 : decode cX6_told 10 = .ok (.ifCond .eq 21, 3) := by decide +kernel
theorem dX6_told_13 : decode cX6_told 13 = .ok (.iload_n 2, 1) := by decide +kernel
theorem dX6_told_14 : decode cX6_told 14 = .ok (.iconst 0, 1) := by decide +kernel
theorem dX6_told_15 : decode cX6_told 15 = .ok (.iconst 5, 1) := by decide +kernel
theorem dX6_told_16 : decode cX6_told 16 = .ok (.invokestatic 35, 3) := by decide +kernel
theorem dX6_told_19 : decode cX6_told 19 = .ok (.ifCond .eq 12, 3) := by decide +kernel
theorem dX6_told_22 : decode cX6_told 22 = .ok (.aload_n 0, 1) := by decide +kernel
theorem dX6_told_23 : decode cX6_told 23 = .ok (.iload_n 1, 1) := by decide +kernel
theorem dX6_told_24 : decode cX6_told 24 = .ok (.iload_n 2, 1) := by decide +kernel
theorem dX6_told_25 : decode cX6_told 25 = .ok (.invokevirtual 127, 3) := by decide +kernel
theorem dX6_told_28 : decode cX6_told 28 = .ok (.goto 8, 3) := by decide +kernel
theorem dX6_told_31 : decode cX6_told 31 = .ok (.aload_n 0, 1) := by decide +kernel
theorem dX6_told_32 : decode cX6_told 32 = .ok (.iconst 1, 1) := by decide +kernel
theorem dX6_told_33 : decode cX6_told 33 = .ok (.invokevirtual 55, 3) := by decide +kernel
theorem dX6_told_36 : decode cX6_told 36 = .ok (.ireturn, 1) := by decide +kernel
theorem dX6_allSoot_0 : decode cX6_allSoot 0 = .ok (.iconst 0, 1) := by decide +kernel
theorem dX6_allSoot_1 : decode cX6_allSoot 1 = .ok (.istore_n 1, 1) := by decide +kernel
theorem dX6_allSoot_2 : decode cX6_allSoot 2 = .ok (.iconst 0, 1) := by decide +kernel
theorem dX6_allSoot_3 : decode cX6_allSoot 3 = .ok (.istore_n 2, 1) := by decide +kernel
theorem dX6_allSoot_4 : decode cX6_allSoot 4 = .ok (.iload_n 2, 1) := by decide +kernel
theorem dX6_allSoot_5 : decode cX6_allSoot 5 = .ok (.bipush 96, 2) := by decide +kernel
theorem dX6_allSoot_7 : decode cX6_allSoot 7 = .ok (.if_icmp .ge 20, 3) := by decide +kernel
theorem dX6_allSoot_10 : decode cX6_allSoot 10 = .ok (.iload_n 1, 1) := by decide +kernel
theorem dX6_allSoot_11 : decode cX6_allSoot 11 = .ok (.aload_n 0, 1) := by decide +kernel
theorem dX6_allSoot_12 : decode cX6_allSoot 12 = .ok (.getfield 22, 3) := by decide +kernel
theorem dX6_allSoot_15 : decode cX6_allSoot 15 = .ok (.iconst 4, 1) := by decide +kernel
theorem dX6_allSoot_16 : decode cX6_allSoot 16 = .ok (.iload_n 2, 1) := by decide +kernel
theorem dX6_allSoot_17 : decode cX6_allSoot 17 = .ok (.iadd, 1) := by decide +kernel
theorem dX6_allSoot_18 : decode cX6_allSoot 18 = .ok (.iaload, 1) := by decide +kernel
theorem dX6_allSoot_19 : decode cX6_allSoot 19 = .ok (.iadd, 1) := by decide +kernel
theorem dX6_allSoot_20 : decode cX6_allSoot 20 = .ok (.istore_n 1, 1) := by decide +kernel
theorem dX6_allSoot_21 : decode cX6_allSoot 21 = .ok (.iinc 2 1, 3) := by decide +kernel
theorem dX6_allSoot_24 : decode cX6_allSoot 24 = .ok (.goto (-20), 3) := by decide +kernel
theorem dX6_allSoot_27 : decode cX6_allSoot 27 = .ok (.iload_n 1, 1) := by decide +kernel
theorem dX6_allSoot_28 : decode cX6_allSoot 28 = .ok (.ireturn, 1) := by decide +kernel
set_option maxRecDepth 20000 in
theorem ggX6_cleaned_X6_ro : GoodIn wsX6_cleaned wsX6_ro := goodIn_r _ [6, 7, 8, 9, 10, 11, 12, 13, 14, 15, 16, 17] (by decide +kernel) (by decide +kernel)
set_option maxRecDepth 20000 in
theorem gX6_cleaned_X6_ro : GoodIn wsX6_cleaned (wsV RX6 42 RX6 yX6_ro wsX6_ro) := goodIn_app (goodIn_of _ (by decide +kernel)) ggX6_cleaned_X6_ro
theorem dX6_cleaned_0 : decode cX6_cleaned 0 = .ok (.iconst 0, 1) := by decide +kernel
theorem dX6_cleaned_1 : decode cX6_cleaned 1 = .ok (.istore_n 1, 1) := by decide +kernel
theorem dX6_cleaned_2 : decode cX6_cleaned 2 = .ok (.iconst 0, 1) := by decide +kernel
theorem dX6_cleaned_3 : decode cX6_cleaned 3 = .ok (.istore_n 2, 1) := by decide +kernel
theorem dX6_cleaned_4 : decode cX6_cleaned 4 = .ok (.iload_n 2, 1) := by decide +kernel
theorem dX6_cleaned_5 : decode cX6_cleaned 5 = .ok (.aload_n 0, 1) := by decide +kernel
theorem dX6_cleaned_6 : decode cX6_cleaned 6 = .ok (.getfield 39, 3) := by decide +kernel
theorem dX6_cleaned_9 : decode cX6_cleaned 9 = .ok (.if_icmp .ge 18, 3) := by decide +kernel
theorem dX6_cleaned_12 : decode cX6_cleaned 12 = .ok (.iload_n 1, 1) := by decide +kernel
theorem dX6_cleaned_13 : decode cX6_cleaned 13 = .ok (.aload_n 0, 1) := by decide +kernel
theorem dX6_cleaned_14 : decode cX6_cleaned 14 = .ok (.iload_n 2, 1) := by decide +kernel
theorem dX6_cleaned_15 : decode cX6_cleaned 15 = .ok (.iconst 3, 1) := by decide +kernel
theorem dX6_cleaned_16 : decode cX6_cleaned 16 = .ok (.invokevirtual 42, 3) := by decide +kernel
theorem dX6_cleaned_19 : decode cX6_cleaned 19 = .ok (.iadd, 1) := by decide +kernel
theorem dX6_cleaned_20 : decode cX6_cleaned 20 = .ok (.istore_n 1, 1) := by decide +kernel
theorem dX6_cleaned_21 : decode cX6_cleaned 21 = .ok (.iinc 2 1, 3) := by decide +kernel
theorem dX6_cleaned_24 : decode cX6_cleaned 24 = .ok (.goto (-20), 3) := by decide +kernel
theorem dX6_cleaned_27 : decode cX6_cleaned 27 = .ok (.iload_n 1, 1) := by decide +kernel
theorem dX6_cleaned_28 : decode cX6_cleaned 28 = .ok (.ireturn, 1) := by decide +kernel
set_option maxRecDepth 20000 in
theorem ggX6_counted_X6_allSoot : GoodIn wsX6_counted wsX6_allSoot := goodIn_r _ [9, 1, 46, 47, 48, 49, 50, 51, 52, 53, 54, 55] (by decide +kernel) (by decide +kernel)
set_option maxRecDepth 20000 in
theorem gX6_counted_X6_allSoot : GoodIn wsX6_counted (wsV RX6 130 RX6 yX6_allSoot wsX6_allSoot) := goodIn_app (goodIn_of _ (by decide +kernel)) ggX6_counted_X6_allSoot
set_option maxRecDepth 20000 in
theorem ggX6_counted_X6_cleaned : GoodIn wsX6_counted wsX6_cleaned := goodIn_r _ [13, 3, 14, 15, 16, 8, 17, 1, 46, 47, 48, 49, 50, 51, 52, 53, 54, 55] (by decide +kernel) (by decide +kernel)
set_option maxRecDepth 20000 in
theorem gX6_counted_X6_cleaned : GoodIn wsX6_counted (wsV RX6 133 RX6 yX6_cleaned wsX6_cleaned) := goodIn_app (goodIn_of _ (by decide +kernel)) ggX6_counted_X6_cleaned
set_option maxRecDepth 20000 in
theorem ggX6_counted_X6_allBring : GoodIn wsX6_counted wsX6_allBring := goodIn_r _ [21, 2, 22, 23, 24, 8, 25, 26, 27, 28, 29, 30, 31, 32, 33, 34, 35, 36, 37, 38, 39, 40, 41, 42, 1, 43, 44, 45, 46, 47, 48, 49, 50, 51, 52, 53, 54, 55] (by decide +kernel) (by decide +kernel)
set_option maxRecDepth 20000 in
theorem gX6_counted_X6_allBring : GoodIn wsX6_counted (wsV RX6 111 RX6 yX6_allBring wsX6_allBring) := goodIn_app (goodIn_of _ (by decide +kernel)) ggX6_counted_X6_allBring
theorem dX6_counted_0 : decode cX6_counted 0 = .ok (.iconst 0, 1) := by decide +kernel
theorem dX6_counted_1 : decode cX6_counted 1 = .ok (.istore_n 2, 1) := by decide +kernel
theorem dX6_counted_2 : decode cX6_counted 2 = .ok (.iload_n 1, 1) := by decide +kernel
theorem dX6_counted_3 : decode cX6_counted 3 = .ok (.tableswitch 141 0 9 #[53, 60, 65, 70, 75, 82, 87, 122, 127, 134], 53) := by decide +kernel
theorem dX6_counted_56 : decode cX6_counted 56 = .ok (.aload_n 0, 1) := by decide +kernel
theorem dX6_counted_57 : decode cX6_counted 57 = .ok (.getfield 22, 3) := by decide +kernel
theorem dX6_counted_60 : decode cX6_counted 60 = .ok (.iconst 0, 1) := by decide +kernel
theorem dX6_counted_61 : decode cX6_counted 61 = .ok (.iaload, 1) := by decide +kernel
theorem dX6_counted_62 : decode cX6_counted 62 = .ok (.ireturn, 1) := by decide +kernel
theorem dX6_counted_63 : decode cX6_counted 63 = .ok (.aload_n 0, 1) := by decide +kernel
theorem dX6_counted_64 : decode cX6_counted 64 = .ok (.getfield 32, 3) := by decide +kernel
theorem dX6_counted_67 : decode cX6_counted 67 = .ok (.ireturn, 1) := by decide +kernel
theorem dX6_counted_68 : decode cX6_counted 68 = .ok (.aload_n 0, 1) := by decide +kernel
theorem dX6_counted_69 : decode cX6_counted 69 = .ok (.getfield 39, 3) := by decide +kernel
theorem dX6_counted_72 : decode cX6_counted 72 = .ok (.ireturn, 1) := by decide +kernel
theorem dX6_counted_73 : decode cX6_counted 73 = .ok (.aload_n 0, 1) := by decide +kernel
theorem dX6_counted_74 : decode cX6_counted 74 = .ok (.getfield 46, 3) := by decide +kernel
theorem dX6_counted_77 : decode cX6_counted 77 = .ok (.ireturn, 1) := by decide +kernel
theorem dX6_counted_78 : decode cX6_counted 78 = .ok (.aload_n 0, 1) := by decide +kernel
theorem dX6_counted_79 : decode cX6_counted 79 = .ok (.getfield 22, 3) := by decide +kernel
theorem dX6_counted_82 : decode cX6_counted 82 = .ok (.iconst 1, 1) := by decide +kernel
theorem dX6_counted_83 : decode cX6_counted 83 = .ok (.iaload, 1) := by decide +kernel
theorem dX6_counted_84 : decode cX6_counted 84 = .ok (.ireturn, 1) := by decide +kernel
theorem dX6_counted_85 : decode cX6_counted 85 = .ok (.aload_n 0, 1) := by decide +kernel
theorem dX6_counted_86 : decode cX6_counted 86 = .ok (.invokevirtual 130, 3) := by decide +kernel
theorem dX6_counted_89 : decode cX6_counted 89 = .ok (.ireturn, 1) := by decide +kernel
theorem dX6_counted_90 : decode cX6_counted 90 = .ok (.iconst 0, 1) := by decide +kernel
theorem dX6_counted_91 : decode cX6_counted 91 = .ok (.istore_n 3, 1) := by decide +kernel
theorem dX6_counted_92 : decode cX6_counted 92 = .ok (.iload_n 3, 1) := by decide +kernel
theorem dX6_counted_93 : decode cX6_counted 93 = .ok (.bipush 96, 2) := by decide +kernel
theorem dX6_counted_95 : decode cX6_counted 95 = .ok (.if_icmp .ge 28, 3) := by decide +kernel
theorem dX6_counted_98 : decode cX6_counted 98 = .ok (.iload_n 2, 1) := by decide +kernel
theorem dX6_counted_99 : decode cX6_counted 99 = .ok (.aload_n 0, 1) := by decide +kernel
theorem dX6_counted_100 : decode cX6_counted 100 = .ok (.getfield 22, 3) := by decide +kernel
theorem dX6_counted_103 : decode cX6_counted 103 = .ok (.iconst 4, 1) := by decide +kernel
theorem dX6_counted_104 : decode cX6_counted 104 = .ok (.iload_n 3, 1) := by decide +kernel
theorem dX6_counted_105 : decode cX6_counted 105 = .ok (.iadd, 1) := by decide +kernel
theorem dX6_counted_106 : decode cX6_counted 106 = .ok (.iaload, 1) := by decide +kernel
theorem dX6_counted_107 : decode cX6_counted 107 = .ok (.ifCond .ne 7, 3) := by decide +kernel
theorem dX6_counted_110 : decode cX6_counted 110 = .ok (.iconst 1, 1) := by decide +kernel
theorem dX6_counted_111 : decode cX6_counted 111 = .ok (.goto 4, 3) := by decide +kernel
theorem dX6_counted_114 : decode cX6_counted 114 = .ok (.iconst 0, 1) := by decide +kernel
theorem dX6_counted_115 : decode cX6_counted 115 = .ok (.iadd, 1) := by decide +kernel
theorem dX6_counted_116 : decode cX6_counted 116 = .ok (.istore_n 2, 1) := by decide +kernel
theorem dX6_counted_117 : decode cX6_counted 117 = .ok (.iinc 3 1, 3) := by decide +kernel
theorem dX6_counted_120 : decode cX6_counted 120 = .ok (.goto (-28), 3) := by decide +kernel
theorem dX6_counted_123 : decode cX6_counted 123 = .ok (.iload_n 2, 1) := by decide +kernel
theorem dX6_counted_124 : decode cX6_counted 124 = .ok (.ireturn, 1) := by decide +kernel
theorem dX6_counted_125 : decode cX6_counted 125 = .ok (.aload_n 0, 1) := by decide +kernel
theorem dX6_counted_126 : decode cX6_counted 126 = .ok (.invokevirtual 133, 3) := by decide +kernel
theorem dX6_counted_129 : decode cX6_counted 129 = .ok (.ireturn, 1) := by decide +kernel
theorem dX6_counted_130 : decode cX6_counted 130 = .ok (.aload_n 0, 1) := by decide +kernel
theorem dX6_counted_131 : decode cX6_counted 131 = .ok (.getfield 22, 3) := by decide +kernel
theorem dX6_counted_134 : decode cX6_counted 134 = .ok (.iconst 2, 1) := by decide +kernel
theorem dX6_counted_135 : decode cX6_counted 135 = .ok (.iaload, 1) := by decide +kernel
theorem dX6_counted_136 : decode cX6_counted 136 = .ok (.ireturn, 1) := by decide +kernel
theorem dX6_counted_137 : decode cX6_counted 137 = .ok (.aload_n 0, 1) := by decide +kernel
theorem dX6_counted_138 : decode cX6_counted 138 = .ok (.getfield 22, 3) := by decide +kernel
theorem dX6_counted_141 : decode cX6_counted 141 = .ok (.iconst 3, 1) := by decide +kernel
theorem dX6_counted_142 : decode cX6_counted 142 = .ok (.iaload, 1) := by decide +kernel
theorem dX6_counted_143 : decode cX6_counted 143 = .ok (.ireturn, 1) := by decide +kernel
theorem dX6_counted_144 : decode cX6_counted 144 = .ok (.aload_n 0, 1) := by decide +kernel
theorem dX6_counted_145 : decode cX6_counted 145 = .ok (.invokevirtual 111, 3) := by decide +kernel
theorem dX6_counted_148 : decode cX6_counted 148 = .ok (.ireturn, 1) := by decide +kernel
set_option maxRecDepth 20000 in
theorem ggX6_count_X6_isIn : GoodIn wsX6_count wsX6_isIn := goodIn_r _ [5] (by decide +kernel) (by decide +kernel)
set_option maxRecDepth 20000 in
theorem gX6_count_X6_isIn : GoodIn wsX6_count (va_wsS RX6 35 yX6_isIn wsX6_isIn) := goodIn_app (goodIn_of _ (by decide +kernel)) ggX6_count_X6_isIn
set_option maxRecDepth 20000 in
theorem ggX6_count_X6_counted : GoodIn wsX6_count wsX6_counted := goodIn_r _ [9, 10, 11, 12, 13, 14, 15, 16, 4, 17, 18, 19, 20, 21, 22, 23, 24, 25, 26, 27, 28, 29, 30, 31, 32, 33, 34, 35, 36, 37, 38, 39, 40, 41, 42, 43, 44, 45, 46, 47, 48, 49, 50, 51, 52, 53, 58, 59, 60, 61, 62, 63, 64, 65, 66, 67] (by decide +kernel) (by decide +kernel)
set_option maxRecDepth 20000 in
theorem gX6_count_X6_counted : GoodIn wsX6_count (wsV RX6 136 RX6 yX6_counted wsX6_counted) := goodIn_app (goodIn_of _ (by decide +kernel)) ggX6_count_X6_counted
set_option maxRecDepth 20000 in
theorem ggX6_count_X6_fail : GoodIn wsX6_count wsX6_fail := goodIn_r _ [57, 1, 58, 59, 60, 61, 62, 63, 64, 65, 66, 67] (by decide +kernel) (by decide +kernel)
set_option maxRecDepth 20000 in
theorem gX6_count_X6_fail : GoodIn wsX6_count (wsV RX6 55 RX6 yX6_fail wsX6_fail) := goodIn_app (goodIn_of _ (by decide +kernel)) ggX6_count_X6_fail
theorem dX6_count_0 : decode cX6_count 0 = .ok (.aload_n 0, 1) := by decide +kernel
theorem dX6_count_1 : decode cX6_count 1 = .ok (.iconst 0, 1) := by decide +kernel
theorem dX6_count_2 : decode cX6_count 2 = .ok (.putfield 28, 3) := by decide +kernel
theorem dX6_count_5 : decode cX6_count 5 = .ok (.iload_n 1, 1) := by decide +kernel
theorem dX6_count_6 : decode cX6_count 6 = .ok (.iconst 0, 1) := by decide +kernel
theorem dX6_count_7 : decode cX6_count 7 = .ok (.bipush 10, 2) := by decide +kernel
theorem dX6_count_9 : decode cX6_count 9 = .ok (.invokestatic 35, 3) := by decide +kernel
theorem dX6_count_12 : decode cX6_count 12 = .ok (.ifCond .eq 11, 3) := by decide +kernel
theorem dX6_count_15 : decode cX6_count 15 = .ok (.aload_n 0, 1) := by decide +kernel
theorem dX6_count_16 : decode cX6_count 16 = .ok (.iload_n 1, 1) := by decide +kernel
theorem dX6_count_17 : decode cX6_count 17 = .ok (.invokevirtual 136, 3) := by decide +kernel
theorem dX6_count_20 : decode cX6_count 20 = .ok (.goto 8, 3) := by decide +kernel
theorem dX6_count_23 : decode cX6_count 23 = .ok (.aload_n 0, 1) := by decide +kernel
theorem dX6_count_24 : decode cX6_count 24 = .ok (.iconst 1, 1) := by decide +kernel
theorem dX6_count_25 : decode cX6_count 25 = .ok (.invokevirtual 55, 3) := by decide +kernel
theorem dX6_count_28 : decode cX6_count 28 = .ok (.ireturn, 1) := by decide +kernel
set_option maxRecDepth 20000 in
theorem ggX6_isFeast_X6_isIn : GoodIn wsX6_isFeast wsX6_isIn := goodIn_r _ [6] (by decide +kernel) (by decide +kernel)
set_option maxRecDepth 20000 in
theorem gX6_isFeast_X6_isIn : GoodIn wsX6_isFeast (va_wsS RX6 35 yX6_isIn wsX6_isIn) := goodIn_app (goodIn_of _ (by decide +kernel)) ggX6_isFeast_X6_isIn
set_option maxRecDepth 20000 in
theorem ggX6_isFeast_X6_isFeastOn : GoodIn wsX6_isFeast wsX6_isFeastOn := goodIn_r _ [10, 11, 12, 13, 14, 15, 16, 17, 18, 19, 20, 21, 22, 23] (by decide +kernel) (by decide +kernel)
set_option maxRecDepth 20000 in
theorem gX6_isFeast_X6_isFeastOn : GoodIn wsX6_isFeast (wsV RX6 108 RX6 yX6_isFeastOn wsX6_isFeastOn) := goodIn_app (goodIn_of _ (by decide +kernel)) ggX6_isFeast_X6_isFeastOn
theorem dX6_isFeast_0 : decode cX6_isFeast 0 = .ok (.aload_n 0, 1) := by decide +kernel
theorem dX6_isFeast_1 : decode cX6_isFeast 1 = .ok (.iload_n 1, 1) := by decide +kernel
theorem dX6_isFeast_2 : decode cX6_isFeast 2 = .ok (.iconst 0, 1) := by decide +kernel
theorem dX6_isFeast_3 : decode cX6_isFeast 3 = .ok (.bipush 60, 2) := by decide +kernel
theorem dX6_isFeast_5 : decode cX6_isFeast 5 = .ok (.invokestatic 35, 3) := by decide +kernel
theorem dX6_isFeast_8 : decode cX6_isFeast 8 = .ok (.ifCond .eq 7, 3) := by decide +kernel
theorem dX6_isFeast_11 : decode cX6_isFeast 11 = .ok (.iconst 0, 1) := by decide +kernel
theorem dX6_isFeast_12 : decode cX6_isFeast 12 = .ok (.goto 4, 3) := by decide +kernel
theorem dX6_isFeast_15 : decode cX6_isFeast 15 = .ok (.iconst 1, 1) := by decide +kernel
theorem dX6_isFeast_16 : decode cX6_isFeast 16 = .ok (.putfield 28, 3) := by decide +kernel
theorem dX6_isFeast_19 : decode cX6_isFeast 19 = .ok (.aload_n 0, 1) := by decide +kernel
theorem dX6_isFeast_20 : decode cX6_isFeast 20 = .ok (.getfield 28, 3) := by decide +kernel
theorem dX6_isFeast_23 : decode cX6_isFeast 23 = .ok (.ifCond .ne 22, 3) := by decide +kernel
theorem dX6_isFeast_26 : decode cX6_isFeast 26 = .ok (.aload_n 0, 1) := by decide +kernel
theorem dX6_isFeast_27 : decode cX6_isFeast 27 = .ok (.aload_n 0, 1) := by decide +kernel
theorem dX6_isFeast_28 : decode cX6_isFeast 28 = .ok (.getfield 22, 3) := by decide +kernel
theorem dX6_isFeast_31 : decode cX6_isFeast 31 = .ok (.iconst 0, 1) := by decide +kernel
theorem dX6_isFeast_32 : decode cX6_isFeast 32 = .ok (.iaload, 1) := by decide +kernel
theorem dX6_isFeast_33 : decode cX6_isFeast 33 = .ok (.iload_n 1, 1) := by decide +kernel
theorem dX6_isFeast_34 : decode cX6_isFeast 34 = .ok (.iadd, 1) := by decide +kernel
theorem dX6_isFeast_35 : decode cX6_isFeast 35 = .ok (.invokevirtual 108, 3) := by decide +kernel
theorem dX6_isFeast_38 : decode cX6_isFeast 38 = .ok (.ifCond .eq 7, 3) := by decide +kernel
theorem dX6_isFeast_41 : decode cX6_isFeast 41 = .ok (.iconst 1, 1) := by decide +kernel
theorem dX6_isFeast_42 : decode cX6_isFeast 42 = .ok (.goto 4, 3) := by decide +kernel
theorem dX6_isFeast_45 : decode cX6_isFeast 45 = .ok (.iconst 0, 1) := by decide +kernel
theorem dX6_isFeast_46 : decode cX6_isFeast 46 = .ok (.ireturn, 1) := by decide +kernel
set_option maxRecDepth 20000 in
theorem ggX6_nextFeast_X6_isFeastOn : GoodIn wsX6_nextFeast wsX6_isFeastOn := goodIn_r _ [6, 7, 8, 9, 10, 11, 12, 13, 14, 15, 16, 17, 18, 19] (by decide +kernel) (by decide +kernel)
set_option maxRecDepth 20000 in
theorem gX6_nextFeast_X6_isFeastOn : GoodIn wsX6_nextFeast (wsV RX6 108 RX6 yX6_isFeastOn wsX6_isFeastOn) := goodIn_app (goodIn_of _ (by decide +kernel)) ggX6_nextFeast_X6_isFeastOn
theorem dX6_nextFeast_0 : decode cX6_nextFeast 0 = .ok (.iconst 0, 1) := by decide +kernel
theorem dX6_nextFeast_1 : decode cX6_nextFeast 1 = .ok (.istore_n 1, 1) := by decide +kernel
theorem dX6_nextFeast_2 : decode cX6_nextFeast 2 = .ok (.iload_n 1, 1) := by decide +kernel
theorem dX6_nextFeast_3 : decode cX6_nextFeast 3 = .ok (.bipush 60, 2) := by decide +kernel
theorem dX6_nextFeast_5 : decode cX6_nextFeast 5 = .ok (.if_icmp .gt 26, 3) := by decide +kernel
theorem dX6_nextFeast_8 : decode cX6_nextFeast 8 = .ok (.aload_n 0, 1) := by decide +kernel
theorem dX6_nextFeast_9 : decode cX6_nextFeast 9 = .ok (.aload_n 0, 1) := by decide +kernel
theorem dX6_nextFeast_10 : decode cX6_nextFeast 10 = .ok (.getfield 22, 3) := by decide +kernel
theorem dX6_nextFeast_13 : decode cX6_nextFeast 13 = .ok (.iconst 0, 1) := by decide +kernel
theorem dX6_nextFeast_14 : decode cX6_nextFeast 14 = .ok (.iaload, 1) := by decide +kernel
theorem dX6_nextFeast_15 : decode cX6_nextFeast 15 = .ok (.iload_n 1, 1) := by decide +kernel
theorem dX6_nextFeast_16 : decode cX6_nextFeast 16 = .ok (.iadd, 1) := by decide +kernel
theorem dX6_nextFeast_17 : decode cX6_nextFeast 17 = .ok (.invokevirtual 108, 3) := by decide +kernel
theorem dX6_nextFeast_20 : decode cX6_nextFeast 20 = .ok (.ifCond .eq 5, 3) := by decide +kernel
theorem dX6_nextFeast_23 : decode cX6_nextFeast 23 = .ok (.iload_n 1, 1) := by decide +kernel
theorem dX6_nextFeast_24 : decode cX6_nextFeast 24 = .ok (.ireturn, 1) := by decide +kernel
theorem dX6_nextFeast_25 : decode cX6_nextFeast 25 = .ok (.iinc 1 1, 3) := by decide +kernel
theorem dX6_nextFeast_28 : decode cX6_nextFeast 28 = .ok (.goto (-26), 3) := by decide +kernel
theorem dX6_nextFeast_31 : decode cX6_nextFeast 31 = .ok (.iconst (-1), 1) := by decide +kernel
theorem dX6_nextFeast_32 : decode cX6_nextFeast 32 = .ok (.ireturn, 1) := by decide +kernel
set_option maxRecDepth 20000 in
theorem ggX6_next_X6_nextFeast : GoodIn wsX6_next wsX6_nextFeast := goodIn_r _ [6, 7, 8, 9, 10, 5, 11, 12, 13, 14, 15, 16, 17, 18, 19, 20, 21, 22, 23, 24] (by decide +kernel) (by decide +kernel)
set_option maxRecDepth 20000 in
theorem gX6_next_X6_nextFeast : GoodIn wsX6_next (wsV RX6 139 RX6 yX6_nextFeast wsX6_nextFeast) := goodIn_app (goodIn_of _ (by decide +kernel)) ggX6_next_X6_nextFeast
theorem dX6_next_0 : decode cX6_next 0 = .ok (.aload_n 0, 1) := by decide +kernel
theorem dX6_next_1 : decode cX6_next 1 = .ok (.iconst 0, 1) := by decide +kernel
theorem dX6_next_2 : decode cX6_next 2 = .ok (.putfield 28, 3) := by decide +kernel
theorem dX6_next_5 : decode cX6_next 5 = .ok (.aload_n 0, 1) := by decide +kernel
theorem dX6_next_6 : decode cX6_next 6 = .ok (.invokevirtual 139, 3) := by decide +kernel
theorem dX6_next_9 : decode cX6_next 9 = .ok (.ireturn, 1) := by decide +kernel
set_option maxRecDepth 20000 in
theorem ggX6_would_X6_isIn : GoodIn wsX6_would wsX6_isIn := goodIn_r _ [6] (by decide +kernel) (by decide +kernel)
set_option maxRecDepth 20000 in
theorem gX6_would_X6_isIn : GoodIn wsX6_would (va_wsS RX6 35 yX6_isIn wsX6_isIn) := goodIn_app (goodIn_of _ (by decide +kernel)) ggX6_would_X6_isIn
set_option maxRecDepth 20000 in
theorem ggX6_would_X6_fail : GoodIn wsX6_would wsX6_fail := goodIn_r _ [10, 1, 109, 110, 111, 112, 113, 114, 115, 116, 117, 118] (by decide +kernel) (by decide +kernel)
set_option maxRecDepth 20000 in
theorem gX6_would_X6_fail : GoodIn wsX6_would (wsV RX6 55 RX6 yX6_fail wsX6_fail) := goodIn_app (goodIn_of _ (by decide +kernel)) ggX6_would_X6_fail
set_option maxRecDepth 20000 in
theorem ggX6_would_X6_keep : GoodIn wsX6_would wsX6_keep := goodIn_r _ [14, 2, 15, 16, 17, 18, 19, 109, 110, 111, 112, 113, 114, 115, 116, 117, 118] (by decide +kernel) (by decide +kernel)
set_option maxRecDepth 20000 in
theorem gX6_would_X6_keep : GoodIn wsX6_would (wsV RX6 142 RX6 yX6_keep wsX6_keep) := goodIn_app (goodIn_of _ (by decide +kernel)) ggX6_would_X6_keep
set_option maxRecDepth 20000 in
theorem ggX6_would_X6_daysOn : GoodIn wsX6_would wsX6_daysOn := goodIn_r _ [23, 24, 25, 26, 5, 27, 2, 28, 29, 30, 31, 32, 33, 34, 35, 36, 37, 38, 39, 40, 41, 42, 43, 44, 45, 46, 47, 48, 49, 50, 51, 52, 53, 54, 55, 56, 57, 58, 59, 60, 61, 62, 63, 64, 65, 66, 67, 68, 69, 70, 71, 72, 73, 74, 75, 76, 77, 78, 79, 80, 81, 82, 83, 84, 85, 86, 87, 88, 89, 90, 91, 92, 93, 94, 95, 96, 109, 110, 111, 112, 113, 114, 115, 116, 117, 118] (by decide +kernel) (by decide +kernel)
set_option maxRecDepth 20000 in
theorem gX6_would_X6_daysOn : GoodIn wsX6_would (wsV RX6 121 RX6 yX6_daysOn wsX6_daysOn) := goodIn_app (goodIn_of _ (by decide +kernel)) ggX6_would_X6_daysOn
set_option maxRecDepth 20000 in
theorem ggX6_would_X6_allSoot : GoodIn wsX6_would wsX6_allSoot := goodIn_r _ [100, 2, 109, 110, 111, 112, 113, 114, 115, 116, 117, 118] (by decide +kernel) (by decide +kernel)
set_option maxRecDepth 20000 in
theorem gX6_would_X6_allSoot : GoodIn wsX6_would (wsV RX6 130 RX6 yX6_allSoot wsX6_allSoot) := goodIn_app (goodIn_of _ (by decide +kernel)) ggX6_would_X6_allSoot
set_option maxRecDepth 20000 in
theorem ggX6_would_X6_cleaned : GoodIn wsX6_would wsX6_cleaned := goodIn_r _ [104, 32, 77, 78, 79, 5, 80, 2, 109, 110, 111, 112, 113, 114, 115, 116, 117, 118] (by decide +kernel) (by decide +kernel)
set_option maxRecDepth 20000 in
theorem gX6_would_X6_cleaned : GoodIn wsX6_would (wsV RX6 133 RX6 yX6_cleaned wsX6_cleaned) := goodIn_app (goodIn_of _ (by decide +kernel)) ggX6_would_X6_cleaned
set_option maxRecDepth 20000 in
theorem ggX6_would_X6_bringBack : GoodIn wsX6_would wsX6_bringBack := goodIn_r _ [108, 15, 2, 16, 17, 18, 19, 109, 110, 111, 112, 113, 114, 115, 116, 117, 118] (by decide +kernel) (by decide +kernel)
set_option maxRecDepth 20000 in
theorem gX6_would_X6_bringBack : GoodIn wsX6_would (wsV RX6 145 RX6 yX6_bringBack wsX6_bringBack) := goodIn_app (goodIn_of _ (by decide +kernel)) ggX6_would_X6_bringBack
theorem dX6_would_0 : decode cX6_would 0 = .ok (.aload_n 0, 1) := by decide +kernel
theorem dX6_would_1 : decode cX6_would 1 = .ok (.iconst 0, 1) := by decide +kernel
theorem dX6_would_2 : decode cX6_would 2 = .ok (.putfield 28, 3) := by decide +kernel
theorem dX6_would_5 : decode cX6_would 5 = .ok (.iload_n 1, 1) := by decide +kernel
theorem dX6_would_6 : decode cX6_would 6 = .ok (.iconst 1, 1) := by decide +kernel
end
section
theorem dX6_would_7 : decode cX6_would 7 = .ok (.bipush 40, 2) := by decide +kernel
theorem dX6_would_9 : decode cX6_would 9 = .ok (.invokestatic 35, 3) := by decide +kernel
theorem dX6_would_12 : decode cX6_would 12 = .ok (.ifCond .ne 9, 3) := by decide +kernel
theorem dX6_would_15 : decode cX6_would 15 = .ok (.aload_n 0, 1) := by decide +kernel
theorem dX6_would_16 : decode cX6_would 16 = .ok (.iconst 1, 1) := by decide +kernel
theorem dX6_would_17 : decode cX6_would 17 = .ok (.invokevirtual 55, 3) := by decide +kernel
theorem dX6_would_20 : decode cX6_would 20 = .ok (.ireturn, 1) := by decide +kernel
theorem dX6_would_21 : decode cX6_would 21 = .ok (.iload_n 2, 1) := by decide +kernel
theorem dX6_would_22 : decode cX6_would 22 = .ok (.iconst 0, 1) := by decide +kernel
theorem dX6_would_23 : decode cX6_would 23 = .ok (.iconst 2, 1) := by decide +kernel
theorem dX6_would_24 : decode cX6_would 24 = .ok (.invokestatic 35, 3) := by decide +kernel
theorem dX6_would_27 : decode cX6_would 27 = .ok (.ifCond .ne 9, 3) := by decide +kernel
theorem dX6_would_30 : decode cX6_would 30 = .ok (.aload_n 0, 1) := by decide +kernel
theorem dX6_would_31 : decode cX6_would 31 = .ok (.iconst 2, 1) := by decide +kernel
theorem dX6_would_32 : decode cX6_would 32 = .ok (.invokevirtual 55, 3) := by decide +kernel
theorem dX6_would_35 : decode cX6_would 35 = .ok (.ireturn, 1) := by decide +kernel
theorem dX6_would_36 : decode cX6_would 36 = .ok (.aload_n 0, 1) := by decide +kernel
theorem dX6_would_37 : decode cX6_would 37 = .ok (.invokevirtual 142, 3) := by decide +kernel
theorem dX6_would_40 : decode cX6_would 40 = .ok (.aload_n 0, 1) := by decide +kernel
theorem dX6_would_41 : decode cX6_would 41 = .ok (.iload_n 1, 1) := by decide +kernel
theorem dX6_would_42 : decode cX6_would 42 = .ok (.invokevirtual 121, 3) := by decide +kernel
theorem dX6_would_45 : decode cX6_would 45 = .ok (.iload_n 2, 1) := by decide +kernel
theorem dX6_would_46 : decode cX6_would 46 = .ok (.ifCond .ne 10, 3) := by decide +kernel
theorem dX6_would_49 : decode cX6_would 49 = .ok (.aload_n 0, 1) := by decide +kernel
theorem dX6_would_50 : decode cX6_would 50 = .ok (.invokevirtual 130, 3) := by decide +kernel
theorem dX6_would_53 : decode cX6_would 53 = .ok (.goto 21, 3) := by decide +kernel
theorem dX6_would_56 : decode cX6_would 56 = .ok (.iload_n 2, 1) := by decide +kernel
theorem dX6_would_57 : decode cX6_would 57 = .ok (.iconst 1, 1) := by decide +kernel
theorem dX6_would_58 : decode cX6_would 58 = .ok (.if_icmp .ne 12, 3) := by decide +kernel
theorem dX6_would_61 : decode cX6_would 61 = .ok (.aload_n 0, 1) := by decide +kernel
theorem dX6_would_62 : decode cX6_would 62 = .ok (.getfield 22, 3) := by decide +kernel
theorem dX6_would_65 : decode cX6_would 65 = .ok (.iconst 2, 1) := by decide +kernel
theorem dX6_would_66 : decode cX6_would 66 = .ok (.iaload, 1) := by decide +kernel
theorem dX6_would_67 : decode cX6_would 67 = .ok (.goto 7, 3) := by decide +kernel
theorem dX6_would_70 : decode cX6_would 70 = .ok (.aload_n 0, 1) := by decide +kernel
theorem dX6_would_71 : decode cX6_would 71 = .ok (.invokevirtual 133, 3) := by decide +kernel
theorem dX6_would_74 : decode cX6_would 74 = .ok (.istore_n 3, 1) := by decide +kernel
theorem dX6_would_75 : decode cX6_would 75 = .ok (.aload_n 0, 1) := by decide +kernel
theorem dX6_would_76 : decode cX6_would 76 = .ok (.invokevirtual 145, 3) := by decide +kernel
theorem dX6_would_79 : decode cX6_would 79 = .ok (.iload_n 3, 1) := by decide +kernel
theorem dX6_would_80 : decode cX6_would 80 = .ok (.ireturn, 1) := by decide +kernel
set_option maxRecDepth 20000 in
theorem ggX6_until_X6_isWindow : GoodIn wsX6_until wsX6_isWindow := goodIn_r _ [6, 7, 8, 9, 5, 10, 101, 102, 103, 104, 105, 106, 107, 108, 109, 110] (by decide +kernel) (by decide +kernel)
set_option maxRecDepth 20000 in
theorem gX6_until_X6_isWindow : GoodIn wsX6_until (wsV RX6 74 RX6 yX6_isWindow wsX6_isWindow) := goodIn_app (goodIn_of _ (by decide +kernel)) ggX6_until_X6_isWindow
set_option maxRecDepth 20000 in
theorem ggX6_until_X6_fail : GoodIn wsX6_until wsX6_fail := goodIn_r _ [14, 1, 101, 102, 103, 104, 105, 106, 107, 108, 109, 110] (by decide +kernel) (by decide +kernel)
set_option maxRecDepth 20000 in
theorem gX6_until_X6_fail : GoodIn wsX6_until (wsV RX6 55 RX6 yX6_fail wsX6_fail) := goodIn_app (goodIn_of _ (by decide +kernel)) ggX6_until_X6_fail
set_option maxRecDepth 20000 in
theorem ggX6_until_X6_keep : GoodIn wsX6_until wsX6_keep := goodIn_r _ [18, 19, 20, 21, 22, 23, 24, 101, 102, 103, 104, 105, 106, 107, 108, 109, 110] (by decide +kernel) (by decide +kernel)
set_option maxRecDepth 20000 in
theorem gX6_until_X6_keep : GoodIn wsX6_until (wsV RX6 142 RX6 yX6_keep wsX6_keep) := goodIn_app (goodIn_of _ (by decide +kernel)) ggX6_until_X6_keep
set_option maxRecDepth 20000 in
theorem ggX6_until_X6_sootOf : GoodIn wsX6_until wsX6_sootOf := goodIn_r _ [28, 19, 29, 30, 31, 32, 33, 34, 35, 5, 36, 37, 38, 39, 40, 101, 102, 103, 104, 105, 106, 107, 108, 109, 110] (by decide +kernel) (by decide +kernel)
set_option maxRecDepth 20000 in
theorem gX6_until_X6_sootOf : GoodIn wsX6_until (wsV RX6 91 RX6 yX6_sootOf wsX6_sootOf) := goodIn_app (goodIn_of _ (by decide +kernel)) ggX6_until_X6_sootOf
set_option maxRecDepth 20000 in
theorem ggX6_until_X6_panes : GoodIn wsX6_until wsX6_panes := goodIn_r _ [44, 33, 34, 35, 5, 36, 37, 101, 102, 103, 104, 105, 106, 107, 108, 109, 110] (by decide +kernel) (by decide +kernel)
set_option maxRecDepth 20000 in
theorem gX6_until_X6_panes : GoodIn wsX6_until (wsV RX6 88 RX6 yX6_panes wsX6_panes) := goodIn_app (goodIn_of _ (by decide +kernel)) ggX6_until_X6_panes
set_option maxRecDepth 20000 in
theorem ggX6_until_X6_dayOn : GoodIn wsX6_until wsX6_dayOn := goodIn_r _ [48, 19, 49, 50, 31, 51, 52, 53, 54, 55, 5, 56, 29, 30, 32, 38, 39, 40, 57, 58, 59, 60, 61, 62, 63, 64, 65, 66, 67, 7, 68, 69, 70, 71, 33, 34, 35, 36, 37, 41, 42, 43, 44, 25, 26, 27, 28, 72, 73, 74, 75, 76, 77, 78, 79, 80, 81, 82, 83, 84, 85, 86, 87, 88, 89, 90, 91, 92, 93, 94, 95, 96, 101, 102, 103, 104, 105, 106, 107, 108, 109, 110] (by decide +kernel) (by decide +kernel)
set_option maxRecDepth 20000 in
theorem gX6_until_X6_dayOn : GoodIn wsX6_until (wsV RX6 118 RX6 yX6_dayOn wsX6_dayOn) := goodIn_app (goodIn_of _ (by decide +kernel)) ggX6_until_X6_dayOn
set_option maxRecDepth 20000 in
theorem ggX6_until_X6_bringBack : GoodIn wsX6_until wsX6_bringBack := goodIn_r _ [100, 20, 19, 21, 22, 23, 24, 101, 102, 103, 104, 105, 106, 107, 108, 109, 110] (by decide +kernel) (by decide +kernel)
set_option maxRecDepth 20000 in
theorem gX6_until_X6_bringBack : GoodIn wsX6_until (wsV RX6 145 RX6 yX6_bringBack wsX6_bringBack) := goodIn_app (goodIn_of _ (by decide +kernel)) ggX6_until_X6_bringBack
theorem dX6_until_0 : decode cX6_until 0 = .ok (.aload_n 0, 1) := by decide +kernel
theorem dX6_until_1 : decode cX6_until 1 = .ok (.iconst 0, 1) := by decide +kernel
theorem dX6_until_2 : decode cX6_until 2 = .ok (.putfield 28, 3) := by decide +kernel
theorem dX6_until_5 : decode cX6_until 5 = .ok (.aload_n 0, 1) := by decide +kernel
theorem dX6_until_6 : decode cX6_until 6 = .ok (.iload_n 1, 1) := by decide +kernel
theorem dX6_until_7 : decode cX6_until 7 = .ok (.invokevirtual 74, 3) := by decide +kernel
theorem dX6_until_10 : decode cX6_until 10 = .ok (.ifCond .ne 9, 3) := by decide +kernel
theorem dX6_until_13 : decode cX6_until 13 = .ok (.aload_n 0, 1) := by decide +kernel
theorem dX6_until_14 : decode cX6_until 14 = .ok (.iconst 1, 1) := by decide +kernel
theorem dX6_until_15 : decode cX6_until 15 = .ok (.invokevirtual 55, 3) := by decide +kernel
theorem dX6_until_18 : decode cX6_until 18 = .ok (.ireturn, 1) := by decide +kernel
theorem dX6_until_19 : decode cX6_until 19 = .ok (.aload_n 0, 1) := by decide +kernel
theorem dX6_until_20 : decode cX6_until 20 = .ok (.invokevirtual 142, 3) := by decide +kernel
theorem dX6_until_23 : decode cX6_until 23 = .ok (.iconst 0, 1) := by decide +kernel
theorem dX6_until_24 : decode cX6_until 24 = .ok (.istore_n 2, 1) := by decide +kernel
theorem dX6_until_25 : decode cX6_until 25 = .ok (.iload_n 2, 1) := by decide +kernel
theorem dX6_until_26 : decode cX6_until 26 = .ok (.bipush 60, 2) := by decide +kernel
theorem dX6_until_28 : decode cX6_until 28 = .ok (.if_icmp .gt 27, 3) := by decide +kernel
theorem dX6_until_31 : decode cX6_until 31 = .ok (.aload_n 0, 1) := by decide +kernel
theorem dX6_until_32 : decode cX6_until 32 = .ok (.iload_n 1, 1) := by decide +kernel
theorem dX6_until_33 : decode cX6_until 33 = .ok (.iconst 0, 1) := by decide +kernel
theorem dX6_until_34 : decode cX6_until 34 = .ok (.invokevirtual 91, 3) := by decide +kernel
theorem dX6_until_37 : decode cX6_until 37 = .ok (.aload_n 0, 1) := by decide +kernel
theorem dX6_until_38 : decode cX6_until 38 = .ok (.iload_n 1, 1) := by decide +kernel
theorem dX6_until_39 : decode cX6_until 39 = .ok (.invokevirtual 88, 3) := by decide +kernel
theorem dX6_until_42 : decode cX6_until 42 = .ok (.if_icmp .le 13, 3) := by decide +kernel
theorem dX6_until_45 : decode cX6_until 45 = .ok (.aload_n 0, 1) := by decide +kernel
theorem dX6_until_46 : decode cX6_until 46 = .ok (.invokevirtual 118, 3) := by decide +kernel
theorem dX6_until_49 : decode cX6_until 49 = .ok (.iinc 2 1, 3) := by decide +kernel
theorem dX6_until_52 : decode cX6_until 52 = .ok (.goto (-27), 3) := by decide +kernel
theorem dX6_until_55 : decode cX6_until 55 = .ok (.aload_n 0, 1) := by decide +kernel
theorem dX6_until_56 : decode cX6_until 56 = .ok (.invokevirtual 145, 3) := by decide +kernel
theorem dX6_until_59 : decode cX6_until 59 = .ok (.iload_n 2, 1) := by decide +kernel
theorem dX6_until_60 : decode cX6_until 60 = .ok (.bipush 60, 2) := by decide +kernel
theorem dX6_until_62 : decode cX6_until 62 = .ok (.if_icmp .le 7, 3) := by decide +kernel
theorem dX6_until_65 : decode cX6_until 65 = .ok (.iconst (-1), 1) := by decide +kernel
theorem dX6_until_66 : decode cX6_until 66 = .ok (.goto 4, 3) := by decide +kernel
theorem dX6_until_69 : decode cX6_until 69 = .ok (.iload_n 2, 1) := by decide +kernel
theorem dX6_until_70 : decode cX6_until 70 = .ok (.ireturn, 1) := by decide +kernel
set_option maxRecDepth 20000 in
theorem ggX6_advise_X6_isRope : GoodIn wsX6_advise wsX6_isRope := goodIn_r _ [7, 8, 9, 10, 6, 11, 109, 110, 111, 112, 113, 114, 115, 116, 117, 118] (by decide +kernel) (by decide +kernel)
set_option maxRecDepth 20000 in
theorem gX6_advise_X6_isRope : GoodIn wsX6_advise (wsV RX6 67 RX6 yX6_isRope wsX6_isRope) := goodIn_app (goodIn_of _ (by decide +kernel)) ggX6_advise_X6_isRope
set_option maxRecDepth 20000 in
theorem ggX6_advise_X6_fail : GoodIn wsX6_advise wsX6_fail := goodIn_r _ [15, 1, 109, 110, 111, 112, 113, 114, 115, 116, 117, 118] (by decide +kernel) (by decide +kernel)
set_option maxRecDepth 20000 in
theorem gX6_advise_X6_fail : GoodIn wsX6_advise (wsV RX6 55 RX6 yX6_fail wsX6_fail) := goodIn_app (goodIn_of _ (by decide +kernel)) ggX6_advise_X6_fail
set_option maxRecDepth 20000 in
theorem ggX6_advise_X6_nextFeast : GoodIn wsX6_advise wsX6_nextFeast := goodIn_r _ [19, 2, 20, 21, 22, 6, 23, 24, 25, 26, 109, 110, 111, 112, 113, 114, 115, 116, 117, 118] (by decide +kernel) (by decide +kernel)
set_option maxRecDepth 20000 in
theorem gX6_advise_X6_nextFeast : GoodIn wsX6_advise (wsV RX6 139 RX6 yX6_nextFeast wsX6_nextFeast) := goodIn_app (goodIn_of _ (by decide +kernel)) ggX6_advise_X6_nextFeast
set_option maxRecDepth 20000 in
theorem ggX6_advise_X6_keep : GoodIn wsX6_advise wsX6_keep := goodIn_r _ [30, 2, 31, 32, 33, 34, 35, 109, 110, 111, 112, 113, 114, 115, 116, 117, 118] (by decide +kernel) (by decide +kernel)
set_option maxRecDepth 20000 in
theorem gX6_advise_X6_keep : GoodIn wsX6_advise (wsV RX6 142 RX6 yX6_keep wsX6_keep) := goodIn_app (goodIn_of _ (by decide +kernel)) ggX6_advise_X6_keep
set_option maxRecDepth 20000 in
theorem ggX6_advise_X6_ro : GoodIn wsX6_advise wsX6_ro := goodIn_r _ [39, 2, 109, 110, 111, 112, 113, 114, 115, 116, 117, 118] (by decide +kernel) (by decide +kernel)
set_option maxRecDepth 20000 in
theorem gX6_advise_X6_ro : GoodIn wsX6_advise (wsV RX6 42 RX6 yX6_ro wsX6_ro) := goodIn_app (goodIn_of _ (by decide +kernel)) ggX6_advise_X6_ro
set_option maxRecDepth 20000 in
theorem ggX6_advise_X6_isHung : GoodIn wsX6_advise wsX6_isHung := goodIn_r _ [43, 8, 36, 37, 38, 6, 39, 2, 109, 110, 111, 112, 113, 114, 115, 116, 117, 118] (by decide +kernel) (by decide +kernel)
set_option maxRecDepth 20000 in
theorem gX6_advise_X6_isHung : GoodIn wsX6_advise (wsV RX6 59 RX6 yX6_isHung wsX6_isHung) := goodIn_app (goodIn_of _ (by decide +kernel)) ggX6_advise_X6_isHung
set_option maxRecDepth 20000 in
theorem ggX6_advise_X6_hang : GoodIn wsX6_advise wsX6_hang := goodIn_r _ [47, 48, 49, 50, 6, 51, 2, 36, 37, 38, 39, 109, 110, 111, 112, 113, 114, 115, 116, 117, 118] (by decide +kernel) (by decide +kernel)
set_option maxRecDepth 20000 in
theorem gX6_advise_X6_hang : GoodIn wsX6_advise (wsV RX6 70 RX6 yX6_hang wsX6_hang) := goodIn_app (goodIn_of _ (by decide +kernel)) ggX6_advise_X6_hang
set_option maxRecDepth 20000 in
theorem ggX6_advise_X6_daysOn : GoodIn wsX6_advise wsX6_daysOn := goodIn_r _ [55, 56, 57, 58, 6, 59, 2, 60, 61, 62, 63, 8, 64, 65, 66, 67, 68, 69, 70, 71, 72, 73, 20, 21, 22, 23, 24, 25, 26, 74, 75, 76, 77, 78, 79, 80, 81, 82, 83, 84, 85, 86, 87, 88, 89, 90, 91, 92, 93, 94, 95, 96, 97, 98, 99, 100, 36, 37, 38, 39, 48, 49, 50, 51, 101, 102, 103, 104, 40, 41, 42, 43, 44, 45, 46, 47, 109, 110, 111, 112, 113, 114, 115, 116, 117, 118] (by decide +kernel) (by decide +kernel)
set_option maxRecDepth 20000 in
theorem gX6_advise_X6_daysOn : GoodIn wsX6_advise (wsV RX6 121 RX6 yX6_daysOn wsX6_daysOn) := goodIn_app (goodIn_of _ (by decide +kernel)) ggX6_advise_X6_daysOn
set_option maxRecDepth 20000 in
theorem ggX6_advise_X6_bringBack : GoodIn wsX6_advise wsX6_bringBack := goodIn_r _ [108, 31, 2, 32, 33, 34, 35, 109, 110, 111, 112, 113, 114, 115, 116, 117, 118] (by decide +kernel) (by decide +kernel)
set_option maxRecDepth 20000 in
theorem gX6_advise_X6_bringBack : GoodIn wsX6_advise (wsV RX6 145 RX6 yX6_bringBack wsX6_bringBack) := goodIn_app (goodIn_of _ (by decide +kernel)) ggX6_advise_X6_bringBack
theorem dX6_advise_0 : decode cX6_advise 0 = .ok (.aload_n 0, 1) := by decide +kernel
theorem dX6_advise_1 : decode cX6_advise 1 = .ok (.iconst 0, 1) := by decide +kernel
theorem dX6_advise_2 : decode cX6_advise 2 = .ok (.putfield 28, 3) := by decide +kernel
theorem dX6_advise_5 : decode cX6_advise 5 = .ok (.aload_n 0, 1) := by decide +kernel
theorem dX6_advise_6 : decode cX6_advise 6 = .ok (.iload_n 1, 1) := by decide +kernel
theorem dX6_advise_7 : decode cX6_advise 7 = .ok (.invokevirtual 67, 3) := by decide +kernel
theorem dX6_advise_10 : decode cX6_advise 10 = .ok (.ifCond .ne 9, 3) := by decide +kernel
theorem dX6_advise_13 : decode cX6_advise 13 = .ok (.aload_n 0, 1) := by decide +kernel
theorem dX6_advise_14 : decode cX6_advise 14 = .ok (.iconst 1, 1) := by decide +kernel
theorem dX6_advise_15 : decode cX6_advise 15 = .ok (.invokevirtual 55, 3) := by decide +kernel
theorem dX6_advise_18 : decode cX6_advise 18 = .ok (.ireturn, 1) := by decide +kernel
theorem dX6_advise_19 : decode cX6_advise 19 = .ok (.aload_n 0, 1) := by decide +kernel
theorem dX6_advise_20 : decode cX6_advise 20 = .ok (.invokevirtual 139, 3) := by decide +kernel
theorem dX6_advise_23 : decode cX6_advise 23 = .ok (.istore_n 2, 1) := by decide +kernel
theorem dX6_advise_24 : decode cX6_advise 24 = .ok (.iload_n 2, 1) := by decide +kernel
theorem dX6_advise_25 : decode cX6_advise 25 = .ok (.iconst (-1), 1) := by decide +kernel
theorem dX6_advise_26 : decode cX6_advise 26 = .ok (.if_icmp .ne 9, 3) := by decide +kernel
theorem dX6_advise_29 : decode cX6_advise 29 = .ok (.aload_n 0, 1) := by decide +kernel
theorem dX6_advise_30 : decode cX6_advise 30 = .ok (.iconst 2, 1) := by decide +kernel
theorem dX6_advise_31 : decode cX6_advise 31 = .ok (.invokevirtual 55, 3) := by decide +kernel
theorem dX6_advise_34 : decode cX6_advise 34 = .ok (.ireturn, 1) := by decide +kernel
theorem dX6_advise_35 : decode cX6_advise 35 = .ok (.aload_n 0, 1) := by decide +kernel
theorem dX6_advise_36 : decode cX6_advise 36 = .ok (.invokevirtual 142, 3) := by decide +kernel
theorem dX6_advise_39 : decode cX6_advise 39 = .ok (.iconst (-1), 1) := by decide +kernel
theorem dX6_advise_40 : decode cX6_advise 40 = .ok (.istore_n 3, 1) := by decide +kernel
theorem dX6_advise_41 : decode cX6_advise 41 = .ok (.iconst (-1), 1) := by decide +kernel
theorem dX6_advise_42 : decode cX6_advise 42 = .ok (.istore 4, 2) := by decide +kernel
theorem dX6_advise_44 : decode cX6_advise 44 = .ok (.iconst 0, 1) := by decide +kernel
theorem dX6_advise_45 : decode cX6_advise 45 = .ok (.istore 5, 2) := by decide +kernel
theorem dX6_advise_47 : decode cX6_advise 47 = .ok (.iload 5, 2) := by decide +kernel
theorem dX6_advise_49 : decode cX6_advise 49 = .ok (.bipush 12, 2) := by decide +kernel
theorem dX6_advise_51 : decode cX6_advise 51 = .ok (.if_icmp .ge 75, 3) := by decide +kernel
theorem dX6_advise_54 : decode cX6_advise 54 = .ok (.iload 5, 2) := by decide +kernel
theorem dX6_advise_56 : decode cX6_advise 56 = .ok (.aload_n 0, 1) := by decide +kernel
theorem dX6_advise_57 : decode cX6_advise 57 = .ok (.iload_n 1, 1) := by decide +kernel
theorem dX6_advise_58 : decode cX6_advise 58 = .ok (.iconst 0, 1) := by decide +kernel
theorem dX6_advise_59 : decode cX6_advise 59 = .ok (.invokevirtual 42, 3) := by decide +kernel
theorem dX6_advise_62 : decode cX6_advise 62 = .ok (.if_icmp .eq 22, 3) := by decide +kernel
theorem dX6_advise_65 : decode cX6_advise 65 = .ok (.aload_n 0, 1) := by decide +kernel
theorem dX6_advise_66 : decode cX6_advise 66 = .ok (.iload 5, 2) := by decide +kernel
theorem dX6_advise_68 : decode cX6_advise 68 = .ok (.invokevirtual 59, 3) := by decide +kernel
theorem dX6_advise_71 : decode cX6_advise 71 = .ok (.ifCond .eq 6, 3) := by decide +kernel
theorem dX6_advise_74 : decode cX6_advise 74 = .ok (.goto 46, 3) := by decide +kernel
theorem dX6_advise_77 : decode cX6_advise 77 = .ok (.aload_n 0, 1) := by decide +kernel
theorem dX6_advise_78 : decode cX6_advise 78 = .ok (.iload_n 1, 1) := by decide +kernel
theorem dX6_advise_79 : decode cX6_advise 79 = .ok (.iload 5, 2) := by decide +kernel
theorem dX6_advise_81 : decode cX6_advise 81 = .ok (.invokevirtual 70, 3) := by decide +kernel
theorem dX6_advise_84 : decode cX6_advise 84 = .ok (.aload_n 0, 1) := by decide +kernel
theorem dX6_advise_85 : decode cX6_advise 85 = .ok (.iload_n 2, 1) := by decide +kernel
theorem dX6_advise_86 : decode cX6_advise 86 = .ok (.iconst 1, 1) := by decide +kernel
theorem dX6_advise_87 : decode cX6_advise 87 = .ok (.iadd, 1) := by decide +kernel
theorem dX6_advise_88 : decode cX6_advise 88 = .ok (.invokevirtual 121, 3) := by decide +kernel
theorem dX6_advise_91 : decode cX6_advise 91 = .ok (.aload_n 0, 1) := by decide +kernel
theorem dX6_advise_92 : decode cX6_advise 92 = .ok (.getfield 22, 3) := by decide +kernel
theorem dX6_advise_95 : decode cX6_advise 95 = .ok (.iconst 2, 1) := by decide +kernel
theorem dX6_advise_96 : decode cX6_advise 96 = .ok (.iaload, 1) := by decide +kernel
theorem dX6_advise_97 : decode cX6_advise 97 = .ok (.istore 6, 2) := by decide +kernel
theorem dX6_advise_99 : decode cX6_advise 99 = .ok (.aload_n 0, 1) := by decide +kernel
theorem dX6_advise_100 : decode cX6_advise 100 = .ok (.invokevirtual 145, 3) := by decide +kernel
theorem dX6_advise_103 : decode cX6_advise 103 = .ok (.iload 6, 2) := by decide +kernel
theorem dX6_advise_105 : decode cX6_advise 105 = .ok (.iload 4, 2) := by decide +kernel
theorem dX6_advise_107 : decode cX6_advise 107 = .ok (.if_icmp .gt 6, 3) := by decide +kernel
theorem dX6_advise_110 : decode cX6_advise 110 = .ok (.goto 10, 3) := by decide +kernel
theorem dX6_advise_113 : decode cX6_advise 113 = .ok (.iload 5, 2) := by decide +kernel
theorem dX6_advise_115 : decode cX6_advise 115 = .ok (.istore_n 3, 1) := by decide +kernel
theorem dX6_advise_116 : decode cX6_advise 116 = .ok (.iload 6, 2) := by decide +kernel
theorem dX6_advise_118 : decode cX6_advise 118 = .ok (.istore 4, 2) := by decide +kernel
theorem dX6_advise_120 : decode cX6_advise 120 = .ok (.iinc 5 1, 3) := by decide +kernel
theorem dX6_advise_123 : decode cX6_advise 123 = .ok (.goto (-76), 3) := by decide +kernel
theorem dX6_advise_126 : decode cX6_advise 126 = .ok (.iload_n 3, 1) := by decide +kernel
theorem dX6_advise_127 : decode cX6_advise 127 = .ok (.ireturn, 1) := by decide +kernel
set_option maxRecDepth 20000 in
theorem ggX6_mean_X6_allSoot : GoodIn wsX6_mean wsX6_allSoot := goodIn_r _ [7, 8, 9, 10, 11, 12, 13, 14, 15, 16, 17, 18] (by decide +kernel) (by decide +kernel)
set_option maxRecDepth 20000 in
theorem gX6_mean_X6_allSoot : GoodIn wsX6_mean (wsV RX6 130 RX6 yX6_allSoot wsX6_allSoot) := goodIn_app (goodIn_of _ (by decide +kernel)) ggX6_mean_X6_allSoot
theorem dX6_mean_0 : decode cX6_mean 0 = .ok (.aload_n 0, 1) := by decide +kernel
theorem dX6_mean_1 : decode cX6_mean 1 = .ok (.iconst 0, 1) := by decide +kernel
theorem dX6_mean_2 : decode cX6_mean 2 = .ok (.putfield 28, 3) := by decide +kernel
theorem dX6_mean_5 : decode cX6_mean 5 = .ok (.aload_n 0, 1) := by decide +kernel
theorem dX6_mean_6 : decode cX6_mean 6 = .ok (.invokevirtual 130, 3) := by decide +kernel
theorem dX6_mean_9 : decode cX6_mean 9 = .ok (.i2d, 1) := by decide +kernel
theorem dX6_mean_10 : decode cX6_mean 10 = .ok (.ldc2_w 148, 3) := by decide +kernel
theorem dX6_mean_13 : decode cX6_mean 13 = .ok (.ddiv, 1) := by decide +kernel
theorem dX6_mean_14 : decode cX6_mean 14 = .ok (.dreturn, 1) := by decide +kernel
set_option maxRecDepth 20000 in
theorem ggX6_digest_X6_counted : GoodIn wsX6_digest wsX6_counted := goodIn_r _ [11, 6, 4, 5, 12, 13, 14, 15, 10, 16, 17, 18, 19, 20, 21, 22, 23, 24, 25, 26, 27, 28, 29, 30, 31, 32, 33, 34, 35, 36, 37, 38, 39, 40, 41, 42, 43, 44, 45, 46, 47, 48, 49, 50, 51, 52, 62, 63, 64, 65, 66, 67, 68, 69, 70, 71] (by decide +kernel) (by decide +kernel)
set_option maxRecDepth 20000 in
theorem gX6_digest_X6_counted : GoodIn wsX6_digest (wsV RX6 136 RX6 yX6_counted wsX6_counted) := goodIn_app (goodIn_of _ (by decide +kernel)) ggX6_digest_X6_counted
set_option maxRecDepth 20000 in
theorem ggX6_digest_X6_windowTold : GoodIn wsX6_digest wsX6_windowTold := goodIn_r _ [56, 46, 47, 48, 10, 49, 6, 33, 34, 35, 36, 37, 38, 39, 40, 41, 50, 51, 52, 29, 30, 31, 32, 42, 43, 44, 45, 62, 63, 64, 65, 66, 67, 68, 69, 70, 71] (by decide +kernel) (by decide +kernel)
set_option maxRecDepth 20000 in
theorem gX6_digest_X6_windowTold : GoodIn wsX6_digest (wsV RX6 124 RX6 yX6_windowTold wsX6_windowTold) := goodIn_app (goodIn_of _ (by decide +kernel)) ggX6_digest_X6_windowTold
set_option maxRecDepth 20000 in
theorem ggX6_digest_X6_ropeTold : GoodIn wsX6_digest wsX6_ropeTold := goodIn_r _ [60, 61, 21, 22, 23, 10, 24, 6, 62, 63, 64, 65, 66, 67, 68, 69, 70, 71] (by decide +kernel) (by decide +kernel)
set_option maxRecDepth 20000 in
theorem gX6_digest_X6_ropeTold : GoodIn wsX6_digest (wsV RX6 127 RX6 yX6_ropeTold wsX6_ropeTold) := goodIn_app (goodIn_of _ (by decide +kernel)) ggX6_digest_X6_ropeTold
theorem dX6_digest_0 : decode cX6_digest 0 = .ok (.aload_n 0, 1) := by decide +kernel
theorem dX6_digest_1 : decode cX6_digest 1 = .ok (.iconst 0, 1) := by decide +kernel
theorem dX6_digest_2 : decode cX6_digest 2 = .ok (.putfield 28, 3) := by decide +kernel
theorem dX6_digest_5 : decode cX6_digest 5 = .ok (.ldc2_w 150, 3) := by decide +kernel
theorem dX6_digest_8 : decode cX6_digest 8 = .ok (.lstore_n 1, 1) := by decide +kernel
theorem dX6_digest_9 : decode cX6_digest 9 = .ok (.iconst 0, 1) := by decide +kernel
theorem dX6_digest_10 : decode cX6_digest 10 = .ok (.istore_n 3, 1) := by decide +kernel
theorem dX6_digest_11 : decode cX6_digest 11 = .ok (.iload_n 3, 1) := by decide +kernel
theorem dX6_digest_12 : decode cX6_digest 12 = .ok (.bipush 11, 2) := by decide +kernel
theorem dX6_digest_14 : decode cX6_digest 14 = .ok (.if_icmp .ge 22, 3) := by decide +kernel
theorem dX6_digest_17 : decode cX6_digest 17 = .ok (.lload_n 1, 1) := by decide +kernel
theorem dX6_digest_18 : decode cX6_digest 18 = .ok (.ldc2_w 152, 3) := by decide +kernel
theorem dX6_digest_21 : decode cX6_digest 21 = .ok (.lmul, 1) := by decide +kernel
theorem dX6_digest_22 : decode cX6_digest 22 = .ok (.aload_n 0, 1) := by decide +kernel
theorem dX6_digest_23 : decode cX6_digest 23 = .ok (.iload_n 3, 1) := by decide +kernel
theorem dX6_digest_24 : decode cX6_digest 24 = .ok (.invokevirtual 136, 3) := by decide +kernel
theorem dX6_digest_27 : decode cX6_digest 27 = .ok (.i2l, 1) := by decide +kernel
theorem dX6_digest_28 : decode cX6_digest 28 = .ok (.ladd, 1) := by decide +kernel
theorem dX6_digest_29 : decode cX6_digest 29 = .ok (.lstore_n 1, 1) := by decide +kernel
theorem dX6_digest_30 : decode cX6_digest 30 = .ok (.iinc 3 1, 3) := by decide +kernel
theorem dX6_digest_33 : decode cX6_digest 33 = .ok (.goto (-22), 3) := by decide +kernel
theorem dX6_digest_36 : decode cX6_digest 36 = .ok (.iconst 0, 1) := by decide +kernel
theorem dX6_digest_37 : decode cX6_digest 37 = .ok (.istore_n 3, 1) := by decide +kernel
theorem dX6_digest_38 : decode cX6_digest 38 = .ok (.iload_n 3, 1) := by decide +kernel
theorem dX6_digest_39 : decode cX6_digest 39 = .ok (.aload_n 0, 1) := by decide +kernel
theorem dX6_digest_40 : decode cX6_digest 40 = .ok (.getfield 32, 3) := by decide +kernel
theorem dX6_digest_43 : decode cX6_digest 43 = .ok (.if_icmp .ge 40, 3) := by decide +kernel
theorem dX6_digest_46 : decode cX6_digest 46 = .ok (.iconst 0, 1) := by decide +kernel
theorem dX6_digest_47 : decode cX6_digest 47 = .ok (.istore 4, 2) := by decide +kernel
theorem dX6_digest_49 : decode cX6_digest 49 = .ok (.iload 4, 2) := by decide +kernel
theorem dX6_digest_51 : decode cX6_digest 51 = .ok (.bipush 8, 2) := by decide +kernel
theorem dX6_digest_53 : decode cX6_digest 53 = .ok (.if_icmp .ge 24, 3) := by decide +kernel
theorem dX6_digest_56 : decode cX6_digest 56 = .ok (.lload_n 1, 1) := by decide +kernel
theorem dX6_digest_57 : decode cX6_digest 57 = .ok (.ldc2_w 152, 3) := by decide +kernel
theorem dX6_digest_60 : decode cX6_digest 60 = .ok (.lmul, 1) := by decide +kernel
theorem dX6_digest_61 : decode cX6_digest 61 = .ok (.aload_n 0, 1) := by decide +kernel
theorem dX6_digest_62 : decode cX6_digest 62 = .ok (.iload_n 3, 1) := by decide +kernel
theorem dX6_digest_63 : decode cX6_digest 63 = .ok (.iload 4, 2) := by decide +kernel
theorem dX6_digest_65 : decode cX6_digest 65 = .ok (.invokevirtual 124, 3) := by decide +kernel
theorem dX6_digest_68 : decode cX6_digest 68 = .ok (.i2l, 1) := by decide +kernel
theorem dX6_digest_69 : decode cX6_digest 69 = .ok (.ladd, 1) := by decide +kernel
theorem dX6_digest_70 : decode cX6_digest 70 = .ok (.lstore_n 1, 1) := by decide +kernel
theorem dX6_digest_71 : decode cX6_digest 71 = .ok (.iinc 4 1, 3) := by decide +kernel
theorem dX6_digest_74 : decode cX6_digest 74 = .ok (.goto (-25), 3) := by decide +kernel
theorem dX6_digest_77 : decode cX6_digest 77 = .ok (.iinc 3 1, 3) := by decide +kernel
theorem dX6_digest_80 : decode cX6_digest 80 = .ok (.goto (-42), 3) := by decide +kernel
theorem dX6_digest_83 : decode cX6_digest 83 = .ok (.iconst 0, 1) := by decide +kernel
theorem dX6_digest_84 : decode cX6_digest 84 = .ok (.istore_n 3, 1) := by decide +kernel
theorem dX6_digest_85 : decode cX6_digest 85 = .ok (.iload_n 3, 1) := by decide +kernel
theorem dX6_digest_86 : decode cX6_digest 86 = .ok (.aload_n 0, 1) := by decide +kernel
theorem dX6_digest_87 : decode cX6_digest 87 = .ok (.getfield 39, 3) := by decide +kernel
theorem dX6_digest_90 : decode cX6_digest 90 = .ok (.if_icmp .ge 40, 3) := by decide +kernel
theorem dX6_digest_93 : decode cX6_digest 93 = .ok (.iconst 0, 1) := by decide +kernel
theorem dX6_digest_94 : decode cX6_digest 94 = .ok (.istore 4, 2) := by decide +kernel
theorem dX6_digest_96 : decode cX6_digest 96 = .ok (.iload 4, 2) := by decide +kernel
theorem dX6_digest_98 : decode cX6_digest 98 = .ok (.bipush 6, 2) := by decide +kernel
theorem dX6_digest_100 : decode cX6_digest 100 = .ok (.if_icmp .ge 24, 3) := by decide +kernel
theorem dX6_digest_103 : decode cX6_digest 103 = .ok (.lload_n 1, 1) := by decide +kernel
theorem dX6_digest_104 : decode cX6_digest 104 = .ok (.ldc2_w 152, 3) := by decide +kernel
theorem dX6_digest_107 : decode cX6_digest 107 = .ok (.lmul, 1) := by decide +kernel
theorem dX6_digest_108 : decode cX6_digest 108 = .ok (.aload_n 0, 1) := by decide +kernel
theorem dX6_digest_109 : decode cX6_digest 109 = .ok (.iload_n 3, 1) := by decide +kernel
theorem dX6_digest_110 : decode cX6_digest 110 = .ok (.iload 4, 2) := by decide +kernel
theorem dX6_digest_112 : decode cX6_digest 112 = .ok (.invokevirtual 127, 3) := by decide +kernel
theorem dX6_digest_115 : decode cX6_digest 115 = .ok (.i2l, 1) := by decide +kernel
theorem dX6_digest_116 : decode cX6_digest 116 = .ok (.ladd, 1) := by decide +kernel
theorem dX6_digest_117 : decode cX6_digest 117 = .ok (.lstore_n 1, 1) := by decide +kernel
theorem dX6_digest_118 : decode cX6_digest 118 = .ok (.iinc 4 1, 3) := by decide +kernel
theorem dX6_digest_121 : decode cX6_digest 121 = .ok (.goto (-25), 3) := by decide +kernel
theorem dX6_digest_124 : decode cX6_digest 124 = .ok (.iinc 3 1, 3) := by decide +kernel
theorem dX6_digest_127 : decode cX6_digest 127 = .ok (.goto (-42), 3) := by decide +kernel
theorem dX6_digest_130 : decode cX6_digest 130 = .ok (.iconst 0, 1) := by decide +kernel
theorem dX6_digest_131 : decode cX6_digest 131 = .ok (.istore_n 3, 1) := by decide +kernel
theorem dX6_digest_132 : decode cX6_digest 132 = .ok (.iload_n 3, 1) := by decide +kernel
theorem dX6_digest_133 : decode cX6_digest 133 = .ok (.bipush 96, 2) := by decide +kernel
theorem dX6_digest_135 : decode cX6_digest 135 = .ok (.if_icmp .ge 25, 3) := by decide +kernel
theorem dX6_digest_138 : decode cX6_digest 138 = .ok (.lload_n 1, 1) := by decide +kernel
theorem dX6_digest_139 : decode cX6_digest 139 = .ok (.ldc2_w 152, 3) := by decide +kernel
theorem dX6_digest_142 : decode cX6_digest 142 = .ok (.lmul, 1) := by decide +kernel
theorem dX6_digest_143 : decode cX6_digest 143 = .ok (.aload_n 0, 1) := by decide +kernel
theorem dX6_digest_144 : decode cX6_digest 144 = .ok (.getfield 22, 3) := by decide +kernel
theorem dX6_digest_147 : decode cX6_digest 147 = .ok (.iconst 4, 1) := by decide +kernel
theorem dX6_digest_148 : decode cX6_digest 148 = .ok (.iload_n 3, 1) := by decide +kernel
theorem dX6_digest_149 : decode cX6_digest 149 = .ok (.iadd, 1) := by decide +kernel
theorem dX6_digest_150 : decode cX6_digest 150 = .ok (.iaload, 1) := by decide +kernel
theorem dX6_digest_151 : decode cX6_digest 151 = .ok (.i2l, 1) := by decide +kernel
theorem dX6_digest_152 : decode cX6_digest 152 = .ok (.ladd, 1) := by decide +kernel
theorem dX6_digest_153 : decode cX6_digest 153 = .ok (.lstore_n 1, 1) := by decide +kernel
theorem dX6_digest_154 : decode cX6_digest 154 = .ok (.iinc 3 1, 3) := by decide +kernel
theorem dX6_digest_157 : decode cX6_digest 157 = .ok (.goto (-25), 3) := by decide +kernel
theorem dX6_digest_160 : decode cX6_digest 160 = .ok (.lload_n 1, 1) := by decide +kernel
theorem dX6_digest_161 : decode cX6_digest 161 = .ok (.lreturn, 1) := by decide +kernel
theorem dJ9_max_7cf53_0 : decode cJ9_max_7cf53 0 = .ok (.iload_n 0, 1) := by decide +kernel
theorem dJ9_max_7cf53_1 : decode cJ9_max_7cf53 1 = .ok (.iload_n 1, 1) := by decide +kernel
theorem dJ9_max_7cf53_2 : decode cJ9_max_7cf53 2 = .ok (.if_icmp .lt 7, 3) := by decide +kernel
theorem dJ9_max_7cf53_5 : decode cJ9_max_7cf53 5 = .ok (.iload_n 0, 1) := by decide +kernel
theorem dJ9_max_7cf53_6 : decode cJ9_max_7cf53 6 = .ok (.goto 4, 3) := by decide +kernel
theorem dJ9_max_7cf53_9 : decode cJ9_max_7cf53 9 = .ok (.iload_n 1, 1) := by decide +kernel
theorem dJ9_max_7cf53_10 : decode cJ9_max_7cf53 10 = .ok (.ireturn, 1) := by decide +kernel
theorem dJ9_min_7cf53_0 : decode cJ9_min_7cf53 0 = .ok (.iload_n 0, 1) := by decide +kernel
theorem dJ9_min_7cf53_1 : decode cJ9_min_7cf53 1 = .ok (.iload_n 1, 1) := by decide +kernel
theorem dJ9_min_7cf53_2 : decode cJ9_min_7cf53 2 = .ok (.if_icmp .gt 7, 3) := by decide +kernel
theorem dJ9_min_7cf53_5 : decode cJ9_min_7cf53 5 = .ok (.iload_n 0, 1) := by decide +kernel
theorem dJ9_min_7cf53_6 : decode cJ9_min_7cf53 6 = .ok (.goto 4, 3) := by decide +kernel
theorem dJ9_min_7cf53_9 : decode cJ9_min_7cf53 9 = .ok (.iload_n 1, 1) := by decide +kernel
theorem dJ9_min_7cf53_10 : decode cJ9_min_7cf53 10 = .ok (.ireturn, 1) := by decide +kernel
set_option maxRecDepth 20000 in
theorem ggL_window_X5_window : GoodIn wsL_window wsX5_window := goodIn_ca (goodIn_ca (goodIn_ca (goodIn_r _ [8, 9, 10, 11, 12, 13, 14, 15, 16, 17, 18, 19, 20, 21, 22, 23, 24, 25, 26, 27, 28, 29, 30, 31, 32, 33, 34, 35, 36] (by decide +kernel) (by decide +kernel)) (goodIn_sub (fun _ h => List.mem_cons_of_mem _ (List.mem_append_left _ (List.mem_append_left _ (List.mem_append_right _ h)))) (by decide +kernel))) (goodIn_sub (fun _ h => List.mem_cons_of_mem _ (List.mem_append_left _ (List.mem_append_right _ h))) (by decide +kernel))) (goodIn_sub (fun _ h => List.mem_cons_of_mem _ (List.mem_append_right _ h)) (by decide +kernel))
set_option maxRecDepth 20000 in
theorem gL_window_X5_window : GoodIn wsL_window (wsV RL 7 RX5 yX5_window wsX5_window) := goodIn_app (goodIn_of _ (by decide +kernel)) ggL_window_X5_window
theorem dL_window_0 : decode cL_window 0 = .ok (.aload 6, 2) := by decide +kernel
theorem dL_window_2 : decode cL_window 2 = .ok (.iconst 0, 1) := by decide +kernel
theorem dL_window_3 : decode cL_window 3 = .ok (.aload_n 0, 1) := by decide +kernel
theorem dL_window_4 : decode cL_window 4 = .ok (.iload_n 1, 1) := by decide +kernel
theorem dL_window_5 : decode cL_window 5 = .ok (.iload_n 2, 1) := by decide +kernel
theorem dL_window_6 : decode cL_window 6 = .ok (.iload_n 3, 1) := by decide +kernel
theorem dL_window_7 : decode cL_window 7 = .ok (.iload 4, 2) := by decide +kernel
theorem dL_window_9 : decode cL_window 9 = .ok (.iload 5, 2) := by decide +kernel
theorem dL_window_11 : decode cL_window 11 = .ok (.invokevirtual 7, 3) := by decide +kernel
theorem dL_window_14 : decode cL_window 14 = .ok (.i2l, 1) := by decide +kernel
theorem dL_window_15 : decode cL_window 15 = .ok (.lastore, 1) := by decide +kernel
theorem dL_window_16 : decode cL_window 16 = .ok (.goto 15, 3) := by decide +kernel
theorem dL_window_19 : decode cL_window 19 = .ok (.astore 7, 2) := by decide +kernel
theorem dL_window_21 : decode cL_window 21 = .ok (.iconst 1, 1) := by decide +kernel
theorem dL_window_22 : decode cL_window 22 = .ok (.ireturn, 1) := by decide +kernel
theorem dL_window_23 : decode cL_window 23 = .ok (.astore 7, 2) := by decide +kernel
theorem dL_window_25 : decode cL_window 25 = .ok (.iconst 2, 1) := by decide +kernel
theorem dL_window_26 : decode cL_window 26 = .ok (.ireturn, 1) := by decide +kernel
theorem dL_window_27 : decode cL_window 27 = .ok (.astore 7, 2) := by decide +kernel
theorem dL_window_29 : decode cL_window 29 = .ok (.iconst 3, 1) := by decide +kernel
theorem dL_window_30 : decode cL_window 30 = .ok (.ireturn, 1) := by decide +kernel
theorem dL_window_31 : decode cL_window 31 = .ok (.iconst 0, 1) := by decide +kernel
theorem dL_window_32 : decode cL_window 32 = .ok (.ireturn, 1) := by decide +kernel
set_option maxRecDepth 20000 in
theorem ggL_rope_X5_rope : GoodIn wsL_rope wsX5_rope := goodIn_ca (goodIn_ca (goodIn_ca (goodIn_r _ [8, 9, 10, 11, 12, 13, 14, 15, 16, 17, 7, 18, 19, 20, 21, 22, 23, 24, 25, 26, 27, 28, 29, 30, 31, 32, 33, 34, 35, 36, 37, 38, 39, 40, 41, 42, 43, 44, 45, 46, 47, 48] (by decide +kernel) (by decide +kernel)) (goodIn_sub (fun _ h => List.mem_cons_of_mem _ (List.mem_append_left _ (List.mem_append_left _ (List.mem_append_right _ h)))) (by decide +kernel))) (goodIn_sub (fun _ h => List.mem_cons_of_mem _ (List.mem_append_left _ (List.mem_append_right _ h))) (by decide +kernel))) (goodIn_sub (fun _ h => List.mem_cons_of_mem _ (List.mem_append_right _ h)) (by decide +kernel))
set_option maxRecDepth 20000 in
theorem gL_rope_X5_rope : GoodIn wsL_rope (wsV RL 19 RX5 yX5_rope wsX5_rope) := goodIn_app (goodIn_of _ (by decide +kernel)) ggL_rope_X5_rope
theorem dL_rope_0 : decode cL_rope 0 = .ok (.aload 4, 2) := by decide +kernel
theorem dL_rope_2 : decode cL_rope 2 = .ok (.iconst 0, 1) := by decide +kernel
theorem dL_rope_3 : decode cL_rope 3 = .ok (.aload_n 0, 1) := by decide +kernel
theorem dL_rope_4 : decode cL_rope 4 = .ok (.iload_n 1, 1) := by decide +kernel
theorem dL_rope_5 : decode cL_rope 5 = .ok (.iload_n 2, 1) := by decide +kernel
theorem dL_rope_6 : decode cL_rope 6 = .ok (.iload_n 3, 1) := by decide +kernel
theorem dL_rope_7 : decode cL_rope 7 = .ok (.invokevirtual 19, 3) := by decide +kernel
theorem dL_rope_10 : decode cL_rope 10 = .ok (.i2l, 1) := by decide +kernel
theorem dL_rope_11 : decode cL_rope 11 = .ok (.lastore, 1) := by decide +kernel
theorem dL_rope_12 : decode cL_rope 12 = .ok (.goto 15, 3) := by decide +kernel
theorem dL_rope_15 : decode cL_rope 15 = .ok (.astore 5, 2) := by decide +kernel
theorem dL_rope_17 : decode cL_rope 17 = .ok (.iconst 1, 1) := by decide +kernel
theorem dL_rope_18 : decode cL_rope 18 = .ok (.ireturn, 1) := by decide +kernel
theorem dL_rope_19 : decode cL_rope 19 = .ok (.astore 5, 2) := by decide +kernel
theorem dL_rope_21 : decode cL_rope 21 = .ok (.iconst 2, 1) := by decide +kernel
theorem dL_rope_22 : decode cL_rope 22 = .ok (.ireturn, 1) := by decide +kernel
theorem dL_rope_23 : decode cL_rope 23 = .ok (.astore 5, 2) := by decide +kernel
theorem dL_rope_25 : decode cL_rope 25 = .ok (.iconst 3, 1) := by decide +kernel
theorem dL_rope_26 : decode cL_rope 26 = .ok (.ireturn, 1) := by decide +kernel
theorem dL_rope_27 : decode cL_rope 27 = .ok (.iconst 0, 1) := by decide +kernel
theorem dL_rope_28 : decode cL_rope 28 = .ok (.ireturn, 1) := by decide +kernel
set_option maxRecDepth 20000 in
theorem ggL_feast_X5_feast : GoodIn wsL_feast wsX5_feast := goodIn_ca (goodIn_ca (goodIn_r _ [7, 8, 9, 10, 11, 12, 13, 14, 15, 16, 17, 18, 19, 20, 21, 22, 23, 24, 25, 26, 27] (by decide +kernel) (by decide +kernel)) (goodIn_sub (fun _ h => List.mem_cons_of_mem _ (List.mem_append_left _ (List.mem_append_right _ h))) (by decide +kernel))) (goodIn_sub (fun _ h => List.mem_cons_of_mem _ (List.mem_append_right _ h)) (by decide +kernel))
set_option maxRecDepth 20000 in
theorem gL_feast_X5_feast : GoodIn wsL_feast (wsV RL 23 RX5 yX5_feast wsX5_feast) := goodIn_app (goodIn_of _ (by decide +kernel)) ggL_feast_X5_feast
theorem dL_feast_0 : decode cL_feast 0 = .ok (.aload_n 3, 1) := by decide +kernel
theorem dL_feast_1 : decode cL_feast 1 = .ok (.iconst 0, 1) := by decide +kernel
theorem dL_feast_2 : decode cL_feast 2 = .ok (.aload_n 0, 1) := by decide +kernel
theorem dL_feast_3 : decode cL_feast 3 = .ok (.iload_n 1, 1) := by decide +kernel
theorem dL_feast_4 : decode cL_feast 4 = .ok (.iload_n 2, 1) := by decide +kernel
theorem dL_feast_5 : decode cL_feast 5 = .ok (.invokevirtual 23, 3) := by decide +kernel
theorem dL_feast_8 : decode cL_feast 8 = .ok (.i2l, 1) := by decide +kernel
theorem dL_feast_9 : decode cL_feast 9 = .ok (.lastore, 1) := by decide +kernel
theorem dL_feast_10 : decode cL_feast 10 = .ok (.goto 11, 3) := by decide +kernel
theorem dL_feast_13 : decode cL_feast 13 = .ok (.astore 4, 2) := by decide +kernel
theorem dL_feast_15 : decode cL_feast 15 = .ok (.iconst 1, 1) := by decide +kernel
theorem dL_feast_16 : decode cL_feast 16 = .ok (.ireturn, 1) := by decide +kernel
theorem dL_feast_17 : decode cL_feast 17 = .ok (.astore 4, 2) := by decide +kernel
theorem dL_feast_19 : decode cL_feast 19 = .ok (.iconst 2, 1) := by decide +kernel
theorem dL_feast_20 : decode cL_feast 20 = .ok (.ireturn, 1) := by decide +kernel
theorem dL_feast_21 : decode cL_feast 21 = .ok (.iconst 0, 1) := by decide +kernel
theorem dL_feast_22 : decode cL_feast 22 = .ok (.ireturn, 1) := by decide +kernel
set_option maxRecDepth 20000 in
theorem ggL_setWind_X5_setWind : GoodIn wsL_setWind wsX5_setWind := goodIn_ca (goodIn_r _ [6, 7, 8, 9, 10, 11, 12, 13, 14, 15, 16, 17, 18, 19] (by decide +kernel) (by decide +kernel)) (goodIn_sub (fun _ h => List.mem_cons_of_mem _ (List.mem_append_right _ h)) (by decide +kernel))
set_option maxRecDepth 20000 in
theorem gL_setWind_X5_setWind : GoodIn wsL_setWind (wsV RL 27 RX5 yX5_setWind wsX5_setWind) := goodIn_app (goodIn_of _ (by decide +kernel)) ggL_setWind_X5_setWind
theorem dL_setWind_0 : decode cL_setWind 0 = .ok (.aload_n 2, 1) := by decide +kernel
theorem dL_setWind_1 : decode cL_setWind 1 = .ok (.iconst 0, 1) := by decide +kernel
theorem dL_setWind_2 : decode cL_setWind 2 = .ok (.aload_n 0, 1) := by decide +kernel
theorem dL_setWind_3 : decode cL_setWind 3 = .ok (.iload_n 1, 1) := by decide +kernel
theorem dL_setWind_4 : decode cL_setWind 4 = .ok (.invokevirtual 27, 3) := by decide +kernel
theorem dL_setWind_7 : decode cL_setWind 7 = .ok (.i2l, 1) := by decide +kernel
theorem dL_setWind_8 : decode cL_setWind 8 = .ok (.lastore, 1) := by decide +kernel
theorem dL_setWind_9 : decode cL_setWind 9 = .ok (.goto 6, 3) := by decide +kernel
theorem dL_setWind_12 : decode cL_setWind 12 = .ok (.astore_n 3, 1) := by decide +kernel
theorem dL_setWind_13 : decode cL_setWind 13 = .ok (.iconst 1, 1) := by decide +kernel
theorem dL_setWind_14 : decode cL_setWind 14 = .ok (.ireturn, 1) := by decide +kernel
theorem dL_setWind_15 : decode cL_setWind 15 = .ok (.iconst 0, 1) := by decide +kernel
theorem dL_setWind_16 : decode cL_setWind 16 = .ok (.ireturn, 1) := by decide +kernel
set_option maxRecDepth 20000 in
theorem ggL_move_X5_move : GoodIn wsL_move wsX5_move := goodIn_ca (goodIn_ca (goodIn_r _ [7, 8, 9, 10, 11, 12, 13, 14, 15, 6, 16, 17, 18, 19, 20, 21, 22, 23, 24, 25, 26, 27, 28, 29, 30, 31, 32, 33, 34, 35, 36, 37, 38, 39, 40, 41, 42, 43, 44, 45, 46, 47, 48, 49] (by decide +kernel) (by decide +kernel)) (goodIn_sub (fun _ h => List.mem_cons_of_mem _ (List.mem_append_left _ (List.mem_append_right _ h))) (by decide +kernel))) (goodIn_sub (fun _ h => List.mem_cons_of_mem _ (List.mem_append_right _ h)) (by decide +kernel))
set_option maxRecDepth 20000 in
theorem gL_move_X5_move : GoodIn wsL_move (wsV RL 31 RX5 yX5_move wsX5_move) := goodIn_app (goodIn_of _ (by decide +kernel)) ggL_move_X5_move
theorem dL_move_0 : decode cL_move 0 = .ok (.aload_n 3, 1) := by decide +kernel
theorem dL_move_1 : decode cL_move 1 = .ok (.iconst 0, 1) := by decide +kernel
theorem dL_move_2 : decode cL_move 2 = .ok (.aload_n 0, 1) := by decide +kernel
theorem dL_move_3 : decode cL_move 3 = .ok (.iload_n 1, 1) := by decide +kernel
theorem dL_move_4 : decode cL_move 4 = .ok (.iload_n 2, 1) := by decide +kernel
theorem dL_move_5 : decode cL_move 5 = .ok (.invokevirtual 31, 3) := by decide +kernel
theorem dL_move_8 : decode cL_move 8 = .ok (.i2l, 1) := by decide +kernel
theorem dL_move_9 : decode cL_move 9 = .ok (.lastore, 1) := by decide +kernel
theorem dL_move_10 : decode cL_move 10 = .ok (.goto 11, 3) := by decide +kernel
theorem dL_move_13 : decode cL_move 13 = .ok (.astore 4, 2) := by decide +kernel
theorem dL_move_15 : decode cL_move 15 = .ok (.iconst 1, 1) := by decide +kernel
theorem dL_move_16 : decode cL_move 16 = .ok (.ireturn, 1) := by decide +kernel
theorem dL_move_17 : decode cL_move 17 = .ok (.astore 4, 2) := by decide +kernel
theorem dL_move_19 : decode cL_move 19 = .ok (.iconst 2, 1) := by decide +kernel
theorem dL_move_20 : decode cL_move 20 = .ok (.ireturn, 1) := by decide +kernel
theorem dL_move_21 : decode cL_move 21 = .ok (.iconst 0, 1) := by decide +kernel
theorem dL_move_22 : decode cL_move 22 = .ok (.ireturn, 1) := by decide +kernel
set_option maxRecDepth 20000 in
theorem ggL_turn_X5_turn : GoodIn wsL_turn wsX5_turn := goodIn_ca (goodIn_r _ [6, 7, 8, 9, 10, 11, 12, 5, 13, 14, 15, 16, 17, 18, 19, 20, 21, 22, 23, 24, 25, 26, 27, 28, 29, 30] (by decide +kernel) (by decide +kernel)) (goodIn_sub (fun _ h => List.mem_cons_of_mem _ (List.mem_append_right _ h)) (by decide +kernel))
set_option maxRecDepth 20000 in
theorem gL_turn_X5_turn : GoodIn wsL_turn (wsV RL 34 RX5 yX5_turn wsX5_turn) := goodIn_app (goodIn_of _ (by decide +kernel)) ggL_turn_X5_turn
theorem dL_turn_0 : decode cL_turn 0 = .ok (.aload_n 2, 1) := by decide +kernel
theorem dL_turn_1 : decode cL_turn 1 = .ok (.iconst 0, 1) := by decide +kernel
theorem dL_turn_2 : decode cL_turn 2 = .ok (.aload_n 0, 1) := by decide +kernel
theorem dL_turn_3 : decode cL_turn 3 = .ok (.iload_n 1, 1) := by decide +kernel
theorem dL_turn_4 : decode cL_turn 4 = .ok (.invokevirtual 34, 3) := by decide +kernel
theorem dL_turn_7 : decode cL_turn 7 = .ok (.ifCond .eq 7, 3) := by decide +kernel
theorem dL_turn_10 : decode cL_turn 10 = .ok (.lconst 1, 1) := by decide +kernel
theorem dL_turn_11 : decode cL_turn 11 = .ok (.goto 4, 3) := by decide +kernel
theorem dL_turn_14 : decode cL_turn 14 = .ok (.lconst 0, 1) := by decide +kernel
theorem dL_turn_15 : decode cL_turn 15 = .ok (.lastore, 1) := by decide +kernel
theorem dL_turn_16 : decode cL_turn 16 = .ok (.goto 6, 3) := by decide +kernel
theorem dL_turn_19 : decode cL_turn 19 = .ok (.astore_n 3, 1) := by decide +kernel
theorem dL_turn_20 : decode cL_turn 20 = .ok (.iconst 1, 1) := by decide +kernel
theorem dL_turn_21 : decode cL_turn 21 = .ok (.ireturn, 1) := by decide +kernel
theorem dL_turn_22 : decode cL_turn 22 = .ok (.iconst 0, 1) := by decide +kernel
theorem dL_turn_23 : decode cL_turn 23 = .ok (.ireturn, 1) := by decide +kernel
set_option maxRecDepth 20000 in
theorem ggL_wipe_X5_wipe : GoodIn wsL_wipe wsX5_wipe := goodIn_ca (goodIn_r _ [6, 7, 8, 9, 10, 11, 12, 13, 5, 14, 15, 16, 17, 18, 19, 20, 21, 22, 23, 24, 25, 26, 27, 28, 29, 30, 31, 32, 33, 34, 35, 36, 37, 38, 39, 40, 41, 42, 43, 44, 45, 46, 47, 48, 49, 50] (by decide +kernel) (by decide +kernel)) (goodIn_sub (fun _ h => List.mem_cons_of_mem _ (List.mem_append_right _ h)) (by decide +kernel))
set_option maxRecDepth 20000 in
theorem gL_wipe_X5_wipe : GoodIn wsL_wipe (wsV RL 38 RX5 yX5_wipe wsX5_wipe) := goodIn_app (goodIn_of _ (by decide +kernel)) ggL_wipe_X5_wipe
theorem dL_wipe_0 : decode cL_wipe 0 = .ok (.aload_n 2, 1) := by decide +kernel
theorem dL_wipe_1 : decode cL_wipe 1 = .ok (.iconst 0, 1) := by decide +kernel
theorem dL_wipe_2 : decode cL_wipe 2 = .ok (.aload_n 0, 1) := by decide +kernel
theorem dL_wipe_3 : decode cL_wipe 3 = .ok (.iload_n 1, 1) := by decide +kernel
theorem dL_wipe_4 : decode cL_wipe 4 = .ok (.invokevirtual 38, 3) := by decide +kernel
theorem dL_wipe_7 : decode cL_wipe 7 = .ok (.i2l, 1) := by decide +kernel
theorem dL_wipe_8 : decode cL_wipe 8 = .ok (.lastore, 1) := by decide +kernel
theorem dL_wipe_9 : decode cL_wipe 9 = .ok (.goto 6, 3) := by decide +kernel
theorem dL_wipe_12 : decode cL_wipe 12 = .ok (.astore_n 3, 1) := by decide +kernel
theorem dL_wipe_13 : decode cL_wipe 13 = .ok (.iconst 1, 1) := by decide +kernel
theorem dL_wipe_14 : decode cL_wipe 14 = .ok (.ireturn, 1) := by decide +kernel
theorem dL_wipe_15 : decode cL_wipe 15 = .ok (.iconst 0, 1) := by decide +kernel
theorem dL_wipe_16 : decode cL_wipe 16 = .ok (.ireturn, 1) := by decide +kernel
set_option maxRecDepth 20000 in
theorem ggL_pass_X5_pass : GoodIn wsL_pass wsX5_pass := goodIn_ca (goodIn_r _ [6, 7, 8, 9, 10, 11, 12, 13, 14, 15, 16, 17, 18, 19, 20, 21, 22, 23, 24, 25, 26, 27, 28, 29, 30, 31, 32, 33, 34, 35, 36, 37, 38, 39, 40, 41, 42, 43, 44, 45, 46, 47, 48, 49, 50, 51, 52, 53, 54, 55, 56, 57, 58, 59, 60, 61, 62, 63, 64, 65, 66, 67, 68, 69, 70, 71, 72, 73, 74, 75, 76, 77, 78, 79, 80, 81, 82, 83, 84, 85, 86, 87, 88, 89, 90, 91, 92, 93, 94, 95, 96, 97, 98, 99, 100, 101, 102, 103, 104, 105, 106, 107, 108, 109, 110, 111, 112, 113, 114, 115, 116, 117, 118, 119, 120, 121, 122, 123, 124, 125, 126, 127, 128, 129, 130, 131, 132, 133, 134, 135, 136, 137] (by decide +kernel) (by decide +kernel)) (goodIn_sub (fun _ h => List.mem_cons_of_mem _ (List.mem_append_right _ h)) (by decide +kernel))
set_option maxRecDepth 20000 in
theorem gL_pass_X5_pass : GoodIn wsL_pass (wsV RL 41 RX5 yX5_pass wsX5_pass) := goodIn_app (goodIn_of _ (by decide +kernel)) ggL_pass_X5_pass
theorem dL_pass_0 : decode cL_pass 0 = .ok (.aload_n 2, 1) := by decide +kernel
theorem dL_pass_1 : decode cL_pass 1 = .ok (.iconst 0, 1) := by decide +kernel
theorem dL_pass_2 : decode cL_pass 2 = .ok (.aload_n 0, 1) := by decide +kernel
theorem dL_pass_3 : decode cL_pass 3 = .ok (.iload_n 1, 1) := by decide +kernel
theorem dL_pass_4 : decode cL_pass 4 = .ok (.invokevirtual 41, 3) := by decide +kernel
theorem dL_pass_7 : decode cL_pass 7 = .ok (.i2l, 1) := by decide +kernel
theorem dL_pass_8 : decode cL_pass 8 = .ok (.lastore, 1) := by decide +kernel
theorem dL_pass_9 : decode cL_pass 9 = .ok (.goto 6, 3) := by decide +kernel
theorem dL_pass_12 : decode cL_pass 12 = .ok (.astore_n 3, 1) := by decide +kernel
theorem dL_pass_13 : decode cL_pass 13 = .ok (.iconst 1, 1) := by decide +kernel
theorem dL_pass_14 : decode cL_pass 14 = .ok (.ireturn, 1) := by decide +kernel
theorem dL_pass_15 : decode cL_pass 15 = .ok (.iconst 0, 1) := by decide +kernel
theorem dL_pass_16 : decode cL_pass 16 = .ok (.ireturn, 1) := by decide +kernel
set_option maxRecDepth 20000 in
theorem ggL_soot_X5_soot : GoodIn wsL_soot wsX5_soot := goodIn_ca (goodIn_r _ [6, 7, 8, 9, 10, 11, 5, 12, 13, 14, 15, 16, 17, 18, 19, 20, 21, 22, 23, 24, 25, 26, 27, 28, 29] (by decide +kernel) (by decide +kernel)) (goodIn_sub (fun _ h => List.mem_cons_of_mem _ (List.mem_append_right _ h)) (by decide +kernel))
set_option maxRecDepth 20000 in
theorem gL_soot_X5_soot : GoodIn wsL_soot (wsV RL 44 RX5 yX5_soot wsX5_soot) := goodIn_app (goodIn_of _ (by decide +kernel)) ggL_soot_X5_soot
theorem dL_soot_0 : decode cL_soot 0 = .ok (.aload_n 3, 1) := by decide +kernel
theorem dL_soot_1 : decode cL_soot 1 = .ok (.iconst 0, 1) := by decide +kernel
theorem dL_soot_2 : decode cL_soot 2 = .ok (.aload_n 0, 1) := by decide +kernel
theorem dL_soot_3 : decode cL_soot 3 = .ok (.iload_n 1, 1) := by decide +kernel
theorem dL_soot_4 : decode cL_soot 4 = .ok (.iload_n 2, 1) := by decide +kernel
theorem dL_soot_5 : decode cL_soot 5 = .ok (.invokevirtual 44, 3) := by decide +kernel
theorem dL_soot_8 : decode cL_soot 8 = .ok (.i2l, 1) := by decide +kernel
theorem dL_soot_9 : decode cL_soot 9 = .ok (.lastore, 1) := by decide +kernel
theorem dL_soot_10 : decode cL_soot 10 = .ok (.goto 7, 3) := by decide +kernel
theorem dL_soot_13 : decode cL_soot 13 = .ok (.astore 4, 2) := by decide +kernel
theorem dL_soot_15 : decode cL_soot 15 = .ok (.iconst 1, 1) := by decide +kernel
theorem dL_soot_16 : decode cL_soot 16 = .ok (.ireturn, 1) := by decide +kernel
theorem dL_soot_17 : decode cL_soot 17 = .ok (.iconst 0, 1) := by decide +kernel
theorem dL_soot_18 : decode cL_soot 18 = .ok (.ireturn, 1) := by decide +kernel
set_option maxRecDepth 20000 in
theorem ggL_about_X5_about : GoodIn wsL_about wsX5_about := goodIn_ca (goodIn_r _ [6, 7, 8, 9, 10, 11, 12, 13, 5, 14, 15, 16, 17, 18, 19, 20, 21, 22, 23, 24, 25, 26, 27, 28, 29, 30, 31, 32, 33, 34, 35, 36, 37, 38, 39, 40, 41, 42, 43, 44, 45, 46, 47, 48, 49, 50, 51, 52, 53, 54, 55, 56, 57, 58, 59, 60, 61, 62, 63, 64, 65, 66, 67] (by decide +kernel) (by decide +kernel)) (goodIn_sub (fun _ h => List.mem_cons_of_mem _ (List.mem_append_right _ h)) (by decide +kernel))
set_option maxRecDepth 20000 in
theorem gL_about_X5_about : GoodIn wsL_about (wsV RL 47 RX5 yX5_about wsX5_about) := goodIn_app (goodIn_of _ (by decide +kernel)) ggL_about_X5_about
theorem dL_about_0 : decode cL_about 0 = .ok (.aload_n 3, 1) := by decide +kernel
theorem dL_about_1 : decode cL_about 1 = .ok (.iconst 0, 1) := by decide +kernel
theorem dL_about_2 : decode cL_about 2 = .ok (.aload_n 0, 1) := by decide +kernel
theorem dL_about_3 : decode cL_about 3 = .ok (.iload_n 1, 1) := by decide +kernel
theorem dL_about_4 : decode cL_about 4 = .ok (.iload_n 2, 1) := by decide +kernel
theorem dL_about_5 : decode cL_about 5 = .ok (.invokevirtual 47, 3) := by decide +kernel
theorem dL_about_8 : decode cL_about 8 = .ok (.i2l, 1) := by decide +kernel
theorem dL_about_9 : decode cL_about 9 = .ok (.lastore, 1) := by decide +kernel
theorem dL_about_10 : decode cL_about 10 = .ok (.goto 7, 3) := by decide +kernel
theorem dL_about_13 : decode cL_about 13 = .ok (.astore 4, 2) := by decide +kernel
theorem dL_about_15 : decode cL_about 15 = .ok (.iconst 1, 1) := by decide +kernel
theorem dL_about_16 : decode cL_about 16 = .ok (.ireturn, 1) := by decide +kernel
theorem dL_about_17 : decode cL_about 17 = .ok (.iconst 0, 1) := by decide +kernel
theorem dL_about_18 : decode cL_about 18 = .ok (.ireturn, 1) := by decide +kernel
set_option maxRecDepth 20000 in
theorem ggL_told_X5_told : GoodIn wsL_told wsX5_told := goodIn_ca (goodIn_r _ [6, 7, 8, 9, 10, 11, 12, 5, 13, 14, 15, 16, 17, 18, 19, 20, 21, 22, 23, 24, 25, 26, 27, 28, 29, 30, 31, 32, 33, 34, 35, 36, 37, 38, 39, 40, 41] (by decide +kernel) (by decide +kernel)) (goodIn_sub (fun _ h => List.mem_cons_of_mem _ (List.mem_append_right _ h)) (by decide +kernel))
set_option maxRecDepth 20000 in
theorem gL_told_X5_told : GoodIn wsL_told (wsV RL 50 RX5 yX5_told wsX5_told) := goodIn_app (goodIn_of _ (by decide +kernel)) ggL_told_X5_told
theorem dL_told_0 : decode cL_told 0 = .ok (.aload_n 3, 1) := by decide +kernel
theorem dL_told_1 : decode cL_told 1 = .ok (.iconst 0, 1) := by decide +kernel
theorem dL_told_2 : decode cL_told 2 = .ok (.aload_n 0, 1) := by decide +kernel
theorem dL_told_3 : decode cL_told 3 = .ok (.iload_n 1, 1) := by decide +kernel
theorem dL_told_4 : decode cL_told 4 = .ok (.iload_n 2, 1) := by decide +kernel
theorem dL_told_5 : decode cL_told 5 = .ok (.invokevirtual 50, 3) := by decide +kernel
theorem dL_told_8 : decode cL_told 8 = .ok (.i2l, 1) := by decide +kernel
theorem dL_told_9 : decode cL_told 9 = .ok (.lastore, 1) := by decide +kernel
theorem dL_told_10 : decode cL_told 10 = .ok (.goto 7, 3) := by decide +kernel
theorem dL_told_13 : decode cL_told 13 = .ok (.astore 4, 2) := by decide +kernel
theorem dL_told_15 : decode cL_told 15 = .ok (.iconst 1, 1) := by decide +kernel
theorem dL_told_16 : decode cL_told 16 = .ok (.ireturn, 1) := by decide +kernel
theorem dL_told_17 : decode cL_told 17 = .ok (.iconst 0, 1) := by decide +kernel
theorem dL_told_18 : decode cL_told 18 = .ok (.ireturn, 1) := by decide +kernel
set_option maxRecDepth 20000 in
theorem ggL_count_X5_count : GoodIn wsL_count wsX5_count := goodIn_ca (goodIn_r _ [6, 7, 8, 9, 10, 11, 5, 12, 13, 14, 15, 16, 17, 18, 19, 20, 21, 22, 23, 24, 25, 26, 27, 28, 29, 30, 31, 32, 33, 34, 35, 36, 37, 38, 39, 40, 41, 42, 43, 44, 45, 46, 47, 48, 49, 50, 51, 52, 53, 54, 55, 56, 57, 58, 59, 60, 61, 62, 63, 64, 65, 66, 67, 68, 69, 70, 71, 72, 73, 74, 75, 76, 77, 78, 79, 80, 81, 82, 83, 84, 85, 86, 87, 88, 89, 90] (by decide +kernel) (by decide +kernel)) (goodIn_sub (fun _ h => List.mem_cons_of_mem _ (List.mem_append_right _ h)) (by decide +kernel))
set_option maxRecDepth 20000 in
theorem gL_count_X5_count : GoodIn wsL_count (wsV RL 53 RX5 yX5_count wsX5_count) := goodIn_app (goodIn_of _ (by decide +kernel)) ggL_count_X5_count
theorem dL_count_0 : decode cL_count 0 = .ok (.aload_n 2, 1) := by decide +kernel
theorem dL_count_1 : decode cL_count 1 = .ok (.iconst 0, 1) := by decide +kernel
theorem dL_count_2 : decode cL_count 2 = .ok (.aload_n 0, 1) := by decide +kernel
theorem dL_count_3 : decode cL_count 3 = .ok (.iload_n 1, 1) := by decide +kernel
theorem dL_count_4 : decode cL_count 4 = .ok (.invokevirtual 53, 3) := by decide +kernel
theorem dL_count_7 : decode cL_count 7 = .ok (.i2l, 1) := by decide +kernel
theorem dL_count_8 : decode cL_count 8 = .ok (.lastore, 1) := by decide +kernel
theorem dL_count_9 : decode cL_count 9 = .ok (.goto 6, 3) := by decide +kernel
theorem dL_count_12 : decode cL_count 12 = .ok (.astore_n 3, 1) := by decide +kernel
theorem dL_count_13 : decode cL_count 13 = .ok (.iconst 1, 1) := by decide +kernel
theorem dL_count_14 : decode cL_count 14 = .ok (.ireturn, 1) := by decide +kernel
theorem dL_count_15 : decode cL_count 15 = .ok (.iconst 0, 1) := by decide +kernel
theorem dL_count_16 : decode cL_count 16 = .ok (.ireturn, 1) := by decide +kernel
set_option maxRecDepth 20000 in
theorem ggL_isFeast_X5_isFeast : GoodIn wsL_isFeast wsX5_isFeast := goodIn_ca (goodIn_r _ [6, 7, 8, 9, 10, 11, 12, 13, 14, 15, 16, 17, 18, 19, 20, 21, 22, 23, 24, 25, 26, 27, 28, 29, 30, 31] (by decide +kernel) (by decide +kernel)) (goodIn_sub (fun _ h => List.mem_cons_of_mem _ (List.mem_append_right _ h)) (by decide +kernel))
set_option maxRecDepth 20000 in
theorem gL_isFeast_X5_isFeast : GoodIn wsL_isFeast (wsV RL 56 RX5 yX5_isFeast wsX5_isFeast) := goodIn_app (goodIn_of _ (by decide +kernel)) ggL_isFeast_X5_isFeast
theorem dL_isFeast_0 : decode cL_isFeast 0 = .ok (.aload_n 2, 1) := by decide +kernel
theorem dL_isFeast_1 : decode cL_isFeast 1 = .ok (.iconst 0, 1) := by decide +kernel
theorem dL_isFeast_2 : decode cL_isFeast 2 = .ok (.aload_n 0, 1) := by decide +kernel
theorem dL_isFeast_3 : decode cL_isFeast 3 = .ok (.iload_n 1, 1) := by decide +kernel
theorem dL_isFeast_4 : decode cL_isFeast 4 = .ok (.invokevirtual 56, 3) := by decide +kernel
theorem dL_isFeast_7 : decode cL_isFeast 7 = .ok (.ifCond .eq 7, 3) := by decide +kernel
theorem dL_isFeast_10 : decode cL_isFeast 10 = .ok (.lconst 1, 1) := by decide +kernel
theorem dL_isFeast_11 : decode cL_isFeast 11 = .ok (.goto 4, 3) := by decide +kernel
theorem dL_isFeast_14 : decode cL_isFeast 14 = .ok (.lconst 0, 1) := by decide +kernel
theorem dL_isFeast_15 : decode cL_isFeast 15 = .ok (.lastore, 1) := by decide +kernel
theorem dL_isFeast_16 : decode cL_isFeast 16 = .ok (.goto 6, 3) := by decide +kernel
theorem dL_isFeast_19 : decode cL_isFeast 19 = .ok (.astore_n 3, 1) := by decide +kernel
theorem dL_isFeast_20 : decode cL_isFeast 20 = .ok (.iconst 1, 1) := by decide +kernel
theorem dL_isFeast_21 : decode cL_isFeast 21 = .ok (.ireturn, 1) := by decide +kernel
theorem dL_isFeast_22 : decode cL_isFeast 22 = .ok (.iconst 0, 1) := by decide +kernel
theorem dL_isFeast_23 : decode cL_isFeast 23 = .ok (.ireturn, 1) := by decide +kernel
set_option maxRecDepth 20000 in
theorem ggL_would_X5_would : GoodIn wsL_would wsX5_would := goodIn_ca (goodIn_ca (goodIn_r _ [7, 8, 9, 10, 11, 12, 13, 14, 15, 16, 17, 18, 19, 20, 21, 22, 23, 24, 25, 26, 27, 28, 29, 30, 31, 32, 33, 34, 35, 36, 37, 38, 39, 40, 41, 42, 43, 44, 45, 46, 47, 48, 49, 50, 51, 52, 53, 54, 55, 56, 57, 58, 59, 60, 61, 62, 63, 64, 65, 66, 67, 68, 69, 70, 71, 72, 73, 74, 75, 76, 77, 78, 79, 80, 81, 82, 83, 84, 85, 86, 87, 88, 89, 90, 91, 92, 93, 94, 95, 96, 97, 98, 99, 100, 101, 102, 103, 104, 105, 106, 107, 108, 109, 110, 111, 112, 113, 114, 115, 116, 117, 118, 119, 120, 121, 122, 123, 124, 125, 126, 127, 128, 129, 130, 131, 132, 133, 134, 135, 136, 137, 138, 139, 140, 141, 142, 143, 144, 145, 146, 147, 148, 149, 150, 151, 152, 153, 154, 155, 156, 157, 158, 159, 160, 161, 162, 163, 164, 165] (by decide +kernel) (by decide +kernel)) (goodIn_sub (fun _ h => List.mem_cons_of_mem _ (List.mem_append_left _ (List.mem_append_right _ h))) (by decide +kernel))) (goodIn_sub (fun _ h => List.mem_cons_of_mem _ (List.mem_append_right _ h)) (by decide +kernel))
set_option maxRecDepth 20000 in
theorem gL_would_X5_would : GoodIn wsL_would (wsV RL 59 RX5 yX5_would wsX5_would) := goodIn_app (goodIn_of _ (by decide +kernel)) ggL_would_X5_would
theorem dL_would_0 : decode cL_would 0 = .ok (.aload_n 3, 1) := by decide +kernel
theorem dL_would_1 : decode cL_would 1 = .ok (.iconst 0, 1) := by decide +kernel
theorem dL_would_2 : decode cL_would 2 = .ok (.aload_n 0, 1) := by decide +kernel
theorem dL_would_3 : decode cL_would 3 = .ok (.iload_n 1, 1) := by decide +kernel
theorem dL_would_4 : decode cL_would 4 = .ok (.iload_n 2, 1) := by decide +kernel
theorem dL_would_5 : decode cL_would 5 = .ok (.invokevirtual 59, 3) := by decide +kernel
theorem dL_would_8 : decode cL_would 8 = .ok (.i2l, 1) := by decide +kernel
theorem dL_would_9 : decode cL_would 9 = .ok (.lastore, 1) := by decide +kernel
theorem dL_would_10 : decode cL_would 10 = .ok (.goto 11, 3) := by decide +kernel
theorem dL_would_13 : decode cL_would 13 = .ok (.astore 4, 2) := by decide +kernel
theorem dL_would_15 : decode cL_would 15 = .ok (.iconst 1, 1) := by decide +kernel
theorem dL_would_16 : decode cL_would 16 = .ok (.ireturn, 1) := by decide +kernel
theorem dL_would_17 : decode cL_would 17 = .ok (.astore 4, 2) := by decide +kernel
theorem dL_would_19 : decode cL_would 19 = .ok (.iconst 2, 1) := by decide +kernel
theorem dL_would_20 : decode cL_would 20 = .ok (.ireturn, 1) := by decide +kernel
theorem dL_would_21 : decode cL_would 21 = .ok (.iconst 0, 1) := by decide +kernel
theorem dL_would_22 : decode cL_would 22 = .ok (.ireturn, 1) := by decide +kernel
set_option maxRecDepth 20000 in
theorem ggL_until_X5_until : GoodIn wsL_until wsX5_until := goodIn_ca (goodIn_r _ [6, 7, 8, 9, 10, 11, 12, 13, 14, 15, 5, 16, 17, 18, 19, 20, 21, 22, 23, 24, 25, 26, 27, 28, 29, 30, 31, 32, 33, 34, 35, 36, 37, 38, 39, 40, 41, 42, 43, 44, 45, 46, 47, 48, 49, 50, 51, 52, 53, 54, 55, 56, 57, 58, 59, 60, 61, 62, 63, 64, 65, 66, 67, 68, 69, 70, 71, 72, 73, 74, 75, 76, 77, 78, 79, 80, 81, 82, 83, 84, 85, 86, 87, 88, 89, 90, 91, 92, 93, 94, 95, 96, 97, 98, 99, 100, 101, 102, 103, 104, 105, 106, 107, 108, 109, 110, 111, 112, 113, 114, 115, 116, 117, 118, 119, 120, 121, 122, 123, 124, 125, 126, 127, 128, 129, 130, 131, 132, 133, 134, 135, 136, 137, 138, 139, 140, 141, 142, 143, 144, 145, 146, 147, 148, 149, 150, 151, 152, 153, 154, 155, 156, 157, 158] (by decide +kernel) (by decide +kernel)) (goodIn_sub (fun _ h => List.mem_cons_of_mem _ (List.mem_append_right _ h)) (by decide +kernel))
set_option maxRecDepth 20000 in
theorem gL_until_X5_until : GoodIn wsL_until (wsV RL 62 RX5 yX5_until wsX5_until) := goodIn_app (goodIn_of _ (by decide +kernel)) ggL_until_X5_until
theorem dL_until_0 : decode cL_until 0 = .ok (.aload_n 2, 1) := by decide +kernel
theorem dL_until_1 : decode cL_until 1 = .ok (.iconst 0, 1) := by decide +kernel
theorem dL_until_2 : decode cL_until 2 = .ok (.aload_n 0, 1) := by decide +kernel
theorem dL_until_3 : decode cL_until 3 = .ok (.iload_n 1, 1) := by decide +kernel
theorem dL_until_4 : decode cL_until 4 = .ok (.invokevirtual 62, 3) := by decide +kernel
theorem dL_until_7 : decode cL_until 7 = .ok (.i2l, 1) := by decide +kernel
theorem dL_until_8 : decode cL_until 8 = .ok (.lastore, 1) := by decide +kernel
theorem dL_until_9 : decode cL_until 9 = .ok (.goto 6, 3) := by decide +kernel
theorem dL_until_12 : decode cL_until 12 = .ok (.astore_n 3, 1) := by decide +kernel
theorem dL_until_13 : decode cL_until 13 = .ok (.iconst 1, 1) := by decide +kernel
theorem dL_until_14 : decode cL_until 14 = .ok (.ireturn, 1) := by decide +kernel
theorem dL_until_15 : decode cL_until 15 = .ok (.iconst 0, 1) := by decide +kernel
theorem dL_until_16 : decode cL_until 16 = .ok (.ireturn, 1) := by decide +kernel
set_option maxRecDepth 20000 in
theorem ggL_advise_X5_advise : GoodIn wsL_advise wsX5_advise := goodIn_ca (goodIn_ca (goodIn_r _ [7, 8, 9, 10, 11, 12, 13, 14, 15, 16, 6, 17, 18, 19, 20, 21, 22, 23, 24, 25, 26, 27, 28, 29, 30, 31, 32, 33, 34, 35, 36, 37, 38, 39, 40, 41, 42, 43, 44, 45, 46, 47, 48, 49, 50, 51, 52, 53, 54, 55, 56, 57, 58, 59, 60, 61, 62, 63, 64, 65, 66, 67, 68, 69, 70, 71, 72, 73, 74, 75, 76, 77, 78, 79, 80, 81, 82, 83, 84, 85, 86, 87, 88, 89, 90, 91, 92, 93, 94, 95, 96, 97, 98, 99, 100, 101, 102, 103, 104, 105, 106, 107, 108, 109, 110, 111, 112, 113, 114, 115, 116, 117, 118, 119, 120, 121, 122, 123, 124, 125, 126, 127, 128, 129, 130, 131, 132, 133, 134, 135, 136, 137, 138, 139, 140, 141, 142, 143, 144, 145, 146, 147, 148, 149, 150, 151, 152, 153, 154, 155, 156, 157, 158, 159, 160, 161, 162, 163, 164, 165, 166, 167, 168] (by decide +kernel) (by decide +kernel)) (goodIn_sub (fun _ h => List.mem_cons_of_mem _ (List.mem_append_left _ (List.mem_append_right _ h))) (by decide +kernel))) (goodIn_sub (fun _ h => List.mem_cons_of_mem _ (List.mem_append_right _ h)) (by decide +kernel))
set_option maxRecDepth 20000 in
theorem gL_advise_X5_advise : GoodIn wsL_advise (wsV RL 65 RX5 yX5_advise wsX5_advise) := goodIn_app (goodIn_of _ (by decide +kernel)) ggL_advise_X5_advise
theorem dL_advise_0 : decode cL_advise 0 = .ok (.aload_n 2, 1) := by decide +kernel
theorem dL_advise_1 : decode cL_advise 1 = .ok (.iconst 0, 1) := by decide +kernel
theorem dL_advise_2 : decode cL_advise 2 = .ok (.aload_n 0, 1) := by decide +kernel
theorem dL_advise_3 : decode cL_advise 3 = .ok (.iload_n 1, 1) := by decide +kernel
theorem dL_advise_4 : decode cL_advise 4 = .ok (.invokevirtual 65, 3) := by decide +kernel
theorem dL_advise_7 : decode cL_advise 7 = .ok (.i2l, 1) := by decide +kernel
theorem dL_advise_8 : decode cL_advise 8 = .ok (.lastore, 1) := by decide +kernel
theorem dL_advise_9 : decode cL_advise 9 = .ok (.goto 9, 3) := by decide +kernel
theorem dL_advise_12 : decode cL_advise 12 = .ok (.astore_n 3, 1) := by decide +kernel
theorem dL_advise_13 : decode cL_advise 13 = .ok (.iconst 1, 1) := by decide +kernel
theorem dL_advise_14 : decode cL_advise 14 = .ok (.ireturn, 1) := by decide +kernel
theorem dL_advise_15 : decode cL_advise 15 = .ok (.astore_n 3, 1) := by decide +kernel
theorem dL_advise_16 : decode cL_advise 16 = .ok (.iconst 2, 1) := by decide +kernel
theorem dL_advise_17 : decode cL_advise 17 = .ok (.ireturn, 1) := by decide +kernel
theorem dL_advise_18 : decode cL_advise 18 = .ok (.iconst 0, 1) := by decide +kernel
theorem dL_advise_19 : decode cL_advise 19 = .ok (.ireturn, 1) := by decide +kernel
set_option maxRecDepth 20000 in
theorem ggL_law_X5_init : GoodIn wsL_law wsX5_init := goodIn_r _ [9, 10, 11, 12, 13, 14, 15, 16, 17, 18, 19, 20, 21, 22, 23, 24, 25, 26, 27, 28, 29, 30, 31, 32, 33, 34, 35, 36, 37, 38, 39, 40, 41, 42, 43, 44, 45, 46, 47, 48, 49, 50, 51, 52, 53, 54, 55, 56, 57, 58, 59, 60, 61, 62, 63, 64, 65, 66, 67, 68, 69, 70, 71, 595, 596, 597, 598, 599, 600, 581, 582, 583, 584, 601, 602, 603, 604, 605, 606, 607, 608, 609, 610, 611, 612, 613, 614, 615, 616, 617] (by decide +kernel) (by decide +kernel)
set_option maxRecDepth 20000 in
theorem gL_law_X5_init : GoodIn wsL_law (wsX5_init) := ggL_law_X5_init
set_option maxRecDepth 20000 in
theorem ggL_law_X6_init : GoodIn wsL_law wsX6_init := goodIn_r _ [74, 75, 11, 12, 30, 76, 77, 78, 79, 80, 81, 585, 586, 587, 588, 589, 590, 591, 592, 593, 594] (by decide +kernel) (by decide +kernel)
set_option maxRecDepth 20000 in
theorem gL_law_X6_init : GoodIn wsL_law (wsX6_init) := ggL_law_X6_init
set_option maxRecDepth 20000 in
theorem ggL_law_L_window : GoodIn wsL_law wsL_window := goodIn_ca (goodIn_ca (goodIn_ca (goodIn_r _ [85, 86, 87, 88, 89, 90, 91, 2, 92, 93, 94, 95, 96, 97, 98, 16, 99, 100, 101, 15, 102, 31, 29, 32, 33, 34, 35, 581, 582, 583, 584, 595, 596, 597, 598, 599, 600] (by decide +kernel) (by decide +kernel)) (goodIn_sub (fun _ h => List.mem_append_left _ (List.mem_append_left _ (List.mem_append_right _ h))) (by decide +kernel))) (goodIn_sub (fun _ h => List.mem_append_left _ (List.mem_append_right _ h)) (by decide +kernel))) (goodIn_sub (fun _ h => List.mem_append_right _ h) (by decide +kernel))
set_option maxRecDepth 20000 in
theorem gL_law_L_window : GoodIn wsL_law (va_wsS RL 72 yL_window wsL_window) := goodIn_app (goodIn_of _ (by decide +kernel)) ggL_law_L_window
set_option maxRecDepth 20000 in
theorem ggL_law_X6_window : GoodIn wsL_law wsX6_window := goodIn_r _ [106, 107, 108, 30, 76, 109, 110, 111, 112, 113, 114, 5, 115, 116, 117, 118, 119, 585, 586, 587, 588, 589, 590, 591, 592, 593, 594] (by decide +kernel) (by decide +kernel)
set_option maxRecDepth 20000 in
theorem gL_law_X6_window : GoodIn wsL_law (wsV RL 77 RX6 yX6_window wsX6_window) := goodIn_app (goodIn_of _ (by decide +kernel)) ggL_law_X6_window
set_option maxRecDepth 20000 in
theorem ggL_law_X6_thrown : GoodIn wsL_law wsX6_thrown := goodIn_r _ [123, 107, 585, 586, 587, 588, 589, 590, 591, 592, 593, 594] (by decide +kernel) (by decide +kernel)
set_option maxRecDepth 20000 in
theorem gL_law_X6_thrown : GoodIn wsL_law (wsV RL 78 RX6 yX6_thrown wsX6_thrown) := goodIn_app (goodIn_of _ (by decide +kernel)) ggL_law_X6_thrown
set_option maxRecDepth 20000 in
theorem ggL_law_L_rope : GoodIn wsL_law wsL_rope := goodIn_ca (goodIn_ca (goodIn_ca (goodIn_r _ [126, 87, 86, 88, 127, 128, 129, 2, 130, 95, 96, 93, 94, 97, 98, 24, 131, 132, 133, 134, 135, 136, 51, 137, 64, 65, 138, 139, 140, 141, 67, 69, 581, 582, 583, 584, 604, 605, 606, 607, 608, 609, 611, 612, 613, 614, 615, 616, 617] (by decide +kernel) (by decide +kernel)) (goodIn_sub (fun _ h => List.mem_append_left _ (List.mem_append_right _ h)) (by decide +kernel))) (goodIn_sub (fun _ h => List.mem_append_left _ (List.mem_append_left _ (List.mem_append_right _ h))) (by decide +kernel))) (goodIn_sub (fun _ h => List.mem_append_right _ h) (by decide +kernel))
set_option maxRecDepth 20000 in
theorem gL_law_L_rope : GoodIn wsL_law (va_wsS RL 82 yL_rope wsL_rope) := goodIn_app (goodIn_of _ (by decide +kernel)) ggL_law_L_rope
set_option maxRecDepth 20000 in
theorem ggL_law_X6_rope : GoodIn wsL_law wsX6_rope := goodIn_r _ [145, 107, 146, 77, 113, 114, 5, 115, 116, 117, 118, 119, 147, 148, 149, 150, 151, 152, 153, 154, 80, 155, 156, 157, 158, 585, 586, 587, 588, 589, 590, 591, 592, 593, 594] (by decide +kernel) (by decide +kernel)
set_option maxRecDepth 20000 in
theorem gL_law_X6_rope : GoodIn wsL_law (wsV RL 85 RX6 yX6_rope wsX6_rope) := goodIn_app (goodIn_of _ (by decide +kernel)) ggL_law_X6_rope
set_option maxRecDepth 20000 in
theorem ggL_law_L_feast : GoodIn wsL_law wsL_feast := goodIn_ca (goodIn_ca (goodIn_r _ [161, 86, 88, 162, 163, 164, 2, 165, 93, 94, 97, 98, 20, 166, 167, 168, 19, 169, 40, 39, 41, 581, 582, 583, 584, 601, 602, 603] (by decide +kernel) (by decide +kernel)) (goodIn_sub (fun _ h => List.mem_append_left _ (List.mem_append_left _ (List.mem_append_right _ h))) (by decide +kernel))) (goodIn_sub (fun _ h => List.mem_append_right _ h) (by decide +kernel))
set_option maxRecDepth 20000 in
theorem gL_law_L_feast : GoodIn wsL_law (va_wsS RL 86 yL_feast wsL_feast) := goodIn_app (goodIn_of _ (by decide +kernel)) ggL_law_L_feast
set_option maxRecDepth 20000 in
theorem ggL_law_X6_feast : GoodIn wsL_law wsX6_feast := goodIn_r _ [173, 107, 174, 78, 79, 113, 114, 5, 115, 116, 117, 118, 119, 585, 586, 587, 588, 589, 590, 591, 592, 593, 594] (by decide +kernel) (by decide +kernel)
set_option maxRecDepth 20000 in
theorem gL_law_X6_feast : GoodIn wsL_law (wsV RL 89 RX6 yX6_feast wsX6_feast) := goodIn_app (goodIn_of _ (by decide +kernel)) ggL_law_X6_feast
set_option maxRecDepth 20000 in
theorem ggL_law_L_setWind : GoodIn wsL_law wsL_setWind := goodIn_ca (goodIn_r _ [177, 86, 178, 179, 180, 2, 181, 93, 94, 24, 581, 582, 583, 584, 604, 605, 606, 607, 608, 609] (by decide +kernel) (by decide +kernel)) (goodIn_sub (fun _ h => List.mem_append_left _ (List.mem_append_left _ (List.mem_append_right _ h))) (by decide +kernel))
set_option maxRecDepth 20000 in
theorem gL_law_L_setWind : GoodIn wsL_law (va_wsS RL 90 yL_setWind wsL_setWind) := goodIn_app (goodIn_of _ (by decide +kernel)) ggL_law_L_setWind
set_option maxRecDepth 20000 in
theorem ggL_law_X6_setWind : GoodIn wsL_law wsX6_setWind := goodIn_r _ [185, 107, 80, 113, 114, 5, 115, 116, 117, 118, 119, 585, 586, 587, 588, 589, 590, 591, 592, 593, 594] (by decide +kernel) (by decide +kernel)
set_option maxRecDepth 20000 in
theorem gL_law_X6_setWind : GoodIn wsL_law (wsV RL 93 RX6 yX6_setWind wsX6_setWind) := goodIn_app (goodIn_of _ (by decide +kernel)) ggL_law_X6_setWind
set_option maxRecDepth 20000 in
theorem ggL_law_L_move : GoodIn wsL_law wsL_move := goodIn_ca (goodIn_ca (goodIn_r _ [188, 87, 88, 189, 190, 191, 2, 192, 95, 96, 97, 98, 24, 193, 194, 195, 196, 131, 132, 133, 134, 135, 136, 51, 137, 64, 65, 197, 198, 199, 200, 66, 71, 581, 582, 583, 584, 604, 605, 606, 607, 608, 609, 611, 612, 613, 614, 615, 616, 617] (by decide +kernel) (by decide +kernel)) (goodIn_sub (fun _ h => List.mem_append_left _ (List.mem_append_right _ h)) (by decide +kernel))) (goodIn_sub (fun _ h => List.mem_append_right _ h) (by decide +kernel))
set_option maxRecDepth 20000 in
theorem gL_law_L_move : GoodIn wsL_law (va_wsS RL 94 yL_move wsL_move) := goodIn_app (goodIn_of _ (by decide +kernel)) ggL_law_L_move
set_option maxRecDepth 20000 in
theorem ggL_law_X6_move : GoodIn wsL_law wsX6_move := goodIn_r _ [204, 107, 205, 206, 207, 5, 208, 146, 113, 114, 115, 116, 117, 118, 119, 147, 148, 149, 150, 151, 152, 153, 154, 80, 209, 210, 211, 212, 155, 156, 157, 158, 585, 586, 587, 588, 589, 590, 591, 592, 593, 594] (by decide +kernel) (by decide +kernel)
set_option maxRecDepth 20000 in
theorem gL_law_X6_move : GoodIn wsL_law (wsV RL 96 RX6 yX6_move wsX6_move) := goodIn_app (goodIn_of _ (by decide +kernel)) ggL_law_X6_move
set_option maxRecDepth 20000 in
theorem ggL_law_L_turn : GoodIn wsL_law wsL_turn := goodIn_ca (goodIn_r _ [215, 87, 216, 217, 218, 2, 219, 95, 96, 24, 193, 194, 195, 196, 581, 582, 583, 584, 604, 605, 606, 607, 608, 609, 611, 612, 613, 614, 615, 616, 617] (by decide +kernel) (by decide +kernel)) (goodIn_sub (fun _ h => List.mem_append_left _ (List.mem_append_right _ h)) (by decide +kernel))
set_option maxRecDepth 20000 in
theorem gL_law_L_turn : GoodIn wsL_law (va_wsS RL 97 yL_turn wsL_turn) := goodIn_app (goodIn_of _ (by decide +kernel)) ggL_law_L_turn
set_option maxRecDepth 20000 in
theorem ggL_law_X6_turn : GoodIn wsL_law wsX6_turn := goodIn_r _ [223, 107, 205, 206, 207, 5, 208, 146, 113, 114, 115, 151, 152, 153, 154, 80, 155, 156, 157, 158, 585, 586, 587, 588, 589, 590, 591, 592, 593, 594] (by decide +kernel) (by decide +kernel)
set_option maxRecDepth 20000 in
theorem gL_law_X6_turn : GoodIn wsL_law (wsV RL 99 RX6 yX6_turn wsX6_turn) := goodIn_app (goodIn_of _ (by decide +kernel)) ggL_law_X6_turn
set_option maxRecDepth 20000 in
theorem ggL_law_L_wipe : GoodIn wsL_law wsL_wipe := goodIn_ca (goodIn_r _ [226, 87, 227, 228, 229, 2, 230, 95, 96, 16, 24, 231, 232, 233, 234, 235, 236, 237, 15, 238, 31, 33, 32, 34, 239, 240, 241, 47, 242, 60, 243, 244, 245, 246, 581, 582, 583, 584, 604, 605, 606, 607, 608, 609, 595, 596, 597, 598, 599, 600, 610] (by decide +kernel) (by decide +kernel)) (goodIn_sub (fun _ h => List.mem_append_left _ (List.mem_append_right _ h)) (by decide +kernel))
set_option maxRecDepth 20000 in
theorem gL_law_L_wipe : GoodIn wsL_law (va_wsS RL 100 yL_wipe wsL_wipe) := goodIn_app (goodIn_of _ (by decide +kernel)) ggL_law_L_wipe
set_option maxRecDepth 20000 in
theorem ggL_law_X6_wipe : GoodIn wsL_law wsX6_wipe := goodIn_r _ [250, 107, 80, 251, 252, 253, 5, 254, 108, 113, 114, 115, 116, 117, 118, 119, 255, 256, 257, 258, 76, 259, 260, 261, 585, 586, 587, 588, 589, 590, 591, 592, 593, 594] (by decide +kernel) (by decide +kernel)
set_option maxRecDepth 20000 in
theorem gL_law_X6_wipe : GoodIn wsL_law (wsV RL 102 RX6 yX6_wipe wsX6_wipe) := goodIn_app (goodIn_of _ (by decide +kernel)) ggL_law_X6_wipe
set_option maxRecDepth 20000 in
theorem ggL_law_L_pass : GoodIn wsL_law wsL_pass := goodIn_ca (goodIn_r _ [264, 86, 265, 266, 267, 2, 268, 93, 94, 24, 16, 20, 269, 270, 271, 23, 272, 273, 274, 275, 276, 48, 53, 54, 55, 56, 52, 277, 278, 279, 47, 280, 60, 243, 244, 245, 246, 281, 282, 283, 284, 285, 286, 287, 288, 289, 19, 290, 39, 40, 41, 291, 292, 293, 15, 294, 29, 295, 296, 297, 298, 35, 299, 300, 301, 302, 303, 33, 34, 304, 305, 306, 307, 31, 32, 308, 309, 310, 311, 312, 313, 314, 51, 315, 64, 316, 317, 318, 319, 67, 65, 66, 70, 320, 240, 241, 242, 321, 322, 323, 324, 69, 325, 135, 136, 137, 326, 198, 199, 200, 71, 581, 582, 583, 584, 604, 605, 606, 607, 608, 609, 610, 601, 602, 603, 595, 596, 597, 598, 599, 600, 611, 612, 613, 614, 615, 616, 617] (by decide +kernel) (by decide +kernel)) (goodIn_sub (fun _ h => List.mem_append_left _ (List.mem_append_left _ (List.mem_append_right _ h))) (by decide +kernel))
set_option maxRecDepth 20000 in
theorem gL_law_L_pass : GoodIn wsL_law (va_wsS RL 103 yL_pass wsL_pass) := goodIn_app (goodIn_of _ (by decide +kernel)) ggL_law_L_pass
set_option maxRecDepth 20000 in
theorem ggL_law_X6_pass : GoodIn wsL_law wsX6_pass := goodIn_r _ [330, 107, 80, 113, 114, 5, 115, 116, 117, 118, 119, 331, 332, 333, 334, 335, 336, 337, 338, 339, 244, 245, 246, 146, 340, 341, 342, 343, 344, 285, 286, 259, 260, 261, 345, 346, 347, 348, 174, 78, 79, 349, 350, 351, 352, 108, 353, 354, 355, 356, 255, 256, 257, 258, 76, 357, 358, 359, 360, 361, 362, 363, 364, 365, 366, 367, 368, 77, 151, 152, 153, 154, 155, 156, 157, 158, 369, 370, 371, 372, 147, 148, 149, 150, 209, 210, 211, 212, 585, 586, 587, 588, 589, 590, 591, 592, 593, 594] (by decide +kernel) (by decide +kernel)
set_option maxRecDepth 20000 in
theorem gL_law_X6_pass : GoodIn wsL_law (wsV RL 105 RX6 yX6_pass wsX6_pass) := goodIn_app (goodIn_of _ (by decide +kernel)) ggL_law_X6_pass
set_option maxRecDepth 20000 in
theorem ggL_law_L_soot : GoodIn wsL_law wsL_soot := goodIn_ca (goodIn_r _ [375, 87, 376, 377, 378, 2, 379, 95, 96, 24, 131, 132, 133, 380, 309, 310, 47, 311, 60, 581, 582, 583, 584, 604, 605, 606, 607, 608, 609, 610] (by decide +kernel) (by decide +kernel)) (goodIn_sub (fun _ h => List.mem_append_left _ (List.mem_append_right _ h)) (by decide +kernel))
set_option maxRecDepth 20000 in
theorem gL_law_L_soot : GoodIn wsL_law (va_wsS RL 106 yL_soot wsL_soot) := goodIn_app (goodIn_of _ (by decide +kernel)) ggL_law_L_soot
set_option maxRecDepth 20000 in
theorem ggL_law_X6_soot : GoodIn wsL_law wsX6_soot := goodIn_r _ [384, 107, 80, 113, 114, 5, 115, 259, 260, 261, 116, 117, 118, 119, 585, 586, 587, 588, 589, 590, 591, 592, 593, 594] (by decide +kernel) (by decide +kernel)
set_option maxRecDepth 20000 in
theorem gL_law_X6_soot : GoodIn wsL_law (wsV RL 108 RX6 yX6_soot wsX6_soot) := goodIn_app (goodIn_of _ (by decide +kernel)) ggL_law_X6_soot
set_option maxRecDepth 20000 in
theorem ggL_law_L_about : GoodIn wsL_law wsL_about := goodIn_ca (goodIn_r _ [387, 87, 388, 389, 390, 2, 391, 95, 96, 16, 24, 231, 232, 233, 234, 392, 393, 394, 15, 395, 31, 32, 33, 34, 35, 304, 305, 306, 307, 308, 309, 310, 47, 311, 60, 396, 397, 398, 399, 299, 285, 245, 286, 295, 296, 297, 298, 300, 301, 302, 303, 581, 582, 583, 584, 604, 605, 606, 607, 608, 609, 595, 596, 597, 598, 599, 600, 610] (by decide +kernel) (by decide +kernel)) (goodIn_sub (fun _ h => List.mem_append_left _ (List.mem_append_right _ h)) (by decide +kernel))
set_option maxRecDepth 20000 in
theorem gL_law_L_about : GoodIn wsL_law (va_wsS RL 109 yL_about wsL_about) := goodIn_app (goodIn_of _ (by decide +kernel)) ggL_law_L_about
set_option maxRecDepth 20000 in
theorem ggL_law_X6_about : GoodIn wsL_law wsX6_about := goodIn_r _ [403, 107, 251, 252, 253, 5, 254, 108, 113, 114, 115, 404, 405, 406, 407, 361, 362, 363, 364, 80, 344, 285, 245, 286, 255, 256, 257, 258, 76, 259, 260, 261, 353, 354, 355, 356, 357, 358, 359, 360, 116, 117, 118, 119, 585, 586, 587, 588, 589, 590, 591, 592, 593, 594] (by decide +kernel) (by decide +kernel)
set_option maxRecDepth 20000 in
theorem gL_law_X6_about : GoodIn wsL_law (wsV RL 111 RX6 yX6_about wsX6_about) := goodIn_app (goodIn_of _ (by decide +kernel)) ggL_law_X6_about
set_option maxRecDepth 20000 in
theorem ggL_law_L_told : GoodIn wsL_law wsL_told := goodIn_ca (goodIn_r _ [410, 87, 411, 412, 413, 2, 414, 95, 96, 24, 193, 194, 195, 196, 415, 416, 417, 51, 418, 65, 66, 67, 69, 70, 71, 581, 582, 583, 584, 604, 605, 606, 607, 608, 609, 611, 612, 613, 614, 615, 616, 617] (by decide +kernel) (by decide +kernel)) (goodIn_sub (fun _ h => List.mem_append_left _ (List.mem_append_right _ h)) (by decide +kernel))
set_option maxRecDepth 20000 in
theorem gL_law_L_told : GoodIn wsL_law (va_wsS RL 112 yL_told wsL_told) := goodIn_app (goodIn_of _ (by decide +kernel)) ggL_law_L_told
set_option maxRecDepth 20000 in
theorem ggL_law_X6_told : GoodIn wsL_law wsX6_told := goodIn_r _ [422, 107, 205, 206, 207, 5, 208, 146, 113, 114, 115, 423, 424, 425, 426, 77, 151, 152, 153, 154, 80, 116, 117, 118, 119, 585, 586, 587, 588, 589, 590, 591, 592, 593, 594] (by decide +kernel) (by decide +kernel)
set_option maxRecDepth 20000 in
theorem gL_law_X6_told : GoodIn wsL_law (wsV RL 114 RX6 yX6_told wsX6_told) := goodIn_app (goodIn_of _ (by decide +kernel)) ggL_law_X6_told
set_option maxRecDepth 20000 in
theorem ggL_law_L_count : GoodIn wsL_law wsL_count := goodIn_ca (goodIn_r _ [429, 87, 430, 431, 432, 2, 433, 95, 96, 434, 435, 436, 437, 24, 16, 20, 438, 439, 440, 47, 441, 60, 442, 443, 444, 445, 446, 447, 448, 51, 449, 64, 70, 450, 292, 293, 15, 294, 29, 295, 296, 297, 298, 35, 299, 285, 245, 286, 300, 301, 302, 303, 33, 34, 304, 305, 306, 307, 31, 32, 308, 309, 310, 311, 581, 582, 583, 584, 604, 605, 606, 607, 608, 609, 595, 596, 597, 598, 599, 600, 611, 612, 613, 614, 615, 616, 617, 601, 602, 603, 610] (by decide +kernel) (by decide +kernel)) (goodIn_sub (fun _ h => List.mem_append_left _ (List.mem_append_right _ h)) (by decide +kernel))
set_option maxRecDepth 20000 in
theorem gL_law_L_count : GoodIn wsL_law (va_wsS RL 115 yL_count wsL_count) := goodIn_app (goodIn_of _ (by decide +kernel)) ggL_law_L_count
set_option maxRecDepth 20000 in
theorem ggL_law_X6_count : GoodIn wsL_law wsX6_count := goodIn_r _ [454, 107, 113, 114, 5, 115, 455, 456, 457, 458, 80, 108, 146, 174, 459, 460, 461, 462, 463, 464, 465, 466, 151, 152, 153, 154, 349, 350, 351, 352, 353, 354, 355, 356, 344, 285, 245, 286, 255, 256, 257, 258, 76, 357, 358, 359, 360, 361, 362, 363, 364, 259, 260, 261, 116, 117, 118, 119, 585, 586, 587, 588, 589, 590, 591, 592, 593, 594] (by decide +kernel) (by decide +kernel)
set_option maxRecDepth 20000 in
theorem gL_law_X6_count : GoodIn wsL_law (wsV RL 117 RX6 yX6_count wsX6_count) := goodIn_app (goodIn_of _ (by decide +kernel)) ggL_law_X6_count
set_option maxRecDepth 20000 in
theorem ggL_law_L_isFeast : GoodIn wsL_law wsL_isFeast := goodIn_ca (goodIn_r _ [469, 86, 470, 471, 472, 2, 473, 93, 94, 20, 24, 474, 288, 289, 19, 290, 39, 40, 41, 581, 582, 583, 584, 604, 605, 606, 607, 608, 609, 601, 602, 603] (by decide +kernel) (by decide +kernel)) (goodIn_sub (fun _ h => List.mem_append_left _ (List.mem_append_left _ (List.mem_append_right _ h))) (by decide +kernel))
set_option maxRecDepth 20000 in
theorem gL_law_L_isFeast : GoodIn wsL_law (va_wsS RL 118 yL_isFeast wsL_isFeast) := goodIn_app (goodIn_of _ (by decide +kernel)) ggL_law_L_isFeast
set_option maxRecDepth 20000 in
theorem ggL_law_X6_isFeast : GoodIn wsL_law wsX6_isFeast := goodIn_r _ [478, 107, 80, 113, 114, 5, 115, 345, 346, 347, 348, 174, 78, 79, 585, 586, 587, 588, 589, 590, 591, 592, 593, 594] (by decide +kernel) (by decide +kernel)
set_option maxRecDepth 20000 in
theorem gL_law_X6_isFeast : GoodIn wsL_law (wsV RL 120 RX6 yX6_isFeast wsX6_isFeast) := goodIn_app (goodIn_of _ (by decide +kernel)) ggL_law_X6_isFeast
set_option maxRecDepth 20000 in
theorem ggL_law_X5_next : GoodIn wsL_law wsX5_next := goodIn_r _ [482, 20, 24, 483, 484, 485, 19, 486, 487, 288, 289, 290, 39, 40, 41, 581, 582, 583, 584, 604, 605, 606, 607, 608, 609, 601, 602, 603] (by decide +kernel) (by decide +kernel)
set_option maxRecDepth 20000 in
theorem gL_law_X5_next : GoodIn wsL_law (wsV RL 121 RX5 yX5_next wsX5_next) := goodIn_app (goodIn_of _ (by decide +kernel)) ggL_law_X5_next
set_option maxRecDepth 20000 in
theorem ggL_law_X6_next : GoodIn wsL_law wsX6_next := goodIn_r _ [491, 107, 492, 493, 494, 5, 495, 80, 345, 346, 347, 348, 174, 78, 79, 585, 586, 587, 588, 589, 590, 591, 592, 593, 594] (by decide +kernel) (by decide +kernel)
set_option maxRecDepth 20000 in
theorem gL_law_X6_next : GoodIn wsL_law (wsV RL 124 RX6 yX6_next wsX6_next) := goodIn_app (goodIn_of _ (by decide +kernel)) ggL_law_X6_next
set_option maxRecDepth 20000 in
theorem ggL_law_L_would : GoodIn wsL_law wsL_would := goodIn_ca (goodIn_ca (goodIn_r _ [498, 86, 87, 499, 500, 501, 2, 502, 93, 94, 95, 96, 25, 24, 16, 20, 503, 504, 505, 23, 506, 48, 52, 53, 54, 55, 56, 507, 508, 509, 47, 510, 60, 511, 110, 111, 112, 512, 513, 514, 51, 515, 64, 65, 66, 67, 69, 70, 71, 269, 270, 271, 272, 273, 274, 275, 276, 277, 278, 279, 280, 243, 244, 245, 246, 281, 282, 283, 284, 285, 286, 287, 288, 289, 19, 290, 39, 40, 41, 291, 292, 293, 15, 294, 29, 295, 296, 297, 298, 35, 299, 300, 301, 302, 303, 33, 34, 304, 305, 306, 307, 31, 32, 308, 309, 310, 311, 312, 313, 314, 315, 316, 317, 318, 319, 320, 240, 241, 242, 321, 322, 323, 324, 325, 135, 136, 137, 326, 198, 199, 200, 438, 439, 440, 441, 446, 447, 448, 449, 581, 582, 583, 584, 604, 605, 606, 607, 608, 609, 610, 611, 612, 613, 614, 615, 616, 617, 601, 602, 603, 595, 596, 597, 598, 599, 600] (by decide +kernel) (by decide +kernel)) (goodIn_sub (fun _ h => List.mem_append_left _ (List.mem_append_left _ (List.mem_append_right _ h))) (by decide +kernel))) (goodIn_sub (fun _ h => List.mem_append_left _ (List.mem_append_right _ h)) (by decide +kernel))
set_option maxRecDepth 20000 in
theorem gL_law_L_would : GoodIn wsL_law (va_wsS RL 125 yL_would wsL_would) := goodIn_app (goodIn_of _ (by decide +kernel)) ggL_law_L_would
set_option maxRecDepth 20000 in
theorem ggL_law_X6_would : GoodIn wsL_law wsX6_would := goodIn_r _ [519, 107, 80, 113, 114, 5, 115, 116, 117, 118, 119, 520, 521, 522, 523, 81, 109, 110, 111, 112, 331, 332, 333, 334, 335, 336, 337, 338, 339, 244, 245, 246, 146, 340, 341, 342, 343, 344, 285, 286, 259, 260, 261, 345, 346, 347, 348, 174, 78, 79, 349, 350, 351, 352, 108, 353, 354, 355, 356, 255, 256, 257, 258, 76, 357, 358, 359, 360, 361, 362, 363, 364, 365, 366, 367, 368, 77, 151, 152, 153, 154, 155, 156, 157, 158, 369, 370, 371, 372, 147, 148, 149, 150, 209, 210, 211, 212, 459, 460, 461, 462, 463, 464, 465, 466, 524, 525, 526, 527, 585, 586, 587, 588, 589, 590, 591, 592, 593, 594] (by decide +kernel) (by decide +kernel)
set_option maxRecDepth 20000 in
theorem gL_law_X6_would : GoodIn wsL_law (wsV RL 127 RX6 yX6_would wsX6_would) := goodIn_app (goodIn_of _ (by decide +kernel)) ggL_law_X6_would
set_option maxRecDepth 20000 in
theorem ggL_law_L_until : GoodIn wsL_law wsL_until := goodIn_ca (goodIn_r _ [530, 87, 531, 532, 533, 2, 534, 95, 96, 25, 24, 16, 20, 231, 232, 233, 234, 503, 504, 505, 23, 506, 48, 52, 53, 54, 55, 56, 507, 508, 509, 47, 510, 60, 511, 110, 111, 112, 512, 513, 514, 51, 515, 64, 65, 66, 67, 69, 70, 71, 535, 536, 537, 15, 538, 304, 305, 306, 307, 31, 33, 32, 34, 308, 309, 310, 311, 300, 301, 302, 303, 539, 274, 275, 276, 277, 278, 279, 280, 243, 244, 245, 246, 281, 282, 283, 284, 285, 286, 287, 288, 289, 19, 290, 39, 40, 41, 291, 292, 293, 294, 29, 295, 296, 297, 298, 35, 299, 312, 313, 314, 315, 316, 317, 318, 319, 320, 240, 241, 242, 321, 322, 323, 324, 325, 135, 136, 137, 326, 198, 199, 200, 581, 582, 583, 584, 604, 605, 606, 607, 608, 609, 595, 596, 597, 598, 599, 600, 610, 611, 612, 613, 614, 615, 616, 617, 601, 602, 603] (by decide +kernel) (by decide +kernel)) (goodIn_sub (fun _ h => List.mem_append_left _ (List.mem_append_right _ h)) (by decide +kernel))
set_option maxRecDepth 20000 in
theorem gL_law_L_until : GoodIn wsL_law (va_wsS RL 128 yL_until wsL_until) := goodIn_app (goodIn_of _ (by decide +kernel)) ggL_law_L_until
set_option maxRecDepth 20000 in
theorem ggL_law_X6_until : GoodIn wsL_law wsX6_until := goodIn_r _ [543, 107, 251, 252, 253, 5, 254, 108, 113, 114, 115, 116, 117, 118, 119, 520, 521, 522, 523, 80, 81, 109, 110, 111, 112, 361, 362, 363, 364, 344, 285, 245, 286, 255, 256, 257, 258, 76, 259, 260, 261, 357, 358, 359, 360, 335, 336, 337, 338, 339, 244, 246, 146, 340, 341, 342, 343, 345, 346, 347, 348, 174, 78, 79, 349, 350, 351, 352, 353, 354, 355, 356, 365, 366, 367, 368, 77, 151, 152, 153, 154, 155, 156, 157, 158, 369, 370, 371, 372, 147, 148, 149, 150, 209, 210, 211, 212, 524, 525, 526, 527, 585, 586, 587, 588, 589, 590, 591, 592, 593, 594] (by decide +kernel) (by decide +kernel)
set_option maxRecDepth 20000 in
theorem gL_law_X6_until : GoodIn wsL_law (wsV RL 130 RX6 yX6_until wsX6_until) := goodIn_app (goodIn_of _ (by decide +kernel)) ggL_law_X6_until
set_option maxRecDepth 20000 in
theorem ggL_law_L_advise : GoodIn wsL_law wsL_advise := goodIn_ca (goodIn_ca (goodIn_r _ [546, 87, 88, 547, 548, 549, 2, 550, 95, 96, 97, 98, 20, 24, 193, 194, 195, 196, 483, 484, 485, 19, 486, 487, 288, 289, 290, 39, 40, 41, 551, 552, 553, 554, 25, 16, 503, 504, 505, 23, 506, 48, 52, 53, 54, 55, 56, 507, 508, 509, 47, 510, 60, 511, 110, 111, 112, 512, 513, 514, 51, 515, 64, 65, 66, 67, 69, 70, 71, 197, 198, 199, 200, 539, 274, 275, 276, 277, 278, 279, 280, 243, 244, 245, 246, 281, 282, 283, 284, 285, 286, 287, 291, 292, 293, 15, 294, 29, 295, 296, 297, 298, 35, 299, 300, 301, 302, 303, 33, 34, 304, 305, 306, 307, 31, 32, 308, 309, 310, 311, 312, 313, 314, 315, 316, 317, 318, 319, 320, 240, 241, 242, 321, 322, 323, 324, 325, 135, 136, 137, 326, 134, 581, 582, 583, 584, 604, 605, 606, 607, 608, 609, 611, 612, 613, 614, 615, 616, 617, 601, 602, 603, 610, 595, 596, 597, 598, 599, 600] (by decide +kernel) (by decide +kernel)) (goodIn_sub (fun _ h => List.mem_append_left _ (List.mem_append_right _ h)) (by decide +kernel))) (goodIn_sub (fun _ h => List.mem_append_right _ h) (by decide +kernel))
set_option maxRecDepth 20000 in
theorem gL_law_L_advise : GoodIn wsL_law (va_wsS RL 131 yL_advise wsL_advise) := goodIn_app (goodIn_of _ (by decide +kernel)) ggL_law_L_advise
set_option maxRecDepth 20000 in
theorem ggL_law_X6_advise : GoodIn wsL_law wsX6_advise := goodIn_r _ [558, 107, 80, 205, 206, 207, 5, 208, 146, 113, 114, 115, 116, 117, 118, 119, 492, 493, 494, 495, 345, 346, 347, 348, 174, 78, 79, 520, 521, 522, 523, 81, 109, 110, 111, 112, 151, 152, 153, 154, 147, 148, 149, 150, 209, 210, 211, 212, 155, 156, 157, 158, 331, 332, 333, 334, 335, 336, 337, 338, 339, 244, 245, 246, 340, 341, 342, 343, 344, 285, 286, 259, 260, 261, 349, 350, 351, 352, 108, 353, 354, 355, 356, 255, 256, 257, 258, 76, 357, 358, 359, 360, 361, 362, 363, 364, 365, 366, 367, 368, 77, 369, 370, 371, 372, 524, 525, 526, 527, 585, 586, 587, 588, 589, 590, 591, 592, 593, 594] (by decide +kernel) (by decide +kernel)
set_option maxRecDepth 20000 in
theorem gL_law_X6_advise : GoodIn wsL_law (wsV RL 133 RX6 yX6_advise wsX6_advise) := goodIn_app (goodIn_of _ (by decide +kernel)) ggL_law_X6_advise
set_option maxRecDepth 20000 in
theorem ggL_law_X5_mean : GoodIn wsL_law wsX5_mean := goodIn_r _ [562, 24, 563, 438, 439, 440, 47, 441, 60, 581, 582, 583, 584, 604, 605, 606, 607, 608, 609, 610] (by decide +kernel) (by decide +kernel)
set_option maxRecDepth 20000 in
theorem gL_law_X5_mean : GoodIn wsL_law (wsV RL 134 RX5 yX5_mean wsX5_mean) := goodIn_app (goodIn_of _ (by decide +kernel)) ggL_law_X5_mean
set_option maxRecDepth 20000 in
theorem ggL_law_X6_mean : GoodIn wsL_law wsX6_mean := goodIn_r _ [567, 107, 568, 459, 460, 461, 5, 462, 80, 585, 586, 587, 588, 589, 590, 591, 592, 593, 594] (by decide +kernel) (by decide +kernel)
set_option maxRecDepth 20000 in
theorem gL_law_X6_mean : GoodIn wsL_law (wsV RL 138 RX6 yX6_mean wsX6_mean) := goodIn_app (goodIn_of _ (by decide +kernel)) ggL_law_X6_mean
set_option maxRecDepth 20000 in
theorem ggL_law_X5_digest : GoodIn wsL_law wsX5_digest := goodIn_r _ [572, 573, 574, 16, 24, 434, 435, 436, 2, 437, 20, 438, 439, 440, 47, 441, 60, 442, 443, 444, 445, 446, 447, 448, 51, 449, 64, 70, 450, 292, 293, 15, 294, 29, 295, 296, 297, 298, 35, 299, 285, 245, 286, 300, 301, 302, 303, 33, 34, 304, 305, 306, 307, 31, 32, 308, 309, 310, 311, 392, 393, 394, 395, 396, 397, 398, 399, 415, 416, 417, 418, 65, 66, 67, 69, 71, 380, 581, 582, 583, 584, 595, 596, 597, 598, 599, 600, 604, 605, 606, 607, 608, 609, 611, 612, 613, 614, 615, 616, 617, 601, 602, 603, 610] (by decide +kernel) (by decide +kernel)
set_option maxRecDepth 20000 in
theorem gL_law_X5_digest : GoodIn wsL_law (wsV RL 139 RX5 yX5_digest wsX5_digest) := goodIn_app (goodIn_of _ (by decide +kernel)) ggL_law_X5_digest
set_option maxRecDepth 20000 in
theorem ggL_law_X6_digest : GoodIn wsL_law wsX6_digest := goodIn_r _ [578, 107, 579, 580, 108, 146, 80, 455, 456, 457, 5, 458, 174, 459, 460, 461, 462, 463, 464, 465, 466, 151, 152, 153, 154, 349, 350, 351, 352, 353, 354, 355, 356, 344, 285, 245, 286, 255, 256, 257, 258, 76, 357, 358, 359, 360, 361, 362, 363, 364, 259, 260, 261, 404, 405, 406, 407, 423, 424, 425, 426, 77, 585, 586, 587, 588, 589, 590, 591, 592, 593, 594] (by decide +kernel) (by decide +kernel)
set_option maxRecDepth 20000 in
theorem gL_law_X6_digest : GoodIn wsL_law (wsV RL 143 RX6 yX6_digest wsX6_digest) := goodIn_app (goodIn_of _ (by decide +kernel)) ggL_law_X6_digest
theorem dL_law_0 : decode cL_law 0 = .ok (.new 8, 3) := by decide +kernel
theorem dL_law_3 : decode cL_law 3 = .ok (.dup, 1) := by decide +kernel
theorem dL_law_4 : decode cL_law 4 = .ok (.invokespecial 68, 3) := by decide +kernel
theorem dL_law_7 : decode cL_law 7 = .ok (.astore_n 1, 1) := by decide +kernel
theorem dL_law_8 : decode cL_law 8 = .ok (.new 69, 3) := by decide +kernel
theorem dL_law_11 : decode cL_law 11 = .ok (.dup, 1) := by decide +kernel
theorem dL_law_12 : decode cL_law 12 = .ok (.invokespecial 71, 3) := by decide +kernel
theorem dL_law_15 : decode cL_law 15 = .ok (.astore_n 2, 1) := by decide +kernel
theorem dL_law_16 : decode cL_law 16 = .ok (.iconst 1, 1) := by decide +kernel
theorem dL_law_17 : decode cL_law 17 = .ok (.newarray .long, 2) := by decide +kernel
theorem dL_law_19 : decode cL_law 19 = .ok (.astore_n 3, 1) := by decide +kernel
theorem dL_law_20 : decode cL_law 20 = .ok (.iconst 0, 1) := by decide +kernel
theorem dL_law_21 : decode cL_law 21 = .ok (.istore 4, 2) := by decide +kernel
theorem dL_law_23 : decode cL_law 23 = .ok (.iload 4, 2) := by decide +kernel
theorem dL_law_25 : decode cL_law 25 = .ok (.aload_n 0, 1) := by decide +kernel
theorem dL_law_26 : decode cL_law 26 = .ok (.arraylength, 1) := by decide +kernel
theorem dL_law_27 : decode cL_law 27 = .ok (.bipush 6, 2) := by decide +kernel
theorem dL_law_29 : decode cL_law 29 = .ok (.isub, 1) := by decide +kernel
theorem dL_law_30 : decode cL_law 30 = .ok (.if_icmp .gt 1246, 3) := by decide +kernel
theorem dL_law_33 : decode cL_law 33 = .ok (.aload_n 0, 1) := by decide +kernel
theorem dL_law_34 : decode cL_law 34 = .ok (.iload 4, 2) := by decide +kernel
theorem dL_law_36 : decode cL_law 36 = .ok (.iaload, 1) := by decide +kernel
theorem dL_law_37 : decode cL_law 37 = .ok (.bipush 31, 2) := by decide +kernel
theorem dL_law_39 : decode cL_law 39 = .ok (.iand, 1) := by decide +kernel
theorem dL_law_40 : decode cL_law 40 = .ok (.tableswitch 1230 0 18 #[92, 196, 292, 360, 416, 484, 547, 603, 659, 727, 795, 863, 919, 982, 995, 1063, 1119, 1175, 1216], 92) := by decide +kernel
theorem dL_law_132 : decode cL_law 132 = .ok (.aload_n 1, 1) := by decide +kernel
theorem dL_law_133 : decode cL_law 133 = .ok (.aload_n 0, 1) := by decide +kernel
theorem dL_law_134 : decode cL_law 134 = .ok (.iload 4, 2) := by decide +kernel
theorem dL_law_136 : decode cL_law 136 = .ok (.iconst 1, 1) := by decide +kernel
theorem dL_law_137 : decode cL_law 137 = .ok (.iadd, 1) := by decide +kernel
theorem dL_law_138 : decode cL_law 138 = .ok (.iaload, 1) := by decide +kernel
theorem dL_law_139 : decode cL_law 139 = .ok (.aload_n 0, 1) := by decide +kernel
theorem dL_law_140 : decode cL_law 140 = .ok (.iload 4, 2) := by decide +kernel
theorem dL_law_142 : decode cL_law 142 = .ok (.iconst 2, 1) := by decide +kernel
theorem dL_law_143 : decode cL_law 143 = .ok (.iadd, 1) := by decide +kernel
theorem dL_law_144 : decode cL_law 144 = .ok (.iaload, 1) := by decide +kernel
theorem dL_law_145 : decode cL_law 145 = .ok (.aload_n 0, 1) := by decide +kernel
theorem dL_law_146 : decode cL_law 146 = .ok (.iload 4, 2) := by decide +kernel
theorem dL_law_148 : decode cL_law 148 = .ok (.iconst 3, 1) := by decide +kernel
theorem dL_law_149 : decode cL_law 149 = .ok (.iadd, 1) := by decide +kernel
theorem dL_law_150 : decode cL_law 150 = .ok (.iaload, 1) := by decide +kernel
theorem dL_law_151 : decode cL_law 151 = .ok (.aload_n 0, 1) := by decide +kernel
theorem dL_law_152 : decode cL_law 152 = .ok (.iload 4, 2) := by decide +kernel
theorem dL_law_154 : decode cL_law 154 = .ok (.iconst 4, 1) := by decide +kernel
theorem dL_law_155 : decode cL_law 155 = .ok (.iadd, 1) := by decide +kernel
theorem dL_law_156 : decode cL_law 156 = .ok (.iaload, 1) := by decide +kernel
theorem dL_law_157 : decode cL_law 157 = .ok (.aload_n 0, 1) := by decide +kernel
theorem dL_law_158 : decode cL_law 158 = .ok (.iload 4, 2) := by decide +kernel
theorem dL_law_160 : decode cL_law 160 = .ok (.iconst 5, 1) := by decide +kernel
theorem dL_law_161 : decode cL_law 161 = .ok (.iadd, 1) := by decide +kernel
theorem dL_law_162 : decode cL_law 162 = .ok (.iaload, 1) := by decide +kernel
theorem dL_law_163 : decode cL_law 163 = .ok (.aload_n 3, 1) := by decide +kernel
theorem dL_law_164 : decode cL_law 164 = .ok (.invokestatic 72, 3) := by decide +kernel
theorem dL_law_167 : decode cL_law 167 = .ok (.istore 5, 2) := by decide +kernel
theorem dL_law_169 : decode cL_law 169 = .ok (.aload_n 2, 1) := by decide +kernel
theorem dL_law_170 : decode cL_law 170 = .ok (.aload_n 0, 1) := by decide +kernel
theorem dL_law_171 : decode cL_law 171 = .ok (.iload 4, 2) := by decide +kernel
theorem dL_law_173 : decode cL_law 173 = .ok (.iconst 1, 1) := by decide +kernel
theorem dL_law_174 : decode cL_law 174 = .ok (.iadd, 1) := by decide +kernel
theorem dL_law_175 : decode cL_law 175 = .ok (.iaload, 1) := by decide +kernel
theorem dL_law_176 : decode cL_law 176 = .ok (.aload_n 0, 1) := by decide +kernel
theorem dL_law_177 : decode cL_law 177 = .ok (.iload 4, 2) := by decide +kernel
theorem dL_law_179 : decode cL_law 179 = .ok (.iconst 2, 1) := by decide +kernel
theorem dL_law_180 : decode cL_law 180 = .ok (.iadd, 1) := by decide +kernel
theorem dL_law_181 : decode cL_law 181 = .ok (.iaload, 1) := by decide +kernel
theorem dL_law_182 : decode cL_law 182 = .ok (.aload_n 0, 1) := by decide +kernel
theorem dL_law_183 : decode cL_law 183 = .ok (.iload 4, 2) := by decide +kernel
theorem dL_law_185 : decode cL_law 185 = .ok (.iconst 3, 1) := by decide +kernel
theorem dL_law_186 : decode cL_law 186 = .ok (.iadd, 1) := by decide +kernel
theorem dL_law_187 : decode cL_law 187 = .ok (.iaload, 1) := by decide +kernel
theorem dL_law_188 : decode cL_law 188 = .ok (.aload_n 0, 1) := by decide +kernel
theorem dL_law_189 : decode cL_law 189 = .ok (.iload 4, 2) := by decide +kernel
theorem dL_law_191 : decode cL_law 191 = .ok (.iconst 4, 1) := by decide +kernel
theorem dL_law_192 : decode cL_law 192 = .ok (.iadd, 1) := by decide +kernel
theorem dL_law_193 : decode cL_law 193 = .ok (.iaload, 1) := by decide +kernel
theorem dL_law_194 : decode cL_law 194 = .ok (.aload_n 0, 1) := by decide +kernel
end
section
theorem dL_law_195 : decode cL_law 195 = .ok (.iload 4, 2) := by decide +kernel
theorem dL_law_197 : decode cL_law 197 = .ok (.iconst 5, 1) := by decide +kernel
theorem dL_law_198 : decode cL_law 198 = .ok (.iadd, 1) := by decide +kernel
theorem dL_law_199 : decode cL_law 199 = .ok (.iaload, 1) := by decide +kernel
theorem dL_law_200 : decode cL_law 200 = .ok (.invokevirtual 77, 3) := by decide +kernel
theorem dL_law_203 : decode cL_law 203 = .ok (.istore 6, 2) := by decide +kernel
theorem dL_law_205 : decode cL_law 205 = .ok (.aload_n 2, 1) := by decide +kernel
theorem dL_law_206 : decode cL_law 206 = .ok (.invokevirtual 78, 3) := by decide +kernel
theorem dL_law_209 : decode cL_law 209 = .ok (.iload 5, 2) := by decide +kernel
theorem dL_law_211 : decode cL_law 211 = .ok (.if_icmp .eq 5, 3) := by decide +kernel
theorem dL_law_214 : decode cL_law 214 = .ok (.iconst 0, 1) := by decide +kernel
theorem dL_law_215 : decode cL_law 215 = .ok (.ireturn, 1) := by decide +kernel
theorem dL_law_216 : decode cL_law 216 = .ok (.iload 5, 2) := by decide +kernel
theorem dL_law_218 : decode cL_law 218 = .ok (.ifCond .ne 15, 3) := by decide +kernel
theorem dL_law_221 : decode cL_law 221 = .ok (.aload_n 3, 1) := by decide +kernel
theorem dL_law_222 : decode cL_law 222 = .ok (.iconst 0, 1) := by decide +kernel
theorem dL_law_223 : decode cL_law 223 = .ok (.laload, 1) := by decide +kernel
theorem dL_law_224 : decode cL_law 224 = .ok (.iload 6, 2) := by decide +kernel
theorem dL_law_226 : decode cL_law 226 = .ok (.i2l, 1) := by decide +kernel
theorem dL_law_227 : decode cL_law 227 = .ok (.lcmp, 1) := by decide +kernel
theorem dL_law_228 : decode cL_law 228 = .ok (.ifCond .eq 5, 3) := by decide +kernel
theorem dL_law_231 : decode cL_law 231 = .ok (.iconst 0, 1) := by decide +kernel
theorem dL_law_232 : decode cL_law 232 = .ok (.ireturn, 1) := by decide +kernel
theorem dL_law_233 : decode cL_law 233 = .ok (.goto 1037, 3) := by decide +kernel
theorem dL_law_236 : decode cL_law 236 = .ok (.aload_n 1, 1) := by decide +kernel
theorem dL_law_237 : decode cL_law 237 = .ok (.aload_n 0, 1) := by decide +kernel
theorem dL_law_238 : decode cL_law 238 = .ok (.iload 4, 2) := by decide +kernel
theorem dL_law_240 : decode cL_law 240 = .ok (.iconst 1, 1) := by decide +kernel
theorem dL_law_241 : decode cL_law 241 = .ok (.iadd, 1) := by decide +kernel
theorem dL_law_242 : decode cL_law 242 = .ok (.iaload, 1) := by decide +kernel
theorem dL_law_243 : decode cL_law 243 = .ok (.aload_n 0, 1) := by decide +kernel
theorem dL_law_244 : decode cL_law 244 = .ok (.iload 4, 2) := by decide +kernel
theorem dL_law_246 : decode cL_law 246 = .ok (.iconst 2, 1) := by decide +kernel
theorem dL_law_247 : decode cL_law 247 = .ok (.iadd, 1) := by decide +kernel
theorem dL_law_248 : decode cL_law 248 = .ok (.iaload, 1) := by decide +kernel
theorem dL_law_249 : decode cL_law 249 = .ok (.aload_n 0, 1) := by decide +kernel
theorem dL_law_250 : decode cL_law 250 = .ok (.iload 4, 2) := by decide +kernel
theorem dL_law_252 : decode cL_law 252 = .ok (.iconst 3, 1) := by decide +kernel
theorem dL_law_253 : decode cL_law 253 = .ok (.iadd, 1) := by decide +kernel
theorem dL_law_254 : decode cL_law 254 = .ok (.iaload, 1) := by decide +kernel
theorem dL_law_255 : decode cL_law 255 = .ok (.ifCond .eq 7, 3) := by decide +kernel
theorem dL_law_258 : decode cL_law 258 = .ok (.iconst 1, 1) := by decide +kernel
theorem dL_law_259 : decode cL_law 259 = .ok (.goto 4, 3) := by decide +kernel
theorem dL_law_262 : decode cL_law 262 = .ok (.iconst 0, 1) := by decide +kernel
theorem dL_law_263 : decode cL_law 263 = .ok (.aload_n 3, 1) := by decide +kernel
theorem dL_law_264 : decode cL_law 264 = .ok (.invokestatic 82, 3) := by decide +kernel
theorem dL_law_267 : decode cL_law 267 = .ok (.istore 5, 2) := by decide +kernel
theorem dL_law_269 : decode cL_law 269 = .ok (.aload_n 2, 1) := by decide +kernel
theorem dL_law_270 : decode cL_law 270 = .ok (.aload_n 0, 1) := by decide +kernel
theorem dL_law_271 : decode cL_law 271 = .ok (.iload 4, 2) := by decide +kernel
theorem dL_law_273 : decode cL_law 273 = .ok (.iconst 1, 1) := by decide +kernel
theorem dL_law_274 : decode cL_law 274 = .ok (.iadd, 1) := by decide +kernel
theorem dL_law_275 : decode cL_law 275 = .ok (.iaload, 1) := by decide +kernel
theorem dL_law_276 : decode cL_law 276 = .ok (.aload_n 0, 1) := by decide +kernel
theorem dL_law_277 : decode cL_law 277 = .ok (.iload 4, 2) := by decide +kernel
theorem dL_law_279 : decode cL_law 279 = .ok (.iconst 2, 1) := by decide +kernel
theorem dL_law_280 : decode cL_law 280 = .ok (.iadd, 1) := by decide +kernel
theorem dL_law_281 : decode cL_law 281 = .ok (.iaload, 1) := by decide +kernel
theorem dL_law_282 : decode cL_law 282 = .ok (.aload_n 0, 1) := by decide +kernel
theorem dL_law_283 : decode cL_law 283 = .ok (.iload 4, 2) := by decide +kernel
theorem dL_law_285 : decode cL_law 285 = .ok (.iconst 3, 1) := by decide +kernel
theorem dL_law_286 : decode cL_law 286 = .ok (.iadd, 1) := by decide +kernel
theorem dL_law_287 : decode cL_law 287 = .ok (.iaload, 1) := by decide +kernel
theorem dL_law_288 : decode cL_law 288 = .ok (.ifCond .eq 7, 3) := by decide +kernel
theorem dL_law_291 : decode cL_law 291 = .ok (.iconst 1, 1) := by decide +kernel
theorem dL_law_292 : decode cL_law 292 = .ok (.goto 4, 3) := by decide +kernel
theorem dL_law_295 : decode cL_law 295 = .ok (.iconst 0, 1) := by decide +kernel
theorem dL_law_296 : decode cL_law 296 = .ok (.invokevirtual 85, 3) := by decide +kernel
theorem dL_law_299 : decode cL_law 299 = .ok (.istore 6, 2) := by decide +kernel
theorem dL_law_301 : decode cL_law 301 = .ok (.aload_n 2, 1) := by decide +kernel
theorem dL_law_302 : decode cL_law 302 = .ok (.invokevirtual 78, 3) := by decide +kernel
theorem dL_law_305 : decode cL_law 305 = .ok (.iload 5, 2) := by decide +kernel
theorem dL_law_307 : decode cL_law 307 = .ok (.if_icmp .eq 5, 3) := by decide +kernel
theorem dL_law_310 : decode cL_law 310 = .ok (.iconst 0, 1) := by decide +kernel
theorem dL_law_311 : decode cL_law 311 = .ok (.ireturn, 1) := by decide +kernel
theorem dL_law_312 : decode cL_law 312 = .ok (.iload 5, 2) := by decide +kernel
theorem dL_law_314 : decode cL_law 314 = .ok (.ifCond .ne 15, 3) := by decide +kernel
theorem dL_law_317 : decode cL_law 317 = .ok (.aload_n 3, 1) := by decide +kernel
theorem dL_law_318 : decode cL_law 318 = .ok (.iconst 0, 1) := by decide +kernel
theorem dL_law_319 : decode cL_law 319 = .ok (.laload, 1) := by decide +kernel
theorem dL_law_320 : decode cL_law 320 = .ok (.iload 6, 2) := by decide +kernel
theorem dL_law_322 : decode cL_law 322 = .ok (.i2l, 1) := by decide +kernel
theorem dL_law_323 : decode cL_law 323 = .ok (.lcmp, 1) := by decide +kernel
theorem dL_law_324 : decode cL_law 324 = .ok (.ifCond .eq 5, 3) := by decide +kernel
theorem dL_law_327 : decode cL_law 327 = .ok (.iconst 0, 1) := by decide +kernel
theorem dL_law_328 : decode cL_law 328 = .ok (.ireturn, 1) := by decide +kernel
theorem dL_law_329 : decode cL_law 329 = .ok (.goto 941, 3) := by decide +kernel
theorem dL_law_332 : decode cL_law 332 = .ok (.aload_n 1, 1) := by decide +kernel
theorem dL_law_333 : decode cL_law 333 = .ok (.aload_n 0, 1) := by decide +kernel
theorem dL_law_334 : decode cL_law 334 = .ok (.iload 4, 2) := by decide +kernel
theorem dL_law_336 : decode cL_law 336 = .ok (.iconst 1, 1) := by decide +kernel
theorem dL_law_337 : decode cL_law 337 = .ok (.iadd, 1) := by decide +kernel
theorem dL_law_338 : decode cL_law 338 = .ok (.iaload, 1) := by decide +kernel
theorem dL_law_339 : decode cL_law 339 = .ok (.aload_n 0, 1) := by decide +kernel
theorem dL_law_340 : decode cL_law 340 = .ok (.iload 4, 2) := by decide +kernel
theorem dL_law_342 : decode cL_law 342 = .ok (.iconst 2, 1) := by decide +kernel
theorem dL_law_343 : decode cL_law 343 = .ok (.iadd, 1) := by decide +kernel
theorem dL_law_344 : decode cL_law 344 = .ok (.iaload, 1) := by decide +kernel
theorem dL_law_345 : decode cL_law 345 = .ok (.aload_n 3, 1) := by decide +kernel
theorem dL_law_346 : decode cL_law 346 = .ok (.invokestatic 86, 3) := by decide +kernel
theorem dL_law_349 : decode cL_law 349 = .ok (.istore 5, 2) := by decide +kernel
theorem dL_law_351 : decode cL_law 351 = .ok (.aload_n 2, 1) := by decide +kernel
theorem dL_law_352 : decode cL_law 352 = .ok (.aload_n 0, 1) := by decide +kernel
theorem dL_law_353 : decode cL_law 353 = .ok (.iload 4, 2) := by decide +kernel
theorem dL_law_355 : decode cL_law 355 = .ok (.iconst 1, 1) := by decide +kernel
theorem dL_law_356 : decode cL_law 356 = .ok (.iadd, 1) := by decide +kernel
theorem dL_law_357 : decode cL_law 357 = .ok (.iaload, 1) := by decide +kernel
theorem dL_law_358 : decode cL_law 358 = .ok (.aload_n 0, 1) := by decide +kernel
theorem dL_law_359 : decode cL_law 359 = .ok (.iload 4, 2) := by decide +kernel
theorem dL_law_361 : decode cL_law 361 = .ok (.iconst 2, 1) := by decide +kernel
theorem dL_law_362 : decode cL_law 362 = .ok (.iadd, 1) := by decide +kernel
theorem dL_law_363 : decode cL_law 363 = .ok (.iaload, 1) := by decide +kernel
theorem dL_law_364 : decode cL_law 364 = .ok (.invokevirtual 89, 3) := by decide +kernel
theorem dL_law_367 : decode cL_law 367 = .ok (.istore 6, 2) := by decide +kernel
theorem dL_law_369 : decode cL_law 369 = .ok (.aload_n 2, 1) := by decide +kernel
theorem dL_law_370 : decode cL_law 370 = .ok (.invokevirtual 78, 3) := by decide +kernel
theorem dL_law_373 : decode cL_law 373 = .ok (.iload 5, 2) := by decide +kernel
theorem dL_law_375 : decode cL_law 375 = .ok (.if_icmp .eq 5, 3) := by decide +kernel
theorem dL_law_378 : decode cL_law 378 = .ok (.iconst 0, 1) := by decide +kernel
theorem dL_law_379 : decode cL_law 379 = .ok (.ireturn, 1) := by decide +kernel
theorem dL_law_380 : decode cL_law 380 = .ok (.iload 5, 2) := by decide +kernel
theorem dL_law_382 : decode cL_law 382 = .ok (.ifCond .ne 15, 3) := by decide +kernel
theorem dL_law_385 : decode cL_law 385 = .ok (.aload_n 3, 1) := by decide +kernel
theorem dL_law_386 : decode cL_law 386 = .ok (.iconst 0, 1) := by decide +kernel
theorem dL_law_387 : decode cL_law 387 = .ok (.laload, 1) := by decide +kernel
theorem dL_law_388 : decode cL_law 388 = .ok (.iload 6, 2) := by decide +kernel
theorem dL_law_390 : decode cL_law 390 = .ok (.i2l, 1) := by decide +kernel
theorem dL_law_391 : decode cL_law 391 = .ok (.lcmp, 1) := by decide +kernel
theorem dL_law_392 : decode cL_law 392 = .ok (.ifCond .eq 5, 3) := by decide +kernel
theorem dL_law_395 : decode cL_law 395 = .ok (.iconst 0, 1) := by decide +kernel
theorem dL_law_396 : decode cL_law 396 = .ok (.ireturn, 1) := by decide +kernel
theorem dL_law_397 : decode cL_law 397 = .ok (.goto 873, 3) := by decide +kernel
theorem dL_law_400 : decode cL_law 400 = .ok (.aload_n 1, 1) := by decide +kernel
theorem dL_law_401 : decode cL_law 401 = .ok (.aload_n 0, 1) := by decide +kernel
theorem dL_law_402 : decode cL_law 402 = .ok (.iload 4, 2) := by decide +kernel
theorem dL_law_404 : decode cL_law 404 = .ok (.iconst 1, 1) := by decide +kernel
theorem dL_law_405 : decode cL_law 405 = .ok (.iadd, 1) := by decide +kernel
theorem dL_law_406 : decode cL_law 406 = .ok (.iaload, 1) := by decide +kernel
theorem dL_law_407 : decode cL_law 407 = .ok (.aload_n 3, 1) := by decide +kernel
theorem dL_law_408 : decode cL_law 408 = .ok (.invokestatic 90, 3) := by decide +kernel
theorem dL_law_411 : decode cL_law 411 = .ok (.istore 5, 2) := by decide +kernel
theorem dL_law_413 : decode cL_law 413 = .ok (.aload_n 2, 1) := by decide +kernel
theorem dL_law_414 : decode cL_law 414 = .ok (.aload_n 0, 1) := by decide +kernel
theorem dL_law_415 : decode cL_law 415 = .ok (.iload 4, 2) := by decide +kernel
theorem dL_law_417 : decode cL_law 417 = .ok (.iconst 1, 1) := by decide +kernel
theorem dL_law_418 : decode cL_law 418 = .ok (.iadd, 1) := by decide +kernel
theorem dL_law_419 : decode cL_law 419 = .ok (.iaload, 1) := by decide +kernel
theorem dL_law_420 : decode cL_law 420 = .ok (.invokevirtual 93, 3) := by decide +kernel
theorem dL_law_423 : decode cL_law 423 = .ok (.istore 6, 2) := by decide +kernel
theorem dL_law_425 : decode cL_law 425 = .ok (.aload_n 2, 1) := by decide +kernel
theorem dL_law_426 : decode cL_law 426 = .ok (.invokevirtual 78, 3) := by decide +kernel
theorem dL_law_429 : decode cL_law 429 = .ok (.iload 5, 2) := by decide +kernel
theorem dL_law_431 : decode cL_law 431 = .ok (.if_icmp .eq 5, 3) := by decide +kernel
theorem dL_law_434 : decode cL_law 434 = .ok (.iconst 0, 1) := by decide +kernel
theorem dL_law_435 : decode cL_law 435 = .ok (.ireturn, 1) := by decide +kernel
theorem dL_law_436 : decode cL_law 436 = .ok (.iload 5, 2) := by decide +kernel
theorem dL_law_438 : decode cL_law 438 = .ok (.ifCond .ne 15, 3) := by decide +kernel
theorem dL_law_441 : decode cL_law 441 = .ok (.aload_n 3, 1) := by decide +kernel
theorem dL_law_442 : decode cL_law 442 = .ok (.iconst 0, 1) := by decide +kernel
theorem dL_law_443 : decode cL_law 443 = .ok (.laload, 1) := by decide +kernel
theorem dL_law_444 : decode cL_law 444 = .ok (.iload 6, 2) := by decide +kernel
theorem dL_law_446 : decode cL_law 446 = .ok (.i2l, 1) := by decide +kernel
theorem dL_law_447 : decode cL_law 447 = .ok (.lcmp, 1) := by decide +kernel
theorem dL_law_448 : decode cL_law 448 = .ok (.ifCond .eq 5, 3) := by decide +kernel
theorem dL_law_451 : decode cL_law 451 = .ok (.iconst 0, 1) := by decide +kernel
theorem dL_law_452 : decode cL_law 452 = .ok (.ireturn, 1) := by decide +kernel
theorem dL_law_453 : decode cL_law 453 = .ok (.goto 817, 3) := by decide +kernel
theorem dL_law_456 : decode cL_law 456 = .ok (.aload_n 1, 1) := by decide +kernel
theorem dL_law_457 : decode cL_law 457 = .ok (.aload_n 0, 1) := by decide +kernel
theorem dL_law_458 : decode cL_law 458 = .ok (.iload 4, 2) := by decide +kernel
theorem dL_law_460 : decode cL_law 460 = .ok (.iconst 1, 1) := by decide +kernel
theorem dL_law_461 : decode cL_law 461 = .ok (.iadd, 1) := by decide +kernel
theorem dL_law_462 : decode cL_law 462 = .ok (.iaload, 1) := by decide +kernel
theorem dL_law_463 : decode cL_law 463 = .ok (.aload_n 0, 1) := by decide +kernel
theorem dL_law_464 : decode cL_law 464 = .ok (.iload 4, 2) := by decide +kernel
theorem dL_law_466 : decode cL_law 466 = .ok (.iconst 2, 1) := by decide +kernel
theorem dL_law_467 : decode cL_law 467 = .ok (.iadd, 1) := by decide +kernel
theorem dL_law_468 : decode cL_law 468 = .ok (.iaload, 1) := by decide +kernel
theorem dL_law_469 : decode cL_law 469 = .ok (.aload_n 3, 1) := by decide +kernel
theorem dL_law_470 : decode cL_law 470 = .ok (.invokestatic 94, 3) := by decide +kernel
theorem dL_law_473 : decode cL_law 473 = .ok (.istore 5, 2) := by decide +kernel
theorem dL_law_475 : decode cL_law 475 = .ok (.aload_n 2, 1) := by decide +kernel
theorem dL_law_476 : decode cL_law 476 = .ok (.aload_n 0, 1) := by decide +kernel
theorem dL_law_477 : decode cL_law 477 = .ok (.iload 4, 2) := by decide +kernel
theorem dL_law_479 : decode cL_law 479 = .ok (.iconst 1, 1) := by decide +kernel
theorem dL_law_480 : decode cL_law 480 = .ok (.iadd, 1) := by decide +kernel
theorem dL_law_481 : decode cL_law 481 = .ok (.iaload, 1) := by decide +kernel
theorem dL_law_482 : decode cL_law 482 = .ok (.aload_n 0, 1) := by decide +kernel
theorem dL_law_483 : decode cL_law 483 = .ok (.iload 4, 2) := by decide +kernel
theorem dL_law_485 : decode cL_law 485 = .ok (.iconst 2, 1) := by decide +kernel
theorem dL_law_486 : decode cL_law 486 = .ok (.iadd, 1) := by decide +kernel
theorem dL_law_487 : decode cL_law 487 = .ok (.iaload, 1) := by decide +kernel
theorem dL_law_488 : decode cL_law 488 = .ok (.invokevirtual 96, 3) := by decide +kernel
theorem dL_law_491 : decode cL_law 491 = .ok (.istore 6, 2) := by decide +kernel
theorem dL_law_493 : decode cL_law 493 = .ok (.aload_n 2, 1) := by decide +kernel
theorem dL_law_494 : decode cL_law 494 = .ok (.invokevirtual 78, 3) := by decide +kernel
theorem dL_law_497 : decode cL_law 497 = .ok (.iload 5, 2) := by decide +kernel
theorem dL_law_499 : decode cL_law 499 = .ok (.if_icmp .eq 5, 3) := by decide +kernel
theorem dL_law_502 : decode cL_law 502 = .ok (.iconst 0, 1) := by decide +kernel
theorem dL_law_503 : decode cL_law 503 = .ok (.ireturn, 1) := by decide +kernel
theorem dL_law_504 : decode cL_law 504 = .ok (.iload 5, 2) := by decide +kernel
theorem dL_law_506 : decode cL_law 506 = .ok (.ifCond .ne 15, 3) := by decide +kernel
theorem dL_law_509 : decode cL_law 509 = .ok (.aload_n 3, 1) := by decide +kernel
theorem dL_law_510 : decode cL_law 510 = .ok (.iconst 0, 1) := by decide +kernel
theorem dL_law_511 : decode cL_law 511 = .ok (.laload, 1) := by decide +kernel
theorem dL_law_512 : decode cL_law 512 = .ok (.iload 6, 2) := by decide +kernel
theorem dL_law_514 : decode cL_law 514 = .ok (.i2l, 1) := by decide +kernel
theorem dL_law_515 : decode cL_law 515 = .ok (.lcmp, 1) := by decide +kernel
theorem dL_law_516 : decode cL_law 516 = .ok (.ifCond .eq 5, 3) := by decide +kernel
theorem dL_law_519 : decode cL_law 519 = .ok (.iconst 0, 1) := by decide +kernel
theorem dL_law_520 : decode cL_law 520 = .ok (.ireturn, 1) := by decide +kernel
theorem dL_law_521 : decode cL_law 521 = .ok (.goto 749, 3) := by decide +kernel
theorem dL_law_524 : decode cL_law 524 = .ok (.aload_n 1, 1) := by decide +kernel
theorem dL_law_525 : decode cL_law 525 = .ok (.aload_n 0, 1) := by decide +kernel
theorem dL_law_526 : decode cL_law 526 = .ok (.iload 4, 2) := by decide +kernel
theorem dL_law_528 : decode cL_law 528 = .ok (.iconst 1, 1) := by decide +kernel
theorem dL_law_529 : decode cL_law 529 = .ok (.iadd, 1) := by decide +kernel
theorem dL_law_530 : decode cL_law 530 = .ok (.iaload, 1) := by decide +kernel
theorem dL_law_531 : decode cL_law 531 = .ok (.aload_n 3, 1) := by decide +kernel
theorem dL_law_532 : decode cL_law 532 = .ok (.invokestatic 97, 3) := by decide +kernel
theorem dL_law_535 : decode cL_law 535 = .ok (.istore 5, 2) := by decide +kernel
theorem dL_law_537 : decode cL_law 537 = .ok (.aload_n 2, 1) := by decide +kernel
theorem dL_law_538 : decode cL_law 538 = .ok (.aload_n 0, 1) := by decide +kernel
theorem dL_law_539 : decode cL_law 539 = .ok (.iload 4, 2) := by decide +kernel
theorem dL_law_541 : decode cL_law 541 = .ok (.iconst 1, 1) := by decide +kernel
theorem dL_law_542 : decode cL_law 542 = .ok (.iadd, 1) := by decide +kernel
theorem dL_law_543 : decode cL_law 543 = .ok (.iaload, 1) := by decide +kernel
theorem dL_law_544 : decode cL_law 544 = .ok (.invokevirtual 99, 3) := by decide +kernel
theorem dL_law_547 : decode cL_law 547 = .ok (.istore 6, 2) := by decide +kernel
theorem dL_law_549 : decode cL_law 549 = .ok (.aload_n 2, 1) := by decide +kernel
theorem dL_law_550 : decode cL_law 550 = .ok (.invokevirtual 78, 3) := by decide +kernel
theorem dL_law_553 : decode cL_law 553 = .ok (.iload 5, 2) := by decide +kernel
theorem dL_law_555 : decode cL_law 555 = .ok (.if_icmp .eq 5, 3) := by decide +kernel
theorem dL_law_558 : decode cL_law 558 = .ok (.iconst 0, 1) := by decide +kernel
theorem dL_law_559 : decode cL_law 559 = .ok (.ireturn, 1) := by decide +kernel
theorem dL_law_560 : decode cL_law 560 = .ok (.iload 5, 2) := by decide +kernel
theorem dL_law_562 : decode cL_law 562 = .ok (.ifCond .ne 22, 3) := by decide +kernel
theorem dL_law_565 : decode cL_law 565 = .ok (.aload_n 3, 1) := by decide +kernel
theorem dL_law_566 : decode cL_law 566 = .ok (.iconst 0, 1) := by decide +kernel
theorem dL_law_567 : decode cL_law 567 = .ok (.laload, 1) := by decide +kernel
theorem dL_law_568 : decode cL_law 568 = .ok (.iload 6, 2) := by decide +kernel
theorem dL_law_570 : decode cL_law 570 = .ok (.ifCond .eq 7, 3) := by decide +kernel
theorem dL_law_573 : decode cL_law 573 = .ok (.lconst 1, 1) := by decide +kernel
theorem dL_law_574 : decode cL_law 574 = .ok (.goto 4, 3) := by decide +kernel
theorem dL_law_577 : decode cL_law 577 = .ok (.lconst 0, 1) := by decide +kernel
theorem dL_law_578 : decode cL_law 578 = .ok (.lcmp, 1) := by decide +kernel
theorem dL_law_579 : decode cL_law 579 = .ok (.ifCond .eq 5, 3) := by decide +kernel
theorem dL_law_582 : decode cL_law 582 = .ok (.iconst 0, 1) := by decide +kernel
theorem dL_law_583 : decode cL_law 583 = .ok (.ireturn, 1) := by decide +kernel
theorem dL_law_584 : decode cL_law 584 = .ok (.goto 686, 3) := by decide +kernel
theorem dL_law_587 : decode cL_law 587 = .ok (.aload_n 1, 1) := by decide +kernel
theorem dL_law_588 : decode cL_law 588 = .ok (.aload_n 0, 1) := by decide +kernel
theorem dL_law_589 : decode cL_law 589 = .ok (.iload 4, 2) := by decide +kernel
theorem dL_law_591 : decode cL_law 591 = .ok (.iconst 1, 1) := by decide +kernel
theorem dL_law_592 : decode cL_law 592 = .ok (.iadd, 1) := by decide +kernel
theorem dL_law_593 : decode cL_law 593 = .ok (.iaload, 1) := by decide +kernel
theorem dL_law_594 : decode cL_law 594 = .ok (.aload_n 3, 1) := by decide +kernel
theorem dL_law_595 : decode cL_law 595 = .ok (.invokestatic 100, 3) := by decide +kernel
theorem dL_law_598 : decode cL_law 598 = .ok (.istore 5, 2) := by decide +kernel
theorem dL_law_600 : decode cL_law 600 = .ok (.aload_n 2, 1) := by decide +kernel
theorem dL_law_601 : decode cL_law 601 = .ok (.aload_n 0, 1) := by decide +kernel
theorem dL_law_602 : decode cL_law 602 = .ok (.iload 4, 2) := by decide +kernel
theorem dL_law_604 : decode cL_law 604 = .ok (.iconst 1, 1) := by decide +kernel
theorem dL_law_605 : decode cL_law 605 = .ok (.iadd, 1) := by decide +kernel
theorem dL_law_606 : decode cL_law 606 = .ok (.iaload, 1) := by decide +kernel
theorem dL_law_607 : decode cL_law 607 = .ok (.invokevirtual 102, 3) := by decide +kernel
theorem dL_law_610 : decode cL_law 610 = .ok (.istore 6, 2) := by decide +kernel
theorem dL_law_612 : decode cL_law 612 = .ok (.aload_n 2, 1) := by decide +kernel
theorem dL_law_613 : decode cL_law 613 = .ok (.invokevirtual 78, 3) := by decide +kernel
theorem dL_law_616 : decode cL_law 616 = .ok (.iload 5, 2) := by decide +kernel
theorem dL_law_618 : decode cL_law 618 = .ok (.if_icmp .eq 5, 3) := by decide +kernel
theorem dL_law_621 : decode cL_law 621 = .ok (.iconst 0, 1) := by decide +kernel
theorem dL_law_622 : decode cL_law 622 = .ok (.ireturn, 1) := by decide +kernel
theorem dL_law_623 : decode cL_law 623 = .ok (.iload 5, 2) := by decide +kernel
theorem dL_law_625 : decode cL_law 625 = .ok (.ifCond .ne 15, 3) := by decide +kernel
theorem dL_law_628 : decode cL_law 628 = .ok (.aload_n 3, 1) := by decide +kernel
theorem dL_law_629 : decode cL_law 629 = .ok (.iconst 0, 1) := by decide +kernel
theorem dL_law_630 : decode cL_law 630 = .ok (.laload, 1) := by decide +kernel
theorem dL_law_631 : decode cL_law 631 = .ok (.iload 6, 2) := by decide +kernel
theorem dL_law_633 : decode cL_law 633 = .ok (.i2l, 1) := by decide +kernel
theorem dL_law_634 : decode cL_law 634 = .ok (.lcmp, 1) := by decide +kernel
theorem dL_law_635 : decode cL_law 635 = .ok (.ifCond .eq 5, 3) := by decide +kernel
theorem dL_law_638 : decode cL_law 638 = .ok (.iconst 0, 1) := by decide +kernel
theorem dL_law_639 : decode cL_law 639 = .ok (.ireturn, 1) := by decide +kernel
theorem dL_law_640 : decode cL_law 640 = .ok (.goto 630, 3) := by decide +kernel
theorem dL_law_643 : decode cL_law 643 = .ok (.aload_n 1, 1) := by decide +kernel
theorem dL_law_644 : decode cL_law 644 = .ok (.aload_n 0, 1) := by decide +kernel
theorem dL_law_645 : decode cL_law 645 = .ok (.iload 4, 2) := by decide +kernel
theorem dL_law_647 : decode cL_law 647 = .ok (.iconst 1, 1) := by decide +kernel
theorem dL_law_648 : decode cL_law 648 = .ok (.iadd, 1) := by decide +kernel
theorem dL_law_649 : decode cL_law 649 = .ok (.iaload, 1) := by decide +kernel
theorem dL_law_650 : decode cL_law 650 = .ok (.aload_n 3, 1) := by decide +kernel
theorem dL_law_651 : decode cL_law 651 = .ok (.invokestatic 103, 3) := by decide +kernel
theorem dL_law_654 : decode cL_law 654 = .ok (.istore 5, 2) := by decide +kernel
theorem dL_law_656 : decode cL_law 656 = .ok (.aload_n 2, 1) := by decide +kernel
theorem dL_law_657 : decode cL_law 657 = .ok (.aload_n 0, 1) := by decide +kernel
theorem dL_law_658 : decode cL_law 658 = .ok (.iload 4, 2) := by decide +kernel
theorem dL_law_660 : decode cL_law 660 = .ok (.iconst 1, 1) := by decide +kernel
theorem dL_law_661 : decode cL_law 661 = .ok (.iadd, 1) := by decide +kernel
theorem dL_law_662 : decode cL_law 662 = .ok (.iaload, 1) := by decide +kernel
theorem dL_law_663 : decode cL_law 663 = .ok (.invokevirtual 105, 3) := by decide +kernel
theorem dL_law_666 : decode cL_law 666 = .ok (.istore 6, 2) := by decide +kernel
theorem dL_law_668 : decode cL_law 668 = .ok (.aload_n 2, 1) := by decide +kernel
theorem dL_law_669 : decode cL_law 669 = .ok (.invokevirtual 78, 3) := by decide +kernel
theorem dL_law_672 : decode cL_law 672 = .ok (.iload 5, 2) := by decide +kernel
theorem dL_law_674 : decode cL_law 674 = .ok (.if_icmp .eq 5, 3) := by decide +kernel
theorem dL_law_677 : decode cL_law 677 = .ok (.iconst 0, 1) := by decide +kernel
theorem dL_law_678 : decode cL_law 678 = .ok (.ireturn, 1) := by decide +kernel
theorem dL_law_679 : decode cL_law 679 = .ok (.iload 5, 2) := by decide +kernel
theorem dL_law_681 : decode cL_law 681 = .ok (.ifCond .ne 15, 3) := by decide +kernel
theorem dL_law_684 : decode cL_law 684 = .ok (.aload_n 3, 1) := by decide +kernel
theorem dL_law_685 : decode cL_law 685 = .ok (.iconst 0, 1) := by decide +kernel
theorem dL_law_686 : decode cL_law 686 = .ok (.laload, 1) := by decide +kernel
theorem dL_law_687 : decode cL_law 687 = .ok (.iload 6, 2) := by decide +kernel
theorem dL_law_689 : decode cL_law 689 = .ok (.i2l, 1) := by decide +kernel
theorem dL_law_690 : decode cL_law 690 = .ok (.lcmp, 1) := by decide +kernel
theorem dL_law_691 : decode cL_law 691 = .ok (.ifCond .eq 5, 3) := by decide +kernel
theorem dL_law_694 : decode cL_law 694 = .ok (.iconst 0, 1) := by decide +kernel
theorem dL_law_695 : decode cL_law 695 = .ok (.ireturn, 1) := by decide +kernel
theorem dL_law_696 : decode cL_law 696 = .ok (.goto 574, 3) := by decide +kernel
theorem dL_law_699 : decode cL_law 699 = .ok (.aload_n 1, 1) := by decide +kernel
theorem dL_law_700 : decode cL_law 700 = .ok (.aload_n 0, 1) := by decide +kernel
theorem dL_law_701 : decode cL_law 701 = .ok (.iload 4, 2) := by decide +kernel
theorem dL_law_703 : decode cL_law 703 = .ok (.iconst 1, 1) := by decide +kernel
theorem dL_law_704 : decode cL_law 704 = .ok (.iadd, 1) := by decide +kernel
theorem dL_law_705 : decode cL_law 705 = .ok (.iaload, 1) := by decide +kernel
theorem dL_law_706 : decode cL_law 706 = .ok (.aload_n 0, 1) := by decide +kernel
theorem dL_law_707 : decode cL_law 707 = .ok (.iload 4, 2) := by decide +kernel
theorem dL_law_709 : decode cL_law 709 = .ok (.iconst 2, 1) := by decide +kernel
theorem dL_law_710 : decode cL_law 710 = .ok (.iadd, 1) := by decide +kernel
theorem dL_law_711 : decode cL_law 711 = .ok (.iaload, 1) := by decide +kernel
theorem dL_law_712 : decode cL_law 712 = .ok (.aload_n 3, 1) := by decide +kernel
theorem dL_law_713 : decode cL_law 713 = .ok (.invokestatic 106, 3) := by decide +kernel
theorem dL_law_716 : decode cL_law 716 = .ok (.istore 5, 2) := by decide +kernel
theorem dL_law_718 : decode cL_law 718 = .ok (.aload_n 2, 1) := by decide +kernel
theorem dL_law_719 : decode cL_law 719 = .ok (.aload_n 0, 1) := by decide +kernel
theorem dL_law_720 : decode cL_law 720 = .ok (.iload 4, 2) := by decide +kernel
theorem dL_law_722 : decode cL_law 722 = .ok (.iconst 1, 1) := by decide +kernel
theorem dL_law_723 : decode cL_law 723 = .ok (.iadd, 1) := by decide +kernel
theorem dL_law_724 : decode cL_law 724 = .ok (.iaload, 1) := by decide +kernel
theorem dL_law_725 : decode cL_law 725 = .ok (.aload_n 0, 1) := by decide +kernel
theorem dL_law_726 : decode cL_law 726 = .ok (.iload 4, 2) := by decide +kernel
theorem dL_law_728 : decode cL_law 728 = .ok (.iconst 2, 1) := by decide +kernel
theorem dL_law_729 : decode cL_law 729 = .ok (.iadd, 1) := by decide +kernel
theorem dL_law_730 : decode cL_law 730 = .ok (.iaload, 1) := by decide +kernel
theorem dL_law_731 : decode cL_law 731 = .ok (.invokevirtual 108, 3) := by decide +kernel
theorem dL_law_734 : decode cL_law 734 = .ok (.istore 6, 2) := by decide +kernel
theorem dL_law_736 : decode cL_law 736 = .ok (.aload_n 2, 1) := by decide +kernel
theorem dL_law_737 : decode cL_law 737 = .ok (.invokevirtual 78, 3) := by decide +kernel
theorem dL_law_740 : decode cL_law 740 = .ok (.iload 5, 2) := by decide +kernel
theorem dL_law_742 : decode cL_law 742 = .ok (.if_icmp .eq 5, 3) := by decide +kernel
theorem dL_law_745 : decode cL_law 745 = .ok (.iconst 0, 1) := by decide +kernel
theorem dL_law_746 : decode cL_law 746 = .ok (.ireturn, 1) := by decide +kernel
theorem dL_law_747 : decode cL_law 747 = .ok (.iload 5, 2) := by decide +kernel
theorem dL_law_749 : decode cL_law 749 = .ok (.ifCond .ne 15, 3) := by decide +kernel
theorem dL_law_752 : decode cL_law 752 = .ok (.aload_n 3, 1) := by decide +kernel
theorem dL_law_753 : decode cL_law 753 = .ok (.iconst 0, 1) := by decide +kernel
theorem dL_law_754 : decode cL_law 754 = .ok (.laload, 1) := by decide +kernel
theorem dL_law_755 : decode cL_law 755 = .ok (.iload 6, 2) := by decide +kernel
theorem dL_law_757 : decode cL_law 757 = .ok (.i2l, 1) := by decide +kernel
theorem dL_law_758 : decode cL_law 758 = .ok (.lcmp, 1) := by decide +kernel
theorem dL_law_759 : decode cL_law 759 = .ok (.ifCond .eq 5, 3) := by decide +kernel
theorem dL_law_762 : decode cL_law 762 = .ok (.iconst 0, 1) := by decide +kernel
theorem dL_law_763 : decode cL_law 763 = .ok (.ireturn, 1) := by decide +kernel
theorem dL_law_764 : decode cL_law 764 = .ok (.goto 506, 3) := by decide +kernel
theorem dL_law_767 : decode cL_law 767 = .ok (.aload_n 1, 1) := by decide +kernel
theorem dL_law_768 : decode cL_law 768 = .ok (.aload_n 0, 1) := by decide +kernel
theorem dL_law_769 : decode cL_law 769 = .ok (.iload 4, 2) := by decide +kernel
theorem dL_law_771 : decode cL_law 771 = .ok (.iconst 1, 1) := by decide +kernel
theorem dL_law_772 : decode cL_law 772 = .ok (.iadd, 1) := by decide +kernel
theorem dL_law_773 : decode cL_law 773 = .ok (.iaload, 1) := by decide +kernel
theorem dL_law_774 : decode cL_law 774 = .ok (.aload_n 0, 1) := by decide +kernel
theorem dL_law_775 : decode cL_law 775 = .ok (.iload 4, 2) := by decide +kernel
theorem dL_law_777 : decode cL_law 777 = .ok (.iconst 2, 1) := by decide +kernel
theorem dL_law_778 : decode cL_law 778 = .ok (.iadd, 1) := by decide +kernel
theorem dL_law_779 : decode cL_law 779 = .ok (.iaload, 1) := by decide +kernel
theorem dL_law_780 : decode cL_law 780 = .ok (.aload_n 3, 1) := by decide +kernel
theorem dL_law_781 : decode cL_law 781 = .ok (.invokestatic 109, 3) := by decide +kernel
theorem dL_law_784 : decode cL_law 784 = .ok (.istore 5, 2) := by decide +kernel
theorem dL_law_786 : decode cL_law 786 = .ok (.aload_n 2, 1) := by decide +kernel
theorem dL_law_787 : decode cL_law 787 = .ok (.aload_n 0, 1) := by decide +kernel
theorem dL_law_788 : decode cL_law 788 = .ok (.iload 4, 2) := by decide +kernel
theorem dL_law_790 : decode cL_law 790 = .ok (.iconst 1, 1) := by decide +kernel
theorem dL_law_791 : decode cL_law 791 = .ok (.iadd, 1) := by decide +kernel
theorem dL_law_792 : decode cL_law 792 = .ok (.iaload, 1) := by decide +kernel
theorem dL_law_793 : decode cL_law 793 = .ok (.aload_n 0, 1) := by decide +kernel
theorem dL_law_794 : decode cL_law 794 = .ok (.iload 4, 2) := by decide +kernel
theorem dL_law_796 : decode cL_law 796 = .ok (.iconst 2, 1) := by decide +kernel
theorem dL_law_797 : decode cL_law 797 = .ok (.iadd, 1) := by decide +kernel
theorem dL_law_798 : decode cL_law 798 = .ok (.iaload, 1) := by decide +kernel
theorem dL_law_799 : decode cL_law 799 = .ok (.invokevirtual 111, 3) := by decide +kernel
theorem dL_law_802 : decode cL_law 802 = .ok (.istore 6, 2) := by decide +kernel
theorem dL_law_804 : decode cL_law 804 = .ok (.aload_n 2, 1) := by decide +kernel
theorem dL_law_805 : decode cL_law 805 = .ok (.invokevirtual 78, 3) := by decide +kernel
theorem dL_law_808 : decode cL_law 808 = .ok (.iload 5, 2) := by decide +kernel
theorem dL_law_810 : decode cL_law 810 = .ok (.if_icmp .eq 5, 3) := by decide +kernel
theorem dL_law_813 : decode cL_law 813 = .ok (.iconst 0, 1) := by decide +kernel
theorem dL_law_814 : decode cL_law 814 = .ok (.ireturn, 1) := by decide +kernel
theorem dL_law_815 : decode cL_law 815 = .ok (.iload 5, 2) := by decide +kernel
theorem dL_law_817 : decode cL_law 817 = .ok (.ifCond .ne 15, 3) := by decide +kernel
theorem dL_law_820 : decode cL_law 820 = .ok (.aload_n 3, 1) := by decide +kernel
theorem dL_law_821 : decode cL_law 821 = .ok (.iconst 0, 1) := by decide +kernel
theorem dL_law_822 : decode cL_law 822 = .ok (.laload, 1) := by decide +kernel
theorem dL_law_823 : decode cL_law 823 = .ok (.iload 6, 2) := by decide +kernel
theorem dL_law_825 : decode cL_law 825 = .ok (.i2l, 1) := by decide +kernel
theorem dL_law_826 : decode cL_law 826 = .ok (.lcmp, 1) := by decide +kernel
theorem dL_law_827 : decode cL_law 827 = .ok (.ifCond .eq 5, 3) := by decide +kernel
theorem dL_law_830 : decode cL_law 830 = .ok (.iconst 0, 1) := by decide +kernel
theorem dL_law_831 : decode cL_law 831 = .ok (.ireturn, 1) := by decide +kernel
theorem dL_law_832 : decode cL_law 832 = .ok (.goto 438, 3) := by decide +kernel
theorem dL_law_835 : decode cL_law 835 = .ok (.aload_n 1, 1) := by decide +kernel
theorem dL_law_836 : decode cL_law 836 = .ok (.aload_n 0, 1) := by decide +kernel
theorem dL_law_837 : decode cL_law 837 = .ok (.iload 4, 2) := by decide +kernel
theorem dL_law_839 : decode cL_law 839 = .ok (.iconst 1, 1) := by decide +kernel
theorem dL_law_840 : decode cL_law 840 = .ok (.iadd, 1) := by decide +kernel
theorem dL_law_841 : decode cL_law 841 = .ok (.iaload, 1) := by decide +kernel
theorem dL_law_842 : decode cL_law 842 = .ok (.aload_n 0, 1) := by decide +kernel
theorem dL_law_843 : decode cL_law 843 = .ok (.iload 4, 2) := by decide +kernel
theorem dL_law_845 : decode cL_law 845 = .ok (.iconst 2, 1) := by decide +kernel
theorem dL_law_846 : decode cL_law 846 = .ok (.iadd, 1) := by decide +kernel
theorem dL_law_847 : decode cL_law 847 = .ok (.iaload, 1) := by decide +kernel
theorem dL_law_848 : decode cL_law 848 = .ok (.aload_n 3, 1) := by decide +kernel
theorem dL_law_849 : decode cL_law 849 = .ok (.invokestatic 112, 3) := by decide +kernel
theorem dL_law_852 : decode cL_law 852 = .ok (.istore 5, 2) := by decide +kernel
theorem dL_law_854 : decode cL_law 854 = .ok (.aload_n 2, 1) := by decide +kernel
theorem dL_law_855 : decode cL_law 855 = .ok (.aload_n 0, 1) := by decide +kernel
theorem dL_law_856 : decode cL_law 856 = .ok (.iload 4, 2) := by decide +kernel
theorem dL_law_858 : decode cL_law 858 = .ok (.iconst 1, 1) := by decide +kernel
theorem dL_law_859 : decode cL_law 859 = .ok (.iadd, 1) := by decide +kernel
theorem dL_law_860 : decode cL_law 860 = .ok (.iaload, 1) := by decide +kernel
theorem dL_law_861 : decode cL_law 861 = .ok (.aload_n 0, 1) := by decide +kernel
theorem dL_law_862 : decode cL_law 862 = .ok (.iload 4, 2) := by decide +kernel
theorem dL_law_864 : decode cL_law 864 = .ok (.iconst 2, 1) := by decide +kernel
theorem dL_law_865 : decode cL_law 865 = .ok (.iadd, 1) := by decide +kernel
theorem dL_law_866 : decode cL_law 866 = .ok (.iaload, 1) := by decide +kernel
theorem dL_law_867 : decode cL_law 867 = .ok (.invokevirtual 114, 3) := by decide +kernel
theorem dL_law_870 : decode cL_law 870 = .ok (.istore 6, 2) := by decide +kernel
theorem dL_law_872 : decode cL_law 872 = .ok (.aload_n 2, 1) := by decide +kernel
theorem dL_law_873 : decode cL_law 873 = .ok (.invokevirtual 78, 3) := by decide +kernel
theorem dL_law_876 : decode cL_law 876 = .ok (.iload 5, 2) := by decide +kernel
theorem dL_law_878 : decode cL_law 878 = .ok (.if_icmp .eq 5, 3) := by decide +kernel
theorem dL_law_881 : decode cL_law 881 = .ok (.iconst 0, 1) := by decide +kernel
theorem dL_law_882 : decode cL_law 882 = .ok (.ireturn, 1) := by decide +kernel
theorem dL_law_883 : decode cL_law 883 = .ok (.iload 5, 2) := by decide +kernel
theorem dL_law_885 : decode cL_law 885 = .ok (.ifCond .ne 15, 3) := by decide +kernel
theorem dL_law_888 : decode cL_law 888 = .ok (.aload_n 3, 1) := by decide +kernel
theorem dL_law_889 : decode cL_law 889 = .ok (.iconst 0, 1) := by decide +kernel
theorem dL_law_890 : decode cL_law 890 = .ok (.laload, 1) := by decide +kernel
theorem dL_law_891 : decode cL_law 891 = .ok (.iload 6, 2) := by decide +kernel
theorem dL_law_893 : decode cL_law 893 = .ok (.i2l, 1) := by decide +kernel
theorem dL_law_894 : decode cL_law 894 = .ok (.lcmp, 1) := by decide +kernel
theorem dL_law_895 : decode cL_law 895 = .ok (.ifCond .eq 5, 3) := by decide +kernel
theorem dL_law_898 : decode cL_law 898 = .ok (.iconst 0, 1) := by decide +kernel
theorem dL_law_899 : decode cL_law 899 = .ok (.ireturn, 1) := by decide +kernel
theorem dL_law_900 : decode cL_law 900 = .ok (.goto 370, 3) := by decide +kernel
theorem dL_law_903 : decode cL_law 903 = .ok (.aload_n 1, 1) := by decide +kernel
theorem dL_law_904 : decode cL_law 904 = .ok (.aload_n 0, 1) := by decide +kernel
theorem dL_law_905 : decode cL_law 905 = .ok (.iload 4, 2) := by decide +kernel
theorem dL_law_907 : decode cL_law 907 = .ok (.iconst 1, 1) := by decide +kernel
theorem dL_law_908 : decode cL_law 908 = .ok (.iadd, 1) := by decide +kernel
theorem dL_law_909 : decode cL_law 909 = .ok (.iaload, 1) := by decide +kernel
theorem dL_law_910 : decode cL_law 910 = .ok (.aload_n 3, 1) := by decide +kernel
theorem dL_law_911 : decode cL_law 911 = .ok (.invokestatic 115, 3) := by decide +kernel
theorem dL_law_914 : decode cL_law 914 = .ok (.istore 5, 2) := by decide +kernel
theorem dL_law_916 : decode cL_law 916 = .ok (.aload_n 2, 1) := by decide +kernel
theorem dL_law_917 : decode cL_law 917 = .ok (.aload_n 0, 1) := by decide +kernel
theorem dL_law_918 : decode cL_law 918 = .ok (.iload 4, 2) := by decide +kernel
theorem dL_law_920 : decode cL_law 920 = .ok (.iconst 1, 1) := by decide +kernel
theorem dL_law_921 : decode cL_law 921 = .ok (.iadd, 1) := by decide +kernel
theorem dL_law_922 : decode cL_law 922 = .ok (.iaload, 1) := by decide +kernel
theorem dL_law_923 : decode cL_law 923 = .ok (.invokevirtual 117, 3) := by decide +kernel
theorem dL_law_926 : decode cL_law 926 = .ok (.istore 6, 2) := by decide +kernel
theorem dL_law_928 : decode cL_law 928 = .ok (.aload_n 2, 1) := by decide +kernel
theorem dL_law_929 : decode cL_law 929 = .ok (.invokevirtual 78, 3) := by decide +kernel
theorem dL_law_932 : decode cL_law 932 = .ok (.iload 5, 2) := by decide +kernel
theorem dL_law_934 : decode cL_law 934 = .ok (.if_icmp .eq 5, 3) := by decide +kernel
theorem dL_law_937 : decode cL_law 937 = .ok (.iconst 0, 1) := by decide +kernel
theorem dL_law_938 : decode cL_law 938 = .ok (.ireturn, 1) := by decide +kernel
theorem dL_law_939 : decode cL_law 939 = .ok (.iload 5, 2) := by decide +kernel
theorem dL_law_941 : decode cL_law 941 = .ok (.ifCond .ne 15, 3) := by decide +kernel
theorem dL_law_944 : decode cL_law 944 = .ok (.aload_n 3, 1) := by decide +kernel
theorem dL_law_945 : decode cL_law 945 = .ok (.iconst 0, 1) := by decide +kernel
theorem dL_law_946 : decode cL_law 946 = .ok (.laload, 1) := by decide +kernel
theorem dL_law_947 : decode cL_law 947 = .ok (.iload 6, 2) := by decide +kernel
theorem dL_law_949 : decode cL_law 949 = .ok (.i2l, 1) := by decide +kernel
theorem dL_law_950 : decode cL_law 950 = .ok (.lcmp, 1) := by decide +kernel
theorem dL_law_951 : decode cL_law 951 = .ok (.ifCond .eq 5, 3) := by decide +kernel
theorem dL_law_954 : decode cL_law 954 = .ok (.iconst 0, 1) := by decide +kernel
theorem dL_law_955 : decode cL_law 955 = .ok (.ireturn, 1) := by decide +kernel
theorem dL_law_956 : decode cL_law 956 = .ok (.goto 314, 3) := by decide +kernel
theorem dL_law_959 : decode cL_law 959 = .ok (.aload_n 1, 1) := by decide +kernel
theorem dL_law_960 : decode cL_law 960 = .ok (.aload_n 0, 1) := by decide +kernel
theorem dL_law_961 : decode cL_law 961 = .ok (.iload 4, 2) := by decide +kernel
theorem dL_law_963 : decode cL_law 963 = .ok (.iconst 1, 1) := by decide +kernel
theorem dL_law_964 : decode cL_law 964 = .ok (.iadd, 1) := by decide +kernel
theorem dL_law_965 : decode cL_law 965 = .ok (.iaload, 1) := by decide +kernel
theorem dL_law_966 : decode cL_law 966 = .ok (.aload_n 3, 1) := by decide +kernel
theorem dL_law_967 : decode cL_law 967 = .ok (.invokestatic 118, 3) := by decide +kernel
theorem dL_law_970 : decode cL_law 970 = .ok (.istore 5, 2) := by decide +kernel
theorem dL_law_972 : decode cL_law 972 = .ok (.aload_n 2, 1) := by decide +kernel
theorem dL_law_973 : decode cL_law 973 = .ok (.aload_n 0, 1) := by decide +kernel
theorem dL_law_974 : decode cL_law 974 = .ok (.iload 4, 2) := by decide +kernel
theorem dL_law_976 : decode cL_law 976 = .ok (.iconst 1, 1) := by decide +kernel
theorem dL_law_977 : decode cL_law 977 = .ok (.iadd, 1) := by decide +kernel
theorem dL_law_978 : decode cL_law 978 = .ok (.iaload, 1) := by decide +kernel
theorem dL_law_979 : decode cL_law 979 = .ok (.invokevirtual 120, 3) := by decide +kernel
theorem dL_law_982 : decode cL_law 982 = .ok (.istore 6, 2) := by decide +kernel
theorem dL_law_984 : decode cL_law 984 = .ok (.aload_n 2, 1) := by decide +kernel
theorem dL_law_985 : decode cL_law 985 = .ok (.invokevirtual 78, 3) := by decide +kernel
theorem dL_law_988 : decode cL_law 988 = .ok (.iload 5, 2) := by decide +kernel
theorem dL_law_990 : decode cL_law 990 = .ok (.if_icmp .eq 5, 3) := by decide +kernel
theorem dL_law_993 : decode cL_law 993 = .ok (.iconst 0, 1) := by decide +kernel
theorem dL_law_994 : decode cL_law 994 = .ok (.ireturn, 1) := by decide +kernel
theorem dL_law_995 : decode cL_law 995 = .ok (.iload 5, 2) := by decide +kernel
theorem dL_law_997 : decode cL_law 997 = .ok (.ifCond .ne 22, 3) := by decide +kernel
theorem dL_law_1000 : decode cL_law 1000 = .ok (.aload_n 3, 1) := by decide +kernel
theorem dL_law_1001 : decode cL_law 1001 = .ok (.iconst 0, 1) := by decide +kernel
theorem dL_law_1002 : decode cL_law 1002 = .ok (.laload, 1) := by decide +kernel
theorem dL_law_1003 : decode cL_law 1003 = .ok (.iload 6, 2) := by decide +kernel
theorem dL_law_1005 : decode cL_law 1005 = .ok (.ifCond .eq 7, 3) := by decide +kernel
theorem dL_law_1008 : decode cL_law 1008 = .ok (.lconst 1, 1) := by decide +kernel
theorem dL_law_1009 : decode cL_law 1009 = .ok (.goto 4, 3) := by decide +kernel
theorem dL_law_1012 : decode cL_law 1012 = .ok (.lconst 0, 1) := by decide +kernel
theorem dL_law_1013 : decode cL_law 1013 = .ok (.lcmp, 1) := by decide +kernel
theorem dL_law_1014 : decode cL_law 1014 = .ok (.ifCond .eq 5, 3) := by decide +kernel
theorem dL_law_1017 : decode cL_law 1017 = .ok (.iconst 0, 1) := by decide +kernel
theorem dL_law_1018 : decode cL_law 1018 = .ok (.ireturn, 1) := by decide +kernel
theorem dL_law_1019 : decode cL_law 1019 = .ok (.goto 251, 3) := by decide +kernel
theorem dL_law_1022 : decode cL_law 1022 = .ok (.aload_n 1, 1) := by decide +kernel
theorem dL_law_1023 : decode cL_law 1023 = .ok (.invokevirtual 121, 3) := by decide +kernel
theorem dL_law_1026 : decode cL_law 1026 = .ok (.aload_n 2, 1) := by decide +kernel
theorem dL_law_1027 : decode cL_law 1027 = .ok (.invokevirtual 124, 3) := by decide +kernel
theorem dL_law_1030 : decode cL_law 1030 = .ok (.if_icmp .eq 240, 3) := by decide +kernel
theorem dL_law_1033 : decode cL_law 1033 = .ok (.iconst 0, 1) := by decide +kernel
theorem dL_law_1034 : decode cL_law 1034 = .ok (.ireturn, 1) := by decide +kernel
theorem dL_law_1035 : decode cL_law 1035 = .ok (.aload_n 1, 1) := by decide +kernel
theorem dL_law_1036 : decode cL_law 1036 = .ok (.aload_n 0, 1) := by decide +kernel
theorem dL_law_1037 : decode cL_law 1037 = .ok (.iload 4, 2) := by decide +kernel
theorem dL_law_1039 : decode cL_law 1039 = .ok (.iconst 1, 1) := by decide +kernel
theorem dL_law_1040 : decode cL_law 1040 = .ok (.iadd, 1) := by decide +kernel
theorem dL_law_1041 : decode cL_law 1041 = .ok (.iaload, 1) := by decide +kernel
theorem dL_law_1042 : decode cL_law 1042 = .ok (.aload_n 0, 1) := by decide +kernel
theorem dL_law_1043 : decode cL_law 1043 = .ok (.iload 4, 2) := by decide +kernel
theorem dL_law_1045 : decode cL_law 1045 = .ok (.iconst 2, 1) := by decide +kernel
theorem dL_law_1046 : decode cL_law 1046 = .ok (.iadd, 1) := by decide +kernel
theorem dL_law_1047 : decode cL_law 1047 = .ok (.iaload, 1) := by decide +kernel
theorem dL_law_1048 : decode cL_law 1048 = .ok (.aload_n 3, 1) := by decide +kernel
theorem dL_law_1049 : decode cL_law 1049 = .ok (.invokestatic 125, 3) := by decide +kernel
theorem dL_law_1052 : decode cL_law 1052 = .ok (.istore 5, 2) := by decide +kernel
theorem dL_law_1054 : decode cL_law 1054 = .ok (.aload_n 2, 1) := by decide +kernel
theorem dL_law_1055 : decode cL_law 1055 = .ok (.aload_n 0, 1) := by decide +kernel
theorem dL_law_1056 : decode cL_law 1056 = .ok (.iload 4, 2) := by decide +kernel
theorem dL_law_1058 : decode cL_law 1058 = .ok (.iconst 1, 1) := by decide +kernel
theorem dL_law_1059 : decode cL_law 1059 = .ok (.iadd, 1) := by decide +kernel
theorem dL_law_1060 : decode cL_law 1060 = .ok (.iaload, 1) := by decide +kernel
theorem dL_law_1061 : decode cL_law 1061 = .ok (.aload_n 0, 1) := by decide +kernel
theorem dL_law_1062 : decode cL_law 1062 = .ok (.iload 4, 2) := by decide +kernel
theorem dL_law_1064 : decode cL_law 1064 = .ok (.iconst 2, 1) := by decide +kernel
theorem dL_law_1065 : decode cL_law 1065 = .ok (.iadd, 1) := by decide +kernel
theorem dL_law_1066 : decode cL_law 1066 = .ok (.iaload, 1) := by decide +kernel
theorem dL_law_1067 : decode cL_law 1067 = .ok (.invokevirtual 127, 3) := by decide +kernel
theorem dL_law_1070 : decode cL_law 1070 = .ok (.istore 6, 2) := by decide +kernel
theorem dL_law_1072 : decode cL_law 1072 = .ok (.aload_n 2, 1) := by decide +kernel
theorem dL_law_1073 : decode cL_law 1073 = .ok (.invokevirtual 78, 3) := by decide +kernel
theorem dL_law_1076 : decode cL_law 1076 = .ok (.iload 5, 2) := by decide +kernel
theorem dL_law_1078 : decode cL_law 1078 = .ok (.if_icmp .eq 5, 3) := by decide +kernel
theorem dL_law_1081 : decode cL_law 1081 = .ok (.iconst 0, 1) := by decide +kernel
theorem dL_law_1082 : decode cL_law 1082 = .ok (.ireturn, 1) := by decide +kernel
theorem dL_law_1083 : decode cL_law 1083 = .ok (.iload 5, 2) := by decide +kernel
theorem dL_law_1085 : decode cL_law 1085 = .ok (.ifCond .ne 15, 3) := by decide +kernel
theorem dL_law_1088 : decode cL_law 1088 = .ok (.aload_n 3, 1) := by decide +kernel
theorem dL_law_1089 : decode cL_law 1089 = .ok (.iconst 0, 1) := by decide +kernel
theorem dL_law_1090 : decode cL_law 1090 = .ok (.laload, 1) := by decide +kernel
theorem dL_law_1091 : decode cL_law 1091 = .ok (.iload 6, 2) := by decide +kernel
theorem dL_law_1093 : decode cL_law 1093 = .ok (.i2l, 1) := by decide +kernel
theorem dL_law_1094 : decode cL_law 1094 = .ok (.lcmp, 1) := by decide +kernel
theorem dL_law_1095 : decode cL_law 1095 = .ok (.ifCond .eq 5, 3) := by decide +kernel
theorem dL_law_1098 : decode cL_law 1098 = .ok (.iconst 0, 1) := by decide +kernel
theorem dL_law_1099 : decode cL_law 1099 = .ok (.ireturn, 1) := by decide +kernel
theorem dL_law_1100 : decode cL_law 1100 = .ok (.goto 170, 3) := by decide +kernel
theorem dL_law_1103 : decode cL_law 1103 = .ok (.aload_n 1, 1) := by decide +kernel
theorem dL_law_1104 : decode cL_law 1104 = .ok (.aload_n 0, 1) := by decide +kernel
theorem dL_law_1105 : decode cL_law 1105 = .ok (.iload 4, 2) := by decide +kernel
theorem dL_law_1107 : decode cL_law 1107 = .ok (.iconst 1, 1) := by decide +kernel
theorem dL_law_1108 : decode cL_law 1108 = .ok (.iadd, 1) := by decide +kernel
theorem dL_law_1109 : decode cL_law 1109 = .ok (.iaload, 1) := by decide +kernel
theorem dL_law_1110 : decode cL_law 1110 = .ok (.aload_n 3, 1) := by decide +kernel
theorem dL_law_1111 : decode cL_law 1111 = .ok (.invokestatic 128, 3) := by decide +kernel
theorem dL_law_1114 : decode cL_law 1114 = .ok (.istore 5, 2) := by decide +kernel
theorem dL_law_1116 : decode cL_law 1116 = .ok (.aload_n 2, 1) := by decide +kernel
theorem dL_law_1117 : decode cL_law 1117 = .ok (.aload_n 0, 1) := by decide +kernel
theorem dL_law_1118 : decode cL_law 1118 = .ok (.iload 4, 2) := by decide +kernel
theorem dL_law_1120 : decode cL_law 1120 = .ok (.iconst 1, 1) := by decide +kernel
theorem dL_law_1121 : decode cL_law 1121 = .ok (.iadd, 1) := by decide +kernel
theorem dL_law_1122 : decode cL_law 1122 = .ok (.iaload, 1) := by decide +kernel
theorem dL_law_1123 : decode cL_law 1123 = .ok (.invokevirtual 130, 3) := by decide +kernel
theorem dL_law_1126 : decode cL_law 1126 = .ok (.istore 6, 2) := by decide +kernel
theorem dL_law_1128 : decode cL_law 1128 = .ok (.aload_n 2, 1) := by decide +kernel
theorem dL_law_1129 : decode cL_law 1129 = .ok (.invokevirtual 78, 3) := by decide +kernel
theorem dL_law_1132 : decode cL_law 1132 = .ok (.iload 5, 2) := by decide +kernel
theorem dL_law_1134 : decode cL_law 1134 = .ok (.if_icmp .eq 5, 3) := by decide +kernel
theorem dL_law_1137 : decode cL_law 1137 = .ok (.iconst 0, 1) := by decide +kernel
theorem dL_law_1138 : decode cL_law 1138 = .ok (.ireturn, 1) := by decide +kernel
theorem dL_law_1139 : decode cL_law 1139 = .ok (.iload 5, 2) := by decide +kernel
theorem dL_law_1141 : decode cL_law 1141 = .ok (.ifCond .ne 15, 3) := by decide +kernel
theorem dL_law_1144 : decode cL_law 1144 = .ok (.aload_n 3, 1) := by decide +kernel
theorem dL_law_1145 : decode cL_law 1145 = .ok (.iconst 0, 1) := by decide +kernel
theorem dL_law_1146 : decode cL_law 1146 = .ok (.laload, 1) := by decide +kernel
theorem dL_law_1147 : decode cL_law 1147 = .ok (.iload 6, 2) := by decide +kernel
theorem dL_law_1149 : decode cL_law 1149 = .ok (.i2l, 1) := by decide +kernel
theorem dL_law_1150 : decode cL_law 1150 = .ok (.lcmp, 1) := by decide +kernel
theorem dL_law_1151 : decode cL_law 1151 = .ok (.ifCond .eq 5, 3) := by decide +kernel
theorem dL_law_1154 : decode cL_law 1154 = .ok (.iconst 0, 1) := by decide +kernel
theorem dL_law_1155 : decode cL_law 1155 = .ok (.ireturn, 1) := by decide +kernel
theorem dL_law_1156 : decode cL_law 1156 = .ok (.goto 114, 3) := by decide +kernel
theorem dL_law_1159 : decode cL_law 1159 = .ok (.aload_n 1, 1) := by decide +kernel
theorem dL_law_1160 : decode cL_law 1160 = .ok (.aload_n 0, 1) := by decide +kernel
theorem dL_law_1161 : decode cL_law 1161 = .ok (.iload 4, 2) := by decide +kernel
theorem dL_law_1163 : decode cL_law 1163 = .ok (.iconst 1, 1) := by decide +kernel
theorem dL_law_1164 : decode cL_law 1164 = .ok (.iadd, 1) := by decide +kernel
theorem dL_law_1165 : decode cL_law 1165 = .ok (.iaload, 1) := by decide +kernel
theorem dL_law_1166 : decode cL_law 1166 = .ok (.aload_n 3, 1) := by decide +kernel
theorem dL_law_1167 : decode cL_law 1167 = .ok (.invokestatic 131, 3) := by decide +kernel
theorem dL_law_1170 : decode cL_law 1170 = .ok (.istore 5, 2) := by decide +kernel
theorem dL_law_1172 : decode cL_law 1172 = .ok (.aload_n 2, 1) := by decide +kernel
theorem dL_law_1173 : decode cL_law 1173 = .ok (.aload_n 0, 1) := by decide +kernel
theorem dL_law_1174 : decode cL_law 1174 = .ok (.iload 4, 2) := by decide +kernel
theorem dL_law_1176 : decode cL_law 1176 = .ok (.iconst 1, 1) := by decide +kernel
theorem dL_law_1177 : decode cL_law 1177 = .ok (.iadd, 1) := by decide +kernel
theorem dL_law_1178 : decode cL_law 1178 = .ok (.iaload, 1) := by decide +kernel
theorem dL_law_1179 : decode cL_law 1179 = .ok (.invokevirtual 133, 3) := by decide +kernel
theorem dL_law_1182 : decode cL_law 1182 = .ok (.istore 6, 2) := by decide +kernel
theorem dL_law_1184 : decode cL_law 1184 = .ok (.aload_n 2, 1) := by decide +kernel
theorem dL_law_1185 : decode cL_law 1185 = .ok (.invokevirtual 78, 3) := by decide +kernel
theorem dL_law_1188 : decode cL_law 1188 = .ok (.iload 5, 2) := by decide +kernel
theorem dL_law_1190 : decode cL_law 1190 = .ok (.if_icmp .eq 5, 3) := by decide +kernel
theorem dL_law_1193 : decode cL_law 1193 = .ok (.iconst 0, 1) := by decide +kernel
theorem dL_law_1194 : decode cL_law 1194 = .ok (.ireturn, 1) := by decide +kernel
theorem dL_law_1195 : decode cL_law 1195 = .ok (.iload 5, 2) := by decide +kernel
theorem dL_law_1197 : decode cL_law 1197 = .ok (.ifCond .ne 15, 3) := by decide +kernel
theorem dL_law_1200 : decode cL_law 1200 = .ok (.aload_n 3, 1) := by decide +kernel
theorem dL_law_1201 : decode cL_law 1201 = .ok (.iconst 0, 1) := by decide +kernel
theorem dL_law_1202 : decode cL_law 1202 = .ok (.laload, 1) := by decide +kernel
theorem dL_law_1203 : decode cL_law 1203 = .ok (.iload 6, 2) := by decide +kernel
theorem dL_law_1205 : decode cL_law 1205 = .ok (.i2l, 1) := by decide +kernel
theorem dL_law_1206 : decode cL_law 1206 = .ok (.lcmp, 1) := by decide +kernel
theorem dL_law_1207 : decode cL_law 1207 = .ok (.ifCond .eq 5, 3) := by decide +kernel
theorem dL_law_1210 : decode cL_law 1210 = .ok (.iconst 0, 1) := by decide +kernel
theorem dL_law_1211 : decode cL_law 1211 = .ok (.ireturn, 1) := by decide +kernel
theorem dL_law_1212 : decode cL_law 1212 = .ok (.goto 58, 3) := by decide +kernel
theorem dL_law_1215 : decode cL_law 1215 = .ok (.aload_n 1, 1) := by decide +kernel
theorem dL_law_1216 : decode cL_law 1216 = .ok (.invokevirtual 134, 3) := by decide +kernel
theorem dL_law_1219 : decode cL_law 1219 = .ok (.dstore 5, 2) := by decide +kernel
theorem dL_law_1221 : decode cL_law 1221 = .ok (.aload_n 2, 1) := by decide +kernel
theorem dL_law_1222 : decode cL_law 1222 = .ok (.invokevirtual 138, 3) := by decide +kernel
theorem dL_law_1225 : decode cL_law 1225 = .ok (.dstore 7, 2) := by decide +kernel
theorem dL_law_1227 : decode cL_law 1227 = .ok (.dload 5, 2) := by decide +kernel
theorem dL_law_1229 : decode cL_law 1229 = .ok (.dload 7, 2) := by decide +kernel
theorem dL_law_1231 : decode cL_law 1231 = .ok (.dcmp .l, 1) := by decide +kernel
theorem dL_law_1232 : decode cL_law 1232 = .ok (.ifCond .eq 21, 3) := by decide +kernel
theorem dL_law_1235 : decode cL_law 1235 = .ok (.dload 5, 2) := by decide +kernel
theorem dL_law_1237 : decode cL_law 1237 = .ok (.dload 5, 2) := by decide +kernel
theorem dL_law_1239 : decode cL_law 1239 = .ok (.dcmp .l, 1) := by decide +kernel
theorem dL_law_1240 : decode cL_law 1240 = .ok (.ifCond .eq 11, 3) := by decide +kernel
theorem dL_law_1243 : decode cL_law 1243 = .ok (.dload 7, 2) := by decide +kernel
theorem dL_law_1245 : decode cL_law 1245 = .ok (.dload 7, 2) := by decide +kernel
theorem dL_law_1247 : decode cL_law 1247 = .ok (.dcmp .l, 1) := by decide +kernel
theorem dL_law_1248 : decode cL_law 1248 = .ok (.ifCond .ne 5, 3) := by decide +kernel
theorem dL_law_1251 : decode cL_law 1251 = .ok (.iconst 0, 1) := by decide +kernel
theorem dL_law_1252 : decode cL_law 1252 = .ok (.ireturn, 1) := by decide +kernel
theorem dL_law_1253 : decode cL_law 1253 = .ok (.goto 17, 3) := by decide +kernel
theorem dL_law_1256 : decode cL_law 1256 = .ok (.aload_n 1, 1) := by decide +kernel
theorem dL_law_1257 : decode cL_law 1257 = .ok (.invokevirtual 139, 3) := by decide +kernel
theorem dL_law_1260 : decode cL_law 1260 = .ok (.aload_n 2, 1) := by decide +kernel
theorem dL_law_1261 : decode cL_law 1261 = .ok (.invokevirtual 143, 3) := by decide +kernel
theorem dL_law_1264 : decode cL_law 1264 = .ok (.lcmp, 1) := by decide +kernel
theorem dL_law_1265 : decode cL_law 1265 = .ok (.ifCond .eq 5, 3) := by decide +kernel
theorem dL_law_1268 : decode cL_law 1268 = .ok (.iconst 0, 1) := by decide +kernel
theorem dL_law_1269 : decode cL_law 1269 = .ok (.ireturn, 1) := by decide +kernel
theorem dL_law_1270 : decode cL_law 1270 = .ok (.iinc 4 6, 3) := by decide +kernel
theorem dL_law_1273 : decode cL_law 1273 = .ok (.goto (-1250), 3) := by decide +kernel
theorem dL_law_1276 : decode cL_law 1276 = .ok (.iconst 1, 1) := by decide +kernel
theorem dL_law_1277 : decode cL_law 1277 = .ok (.ireturn, 1) := by decide +kernel
end
section
/-! MORE ROWS, AND NUMBERS -/
section GL2
variable {p : Program} {l : Launch} {e : Env} {R : Room} {s : State} {m : MethodId} {args : Array Value} {below : List Frame} {meth : Method} {c : Code} {Q : State → Prop}
variable {D : va_G} {tys : List (ClassId × FieldType)} {A : Nat → Prop} {cc : ByteArray} {nL kc ks : Nat} {own : String} {Ts : List Cond}
variable {ws ws' : va_W} {lv lv' : List (Nat × Value)} {pc pc' tgt : Nat} {st : List Value}
theorem g_dup2 (X : gX p s m args c D tys A cc nL own Ts) {v w : Value} (pc' : Nat) (hd : decode cc pc = .ok (.dup2, 1)) (hn : pc + 1 = pc') (hv : v.category = 1) (hw : w.category = 1) (k : G p l e R s m args below meth c Q D A nL kc ks ws lv pc' (v :: w :: v :: w :: st)) : G p l e R s m args below meth c Q D A nL kc ks ws lv pc (v :: w :: st) := by
  subst hn
  exact fun H locs ls hP hD hS hl => lv_dup2_11 X.1 X.2.1 hd hv hw (k H locs ls hP hD hS hl)
theorem g_eqi {x y : Int32} (h : x = y) (k : G p l e R s m args below meth c Q D A nL kc ks ws lv pc (.int y :: st)) : G p l e R s m args below meth c Q D A nL kc ks ws lv pc (.int x :: st) := h ▸ k
theorem g_eql {x y : Int64} (h : x = y) (k : G p l e R s m args below meth c Q D A nL kc ks ws lv pc (.long y :: st)) : G p l e R s m args below meth c Q D A nL kc ks ws lv pc (.long x :: st) := h ▸ k
theorem g_eqw (h : ws = ws') (k : G p l e R s m args below meth c Q D A nL kc ks ws' lv pc st) : G p l e R s m args below meth c Q D A nL kc ks ws lv pc st := h ▸ k
theorem g_eqv (h : lv = lv') (k : G p l e R s m args below meth c Q D A nL kc ks ws lv' pc st) : G p l e R s m args below meth c Q D A nL kc ks ws lv pc st := h ▸ k
theorem g_ldc2 (X : gX p s m args c D tys A cc nL own Ts) {index : Nat} (v : Int64) (pc' : Nat) (hm : Cond.constantLong own index v ∈ Ts) (hd : decode cc pc = .ok (.ldc2_w index, 3)) (hn : pc + 3 = pc') (k : G p l e R s m args below meth c Q D A nL kc ks ws lv pc' (.long v :: st)) : G p l e R s m args below meth c Q D A nL kc ks ws lv pc st := by
  subst hn
  exact fun H locs ls hP hD hS hl => lv_ldc2 X.1 X.2.1 X.2.2.2.1 (X.hts _ hm) hd (k H locs ls hP hD hS hl)
theorem g_objInit (X : gX p s m args c D tys A cc nL own Ts) {idx a : Nat} (pc' : Nat) (h1 : Cond.methodLink own idx Lib.objectInit ∈ Ts) (h2 : Cond.instanceMethod Lib.objectInit ∈ Ts) (h3 : Cond.code Lib.objectInit ⟨#[0xb1]⟩ 1 none ∈ Ts) (hR : 1 ≤ R.frames) (hL : (st.map fun v => v.category).sum + 12 ≤ R.locals) (hd : decode cc pc = .ok (.invokespecial idx, 3)) (hn : pc + 3 = pc') (k : G p l e R s m args below meth c Q D A nL kc ks ws lv pc' st) : G p l e R s m args below meth c Q D A nL kc ks ws lv pc (.ref a :: st) := by
  subst hn
  intro H locs ls hP hD hS hl
  refine W.objInit X.1 X.2.1 X.2.2.2.1 (X.hts _ h1) (X.hts _ h2) (X.hts _ h3) rfl (hl.1.trans X.2.2.1.symm) rfl hd hR ?_ ?_
  · show 2 * 0 + _ + 12 ≤ _
    omega
  · exact k H locs ls hP hD hS hl
end GL2
theorem g_down {P : Nat → Prop} (N : Nat) (h0 : P N) (hs : ∀ j : Nat, j < N → P (j + 1) → P j) : ∀ j : Nat, j ≤ N → P j := by
  intro j hj
  obtain ⟨d, hd⟩ : ∃ d, d = N - j := ⟨_, rfl⟩
  induction d generalizing j with
  | zero => rw [show j = N by omega]; exact h0
  | succ d ih => exact hs j (by omega) (ih (j + 1) (by omega) (by omega))
/-- numbers -/
def nIm (n : Nat) : Int32 := -(nI n)
theorem nI_inc (a : Nat) : nI a + Int32.ofInt 1 = nI (a + 1) := nI_1 a
theorem nI_incN (a k : Nat) : nI a + Int32.ofInt (k : Int) = nI (a + k) := nI_add a k
theorem nI_dec {a : Nat} (h : 1 ≤ a) : nI a + Int32.ofInt (-1) = nI (a - 1) := by
  have := pk_m1 (a - 1)
  rw [show a - 1 + 1 = a by omega] at this
  exact this
theorem nz_eq {a : Nat} (h : a < 2 ^ 31) : nI a = 0 ↔ a = 0 := by
  have := nI_eq h (show 0 < 2 ^ 31 by decide)
  rwa [nI_0] at this
theorem nz_lt {a : Nat} (h : a < 2 ^ 31) : nI a < 0 ↔ False := ⟨nI_pos h, False.elim⟩
theorem nz_ge {a : Nat} (h : a < 2 ^ 31) : 0 ≤ nI a ↔ True := ⟨fun _ => trivial, fun _ => nI_pos' h⟩
theorem nz_gt {a : Nat} (h : a < 2 ^ 31) : 0 < nI a ↔ 0 < a := by
  have := nI_ltI (show 0 < 2 ^ 31 by decide) h
  rwa [nI_0] at this
theorem nz_le {a : Nat} (h : a < 2 ^ 31) : nI a ≤ 0 ↔ a = 0 := by
  have := nI_leI h (show 0 < 2 ^ 31 by decide)
  rw [nI_0] at this
  rw [this]; omega
/-- Math.min, Math.max of numbers -/
theorem nI_min {a b : Nat} (ha : a < 2 ^ 31) (hb : b < 2 ^ 31) : (if nI b < nI a then nI b else nI a) = nI (min a b) := by
  by_cases h : b < a
  · rw [if_pos ((nI_ltI hb ha).mpr h), Nat.min_eq_right (by omega)]
  · rw [if_neg (fun z => h ((nI_ltI hb ha).mp z)), Nat.min_eq_left (by omega)]
theorem nI_max {a b : Nat} (ha : a < 2 ^ 31) (hb : b < 2 ^ 31) : (if nI a < nI b then nI b else nI a) = nI (max a b) := by
  by_cases h : a < b
  · rw [if_pos ((nI_ltI ha hb).mpr h), Nat.max_eq_right (by omega)]
  · rw [if_neg (fun z => h ((nI_ltI ha hb).mp z)), Nat.max_eq_left (by omega)]
theorem nI_max0 {a b : Nat} (ha : a < 2 ^ 30) (hb : b < 2 ^ 30) : (if nI 0 < nI a - nI b then nI a - nI b else nI 0) = nI (a - b) := by
  by_cases h : b ≤ a
  · rw [pk_sub h]
    by_cases h0 : 0 < a - b
    · rw [if_pos ((nI_ltI (by decide) (by omega)).mpr h0)]
    · rw [show a - b = 0 by omega]
      rw [if_neg (fun z => (by have := (nI_ltI (a := 0) (b := 0) (by decide) (by decide)).mp z; omega))]
  · have h1 := pk_sneg hb (show a < b by omega)
    rw [if_neg, show a - b = 0 by omega]
    intro z
    rw [nI_0] at z
    exact absurd (Int32.lt_trans z h1) Int32.lt_irrefl
theorem nI_neg {a : Nat} (h : a ≤ 2 ^ 32) : -(nI a) = nI (2 ^ 32 - a) := by
  have h1 : nI a + nI (2 ^ 32 - a) = nI (2 ^ 32) := by rw [nI_add]; congr 1; omega
  have h2 : nI (2 ^ 32) = 0 := by decide +kernel
  rw [h2] at h1
  have h3 : -(nI a) + (nI a + nI (2 ^ 32 - a)) = -(nI a) + 0 := by rw [h1]
  rw [← Int32.add_assoc, Int32.add_left_neg, Int32.zero_add, Int32.add_zero] at h3
  exact h3.symm
/-- a yes or no as a number -/
def bn (b : Bool) : Nat := if b then 1 else 0
theorem bn_t : bn true = 1 := rfl
theorem bn_f : bn false = 0 := rfl
theorem bn_lt (b : Bool) : bn b < 2 ^ 31 := by cases b <;> decide
theorem bn_nar (b : Bool) : narrow .boolean (.int (nI (bn b))) = .int (nI (bn b)) := by cases b <;> rfl
theorem bn_eq0 (b : Bool) : nI (bn b) = 0 ↔ b = false := by cases b <;> decide
theorem bn_1 (n : Nat) (h : n < 2) : narrow .boolean (.int (nI n)) = .int (nI n) := by
  rcases (show n = 0 ∨ n = 1 by omega) with rfl | rfl <;> rfl
section GL3
variable {p : Program} {l : Launch} {e : Env} {R : Room} {s : State} {m : MethodId} {args : Array Value} {below : List Frame} {meth : Method} {c : Code} {Q : State → Prop}
variable {D : va_G} {tys : List (ClassId × FieldType)} {A : Nat → Prop} {cc : ByteArray} {nL kc ks : Nat} {own : String} {Ts : List Cond}
variable {ws ws' : va_W} {lv lv' : List (Nat × Value)} {pc pc' tgt : Nat} {st : List Value}
/-- System.arraycopy of ints -/
theorem g_copy (X : gX p s m args c D tys A cc nL own Ts) {index a0 a1 n0 n1 : Nat} {cA : ClassId} {f g : Nat → Int32} (q0 q1 : Nat) (sp dp n : Nat) (f' : Nat → Int32) (pc' : Nat) (h1 : Cond.methodLink own index arraycopyName ∈ Ts) (h2 : Cond.native arraycopyName ∈ Ts) (h3 : Cond.static arraycopyName ∈ Ts) (h4 : Cond.initialized "java/lang/System" ∈ Ts) (ha0 : ws[q0]? = some (a0, .inl (cA, n0, .inl f))) (ha1 : ws[q1]? = some (a1, .inl (cA, n1, .inl g))) (ht : tys[0]? = some (cA, .int)) (hn0 : sp + n ≤ n0) (hn1 : dp + n ≤ n1) (h31 : n0 < 2 ^ 31) (h32 : n1 < 2 ^ 31)
    (hR : 1 ≤ R.frames) (hL : (st.map fun v => v.category).sum + (nativeFrameWords "java/lang/System" "arraycopy" 5 + 11) ≤ R.locals) (hf : va_cpy f g sp dp n = f') (hd : decode cc pc = .ok (.invokestatic index, 3)) (hn : pc + 3 = pc') (hw : ws.set q1 (a1, .inl (cA, n1, .inl f')) = ws') (k : G p l e R s m args below meth c Q D A nL kc ks ws' lv pc' st) : G p l e R s m args below meth c Q D A nL kc ks ws lv pc (.int (nI n) :: .int (nI dp) :: .ref a1 :: .int (nI sp) :: .ref a0 :: st) := by
  subst hn
  subst hf
  subst hw
  intro H locs ls hP hD hS hl
  have c1 : (nI sp).toNatClampNeg = sp := nI_clamp (by omega)
  have c2 : (nI dp).toNatClampNeg = dp := nI_clamp (by omega)
  have c3 : (nI n).toNatClampNeg = n := nI_clamp (by omega)
  refine va_copyi X.1 X.2.1 (X.2.2.1.trans hl.1.symm) X.2.2.2.1 (X.hts _ h1) (X.hts _ h2) (X.hts _ h3) (X.hts _ h4) X.K hP hD hS q0 q1 0 0 ha0 ha1 ht ht rfl (nI_pos (by omega)) (nI_pos (by omega)) (nI_pos (by omega)) (by rw [c1, c3]; exact hn0) (by rw [c2, c3]; exact hn1) (fun _ _ => rfl) hR hL hd ?_
  rw [c1, c2, c3]
  exact fun H locs hP hD hS => k H locs ls hP hD hS hl
end GL3
theorem wd_lt {w : Nat} (h : w ≤ 5 ∨ (2 ^ 32 - 5 ≤ w ∧ w < 2 ^ 32)) : nI w < 0 ↔ ¬ w ≤ 5 := by
  rcases h with h | ⟨h1, h2⟩
  · exact ⟨fun z => absurd z (nI_pos (by omega)), fun z => absurd h z⟩
  · refine ⟨fun _ => by omega, fun _ => ?_⟩
    rcases (show w = 4294967291 ∨ w = 4294967292 ∨ w = 4294967293 ∨ w = 4294967294 ∨ w = 4294967295 by omega) with rfl | rfl | rfl | rfl | rfl <;> decide +kernel
end
section
/-! THE STATE, as rows of numbers. S: what days change, place by place as the reference keeps it (0 day, 1 wind, 2 coins, 3 feast days, 4.. soot, 100.. ropes: column, row, way, cleaned, moved); T: windows; st: strengths; fe, fo: feasts. The views: what the class's own arrays hold of it. -/
def up (S : Nat → Nat) (k v : Nat) : Nat → Nat := fun j => if j = k then v else S j
theorem up_s (S : Nat → Nat) (k v : Nat) : up S k v k = v := by simp [up]
theorem up_n {S : Nat → Nat} {k v j : Nat} (h : j ≠ k) : up S k v j = S j := by simp [up, h]
theorem up_id (S : Nat → Nat) (k : Nat) : up S k (S k) = S := by
  funext j; unfold up; split
  · next h => rw [h]
  · rfl
def vs (S : Nat → Nat) : Nat → Int32 := fun k => if k < 96 then nI (S (4 + k)) else 0
def vr (q : Nat) (S : Nat → Nat) : Nat → Int32 := fun r => if r < 6 then nI (S (100 + 5 * r + q)) else 0
def vw (n : Nat) (S : Nat → Nat) : Nat → Int32 := fun r => if r < n then nI (1 - S (100 + 5 * r + 2)) else 0
def v6 (f : Nat → Nat) : Nat → Int32 := fun r => if r < 6 then nI (f r) else 0
def v4 (f : Nat → Nat) : Nat → Int32 := fun r => if r < 4 then nI (f r) else 0
def vt (q : Nat) (T : Nat → Nat) : Nat → Int32 := fun w => if w < 6 then nI (T (5 * w + q)) else 0
def vn (S : Nat → Nat) : Nat → Int32 := fun k => if k < 130 then nI (S k) else 0
def v30 (T : Nat → Nat) : Nat → Int32 := fun k => if k < 30 then nI (T k) else 0
theorem vs_at {S : Nat → Nat} {k : Nat} (h : k < 96) : vs S k = nI (S (4 + k)) := if_pos h
theorem vr_at {q : Nat} {S : Nat → Nat} {r : Nat} (h : r < 6) : vr q S r = nI (S (100 + 5 * r + q)) := if_pos h
theorem vw_at {n : Nat} {S : Nat → Nat} {r : Nat} (h : r < n) : vw n S r = nI (1 - S (100 + 5 * r + 2)) := if_pos h
theorem v6_at {f : Nat → Nat} {r : Nat} (h : r < 6) : v6 f r = nI (f r) := if_pos h
theorem v4_at {f : Nat → Nat} {r : Nat} (h : r < 4) : v4 f r = nI (f r) := if_pos h
theorem vt_at {q : Nat} {T : Nat → Nat} {w : Nat} (h : w < 6) : vt q T w = nI (T (5 * w + q)) := if_pos h
theorem vn_at {S : Nat → Nat} {k : Nat} (h : k < 130) : vn S k = nI (S k) := if_pos h
theorem v30_at {T : Nat → Nat} {k : Nat} (h : k < 30) : v30 T k = nI (T k) := if_pos h
/-- writes -/
theorem vs_up {S : Nat → Nat} {k v : Nat} (h : k < 96) : upd (vs S) k (nI v) = vs (up S (4 + k) v) := by
  funext j
  by_cases hj : j = k
  · subst hj; simp [upd, vs, up, h]
  · have : ¬ 4 + j = 4 + k := by omega
    simp [upd, vs, up, hj]
theorem vr_up {q : Nat} {S : Nat → Nat} {r v : Nat} (h : r < 6) : upd (vr q S) r (nI v) = vr q (up S (100 + 5 * r + q) v) := by
  funext j
  by_cases hj : j = r
  · subst hj; simp [upd, vr, up, h]
  · have : ¬ 5 * j = 5 * r := by omega
    simp [upd, vr, up, hj, this]
theorem v6_up {f : Nat → Nat} {r v : Nat} (h : r < 6) : upd (v6 f) r (nI v) = v6 (up f r v) := by
  funext j
  by_cases hj : j = r
  · subst hj; simp [upd, v6, up, h]
  · simp [upd, v6, up, hj]
theorem v4_up {f : Nat → Nat} {r v : Nat} (h : r < 4) : upd (v4 f) r (nI v) = v4 (up f r v) := by
  funext j
  by_cases hj : j = r
  · subst hj; simp [upd, v4, up, h]
  · simp [upd, v4, up, hj]
theorem vt_up {q : Nat} {T : Nat → Nat} {w v : Nat} (h : w < 6) : upd (vt q T) w (nI v) = vt q (up T (5 * w + q) v) := by
  funext j
  by_cases hj : j = w
  · subst hj; simp [upd, vt, up, h]
  · have : ¬ 5 * j = 5 * w := by omega
    simp [upd, vt, up, hj, this]
theorem vn_up {S : Nat → Nat} {k v : Nat} (h : k < 130) : upd (vn S) k (nI v) = vn (up S k v) := by
  funext j
  by_cases hj : j = k
  · subst hj; simp [upd, vn, up, h]
  · simp [upd, vn, up, hj]
/-- what a write leaves of the other views -/
theorem vs_o {S : Nat → Nat} {p v : Nat} (h : p < 4 ∨ 100 ≤ p) : vs (up S p v) = vs S := by
  funext j
  by_cases hj : j < 96
  · have : ¬ 4 + j = p := by omega
    simp [vs, hj, up, this]
  · simp [vs, hj]
theorem vr_o {q : Nat} {S : Nat → Nat} {p v : Nat} (h : p < 100) : vr q (up S p v) = vr q S := by
  funext j
  have : ¬ 100 + 5 * j + q = p := by omega
  simp [vr, up, this]
theorem vr_q {q q' : Nat} {S : Nat → Nat} {r v : Nat} (h : q ≠ q') (hq : q < 5) (hq' : q' < 5) : vr q (up S (100 + 5 * r + q') v) = vr q S := by
  funext j
  have : ¬ 100 + 5 * j + q = 100 + 5 * r + q' := by omega
  simp [vr, up, this]
theorem vw_o {n : Nat} {S : Nat → Nat} {p v : Nat} (h : p < 100) : vw n (up S p v) = vw n S := by
  funext j
  have : ¬ 100 + 5 * j + 2 = p := by omega
  simp [vw, up, this]
theorem vw_q {n q' : Nat} {S : Nat → Nat} {r v : Nat} (h : q' ≠ 2) (hq' : q' < 5) : vw n (up S (100 + 5 * r + q') v) = vw n S := by
  funext j
  have : ¬ 100 + 5 * j + 2 = 100 + 5 * r + q' := by omega
  simp [vw, up, this]
theorem vt_q {q q' : Nat} {T : Nat → Nat} {w v : Nat} (h : q ≠ q') (hq : q < 5) (hq' : q' < 5) : vt q (up T (5 * w + q') v) = vt q T := by
  funext j
  have : ¬ 5 * j + q = 5 * w + q' := by omega
  simp [vt, up, this]
/-- sums and maxima -/
def sm (f : Nat → Nat) : Nat → Nat
  | 0 => 0
  | n + 1 => sm f n + f n
def mx (f : Nat → Nat) : Nat → Nat
  | 0 => 0
  | n + 1 => max (mx f n) (f n)
theorem sm_s (f : Nat → Nat) (n : Nat) : sm f (n + 1) = sm f n + f n := rfl
theorem mx_s (f : Nat → Nat) (n : Nat) : mx f (n + 1) = max (mx f n) (f n) := rfl
theorem sm_le {f : Nat → Nat} {b : Nat} : ∀ n : Nat, (∀ k : Nat, k < n → f k ≤ b) → sm f n ≤ n * b
  | 0, _ => by simp [sm]
  | n + 1, h => by
    have h1 := sm_le n (fun k hk => h k (by omega))
    have h2 := h n (by omega)
    show sm f n + f n ≤ (n + 1) * b
    rw [Nat.succ_mul]; omega
theorem mx_le {f : Nat → Nat} {b : Nat} : ∀ n : Nat, (∀ k : Nat, k < n → f k ≤ b) → mx f n ≤ b
  | 0, _ => by simp [mx]
  | n + 1, h => by
    have h1 := mx_le n (fun k hk => h k (by omega))
    have h2 := h n (by omega)
    show max (mx f n) (f n) ≤ b
    omega
theorem sm_congr {f g : Nat → Nat} : ∀ n : Nat, (∀ k : Nat, k < n → f k = g k) → sm f n = sm g n
  | 0, _ => rfl
  | n + 1, h => by
    show sm f n + f n = sm g n + g n
    rw [sm_congr n (fun k hk => h k (by omega)), h n (by omega)]
/-- soot -/
def sootOk (S : Nat → Nat) : Prop := ∀ k : Nat, k < 96 → S (4 + k) ≤ 20
def allS (S : Nat → Nat) : Nat := sm (fun k => S (4 + k)) 96
def clnS (S : Nat → Nat) : Nat := sm (fun k => if S (4 + k) = 0 then 1 else 0) 96
/-- the wind's number: 0 to 5, or 2^32 - 5 to 2^32 - 1 -/
def windOk (w : Nat) : Prop := w ≤ 5 ∨ (2 ^ 32 - 5 ≤ w ∧ w < 2 ^ 32)
def bl (w c : Nat) : Nat := if w ≤ 5 then w - c / 2 else (2 ^ 32 - w) - (11 - c) / 2
theorem bl_le {w c : Nat} (h : windOk w) : bl w c ≤ 5 := by
  unfold bl windOk at *
  split <;> omega
/-- a day's soot, up to a place -/
def gtU (n : Nat) (S : Nat → Nat) : Nat → Nat := fun p => if 4 ≤ p ∧ p < 4 + n then min 20 (S p + (1 + bl (S 1) ((p - 4) / 8))) else S p
def gt (S : Nat → Nat) : Nat → Nat := gtU 96 S
theorem gtU_0 (S : Nat → Nat) : gtU 0 S = S := by
  funext p
  have : ¬ (4 ≤ p ∧ p < 4 + 0) := by omega
  simp only [gtU, if_neg this]
theorem gtU_lo {n : Nat} {S : Nat → Nat} {p : Nat} (h : p < 4) : gtU n S p = S p := by
  have : ¬ (4 ≤ p ∧ p < 4 + n) := by omega
  simp only [gtU, if_neg this]
theorem gtU_hi {n : Nat} {S : Nat → Nat} {p : Nat} (h : 4 + n ≤ p) : gtU n S p = S p := by
  have : ¬ (4 ≤ p ∧ p < 4 + n) := by omega
  simp only [gtU, if_neg this]
theorem gtU_s (n : Nat) (S : Nat → Nat) : up (gtU n S) (4 + n) (min 20 (S (4 + n) + (1 + bl (S 1) (n / 8)))) = gtU (n + 1) S := by
  funext p
  by_cases hp : p = 4 + n
  · subst hp
    rw [up_s]
    have : 4 ≤ 4 + n ∧ 4 + n < 4 + (n + 1) := by omega
    simp only [gtU, if_pos this]
    rw [show 4 + n - 4 = n by omega]
  · rw [up_n hp]
    by_cases h1 : 4 ≤ p ∧ p < 4 + n
    · have h2 : 4 ≤ p ∧ p < 4 + (n + 1) := by omega
      simp only [gtU, if_pos h1, if_pos h2]
    · have h2 : ¬ (4 ≤ p ∧ p < 4 + (n + 1)) := by omega
      simp only [gtU, if_neg h1, if_neg h2]
theorem gt_ok {S : Nat → Nat} : sootOk (gt S) := by
  intro k hk
  have : 4 ≤ 4 + k ∧ 4 + k < 4 + 96 := by omega
  simp only [gt, gtU, if_pos this]
  omega
/-- windows: x y w h worth of window w at T (5 w) .. -/
def winOk (T : Nat → Nat) (w : Nat) : Prop := 1 ≤ T (5 * w + 2) ∧ 1 ≤ T (5 * w + 3) ∧ T (5 * w) + T (5 * w + 2) ≤ 12 ∧ T (5 * w + 1) + T (5 * w + 3) ≤ 8 ∧ 1 ≤ T (5 * w + 4) ∧ T (5 * w + 4) ≤ 9
def colS (S T : Nat → Nat) (w c : Nat) (j : Nat) : Nat := S (4 + ((T (5 * w) + c) * 8 + (T (5 * w + 1) + j)))
def addW (S T : Nat → Nat) (w : Nat) : Nat := sm (fun c => sm (colS S T w c) (T (5 * w + 3))) (T (5 * w + 2))
def mxW (S T : Nat → Nat) (w : Nat) : Nat := mx (fun c => mx (colS S T w c) (T (5 * w + 3))) (T (5 * w + 2))
def pnW (T : Nat → Nat) (w : Nat) : Nat := T (5 * w + 2) * T (5 * w + 3)
def brW (S T : Nat → Nat) (w : Nat) : Nat := T (5 * w + 4) * pnW T w - addW S T w
def allB (S T : Nat → Nat) (n : Nat) : Nat := sm (brW S T) n
theorem col_le {S T : Nat → Nat} {w c j : Nat} (hS : sootOk S) (hT : winOk T w) (hc : c < T (5 * w + 2)) (hj : j < T (5 * w + 3)) : colS S T w c j ≤ 20 := hS _ (by unfold winOk at hT; omega)
theorem pnW_le {T : Nat → Nat} {w : Nat} (hT : winOk T w) : pnW T w ≤ 96 := by
  unfold winOk at hT
  exact Nat.mul_le_mul (show T (5 * w + 2) ≤ 12 by omega) (show T (5 * w + 3) ≤ 8 by omega)
theorem addW_le {S T : Nat → Nat} {w : Nat} (hS : sootOk S) (hT : winOk T w) : addW S T w ≤ 1920 := by
  have h1 : ∀ c, c < T (5 * w + 2) → sm (colS S T w c) (T (5 * w + 3)) ≤ 160 := fun c hc => by
    have := sm_le (f := colS S T w c) (b := 20) (T (5 * w + 3)) (fun j hj => col_le hS hT hc hj)
    unfold winOk at hT
    omega
  have h2 := sm_le (f := fun c => sm (colS S T w c) (T (5 * w + 3))) (b := 160) (T (5 * w + 2)) h1
  unfold winOk at hT
  unfold addW
  omega
theorem brW_le {S T : Nat → Nat} {w : Nat} (hT : winOk T w) : brW S T w ≤ 864 := by
  have h1 := pnW_le hT
  have h2 : T (5 * w + 4) ≤ 9 := hT.2.2.2.2.2
  have h3 : T (5 * w + 4) * pnW T w ≤ 9 * 96 := Nat.mul_le_mul h2 h1
  unfold brW
  omega
/-- ropes -/
def hung (S : Nat → Nat) (n c : Nat) : Bool := (List.range n).any (fun r => S (100 + 5 * r) == c)
theorem hung_t {S : Nat → Nat} {n c r : Nat} (hr : r < n) (h : S (100 + 5 * r) = c) : hung S n c = true := by
  unfold hung
  rw [List.any_eq_true]
  exact ⟨r, List.mem_range.mpr hr, by simp [h]⟩
theorem hung_f {S : Nat → Nat} {n c : Nat} (h : ∀ r, r < n → ¬ S (100 + 5 * r) = c) : hung S n c = false := by
  unfold hung
  rw [List.any_eq_false]
  intro r hr
  simp [h r (List.mem_range.mp hr)]
theorem hung_of {S : Nat → Nat} {n c : Nat} (h : hung S n c = true) : ∃ r, r < n ∧ S (100 + 5 * r) = c := by
  unfold hung at h
  rw [List.any_eq_true] at h
  obtain ⟨r, h1, h2⟩ := h
  exact ⟨r, List.mem_range.mp h1, by simpa using h2⟩
def cldS (S : Nat → Nat) (n : Nat) : Nat := sm (fun r => S (100 + 5 * r + 3)) n
/-- feasts -/
def feastOn (fe fo : Nat → Nat) (n d : Nat) : Bool := (List.range n).any (fun f => d % fe f == fo f)
theorem feast_t {fe fo : Nat → Nat} {n d f : Nat} (hf : f < n) (h : d % fe f = fo f) : feastOn fe fo n d = true := by
  unfold feastOn
  rw [List.any_eq_true]
  exact ⟨f, List.mem_range.mpr hf, by simp [h]⟩
theorem feast_f {fe fo : Nat → Nat} {n d : Nat} (h : ∀ f, f < n → ¬ d % fe f = fo f) : feastOn fe fo n d = false := by
  unfold feastOn
  rw [List.any_eq_false]
  intro f hf
  simp [h f (List.mem_range.mp hf)]
def feOk (fe : Nat → Nat) (n : Nat) : Prop := n ≤ 4 ∧ ∀ f : Nat, f < n → 2 ≤ fe f ∧ fe f ≤ 30
theorem gtU_s9 {n i : Nat} {S : Nat → Nat} (h : n / 8 = i) : up (gtU n S) (4 + n) (min 20 (S (4 + n) + (1 + bl (S 1) i))) = gtU (n + 1) S := by
  subst h
  exact gtU_s n S
theorem vs_cpy {S S1 : Nat → Nat} : va_cpy (vs S1) (vs S) 0 0 96 = vs S1 := by
  funext k
  by_cases hk : k < 96
  · have : 0 ≤ k ∧ k < 0 + 96 := by omega
    simp only [va_cpy, if_pos this]
    simp
  · have : ¬ (0 ≤ k ∧ k < 0 + 96) := by omega
    simp only [va_cpy, if_neg this, vs, if_neg hk]
end
section
/-! FEASTS AHEAD, WIPING, NEW WINDOWS AND ROPES, A ROPE'S DAY -/
theorem vr_q0 {q : Nat} {S : Nat → Nat} {r v : Nat} (h : q ≠ 0) (hq : q < 5) : vr q (up S (100 + 5 * r) v) = vr q S := vr_q (q' := 0) h hq (by decide)
theorem vw_q0 {n : Nat} {S : Nat → Nat} {r v : Nat} : vw n (up S (100 + 5 * r) v) = vw n S := vw_q (q' := 0) (by decide) (by decide)
def nxR (fe fo : Nat → Nat) (n d : Nat) : Nat → Nat → Int32
  | 0, _ => nIm 1
  | m + 1, k => if feastOn fe fo n (d + k) = true then nI k else nxR fe fo n d m (k + 1)
def nxF (fe fo : Nat → Nat) (n d : Nat) : Int32 := nxR fe fo n d 61 0
theorem nxR_t {fe fo : Nat → Nat} {n d m k : Nat} (h : feastOn fe fo n (d + k) = true) : nxR fe fo n d (m + 1) k = nI k := if_pos h
theorem nxR_f {fe fo : Nat → Nat} {n d m k : Nat} (h : feastOn fe fo n (d + k) = false) : nxR fe fo n d (m + 1) k = nxR fe fo n d m (k + 1) := if_neg (by rw [h]; decide)
/-- wiping: the first i columns, and j panes of the next -/
def wpU (T : Nat → Nat) (w i j : Nat) (S : Nat → Nat) : Nat → Nat := fun p => if (4 ≤ p ∧ p < 100 ∧ T (5 * w) ≤ (p - 4) / 8 ∧ T (5 * w + 1) ≤ (p - 4) % 8 ∧ (p - 4) % 8 < T (5 * w + 1) + T (5 * w + 3)) ∧ ((p - 4) / 8 < T (5 * w) + i ∨ ((p - 4) / 8 = T (5 * w) + i ∧ (p - 4) % 8 < T (5 * w + 1) + j)) then 0 else S p
def wp (S T : Nat → Nat) (w : Nat) : Nat → Nat := wpU T w (T (5 * w + 2)) 0 S
theorem wpU_0 (S T : Nat → Nat) (w : Nat) : wpU T w 0 0 S = S := by
  funext p
  have : ¬ ((4 ≤ p ∧ p < 100 ∧ T (5 * w) ≤ (p - 4) / 8 ∧ T (5 * w + 1) ≤ (p - 4) % 8 ∧ (p - 4) % 8 < T (5 * w + 1) + T (5 * w + 3)) ∧ ((p - 4) / 8 < T (5 * w) + 0 ∨ ((p - 4) / 8 = T (5 * w) + 0 ∧ (p - 4) % 8 < T (5 * w + 1) + 0))) := by omega
  simp only [wpU, if_neg this]
theorem wpU_r {S T : Nat → Nat} {w i : Nat} : wpU T w i (T (5 * w + 3)) S = wpU T w (i + 1) 0 S := by
  funext p
  unfold wpU
  split
  · next h =>
    rw [if_pos]
    omega
  · next h =>
    rw [if_neg]
    omega
theorem wpU_at {S T : Nat → Nat} {w i j : Nat} (hT : winOk T w) (hi : i < T (5 * w + 2)) (hj : j < T (5 * w + 3)) : wpU T w i j S (4 + ((T (5 * w) + i) * 8 + (T (5 * w + 1) + j))) = colS S T w i j := by
  unfold winOk at hT
  have h1 : (4 + ((T (5 * w) + i) * 8 + (T (5 * w + 1) + j)) - 4) / 8 = T (5 * w) + i := by omega
  have h2 : (4 + ((T (5 * w) + i) * 8 + (T (5 * w + 1) + j)) - 4) % 8 = T (5 * w + 1) + j := by omega
  unfold wpU
  rw [if_neg]
  · rfl
  · rw [h1, h2]; omega
theorem wpU_s {S T : Nat → Nat} {w i j v : Nat} (hT : winOk T w) (hi : i < T (5 * w + 2)) (hj : j < T (5 * w + 3)) (hv : v = 0) : up (wpU T w i j S) (4 + ((T (5 * w) + i) * 8 + (T (5 * w + 1) + j))) v = wpU T w i (j + 1) S := by
  subst hv
  unfold winOk at hT
  have h1 : (4 + ((T (5 * w) + i) * 8 + (T (5 * w + 1) + j)) - 4) / 8 = T (5 * w) + i := by omega
  have h2 : (4 + ((T (5 * w) + i) * 8 + (T (5 * w + 1) + j)) - 4) % 8 = T (5 * w + 1) + j := by omega
  funext p
  by_cases hp : p = 4 + ((T (5 * w) + i) * 8 + (T (5 * w + 1) + j))
  · subst hp
    rw [up_s]
    unfold wpU
    rw [if_pos]
    rw [h1, h2]; omega
  · rw [up_n hp]
    unfold wpU
    have : ((4 ≤ p ∧ p < 100 ∧ T (5 * w) ≤ (p - 4) / 8 ∧ T (5 * w + 1) ≤ (p - 4) % 8 ∧ (p - 4) % 8 < T (5 * w + 1) + T (5 * w + 3)) ∧ ((p - 4) / 8 < T (5 * w) + i ∨ ((p - 4) / 8 = T (5 * w) + i ∧ (p - 4) % 8 < T (5 * w + 1) + j))) ↔ ((4 ≤ p ∧ p < 100 ∧ T (5 * w) ≤ (p - 4) / 8 ∧ T (5 * w + 1) ≤ (p - 4) % 8 ∧ (p - 4) % 8 < T (5 * w + 1) + T (5 * w + 3)) ∧ ((p - 4) / 8 < T (5 * w) + i ∨ ((p - 4) / 8 = T (5 * w) + i ∧ (p - 4) % 8 < T (5 * w + 1) + (j + 1)))) := by omega
    simp only [this]
theorem wpU_ok {S T : Nat → Nat} {w i j : Nat} (h : sootOk S) : sootOk (wpU T w i j S) := by
  intro k hk
  unfold wpU
  split
  · omega
  · exact h k hk
/-- a window's numbers written -/
def ptT (T : Nat → Nat) (n x y w h o : Nat) : Nat → Nat := up (up (up (up (up T (5 * n) x) (5 * n + 1) y) (5 * n + 2) w) (5 * n + 3) h) (5 * n + 4) o
theorem vt_p0 {T : Nat → Nat} {n x y w h o : Nat} (hn : n < 6) : upd (vt 0 T) n (nI x) = vt 0 (ptT T n x y w h o) := by
  funext k
  by_cases hk : k = n
  · subst hk; simp [upd, vt, ptT, up, hn]
  · simp only [upd, if_neg hk, vt, ptT, up]
    congr 1
    simp (disch := omega) only [if_neg]
theorem vt_p1 {T : Nat → Nat} {n x y w h o : Nat} (hn : n < 6) : upd (vt 1 T) n (nI y) = vt 1 (ptT T n x y w h o) := by
  funext k
  by_cases hk : k = n
  · subst hk; simp [upd, vt, ptT, up, hn]
  · simp only [upd, if_neg hk, vt, ptT, up]
    congr 1
    simp (disch := omega) only [if_neg]
theorem vt_p2 {T : Nat → Nat} {n x y w h o : Nat} (hn : n < 6) : upd (vt 2 T) n (nI w) = vt 2 (ptT T n x y w h o) := by
  funext k
  by_cases hk : k = n
  · subst hk; simp [upd, vt, ptT, up, hn]
  · simp only [upd, if_neg hk, vt, ptT, up]
    congr 1
    simp (disch := omega) only [if_neg]
theorem vt_p3 {T : Nat → Nat} {n x y w h o : Nat} (hn : n < 6) : upd (vt 3 T) n (nI h) = vt 3 (ptT T n x y w h o) := by
  funext k
  by_cases hk : k = n
  · subst hk; simp [upd, vt, ptT, up, hn]
  · simp only [upd, if_neg hk, vt, ptT, up]
    congr 1
    simp (disch := omega) only [if_neg]
theorem vt_p4 {T : Nat → Nat} {n x y w h o : Nat} (hn : n < 6) : upd (vt 4 T) n (nI o) = vt 4 (ptT T n x y w h o) := by
  funext k
  by_cases hk : k = n
  · subst hk; simp [upd, vt, ptT, up, hn]
  · simp only [upd, if_neg hk, vt, ptT, up]
    congr 1
    simp (disch := omega) only [if_neg]
/-- what about() tells -/
def abt (S T : Nat → Nat) (w what : Nat) : Nat := if what = 5 then addW S T w else if what = 6 then mxW S T w else if what = 7 then brW S T w else T (5 * w + what)
/-- a mix of two rows -/
def mixF (j : Nat) (f g : Nat → Int32) : Nat → Int32 := fun k => if k < j then f k else g k
theorem mixF_0 (f g : Nat → Int32) : mixF 0 f g = g := by funext k; simp [mixF]
theorem mixF_s {j : Nat} {f g : Nat → Int32} : upd (mixF j f g) j (f j) = mixF (j + 1) f g := by
  funext k
  by_cases hk : k = j
  · subst hk; simp [upd, mixF]
  · have : k < j ↔ k < j + 1 := by omega
    simp [upd, mixF, hk, this]
theorem mixF_e {f g : Nat → Int32} (h : ∀ k, 6 ≤ k → f k = g k) : mixF 6 f g = f := by
  funext k
  by_cases hk : k < 6
  · simp [mixF, hk]
  · simp [mixF, hk, h k (by omega)]
theorem mixF_r {q : Nat} {S S1 : Nat → Nat} : mixF 6 (vr q S) (vr q S1) = vr q S := by
  apply mixF_e
  intro k hk
  have : ¬ k < 6 := by omega
  simp [vr, this]
theorem mixF_6 {S S1 : Nat → Nat} : mixF 6 (v6 S) (v6 S1) = v6 S := by
  apply mixF_e
  intro k hk
  have : ¬ k < 6 := by omega
  simp [v6, this]
theorem mixF_w {n n1 : Nat} {S S1 : Nat → Nat} (h : n ≤ 6) (h1 : n1 ≤ 6) : mixF 6 (vw n S) (vw n1 S1) = vw n S := by
  apply mixF_e
  intro k hk
  have e1 : ¬ k < n := by omega
  have e2 : ¬ k < n1 := by omega
  simp [vw, e1, e2]
theorem vw_nar (n : Nat) (S : Nat → Nat) (j : Nat) : vp_nar .boolean (vw n S j) = vw n S j := by
  unfold vw
  split
  · rcases (show 1 - S (100 + 5 * j + 2) = 0 ∨ 1 - S (100 + 5 * j + 2) = 1 by omega) with h | h <;> rw [h] <;> rfl
  · rfl
/-- a new rope -/
def ptR (S : Nat → Nat) (n x wy : Nat) : Nat → Nat := up (up S (100 + 5 * n) x) (100 + 5 * n + 2) wy
theorem vr_p0 {S : Nat → Nat} {n x wy : Nat} (hn : n < 6) : upd (vr 0 S) n (nI x) = vr 0 (ptR S n x wy) := by
  unfold ptR
  rw [vr_q (by decide) (by decide) (by decide)]
  exact vr_up hn
theorem vr_po {S : Nat → Nat} {q n x wy : Nat} (h0 : q ≠ 0) (h2 : q ≠ 2) (hq : q < 5) : vr q (ptR S n x wy) = vr q S := by
  unfold ptR
  rw [vr_q h2 hq (by decide)]
  exact vr_q (q' := 0) h0 hq (by decide)
theorem vs_p {S : Nat → Nat} {n x wy : Nat} : vs (ptR S n x wy) = vs S := by
  unfold ptR
  rw [vs_o (by omega), vs_o (by omega)]
theorem vw_p {S : Nat → Nat} {n x wy : Nat} (hw : wy ≤ 1) : upd (vw n S) n (vp_nar .boolean (nI (1 - wy))) = vw (n + 1) (ptR S n x wy) := by
  have hb : vp_nar .boolean (nI (1 - wy)) = nI (1 - wy) := by
    rcases (show wy = 0 ∨ wy = 1 by omega) with rfl | rfl <;> rfl
  rw [hb]
  funext k
  by_cases hk : k = n
  · subst hk; simp [upd, vw, ptR, up]
  · have h1 : k < n ↔ k < n + 1 := by omega
    have h2 : ¬ 100 + 5 * k + 2 = 100 + 5 * n + 2 := by omega
    have h3 : ¬ 100 + 5 * k + 2 = 100 + 5 * n := by omega
    have h4 : ¬ 5 * k = 5 * n := by omega
    simp [upd, vw, ptR, up, hk, h1, h3, h4]
/-- what told() tells -/
def tld (S st : Nat → Nat) (r what : Nat) : Nat := if what = 0 then S (100 + 5 * r) else if what = 1 then S (100 + 5 * r + 1) else if what = 2 then st r else if what = 3 then S (100 + 5 * r + 2) else if what = 4 then S (100 + 5 * r + 3) else S (100 + 5 * r + 4)
/-- a rope is moved -/
def reh (S : Nat → Nat) (r x : Nat) : Nat → Nat := up (up (up S (100 + 5 * r) x) (100 + 5 * r + 1) 0) (100 + 5 * r + 4) (S (100 + 5 * r + 4) + 1)
theorem reh_0 {S : Nat → Nat} {r x : Nat} (h : r < 6) : upd (vr 0 S) r (nI x) = vr 0 (reh S r x) := by
  unfold reh
  rw [vr_q (by decide) (by decide) (by decide), vr_q (by decide) (by decide) (by decide)]
  exact vr_up h
theorem reh_1 {S : Nat → Nat} {r x : Nat} (h : r < 6) : upd (vr 1 S) r (nI 0) = vr 1 (reh S r x) := by
  unfold reh
  rw [vr_q (by decide) (by decide) (by decide), ← vr_up h, vr_q0 (by decide) (by decide)]
theorem reh_4 {S : Nat → Nat} {r x : Nat} (h : r < 6) : upd (vr 4 S) r (nI (S (100 + 5 * r + 4) + 1)) = vr 4 (reh S r x) := by
  unfold reh
  rw [← vr_up h, vr_q (by decide) (by decide) (by decide), vr_q0 (by decide) (by decide)]
theorem reh_3 {S : Nat → Nat} {r x : Nat} : vr 3 (reh S r x) = vr 3 S := by
  unfold reh
  rw [vr_q (by decide) (by decide) (by decide), vr_q (by decide) (by decide) (by decide), vr_q0 (by decide) (by decide)]
theorem reh_w {n : Nat} {S : Nat → Nat} {r x : Nat} : vw n (reh S r x) = vw n S := by
  unfold reh
  rw [vw_q (by decide) (by decide), vw_q (by decide) (by decide), vw_q0]
theorem reh_s {S : Nat → Nat} {r x : Nat} : vs (reh S r x) = vs S := by
  unfold reh
  rw [vs_o (by omega), vs_o (by omega), vs_o (by omega)]
theorem reh_lo {S : Nat → Nat} {r x k : Nat} (h : k < 100) : reh S r x k = S k := by
  unfold reh
  rw [up_n (by omega), up_n (by omega), up_n (by omega)]
/-- the next column of its way at which none hangs -/
def wyS (S : Nat → Nat) (r : Nat) : Nat := if S (100 + 5 * r + 2) = 0 then 1 else 11
def nfR (S : Nat → Nat) (n r : Nat) : Nat → Nat → Nat
  | 0, _ => S (100 + 5 * r)
  | k + 1, x => if hung S n ((x + wyS S r) % 12) = true then nfR S n r k ((x + wyS S r) % 12) else (x + wyS S r) % 12
def nfc (S : Nat → Nat) (n r : Nat) : Nat := nfR S n r 11 (S (100 + 5 * r))
def cyc (S : Nat → Nat) (r : Nat) : Nat → Nat
  | 0 => S (100 + 5 * r)
  | k + 1 => (cyc S r k + wyS S r) % 12
theorem cyc_lt {S : Nat → Nat} {r : Nat} (h : S (100 + 5 * r) < 12) : ∀ k : Nat, cyc S r k < 12
  | 0 => h
  | k + 1 => Nat.mod_lt _ (by decide)
theorem wyS_le (S : Nat → Nat) (r : Nat) : wyS S r ≤ 11 := by unfold wyS; split <;> omega
theorem nfR_lt {S : Nat → Nat} {n r : Nat} (h : S (100 + 5 * r) < 12) : ∀ k x : Nat, nfR S n r k x < 12
  | 0, _ => h
  | k + 1, x => by
    unfold nfR
    split
    · exact nfR_lt h k _
    · exact Nat.mod_lt _ (by decide)
theorem nfR_t {S : Nat → Nat} {n r k x : Nat} (h : hung S n ((x + wyS S r) % 12) = true) : nfR S n r (k + 1) x = nfR S n r k ((x + wyS S r) % 12) := if_pos h
theorem nfR_f {S : Nat → Nat} {n r k x : Nat} (h : hung S n ((x + wyS S r) % 12) = false) : nfR S n r (k + 1) x = (x + wyS S r) % 12 := if_neg (by rw [h]; decide)
/-- all is well: soot, columns, rows, ways -/
def Gw (S : Nat → Nat) (n : Nat) : Prop := n ≤ 6 ∧ sootOk S ∧ ∀ r : Nat, r < n → S (100 + 5 * r) < 12 ∧ S (100 + 5 * r + 1) < 8 ∧ S (100 + 5 * r + 2) ≤ 1
/-- a rope's cleaner takes soot off his pane -/
def pnR (S : Nat → Nat) (r : Nat) : Nat := 4 + (S (100 + 5 * r) * 8 + S (100 + 5 * r + 1))
def ofR (S : Nat → Nat) (r lf : Nat) : Nat := min lf (S (pnR S r))
def tkS (S : Nat → Nat) (r lf : Nat) : Nat → Nat := up (up S (pnR S r) (S (pnR S r) - ofR S r lf)) (100 + 5 * r + 3) (S (100 + 5 * r + 3) + ofR S r lf)
def dnS (S : Nat → Nat) (r : Nat) : Nat → Nat := up S (100 + 5 * r + 1) (S (100 + 5 * r + 1) + 1)
def wk (n r : Nat) : Nat → Nat → (Nat → Nat) → Nat → Nat
  | 0, _, S => S
  | k + 1, lf, S => if lf = 0 then S else if lf - ofR S r lf = 0 then tkS S r lf else if S (100 + 5 * r + 1) < 7 then wk n r k (lf - ofR S r lf - 1) (dnS (tkS S r lf) r) else if lf - ofR S r lf < 3 then tkS S r lf else wk n r k (lf - ofR S r lf - 3) (reh (tkS S r lf) r (nfc (tkS S r lf) n r))
def wkA (n : Nat) (st : Nat → Nat) (S : Nat → Nat) : Nat → Nat → Nat
  | 0 => S
  | r + 1 => wk n r 31 (st r) (wkA n st S r)
theorem tkS_0 (S : Nat → Nat) (r : Nat) : tkS S r 0 = S := by
  have h : ofR S r 0 = 0 := Nat.min_eq_left (Nat.zero_le _)
  unfold tkS
  rw [h, Nat.sub_zero, up_id]
  exact up_id S _
theorem wk_0 (n r k : Nat) (S : Nat → Nat) : wk n r k 0 S = S := by
  cases k with
  | zero => rfl
  | succ k => exact if_pos rfl
theorem wk_stop {n r k lf : Nat} {S : Nat → Nat} (h : lf - ofR S r lf = 0) : wk n r (k + 1) lf S = tkS S r lf := by
  by_cases h0 : lf = 0
  · subst h0; rw [wk_0, tkS_0]
  · show (if lf = 0 then S else _) = _
    rw [if_neg h0, if_pos h]
theorem wk_down {n r k lf : Nat} {S : Nat → Nat} (h : ¬ lf - ofR S r lf = 0) (hr : S (100 + 5 * r + 1) < 7) : wk n r (k + 1) lf S = wk n r k (lf - ofR S r lf - 1) (dnS (tkS S r lf) r) := by
  have h0 : ¬ lf = 0 := fun z => h (by omega)
  show (if lf = 0 then S else _) = _
  rw [if_neg h0, if_neg h, if_pos hr]
theorem wk_end {n r k lf : Nat} {S : Nat → Nat} (h : ¬ lf - ofR S r lf = 0) (hr : ¬ S (100 + 5 * r + 1) < 7) (h3 : lf - ofR S r lf < 3) : wk n r (k + 1) lf S = tkS S r lf := by
  have h0 : ¬ lf = 0 := fun z => h (by omega)
  show (if lf = 0 then S else _) = _
  rw [if_neg h0, if_neg h, if_neg hr, if_pos h3]
theorem wk_move {n r k lf : Nat} {S : Nat → Nat} (h : ¬ lf - ofR S r lf = 0) (hr : ¬ S (100 + 5 * r + 1) < 7) (h3 : ¬ lf - ofR S r lf < 3) : wk n r (k + 1) lf S = wk n r k (lf - ofR S r lf - 3) (reh (tkS S r lf) r (nfc (tkS S r lf) n r)) := by
  have h0 : ¬ lf = 0 := fun z => h (by omega)
  show (if lf = 0 then S else _) = _
  rw [if_neg h0, if_neg h, if_neg hr, if_neg h3]
theorem pnR_lt {S : Nat → Nat} {n r : Nat} (h : Gw S n) (hr : r < n) : 4 ≤ pnR S r ∧ pnR S r < 100 := by
  have := h.2.2 r hr
  unfold pnR; omega
theorem tkS_hi {S : Nat → Nat} {n r lf k : Nat} (h : Gw S n) (hr : r < n) (hk : 100 ≤ k) (h3 : k ≠ 100 + 5 * r + 3) : tkS S r lf k = S k := by
  have := pnR_lt h hr
  unfold tkS
  rw [up_n h3, up_n (by omega)]
theorem tkS_gw {S : Nat → Nat} {n r lf : Nat} (h : Gw S n) (hr : r < n) : Gw (tkS S r lf) n := by
  refine ⟨h.1, fun k hk => ?_, fun q hq => ?_⟩
  · unfold tkS
    rw [up_n (by omega)]
    by_cases hp : 4 + k = pnR S r
    · rw [hp, up_s]
      have := h.2.1 k hk
      rw [hp] at this
      omega
    · rw [up_n hp]; exact h.2.1 k hk
  · rw [tkS_hi h hr (by omega) (by omega), tkS_hi h hr (by omega) (by omega), tkS_hi h hr (by omega) (by omega)]
    exact h.2.2 q hq
theorem dnS_gw {S : Nat → Nat} {n r : Nat} (h : Gw S n) (hr : S (100 + 5 * r + 1) < 7) : Gw (dnS S r) n := by
  refine ⟨h.1, fun k hk => ?_, fun q hq => ?_⟩
  · unfold dnS; rw [up_n (by omega)]; exact h.2.1 k hk
  · have := h.2.2 q hq
    unfold dnS
    rw [up_n (by omega), up_n (j := 100 + 5 * q + 2) (by omega)]
    by_cases hq2 : q = r
    · subst hq2; rw [up_s]; omega
    · rw [up_n (by omega)]; exact this
theorem reh_gw {S : Nat → Nat} {n r x : Nat} (h : Gw S n) (hx : x < 12) : Gw (reh S r x) n := by
  refine ⟨h.1, fun k hk => ?_, fun q hq => ?_⟩
  · rw [reh_lo (by omega)]; exact h.2.1 k hk
  · have := h.2.2 q hq
    unfold reh
    rw [up_n (by omega), up_n (j := 100 + 5 * q) (by omega), up_n (j := 100 + 5 * q + 1) (by omega), up_n (j := 100 + 5 * q + 2) (by omega), up_n (j := 100 + 5 * q + 2) (by omega), up_n (j := 100 + 5 * q + 2) (by omega)]
    by_cases hq2 : q = r
    · subst hq2; rw [up_s, up_s]; omega
    · rw [up_n (j := 100 + 5 * q) (by omega), up_n (j := 100 + 5 * q + 1) (by omega), up_n (j := 100 + 5 * q + 1) (by omega)]; exact this
theorem wk_gw (n r : Nat) (hr : r < n) : ∀ (k lf : Nat) (S : Nat → Nat), Gw S n → Gw (wk n r k lf S) n
  | 0, _, _, h => h
  | k + 1, lf, S, h => by
    have h1 := tkS_gw (lf := lf) h hr
    unfold wk
    split
    · exact h
    · split
      · exact h1
      · split
        · next h7 => exact wk_gw n r hr k _ _ (dnS_gw h1 (by rw [tkS_hi h hr (by omega) (by omega)]; exact h7))
        · split
          · exact h1
          · exact wk_gw n r hr k _ _ (reh_gw h1 (nfR_lt (h1.2.2 r hr).1 _ _))
theorem wkA_gw {n : Nat} {st S : Nat → Nat} (h : Gw S n) : ∀ r : Nat, r ≤ n → Gw (wkA n st S r) n
  | 0, _ => h
  | r + 1, hr => wk_gw n r (by omega) 31 (st r) _ (wkA_gw h r (by omega))
/-- the views behind a cleaning -/
theorem tk_s {S : Nat → Nat} {r lf : Nat} : vs (tkS S r lf) = vs (up S (pnR S r) (S (pnR S r) - ofR S r lf)) := vs_o (by omega)
theorem tk_3 {S : Nat → Nat} {n r lf : Nat} (h : Gw S n) (hr : r < n) : upd (vr 3 S) r (nI (S (100 + 5 * r + 3) + ofR S r lf)) = vr 3 (tkS S r lf) := by
  have h1 := pnR_lt h hr
  have h6 : r < 6 := by have := h.1; omega
  unfold tkS
  rw [← vr_up h6, vr_o (by omega)]
theorem tk_q {S : Nat → Nat} {n q r lf : Nat} (h : Gw S n) (hr : r < n) (h3 : q ≠ 3) (hq : q < 5) : vr q (tkS S r lf) = vr q S := by
  have h1 := pnR_lt h hr
  unfold tkS
  rw [vr_q h3 hq (by decide), vr_o (by omega)]
theorem tk_w {S : Nat → Nat} {n q r lf : Nat} (h : Gw S n) (hr : r < n) : vw q (tkS S r lf) = vw q S := by
  have h1 := pnR_lt h hr
  unfold tkS
  rw [vw_q (by decide) (by decide), vw_o (by omega)]
theorem dn_1 {S : Nat → Nat} {r : Nat} (h : r < 6) : upd (vr 1 S) r (nI (S (100 + 5 * r + 1) + 1)) = vr 1 (dnS S r) := vr_up h
theorem dn_q {S : Nat → Nat} {q r : Nat} (h1 : q ≠ 1) (hq : q < 5) : vr q (dnS S r) = vr q S := vr_q h1 hq (by decide)
theorem dn_w {S : Nat → Nat} {n r : Nat} : vw n (dnS S r) = vw n S := vw_q (by decide) (by decide)
theorem dn_s {S : Nat → Nat} {r : Nat} : vs (dnS S r) = vs S := vs_o (by omega)
end
