section
-- ===== PART A: goes FIRST, ahead of the names: the tables' words, and 'selects' of the private methods out of them =====
/-- a private method of a class that the tables say can be made, by its rows of tables_1 -/
def lw_okq (q : MethodName × Nat) : Prop := (q.1.cls ≠ "java/lang/invoke/MethodHandle" ∧ q.1.cls ≠ "java/lang/invoke/VarHandle") ∧ Cond.instantiable q.1.cls q.2 ∈ tables_1 ∧ Cond.privateMethod q.1 ∈ tables_1 ∧ Cond.instanceMethod q.1 ∈ tables_1
theorem lw_p0 : lw_okq (⟨"GlassRopes", "number", "(I)I"⟩, 4) := ⟨⟨by decide +kernel, by decide +kernel⟩, List.mem_of_getElem? (i := 17) (by decide +kernel), List.mem_of_getElem? (i := 182) (by decide +kernel), List.mem_of_getElem? (i := 183) (by decide +kernel)⟩
theorem lw_p1 : lw_okq (⟨"GlassRopes$Windows", "brings", "(ILGlassRopes$Glass;)I"⟩, 6) := ⟨⟨by decide +kernel, by decide +kernel⟩, List.mem_of_getElem? (i := 25) (by decide +kernel), List.mem_of_getElem? (i := 198) (by decide +kernel), List.mem_of_getElem? (i := 199) (by decide +kernel)⟩
theorem lw_p2 : lw_okq (⟨"GlassRopes$Windows", "panes", "(I)I"⟩, 6) := ⟨⟨by decide +kernel, by decide +kernel⟩, List.mem_of_getElem? (i := 25) (by decide +kernel), List.mem_of_getElem? (i := 202) (by decide +kernel), List.mem_of_getElem? (i := 203) (by decide +kernel)⟩
theorem lw_p3 : lw_okq (⟨"GlassRopes$Windows", "added", "(ILGlassRopes$Glass;)I"⟩, 6) := ⟨⟨by decide +kernel, by decide +kernel⟩, List.mem_of_getElem? (i := 25) (by decide +kernel), List.mem_of_getElem? (i := 206) (by decide +kernel), List.mem_of_getElem? (i := 207) (by decide +kernel)⟩
theorem lw_p4 : lw_okq (⟨"GlassRopes$Windows", "darkest", "(ILGlassRopes$Glass;)I"⟩, 6) := ⟨⟨by decide +kernel, by decide +kernel⟩, List.mem_of_getElem? (i := 25) (by decide +kernel), List.mem_of_getElem? (i := 221) (by decide +kernel), List.mem_of_getElem? (i := 222) (by decide +kernel)⟩
theorem lw_p5 : lw_okq (⟨"java/lang/Throwable", "fillInStackTrace", "(I)Ljava/lang/Throwable;"⟩, 6) := ⟨⟨by decide +kernel, by decide +kernel⟩, List.mem_of_getElem? (i := 278) (by decide +kernel), List.mem_of_getElem? (i := 276) (by decide +kernel), List.mem_of_getElem? (i := 277) (by decide +kernel)⟩
theorem lw_p6 : lw_okq (⟨"GlassRopes", "isRope", "(I)Z"⟩, 4) := ⟨⟨by decide +kernel, by decide +kernel⟩, List.mem_of_getElem? (i := 17) (by decide +kernel), List.mem_of_getElem? (i := 393) (by decide +kernel), List.mem_of_getElem? (i := 394) (by decide +kernel)⟩
theorem lw_p7 : lw_okq (⟨"GlassRopes", "isWindow", "(I)Z"⟩, 4) := ⟨⟨by decide +kernel, by decide +kernel⟩, List.mem_of_getElem? (i := 17) (by decide +kernel), List.mem_of_getElem? (i := 418) (by decide +kernel), List.mem_of_getElem? (i := 419) (by decide +kernel)⟩
theorem lw_p8 : lw_okq (⟨"GlassRopes$Ropes", "workOnOne", "(ILGlassRopes$Glass;)V"⟩, 7) := ⟨⟨by decide +kernel, by decide +kernel⟩, List.mem_of_getElem? (i := 85) (by decide +kernel), List.mem_of_getElem? (i := 464) (by decide +kernel), List.mem_of_getElem? (i := 465) (by decide +kernel)⟩
theorem lw_p9 : lw_okq (⟨"GlassRopes$Ropes", "nextFreeColumn", "(I)I"⟩, 7) := ⟨⟨by decide +kernel, by decide +kernel⟩, List.mem_of_getElem? (i := 85) (by decide +kernel), List.mem_of_getElem? (i := 469) (by decide +kernel), List.mem_of_getElem? (i := 470) (by decide +kernel)⟩
theorem lw_p10 : lw_okq (⟨"GlassRopes", "coinsBehind", "(III)I"⟩, 4) := ⟨⟨by decide +kernel, by decide +kernel⟩, List.mem_of_getElem? (i := 17) (by decide +kernel), List.mem_of_getElem? (i := 557) (by decide +kernel), List.mem_of_getElem? (i := 558) (by decide +kernel)⟩
theorem lw_p11 : lw_okq (⟨"GlassRopesModel", "fail", "(I)I"⟩, 10) := ⟨⟨by decide +kernel, by decide +kernel⟩, List.mem_of_getElem? (i := 561) (by decide +kernel), List.mem_of_getElem? (i := 609) (by decide +kernel), List.mem_of_getElem? (i := 610) (by decide +kernel)⟩
theorem lw_p12 : lw_okq (⟨"GlassRopesModel", "isHung", "(I)Z"⟩, 10) := ⟨⟨by decide +kernel, by decide +kernel⟩, List.mem_of_getElem? (i := 561) (by decide +kernel), List.mem_of_getElem? (i := 618) (by decide +kernel), List.mem_of_getElem? (i := 619) (by decide +kernel)⟩
theorem lw_p13 : lw_okq (⟨"GlassRopesModel", "ro", "(II)I"⟩, 10) := ⟨⟨by decide +kernel, by decide +kernel⟩, List.mem_of_getElem? (i := 561) (by decide +kernel), List.mem_of_getElem? (i := 622) (by decide +kernel), List.mem_of_getElem? (i := 623) (by decide +kernel)⟩
theorem lw_p14 : lw_okq (⟨"GlassRopesModel", "let", "(III)V"⟩, 10) := ⟨⟨by decide +kernel, by decide +kernel⟩, List.mem_of_getElem? (i := 561) (by decide +kernel), List.mem_of_getElem? (i := 626) (by decide +kernel), List.mem_of_getElem? (i := 627) (by decide +kernel)⟩
theorem lw_p15 : lw_okq (⟨"GlassRopesModel", "isRope", "(I)Z"⟩, 10) := ⟨⟨by decide +kernel, by decide +kernel⟩, List.mem_of_getElem? (i := 561) (by decide +kernel), List.mem_of_getElem? (i := 642) (by decide +kernel), List.mem_of_getElem? (i := 643) (by decide +kernel)⟩
def lw_privs_1 : List (MethodName × Nat) := [(⟨"GlassRopes", "number", "(I)I"⟩, 4), (⟨"GlassRopes$Windows", "brings", "(ILGlassRopes$Glass;)I"⟩, 6), (⟨"GlassRopes$Windows", "panes", "(I)I"⟩, 6), (⟨"GlassRopes$Windows", "added", "(ILGlassRopes$Glass;)I"⟩, 6), (⟨"GlassRopes$Windows", "darkest", "(ILGlassRopes$Glass;)I"⟩, 6), (⟨"java/lang/Throwable", "fillInStackTrace", "(I)Ljava/lang/Throwable;"⟩, 6), (⟨"GlassRopes", "isRope", "(I)Z"⟩, 4), (⟨"GlassRopes", "isWindow", "(I)Z"⟩, 4), (⟨"GlassRopes$Ropes", "workOnOne", "(ILGlassRopes$Glass;)V"⟩, 7), (⟨"GlassRopes$Ropes", "nextFreeColumn", "(I)I"⟩, 7), (⟨"GlassRopes", "coinsBehind", "(III)I"⟩, 4), (⟨"GlassRopesModel", "fail", "(I)I"⟩, 10), (⟨"GlassRopesModel", "isHung", "(I)Z"⟩, 10), (⟨"GlassRopesModel", "ro", "(II)I"⟩, 10), (⟨"GlassRopesModel", "let", "(III)V"⟩, 10), (⟨"GlassRopesModel", "isRope", "(I)Z"⟩, 10)]
theorem lw_r1 : ∀ q ∈ lw_privs_1, lw_okq q := List.forall_mem_cons.mpr ⟨lw_p0, List.forall_mem_cons.mpr ⟨lw_p1, List.forall_mem_cons.mpr ⟨lw_p2, List.forall_mem_cons.mpr ⟨lw_p3, List.forall_mem_cons.mpr ⟨lw_p4, List.forall_mem_cons.mpr ⟨lw_p5, List.forall_mem_cons.mpr ⟨lw_p6, List.forall_mem_cons.mpr ⟨lw_p7, List.forall_mem_cons.mpr ⟨lw_p8, List.forall_mem_cons.mpr ⟨lw_p9, List.forall_mem_cons.mpr ⟨lw_p10, List.forall_mem_cons.mpr ⟨lw_p11, List.forall_mem_cons.mpr ⟨lw_p12, List.forall_mem_cons.mpr ⟨lw_p13, List.forall_mem_cons.mpr ⟨lw_p14, List.forall_mem_cons.mpr ⟨lw_p15, fun _ h => absurd h List.not_mem_nil⟩⟩⟩⟩⟩⟩⟩⟩⟩⟩⟩⟩⟩⟩⟩⟩
theorem lw_p16 : lw_okq (⟨"GlassRopesModel", "hang", "(II)V"⟩, 10) := ⟨⟨by decide +kernel, by decide +kernel⟩, List.mem_of_getElem? (i := 561) (by decide +kernel), List.mem_of_getElem? (i := 646) (by decide +kernel), List.mem_of_getElem? (i := 647) (by decide +kernel)⟩
theorem lw_p17 : lw_okq (⟨"GlassRopesModel", "isWindow", "(I)Z"⟩, 10) := ⟨⟨by decide +kernel, by decide +kernel⟩, List.mem_of_getElem? (i := 561) (by decide +kernel), List.mem_of_getElem? (i := 658) (by decide +kernel), List.mem_of_getElem? (i := 659) (by decide +kernel)⟩
theorem lw_p18 : lw_okq (⟨"GlassRopesModel", "wi", "(II)I"⟩, 10) := ⟨⟨by decide +kernel, by decide +kernel⟩, List.mem_of_getElem? (i := 561) (by decide +kernel), List.mem_of_getElem? (i := 662) (by decide +kernel), List.mem_of_getElem? (i := 663) (by decide +kernel)⟩
theorem lw_p19 : lw_okq (⟨"GlassRopesModel", "daysOn", "(I)V"⟩, 10) := ⟨⟨by decide +kernel, by decide +kernel⟩, List.mem_of_getElem? (i := 561) (by decide +kernel), List.mem_of_getElem? (i := 673) (by decide +kernel), List.mem_of_getElem? (i := 674) (by decide +kernel)⟩
theorem lw_p20 : lw_okq (⟨"GlassRopesModel", "dayOn", "()V"⟩, 10) := ⟨⟨by decide +kernel, by decide +kernel⟩, List.mem_of_getElem? (i := 561) (by decide +kernel), List.mem_of_getElem? (i := 677) (by decide +kernel), List.mem_of_getElem? (i := 678) (by decide +kernel)⟩
theorem lw_p21 : lw_okq (⟨"GlassRopesModel", "blown", "(I)I"⟩, 10) := ⟨⟨by decide +kernel, by decide +kernel⟩, List.mem_of_getElem? (i := 561) (by decide +kernel), List.mem_of_getElem? (i := 681) (by decide +kernel), List.mem_of_getElem? (i := 682) (by decide +kernel)⟩
theorem lw_p22 : lw_okq (⟨"GlassRopesModel", "isFeastOn", "(I)Z"⟩, 10) := ⟨⟨by decide +kernel, by decide +kernel⟩, List.mem_of_getElem? (i := 561) (by decide +kernel), List.mem_of_getElem? (i := 687) (by decide +kernel), List.mem_of_getElem? (i := 688) (by decide +kernel)⟩
theorem lw_p23 : lw_okq (⟨"GlassRopesModel", "allBring", "()I"⟩, 10) := ⟨⟨by decide +kernel, by decide +kernel⟩, List.mem_of_getElem? (i := 561) (by decide +kernel), List.mem_of_getElem? (i := 691) (by decide +kernel), List.mem_of_getElem? (i := 692) (by decide +kernel)⟩
theorem lw_p24 : lw_okq (⟨"GlassRopesModel", "brings", "(I)I"⟩, 10) := ⟨⟨by decide +kernel, by decide +kernel⟩, List.mem_of_getElem? (i := 561) (by decide +kernel), List.mem_of_getElem? (i := 695) (by decide +kernel), List.mem_of_getElem? (i := 696) (by decide +kernel)⟩
theorem lw_p25 : lw_okq (⟨"GlassRopesModel", "panes", "(I)I"⟩, 10) := ⟨⟨by decide +kernel, by decide +kernel⟩, List.mem_of_getElem? (i := 561) (by decide +kernel), List.mem_of_getElem? (i := 699) (by decide +kernel), List.mem_of_getElem? (i := 700) (by decide +kernel)⟩
theorem lw_p26 : lw_okq (⟨"GlassRopesModel", "sootOf", "(IZ)I"⟩, 10) := ⟨⟨by decide +kernel, by decide +kernel⟩, List.mem_of_getElem? (i := 561) (by decide +kernel), List.mem_of_getElem? (i := 703) (by decide +kernel), List.mem_of_getElem? (i := 704) (by decide +kernel)⟩
theorem lw_p27 : lw_okq (⟨"GlassRopesModel", "work", "(I)V"⟩, 10) := ⟨⟨by decide +kernel, by decide +kernel⟩, List.mem_of_getElem? (i := 561) (by decide +kernel), List.mem_of_getElem? (i := 707) (by decide +kernel), List.mem_of_getElem? (i := 708) (by decide +kernel)⟩
theorem lw_p28 : lw_okq (⟨"GlassRopesModel", "moveOn", "(I)V"⟩, 10) := ⟨⟨by decide +kernel, by decide +kernel⟩, List.mem_of_getElem? (i := 561) (by decide +kernel), List.mem_of_getElem? (i := 711) (by decide +kernel), List.mem_of_getElem? (i := 712) (by decide +kernel)⟩
theorem lw_p29 : lw_okq (⟨"GlassRopesModel", "windowTold", "(II)I"⟩, 10) := ⟨⟨by decide +kernel, by decide +kernel⟩, List.mem_of_getElem? (i := 561) (by decide +kernel), List.mem_of_getElem? (i := 723) (by decide +kernel), List.mem_of_getElem? (i := 724) (by decide +kernel)⟩
theorem lw_p30 : lw_okq (⟨"GlassRopesModel", "ropeTold", "(II)I"⟩, 10) := ⟨⟨by decide +kernel, by decide +kernel⟩, List.mem_of_getElem? (i := 561) (by decide +kernel), List.mem_of_getElem? (i := 731) (by decide +kernel), List.mem_of_getElem? (i := 732) (by decide +kernel)⟩
theorem lw_p31 : lw_okq (⟨"GlassRopesModel", "counted", "(I)I"⟩, 10) := ⟨⟨by decide +kernel, by decide +kernel⟩, List.mem_of_getElem? (i := 561) (by decide +kernel), List.mem_of_getElem? (i := 739) (by decide +kernel), List.mem_of_getElem? (i := 740) (by decide +kernel)⟩
def lw_privs_2 : List (MethodName × Nat) := [(⟨"GlassRopesModel", "hang", "(II)V"⟩, 10), (⟨"GlassRopesModel", "isWindow", "(I)Z"⟩, 10), (⟨"GlassRopesModel", "wi", "(II)I"⟩, 10), (⟨"GlassRopesModel", "daysOn", "(I)V"⟩, 10), (⟨"GlassRopesModel", "dayOn", "()V"⟩, 10), (⟨"GlassRopesModel", "blown", "(I)I"⟩, 10), (⟨"GlassRopesModel", "isFeastOn", "(I)Z"⟩, 10), (⟨"GlassRopesModel", "allBring", "()I"⟩, 10), (⟨"GlassRopesModel", "brings", "(I)I"⟩, 10), (⟨"GlassRopesModel", "panes", "(I)I"⟩, 10), (⟨"GlassRopesModel", "sootOf", "(IZ)I"⟩, 10), (⟨"GlassRopesModel", "work", "(I)V"⟩, 10), (⟨"GlassRopesModel", "moveOn", "(I)V"⟩, 10), (⟨"GlassRopesModel", "windowTold", "(II)I"⟩, 10), (⟨"GlassRopesModel", "ropeTold", "(II)I"⟩, 10), (⟨"GlassRopesModel", "counted", "(I)I"⟩, 10)]
theorem lw_r2 : ∀ q ∈ lw_privs_2, lw_okq q := List.forall_mem_cons.mpr ⟨lw_p16, List.forall_mem_cons.mpr ⟨lw_p17, List.forall_mem_cons.mpr ⟨lw_p18, List.forall_mem_cons.mpr ⟨lw_p19, List.forall_mem_cons.mpr ⟨lw_p20, List.forall_mem_cons.mpr ⟨lw_p21, List.forall_mem_cons.mpr ⟨lw_p22, List.forall_mem_cons.mpr ⟨lw_p23, List.forall_mem_cons.mpr ⟨lw_p24, List.forall_mem_cons.mpr ⟨lw_p25, List.forall_mem_cons.mpr ⟨lw_p26, List.forall_mem_cons.mpr ⟨lw_p27, List.forall_mem_cons.mpr ⟨lw_p28, List.forall_mem_cons.mpr ⟨lw_p29, List.forall_mem_cons.mpr ⟨lw_p30, List.forall_mem_cons.mpr ⟨lw_p31, fun _ h => absurd h List.not_mem_nil⟩⟩⟩⟩⟩⟩⟩⟩⟩⟩⟩⟩⟩⟩⟩⟩
theorem lw_p32 : lw_okq (⟨"GlassRopesModel", "allSoot", "()I"⟩, 10) := ⟨⟨by decide +kernel, by decide +kernel⟩, List.mem_of_getElem? (i := 561) (by decide +kernel), List.mem_of_getElem? (i := 743) (by decide +kernel), List.mem_of_getElem? (i := 744) (by decide +kernel)⟩
theorem lw_p33 : lw_okq (⟨"GlassRopesModel", "cleaned", "()I"⟩, 10) := ⟨⟨by decide +kernel, by decide +kernel⟩, List.mem_of_getElem? (i := 561) (by decide +kernel), List.mem_of_getElem? (i := 747) (by decide +kernel), List.mem_of_getElem? (i := 748) (by decide +kernel)⟩
theorem lw_p34 : lw_okq (⟨"GlassRopesModel", "nextFeast", "()I"⟩, 10) := ⟨⟨by decide +kernel, by decide +kernel⟩, List.mem_of_getElem? (i := 561) (by decide +kernel), List.mem_of_getElem? (i := 759) (by decide +kernel), List.mem_of_getElem? (i := 760) (by decide +kernel)⟩
theorem lw_p35 : lw_okq (⟨"GlassRopesModel", "keep", "()V"⟩, 10) := ⟨⟨by decide +kernel, by decide +kernel⟩, List.mem_of_getElem? (i := 561) (by decide +kernel), List.mem_of_getElem? (i := 767) (by decide +kernel), List.mem_of_getElem? (i := 768) (by decide +kernel)⟩
theorem lw_p36 : lw_okq (⟨"GlassRopesModel", "bringBack", "()V"⟩, 10) := ⟨⟨by decide +kernel, by decide +kernel⟩, List.mem_of_getElem? (i := 561) (by decide +kernel), List.mem_of_getElem? (i := 771) (by decide +kernel), List.mem_of_getElem? (i := 772) (by decide +kernel)⟩
def lw_privs_3 : List (MethodName × Nat) := [(⟨"GlassRopesModel", "allSoot", "()I"⟩, 10), (⟨"GlassRopesModel", "cleaned", "()I"⟩, 10), (⟨"GlassRopesModel", "nextFeast", "()I"⟩, 10), (⟨"GlassRopesModel", "keep", "()V"⟩, 10), (⟨"GlassRopesModel", "bringBack", "()V"⟩, 10)]
theorem lw_r3 : ∀ q ∈ lw_privs_3, lw_okq q := List.forall_mem_cons.mpr ⟨lw_p32, List.forall_mem_cons.mpr ⟨lw_p33, List.forall_mem_cons.mpr ⟨lw_p34, List.forall_mem_cons.mpr ⟨lw_p35, List.forall_mem_cons.mpr ⟨lw_p36, fun _ h => absurd h List.not_mem_nil⟩⟩⟩⟩⟩
def lw_privs : List (MethodName × Nat) := lw_privs_1 ++ (lw_privs_2 ++ (lw_privs_3))
def lw_tbl : List Cond := k2_sels lw_privs ++ tables_1
theorem lw_privs_ok : ∀ q ∈ lw_privs, lw_okq q := by
  show ∀ q ∈ lw_privs_1 ++ (lw_privs_2 ++ (lw_privs_3)), lw_okq q
  exact List.forall_mem_append.mpr ⟨lw_r1, List.forall_mem_append.mpr ⟨lw_r2, lw_r3⟩⟩
/-- the streams that the claim lets the run draw from -/
abbrev lw_cs : List Choice := [Jvm.Choice.named "NaN.bits"]
theorem lw_bits : nanBits ∈ lw_cs := by first | decide | exact List.mem_cons_self | simp [lw_cs, nanBits]
end
section
/-! ===== BEGIN words of one list among another's, by their places ===== -/
theorem goodIn_r {big : List Cond} (ws : List Cond) (ps : List Nat) (hp : ws = ps.filterMap (fun i => big[i]?)) (h : ws.all goodWord = true) : GoodIn big ws := by
  intro w hw
  have h1 := List.all_eq_true.mp h w hw
  rw [hp] at hw
  obtain ⟨i, -, hi⟩ := List.mem_filterMap.mp hw
  have hm : w ∈ big := by first | exact List.mem_of_getElem? hi | exact List.getElem?_mem hi
  exact ⟨hm, good_of_word h1⟩
theorem goodIn_app {big a b : List Cond} (ha : GoodIn big a) (hb : GoodIn big b) : GoodIn big (a ++ b) := fun w h => (List.mem_append.mp h).elim (ha w) (hb w)
theorem goodIn_ca {big a b : List Cond} {c : Cond} (ha : GoodIn big (c :: a)) (hb : GoodIn big b) : GoodIn big (c :: (a ++ b)) := fun w h => (List.mem_cons.mp h).elim (fun e => ha w (List.mem_cons.mpr (Or.inl e))) (fun h => (List.mem_append.mp h).elim (fun h => ha w (List.mem_cons.mpr (Or.inr h))) (hb w))
theorem goodIn_sub {big ws : List Cond} (hm : ∀ w ∈ ws, w ∈ big) (h : ws.all goodWord = true) : GoodIn big ws := fun w hw => ⟨hm w hw, good_of_word (List.all_eq_true.mp h w hw)⟩
/-! ===== END ===== -/

/-! ===== BEGIN exceptions that leave a method, and their catching by the caller (launches without stack traces) ===== -/
section VXA
/-! The laws vx_back, vx_callV, vx_callS, vx_callSW, vx_throw0, vx_throwS follow proofs of the library, with one case more: JvmDerived/Free/Laws.lean (Back.of_free), Shelf42/LK1.lean (callV, callS), Shelf/KitTraced.lean (throwNew0V, throwNewS). -/
/-- where a method has thrown q: the class by its name, the cell, what was written, the world -/
def vx_T (XC : String → State → State → Prop) (st : State) (q : Addr) (t : State) (mc ms : Nat) (free : Addr → Prop) : Prop :=
  ∃ (E : String) (ce : Cell) (L : List Loc), XC E st t ∧ t.heap[q]? = some ce ∧ ce.vm = .none ∧ st.vm.findClass E = some ce.cls ∧ st.WarmedH t.vm ∧ st.sameButNew ({ t with vm := st.vm } : State) L mc ms ∧ ∀ z ∈ L, free z.base
def vx_Q (Qc : Array Value → State → Outcome → State → Prop) (XC : String → State → State → Prop) (mc ms : Nat) (free : Addr → Prop) : Array Value → State → Outcome → State → Prop := fun a st o t =>
  (Qc a st o t ∧ ∃ L, FrameEnd st o t L mc ms ∧ ∀ q ∈ L, free q.base) ∨ ∃ q, o = .threw q ∧ vx_T XC st q t mc ms free
/-- a callee that returns or throws -/
def vx_Met (l : Launch) (y : MethodName) (ws : List Cond) (rm : Room) (Pc : Array Value → State → Prop) (Qc : Array Value → State → Outcome → State → Prop) (XC : String → State → State → Prop) (mc ms : Nat) (free : Addr → Prop) : Prop :=
  MetFree l y (headSpec ws rm) Pc (fun _ _ _ _ _ => True) (vx_Q Qc XC mc ms free)
def vx_Post (XC : String → State → State → Prop) (mc ms : Nat) (free : Addr → Prop) : Pt → Array Value → Addr → Pt → Prop := fun A a q B =>
  ∃ (g : JFrame) (mk : MethodId) (t : State) (L : List Loc) (E : String) (ce : Cell), B.U.heap = t.heap ∧ B.U.vm = t.vm ∧ XC E (A.U.calling g mk a) t ∧ t.heap[q]? = some ce ∧ ce.vm = .none ∧ A.U.vm.findClass E = some ce.cls ∧ B.locs = A.locs ++ L ∧ (∀ z ∈ L, free z.base) ∧ B.cells = A.cells + mc ∧ B.slots = A.slots + ms
def vx_Back (l : Launch) (R : Room) (p : Program) (e : Env) (below : List Frame) (s : State) (sargs : Array Value) (y : MethodName) (len W9 : Nat)
    (Pre : Pt → Array Value → Prop) (Post : Pt → Array Value → Option Value → Pt → Prop) (PostX : Pt → Array Value → Addr → Pt → Prop) : Prop :=
  ∀ (m : MethodId) (meth : Method) (c : Code) (A : Pt) (g : JFrame) (ig : Instr) (mk : MethodId) (a : Array Value),
    Stand p l e R s m sargs below meth c A.U A.locs A.cells A.slots → g.method = m → g.locals.size = c.maxLocals → decode c.code g.pc = .ok (ig, len) →
    2 * g.monitorRoom + (g.stack.map fun v => v.category).sum ≤ W9 → A.U.methodNamed? y = some mk → Pre A a →
    (∃ (v : Option Value) (B : Pt), Stand p l e R s m sargs below meth c B.U B.locs B.cells B.slots ∧ Post A a v B ∧
      Steps p.tables e below (doInvoke e (A.U.setTop g) [] mk a).1 (B.U.setTop { g with pc := g.pc + len, stack := v.toList ++ g.stack })) ∨
    (∃ (q : Addr) (B : Pt), Stand p l e R s m sargs below meth c B.U B.locs B.cells B.slots ∧ PostX A a q B ∧
      Steps p.tables e below (doInvoke e (A.U.setTop g) [] mk a).1 ((B.U.setTop g).pushFrame (.throwing q)))
section Payer
variable {l : Launch} {R : Room} {p : Program} {e : Env} {below : List Frame} {s : State} {sargs : Array Value} {y : MethodName} {len W9 : Nat}
theorem vx_back {ws : List Cond} {rm : Room} {Pc : Array Value → State → Prop} {Qc : Array Value → State → Outcome → State → Prop} {XC : String → State → State → Prop} {mc ms : Nat} {free : Addr → Prop} {bytes : ByteArray} {maxL : Nat} {ret : Option FieldType}
    (hM : vx_Met l y ws rm Pc Qc XC mc ms free) (hblind : FrameBlind Pc) (hrc : rm.cells = mc) (hrs : rm.slots = ms)
    (hframes : rm.frames + 1 ≤ R.frames) (hlocals : W9 + (maxL + 11) + rm.locals ≤ R.locals)
    (hws : ∀ w ∈ ws, ∀ a' U, s.WarmedH U.vm → w.before a' U = true) (hcode : Cond.code y bytes maxL ret ∈ ws) (hinit : ∀ a' U, s.WarmedH U.vm → (Cond.initialized y.cls).before a' U = true) :
    vx_Back l R p e below s sargs y len W9 (PreOf R mc ms Pc) (PostOf Qc mc ms free) (vx_Post XC mc ms free) := by
  intro m meth c A g ig mk a X hg hsize hdg hW hn hp
  have h1 : (headSpec ws rm).pre.before a A.U = true := atoms_intro fun w hw => hws w hw _ _ X.warmed
  have h2 : (Cond.code y bytes maxL ret).before a A.U = true := hws _ hcode _ _ X.warmed
  have h3 : (Cond.initialized y.cls).before a A.U = true := hinit _ _ X.warmed
  have h4 : A.cells + (headSpec ws rm).room.cells ≤ R.cells := by rw [show (headSpec ws rm).room.cells = mc from hrc]; exact hp.1
  have h5 : A.slots + (headSpec ws rm).room.slots ≤ R.slots := by rw [show (headSpec ws rm).room.slots = ms from hrs]; exact hp.2.1
  have hPc : Pc a (A.U.calling g mk a) := hblind _ _ _ _ hp.2.2
  obtain ⟨U, Ls, c0, s0⟩ := A
  dsimp only [Pt.U, Pt.locs, Pt.cells, Pt.slots] at h1 h2 h3 h4 h5 X hn hPc ⊢
  obtain ⟨methY, cY, hmY, hcY, -, hlY, -, -, -, -⟩ := Cond.code_spec hn h2
  obtain ⟨kY, hkY, -⟩ := className_of_methodNamed hn
  have hinitY : kY.init = .initialized := Cond.initialized_spec (findClass_of_methodNamed hn) hkY h3
  have h : At U g.method c below := by rw [hg]; exact X.here
  have hlocals9 : W9 + (maxL + 11) + (headSpec ws rm).room.locals ≤ R.locals := hlocals
  have happ : (headSpec ws rm).appliesLoose y e.platform (U.calling g mk a) = true :=
    Spec.appliesLoose_calling (g := g) h hdg hn hkY hinitY
      (X.room_calling (g := g) (R' := (headSpec ws rm).room) hsize hmY hcY hframes (by rw [hlY]; omega) h4 h5) h1
  obtain ⟨mid, hmid⟩ := h.above
  have hfr : (U.setTop g).frames = (.java g :: mid) ++ below := by rw [State.frames_setTop' g h.top, hmid]; rfl
  obtain ⟨o, s₂, hsteps, -, hend, hq⟩ := Steps.callFree hM p X.admits X.cas X.clock (acts := []) hfr happ hPc trivial
  have hq' : vx_Q Qc XC mc ms free a (U.calling g mk a) o s₂ := hq
  rw [State.frames_setTop' g h.top] at hend
  obtain ⟨g₀, hg0⟩ := Option.isSome_iff_exists.mp h.top
  obtain ⟨r, hr⟩ := State.topJava?_eq_some.mp hg0
  have hr' : (({ U with heap := s₂.heap, slotsUsed := s₂.slotsUsed } : State).setVm s₂.vm).frames = .java g₀ :: r := hr
  rcases hq' with ⟨hqc, L, hfe, hL⟩ | ⟨q, rfl, E, ce, L, hx, hce, hcv, hcl, hW₂, hsm, hL⟩
  · obtain ⟨⟨v, rfl⟩, hW₂, e2, q2, q3, q4, q5, q6⟩ := id hfe
    have e3 : s₂ = ({ (U.calling g mk a).setFrames s₂.frames with heap := s₂.heap, slotsUsed := s₂.slotsUsed } : State).setVm s₂.vm := by
      have : s₂ = ({ s₂ with vm := (U.calling g mk a).vm } : State).setVm s₂.vm := rfl
      rw [e2] at this
      exact this
    obtain ⟨c₂, i₂, len₂, hc₂, hd₂, hf₂⟩ := hend
    have hW' : U.WarmedH s₂.vm := hW₂
    have hcc : c₂ = c := by
      have h1 : s₂.code? g.method = U.code? g.method := by
        rw [State.code?_eq, State.code?_eq, hW'.alike.method?]
      exact Option.some.inj (hc₂.symm.trans (h1.trans h.code))
    subst hcc
    have hlen : len₂ = len := by rw [hdg] at hd₂; cases hd₂; rfl
    subst hlen
    have hs₂ : s₂ = (({ U with heap := s₂.heap, slotsUsed := s₂.slotsUsed } : State).setVm s₂.vm).setTop { g with pc := g.pc + len₂, stack := v.toList ++ g.stack } := by
      refine e3.trans ?_
      rw [hf₂, State.calling_eq h.top, State.setFrames_setFrames, State.setTop_of_frames _ hr', hr]
      rfl
    have hsame : U.sameButNew ({ U with heap := s₂.heap, slotsUsed := s₂.slotsUsed } : State) L mc ms := by
      refine ⟨?_, q2, q3, q4, q5, q6⟩
      obtain ⟨t, ht, -⟩ := State.frames_cons hr
      show ({ U with heap := s₂.heap, slotsUsed := s₂.slotsUsed } : State) = { U.setFrames U.frames with heap := s₂.heap, slotsUsed := s₂.slotsUsed }
      rw [State.setFrames_self ht]
    subst hg
    refine Or.inl ⟨v, ⟨(({ U with heap := s₂.heap, slotsUsed := s₂.slotsUsed } : State).setVm s₂.vm), Ls ++ L, c0 + mc, s0 + ms⟩,
      ⟨X.admits, X.cas, X.clock, X.frames, X.room, X.hears, X.method, X.code, (X.here.setHeapUsed s₂.heap s₂.slotsUsed).setVm hW'.alike, X.tail, State.WarmedH.trans X.warmed hW', X.limits, X.bytes, X.same.trans (hsame.setVm s.vm)⟩,
      ⟨g, mk, s₂, L, rfl, rfl, hqc, rfl, hL, rfl, rfl⟩, ?_⟩
    show Steps p.tables e below _ ((({ U with heap := s₂.heap, slotsUsed := s₂.slotsUsed } : State).setVm s₂.vm).setTop { g with pc := g.pc + len₂, stack := v.toList ++ g.stack })
    rw [← hs₂]
    exact hsteps
  · obtain ⟨e2, q2, q3, q4, q5, q6⟩ := id hsm
    have e3 : s₂ = ({ (U.calling g mk a).setFrames s₂.frames with heap := s₂.heap, slotsUsed := s₂.slotsUsed } : State).setVm s₂.vm := by
      have : s₂ = ({ s₂ with vm := (U.calling g mk a).vm } : State).setVm s₂.vm := rfl
      rw [e2] at this
      exact this
    have hf₂ : s₂.frames = .throwing q :: .java g :: U.frames.tail := hend
    have hW' : U.WarmedH s₂.vm := hW₂
    have hs₂ : s₂ = ((({ U with heap := s₂.heap, slotsUsed := s₂.slotsUsed } : State).setVm s₂.vm).setTop g).pushFrame (.throwing q) := by
      refine e3.trans ?_
      rw [hf₂, State.calling_eq h.top, State.setFrames_setFrames, State.pushFrame, State.frames_setTop _ hr', State.setTop_of_frames _ hr', State.setFrames_setFrames, hr]
      rfl
    have hsame : U.sameButNew ({ U with heap := s₂.heap, slotsUsed := s₂.slotsUsed } : State) L mc ms := by
      refine ⟨?_, q2, q3, q4, q5, q6⟩
      obtain ⟨t, ht, -⟩ := State.frames_cons hr
      show ({ U with heap := s₂.heap, slotsUsed := s₂.slotsUsed } : State) = { U.setFrames U.frames with heap := s₂.heap, slotsUsed := s₂.slotsUsed }
      rw [State.setFrames_self ht]
    subst hg
    refine Or.inr ⟨q, ⟨(({ U with heap := s₂.heap, slotsUsed := s₂.slotsUsed } : State).setVm s₂.vm), Ls ++ L, c0 + mc, s0 + ms⟩,
      ⟨X.admits, X.cas, X.clock, X.frames, X.room, X.hears, X.method, X.code, (X.here.setHeapUsed s₂.heap s₂.slotsUsed).setVm hW'.alike, X.tail, State.WarmedH.trans X.warmed hW', X.limits, X.bytes, X.same.trans (hsame.setVm s.vm)⟩,
      ⟨g, mk, s₂, L, E, ce, rfl, rfl, hx, hce, hcv, hcl, rfl, hL, rfl, rfl⟩, ?_⟩
    show Steps p.tables e below _ (((({ U with heap := s₂.heap, slotsUsed := s₂.slotsUsed } : State).setVm s₂.vm).setTop g).pushFrame (.throwing q))
    rw [← hs₂]
    exact hsteps
end Payer
section Calls
variable {p : Program} {l : Launch} {e : Env} {R : Room} {s : State} {m : MethodId} {args : Array Value} {below : List Frame} {meth : Method} {c : Code} {T : State} {locs : List Loc} {cells slots : Nat}
theorem vx_callV (X : Stand p l e R s m args below meth c T locs cells slots) (hexec : p.tables.exec = Jvm.exec) {own C : String} {index : Nat} {y : MethodName} {bytes : ByteArray} {maxL : Nat} {ret : Option FieldType}
    (hown : s.vm.findClass own = some m.cls) (hlink : (Cond.methodLink own index y).before args s = true) (hinst : (Cond.instanceMethod y).before args s = true) (hsel : (Cond.selects C y y).before args s = true)
    (hcode : (Cond.code y bytes maxL ret).before args s = true) (hy : y.cls ≠ "java/lang/invoke/MethodHandle" ∧ y.cls ≠ "java/lang/invoke/VarHandle")
    {W9 : Nat} {Pre : Pt → Array Value → Prop} {Post : Pt → Array Value → Option Value → Pt → Prop} {PostX : Pt → Array Value → Addr → Pt → Prop} (hK : vx_Back l R p e below s args y 3 W9 Pre Post PostX)
    {b : Addr} {cellB : Cell} (hcell : T.heap[b]? = some cellB) (hobj : cellB.vm.isStatics = false) (hcls : s.vm.findClass C = some cellB.cls)
    {g : JFrame} (hg : g.method = m) (hsize : g.locals.size = c.maxLocals) {argsL rest : List Value} (hlen : ∀ sig, parseMethodDescriptor y.desc = some sig → argsL.length = sig.parameters.length)
    (hstack : g.stack = argsL.reverse ++ .ref b :: rest) (hW : 2 * g.monitorRoom + (rest.map fun v => v.category).sum ≤ W9) (hdg : decode c.code g.pc = .ok (.invokevirtual index, 3))
    (hpre : ∀ vm₁, s.WarmedH vm₁ → Pre ⟨T.setVm vm₁, locs, cells, slots⟩ (Value.ref b :: argsL).toArray) :
    (∃ (v : Option Value) (vm₁ : Vm) (B : Pt), s.WarmedH vm₁ ∧ Stand p l e R s m args below meth c B.U B.locs B.cells B.slots ∧ Post ⟨T.setVm vm₁, locs, cells, slots⟩ (Value.ref b :: argsL).toArray v B ∧
      ∀ target, Steps p.tables e below (B.U.setTop { g with pc := g.pc + 3, stack := v.toList ++ rest }) target → Steps p.tables e below (T.setTop g) target) ∨
    (∃ (q : Addr) (vm₁ : Vm) (B : Pt), s.WarmedH vm₁ ∧ Stand p l e R s m args below meth c B.U B.locs B.cells B.slots ∧ PostX ⟨T.setVm vm₁, locs, cells, slots⟩ (Value.ref b :: argsL).toArray q B ∧
      Steps p.tables e below (T.setTop g) ((B.U.setTop { g with stack := rest }).pushFrame (.throwing q))) := by
  obtain ⟨mk, methM, hnamed, hmethM, hstM, habM⟩ := Cond.instanceMethod_spec hinst
  obtain ⟨methM', cM, hmethM', -, -, -, -, -, -, hsigM⟩ := Cond.code_spec hnamed hcode
  cases hmethM.symm.trans hmethM'
  obtain ⟨c2, r2, m2, q1, q2, q3, q4, kP, hkP, hkPi⟩ := Cond.selects_spec hsel
  cases hcls.symm.trans q1
  cases (State.methodFound?_of_named hnamed hy).symm.trans q2
  cases hnamed.symm.trans q3
  have hselP : selectMethod e.platform s.vm cellB.cls mk = .method mk := by rw [Launch.admits_selectMethod X.admits]; exact q4
  obtain ⟨vm₁, X₁, hstep₁⟩ := X.invokevirtual hexec hown hlink hnamed hmethM hstM hkP hkPi hy (a := b) (cell := cellB) hcell
    (fun z h => by rw [h] at hobj; cases hobj) hselP hmethM habM hkP hkPi (g := g) hg (argsL := argsL) (rest := rest) (hlen _ hsigM) hstack hdg
  rcases hK m meth c ⟨T.setVm vm₁, locs, cells, slots⟩ { g with stack := rest } (.invokevirtual index) mk (Value.ref b :: argsL).toArray X₁ hg hsize hdg hW (X₁.named hnamed) (hpre vm₁ X₁.warmed) with ⟨v, B, X', hpost, hsteps⟩ | ⟨q, B, X', hpost, hsteps⟩
  · exact Or.inl ⟨v, vm₁, B, X₁.warmed, X', hpost, fun target h => hstep₁ _ fun acts => by rw [doInvoke_state]; exact hsteps.trans h⟩
  · exact Or.inr ⟨q, vm₁, B, X₁.warmed, X', hpost, hstep₁ _ fun acts => by rw [doInvoke_state]; exact hsteps⟩
theorem vx_callS (X : Stand p l e R s m args below meth c T locs cells slots) (hexec : p.tables.exec = Jvm.exec) {own : String} {index : Nat} {y : MethodName} {bytes : ByteArray} {maxL : Nat} {ret : Option FieldType}
    (hown : s.vm.findClass own = some m.cls) (hlink : (Cond.methodLink own index y).before args s = true) (hstat : (Cond.static y).before args s = true) (hinit : (Cond.initialized y.cls).before args s = true)
    (hcode : (Cond.code y bytes maxL ret).before args s = true) (hy : y.cls ≠ "java/lang/invoke/MethodHandle" ∧ y.cls ≠ "java/lang/invoke/VarHandle")
    {W9 : Nat} {Pre : Pt → Array Value → Prop} {Post : Pt → Array Value → Option Value → Pt → Prop} {PostX : Pt → Array Value → Addr → Pt → Prop} (hK : vx_Back l R p e below s args y 3 W9 Pre Post PostX)
    {g : JFrame} (hg : g.method = m) (hsize : g.locals.size = c.maxLocals) {argsL rest : List Value} (hlen : ∀ sig, parseMethodDescriptor y.desc = some sig → argsL.length = sig.parameters.length)
    (hstack : g.stack = argsL.reverse ++ rest) (hW : 2 * g.monitorRoom + (rest.map fun v => v.category).sum ≤ W9) (hdg : decode c.code g.pc = .ok (.invokestatic index, 3))
    (hpre : ∀ vm₁, s.WarmedH vm₁ → Pre ⟨T.setVm vm₁, locs, cells, slots⟩ argsL.toArray) :
    (∃ (v : Option Value) (vm₁ : Vm) (B : Pt), s.WarmedH vm₁ ∧ Stand p l e R s m args below meth c B.U B.locs B.cells B.slots ∧ Post ⟨T.setVm vm₁, locs, cells, slots⟩ argsL.toArray v B ∧
      ∀ target, Steps p.tables e below (B.U.setTop { g with pc := g.pc + 3, stack := v.toList ++ rest }) target → Steps p.tables e below (T.setTop g) target) ∨
    (∃ (q : Addr) (vm₁ : Vm) (B : Pt), s.WarmedH vm₁ ∧ Stand p l e R s m args below meth c B.U B.locs B.cells B.slots ∧ PostX ⟨T.setVm vm₁, locs, cells, slots⟩ argsL.toArray q B ∧
      Steps p.tables e below (T.setTop g) ((B.U.setTop { g with stack := rest }).pushFrame (.throwing q))) := by
  obtain ⟨mk, hnamed⟩ := Cond.code_named hcode
  obtain ⟨methM, cM, hmethM, -, -, -, -, -, -, hsigM⟩ := Cond.code_spec hnamed hcode
  have hstatic : methM.isStatic = true := Cond.static_spec hnamed hmethM hstat
  obtain ⟨kP, hkP, -⟩ := className_of_methodNamed hnamed
  have hinitP : kP.init = .initialized := Cond.initialized_spec (findClass_of_methodNamed hnamed) hkP hinit
  obtain ⟨vm₁, X₁, hstep₁⟩ := X.invokestatic hexec hown hlink hnamed hmethM hstatic hkP hinitP hy (g := g) hg (argsL := argsL) (rest := rest) (hlen _ hsigM) hstack hdg
  rcases hK m meth c ⟨T.setVm vm₁, locs, cells, slots⟩ { g with stack := rest } (.invokestatic index) mk argsL.toArray X₁ hg hsize hdg hW (X₁.named hnamed) (hpre vm₁ X₁.warmed) with ⟨v, B, X', hpost, hsteps⟩ | ⟨q, B, X', hpost, hsteps⟩
  · exact Or.inl ⟨v, vm₁, B, X₁.warmed, X', hpost, fun target h => hstep₁ _ fun acts => by rw [doInvoke_state]; exact hsteps.trans h⟩
  · exact Or.inr ⟨q, vm₁, B, X₁.warmed, X', hpost, hstep₁ _ fun acts => by rw [doInvoke_state]; exact hsteps⟩
end Calls
theorem vx_cls {s : State} {T : State} {vm₁ : Vm} {E : String} {k : ClassId} (hW : s.WarmedH vm₁) (h : (T.setVm vm₁).vm.findClass E = some k) : s.vm.findClass E = some k := by
  have h1 : vm₁.findClass E = some k := h
  rw [hW.alike.findClass] at h1
  exact h1
/-- the method's frame g, with q thrown over it -/
def vx_W (p : Program) (l : Launch) (e : Env) (R : Room) (s : State) (m : MethodId) (args : Array Value) (below : List Frame) (meth : Method) (c : Code) (H : Heap) (locs : List Loc) (cells slots : Nat) (Q : State → Prop) (g : JFrame) (q : Addr) : Prop :=
  ∀ T : State, T.heap = H → Stand p l e R s m args below meth c T locs cells slots → ∃ t, Steps p.tables e below ((T.setTop g).pushFrame (.throwing q)) t ∧ Q t
def vx_Run (p : Program) (l : Launch) (e : Env) (R : Room) (s : State) (m : MethodId) (args : Array Value) (below : List Frame) (meth : Method) (c : Code) (H : Heap) (locs : List Loc) (cells slots mc ms : Nat) (g : JFrame) (rest : List Value) (Qa : State → Outcome → State → Prop) (XC : String → State → State → Prop) (free : Addr → Prop) : Prop :=
  ∀ T : State, T.heap = H → Stand p l e R s m args below meth c T locs cells slots →
    (∃ (v : Option Value) (st₀ t T' : State) (L : List Loc), st₀.heap = H ∧ Stand p l e R s m args below meth c T' (locs ++ L) (cells + mc) (slots + ms) ∧ (∀ q ∈ L, free q.base) ∧ T'.heap = t.heap ∧ T'.vm = t.vm ∧ Qa st₀ (.returned v) t ∧
      Goes p e below T g T' { g with pc := g.pc + 3, stack := v.toList ++ rest }) ∨
    (∃ (q : Addr) (st₀ t T' : State) (L : List Loc) (E : String) (ce : Cell), st₀.heap = H ∧ Stand p l e R s m args below meth c T' (locs ++ L) (cells + mc) (slots + ms) ∧ (∀ z ∈ L, free z.base) ∧ T'.heap = t.heap ∧ T'.vm = t.vm ∧ XC E st₀ t ∧ t.heap[q]? = some ce ∧ ce.vm = .none ∧ s.vm.findClass E = some ce.cls ∧
      Steps p.tables e below (T.setTop g) ((T'.setTop { g with stack := rest }).pushFrame (.throwing q)))
def vx_X {S : Type} (px : S → Prop) (B : String → S → State → Prop) (A : Nat → Prop) : String → State → State → Prop := fun E st t => ∃ u : S, px u ∧ B E u t ∧ va_F A st t
section Runs
variable {p : Program} {l : Launch} {e : Env} {R : Room} {s : State} {m : MethodId} {args : Array Value} {below : List Frame} {meth : Method} {c : Code} {H : Heap} {locs : List Loc} {cells slots : Nat}
variable {y : MethodName} {bytes cc : ByteArray} {maxL nL mc ms n index : Nat} {ret : Option FieldType} {ws : List Cond} {rm : Room} {Pc : Array Value → State → Prop} {Qc : Array Value → State → Outcome → State → Prop} {XC : String → State → State → Prop} {free : Addr → Prop} {Ts : List Cond} {own C : String} {b : Addr} {As rest : List Value} {g : JFrame}
theorem vx_callBack (cb : CallB R s args own index y bytes maxL ret ws rm mc ms n) (hM : vx_Met l y ws rm Pc Qc XC mc ms free) (hbl : FrameBlind Pc) : vx_Back l R p e below s args y 3 8 (PreOf R mc ms Pc) (PostOf Qc mc ms free) (vx_Post XC mc ms free) := by
  obtain ⟨hrc, hrs, hfr, hlo, hws, hcw, -, hini, -⟩ := cb
  exact vx_back (bytes := bytes) (maxL := maxL) (ret := ret) hM hbl hrc hrs hfr hlo hws hcw (fun a' U hW => word_at hW (Or.inl (by first | rfl | simp [Cond.onTables, Cond.keeps, Cond.steady])) hini)
theorem vx_runV (S : CallFix p m c cc nL s args Ts own) (hM : vx_Met l y ws rm Pc Qc XC mc ms free) (cw : CallW R s args own C index y bytes maxL ret ws rm mc ms n) (hp : PreV s H C b Pc As)
    (hg : g.method = m) (hn : As.length = n) (hsize : g.locals.size = nL) (hstack : g.stack = As.reverse ++ .ref b :: rest) (hW : 2 * g.monitorRoom + (rest.map fun v => v.category).sum ≤ 8) (hdg : decode cc g.pc = .ok (.invokevirtual index, 3)) (hf : cells + mc ≤ R.cells ∧ slots + ms ≤ R.slots) :
    vx_Run p l e R s m args below meth c H locs cells slots mc ms g rest (Qc (Value.ref b :: As).toArray) XC free := by
  have hK : vx_Back l R p e below s args y 3 8 (PreOf R mc ms Pc) (PostOf Qc mc ms free) (vx_Post XC mc ms free) := vx_callBack cw.1 hM hp.1
  obtain ⟨⟨-, -, -, -, -, -, hcode, -, hy, hlen, hl⟩, hin, hse⟩ := cw
  obtain ⟨hx, hb, hml, ho, -⟩ := S
  obtain ⟨-, ⟨cellB, hcB, hoB, hclB⟩, hPc⟩ := hp
  intro T hT X
  rcases vx_callV X hx (C := C) (bytes := bytes) (maxL := maxL) (ret := ret) ho hl hin hse hcode hy hK (by rw [hT]; exact hcB) hoB hclB hg (hsize.trans hml.symm) (argsL := As) (rest := rest) (fun sig h => hn.trans (hlen sig h)) hstack hW (by rw [hb]; exact hdg)
    (fun vm₁ hW₁ => ⟨hf.1, hf.2, hPc (T.setVm vm₁) hT hW₁⟩) with ⟨v, vm₁, ⟨U', l2, c2, s2⟩, hW₁, X', ⟨g', mk, t, L, e1, e2, hq, h1, hL, h2, h3⟩, st⟩ | ⟨q, vm₁, ⟨U', l2, c2, s2⟩, hW₁, X', ⟨g', mk, t, L, E, ce, e1, e2, hq, hce, hcv, hcl, h1, hL, h2, h3⟩, st⟩
  · dsimp only [Pt.U, Pt.locs, Pt.cells, Pt.slots] at X' e1 e2 h1 h2 h3 st
    subst h1; subst h2; subst h3
    exact Or.inl ⟨v, (T.setVm vm₁).calling g' mk (Value.ref b :: As).toArray, t, U', L, hT, X', hL, e1, e2, hq, st⟩
  · dsimp only [Pt.U, Pt.locs, Pt.cells, Pt.slots] at X' e1 e2 h1 h2 h3 st hcl
    subst h1; subst h2; subst h3
    exact Or.inr ⟨q, (T.setVm vm₁).calling g' mk (Value.ref b :: As).toArray, t, U', L, E, ce, hT, X', hL, e1, e2, hq, hce, hcv, vx_cls hW₁ hcl, st⟩
theorem vx_runS (S : CallFix p m c cc nL s args Ts own) (hM : vx_Met l y ws rm Pc Qc XC mc ms free) (cw : CallB R s args own index y bytes maxL ret ws rm mc ms n ∧ (Cond.static y).before args s = true) (hp : PreS s H Pc As)
    (hg : g.method = m) (hn : As.length = n) (hsize : g.locals.size = nL) (hstack : g.stack = As.reverse ++ rest) (hW : 2 * g.monitorRoom + (rest.map fun v => v.category).sum ≤ 8) (hdg : decode cc g.pc = .ok (.invokestatic index, 3)) (hf : cells + mc ≤ R.cells ∧ slots + ms ≤ R.slots) :
    vx_Run p l e R s m args below meth c H locs cells slots mc ms g rest (Qc As.toArray) XC free := by
  have hK : vx_Back l R p e below s args y 3 8 (PreOf R mc ms Pc) (PostOf Qc mc ms free) (vx_Post XC mc ms free) := vx_callBack cw.1 hM hp.1
  obtain ⟨⟨-, -, -, -, -, -, hcode, hini, hy, hlen, hl⟩, hstt⟩ := cw
  obtain ⟨hx, hb, hml, ho, -⟩ := S
  intro T hT X
  rcases vx_callS X hx (bytes := bytes) (maxL := maxL) (ret := ret) ho hl hstt hini hcode hy hK hg (hsize.trans hml.symm) (argsL := As) (rest := rest) (fun sig h => hn.trans (hlen sig h)) hstack hW (by rw [hb]; exact hdg)
    (fun vm₁ hW₁ => ⟨hf.1, hf.2, hp.2 (T.setVm vm₁) hT hW₁⟩) with ⟨v, vm₁, ⟨U', l2, c2, s2⟩, hW₁, X', ⟨g', mk, t, L, e1, e2, hq, h1, hL, h2, h3⟩, st⟩ | ⟨q, vm₁, ⟨U', l2, c2, s2⟩, hW₁, X', ⟨g', mk, t, L, E, ce, e1, e2, hq, hce, hcv, hcl, h1, hL, h2, h3⟩, st⟩
  · dsimp only [Pt.U, Pt.locs, Pt.cells, Pt.slots] at X' e1 e2 h1 h2 h3 st
    subst h1; subst h2; subst h3
    exact Or.inl ⟨v, (T.setVm vm₁).calling g' mk As.toArray, t, U', L, hT, X', hL, e1, e2, hq, st⟩
  · dsimp only [Pt.U, Pt.locs, Pt.cells, Pt.slots] at X' e1 e2 h1 h2 h3 st hcl
    subst h1; subst h2; subst h3
    exact Or.inr ⟨q, (T.setVm vm₁).calling g' mk As.toArray, t, U', L, E, ce, hT, X', hL, e1, e2, hq, hce, hcv, vx_cls hW₁ hcl, st⟩
end Runs
section Rows
variable {p : Program} {l : Launch} {e : Env} {R : Room} {s : State} {m : MethodId} {args : Array Value} {below : List Frame} {meth : Method} {c : Code} {H : Heap} {locs : List Loc} {cells slots : Nat} {Q : State → Prop}
variable {mc ms : Nat} {free : Addr → Prop} {A0 A1 : Nat → Prop} {H0 : Heap} {a : Array Value} {pc : Nat} {ls : Array Slot} {st0 rest : List Value}
theorem vx_keep {st₀ t T' : State} {L : List Loc} (h0 : st₀.heap = H) (e1 : T'.heap = t.heap) (hS : va_S A0 H0 H locs) (hA : ∀ q, q < H.size → A1 q → A0 q) (hf : ∀ q, free q → A0 q) (hL : ∀ q ∈ L, free q.base) (hF : va_F A1 st₀ t) :
    H.size ≤ T'.heap.size ∧ (∀ q : Nat, q < H.size → ¬ A1 q → T'.heap[q]? = H[q]?) ∧ va_S A0 H0 T'.heap (locs ++ L) := by
  obtain ⟨hz, hk⟩ := hF
  rw [h0] at hz hk
  exact ⟨by rw [e1]; exact hz, fun q h1 h2 => by rw [e1]; exact hk q h1 h2,
    ⟨Nat.le_trans hS.1 (by rw [e1]; exact hz), fun q h1 h2 => by rw [e1, hk q (Nat.lt_of_lt_of_le h1 hS.1) (fun z => h2 (hA q (Nat.lt_of_lt_of_le h1 hS.1) z))]; exact hS.2.1 q h1 h2, fun q hq => by
      rcases List.mem_append.mp hq with h | h
      · exact hS.2.2 q h
      · exact hf _ (hL q h)⟩⟩
theorem vx_calli {S SX : Type} {post : Int32 → S → Prop} {px : SX → Prop} {B : S → State → Prop} {BX : String → SX → State → Prop} {AX : Nat → Prop} (hr : vx_Run p l e R s m args below meth c H locs cells slots mc ms (F0 m pc ls st0) rest (va_Qi post B A1 a) (vx_X px BX AX) free) (hS : va_S A0 H0 H locs) (hA : ∀ q, q < H.size → A1 q → A0 q) (hf : ∀ q, free q → A0 q) (hAX : ∀ q, q < H.size → AX q → A0 q)
    (kx : ∀ (E : String) (ce : Cell) (q9 : Addr) (u : SX) (t : State) (H1 : Heap) (locs1 : List Loc), t.heap = H1 → s.vm.Alike t.vm → px u → BX E u t → H.size ≤ H1.size → (∀ q : Nat, q < H.size → ¬ AX q → H1[q]? = H[q]?) → va_S A0 H0 H1 locs1 → H1[q9]? = some ce → ce.vm = .none → s.vm.findClass E = some ce.cls → vx_W p l e R s m args below meth c H1 locs1 (cells + mc) (slots + ms) Q (F0 m pc ls rest) q9)
    (kk : ∀ (r : Int32) (u : S) (t : State) (H1 : Heap) (locs1 : List Loc), t.heap = H1 → s.vm.Alike t.vm → post r u → B u t → H.size ≤ H1.size → (∀ q : Nat, q < H.size → ¬ A1 q → H1[q]? = H[q]?) → va_S A0 H0 H1 locs1 → W p l e R s m args below meth c H1 locs1 (cells + mc) (slots + ms) Q (F0 m (pc + 3) ls (.int r :: rest))) : W p l e R s m args below meth c H locs cells slots Q (F0 m pc ls st0) := by
  intro T hT X
  rcases hr T hT X with ⟨v, st₀, t, T', L, h0, X', hL, e1, e2, ⟨⟨r, u, hv, hp, hb⟩, hF⟩, st⟩ | ⟨q, st₀, t, T', L, E, ce, h0, X', hL, e1, e2, ⟨u, hp, hb, hF⟩, hce, hcv, hcl, st⟩
  · cases hv
    obtain ⟨k1, k2, k3⟩ := vx_keep h0 e1 hS hA hf hL hF
    obtain ⟨t2, a1, b1⟩ := kk r u t T'.heap (locs ++ L) e1.symm (by rw [← e2]; exact X'.warmed.alike) hp hb k1 k2 k3 T' rfl X'
    exact ⟨t2, st t2 a1, b1⟩
  · obtain ⟨k1, k2, k3⟩ := vx_keep h0 e1 hS hAX hf hL hF
    obtain ⟨t2, a1, b1⟩ := kx E ce q u t T'.heap (locs ++ L) e1.symm (by rw [← e2]; exact X'.warmed.alike) hp hb k1 k2 k3 (by rw [e1]; exact hce) hcv hcl T' rfl X'
    exact ⟨t2, st.trans a1, b1⟩
theorem vx_calll {S SX : Type} {post : Int64 → S → Prop} {px : SX → Prop} {B : S → State → Prop} {BX : String → SX → State → Prop} {AX : Nat → Prop} (hr : vx_Run p l e R s m args below meth c H locs cells slots mc ms (F0 m pc ls st0) rest (va_Ql post B A1 a) (vx_X px BX AX) free) (hS : va_S A0 H0 H locs) (hA : ∀ q, q < H.size → A1 q → A0 q) (hf : ∀ q, free q → A0 q) (hAX : ∀ q, q < H.size → AX q → A0 q)
    (kx : ∀ (E : String) (ce : Cell) (q9 : Addr) (u : SX) (t : State) (H1 : Heap) (locs1 : List Loc), t.heap = H1 → s.vm.Alike t.vm → px u → BX E u t → H.size ≤ H1.size → (∀ q : Nat, q < H.size → ¬ AX q → H1[q]? = H[q]?) → va_S A0 H0 H1 locs1 → H1[q9]? = some ce → ce.vm = .none → s.vm.findClass E = some ce.cls → vx_W p l e R s m args below meth c H1 locs1 (cells + mc) (slots + ms) Q (F0 m pc ls rest) q9)
    (kk : ∀ (r : Int64) (u : S) (t : State) (H1 : Heap) (locs1 : List Loc), t.heap = H1 → s.vm.Alike t.vm → post r u → B u t → H.size ≤ H1.size → (∀ q : Nat, q < H.size → ¬ A1 q → H1[q]? = H[q]?) → va_S A0 H0 H1 locs1 → W p l e R s m args below meth c H1 locs1 (cells + mc) (slots + ms) Q (F0 m (pc + 3) ls (.long r :: rest))) : W p l e R s m args below meth c H locs cells slots Q (F0 m pc ls st0) := by
  intro T hT X
  rcases hr T hT X with ⟨v, st₀, t, T', L, h0, X', hL, e1, e2, ⟨⟨r, u, hv, hp, hb⟩, hF⟩, st⟩ | ⟨q, st₀, t, T', L, E, ce, h0, X', hL, e1, e2, ⟨u, hp, hb, hF⟩, hce, hcv, hcl, st⟩
  · cases hv
    obtain ⟨k1, k2, k3⟩ := vx_keep h0 e1 hS hA hf hL hF
    obtain ⟨t2, a1, b1⟩ := kk r u t T'.heap (locs ++ L) e1.symm (by rw [← e2]; exact X'.warmed.alike) hp hb k1 k2 k3 T' rfl X'
    exact ⟨t2, st t2 a1, b1⟩
  · obtain ⟨k1, k2, k3⟩ := vx_keep h0 e1 hS hAX hf hL hF
    obtain ⟨t2, a1, b1⟩ := kx E ce q u t T'.heap (locs ++ L) e1.symm (by rw [← e2]; exact X'.warmed.alike) hp hb k1 k2 k3 (by rw [e1]; exact hce) hcv hcl T' rfl X'
    exact ⟨t2, st.trans a1, b1⟩
theorem vx_callf {S SX : Type} {post : UInt32 → S → Prop} {px : SX → Prop} {B : S → State → Prop} {BX : String → SX → State → Prop} {AX : Nat → Prop} (hr : vx_Run p l e R s m args below meth c H locs cells slots mc ms (F0 m pc ls st0) rest (va_Qf post B A1 a) (vx_X px BX AX) free) (hS : va_S A0 H0 H locs) (hA : ∀ q, q < H.size → A1 q → A0 q) (hf : ∀ q, free q → A0 q) (hAX : ∀ q, q < H.size → AX q → A0 q)
    (kx : ∀ (E : String) (ce : Cell) (q9 : Addr) (u : SX) (t : State) (H1 : Heap) (locs1 : List Loc), t.heap = H1 → s.vm.Alike t.vm → px u → BX E u t → H.size ≤ H1.size → (∀ q : Nat, q < H.size → ¬ AX q → H1[q]? = H[q]?) → va_S A0 H0 H1 locs1 → H1[q9]? = some ce → ce.vm = .none → s.vm.findClass E = some ce.cls → vx_W p l e R s m args below meth c H1 locs1 (cells + mc) (slots + ms) Q (F0 m pc ls rest) q9)
    (kk : ∀ (r : UInt32) (u : S) (t : State) (H1 : Heap) (locs1 : List Loc), t.heap = H1 → s.vm.Alike t.vm → post r u → B u t → H.size ≤ H1.size → (∀ q : Nat, q < H.size → ¬ A1 q → H1[q]? = H[q]?) → va_S A0 H0 H1 locs1 → W p l e R s m args below meth c H1 locs1 (cells + mc) (slots + ms) Q (F0 m (pc + 3) ls (.float r :: rest))) : W p l e R s m args below meth c H locs cells slots Q (F0 m pc ls st0) := by
  intro T hT X
  rcases hr T hT X with ⟨v, st₀, t, T', L, h0, X', hL, e1, e2, ⟨⟨r, u, hv, hp, hb⟩, hF⟩, st⟩ | ⟨q, st₀, t, T', L, E, ce, h0, X', hL, e1, e2, ⟨u, hp, hb, hF⟩, hce, hcv, hcl, st⟩
  · cases hv
    obtain ⟨k1, k2, k3⟩ := vx_keep h0 e1 hS hA hf hL hF
    obtain ⟨t2, a1, b1⟩ := kk r u t T'.heap (locs ++ L) e1.symm (by rw [← e2]; exact X'.warmed.alike) hp hb k1 k2 k3 T' rfl X'
    exact ⟨t2, st t2 a1, b1⟩
  · obtain ⟨k1, k2, k3⟩ := vx_keep h0 e1 hS hAX hf hL hF
    obtain ⟨t2, a1, b1⟩ := kx E ce q u t T'.heap (locs ++ L) e1.symm (by rw [← e2]; exact X'.warmed.alike) hp hb k1 k2 k3 (by rw [e1]; exact hce) hcv hcl T' rfl X'
    exact ⟨t2, st.trans a1, b1⟩
theorem vx_calld {S SX : Type} {post : UInt64 → S → Prop} {px : SX → Prop} {B : S → State → Prop} {BX : String → SX → State → Prop} {AX : Nat → Prop} (hr : vx_Run p l e R s m args below meth c H locs cells slots mc ms (F0 m pc ls st0) rest (va_Qd post B A1 a) (vx_X px BX AX) free) (hS : va_S A0 H0 H locs) (hA : ∀ q, q < H.size → A1 q → A0 q) (hf : ∀ q, free q → A0 q) (hAX : ∀ q, q < H.size → AX q → A0 q)
    (kx : ∀ (E : String) (ce : Cell) (q9 : Addr) (u : SX) (t : State) (H1 : Heap) (locs1 : List Loc), t.heap = H1 → s.vm.Alike t.vm → px u → BX E u t → H.size ≤ H1.size → (∀ q : Nat, q < H.size → ¬ AX q → H1[q]? = H[q]?) → va_S A0 H0 H1 locs1 → H1[q9]? = some ce → ce.vm = .none → s.vm.findClass E = some ce.cls → vx_W p l e R s m args below meth c H1 locs1 (cells + mc) (slots + ms) Q (F0 m pc ls rest) q9)
    (kk : ∀ (r : UInt64) (u : S) (t : State) (H1 : Heap) (locs1 : List Loc), t.heap = H1 → s.vm.Alike t.vm → post r u → B u t → H.size ≤ H1.size → (∀ q : Nat, q < H.size → ¬ A1 q → H1[q]? = H[q]?) → va_S A0 H0 H1 locs1 → W p l e R s m args below meth c H1 locs1 (cells + mc) (slots + ms) Q (F0 m (pc + 3) ls (.double r :: rest))) : W p l e R s m args below meth c H locs cells slots Q (F0 m pc ls st0) := by
  intro T hT X
  rcases hr T hT X with ⟨v, st₀, t, T', L, h0, X', hL, e1, e2, ⟨⟨r, u, hv, hp, hb⟩, hF⟩, st⟩ | ⟨q, st₀, t, T', L, E, ce, h0, X', hL, e1, e2, ⟨u, hp, hb, hF⟩, hce, hcv, hcl, st⟩
  · cases hv
    obtain ⟨k1, k2, k3⟩ := vx_keep h0 e1 hS hA hf hL hF
    obtain ⟨t2, a1, b1⟩ := kk r u t T'.heap (locs ++ L) e1.symm (by rw [← e2]; exact X'.warmed.alike) hp hb k1 k2 k3 T' rfl X'
    exact ⟨t2, st t2 a1, b1⟩
  · obtain ⟨k1, k2, k3⟩ := vx_keep h0 e1 hS hAX hf hL hF
    obtain ⟨t2, a1, b1⟩ := kx E ce q u t T'.heap (locs ++ L) e1.symm (by rw [← e2]; exact X'.warmed.alike) hp hb k1 k2 k3 (by rw [e1]; exact hce) hcv hcl T' rfl X'
    exact ⟨t2, st.trans a1, b1⟩
theorem vx_callv {S SX : Type} {post : S → Prop} {px : SX → Prop} {B : S → State → Prop} {BX : String → SX → State → Prop} {AX : Nat → Prop} (hr : vx_Run p l e R s m args below meth c H locs cells slots mc ms (F0 m pc ls st0) rest (va_Qv post B A1 a) (vx_X px BX AX) free) (hS : va_S A0 H0 H locs) (hA : ∀ q, q < H.size → A1 q → A0 q) (hf : ∀ q, free q → A0 q) (hAX : ∀ q, q < H.size → AX q → A0 q)
    (kx : ∀ (E : String) (ce : Cell) (q9 : Addr) (u : SX) (t : State) (H1 : Heap) (locs1 : List Loc), t.heap = H1 → s.vm.Alike t.vm → px u → BX E u t → H.size ≤ H1.size → (∀ q : Nat, q < H.size → ¬ AX q → H1[q]? = H[q]?) → va_S A0 H0 H1 locs1 → H1[q9]? = some ce → ce.vm = .none → s.vm.findClass E = some ce.cls → vx_W p l e R s m args below meth c H1 locs1 (cells + mc) (slots + ms) Q (F0 m pc ls rest) q9)
    (kk : ∀ (u : S) (t : State) (H1 : Heap) (locs1 : List Loc), t.heap = H1 → s.vm.Alike t.vm → post u → B u t → H.size ≤ H1.size → (∀ q : Nat, q < H.size → ¬ A1 q → H1[q]? = H[q]?) → va_S A0 H0 H1 locs1 → W p l e R s m args below meth c H1 locs1 (cells + mc) (slots + ms) Q (F0 m (pc + 3) ls (rest))) : W p l e R s m args below meth c H locs cells slots Q (F0 m pc ls st0) := by
  intro T hT X
  rcases hr T hT X with ⟨v, st₀, t, T', L, h0, X', hL, e1, e2, ⟨⟨u, hv, hp, hb⟩, hF⟩, st⟩ | ⟨q, st₀, t, T', L, E, ce, h0, X', hL, e1, e2, ⟨u, hp, hb, hF⟩, hce, hcv, hcl, st⟩
  · cases hv
    obtain ⟨k1, k2, k3⟩ := vx_keep h0 e1 hS hA hf hL hF
    obtain ⟨t2, a1, b1⟩ := kk u t T'.heap (locs ++ L) e1.symm (by rw [← e2]; exact X'.warmed.alike) hp hb k1 k2 k3 T' rfl X'
    exact ⟨t2, st t2 a1, b1⟩
  · obtain ⟨k1, k2, k3⟩ := vx_keep h0 e1 hS hAX hf hL hF
    obtain ⟨t2, a1, b1⟩ := kx E ce q u t T'.heap (locs ++ L) e1.symm (by rw [← e2]; exact X'.warmed.alike) hp hb k1 k2 k3 (by rw [e1]; exact hce) hcv hcl T' rfl X'
    exact ⟨t2, st.trans a1, b1⟩
/-- caught by the row x of this method's table; the rows ahead don't take it -/
theorem vx_catch {own name : String} {E : String} {ce : Cell} {q : Addr} (hown : s.vm.findClass own = some m.cls) (pre : List ExceptionTableEntry) (x : ExceptionTableEntry) (suf : List ExceptionTableEntry) (hsplit : c.exceptionTable.toList = pre ++ x :: suf)
    (hpass : ∀ z ∈ pre, covers z pc = false ∨ (z.catchType ≠ 0 ∧ ∃ nm : String, (Cond.classLink own z.catchType nm).before args s = true ∧ va_Nc E nm s)) (hx : covers x pc = true) (h0 : x.catchType ≠ 0)
    (hlink : (Cond.classLink own x.catchType name).before args s = true) (hcast : (Cond.castable E name).before args s = true) (hcell : H[q]? = some ce) (hv : ce.vm = .none) (hcl : s.vm.findClass E = some ce.cls)
    (kk : W p l e R s m args below meth c H locs cells slots Q (F0 m x.handlerPc ls [.ref q])) : vx_W p l e R s m args below meth c H locs cells slots Q (F0 m pc ls rest) q := by
  intro T hT X
  have hpl : e.platform.magicAccessors = ({} : Platform).magicAccessors := by rw [X.admits.platform]
  obtain ⟨c3, c4, hc3, hc4, hasg⟩ := Cond.castable_spec hcast
  cases Option.some.inj (hc3.symm.trans hcl)
  obtain ⟨c5, hc5, hcl5⟩ := Cond.classLink_spec hown hlink e.platform hpl
  cases Option.some.inj (hc4.symm.trans hc5)
  obtain ⟨vm', X', st⟩ := X.thenCaughtThrough q (g := F0 m pc ls rest) rfl (Steps.refl _) (by rw [hT]; exact hcell) (by rw [hv]; rfl) (by obtain ⟨k9, h9, -⟩ := Vm.findClass_spec hcl; exact ⟨k9, h9⟩) pre x suf hsplit
    (fun z hz => by
      rcases hpass z hz with h | ⟨hz0, nm, hl1, hn1⟩
      · exact Or.inl h
      · obtain ⟨c6, hc6, hcl6⟩ := Cond.classLink_spec hown hl1 e.platform hpl
        obtain ⟨a8, b8, h1, h2, h3⟩ := hn1
        cases Option.some.inj (h1.symm.trans hcl)
        cases Option.some.inj (h2.symm.trans hc6)
        exact Or.inr ⟨hz0, _, hcl6, h3⟩) hx (Or.inr ⟨h0, c4, hcl5, hasg⟩)
  obtain ⟨t, a1, b1⟩ := kk (T.setVm vm') hT X'
  exact ⟨t, st.trans a1, b1⟩
end Rows
section Ends
variable {p : Program} {l : Launch} {e : Env} {R : Room} {s : State} {m : MethodId} {args : Array Value} {below : List Frame} {meth : Method} {c : Code} {H : Heap} {locs : List Loc} {cells slots : Nat} {Q : State → Prop}
variable {mc ms : Nat} {free : Addr → Prop} {A0 A1 : Nat → Prop} {H0 : Heap} {a : Array Value} {ls : Array Slot} {st0 rest : List Value}
variable {Qc : Array Value → State → Outcome → State → Prop} {XC : String → State → State → Prop}
/-- what a body that may throw owes at its end -/
def vx_MQ (below : List Frame) (Qc : Array Value → State → Outcome → State → Prop) (XC : String → State → State → Prop) (a : Array Value) (s : State) (mc ms : Nat) (free : Addr → Prop) : State → Prop := fun t =>
  ∃ o, t.status = .running ∧ Ended t below o ∧ vx_Q Qc XC mc ms free a s o t
theorem vx_ret {g : JFrame} {mc ms : Nat} (k : W p l e R s m args below meth c H locs cells slots (MQ below Qc args s mc ms free) g) : W p l e R s m args below meth c H locs cells slots (vx_MQ below Qc XC args s mc ms free) g := by
  intro T hT X
  obtain ⟨t, a1, o, b1, b2, b3, b4⟩ := k T hT X
  exact ⟨t, a1, o, b1, b2, Or.inl ⟨b3, b4⟩⟩
/-- not caught here: it goes on to the caller -/
theorem vx_widen {g : JFrame} {q : Addr} {k n : Nat} (h1 : cells ≤ k) (h2 : slots ≤ n) (kk : vx_W p l e R s m args below meth c H locs k n Q g q) : vx_W p l e R s m args below meth c H locs cells slots Q g q := fun T hT X => kk T hT (stand_widen X h1 h2)
theorem vx_out {pc : Nat} {E : String} {ce : Cell} {q : Addr} {mc ms : Nat} (hout : ∀ x ∈ c.exceptionTable.toList, covers x pc = false) (hlocks : meth.locks = false) (hcell : H[q]? = some ce) (hv : ce.vm = .none) (hcl : s.vm.findClass E = some ce.cls)
    (hx : ∀ t : State, t.heap = H → s.vm.Alike t.vm → XC E s t) (hf : ∀ z ∈ locs, free z.base) (hc : cells ≤ mc) (hs : slots ≤ ms) :
    vx_W p l e R s m args below meth c H locs cells slots (vx_MQ below Qc XC args s mc ms free) (F0 m pc ls rest) q := by
  intro T hT X
  obtain ⟨st1, hrun, hend, hW, hsm⟩ := X.leaveThrown q (g := F0 m pc ls rest) rfl rfl rfl hout hlocks
  have hcell9 : (T.setFrames (.throwing q :: below)).heap[q]? = some ce := by
    show T.heap[q]? = some ce
    rw [hT]; exact hcell
  exact ⟨_, st1, .threw q, hrun, hend, Or.inr ⟨q, rfl, E, ce, locs, hx _ hT hW.alike, hcell9, hv, hcl, hW, hsm.mono hc hs, hf⟩⟩
theorem vx_frame {U : State} {k n : Nat} (h : s.sameButNew ({ U with vm := s.vm } : State) locs k n) : s.heap.size ≤ U.heap.size ∧ ∀ q : Nat, q < s.heap.size → (∀ z ∈ locs, z.base ≠ q) → U.heap[q]? = s.heap[q]? := by
  obtain ⟨-, h2, -, -, -, h6⟩ := h
  refine ⟨h2, fun q hq hz => ?_⟩
  obtain ⟨c9, e1, e2, e3, e4⟩ := h6 q _ (Array.getElem?_eq_getElem hq)
  have hs : c9.slots = (s.heap[q]).slots := Array.ext_getElem? fun i => e4 i fun hm => hz _ hm rfl
  have h9 : c9 = s.heap[q] := by
    rw [hs] at e2
    exact e2
  have e5 : U.heap[q]? = some c9 := e1
  rw [e5, h9, Array.getElem?_eq_getElem hq]
/-- the words of a throw but the four that speak of the heap -/
def vx_no (w : Cond) : Bool := decide (w ≠ .isRef (.static Bundle.tN "UNASSIGNED_STACK" Bundle.steD)) && decide (w ≠ .isRef (.static Bundle.tN "SUPPRESSED_SENTINEL" Bundle.listD)) && decide (w ≠ .laysStatic Bundle.tN "UNASSIGNED_STACK" Bundle.steD) && decide (w ≠ .laysStatic Bundle.tN "SUPPRESSED_SENTINEL" Bundle.listD)
def vx_at0 (own : String) (ic : Nat) (X : String) (names : List String) : List Cond := (Bundle.ownAtoms0 own ic X names).filter vx_no
def vx_atS (own : String) (ic : Nat) (X : String) (names : List String) : List Cond := (Bundle.ownAtoms own ic X names).filter vx_no
/-- a word that the tables alone decide, or a good one -/
def vx_ot (w : Cond) : Bool := w.onTables || goodWord w
theorem vx_ot_at {args a' : Array Value} {s U : State} {w : Cond} (hW : s.WarmedH U.vm) (hvm : s.vm = U.vm) (hg : vx_ot w = true) (h : w.before args s = true) : w.before a' U = true := by
  simp only [vx_ot, Bool.or_eq_true] at hg
  rcases hg with hg | hg
  · exact va_tabs hg hvm h
  · exact word_at hW (good_of_word hg) h
/-- a list's words: the good ones out of the method's own list, the others by premises of their own -/
theorem vx_hat {args : Array Value} {s : State} {L B : List Cond} (h1 : ∀ w ∈ L.filter goodWord, w.before args s = true) (h2 : ∀ w ∈ L.filter (fun w => !goodWord w), w ∈ B) (h3 : ∀ w ∈ B, w.before args s = true) : ∀ w ∈ L, w.before args s = true := by
  intro w hw
  by_cases g : goodWord w = true
  · exact h1 w (List.mem_filter.mpr ⟨hw, g⟩)
  · refine h3 w (h2 w (List.mem_filter.mpr ⟨hw, ?_⟩))
    show (!goodWord w) = true
    cases hgw : goodWord w
    · rfl
    · exact absurd hgw g
theorem vx_c {args : Array Value} {s : State} {w : Cond} {B : List Cond} (h : w.before args s = true) (t : ∀ w ∈ B, w.before args s = true) : ∀ w' ∈ w :: B, w'.before args s = true := fun w' h' => (List.mem_cons.mp h').elim (fun e => by rw [e]; exact h) (t w')
theorem vx_n {args : Array Value} {s : State} : ∀ w ∈ ([] : List Cond), w.before args s = true := fun _ h => nomatch h
theorem vx_own {args : Array Value} {s : State} {L : List Cond} (h1 : ∀ w ∈ L.filter vx_no, w.before args s = true)
    (hU : (Cond.isRef (.static Bundle.tN "UNASSIGNED_STACK" Bundle.steD)).before args s = true) (hN : (Cond.isRef (.static Bundle.tN "SUPPRESSED_SENTINEL" Bundle.listD)).before args s = true)
    (lU : (Cond.laysStatic Bundle.tN "UNASSIGNED_STACK" Bundle.steD).before args s = true) (lN : (Cond.laysStatic Bundle.tN "SUPPRESSED_SENTINEL" Bundle.listD).before args s = true) : ∀ w ∈ L, w.before args s = true := by
  intro w hw
  by_cases e1 : w = .isRef (.static Bundle.tN "UNASSIGNED_STACK" Bundle.steD)
  · rw [e1]; exact hU
  · by_cases e2 : w = .isRef (.static Bundle.tN "SUPPRESSED_SENTINEL" Bundle.listD)
    · rw [e2]; exact hN
    · by_cases e3 : w = .laysStatic Bundle.tN "UNASSIGNED_STACK" Bundle.steD
      · rw [e3]; exact lU
      · by_cases e4 : w = .laysStatic Bundle.tN "SUPPRESSED_SENTINEL" Bundle.listD
        · rw [e4]; exact lN
        · exact h1 w (List.mem_filter.mpr ⟨hw, by unfold vx_no; rw [decide_eq_true e1, decide_eq_true e2, decide_eq_true e3, decide_eq_true e4]; rfl⟩)
/-- where a static field lies, its class's statics cell in H -/
def vx_L (C n d : String) (A : Nat → Prop) (U : State) (H : Heap) : Prop := ∃ (c : ClassId) (k : Class) (i : Nat) (f : Field) (a : Nat) (cell : Cell), U.vm.findClass C = some c ∧ U.fieldFound? C n d = some (c, k, i, f) ∧ f.isStatic = true ∧ k.statics = some a ∧ H[a]? = some cell ∧ cell.vm.isStatics = true ∧ cell.cls = c ∧ f.slot < cell.slots.size ∧ k.staticTypes[f.slot]? = some f.type ∧ ¬ A a
theorem vx_L.moved {C n d : String} {A : Nat → Prop} {u U : State} {H : Heap} (hvm : u.vm.Alike U.vm) (h : vx_L C n d A u H) : vx_L C n d A U H := by
  obtain ⟨c, k, i, f, a, cell, h1, h2, h3, h4, h5, h6, h7, h8, h9, h10⟩ := h
  obtain ⟨k', hi', he⟩ := State.fieldFound?_setVm hvm h2
  exact ⟨c, k', i, f, a, cell, by rw [hvm.findClass]; exact h1, hi', h3, by rw [he]; exact h4, h5, h6, h7, h8, by rw [he]; exact h9, h10⟩
theorem vx_L.kept {C n d : String} {A : Nat → Prop} {U : State} {H H1 : Heap} (h : vx_L C n d A U H) (hq : ∀ a : Nat, a < H.size → ¬ A a → H1[a]? = H[a]?) : vx_L C n d A U H1 := by
  obtain ⟨c, k, i, f, a, cell, h1, h2, h3, h4, h5, h6, h7, h8, h9, h10⟩ := h
  exact ⟨c, k, i, f, a, cell, h1, h2, h3, h4, by rw [hq a (Array.getElem?_eq_some_iff.mp h5).1 h10]; exact h5, h6, h7, h8, h9, h10⟩
theorem vx_L.narrow {C n d : String} {A B : Nat → Prop} {U : State} {H : Heap} (h : vx_L C n d A U H) (hAB : ∀ q, B q → A q) : vx_L C n d B U H := by
  obtain ⟨c, k, i, f, a, cell, h1, h2, h3, h4, h5, h6, h7, h8, h9, h10⟩ := h
  exact ⟨c, k, i, f, a, cell, h1, h2, h3, h4, h5, h6, h7, h8, h9, fun z => h10 (hAB _ z)⟩
theorem vx_L.word {C n d : String} {A : Nat → Prop} {s : State} {args : Array Value} (h : vx_L C n d A s s.heap) : (Cond.laysStatic C n d).before args s = true := by
  obtain ⟨c, k, i, f, a, cell, h1, h2, h3, h4, h5, h6, h7, h8, h9, -⟩ := h
  show (Cond.laysStatic C n d).holds args s none s [] = true
  exact Cond.laysStatic_of h1 h2 h3 h4 h5 h6 h7 h8 h9
/-- .. and what it holds: null or some reference -/
def vx_Zq (C n d : String) (A : Nat → Prop) (U : State) (H : Heap) : Prop := va_Zq C n d A U H ∧ vx_L C n d A U H
theorem vx_Zq.moved {C n d : String} {A : Nat → Prop} {u U : State} {H : Heap} (hvm : u.vm.Alike U.vm) (h : vx_Zq C n d A u H) : vx_Zq C n d A U H := ⟨va_Zq.moved hvm h.1, vx_L.moved hvm h.2⟩
theorem vx_Zq.kept {C n d : String} {A : Nat → Prop} {U : State} {H H1 : Heap} (h : vx_Zq C n d A U H) (hq : ∀ a : Nat, a < H.size → ¬ A a → H1[a]? = H[a]?) : vx_Zq C n d A U H1 := ⟨va_Zq.kept h.1 hq, vx_L.kept h.2 hq⟩
theorem vx_Zq.narrow {C n d : String} {A B : Nat → Prop} {U : State} {H : Heap} (h : vx_Zq C n d A U H) (hAB : ∀ q, B q → A q) : vx_Zq C n d B U H := ⟨va_Zq.narrow h.1 hAB, vx_L.narrow h.2 hAB⟩
theorem vx_Zqof {args : Array Value} {s : State} {C n d : String} {A : Nat → Prop} (hl : (Cond.laysStatic C n d).before args s = true) (hini : (Cond.initialized C).before args s = true) (h : (Cond.isRef (.static C n d)).before args s = true) (hA : ∀ a : Nat, a < s.heap.size → ¬ A a) : vx_Zq C n d A s s.heap := by
  refine ⟨va_Zqof hl hini h hA, ?_⟩
  obtain ⟨c, k, i, f, a, cell, h1, h2, h3, h4, h5, h6, h7, h8, h9⟩ := Cond.laysStatic_spec hl
  exact ⟨c, k, i, f, a, cell, h1, h2, h3, h4, h5, h6, h7, h8, h9, hA a (Array.getElem?_eq_some_iff.mp h5).1⟩
theorem vx_isRef {C n d : String} {v : Value} {A : Nat → Prop} {s : State} {args : Array Value} (h : va_Z C n d v A s s.heap) (hv : v.isRef = true) : (Cond.isRef (.static C n d)).before args s = true := by
  obtain ⟨cf, kf, fi, f, a, cell, h1, h2, h3, h4, h5, h6, h7, -⟩ := h
  have he : (Term.static C n d).eval args s none [] s = some v := by
    simp [Term.eval, State.fieldNamed?, h1, h2, h4, h5, h6, h7]
  simp only [Cond.before, Cond.holds, Cond.value, he]
  cases v <;> simp_all [Value.isRef]
theorem vx_isRefq {C n d : String} {A : Nat → Prop} {s : State} {args : Array Value} (h : va_Zq C n d A s s.heap) : (Cond.isRef (.static C n d)).before args s = true := by
  rcases h with h | ⟨t, h⟩
  · exact vx_isRef h rfl
  · exact vx_isRef h rfl
/-- the same frame, seen from here: as if the method were called anew in this heap -/
theorem vx_rebase {T : State} (X : Stand p l e R s m args below meth c T locs cells slots) {R' : Room} (hf : R'.frames ≤ R.frames) (hl : R'.locals ≤ R.locals) (hc : cells + R'.cells ≤ R.cells) (hs : slots + R'.slots ≤ R.slots) :
    Stand p l e R' ((T.setVm s.vm).setFrames (.invoking m args :: below)) m args below meth c T [] 0 0 := by
  have htop : (T.setVm s.vm).topJava?.isSome := X.here.top
  have hF : ((T.setVm s.vm).setFrames (.invoking m args :: below)).frames = .invoking m args :: below := State.frames_setFrames _ (State.cur_lt_of_top htop)
  obtain ⟨g₀, hg0⟩ := Option.isSome_iff_exists.mp htop
  obtain ⟨r, hr⟩ := State.topJava?_eq_some.mp hg0
  have hl9 : e.platform.stackLimits (T.setVm s.vm).me = e.platform.stackLimits s.me := X.limits
  have hb9 : (T.setVm s.vm).me.stackBytes = s.me.stackBytes := X.bytes
  refine ⟨X.admits, X.cas, X.clock, hF, ?_, X.hears, X.method, X.code, X.here, X.tail, X.warmed, ?_, ?_, ?_⟩
  · have h := X.room
    have hU : ((T.setVm s.vm).setFrames (.invoking m args :: below)).localsInUse = s.localsInUse := by
      rw [State.localsInUse_invoking hF (meth := meth) (c := c) X.method X.code, State.localsInUse_invoking X.frames X.method X.code]
    simp only [State.hasRoom, Bool.and_eq_true, decide_eq_true_eq] at h ⊢
    obtain ⟨⟨⟨⟨h1, h2, h3, h4, h5, h6⟩, h7⟩, h8⟩, h9⟩ := h
    rw [X.frames, List.length_cons] at h2 h3
    have q1 := X.heapSize
    have q2 := X.used
    simp only [hF, hU, List.length_cons, State.stackLimits_setFrames, State.stackBytes_setFrames, hl9, hb9]
    refine ⟨⟨⟨⟨by omega, by omega, by omega, by omega, by omega, h6⟩, ?_⟩, ?_⟩, X.book⟩
    · show T.heap.size + R'.cells ≤ e.platform.maxCells
      omega
    · show T.slotsUsed + R'.slots ≤ e.platform.maxSlots
      omega
  · rw [State.stackLimits_setFrames]; rfl
  · rw [State.stackBytes_setFrames]; rfl
  · refine ⟨?_, Nat.le_refl _, Nat.le_refl _, ?_, ?_, fun a c9 h9 => ⟨c9, h9, rfl, rfl, fun _ _ => rfl⟩⟩
    · obtain ⟨t, ht, -⟩ := State.frames_cons hr
      show T.setVm s.vm = { ((T.setVm s.vm).setFrames (.invoking m args :: below)).setFrames (T.setVm s.vm).frames with heap := T.heap, slotsUsed := T.slotsUsed }
      rw [State.setFrames_setFrames, State.setFrames_self ht]
      rfl
    · show T.slotsUsed = T.slotsUsed + ((T.heap.toList.drop T.heap.size).map (·.slots.size)).sum
      rw [List.drop_eq_nil_of_le (Nat.le_of_eq Array.length_toList)]
      rfl
    · show ((T.heap.toList.drop T.heap.size).map (·.slots.size)).sum ≤ 0
      rw [List.drop_eq_nil_of_le (Nat.le_of_eq Array.length_toList)]
      exact Nat.le_refl _
/-- 'throw new E()': new; dup; invokespecial; athrow -/
theorem vx_throw0 {cc : ByteArray} {pc : Nat} (hexec : p.tables.exec = Jvm.exec) (hb : c.code = cc) (hl : l.stackTraces = false) {own cls : String} {names : List String} {ik ic mc ms : Nat} {A : Nat → Prop}
    (hown : s.vm.findClass own = some m.cls) (hcls : Bundle.fit cls = true) (hnames : ∀ n ∈ names, Bundle.fit n = true)
    (hk : (Cond.classLink own ik cls).before args s = true) (hini : (Cond.initialized cls).before args s = true) (hat : ∀ w ∈ vx_at0 own ic cls names, w.before args s = true)
    (hgood : ∀ w ∈ Cond.classLink own ik cls :: Cond.initialized cls :: vx_at0 own ic cls names, vx_ot w = true)
    (hU : vx_Zq Bundle.tN "UNASSIGNED_STACK" Bundle.steD A s s.heap) (hN : vx_Zq Bundle.tN "SUPPRESSED_SENTINEL" Bundle.listD A s s.heap) (hS : va_S A s.heap H locs) (hsize : ls.size = c.maxLocals)
    (d0 : decode cc pc = .ok (.new ik, 3)) (d3 : decode cc (pc + 3) = .ok (.dup, 1)) (d4 : decode cc (pc + 4) = .ok (.invokespecial ic, 3)) (d7 : decode cc (pc + 7) = .ok (.athrow, 1))
    (hout : ∀ x ∈ c.exceptionTable.toList, covers x (pc + 7) = false)
    (hRframes : names.length + 3 < R.frames) (hRlocals : (rest.map fun v => v.category).sum + (13 * (names.length + 1) + 42) ≤ R.locals) (hRcells : cells + 1 ≤ R.cells) (hRslots : slots + 6 ≤ R.slots) (hlocks : meth.locks = false)
    (hx : ∀ t : State, s.vm.Alike t.vm → H.size ≤ t.heap.size → (∀ q : Nat, q < H.size → t.heap[q]? = H[q]?) → XC cls s t)
    (hf : ∀ z ∈ locs, free z.base) (hc : cells + 1 ≤ mc) (hs : slots + 6 ≤ ms) :
    W p l e R s m args below meth c H locs cells slots (vx_MQ below Qc XC args s mc ms free) (F0 m pc ls rest) := by
  intro T hT X
  have htr : e.platform.stackTraces = false := (show e.platform.stackTraces = l.stackTraces by rw [X.admits.platform]).trans hl
  have Y := vx_rebase X (R' := { frames := R.frames, locals := R.locals, cells := 1, slots := 6 }) (Nat.le_refl _) (Nat.le_refl _) hRcells hRslots
  obtain ⟨s', hA⟩ : ∃ z, z = (T.setVm s.vm).setFrames (.invoking m args :: below) := ⟨_, rfl⟩
  rw [← hA] at Y
  have hvm : s'.vm = s.vm := by rw [hA]; rfl
  have hhp : s'.heap = H := by rw [hA]; exact hT
  have hW0 : s.WarmedH s'.vm := by rw [hvm]; exact State.WarmedH.refl s
  have hat' : ∀ w ∈ vx_at0 own ic cls names, w.before args s' = true := fun w hw => vx_ot_at hW0 hvm.symm (hgood w (List.mem_cons_of_mem _ (List.mem_cons_of_mem _ hw))) (hat w hw)
  have hk' : (Cond.classLink own ik cls).before args s' = true := vx_ot_at hW0 hvm.symm (hgood _ List.mem_cons_self) hk
  have hini' : (Cond.initialized cls).before args s' = true := vx_ot_at hW0 hvm.symm (hgood _ (List.mem_cons_of_mem _ List.mem_cons_self)) hini
  have hU' : vx_Zq Bundle.tN "UNASSIGNED_STACK" Bundle.steD A s' s'.heap := by rw [hhp]; exact vx_Zq.moved hW0.alike (hU.kept hS.2.1)
  have hN' : vx_Zq Bundle.tN "SUPPRESSED_SENTINEL" Bundle.listD A s' s'.heap := by rw [hhp]; exact vx_Zq.moved hW0.alike (hN.kept hS.2.1)
  have h : ∀ w ∈ Bundle.ownAtoms0 own ic cls names, w.before args s' = true := vx_own hat' (vx_isRefq hU'.1) (vx_isRefq hN'.1) hU'.2.word hN'.2.word
  have hown' : s'.vm.findClass own = some m.cls := by rw [hvm]; exact hown
  have hins : (Cond.instantiable cls 6).before args s' = true := h _ (by simp [Bundle.ownAtoms0])
  obtain ⟨vm₁, cX, kX, hfX, hkX, -, -, X₁, st1⟩ := Y.newCold hexec (own := own) (C := cls) (index := ik) (n := 6) hown' hk' hins hini'
    (g := F0 m pc ls rest) rfl (by rw [hb]; exact d0) (Nat.le_refl _) (Nat.le_refl _)
  generalize hT1 : (T.setVm vm₁).pushCell { cls := cX, slots := kX.instanceTypes.map defaultValue, vm := .none } = T1 at X₁ st1
  have hcat : (Value.ref T.heap.size).category = 1 := rfl
  have hcellA : T1.heap[T.heap.size]? = some (freshCell cX kX) := by rw [← hT1]; exact State.heap_pushCell_size _ _
  have d3' : decode c.code (pc + 3) = .ok (.dup, 1) := by rw [hb]; exact d3
  obtain ⟨U, hsteps, hrun, hend, hW, hsame, ce, hce, hO⟩ := X₁.ctorThrow0 hexec htr (own := own) (cls := cls) (names := names) (ic := ic) hown' hcls hnames h (fun x hx => nomatch hx) hfX hkX hcellA (by rw [hhp, hT]; exact Nat.le_refl _)
    (g := { method := m, pc := pc + 4, locals := ls, stack := .ref T.heap.size :: .ref T.heap.size :: rest, locked := none }) rfl hsize rfl rfl (rest := rest) rfl
    (by rw [hb]; exact d4) (by rw [hb]; exact d7) hout hRframes (by simp only [List.map_cons, List.sum_cons, hcat]; omega) hlocks
  obtain ⟨f1, f2⟩ := vx_frame hsame
  rw [hhp] at f1 f2
  have hWs : s.WarmedH U.vm := State.WarmedH.trans hW0 hW
  have hcl : s.vm.findClass cls = some ce.cls := by
    have h9 := hO.cls
    rw [hvm] at h9
    exact h9
  have hall : s.sameButNew ({ U with vm := s.vm } : State) locs mc ms := by
    subst hA
    obtain ⟨e1, e2⟩ := hsame
    rw [State.setFrames_setFrames] at e1
    have h2 : (T.setVm s.vm).sameButNew ({ U with vm := s.vm } : State) [] (0 + 1) (0 + 6) := ⟨e1, e2⟩
    have h3 := X.same.trans h2
    rw [List.append_nil] at h3
    exact h3.mono hc hs
  refine ⟨U, ?_, .threw T.heap.size, hrun, hend, Or.inr ⟨T.heap.size, rfl, cls, ce, locs, hx U hWs.alike f1 (fun q hq => f2 q hq (fun z hz => nomatch hz)), hce, hO.vm, hcl, hWs, hall, hf⟩⟩
  refine st1 _ ?_
  show Steps p.tables e below (T1.setTop { method := m, pc := pc + 3, locals := ls, stack := .ref T.heap.size :: rest, locked := none }) _
  jvm_step X₁.here [X₁.here.top, hexec, d3', Value.category]
  exact hsteps
/-- 'throw new E("text")': new; dup; ldc; invokespecial; athrow -/
theorem vx_throwS {cc : ByteArray} {pc : Nat} (hexec : p.tables.exec = Jvm.exec) (hb : c.code = cc) (hl : l.stackTraces = false) {own cls text : String} {names : List String} {ik is ic mc ms sa : Nat} {A : Nat → Prop}
    (hown : s.vm.findClass own = some m.cls) (hcls : Bundle.fit cls = true) (hnames : ∀ n ∈ names, Bundle.fit n = true)
    (hk : (Cond.classLink own ik cls).before args s = true) (hini : (Cond.initialized cls).before args s = true) (hstr : vk_R own is text sa s) (hat : ∀ w ∈ vx_atS own ic cls names, w.before args s = true)
    (hgood : ∀ w ∈ Cond.classLink own ik cls :: Cond.initialized cls :: vx_atS own ic cls names, vx_ot w = true)
    (hU : vx_Zq Bundle.tN "UNASSIGNED_STACK" Bundle.steD A s s.heap) (hN : vx_Zq Bundle.tN "SUPPRESSED_SENTINEL" Bundle.listD A s s.heap) (hS : va_S A s.heap H locs) (hsize : ls.size = c.maxLocals)
    (d0 : decode cc pc = .ok (.new ik, 3)) (d3 : decode cc (pc + 3) = .ok (.dup, 1)) (d4 : decode cc (pc + 4) = .ok (.ldc is, 2)) (d6 : decode cc (pc + 6) = .ok (.invokespecial ic, 3)) (d9 : decode cc (pc + 9) = .ok (.athrow, 1))
    (hout : ∀ x ∈ c.exceptionTable.toList, covers x (pc + 9) = false)
    (hRframes : names.length + 3 < R.frames) (hRlocals : (rest.map fun v => v.category).sum + (13 * (names.length + 1) + 43) ≤ R.locals) (hRcells : cells + 1 ≤ R.cells) (hRslots : slots + 6 ≤ R.slots) (hlocks : meth.locks = false)
    (hx : ∀ t : State, s.vm.Alike t.vm → H.size ≤ t.heap.size → (∀ q : Nat, q < H.size → t.heap[q]? = H[q]?) → XC cls s t)
    (hf : ∀ z ∈ locs, free z.base) (hc : cells + 1 ≤ mc) (hs : slots + 6 ≤ ms) :
    W p l e R s m args below meth c H locs cells slots (vx_MQ below Qc XC args s mc ms free) (F0 m pc ls rest) := by
  intro T hT X
  have htr : e.platform.stackTraces = false := (show e.platform.stackTraces = l.stackTraces by rw [X.admits.platform]).trans hl
  have Y := vx_rebase X (R' := { frames := R.frames, locals := R.locals, cells := 1, slots := 6 }) (Nat.le_refl _) (Nat.le_refl _) hRcells hRslots
  obtain ⟨s', hA⟩ : ∃ z, z = (T.setVm s.vm).setFrames (.invoking m args :: below) := ⟨_, rfl⟩
  rw [← hA] at Y
  have hvm : s'.vm = s.vm := by rw [hA]; rfl
  have hhp : s'.heap = H := by rw [hA]; exact hT
  have hW0 : s.WarmedH s'.vm := by rw [hvm]; exact State.WarmedH.refl s
  have hat' : ∀ w ∈ vx_atS own ic cls names, w.before args s' = true := fun w hw => vx_ot_at hW0 hvm.symm (hgood w (List.mem_cons_of_mem _ (List.mem_cons_of_mem _ hw))) (hat w hw)
  have hk' : (Cond.classLink own ik cls).before args s' = true := vx_ot_at hW0 hvm.symm (hgood _ List.mem_cons_self) hk
  have hini' : (Cond.initialized cls).before args s' = true := vx_ot_at hW0 hvm.symm (hgood _ (List.mem_cons_of_mem _ List.mem_cons_self)) hini
  have hU' : vx_Zq Bundle.tN "UNASSIGNED_STACK" Bundle.steD A s' s'.heap := by rw [hhp]; exact vx_Zq.moved hW0.alike (hU.kept hS.2.1)
  have hN' : vx_Zq Bundle.tN "SUPPRESSED_SENTINEL" Bundle.listD A s' s'.heap := by rw [hhp]; exact vx_Zq.moved hW0.alike (hN.kept hS.2.1)
  have h : ∀ w ∈ Bundle.ownAtoms own ic cls names, w.before args s' = true := vx_own hat' (vx_isRefq hU'.1) (vx_isRefq hN'.1) hU'.2.word hN'.2.word
  have hown' : s'.vm.findClass own = some m.cls := by rw [hvm]; exact hown
  have hins : (Cond.instantiable cls 6).before args s' = true := h _ (by simp [Bundle.ownAtoms])
  obtain ⟨vm₁, cX, kX, hfX, hkX, -, -, X₁, st1⟩ := Y.newCold hexec (own := own) (C := cls) (index := ik) (n := 6) hown' hk' hins hini'
    (g := F0 m pc ls rest) rfl (by rw [hb]; exact d0) (Nat.le_refl _) (Nat.le_refl _)
  generalize hT1 : (T.setVm vm₁).pushCell { cls := cX, slots := kX.instanceTypes.map defaultValue, vm := .none } = T1 at X₁ st1
  have hcat : (Value.ref T.heap.size).category = 1 := rfl
  have hcellA : T1.heap[T.heap.size]? = some (freshCell cX kX) := by rw [← hT1]; exact State.heap_pushCell_size _ _
  have d3' : decode c.code (pc + 3) = .ok (.dup, 1) := by rw [hb]; exact d3
  have d4' : decode c.code (pc + 4) = .ok (.ldc is, 2) := by rw [hb]; exact d4
  have hstr' : vk_R own is text sa s' := vk_R.warm hW0 hstr
  obtain ⟨U, hsteps, hrun, hend, hW, hsame, ce, hce, hO⟩ := X₁.ctorThrowS hexec htr (own := own) (cls := cls) (names := names) (ic := ic) hown' hcls hnames h (fun x hx => nomatch hx) hfX hkX hcellA (by rw [hhp, hT]; exact Nat.le_refl _) (msg := .ref sa) rfl
    (g := { method := m, pc := pc + 6, locals := ls, stack := .ref sa :: .ref T.heap.size :: .ref T.heap.size :: rest, locked := none }) rfl hsize rfl rfl (rest := rest) rfl
    (by rw [hb]; exact d6) (by rw [hb]; exact d9) hout hRframes (by simp only [List.map_cons, List.sum_cons, hcat]; omega) hlocks
  obtain ⟨f1, f2⟩ := vx_frame hsame
  rw [hhp] at f1 f2
  have hWs : s.WarmedH U.vm := State.WarmedH.trans hW0 hW
  have hcl : s.vm.findClass cls = some ce.cls := by
    have h9 := hO.cls
    rw [hvm] at h9
    exact h9
  have hall : s.sameButNew ({ U with vm := s.vm } : State) locs mc ms := by
    subst hA
    obtain ⟨e1, e2⟩ := hsame
    rw [State.setFrames_setFrames] at e1
    have h2 : (T.setVm s.vm).sameButNew ({ U with vm := s.vm } : State) [] (0 + 1) (0 + 6) := ⟨e1, e2⟩
    have h3 := X.same.trans h2
    rw [List.append_nil] at h3
    exact h3.mono hc hs
  refine ⟨U, ?_, .threw T.heap.size, hrun, hend, Or.inr ⟨T.heap.size, rfl, cls, ce, locs, hx U hWs.alike f1 (fun q hq => f2 q hq (fun z hz => nomatch hz)), hce, hO.vm, hcl, hWs, hall, hf⟩⟩
  refine st1 _ ?_
  show Steps p.tables e below (T1.setTop { method := m, pc := pc + 3, locals := ls, stack := .ref T.heap.size :: rest, locked := none }) _
  jvm_step X₁.here [X₁.here.top, hexec, d3', Value.category]
  exact X₁.ldcString hexec (own := own) (text := text) (index := is) (a := sa) hown' hstr'.1 hstr'.2
    (g := { method := m, pc := pc + 4, locals := ls, stack := .ref T.heap.size :: .ref T.heap.size :: rest, locked := none }) rfl d4' _ hsteps
/-- 'throw new E("text")', the text by a wide index -/
theorem vx_throwSW {cc : ByteArray} {pc : Nat} (hexec : p.tables.exec = Jvm.exec) (hb : c.code = cc) (hl : l.stackTraces = false) {own cls text : String} {names : List String} {ik is ic mc ms sa : Nat} {A : Nat → Prop}
    (hown : s.vm.findClass own = some m.cls) (hcls : Bundle.fit cls = true) (hnames : ∀ n ∈ names, Bundle.fit n = true)
    (hk : (Cond.classLink own ik cls).before args s = true) (hini : (Cond.initialized cls).before args s = true) (hstr : vk_R own is text sa s) (hat : ∀ w ∈ vx_atS own ic cls names, w.before args s = true)
    (hgood : ∀ w ∈ Cond.classLink own ik cls :: Cond.initialized cls :: vx_atS own ic cls names, vx_ot w = true)
    (hU : vx_Zq Bundle.tN "UNASSIGNED_STACK" Bundle.steD A s s.heap) (hN : vx_Zq Bundle.tN "SUPPRESSED_SENTINEL" Bundle.listD A s s.heap) (hS : va_S A s.heap H locs) (hsize : ls.size = c.maxLocals)
    (d0 : decode cc pc = .ok (.new ik, 3)) (d3 : decode cc (pc + 3) = .ok (.dup, 1)) (d4 : decode cc (pc + 4) = .ok (.ldc_w is, 3)) (d7 : decode cc (pc + 7) = .ok (.invokespecial ic, 3)) (d10 : decode cc (pc + 10) = .ok (.athrow, 1))
    (hout : ∀ x ∈ c.exceptionTable.toList, covers x (pc + 10) = false)
    (hRframes : names.length + 3 < R.frames) (hRlocals : (rest.map fun v => v.category).sum + (13 * (names.length + 1) + 43) ≤ R.locals) (hRcells : cells + 1 ≤ R.cells) (hRslots : slots + 6 ≤ R.slots) (hlocks : meth.locks = false)
    (hx : ∀ t : State, s.vm.Alike t.vm → H.size ≤ t.heap.size → (∀ q : Nat, q < H.size → t.heap[q]? = H[q]?) → XC cls s t)
    (hf : ∀ z ∈ locs, free z.base) (hc : cells + 1 ≤ mc) (hs : slots + 6 ≤ ms) :
    W p l e R s m args below meth c H locs cells slots (vx_MQ below Qc XC args s mc ms free) (F0 m pc ls rest) := by
  intro T hT X
  have htr : e.platform.stackTraces = false := (show e.platform.stackTraces = l.stackTraces by rw [X.admits.platform]).trans hl
  have Y := vx_rebase X (R' := { frames := R.frames, locals := R.locals, cells := 1, slots := 6 }) (Nat.le_refl _) (Nat.le_refl _) hRcells hRslots
  obtain ⟨s', hA⟩ : ∃ z, z = (T.setVm s.vm).setFrames (.invoking m args :: below) := ⟨_, rfl⟩
  rw [← hA] at Y
  have hvm : s'.vm = s.vm := by rw [hA]; rfl
  have hhp : s'.heap = H := by rw [hA]; exact hT
  have hW0 : s.WarmedH s'.vm := by rw [hvm]; exact State.WarmedH.refl s
  have hat' : ∀ w ∈ vx_atS own ic cls names, w.before args s' = true := fun w hw => vx_ot_at hW0 hvm.symm (hgood w (List.mem_cons_of_mem _ (List.mem_cons_of_mem _ hw))) (hat w hw)
  have hk' : (Cond.classLink own ik cls).before args s' = true := vx_ot_at hW0 hvm.symm (hgood _ List.mem_cons_self) hk
  have hini' : (Cond.initialized cls).before args s' = true := vx_ot_at hW0 hvm.symm (hgood _ (List.mem_cons_of_mem _ List.mem_cons_self)) hini
  have hU' : vx_Zq Bundle.tN "UNASSIGNED_STACK" Bundle.steD A s' s'.heap := by rw [hhp]; exact vx_Zq.moved hW0.alike (hU.kept hS.2.1)
  have hN' : vx_Zq Bundle.tN "SUPPRESSED_SENTINEL" Bundle.listD A s' s'.heap := by rw [hhp]; exact vx_Zq.moved hW0.alike (hN.kept hS.2.1)
  have h : ∀ w ∈ Bundle.ownAtoms own ic cls names, w.before args s' = true := vx_own hat' (vx_isRefq hU'.1) (vx_isRefq hN'.1) hU'.2.word hN'.2.word
  have hown' : s'.vm.findClass own = some m.cls := by rw [hvm]; exact hown
  have hins : (Cond.instantiable cls 6).before args s' = true := h _ (by simp [Bundle.ownAtoms])
  obtain ⟨vm₁, cX, kX, hfX, hkX, -, -, X₁, st1⟩ := Y.newCold hexec (own := own) (C := cls) (index := ik) (n := 6) hown' hk' hins hini'
    (g := F0 m pc ls rest) rfl (by rw [hb]; exact d0) (Nat.le_refl _) (Nat.le_refl _)
  generalize hT1 : (T.setVm vm₁).pushCell { cls := cX, slots := kX.instanceTypes.map defaultValue, vm := .none } = T1 at X₁ st1
  have hcat : (Value.ref T.heap.size).category = 1 := rfl
  have hcellA : T1.heap[T.heap.size]? = some (freshCell cX kX) := by rw [← hT1]; exact State.heap_pushCell_size _ _
  have d3' : decode c.code (pc + 3) = .ok (.dup, 1) := by rw [hb]; exact d3
  have d4' : decode c.code (pc + 4) = .ok (.ldc_w is, 3) := by rw [hb]; exact d4
  have hstr' : vk_R own is text sa s' := vk_R.warm hW0 hstr
  obtain ⟨U, hsteps, hrun, hend, hW, hsame, ce, hce, hO⟩ := X₁.ctorThrowS hexec htr (own := own) (cls := cls) (names := names) (ic := ic) hown' hcls hnames h (fun x hx => nomatch hx) hfX hkX hcellA (by rw [hhp, hT]; exact Nat.le_refl _) (msg := .ref sa) rfl
    (g := { method := m, pc := pc + 7, locals := ls, stack := .ref sa :: .ref T.heap.size :: .ref T.heap.size :: rest, locked := none }) rfl hsize rfl rfl (rest := rest) rfl
    (by rw [hb]; exact d7) (by rw [hb]; exact d10) hout hRframes (by simp only [List.map_cons, List.sum_cons, hcat]; omega) hlocks
  obtain ⟨f1, f2⟩ := vx_frame hsame
  rw [hhp] at f1 f2
  have hWs : s.WarmedH U.vm := State.WarmedH.trans hW0 hW
  have hcl : s.vm.findClass cls = some ce.cls := by
    have h9 := hO.cls
    rw [hvm] at h9
    exact h9
  have hall : s.sameButNew ({ U with vm := s.vm } : State) locs mc ms := by
    subst hA
    obtain ⟨e1, e2⟩ := hsame
    rw [State.setFrames_setFrames] at e1
    have h2 : (T.setVm s.vm).sameButNew ({ U with vm := s.vm } : State) [] (0 + 1) (0 + 6) := ⟨e1, e2⟩
    have h3 := X.same.trans h2
    rw [List.append_nil] at h3
    exact h3.mono hc hs
  refine ⟨U, ?_, .threw T.heap.size, hrun, hend, Or.inr ⟨T.heap.size, rfl, cls, ce, locs, hx U hWs.alike f1 (fun q hq => f2 q hq (fun z hz => nomatch hz)), hce, hO.vm, hcl, hWs, hall, hf⟩⟩
  refine st1 _ ?_
  show Steps p.tables e below (T1.setTop { method := m, pc := pc + 3, locals := ls, stack := .ref T.heap.size :: rest, locked := none }) _
  jvm_step X₁.here [X₁.here.top, hexec, d3', Value.category]
  exact X₁.ldcStringW hexec (own := own) (text := text) (index := is) (a := sa) hown' hstr'.1 hstr'.2
    (g := { method := m, pc := pc + 4, locals := ls, stack := .ref T.heap.size :: .ref T.heap.size :: rest, locked := none }) rfl d4' _ hsteps
end Ends
section Bodies
variable {l : Launch}
theorem vx_ofW {y : MethodName} {ws ws' : List Cond} {rm : Room} {Pc : Array Value → State → Prop} {Qc : Array Value → State → Outcome → State → Prop} {XC : String → State → State → Prop} {mc ms : Nat} {free : Addr → Prop} {cc : ByteArray} {maxL : Nat} {ret : Option FieldType}
    (hy : plainName y.cls = true) (hw : ws = Cond.code y cc maxL ret :: ws')
    (body : ∀ p e s m args below meth c s₁, BodyLoose p l y (headSpec ws rm) cc maxL ret e s m args below meth c s₁ → c.maxLocals = maxL → (∀ x ∈ c.exceptionTable.toList, False) → Pc args s →
      W p l e (headSpec ws rm).room s m args below meth c s.heap [] 0 0 (vx_MQ below Qc XC args s mc ms free) (entryFrame m args maxL)) : vx_Met l y ws rm Pc Qc XC mc ms free := by
  refine MetFree.of_bodyS (code := cc) (maxLocals := maxL) (ret := ret) hy ?_ ?_
  · intro args s m h hn
    obtain ⟨meth, c, h1, h2, h3, h4, h5, h6, -, -⟩ := Cond.code_spec hn (atoms_spec (ws := ws) h _ (by rw [hw]; exact List.mem_cons_self))
    exact ⟨meth, c, h1, h2, h3, h4, h5, h6⟩
  · intro p e s m args below meth c s₁ B hml hP _
    have hh0 : s₁.heap = s.heap := by rw [B.state]; rfl
    have ht : ∀ x ∈ c.exceptionTable.toList, False := by
      obtain ⟨meth9, c9, h1, h2, -, -, -, -, h7, -⟩ := Cond.code_spec B.named (atoms_spec (ws := ws) B.pre _ (by rw [hw]; exact List.mem_cons_self))
      cases Option.some.inj (h1.symm.trans B.method)
      cases Option.some.inj (h2.symm.trans (Stand.of_body B).code)
      intro x hx
      rw [Array.isEmpty_iff.mp h7] at hx
      cases hx
    obtain ⟨t, a1, o, b1, b2, b3⟩ := body p e s m args below meth c s₁ B hml ht hP s₁ hh0 (Stand.of_body B)
    exact ⟨t, o, a1, b1, b2, b3⟩
/-- the table of a body with handlers -/
theorem vx_table {p : Program} {x y : MethodName} {S : Spec} {cc bytes : ByteArray} {maxL maxL' : Nat} {ret ret' : Option FieldType} {e : Env} {s s₁ : State} {m : MethodId} {args : Array Value} {below : List Frame} {meth : Method} {c : Code} {hh : List (Nat × Nat × Nat × Nat)}
    (B : BodyLoose p l y S cc maxL ret e s m args below meth c s₁) (h : (Cond.codeWith y bytes maxL' ret' hh).before args s = true) : c.exceptionTable.toList = tableOf hh := by
  obtain ⟨m9, meth9, c9, hn9, h1, h2, -, -, h6, -⟩ := Cond.codeWith_spec h
  cases Option.some.inj (hn9.symm.trans B.named)
  cases Option.some.inj (h1.symm.trans B.method)
  cases Option.some.inj (h2.symm.trans (Stand.of_body B).code)
  rw [← h6, table_eq]
end Bodies
end VXA
/-! ===== END ===== -/
/-! ===== BEGIN a static call of a method with an exception table ===== -/
section VXS
variable {p : Program} {l : Launch} {e : Env} {R : Room} {s : State} {m : MethodId} {args : Array Value} {below : List Frame} {meth : Method} {c : Code} {T : State} {H : Heap} {locs : List Loc} {cells slots : Nat}
abbrev vx_CSW (R : Room) (s : State) (args : Array Value) (own : String) (index : Nat) (y : MethodName) (bytes : ByteArray) (maxL : Nat) (ret : Option FieldType) (hh : List (Nat × Nat × Nat × Nat)) (ws : List Cond) (rm : Room) (mc ms n : Nat) : Prop :=
  (rm.cells = mc ∧ rm.slots = ms ∧ rm.frames + 1 ≤ R.frames ∧ 8 + (maxL + 11) + rm.locals ≤ R.locals ∧ (∀ w ∈ ws, ∀ (a' : Array Value) (U : State), s.WarmedH U.vm → w.before a' U = true) ∧ Cond.codeWith y bytes maxL ret hh ∈ ws) ∧
  (Cond.codeWith y bytes maxL ret hh).before args s = true ∧ (Cond.initialized y.cls).before args s = true ∧ (y.cls ≠ "java/lang/invoke/MethodHandle" ∧ y.cls ≠ "java/lang/invoke/VarHandle") ∧
  (∀ sig, parseMethodDescriptor y.desc = some sig → n = sig.parameters.length) ∧ (Cond.methodLink own index y).before args s = true ∧ (Cond.static y).before args s = true
theorem vx_cwSW {own : String} {index maxL mc ms : Nat} {y : MethodName} {bytes : ByteArray} {ret : Option FieldType} {hh : List (Nat × Nat × Nat × Nat)} {Ts ws ws' : List Cond} {rm : Room} (n : Nat) (ht : ∀ w ∈ Ts, w.before args s = true) (hT : GoodIn Ts (va_wsS own index y ws)) (hw : ws = Cond.codeWith y bytes maxL ret hh :: ws') (hrc : rm.cells = mc) (hrs : rm.slots = ms)
    (hd : y.cls ≠ "java/lang/invoke/MethodHandle" ∧ y.cls ≠ "java/lang/invoke/VarHandle" ∧ (parseMethodDescriptor y.desc).map (fun d => d.parameters.length) = some n) (hR : rm.frames + 1 ≤ R.frames ∧ 8 + (maxL + 11) + rm.locals ≤ R.locals) :
    vx_CSW R s args own index y bytes maxL ret hh ws rm mc ms n := by
  have ok : ∀ w ∈ va_wsS own index y ws, w.before args s = true := fun w h => ht w (hT w h).1
  have hG : GoodIn Ts ws := fun w h => hT w (by unfold va_wsS; exact List.mem_append_right _ h)
  have hc : Cond.codeWith y bytes maxL ret hh ∈ ws := by rw [hw]; exact List.mem_cons_self
  refine ⟨⟨hrc, hrs, hR.1, hR.2, pay_in ht hG, hc⟩, ht _ (hG _ hc).1, ok _ (by simp [va_wsS]), ⟨hd.1, hd.2.1⟩, fun sig h => ?_, ok _ (by simp [va_wsS]), ok _ (by simp [va_wsS])⟩
  have h2 := hd.2.2
  rw [h] at h2
  exact (Option.some.inj h2).symm
theorem vx_callSW (X : Stand p l e R s m args below meth c T locs cells slots) (hexec : p.tables.exec = Jvm.exec) {own : String} {index : Nat} {y : MethodName} {bytes : ByteArray} {maxL : Nat} {ret : Option FieldType} {hh : List (Nat × Nat × Nat × Nat)}
    (hown : s.vm.findClass own = some m.cls) (hlink : (Cond.methodLink own index y).before args s = true) (hstat : (Cond.static y).before args s = true) (hinit : (Cond.initialized y.cls).before args s = true)
    (hcode : (Cond.codeWith y bytes maxL ret hh).before args s = true) (hy : y.cls ≠ "java/lang/invoke/MethodHandle" ∧ y.cls ≠ "java/lang/invoke/VarHandle")
    {W9 : Nat} {Pre : Pt → Array Value → Prop} {Post : Pt → Array Value → Option Value → Pt → Prop} (hK : Back l R p e below s args y 3 W9 Pre Post)
    {g : JFrame} (hg : g.method = m) (hsize : g.locals.size = c.maxLocals) {argsL rest : List Value} (hlen : ∀ sig, parseMethodDescriptor y.desc = some sig → argsL.length = sig.parameters.length)
    (hstack : g.stack = argsL.reverse ++ rest) (hW : 2 * g.monitorRoom + (rest.map fun v => v.category).sum ≤ W9) (hdg : decode c.code g.pc = .ok (.invokestatic index, 3))
    (hpre : ∀ vm₁, s.WarmedH vm₁ → Pre ⟨T.setVm vm₁, locs, cells, slots⟩ argsL.toArray) :
    ∃ (v : Option Value) (vm₁ : Vm) (B : Pt), s.WarmedH vm₁ ∧ Stand p l e R s m args below meth c B.U B.locs B.cells B.slots ∧ Post ⟨T.setVm vm₁, locs, cells, slots⟩ argsL.toArray v B ∧
      ∀ target, Steps p.tables e below (B.U.setTop { g with pc := g.pc + 3, stack := v.toList ++ rest }) target → Steps p.tables e below (T.setTop g) target := by
  obtain ⟨mk, methM, cM, hnamed, hmethM, -, -, -, -, -, -, hsigM⟩ := Cond.codeWith_spec hcode
  have hstatic : methM.isStatic = true := Cond.static_spec hnamed hmethM hstat
  obtain ⟨kP, hkP, -⟩ := className_of_methodNamed hnamed
  have hinitP : kP.init = .initialized := Cond.initialized_spec (findClass_of_methodNamed hnamed) hkP hinit
  obtain ⟨vm₁, X₁, hstep₁⟩ := X.invokestatic hexec hown hlink hnamed hmethM hstatic hkP hinitP hy (g := g) hg (argsL := argsL) (rest := rest) (hlen _ hsigM) hstack hdg
  obtain ⟨v, B, X', hpost, hsteps⟩ := hK m meth c ⟨T.setVm vm₁, locs, cells, slots⟩ { g with stack := rest } (.invokestatic index) mk argsL.toArray X₁ hg hsize hdg hW (X₁.named hnamed) (hpre vm₁ X₁.warmed)
  exact ⟨v, vm₁, B, X₁.warmed, X', hpost, fun target h => hstep₁ _ fun acts => by rw [doInvoke_state]; exact hsteps.trans h⟩
theorem vx_runSW {y : MethodName} {bytes cc : ByteArray} {maxL nL mc ms n index : Nat} {ret : Option FieldType} {hh : List (Nat × Nat × Nat × Nat)} {ws : List Cond} {rm : Room} {Pc : Array Value → State → Prop} {Qc : Array Value → State → Outcome → State → Prop} {free : Addr → Prop} {Ts : List Cond} {own : String} {As rest : List Value} {g : JFrame}
    (S : CallFix p m c cc nL s args Ts own) (hM : Met l y ws rm Pc Qc mc ms free) (cw : vx_CSW R s args own index y bytes maxL ret hh ws rm mc ms n) (hp : PreS s H Pc As)
    (hg : g.method = m) (hn : As.length = n) (hsize : g.locals.size = nL) (hstack : g.stack = As.reverse ++ rest) (hW : 2 * g.monitorRoom + (rest.map fun v => v.category).sum ≤ 8) (hdg : decode cc g.pc = .ok (.invokestatic index, 3)) (hf : cells + mc ≤ R.cells ∧ slots + ms ≤ R.slots) :
    va_Run p l e R s m args below meth c H locs cells slots mc ms g rest (Qc As.toArray) (free) := by
  obtain ⟨⟨hrc, hrs, hfr, hlo, hws, hcw⟩, hcode, hini, hy, hlen, hl, hstt⟩ := cw
  have hK : Back l R p e below s args y 3 8 (PreOf R mc ms Pc) (PostOf Qc mc ms free) := va_backW (hh := hh) (bytes := bytes) (maxL := maxL) (ret := ret) hM hp.1 hrc hrs hfr hlo hws hcw (fun a' U hW => word_at hW (Or.inl (by first | rfl | simp [Cond.onTables, Cond.keeps, Cond.steady])) hini)
  obtain ⟨hx, hb, hml, ho, -⟩ := S
  intro T hT X
  obtain ⟨v, vm₁, ⟨U', l2, c2, s2⟩, hW₁, X', ⟨g', mk, t, L, e1, e2, hq, h1, hL, h2, h3⟩, st⟩ := vx_callSW X hx (hh := hh) (bytes := bytes) (maxL := maxL) (ret := ret) ho hl hstt hini hcode hy hK hg (hsize.trans hml.symm) (argsL := As) (rest := rest) (fun sig h => hn.trans (hlen sig h)) hstack hW (by rw [hb]; exact hdg)
    (fun vm₁ hW₁ => ⟨hf.1, hf.2, hp.2 (T.setVm vm₁) hT hW₁⟩)
  dsimp only [Pt.U, Pt.locs, Pt.cells, Pt.slots] at X' e1 e2 h1 h2 h3 st
  subst h1; subst h2; subst h3
  exact ⟨v, (T.setVm vm₁).calling g' mk As.toArray, t, U', L, hT, X', hL, e1, e2, hq, st⟩
/-- not caught here, past rows that name other classes: it goes on to the caller -/
theorem vx_outP {p : Program} {l : Launch} {e : Env} {R : Room} {s : State} {m : MethodId} {args : Array Value} {below : List Frame} {meth : Method} {c : Code} {H : Heap} {locs : List Loc} {cells slots : Nat} {free : Addr → Prop} {ls : Array Slot} {rest : List Value} {Qc : Array Value → State → Outcome → State → Prop} {XC : String → State → State → Prop}
    {pc : Nat} {own E : String} {ce : Cell} {q : Addr} {mc ms : Nat} (hown : s.vm.findClass own = some m.cls) (hlocks : meth.locks = false)
    (hpass : ∀ z ∈ c.exceptionTable.toList, covers z pc = false ∨ (z.catchType ≠ 0 ∧ ∃ nm : String, (Cond.classLink own z.catchType nm).before args s = true ∧ va_Nc E nm s)) (hcell : H[q]? = some ce) (hv : ce.vm = .none) (hcl : s.vm.findClass E = some ce.cls)
    (hx : ∀ t : State, t.heap = H → s.vm.Alike t.vm → XC E s t) (hf : ∀ z ∈ locs, free z.base) (hc : cells ≤ mc) (hs : slots ≤ ms) :
    vx_W p l e R s m args below meth c H locs cells slots (vx_MQ below Qc XC args s mc ms free) (F0 m pc ls rest) q := by
  intro T hT X
  have hpl : e.platform.magicAccessors = ({} : Platform).magicAccessors := by rw [X.admits.platform]
  obtain ⟨vm', hW', X', st⟩ := X.outThrough hlocks q (g := F0 m pc ls rest) rfl rfl rfl (cell := ce) (by rw [hT]; exact hcell) (by rw [hv]; rfl)
    (by obtain ⟨k9, h9, -⟩ := Vm.findClass_spec hcl; exact ⟨k9, h9⟩) (fun z hz => by
      rcases hpass z hz with h | ⟨hz0, nm, hl1, hn1⟩
      · exact Or.inl h
      · obtain ⟨c6, hc6, hcl6⟩ := Cond.classLink_spec hown hl1 e.platform hpl
        obtain ⟨a8, b8, h1, h2, h3⟩ := hn1
        cases Option.some.inj (h1.symm.trans hcl)
        cases Option.some.inj (h2.symm.trans hc6)
        exact Or.inr ⟨hz0, _, hcl6, h3⟩)
  obtain ⟨g₀, hfr⟩ := X'.frames_eq
  have hcell9 : ((T.setVm vm').setFrames (.throwing q :: below)).heap[q]? = some ce := by
    show T.heap[q]? = some ce
    rw [hT]; exact hcell
  have hend : Ended ((T.setVm vm').setFrames (.throwing q :: below)) below (.threw q) := State.frames_setFrames _ (State.cur_lt_of_frames hfr)
  refine ⟨(T.setVm vm').setFrames (.throwing q :: below), ?_, .threw q, X'.here.running, hend, Or.inr ⟨q, rfl, E, ce, locs, hx _ hT (X'.ends _).1.alike, hcell9, hv, hcl, (X'.ends _).1, (X'.ends _).2.mono hc hs, hf⟩⟩
  rw [X.pushThrowing_eq]
  exact st
/-- a thing of a world lies in the heap -/
theorem vx_lt {D : va_G} {cl : List vw_C} {ws : va_W} {H1 : Heap} (h : va_P D cl ws H1) {k : Nat} {q : Nat × va_E} (hk : ws[k]? = some q) : q.1 < H1.size := (h k q hk).lt
end VXS
/-! ===== END ===== -/
/-! ===== BEGIN methods with a table of their own: called by a name, returning or throwing ===== -/
section VXH
/-! vx_backW, vx_callVX, vx_callSX, vx_callVW, vx_runVW, vx_runVX, vx_runSX, vx_ofWH follow the same proofs as their sisters above (Free/Laws.lean, Shelf42/LK1.lean); vx_outP calls Shelf42/NT130.lean (outThrough). -/
section
variable {l : Launch} {R : Room} {p : Program} {e : Env} {below : List Frame} {s : State} {sargs : Array Value} {y : MethodName} {len W9 : Nat}
theorem vx_backW {ws : List Cond} {rm : Room} {Pc : Array Value → State → Prop} {Qc : Array Value → State → Outcome → State → Prop} {XC : String → State → State → Prop} {mc ms : Nat} {free : Addr → Prop} {bytes : ByteArray} {maxL : Nat} {ret : Option FieldType} {hh : List (Nat × Nat × Nat × Nat)}
    (hM : vx_Met l y ws rm Pc Qc XC mc ms free) (hblind : FrameBlind Pc) (hrc : rm.cells = mc) (hrs : rm.slots = ms)
    (hframes : rm.frames + 1 ≤ R.frames) (hlocals : W9 + (maxL + 11) + rm.locals ≤ R.locals)
    (hws : ∀ w ∈ ws, ∀ a' U, s.WarmedH U.vm → w.before a' U = true) (hcode : Cond.codeWith y bytes maxL ret hh ∈ ws) (hinit : ∀ a' U, s.WarmedH U.vm → (Cond.initialized y.cls).before a' U = true) :
    vx_Back l R p e below s sargs y len W9 (PreOf R mc ms Pc) (PostOf Qc mc ms free) (vx_Post XC mc ms free) := by
  intro m meth c A g ig mk a X hg hsize hdg hW hn hp
  have h1 : (headSpec ws rm).pre.before a A.U = true := atoms_intro fun w hw => hws w hw _ _ X.warmed
  have h2 : (Cond.codeWith y bytes maxL ret hh).before a A.U = true := hws _ hcode _ _ X.warmed
  have h3 : (Cond.initialized y.cls).before a A.U = true := hinit _ _ X.warmed
  have h4 : A.cells + (headSpec ws rm).room.cells ≤ R.cells := by rw [show (headSpec ws rm).room.cells = mc from hrc]; exact hp.1
  have h5 : A.slots + (headSpec ws rm).room.slots ≤ R.slots := by rw [show (headSpec ws rm).room.slots = ms from hrs]; exact hp.2.1
  have hPc : Pc a (A.U.calling g mk a) := hblind _ _ _ _ hp.2.2
  obtain ⟨U, Ls, c0, s0⟩ := A
  dsimp only [Pt.U, Pt.locs, Pt.cells, Pt.slots] at h1 h2 h3 h4 h5 X hn hPc ⊢
  obtain ⟨m9, methY, cY, hn9, hmY, hcY, -, hlY, -⟩ := Cond.codeWith_spec h2
  cases Option.some.inj (hn9.symm.trans hn)
  obtain ⟨kY, hkY, -⟩ := className_of_methodNamed hn
  have hinitY : kY.init = .initialized := Cond.initialized_spec (findClass_of_methodNamed hn) hkY h3
  have h : At U g.method c below := by rw [hg]; exact X.here
  have hlocals9 : W9 + (maxL + 11) + (headSpec ws rm).room.locals ≤ R.locals := hlocals
  have happ : (headSpec ws rm).appliesLoose y e.platform (U.calling g mk a) = true :=
    Spec.appliesLoose_calling (g := g) h hdg hn hkY hinitY
      (X.room_calling (g := g) (R' := (headSpec ws rm).room) hsize hmY hcY hframes (by rw [hlY]; omega) h4 h5) h1
  obtain ⟨mid, hmid⟩ := h.above
  have hfr : (U.setTop g).frames = (.java g :: mid) ++ below := by rw [State.frames_setTop' g h.top, hmid]; rfl
  obtain ⟨o, s₂, hsteps, -, hend, hq⟩ := Steps.callFree hM p X.admits X.cas X.clock (acts := []) hfr happ hPc trivial
  have hq' : vx_Q Qc XC mc ms free a (U.calling g mk a) o s₂ := hq
  rw [State.frames_setTop' g h.top] at hend
  obtain ⟨g₀, hg0⟩ := Option.isSome_iff_exists.mp h.top
  obtain ⟨r, hr⟩ := State.topJava?_eq_some.mp hg0
  have hr' : (({ U with heap := s₂.heap, slotsUsed := s₂.slotsUsed } : State).setVm s₂.vm).frames = .java g₀ :: r := hr
  rcases hq' with ⟨hqc, L, hfe, hL⟩ | ⟨q, rfl, E, ce, L, hx, hce, hcv, hcl, hW₂, hsm, hL⟩
  · obtain ⟨⟨v, rfl⟩, hW₂, e2, q2, q3, q4, q5, q6⟩ := id hfe
    have e3 : s₂ = ({ (U.calling g mk a).setFrames s₂.frames with heap := s₂.heap, slotsUsed := s₂.slotsUsed } : State).setVm s₂.vm := by
      have : s₂ = ({ s₂ with vm := (U.calling g mk a).vm } : State).setVm s₂.vm := rfl
      rw [e2] at this
      exact this
    obtain ⟨c₂, i₂, len₂, hc₂, hd₂, hf₂⟩ := hend
    have hW' : U.WarmedH s₂.vm := hW₂
    have hcc : c₂ = c := by
      have h1 : s₂.code? g.method = U.code? g.method := by
        rw [State.code?_eq, State.code?_eq, hW'.alike.method?]
      exact Option.some.inj (hc₂.symm.trans (h1.trans h.code))
    subst hcc
    have hlen : len₂ = len := by rw [hdg] at hd₂; cases hd₂; rfl
    subst hlen
    have hs₂ : s₂ = (({ U with heap := s₂.heap, slotsUsed := s₂.slotsUsed } : State).setVm s₂.vm).setTop { g with pc := g.pc + len₂, stack := v.toList ++ g.stack } := by
      refine e3.trans ?_
      rw [hf₂, State.calling_eq h.top, State.setFrames_setFrames, State.setTop_of_frames _ hr', hr]
      rfl
    have hsame : U.sameButNew ({ U with heap := s₂.heap, slotsUsed := s₂.slotsUsed } : State) L mc ms := by
      refine ⟨?_, q2, q3, q4, q5, q6⟩
      obtain ⟨t, ht, -⟩ := State.frames_cons hr
      show ({ U with heap := s₂.heap, slotsUsed := s₂.slotsUsed } : State) = { U.setFrames U.frames with heap := s₂.heap, slotsUsed := s₂.slotsUsed }
      rw [State.setFrames_self ht]
    subst hg
    refine Or.inl ⟨v, ⟨(({ U with heap := s₂.heap, slotsUsed := s₂.slotsUsed } : State).setVm s₂.vm), Ls ++ L, c0 + mc, s0 + ms⟩,
      ⟨X.admits, X.cas, X.clock, X.frames, X.room, X.hears, X.method, X.code, (X.here.setHeapUsed s₂.heap s₂.slotsUsed).setVm hW'.alike, X.tail, State.WarmedH.trans X.warmed hW', X.limits, X.bytes, X.same.trans (hsame.setVm s.vm)⟩,
      ⟨g, mk, s₂, L, rfl, rfl, hqc, rfl, hL, rfl, rfl⟩, ?_⟩
    show Steps p.tables e below _ ((({ U with heap := s₂.heap, slotsUsed := s₂.slotsUsed } : State).setVm s₂.vm).setTop { g with pc := g.pc + len₂, stack := v.toList ++ g.stack })
    rw [← hs₂]
    exact hsteps
  · obtain ⟨e2, q2, q3, q4, q5, q6⟩ := id hsm
    have e3 : s₂ = ({ (U.calling g mk a).setFrames s₂.frames with heap := s₂.heap, slotsUsed := s₂.slotsUsed } : State).setVm s₂.vm := by
      have : s₂ = ({ s₂ with vm := (U.calling g mk a).vm } : State).setVm s₂.vm := rfl
      rw [e2] at this
      exact this
    have hf₂ : s₂.frames = .throwing q :: .java g :: U.frames.tail := hend
    have hW' : U.WarmedH s₂.vm := hW₂
    have hs₂ : s₂ = ((({ U with heap := s₂.heap, slotsUsed := s₂.slotsUsed } : State).setVm s₂.vm).setTop g).pushFrame (.throwing q) := by
      refine e3.trans ?_
      rw [hf₂, State.calling_eq h.top, State.setFrames_setFrames, State.pushFrame, State.frames_setTop _ hr', State.setTop_of_frames _ hr', State.setFrames_setFrames, hr]
      rfl
    have hsame : U.sameButNew ({ U with heap := s₂.heap, slotsUsed := s₂.slotsUsed } : State) L mc ms := by
      refine ⟨?_, q2, q3, q4, q5, q6⟩
      obtain ⟨t, ht, -⟩ := State.frames_cons hr
      show ({ U with heap := s₂.heap, slotsUsed := s₂.slotsUsed } : State) = { U.setFrames U.frames with heap := s₂.heap, slotsUsed := s₂.slotsUsed }
      rw [State.setFrames_self ht]
    subst hg
    refine Or.inr ⟨q, ⟨(({ U with heap := s₂.heap, slotsUsed := s₂.slotsUsed } : State).setVm s₂.vm), Ls ++ L, c0 + mc, s0 + ms⟩,
      ⟨X.admits, X.cas, X.clock, X.frames, X.room, X.hears, X.method, X.code, (X.here.setHeapUsed s₂.heap s₂.slotsUsed).setVm hW'.alike, X.tail, State.WarmedH.trans X.warmed hW', X.limits, X.bytes, X.same.trans (hsame.setVm s.vm)⟩,
      ⟨g, mk, s₂, L, E, ce, rfl, rfl, hx, hce, hcv, hcl, rfl, hL, rfl, rfl⟩, ?_⟩
    show Steps p.tables e below _ (((({ U with heap := s₂.heap, slotsUsed := s₂.slotsUsed } : State).setVm s₂.vm).setTop g).pushFrame (.throwing q))
    rw [← hs₂]
    exact hsteps
end
variable {p : Program} {l : Launch} {e : Env} {R : Room} {s : State} {m : MethodId} {args : Array Value} {below : List Frame} {meth : Method} {c : Code} {T : State} {H : Heap} {locs : List Loc} {cells slots : Nat}
theorem vx_callVX (X : Stand p l e R s m args below meth c T locs cells slots) (hexec : p.tables.exec = Jvm.exec) {own C : String} {index : Nat} {y : MethodName} {bytes : ByteArray} {maxL : Nat} {ret : Option FieldType} {hh : List (Nat × Nat × Nat × Nat)}
    (hown : s.vm.findClass own = some m.cls) (hlink : (Cond.methodLink own index y).before args s = true) (hinst : (Cond.instanceMethod y).before args s = true) (hsel : (Cond.selects C y y).before args s = true)
    (hcode : (Cond.codeWith y bytes maxL ret hh).before args s = true) (hy : y.cls ≠ "java/lang/invoke/MethodHandle" ∧ y.cls ≠ "java/lang/invoke/VarHandle")
    {W9 : Nat} {Pre : Pt → Array Value → Prop} {Post : Pt → Array Value → Option Value → Pt → Prop} {PostX : Pt → Array Value → Addr → Pt → Prop} (hK : vx_Back l R p e below s args y 3 W9 Pre Post PostX)
    {b : Addr} {cellB : Cell} (hcell : T.heap[b]? = some cellB) (hobj : cellB.vm.isStatics = false) (hcls : s.vm.findClass C = some cellB.cls)
    {g : JFrame} (hg : g.method = m) (hsize : g.locals.size = c.maxLocals) {argsL rest : List Value} (hlen : ∀ sig, parseMethodDescriptor y.desc = some sig → argsL.length = sig.parameters.length)
    (hstack : g.stack = argsL.reverse ++ .ref b :: rest) (hW : 2 * g.monitorRoom + (rest.map fun v => v.category).sum ≤ W9) (hdg : decode c.code g.pc = .ok (.invokevirtual index, 3))
    (hpre : ∀ vm₁, s.WarmedH vm₁ → Pre ⟨T.setVm vm₁, locs, cells, slots⟩ (Value.ref b :: argsL).toArray) :
    (∃ (v : Option Value) (vm₁ : Vm) (B : Pt), s.WarmedH vm₁ ∧ Stand p l e R s m args below meth c B.U B.locs B.cells B.slots ∧ Post ⟨T.setVm vm₁, locs, cells, slots⟩ (Value.ref b :: argsL).toArray v B ∧
      ∀ target, Steps p.tables e below (B.U.setTop { g with pc := g.pc + 3, stack := v.toList ++ rest }) target → Steps p.tables e below (T.setTop g) target) ∨
    (∃ (q : Addr) (vm₁ : Vm) (B : Pt), s.WarmedH vm₁ ∧ Stand p l e R s m args below meth c B.U B.locs B.cells B.slots ∧ PostX ⟨T.setVm vm₁, locs, cells, slots⟩ (Value.ref b :: argsL).toArray q B ∧
      Steps p.tables e below (T.setTop g) ((B.U.setTop { g with stack := rest }).pushFrame (.throwing q))) := by
  obtain ⟨mk, methM, hnamed, hmethM, hstM, habM⟩ := Cond.instanceMethod_spec hinst
  obtain ⟨m8, methM', cM, hn8, hmethM', -, -, -, -, -, -, hsigM⟩ := Cond.codeWith_spec hcode
  cases Option.some.inj (hn8.symm.trans hnamed)
  cases hmethM.symm.trans hmethM'
  obtain ⟨c2, r2, m2, q1, q2, q3, q4, kP, hkP, hkPi⟩ := Cond.selects_spec hsel
  cases hcls.symm.trans q1
  cases (State.methodFound?_of_named hnamed hy).symm.trans q2
  cases hnamed.symm.trans q3
  have hselP : selectMethod e.platform s.vm cellB.cls mk = .method mk := by rw [Launch.admits_selectMethod X.admits]; exact q4
  obtain ⟨vm₁, X₁, hstep₁⟩ := X.invokevirtual hexec hown hlink hnamed hmethM hstM hkP hkPi hy (a := b) (cell := cellB) hcell
    (fun z h => by rw [h] at hobj; cases hobj) hselP hmethM habM hkP hkPi (g := g) hg (argsL := argsL) (rest := rest) (hlen _ hsigM) hstack hdg
  rcases hK m meth c ⟨T.setVm vm₁, locs, cells, slots⟩ { g with stack := rest } (.invokevirtual index) mk (Value.ref b :: argsL).toArray X₁ hg hsize hdg hW (X₁.named hnamed) (hpre vm₁ X₁.warmed) with ⟨v, B, X', hpost, hsteps⟩ | ⟨q, B, X', hpost, hsteps⟩
  · exact Or.inl ⟨v, vm₁, B, X₁.warmed, X', hpost, fun target h => hstep₁ _ fun acts => by rw [doInvoke_state]; exact hsteps.trans h⟩
  · exact Or.inr ⟨q, vm₁, B, X₁.warmed, X', hpost, hstep₁ _ fun acts => by rw [doInvoke_state]; exact hsteps⟩
theorem vx_callSX (X : Stand p l e R s m args below meth c T locs cells slots) (hexec : p.tables.exec = Jvm.exec) {own : String} {index : Nat} {y : MethodName} {bytes : ByteArray} {maxL : Nat} {ret : Option FieldType} {hh : List (Nat × Nat × Nat × Nat)}
    (hown : s.vm.findClass own = some m.cls) (hlink : (Cond.methodLink own index y).before args s = true) (hstat : (Cond.static y).before args s = true) (hinit : (Cond.initialized y.cls).before args s = true)
    (hcode : (Cond.codeWith y bytes maxL ret hh).before args s = true) (hy : y.cls ≠ "java/lang/invoke/MethodHandle" ∧ y.cls ≠ "java/lang/invoke/VarHandle")
    {W9 : Nat} {Pre : Pt → Array Value → Prop} {Post : Pt → Array Value → Option Value → Pt → Prop} {PostX : Pt → Array Value → Addr → Pt → Prop} (hK : vx_Back l R p e below s args y 3 W9 Pre Post PostX)
    {g : JFrame} (hg : g.method = m) (hsize : g.locals.size = c.maxLocals) {argsL rest : List Value} (hlen : ∀ sig, parseMethodDescriptor y.desc = some sig → argsL.length = sig.parameters.length)
    (hstack : g.stack = argsL.reverse ++ rest) (hW : 2 * g.monitorRoom + (rest.map fun v => v.category).sum ≤ W9) (hdg : decode c.code g.pc = .ok (.invokestatic index, 3))
    (hpre : ∀ vm₁, s.WarmedH vm₁ → Pre ⟨T.setVm vm₁, locs, cells, slots⟩ argsL.toArray) :
    (∃ (v : Option Value) (vm₁ : Vm) (B : Pt), s.WarmedH vm₁ ∧ Stand p l e R s m args below meth c B.U B.locs B.cells B.slots ∧ Post ⟨T.setVm vm₁, locs, cells, slots⟩ argsL.toArray v B ∧
      ∀ target, Steps p.tables e below (B.U.setTop { g with pc := g.pc + 3, stack := v.toList ++ rest }) target → Steps p.tables e below (T.setTop g) target) ∨
    (∃ (q : Addr) (vm₁ : Vm) (B : Pt), s.WarmedH vm₁ ∧ Stand p l e R s m args below meth c B.U B.locs B.cells B.slots ∧ PostX ⟨T.setVm vm₁, locs, cells, slots⟩ argsL.toArray q B ∧
      Steps p.tables e below (T.setTop g) ((B.U.setTop { g with stack := rest }).pushFrame (.throwing q))) := by
  obtain ⟨mk, methM, cM, hnamed, hmethM, -, -, -, -, -, -, hsigM⟩ := Cond.codeWith_spec hcode
  have hstatic : methM.isStatic = true := Cond.static_spec hnamed hmethM hstat
  obtain ⟨kP, hkP, -⟩ := className_of_methodNamed hnamed
  have hinitP : kP.init = .initialized := Cond.initialized_spec (findClass_of_methodNamed hnamed) hkP hinit
  obtain ⟨vm₁, X₁, hstep₁⟩ := X.invokestatic hexec hown hlink hnamed hmethM hstatic hkP hinitP hy (g := g) hg (argsL := argsL) (rest := rest) (hlen _ hsigM) hstack hdg
  rcases hK m meth c ⟨T.setVm vm₁, locs, cells, slots⟩ { g with stack := rest } (.invokestatic index) mk argsL.toArray X₁ hg hsize hdg hW (X₁.named hnamed) (hpre vm₁ X₁.warmed) with ⟨v, B, X', hpost, hsteps⟩ | ⟨q, B, X', hpost, hsteps⟩
  · exact Or.inl ⟨v, vm₁, B, X₁.warmed, X', hpost, fun target h => hstep₁ _ fun acts => by rw [doInvoke_state]; exact hsteps.trans h⟩
  · exact Or.inr ⟨q, vm₁, B, X₁.warmed, X', hpost, hstep₁ _ fun acts => by rw [doInvoke_state]; exact hsteps⟩
theorem vx_callVW (X : Stand p l e R s m args below meth c T locs cells slots) (hexec : p.tables.exec = Jvm.exec) {own C : String} {index : Nat} {y : MethodName} {bytes : ByteArray} {maxL : Nat} {ret : Option FieldType} {hh : List (Nat × Nat × Nat × Nat)}
    (hown : s.vm.findClass own = some m.cls) (hlink : (Cond.methodLink own index y).before args s = true) (hinst : (Cond.instanceMethod y).before args s = true) (hsel : (Cond.selects C y y).before args s = true)
    (hcode : (Cond.codeWith y bytes maxL ret hh).before args s = true) (hy : y.cls ≠ "java/lang/invoke/MethodHandle" ∧ y.cls ≠ "java/lang/invoke/VarHandle")
    {W9 : Nat} {Pre : Pt → Array Value → Prop} {Post : Pt → Array Value → Option Value → Pt → Prop} (hK : Back l R p e below s args y 3 W9 Pre Post)
    {b : Addr} {cellB : Cell} (hcell : T.heap[b]? = some cellB) (hobj : cellB.vm.isStatics = false) (hcls : s.vm.findClass C = some cellB.cls)
    {g : JFrame} (hg : g.method = m) (hsize : g.locals.size = c.maxLocals) {argsL rest : List Value} (hlen : ∀ sig, parseMethodDescriptor y.desc = some sig → argsL.length = sig.parameters.length)
    (hstack : g.stack = argsL.reverse ++ .ref b :: rest) (hW : 2 * g.monitorRoom + (rest.map fun v => v.category).sum ≤ W9) (hdg : decode c.code g.pc = .ok (.invokevirtual index, 3))
    (hpre : ∀ vm₁, s.WarmedH vm₁ → Pre ⟨T.setVm vm₁, locs, cells, slots⟩ (Value.ref b :: argsL).toArray) :
    ∃ (v : Option Value) (vm₁ : Vm) (B : Pt), s.WarmedH vm₁ ∧ Stand p l e R s m args below meth c B.U B.locs B.cells B.slots ∧ Post ⟨T.setVm vm₁, locs, cells, slots⟩ (Value.ref b :: argsL).toArray v B ∧
      ∀ target, Steps p.tables e below (B.U.setTop { g with pc := g.pc + 3, stack := v.toList ++ rest }) target → Steps p.tables e below (T.setTop g) target := by
  obtain ⟨mk, methM, hnamed, hmethM, hstM, habM⟩ := Cond.instanceMethod_spec hinst
  obtain ⟨m8, methM', cM, hn8, hmethM', -, -, -, -, -, -, hsigM⟩ := Cond.codeWith_spec hcode
  cases Option.some.inj (hn8.symm.trans hnamed)
  cases hmethM.symm.trans hmethM'
  obtain ⟨c2, r2, m2, q1, q2, q3, q4, kP, hkP, hkPi⟩ := Cond.selects_spec hsel
  cases hcls.symm.trans q1
  cases (State.methodFound?_of_named hnamed hy).symm.trans q2
  cases hnamed.symm.trans q3
  have hselP : selectMethod e.platform s.vm cellB.cls mk = .method mk := by rw [Launch.admits_selectMethod X.admits]; exact q4
  obtain ⟨vm₁, X₁, hstep₁⟩ := X.invokevirtual hexec hown hlink hnamed hmethM hstM hkP hkPi hy (a := b) (cell := cellB) hcell
    (fun z h => by rw [h] at hobj; cases hobj) hselP hmethM habM hkP hkPi (g := g) hg (argsL := argsL) (rest := rest) (hlen _ hsigM) hstack hdg
  obtain ⟨v, B, X', hpost, hsteps⟩ := hK m meth c ⟨T.setVm vm₁, locs, cells, slots⟩ { g with stack := rest } (.invokevirtual index) mk (Value.ref b :: argsL).toArray X₁ hg hsize hdg hW (X₁.named hnamed) (hpre vm₁ X₁.warmed)
  exact ⟨v, vm₁, B, X₁.warmed, X', hpost, fun target h => hstep₁ _ fun acts => by rw [doInvoke_state]; exact hsteps.trans h⟩
abbrev vx_CVW (R : Room) (s : State) (args : Array Value) (own C : String) (index : Nat) (y : MethodName) (bytes : ByteArray) (maxL : Nat) (ret : Option FieldType) (hh : List (Nat × Nat × Nat × Nat)) (ws : List Cond) (rm : Room) (mc ms n : Nat) : Prop :=
  (rm.cells = mc ∧ rm.slots = ms ∧ rm.frames + 1 ≤ R.frames ∧ 8 + (maxL + 11) + rm.locals ≤ R.locals ∧ (∀ w ∈ ws, ∀ (a' : Array Value) (U : State), s.WarmedH U.vm → w.before a' U = true) ∧ Cond.codeWith y bytes maxL ret hh ∈ ws) ∧
  (Cond.codeWith y bytes maxL ret hh).before args s = true ∧ (Cond.initialized y.cls).before args s = true ∧ (y.cls ≠ "java/lang/invoke/MethodHandle" ∧ y.cls ≠ "java/lang/invoke/VarHandle") ∧
  (∀ sig, parseMethodDescriptor y.desc = some sig → n = sig.parameters.length) ∧ (Cond.methodLink own index y).before args s = true ∧ (Cond.instanceMethod y).before args s = true ∧ (Cond.selects C y y).before args s = true
theorem vx_cwVW {own C : String} {index maxL mc ms : Nat} {y : MethodName} {bytes : ByteArray} {ret : Option FieldType} {hh : List (Nat × Nat × Nat × Nat)} {Ts ws ws' : List Cond} {rm : Room} (n : Nat) (ht : ∀ w ∈ Ts, w.before args s = true) (hT : GoodIn Ts (wsV own index C y ws)) (hw : ws = Cond.codeWith y bytes maxL ret hh :: ws') (hrc : rm.cells = mc) (hrs : rm.slots = ms)
    (hd : y.cls = C ∧ y.cls ≠ "java/lang/invoke/MethodHandle" ∧ y.cls ≠ "java/lang/invoke/VarHandle" ∧ (parseMethodDescriptor y.desc).map (fun d => d.parameters.length) = some n) (hR : rm.frames + 1 ≤ R.frames ∧ 8 + (maxL + 11) + rm.locals ≤ R.locals) :
    vx_CVW R s args own C index y bytes maxL ret hh ws rm mc ms n := by
  obtain ⟨hC, hd⟩ := hd
  subst hC
  have ok : ∀ w ∈ wsV own index y.cls y ws, w.before args s = true := fun w h => ht w (hT w h).1
  have hG : GoodIn Ts ws := fun w h => hT w (by unfold wsV; exact List.mem_append_right _ h)
  have hc : Cond.codeWith y bytes maxL ret hh ∈ ws := by rw [hw]; exact List.mem_cons_self
  refine ⟨⟨hrc, hrs, hR.1, hR.2, pay_in ht hG, hc⟩, ht _ (hG _ hc).1, ok _ (by simp [wsV]), ⟨hd.1, hd.2.1⟩, fun sig h => ?_, ok _ (by simp [wsV]), ok _ (by simp [wsV]), ok _ (by simp [wsV])⟩
  have h2 := hd.2.2
  rw [h] at h2
  exact (Option.some.inj h2).symm
theorem vx_runVW {y : MethodName} {bytes cc : ByteArray} {maxL nL mc ms n index : Nat} {ret : Option FieldType} {hh : List (Nat × Nat × Nat × Nat)} {ws : List Cond} {rm : Room} {Pc : Array Value → State → Prop} {Qc : Array Value → State → Outcome → State → Prop} {free : Addr → Prop} {Ts : List Cond} {own C : String} {b : Addr} {As rest : List Value} {g : JFrame}
    (S : CallFix p m c cc nL s args Ts own) (hM : Met l y ws rm Pc Qc mc ms free) (cw : vx_CVW R s args own C index y bytes maxL ret hh ws rm mc ms n) (hp : PreV s H C b Pc As)
    (hg : g.method = m) (hn : As.length = n) (hsize : g.locals.size = nL) (hstack : g.stack = As.reverse ++ .ref b :: rest) (hW : 2 * g.monitorRoom + (rest.map fun v => v.category).sum ≤ 8) (hdg : decode cc g.pc = .ok (.invokevirtual index, 3)) (hf : cells + mc ≤ R.cells ∧ slots + ms ≤ R.slots) :
    va_Run p l e R s m args below meth c H locs cells slots mc ms g rest (Qc (Value.ref b :: As).toArray) free := by
  obtain ⟨⟨hrc, hrs, hfr, hlo, hws, hcw⟩, hcode, hini, hy, hlen, hl, hin, hse⟩ := cw
  have hK : Back l R p e below s args y 3 8 (PreOf R mc ms Pc) (PostOf Qc mc ms free) := va_backW (hh := hh) (bytes := bytes) (maxL := maxL) (ret := ret) hM hp.1 hrc hrs hfr hlo hws hcw (fun a' U hW => word_at hW (Or.inl (by first | rfl | simp [Cond.onTables, Cond.keeps, Cond.steady])) hini)
  obtain ⟨hx, hb, hml, ho, -⟩ := S
  obtain ⟨-, ⟨cellB, hcB, hoB, hclB⟩, hPc⟩ := hp
  intro T hT X
  obtain ⟨v, vm₁, ⟨U', l2, c2, s2⟩, hW₁, X', ⟨g', mk, t, L, e1, e2, hq, h1, hL, h2, h3⟩, st⟩ := vx_callVW X hx (C := C) (hh := hh) (bytes := bytes) (maxL := maxL) (ret := ret) ho hl hin hse hcode hy hK (by rw [hT]; exact hcB) hoB hclB hg (hsize.trans hml.symm) (argsL := As) (rest := rest) (fun sig h => hn.trans (hlen sig h)) hstack hW (by rw [hb]; exact hdg)
    (fun vm₁ hW₁ => ⟨hf.1, hf.2, hPc (T.setVm vm₁) hT hW₁⟩)
  dsimp only [Pt.U, Pt.locs, Pt.cells, Pt.slots] at X' e1 e2 h1 h2 h3 st
  subst h1; subst h2; subst h3
  exact ⟨v, (T.setVm vm₁).calling g' mk (Value.ref b :: As).toArray, t, U', L, hT, X', hL, e1, e2, hq, st⟩
section
variable {y : MethodName} {bytes cc : ByteArray} {maxL nL mc ms n index : Nat} {ret : Option FieldType} {ws : List Cond} {rm : Room} {Pc : Array Value → State → Prop} {Qc : Array Value → State → Outcome → State → Prop} {XC : String → State → State → Prop} {free : Addr → Prop} {Ts : List Cond} {own C : String} {b : Addr} {As rest : List Value} {g : JFrame}
theorem vx_runVX {hh : List (Nat × Nat × Nat × Nat)} (S : CallFix p m c cc nL s args Ts own) (hM : vx_Met l y ws rm Pc Qc XC mc ms free) (cw : vx_CVW R s args own C index y bytes maxL ret hh ws rm mc ms n) (hp : PreV s H C b Pc As)
    (hg : g.method = m) (hn : As.length = n) (hsize : g.locals.size = nL) (hstack : g.stack = As.reverse ++ .ref b :: rest) (hW : 2 * g.monitorRoom + (rest.map fun v => v.category).sum ≤ 8) (hdg : decode cc g.pc = .ok (.invokevirtual index, 3)) (hf : cells + mc ≤ R.cells ∧ slots + ms ≤ R.slots) :
    vx_Run p l e R s m args below meth c H locs cells slots mc ms g rest (Qc (Value.ref b :: As).toArray) XC free := by
  obtain ⟨⟨hrc, hrs, hfr, hlo, hws, hcw⟩, hcode, hini, hy, hlen, hl, hin, hse⟩ := cw
  have hK : vx_Back l R p e below s args y 3 8 (PreOf R mc ms Pc) (PostOf Qc mc ms free) (vx_Post XC mc ms free) := vx_backW (hh := hh) (bytes := bytes) (maxL := maxL) (ret := ret) hM hp.1 hrc hrs hfr hlo hws hcw (fun a' U hW => word_at hW (Or.inl (by first | rfl | simp [Cond.onTables, Cond.keeps, Cond.steady])) hini)
  obtain ⟨hx, hb, hml, ho, -⟩ := S
  obtain ⟨-, ⟨cellB, hcB, hoB, hclB⟩, hPc⟩ := hp
  intro T hT X
  rcases vx_callVX X hx (C := C) (hh := hh) (bytes := bytes) (maxL := maxL) (ret := ret) ho hl hin hse hcode hy hK (by rw [hT]; exact hcB) hoB hclB hg (hsize.trans hml.symm) (argsL := As) (rest := rest) (fun sig h => hn.trans (hlen sig h)) hstack hW (by rw [hb]; exact hdg)
    (fun vm₁ hW₁ => ⟨hf.1, hf.2, hPc (T.setVm vm₁) hT hW₁⟩) with ⟨v, vm₁, ⟨U', l2, c2, s2⟩, hW₁, X', ⟨g', mk, t, L, e1, e2, hq, h1, hL, h2, h3⟩, st⟩ | ⟨q, vm₁, ⟨U', l2, c2, s2⟩, hW₁, X', ⟨g', mk, t, L, E, ce, e1, e2, hq, hce, hcv, hcl, h1, hL, h2, h3⟩, st⟩
  · dsimp only [Pt.U, Pt.locs, Pt.cells, Pt.slots] at X' e1 e2 h1 h2 h3 st
    subst h1; subst h2; subst h3
    exact Or.inl ⟨v, (T.setVm vm₁).calling g' mk (Value.ref b :: As).toArray, t, U', L, hT, X', hL, e1, e2, hq, st⟩
  · dsimp only [Pt.U, Pt.locs, Pt.cells, Pt.slots] at X' e1 e2 h1 h2 h3 st hcl
    subst h1; subst h2; subst h3
    exact Or.inr ⟨q, (T.setVm vm₁).calling g' mk (Value.ref b :: As).toArray, t, U', L, E, ce, hT, X', hL, e1, e2, hq, hce, hcv, vx_cls hW₁ hcl, st⟩
theorem vx_runSX {hh : List (Nat × Nat × Nat × Nat)} (S : CallFix p m c cc nL s args Ts own) (hM : vx_Met l y ws rm Pc Qc XC mc ms free) (cw : vx_CSW R s args own index y bytes maxL ret hh ws rm mc ms n) (hp : PreS s H Pc As)
    (hg : g.method = m) (hn : As.length = n) (hsize : g.locals.size = nL) (hstack : g.stack = As.reverse ++ rest) (hW : 2 * g.monitorRoom + (rest.map fun v => v.category).sum ≤ 8) (hdg : decode cc g.pc = .ok (.invokestatic index, 3)) (hf : cells + mc ≤ R.cells ∧ slots + ms ≤ R.slots) :
    vx_Run p l e R s m args below meth c H locs cells slots mc ms g rest (Qc As.toArray) XC free := by
  obtain ⟨⟨hrc, hrs, hfr, hlo, hws, hcw⟩, hcode, hini, hy, hlen, hl, hstt⟩ := cw
  have hK : vx_Back l R p e below s args y 3 8 (PreOf R mc ms Pc) (PostOf Qc mc ms free) (vx_Post XC mc ms free) := vx_backW (hh := hh) (bytes := bytes) (maxL := maxL) (ret := ret) hM hp.1 hrc hrs hfr hlo hws hcw (fun a' U hW => word_at hW (Or.inl (by first | rfl | simp [Cond.onTables, Cond.keeps, Cond.steady])) hini)
  obtain ⟨hx, hb, hml, ho, -⟩ := S
  intro T hT X
  rcases vx_callSX X hx (hh := hh) (bytes := bytes) (maxL := maxL) (ret := ret) ho hl hstt hini hcode hy hK hg (hsize.trans hml.symm) (argsL := As) (rest := rest) (fun sig h => hn.trans (hlen sig h)) hstack hW (by rw [hb]; exact hdg)
    (fun vm₁ hW₁ => ⟨hf.1, hf.2, hp.2 (T.setVm vm₁) hT hW₁⟩) with ⟨v, vm₁, ⟨U', l2, c2, s2⟩, hW₁, X', ⟨g', mk, t, L, e1, e2, hq, h1, hL, h2, h3⟩, st⟩ | ⟨q, vm₁, ⟨U', l2, c2, s2⟩, hW₁, X', ⟨g', mk, t, L, E, ce, e1, e2, hq, hce, hcv, hcl, h1, hL, h2, h3⟩, st⟩
  · dsimp only [Pt.U, Pt.locs, Pt.cells, Pt.slots] at X' e1 e2 h1 h2 h3 st
    subst h1; subst h2; subst h3
    exact Or.inl ⟨v, (T.setVm vm₁).calling g' mk As.toArray, t, U', L, hT, X', hL, e1, e2, hq, st⟩
  · dsimp only [Pt.U, Pt.locs, Pt.cells, Pt.slots] at X' e1 e2 h1 h2 h3 st hcl
    subst h1; subst h2; subst h3
    exact Or.inr ⟨q, (T.setVm vm₁).calling g' mk As.toArray, t, U', L, E, ce, hT, X', hL, e1, e2, hq, hce, hcv, vx_cls hW₁ hcl, st⟩
end
end VXH
theorem vx_ofWH {l : Launch} {y : MethodName} {ws ws' : List Cond} {rm : Room} {Pc : Array Value → State → Prop} {Qc : Array Value → State → Outcome → State → Prop} {XC : String → State → State → Prop} {mc ms : Nat} {free : Addr → Prop} {cc : ByteArray} {maxL : Nat} {ret : Option FieldType} {hh : List (Nat × Nat × Nat × Nat)}
    (hy : plainName y.cls = true) (hw : ws = Cond.codeWith y cc maxL ret hh :: ws')
    (body : ∀ p e s m args below meth c s₁, BodyLoose p l y (headSpec ws rm) cc maxL ret e s m args below meth c s₁ → c.maxLocals = maxL → Pc args s →
      W p l e (headSpec ws rm).room s m args below meth c s.heap [] 0 0 (vx_MQ below Qc XC args s mc ms free) (entryFrame m args maxL)) : vx_Met l y ws rm Pc Qc XC mc ms free := by
  refine MetFree.of_bodyS (code := cc) (maxLocals := maxL) (ret := ret) hy ?_ ?_
  · intro args s m h hn
    obtain ⟨m9, meth, c, hn9, h1, h2, h3, h4, -, h5, h6, -⟩ := Cond.codeWith_spec (atoms_spec (ws := ws) h _ (by rw [hw]; exact List.mem_cons_self))
    cases hn.symm.trans hn9
    exact ⟨meth, c, h1, h2, h3, h4, h5, h6⟩
  · intro p e s m args below meth c s₁ B hml hP _
    have hh0 : s₁.heap = s.heap := by rw [B.state]; rfl
    obtain ⟨t, a1, o, b1, b2, b3⟩ := body p e s m args below meth c s₁ B hml hP s₁ hh0 (Stand.of_body B)
    exact ⟨t, o, a1, b1, b2, b3⟩
/-! ===== END ===== -/
end
section
/-! ===== BEGIN printed: names, fields, word lists, decode rows ===== -/
def RX0 : String := "GlassRopes$Course"
def TX0 : u_T := fun k => match k with
  | 0 => ("GlassRopes$Course", "glass", "LGlassRopes$Glass;", true)
  | 1 => ("GlassRopes$Course", "ropes", "LGlassRopes$Ropes;", true)
  | 2 => ("GlassRopes$Course", "wind", "I", false)
  | 3 => ("GlassRopes$Course", "day", "I", false)
  | 4 => ("GlassRopes$Course", "coins", "I", false)
  | _ => ("GlassRopes$Course", "feastDays", "I", false)
def tyX0 : Nat → FieldType := fun k => match k with
  | 0 => .object "GlassRopes$Glass"
  | 1 => .object "GlassRopes$Ropes"
  | 2 => .int
  | 3 => .int
  | 4 => .int
  | _ => .int
abbrev wsX00 : List Cond := u_ws RX0 TX0 6
theorem nmX0 : ∀ a, a < 6 → ∀ b, b < 6 → a ≠ b → (TX0 a).2.1 ≠ (TX0 b).2.1 := by decide +kernel
theorem tyX0_ok : ∀ k, k < 6 → parseFieldDescriptor (TX0 k).2.2.1 = some (tyX0 k) := by decide +kernel
abbrev cX0_init : ByteArray := prog_2_method_1_code
def yX0_init : MethodName := ⟨RX0, "<init>", "()V"⟩
abbrev cX0_copyFrom : ByteArray := prog_2_method_2_code
def yX0_copyFrom : MethodName := ⟨RX0, "copyFrom", "(LGlassRopes$Course;)V"⟩
abbrev cX0_goOn : ByteArray := prog_2_method_3_code
def yX0_goOn : MethodName := ⟨RX0, "goOn", "(ILGlassRopes$Windows;LGlassRopes$Feasts;)V"⟩
abbrev cX0_goOneDay : ByteArray := prog_2_method_4_code
def yX0_goOneDay : MethodName := ⟨RX0, "goOneDay", "(LGlassRopes$Windows;LGlassRopes$Feasts;)V"⟩
def RX1 : String := "GlassRopes$Feasts"
def TX1 : u_T := fun k => match k with
  | 0 => ("GlassRopes$Feasts", "size", "I", false)
  | 1 => ("GlassRopes$Feasts", "every", "[I", true)
  | _ => ("GlassRopes$Feasts", "on", "[I", true)
def tyX1 : Nat → FieldType := fun k => match k with
  | 0 => .int
  | 1 => .array .int
  | _ => .array .int
abbrev wsX10 : List Cond := u_ws RX1 TX1 3
theorem nmX1 : ∀ a, a < 3 → ∀ b, b < 3 → a ≠ b → (TX1 a).2.1 ≠ (TX1 b).2.1 := by decide +kernel
theorem tyX1_ok : ∀ k, k < 3 → parseFieldDescriptor (TX1 k).2.2.1 = some (tyX1 k) := by decide +kernel
abbrev cX1_init : ByteArray := prog_3_method_1_code
def yX1_init : MethodName := ⟨RX1, "<init>", "()V"⟩
abbrev cX1_put : ByteArray := prog_3_method_2_code
def yX1_put : MethodName := ⟨RX1, "put", "(II)I"⟩
abbrev cX1_areOn : ByteArray := prog_3_method_3_code
def yX1_areOn : MethodName := ⟨RX1, "areOn", "(I)Z"⟩
abbrev cX1_daysUntil : ByteArray := prog_3_method_4_code
def yX1_daysUntil : MethodName := ⟨RX1, "daysUntil", "(I)I"⟩
def RX2 : String := "GlassRopes$Glass"
def TX2 : u_T := fun k => match k with
  | _ => ("GlassRopes$Glass", "soot", "[I", true)
def tyX2 : Nat → FieldType := fun k => match k with
  | _ => .array .int
abbrev wsX20 : List Cond := u_ws RX2 TX2 1
theorem nmX2 : ∀ a, a < 1 → ∀ b, b < 1 → a ≠ b → (TX2 a).2.1 ≠ (TX2 b).2.1 := by decide +kernel
theorem tyX2_ok : ∀ k, k < 1 → parseFieldDescriptor (TX2 k).2.2.1 = some (tyX2 k) := by decide +kernel
abbrev cX2_init : ByteArray := prog_4_method_1_code
def yX2_init : MethodName := ⟨RX2, "<init>", "()V"⟩
abbrev cX2_copyFrom : ByteArray := prog_4_method_2_code
def yX2_copyFrom : MethodName := ⟨RX2, "copyFrom", "(LGlassRopes$Glass;)V"⟩
abbrev cX2_at : ByteArray := prog_4_method_3_code
def yX2_at : MethodName := ⟨RX2, "at", "(II)I"⟩
abbrev cX2_gather : ByteArray := prog_4_method_4_code
def yX2_gather : MethodName := ⟨RX2, "gather", "(I)V"⟩
abbrev cX2_broughtTo : ByteArray := prog_4_method_5_code
def yX2_broughtTo : MethodName := ⟨RX2, "broughtTo", "(II)I"⟩
abbrev cX2_takeOff : ByteArray := prog_4_method_6_code
def yX2_takeOff : MethodName := ⟨RX2, "takeOff", "(III)I"⟩
abbrev cX2_total : ByteArray := prog_4_method_7_code
def yX2_total : MethodName := ⟨RX2, "total", "()I"⟩
abbrev cX2_cleanPanes : ByteArray := prog_4_method_8_code
def yX2_cleanPanes : MethodName := ⟨RX2, "cleanPanes", "()I"⟩
def RX3 : String := "GlassRopes$Ropes"
def TX3 : u_T := fun k => match k with
  | 0 => ("GlassRopes$Ropes", "size", "I", false)
  | 1 => ("GlassRopes$Ropes", "column", "[I", true)
  | 2 => ("GlassRopes$Ropes", "row", "[I", true)
  | 3 => ("GlassRopes$Ropes", "strength", "[I", true)
  | 4 => ("GlassRopes$Ropes", "toRight", "[Z", true)
  | 5 => ("GlassRopes$Ropes", "cleaned", "[I", true)
  | _ => ("GlassRopes$Ropes", "moved", "[I", true)
def tyX3 : Nat → FieldType := fun k => match k with
  | 0 => .int
  | 1 => .array .int
  | 2 => .array .int
  | 3 => .array .int
  | 4 => .array .boolean
  | 5 => .array .int
  | _ => .array .int
abbrev wsX30 : List Cond := u_ws RX3 TX3 7
theorem nmX3 : ∀ a, a < 7 → ∀ b, b < 7 → a ≠ b → (TX3 a).2.1 ≠ (TX3 b).2.1 := by decide +kernel
theorem tyX3_ok : ∀ k, k < 7 → parseFieldDescriptor (TX3 k).2.2.1 = some (tyX3 k) := by decide +kernel
abbrev cX3_init : ByteArray := prog_5_method_1_code
def yX3_init : MethodName := ⟨RX3, "<init>", "()V"⟩
abbrev cX3_copyFrom : ByteArray := prog_5_method_2_code
def yX3_copyFrom : MethodName := ⟨RX3, "copyFrom", "(LGlassRopes$Ropes;)V"⟩
abbrev cX3_put : ByteArray := prog_5_method_3_code
def yX3_put : MethodName := ⟨RX3, "put", "(IIZ)I"⟩
abbrev cX3_number : ByteArray := prog_5_method_4_code
def yX3_number : MethodName := ⟨RX3, "number", "(II)I"⟩
abbrev cX3_allCleaned : ByteArray := prog_5_method_5_code
def yX3_allCleaned : MethodName := ⟨RX3, "allCleaned", "()I"⟩
abbrev cX3_hangAt : ByteArray := prog_5_method_6_code
def yX3_hangAt : MethodName := ⟨RX3, "hangAt", "(I)Z"⟩
abbrev cX3_rehang : ByteArray := prog_5_method_7_code
def yX3_rehang : MethodName := ⟨RX3, "rehang", "(II)V"⟩
abbrev cX3_work : ByteArray := prog_5_method_8_code
def yX3_work : MethodName := ⟨RX3, "work", "(LGlassRopes$Glass;)V"⟩
abbrev cX3_workOnOne : ByteArray := prog_5_method_9_code
def yX3_workOnOne : MethodName := ⟨RX3, "workOnOne", "(ILGlassRopes$Glass;)V"⟩
abbrev cX3_nextFreeColumn : ByteArray := prog_5_method_10_code
def yX3_nextFreeColumn : MethodName := ⟨RX3, "nextFreeColumn", "(I)I"⟩
def RX4 : String := "GlassRopes$Windows"
def TX4 : u_T := fun k => match k with
  | 0 => ("GlassRopes$Windows", "size", "I", false)
  | 1 => ("GlassRopes$Windows", "x", "[I", true)
  | 2 => ("GlassRopes$Windows", "y", "[I", true)
  | 3 => ("GlassRopes$Windows", "width", "[I", true)
  | 4 => ("GlassRopes$Windows", "height", "[I", true)
  | _ => ("GlassRopes$Windows", "worth", "[I", true)
def tyX4 : Nat → FieldType := fun k => match k with
  | 0 => .int
  | 1 => .array .int
  | 2 => .array .int
  | 3 => .array .int
  | 4 => .array .int
  | _ => .array .int
abbrev wsX40 : List Cond := u_ws RX4 TX4 6
theorem nmX4 : ∀ a, a < 6 → ∀ b, b < 6 → a ≠ b → (TX4 a).2.1 ≠ (TX4 b).2.1 := by decide +kernel
theorem tyX4_ok : ∀ k, k < 6 → parseFieldDescriptor (TX4 k).2.2.1 = some (tyX4 k) := by decide +kernel
abbrev cX4_init : ByteArray := prog_6_method_1_code
def yX4_init : MethodName := ⟨RX4, "<init>", "()V"⟩
abbrev cX4_put : ByteArray := prog_6_method_2_code
def yX4_put : MethodName := ⟨RX4, "put", "(IIIII)I"⟩
abbrev cX4_number : ByteArray := prog_6_method_3_code
def yX4_number : MethodName := ⟨RX4, "number", "(IILGlassRopes$Glass;)I"⟩
abbrev cX4_panes : ByteArray := prog_6_method_4_code
def yX4_panes : MethodName := ⟨RX4, "panes", "(I)I"⟩
abbrev cX4_added : ByteArray := prog_6_method_5_code
def yX4_added : MethodName := ⟨RX4, "added", "(ILGlassRopes$Glass;)I"⟩
abbrev cX4_darkest : ByteArray := prog_6_method_6_code
def yX4_darkest : MethodName := ⟨RX4, "darkest", "(ILGlassRopes$Glass;)I"⟩
abbrev cX4_brings : ByteArray := prog_6_method_7_code
def yX4_brings : MethodName := ⟨RX4, "brings", "(ILGlassRopes$Glass;)I"⟩
abbrev cX4_allBring : ByteArray := prog_6_method_8_code
def yX4_allBring : MethodName := ⟨RX4, "allBring", "(LGlassRopes$Glass;)I"⟩
abbrev cX4_isClean : ByteArray := prog_6_method_9_code
def yX4_isClean : MethodName := ⟨RX4, "isClean", "(ILGlassRopes$Glass;)Z"⟩
abbrev cX4_wipeOff : ByteArray := prog_6_method_10_code
def yX4_wipeOff : MethodName := ⟨RX4, "wipeOff", "(ILGlassRopes$Glass;)I"⟩
def RX5 : String := "GlassRopes"
def TX5 : u_T := fun k => match k with
  | 0 => ("GlassRopes", "windows", "LGlassRopes$Windows;", true)
  | 1 => ("GlassRopes", "feasts", "LGlassRopes$Feasts;", true)
  | 2 => ("GlassRopes", "now", "LGlassRopes$Course;", true)
  | _ => ("GlassRopes", "ahead", "LGlassRopes$Course;", true)
def tyX5 : Nat → FieldType := fun k => match k with
  | 0 => .object "GlassRopes$Windows"
  | 1 => .object "GlassRopes$Feasts"
  | 2 => .object "GlassRopes$Course"
  | _ => .object "GlassRopes$Course"
abbrev wsX50 : List Cond := u_ws RX5 TX5 4
theorem nmX5 : ∀ a, a < 4 → ∀ b, b < 4 → a ≠ b → (TX5 a).2.1 ≠ (TX5 b).2.1 := by decide +kernel
theorem tyX5_ok : ∀ k, k < 4 → parseFieldDescriptor (TX5 k).2.2.1 = some (tyX5 k) := by decide +kernel
abbrev cX5_init : ByteArray := prog_1_method_1_code
def yX5_init : MethodName := ⟨RX5, "<init>", "()V"⟩
abbrev cX5_window : ByteArray := prog_1_method_2_code
def yX5_window : MethodName := ⟨RX5, "window", "(IIIII)I"⟩
abbrev cX5_rope : ByteArray := prog_1_method_3_code
def yX5_rope : MethodName := ⟨RX5, "rope", "(IIZ)I"⟩
abbrev cX5_feast : ByteArray := prog_1_method_4_code
def yX5_feast : MethodName := ⟨RX5, "feast", "(II)I"⟩
abbrev cX5_setWind : ByteArray := prog_1_method_5_code
def yX5_setWind : MethodName := ⟨RX5, "setWind", "(I)I"⟩
abbrev cX5_move : ByteArray := prog_1_method_6_code
def yX5_move : MethodName := ⟨RX5, "move", "(II)I"⟩
abbrev cX5_turn : ByteArray := prog_1_method_7_code
def yX5_turn : MethodName := ⟨RX5, "turn", "(I)Z"⟩
abbrev cX5_wipe : ByteArray := prog_1_method_8_code
def yX5_wipe : MethodName := ⟨RX5, "wipe", "(I)I"⟩
abbrev cX5_pass : ByteArray := prog_1_method_9_code
def yX5_pass : MethodName := ⟨RX5, "pass", "(I)I"⟩
abbrev cX5_soot : ByteArray := prog_1_method_10_code
def yX5_soot : MethodName := ⟨RX5, "soot", "(II)I"⟩
abbrev cX5_about : ByteArray := prog_1_method_11_code
def yX5_about : MethodName := ⟨RX5, "about", "(II)I"⟩
abbrev cX5_told : ByteArray := prog_1_method_12_code
def yX5_told : MethodName := ⟨RX5, "told", "(II)I"⟩
abbrev cX5_count : ByteArray := prog_1_method_13_code
def yX5_count : MethodName := ⟨RX5, "count", "(I)I"⟩
abbrev cX5_isFeast : ByteArray := prog_1_method_14_code
def yX5_isFeast : MethodName := ⟨RX5, "isFeast", "(I)Z"⟩
abbrev cX5_next : ByteArray := prog_1_method_15_code
def yX5_next : MethodName := ⟨RX5, "next", "()I"⟩
abbrev cX5_would : ByteArray := prog_1_method_16_code
def yX5_would : MethodName := ⟨RX5, "would", "(II)I"⟩
abbrev cX5_until : ByteArray := prog_1_method_17_code
def yX5_until : MethodName := ⟨RX5, "until", "(I)I"⟩
abbrev cX5_advise : ByteArray := prog_1_method_18_code
def yX5_advise : MethodName := ⟨RX5, "advise", "(I)I"⟩
abbrev cX5_mean : ByteArray := prog_1_method_19_code
def yX5_mean : MethodName := ⟨RX5, "mean", "()D"⟩
abbrev cX5_digest : ByteArray := prog_1_method_20_code
def yX5_digest : MethodName := ⟨RX5, "digest", "()J"⟩
abbrev cX5_isColumn : ByteArray := prog_1_method_21_code
def yX5_isColumn : MethodName := ⟨RX5, "isColumn", "(I)Z"⟩
abbrev cX5_isWindow : ByteArray := prog_1_method_22_code
def yX5_isWindow : MethodName := ⟨RX5, "isWindow", "(I)Z"⟩
abbrev cX5_isRope : ByteArray := prog_1_method_23_code
def yX5_isRope : MethodName := ⟨RX5, "isRope", "(I)Z"⟩
abbrev cX5_number : ByteArray := prog_1_method_24_code
def yX5_number : MethodName := ⟨RX5, "number", "(I)I"⟩
abbrev cX5_coinsBehind : ByteArray := prog_1_method_25_code
def yX5_coinsBehind : MethodName := ⟨RX5, "coinsBehind", "(III)I"⟩
def RX6 : String := "GlassRopesModel"
def TX6 : u_T := fun k => match k with
  | 0 => ("GlassRopesModel", "thrown", "I", false)
  | 1 => ("GlassRopesModel", "windows", "I", false)
  | 2 => ("GlassRopesModel", "ropes", "I", false)
  | 3 => ("GlassRopesModel", "feasts", "I", false)
  | 4 => ("GlassRopesModel", "told", "[I", true)
  | 5 => ("GlassRopesModel", "strengths", "[I", true)
  | 6 => ("GlassRopesModel", "every", "[I", true)
  | 7 => ("GlassRopesModel", "on", "[I", true)
  | 8 => ("GlassRopesModel", "now", "[I", true)
  | _ => ("GlassRopesModel", "kept", "[I", true)
def tyX6 : Nat → FieldType := fun k => match k with
  | 0 => .int
  | 1 => .int
  | 2 => .int
  | 3 => .int
  | 4 => .array .int
  | 5 => .array .int
  | 6 => .array .int
  | 7 => .array .int
  | 8 => .array .int
  | _ => .array .int
abbrev wsX60 : List Cond := u_ws RX6 TX6 10
theorem nmX6 : ∀ a, a < 10 → ∀ b, b < 10 → a ≠ b → (TX6 a).2.1 ≠ (TX6 b).2.1 := by decide +kernel
theorem tyX6_ok : ∀ k, k < 10 → parseFieldDescriptor (TX6 k).2.2.1 = some (tyX6 k) := by decide +kernel
abbrev cX6_init : ByteArray := prog_8_method_1_code
def yX6_init : MethodName := ⟨RX6, "<init>", "()V"⟩
abbrev cX6_thrown : ByteArray := prog_8_method_2_code
def yX6_thrown : MethodName := ⟨RX6, "thrown", "()I"⟩
abbrev cX6_fail : ByteArray := prog_8_method_3_code
def yX6_fail : MethodName := ⟨RX6, "fail", "(I)I"⟩
abbrev cX6_isIn : ByteArray := prog_8_method_4_code
def yX6_isIn : MethodName := ⟨RX6, "isIn", "(III)Z"⟩
abbrev cX6_isWindow : ByteArray := prog_8_method_5_code
def yX6_isWindow : MethodName := ⟨RX6, "isWindow", "(I)Z"⟩
abbrev cX6_isRope : ByteArray := prog_8_method_6_code
def yX6_isRope : MethodName := ⟨RX6, "isRope", "(I)Z"⟩
abbrev cX6_wi : ByteArray := prog_8_method_7_code
def yX6_wi : MethodName := ⟨RX6, "wi", "(II)I"⟩
abbrev cX6_ro : ByteArray := prog_8_method_8_code
def yX6_ro : MethodName := ⟨RX6, "ro", "(II)I"⟩
abbrev cX6_let : ByteArray := prog_8_method_9_code
def yX6_let : MethodName := ⟨RX6, "let", "(III)V"⟩
abbrev cX6_pane : ByteArray := prog_8_method_10_code
def yX6_pane : MethodName := ⟨RX6, "pane", "(II)I"⟩
abbrev cX6_isHung : ByteArray := prog_8_method_11_code
def yX6_isHung : MethodName := ⟨RX6, "isHung", "(I)Z"⟩
abbrev cX6_isFeastOn : ByteArray := prog_8_method_12_code
def yX6_isFeastOn : MethodName := ⟨RX6, "isFeastOn", "(I)Z"⟩
abbrev cX6_keep : ByteArray := prog_8_method_13_code
def yX6_keep : MethodName := ⟨RX6, "keep", "()V"⟩
abbrev cX6_bringBack : ByteArray := prog_8_method_14_code
def yX6_bringBack : MethodName := ⟨RX6, "bringBack", "()V"⟩
abbrev cX6_window : ByteArray := prog_8_method_15_code
def yX6_window : MethodName := ⟨RX6, "window", "(IIIII)I"⟩
abbrev cX6_rope : ByteArray := prog_8_method_16_code
def yX6_rope : MethodName := ⟨RX6, "rope", "(IIZ)I"⟩
abbrev cX6_feast : ByteArray := prog_8_method_17_code
def yX6_feast : MethodName := ⟨RX6, "feast", "(II)I"⟩
abbrev cX6_setWind : ByteArray := prog_8_method_18_code
def yX6_setWind : MethodName := ⟨RX6, "setWind", "(I)I"⟩
abbrev cX6_hang : ByteArray := prog_8_method_19_code
def yX6_hang : MethodName := ⟨RX6, "hang", "(II)V"⟩
abbrev cX6_move : ByteArray := prog_8_method_20_code
def yX6_move : MethodName := ⟨RX6, "move", "(II)I"⟩
abbrev cX6_turn : ByteArray := prog_8_method_21_code
def yX6_turn : MethodName := ⟨RX6, "turn", "(I)Z"⟩
abbrev cX6_wipe : ByteArray := prog_8_method_22_code
def yX6_wipe : MethodName := ⟨RX6, "wipe", "(I)I"⟩
abbrev cX6_blown : ByteArray := prog_8_method_23_code
def yX6_blown : MethodName := ⟨RX6, "blown", "(I)I"⟩
abbrev cX6_panes : ByteArray := prog_8_method_24_code
def yX6_panes : MethodName := ⟨RX6, "panes", "(I)I"⟩
abbrev cX6_sootOf : ByteArray := prog_8_method_25_code
def yX6_sootOf : MethodName := ⟨RX6, "sootOf", "(IZ)I"⟩
abbrev cX6_brings : ByteArray := prog_8_method_26_code
def yX6_brings : MethodName := ⟨RX6, "brings", "(I)I"⟩
abbrev cX6_allBring : ByteArray := prog_8_method_27_code
def yX6_allBring : MethodName := ⟨RX6, "allBring", "()I"⟩
abbrev cX6_moveOn : ByteArray := prog_8_method_28_code
def yX6_moveOn : MethodName := ⟨RX6, "moveOn", "(I)V"⟩
abbrev cX6_work : ByteArray := prog_8_method_29_code
def yX6_work : MethodName := ⟨RX6, "work", "(I)V"⟩
abbrev cX6_dayOn : ByteArray := prog_8_method_30_code
def yX6_dayOn : MethodName := ⟨RX6, "dayOn", "()V"⟩
abbrev cX6_daysOn : ByteArray := prog_8_method_31_code
def yX6_daysOn : MethodName := ⟨RX6, "daysOn", "(I)V"⟩
abbrev cX6_pass : ByteArray := prog_8_method_32_code
def yX6_pass : MethodName := ⟨RX6, "pass", "(I)I"⟩
abbrev cX6_soot : ByteArray := prog_8_method_33_code
def yX6_soot : MethodName := ⟨RX6, "soot", "(II)I"⟩
abbrev cX6_windowTold : ByteArray := prog_8_method_34_code
def yX6_windowTold : MethodName := ⟨RX6, "windowTold", "(II)I"⟩
abbrev cX6_about : ByteArray := prog_8_method_35_code
def yX6_about : MethodName := ⟨RX6, "about", "(II)I"⟩
abbrev cX6_ropeTold : ByteArray := prog_8_method_36_code
def yX6_ropeTold : MethodName := ⟨RX6, "ropeTold", "(II)I"⟩
abbrev cX6_told : ByteArray := prog_8_method_37_code
def yX6_told : MethodName := ⟨RX6, "told", "(II)I"⟩
abbrev cX6_allSoot : ByteArray := prog_8_method_38_code
def yX6_allSoot : MethodName := ⟨RX6, "allSoot", "()I"⟩
abbrev cX6_cleaned : ByteArray := prog_8_method_39_code
def yX6_cleaned : MethodName := ⟨RX6, "cleaned", "()I"⟩
abbrev cX6_counted : ByteArray := prog_8_method_40_code
def yX6_counted : MethodName := ⟨RX6, "counted", "(I)I"⟩
abbrev cX6_count : ByteArray := prog_8_method_41_code
def yX6_count : MethodName := ⟨RX6, "count", "(I)I"⟩
abbrev cX6_isFeast : ByteArray := prog_8_method_42_code
def yX6_isFeast : MethodName := ⟨RX6, "isFeast", "(I)Z"⟩
abbrev cX6_nextFeast : ByteArray := prog_8_method_43_code
def yX6_nextFeast : MethodName := ⟨RX6, "nextFeast", "()I"⟩
abbrev cX6_next : ByteArray := prog_8_method_44_code
def yX6_next : MethodName := ⟨RX6, "next", "()I"⟩
abbrev cX6_would : ByteArray := prog_8_method_45_code
def yX6_would : MethodName := ⟨RX6, "would", "(II)I"⟩
abbrev cX6_until : ByteArray := prog_8_method_46_code
def yX6_until : MethodName := ⟨RX6, "until", "(I)I"⟩
abbrev cX6_advise : ByteArray := prog_8_method_47_code
def yX6_advise : MethodName := ⟨RX6, "advise", "(I)I"⟩
abbrev cX6_mean : ByteArray := prog_8_method_48_code
def yX6_mean : MethodName := ⟨RX6, "mean", "()D"⟩
abbrev cX6_digest : ByteArray := prog_8_method_49_code
def yX6_digest : MethodName := ⟨RX6, "digest", "()J"⟩
def RJ9 : String := "java/lang/Math"
def TJ9 : u_T := fun k => match k with
  | _ => ("", "", "", false)
def tyJ9 : Nat → FieldType := fun k => match k with
  | _ => .int
abbrev wsJ90 : List Cond := u_ws RJ9 TJ9 0
theorem nmJ9 : ∀ a, a < 0 → ∀ b, b < 0 → a ≠ b → (TJ9 a).2.1 ≠ (TJ9 b).2.1 := by decide +kernel
theorem tyJ9_ok : ∀ k, k < 0 → parseFieldDescriptor (TJ9 k).2.2.1 = some (tyJ9 k) := by decide +kernel
abbrev cJ9_max_7cf53 : ByteArray := prog_13_method_65_code
def yJ9_max_7cf53 : MethodName := ⟨RJ9, "max", "(II)I"⟩
abbrev cJ9_min_7cf53 : ByteArray := prog_13_method_69_code
def yJ9_min_7cf53 : MethodName := ⟨RJ9, "min", "(II)I"⟩
def RJ0 : String := "java/lang/String"
def TJ0 : u_T := fun k => match k with
  | _ => ("", "", "", false)
def tyJ0 : Nat → FieldType := fun k => match k with
  | _ => .int
abbrev wsJ00 : List Cond := u_ws RJ0 TJ0 0
theorem nmJ0 : ∀ a, a < 0 → ∀ b, b < 0 → a ≠ b → (TJ0 a).2.1 ≠ (TJ0 b).2.1 := by decide +kernel
theorem tyJ0_ok : ∀ k, k < 0 → parseFieldDescriptor (TJ0 k).2.2.1 = some (tyJ0 k) := by decide +kernel
def RJ10 : String := "java/lang/System"
def TJ10 : u_T := fun k => match k with
  | _ => ("", "", "", false)
def tyJ10 : Nat → FieldType := fun k => match k with
  | _ => .int
abbrev wsJ100 : List Cond := u_ws RJ10 TJ10 0
theorem nmJ10 : ∀ a, a < 0 → ∀ b, b < 0 → a ≠ b → (TJ10 a).2.1 ≠ (TJ10 b).2.1 := by decide +kernel
theorem tyJ10_ok : ∀ k, k < 0 → parseFieldDescriptor (TJ10 k).2.2.1 = some (tyJ10 k) := by decide +kernel
def RL : String := "GlassRopesLaw"
abbrev cL_window : ByteArray := method_3_code
def yL_window : MethodName := ⟨RL, "window", "(LGlassRopes;IIIII[J)I"⟩
abbrev cL_rope : ByteArray := method_4_code
def yL_rope : MethodName := ⟨RL, "rope", "(LGlassRopes;IIZ[J)I"⟩
abbrev cL_feast : ByteArray := method_5_code
def yL_feast : MethodName := ⟨RL, "feast", "(LGlassRopes;II[J)I"⟩
abbrev cL_setWind : ByteArray := method_6_code
def yL_setWind : MethodName := ⟨RL, "setWind", "(LGlassRopes;I[J)I"⟩
abbrev cL_move : ByteArray := method_7_code
def yL_move : MethodName := ⟨RL, "move", "(LGlassRopes;II[J)I"⟩
abbrev cL_turn : ByteArray := method_8_code
def yL_turn : MethodName := ⟨RL, "turn", "(LGlassRopes;I[J)I"⟩
abbrev cL_wipe : ByteArray := method_9_code
def yL_wipe : MethodName := ⟨RL, "wipe", "(LGlassRopes;I[J)I"⟩
abbrev cL_pass : ByteArray := method_10_code
def yL_pass : MethodName := ⟨RL, "pass", "(LGlassRopes;I[J)I"⟩
abbrev cL_soot : ByteArray := method_11_code
def yL_soot : MethodName := ⟨RL, "soot", "(LGlassRopes;II[J)I"⟩
abbrev cL_about : ByteArray := method_12_code
def yL_about : MethodName := ⟨RL, "about", "(LGlassRopes;II[J)I"⟩
abbrev cL_told : ByteArray := method_13_code
def yL_told : MethodName := ⟨RL, "told", "(LGlassRopes;II[J)I"⟩
abbrev cL_count : ByteArray := method_14_code
def yL_count : MethodName := ⟨RL, "count", "(LGlassRopes;I[J)I"⟩
abbrev cL_isFeast : ByteArray := method_15_code
def yL_isFeast : MethodName := ⟨RL, "isFeast", "(LGlassRopes;I[J)I"⟩
abbrev cL_would : ByteArray := method_16_code
def yL_would : MethodName := ⟨RL, "would", "(LGlassRopes;II[J)I"⟩
abbrev cL_until : ByteArray := method_17_code
def yL_until : MethodName := ⟨RL, "until", "(LGlassRopes;I[J)I"⟩
abbrev cL_advise : ByteArray := method_18_code
def yL_advise : MethodName := ⟨RL, "advise", "(LGlassRopes;I[J)I"⟩
abbrev cL_law : ByteArray := code
def yL_law : MethodName := ⟨RL, "law", "([I)Z"⟩
def wsX2_init : List Cond := .code yX2_init cX2_init 1 none :: ([.methodLink RX2 3 objectInit, .instanceMethod objectInit, .code objectInit ⟨#[0xb1]⟩ 1 none, .arrayClass .int, .fieldLink RX2 9 "GlassRopes$Glass" "soot" "[I"] ++ wsX20)
def wsX3_init : List Cond := .code yX3_init cX3_init 1 none :: ([.methodLink RX3 3 objectInit, .instanceMethod objectInit, .code objectInit ⟨#[0xb1]⟩ 1 none, .fieldLink RX3 9 "GlassRopes$Ropes" "size" "I", .arrayClass .int, .fieldLink RX3 15 "GlassRopes$Ropes" "column" "[I", .fieldLink RX3 19 "GlassRopes$Ropes" "row" "[I", .fieldLink RX3 22 "GlassRopes$Ropes" "strength" "[I", .arrayClass .boolean, .fieldLink RX3 25 "GlassRopes$Ropes" "toRight" "[Z", .fieldLink RX3 29 "GlassRopes$Ropes" "cleaned" "[I", .fieldLink RX3 32 "GlassRopes$Ropes" "moved" "[I"] ++ wsX30)
def wsX0_init_r1 : List Cond := [Cond.methodLink RX0 1 objectInit, Cond.instanceMethod objectInit, Cond.code objectInit ⟨#[0xb1]⟩ 1 none, Cond.classLink RX0 7 RX2, Cond.instantiable RX2 1, Cond.initialized RX2, Cond.fieldLink RX0 10 "GlassRopes$Course" "glass" "LGlassRopes$Glass;", Cond.classLink RX0 16 RX3, Cond.instantiable RX3 7, Cond.initialized RX3, Cond.fieldLink RX0 19 "GlassRopes$Course" "ropes" "LGlassRopes$Ropes;", Cond.fieldLink RX0 23 "GlassRopes$Course" "wind" "I", Cond.fieldLink RX0 27 "GlassRopes$Course" "day" "I", Cond.fieldLink RX0 30 "GlassRopes$Course" "coins" "I", Cond.fieldLink RX0 33 "GlassRopes$Course" "feastDays" "I", Cond.instanceMethod yX2_init, Cond.code yX2_init cX2_init 1 none, Cond.methodLink RX2 3 objectInit, Cond.arrayClass .int, Cond.fieldLink RX2 9 "GlassRopes$Glass" "soot" "[I", Cond.instanceMethod yX3_init, Cond.code yX3_init cX3_init 1 none, Cond.methodLink RX3 3 objectInit, Cond.fieldLink RX3 9 "GlassRopes$Ropes" "size" "I"]
def wsX0_init_r2 : List Cond := [Cond.fieldLink RX3 15 "GlassRopes$Ropes" "column" "[I", Cond.fieldLink RX3 19 "GlassRopes$Ropes" "row" "[I", Cond.fieldLink RX3 22 "GlassRopes$Ropes" "strength" "[I", Cond.arrayClass .boolean, Cond.fieldLink RX3 25 "GlassRopes$Ropes" "toRight" "[Z", Cond.fieldLink RX3 29 "GlassRopes$Ropes" "cleaned" "[I", Cond.fieldLink RX3 32 "GlassRopes$Ropes" "moved" "[I"]
def wsX0_init : List Cond := .code yX0_init cX0_init 1 none :: ((wsX0_init_r1 ++ wsX0_init_r2) ++ wsX20 ++ wsX00 ++ wsX30)
def wsX2_copyFrom : List Cond := .code yX2_copyFrom cX2_copyFrom 2 none :: ([.fieldLink RX2 9 "GlassRopes$Glass" "soot" "[I", .methodLink RX2 15 arraycopyName, .native arraycopyName, .static arraycopyName, .initialized "java/lang/System"] ++ wsX20)
def wsX3_copyFrom : List Cond := .code yX3_copyFrom cX3_copyFrom 3 none :: ([.fieldLink RX3 9 "GlassRopes$Ropes" "size" "I", .fieldLink RX3 15 "GlassRopes$Ropes" "column" "[I", .fieldLink RX3 19 "GlassRopes$Ropes" "row" "[I", .fieldLink RX3 22 "GlassRopes$Ropes" "strength" "[I", .fieldLink RX3 25 "GlassRopes$Ropes" "toRight" "[Z", .fieldLink RX3 29 "GlassRopes$Ropes" "cleaned" "[I", .fieldLink RX3 32 "GlassRopes$Ropes" "moved" "[I"] ++ wsX30)
def wsX0_copyFrom_r1 : List Cond := [Cond.fieldLink RX0 10 "GlassRopes$Course" "glass" "LGlassRopes$Glass;", Cond.fieldLink RX0 19 "GlassRopes$Course" "ropes" "LGlassRopes$Ropes;", Cond.fieldLink RX0 23 "GlassRopes$Course" "wind" "I", Cond.fieldLink RX0 27 "GlassRopes$Course" "day" "I", Cond.fieldLink RX0 30 "GlassRopes$Course" "coins" "I", Cond.fieldLink RX0 33 "GlassRopes$Course" "feastDays" "I", Cond.methodLink RX0 36 yX2_copyFrom, Cond.instanceMethod yX2_copyFrom, Cond.selects RX2 yX2_copyFrom yX2_copyFrom, Cond.initialized RX2, Cond.code yX2_copyFrom cX2_copyFrom 2 none, Cond.fieldLink RX2 9 "GlassRopes$Glass" "soot" "[I", Cond.methodLink RX2 15 arraycopyName, Cond.native arraycopyName, Cond.static arraycopyName, Cond.initialized "java/lang/System", Cond.methodLink RX0 40 yX3_copyFrom, Cond.instanceMethod yX3_copyFrom, Cond.selects RX3 yX3_copyFrom yX3_copyFrom, Cond.initialized RX3, Cond.code yX3_copyFrom cX3_copyFrom 3 none, Cond.fieldLink RX3 9 "GlassRopes$Ropes" "size" "I", Cond.fieldLink RX3 15 "GlassRopes$Ropes" "column" "[I", Cond.fieldLink RX3 19 "GlassRopes$Ropes" "row" "[I"]
def wsX0_copyFrom_r2 : List Cond := [Cond.fieldLink RX3 22 "GlassRopes$Ropes" "strength" "[I", Cond.fieldLink RX3 25 "GlassRopes$Ropes" "toRight" "[Z", Cond.fieldLink RX3 29 "GlassRopes$Ropes" "cleaned" "[I", Cond.fieldLink RX3 32 "GlassRopes$Ropes" "moved" "[I"]
def wsX0_copyFrom : List Cond := .code yX0_copyFrom cX0_copyFrom 2 none :: ((wsX0_copyFrom_r1 ++ wsX0_copyFrom_r2) ++ wsX00 ++ wsX20 ++ wsX30)
def wsX2_broughtTo : List Cond := .code yX2_broughtTo cX2_broughtTo 3 (some .int) :: ([.methodLink RX2 30 Lib.Math.max.name, .static Lib.Math.max.name, .initialized "java/lang/Math", .code Lib.Math.max.name Lib.Math.max.code 2 (some .int)])
def wsX2_gather : List Cond := .code yX2_gather cX2_gather 6 none :: ([.fieldLink RX2 9 "GlassRopes$Glass" "soot" "[I", .methodLink RX2 25 Lib.Math.min.name, .static Lib.Math.min.name, .initialized "java/lang/Math", .code Lib.Math.min.name Lib.Math.min.code 2 (some .int), .methodLink RX2 21 yX2_broughtTo, .static yX2_broughtTo, .initialized RX2, .code yX2_broughtTo cX2_broughtTo 3 (some .int), .methodLink RX2 30 Lib.Math.max.name, .static Lib.Math.max.name, .code Lib.Math.max.name Lib.Math.max.code 2 (some .int)] ++ wsX20)
def wsX1_areOn : List Cond := .code yX1_areOn cX1_areOn 4 (some .boolean) :: ([.fieldLink RX1 9 "GlassRopes$Feasts" "size" "I", .fieldLink RX1 15 "GlassRopes$Feasts" "every" "[I", .fieldLink RX1 19 "GlassRopes$Feasts" "on" "[I"] ++ wsX10)
def wsX4_panes : List Cond := .code yX4_panes cX4_panes 2 (some .int) :: ([.fieldLink RX4 22 "GlassRopes$Windows" "width" "[I", .fieldLink RX4 25 "GlassRopes$Windows" "height" "[I"] ++ wsX40)
def wsX2_at : List Cond := .code yX2_at cX2_at 3 (some .int) :: ([.fieldLink RX2 9 "GlassRopes$Glass" "soot" "[I"] ++ wsX20)
def wsX4_added : List Cond := .code yX4_added cX4_added 6 (some .int) :: ([.fieldLink RX4 15 "GlassRopes$Windows" "x" "[I", .fieldLink RX4 22 "GlassRopes$Windows" "width" "[I", .fieldLink RX4 19 "GlassRopes$Windows" "y" "[I", .fieldLink RX4 25 "GlassRopes$Windows" "height" "[I", .methodLink RX4 41 yX2_at, .instanceMethod yX2_at, .selects RX2 yX2_at yX2_at, .initialized RX2, .code yX2_at cX2_at 3 (some .int), .fieldLink RX2 9 "GlassRopes$Glass" "soot" "[I"] ++ wsX40 ++ wsX20)
def wsX4_brings : List Cond := .code yX4_brings cX4_brings 3 (some .int) :: ([.fieldLink RX4 28 "GlassRopes$Windows" "worth" "[I", .methodLink RX4 47 Lib.Math.max.name, .static Lib.Math.max.name, .initialized "java/lang/Math", .code Lib.Math.max.name Lib.Math.max.code 2 (some .int), .methodLink RX4 52 yX4_panes, .instanceMethod yX4_panes, .selects RX4 yX4_panes yX4_panes, .initialized RX4, .code yX4_panes cX4_panes 2 (some .int), .fieldLink RX4 22 "GlassRopes$Windows" "width" "[I", .fieldLink RX4 25 "GlassRopes$Windows" "height" "[I", .methodLink RX4 31 yX4_added, .instanceMethod yX4_added, .selects RX4 yX4_added yX4_added, .code yX4_added cX4_added 6 (some .int), .fieldLink RX4 15 "GlassRopes$Windows" "x" "[I", .fieldLink RX4 19 "GlassRopes$Windows" "y" "[I", .methodLink RX4 41 yX2_at, .instanceMethod yX2_at, .selects RX2 yX2_at yX2_at, .initialized RX2, .code yX2_at cX2_at 3 (some .int), .fieldLink RX2 9 "GlassRopes$Glass" "soot" "[I"] ++ wsX40 ++ wsX20)
def wsX4_allBring_r1 : List Cond := [Cond.fieldLink RX4 9 "GlassRopes$Windows" "size" "I", Cond.methodLink RX4 38 yX4_brings, Cond.instanceMethod yX4_brings, Cond.selects RX4 yX4_brings yX4_brings, Cond.initialized RX4, Cond.code yX4_brings cX4_brings 3 (some .int), Cond.fieldLink RX4 28 "GlassRopes$Windows" "worth" "[I", Cond.methodLink RX4 47 Lib.Math.max.name, Cond.static Lib.Math.max.name, Cond.initialized "java/lang/Math", Cond.code Lib.Math.max.name Lib.Math.max.code 2 (some .int), Cond.methodLink RX4 52 yX4_panes, Cond.instanceMethod yX4_panes, Cond.selects RX4 yX4_panes yX4_panes, Cond.code yX4_panes cX4_panes 2 (some .int), Cond.fieldLink RX4 22 "GlassRopes$Windows" "width" "[I", Cond.fieldLink RX4 25 "GlassRopes$Windows" "height" "[I", Cond.methodLink RX4 31 yX4_added, Cond.instanceMethod yX4_added, Cond.selects RX4 yX4_added yX4_added, Cond.code yX4_added cX4_added 6 (some .int), Cond.fieldLink RX4 15 "GlassRopes$Windows" "x" "[I", Cond.fieldLink RX4 19 "GlassRopes$Windows" "y" "[I", Cond.methodLink RX4 41 yX2_at]
def wsX4_allBring_r2 : List Cond := [Cond.instanceMethod yX2_at, Cond.selects RX2 yX2_at yX2_at, Cond.initialized RX2, Cond.code yX2_at cX2_at 3 (some .int), Cond.fieldLink RX2 9 "GlassRopes$Glass" "soot" "[I"]
def wsX4_allBring : List Cond := .code yX4_allBring cX4_allBring 4 (some .int) :: ((wsX4_allBring_r1 ++ wsX4_allBring_r2) ++ wsX40 ++ wsX20)
def wsX2_takeOff : List Cond := .code yX2_takeOff cX2_takeOff 6 (some .int) :: ([.fieldLink RX2 9 "GlassRopes$Glass" "soot" "[I", .methodLink RX2 25 Lib.Math.min.name, .static Lib.Math.min.name, .initialized "java/lang/Math", .code Lib.Math.min.name Lib.Math.min.code 2 (some .int)] ++ wsX20)
def wsX3_hangAt : List Cond := .code yX3_hangAt cX3_hangAt 3 (some .boolean) :: ([.fieldLink RX3 9 "GlassRopes$Ropes" "size" "I", .fieldLink RX3 15 "GlassRopes$Ropes" "column" "[I"] ++ wsX30)
def wsX3_nextFreeColumn : List Cond := .code yX3_nextFreeColumn cX3_nextFreeColumn 5 (some .int) :: ([.fieldLink RX3 25 "GlassRopes$Ropes" "toRight" "[Z", .fieldLink RX3 15 "GlassRopes$Ropes" "column" "[I", .methodLink RX3 53 yX3_hangAt, .instanceMethod yX3_hangAt, .selects RX3 yX3_hangAt yX3_hangAt, .initialized RX3, .code yX3_hangAt cX3_hangAt 3 (some .boolean), .fieldLink RX3 9 "GlassRopes$Ropes" "size" "I"] ++ wsX30)
def wsX3_rehang : List Cond := .code yX3_rehang cX3_rehang 3 none :: ([.fieldLink RX3 15 "GlassRopes$Ropes" "column" "[I", .fieldLink RX3 19 "GlassRopes$Ropes" "row" "[I", .fieldLink RX3 32 "GlassRopes$Ropes" "moved" "[I"] ++ wsX30)
def wsX3_workOnOne_r1 : List Cond := [Cond.fieldLink RX3 22 "GlassRopes$Ropes" "strength" "[I", Cond.fieldLink RX3 15 "GlassRopes$Ropes" "column" "[I", Cond.fieldLink RX3 19 "GlassRopes$Ropes" "row" "[I", Cond.fieldLink RX3 29 "GlassRopes$Ropes" "cleaned" "[I", Cond.methodLink RX3 39 yX2_takeOff, Cond.instanceMethod yX2_takeOff, Cond.selects RX2 yX2_takeOff yX2_takeOff, Cond.initialized RX2, Cond.code yX2_takeOff cX2_takeOff 6 (some .int), Cond.fieldLink RX2 9 "GlassRopes$Glass" "soot" "[I", Cond.methodLink RX2 25 Lib.Math.min.name, Cond.static Lib.Math.min.name, Cond.initialized "java/lang/Math", Cond.code Lib.Math.min.name Lib.Math.min.code 2 (some .int), Cond.methodLink RX3 45 yX3_nextFreeColumn, Cond.instanceMethod yX3_nextFreeColumn, Cond.selects RX3 yX3_nextFreeColumn yX3_nextFreeColumn, Cond.initialized RX3, Cond.code yX3_nextFreeColumn cX3_nextFreeColumn 5 (some .int), Cond.fieldLink RX3 25 "GlassRopes$Ropes" "toRight" "[Z", Cond.methodLink RX3 53 yX3_hangAt, Cond.instanceMethod yX3_hangAt, Cond.selects RX3 yX3_hangAt yX3_hangAt, Cond.code yX3_hangAt cX3_hangAt 3 (some .boolean)]
def wsX3_workOnOne_r2 : List Cond := [Cond.fieldLink RX3 9 "GlassRopes$Ropes" "size" "I", Cond.methodLink RX3 49 yX3_rehang, Cond.instanceMethod yX3_rehang, Cond.selects RX3 yX3_rehang yX3_rehang, Cond.code yX3_rehang cX3_rehang 3 none, Cond.fieldLink RX3 32 "GlassRopes$Ropes" "moved" "[I"]
def wsX3_workOnOne : List Cond := .code yX3_workOnOne cX3_workOnOne 6 none :: ((wsX3_workOnOne_r1 ++ wsX3_workOnOne_r2) ++ wsX30 ++ wsX20)
def wsX3_work_r1 : List Cond := [Cond.fieldLink RX3 9 "GlassRopes$Ropes" "size" "I", Cond.methodLink RX3 35 yX3_workOnOne, Cond.instanceMethod yX3_workOnOne, Cond.selects RX3 yX3_workOnOne yX3_workOnOne, Cond.initialized RX3, Cond.code yX3_workOnOne cX3_workOnOne 6 none, Cond.fieldLink RX3 22 "GlassRopes$Ropes" "strength" "[I", Cond.fieldLink RX3 15 "GlassRopes$Ropes" "column" "[I", Cond.fieldLink RX3 19 "GlassRopes$Ropes" "row" "[I", Cond.fieldLink RX3 29 "GlassRopes$Ropes" "cleaned" "[I", Cond.methodLink RX3 39 yX2_takeOff, Cond.instanceMethod yX2_takeOff, Cond.selects RX2 yX2_takeOff yX2_takeOff, Cond.initialized RX2, Cond.code yX2_takeOff cX2_takeOff 6 (some .int), Cond.fieldLink RX2 9 "GlassRopes$Glass" "soot" "[I", Cond.methodLink RX2 25 Lib.Math.min.name, Cond.static Lib.Math.min.name, Cond.initialized "java/lang/Math", Cond.code Lib.Math.min.name Lib.Math.min.code 2 (some .int), Cond.methodLink RX3 45 yX3_nextFreeColumn, Cond.instanceMethod yX3_nextFreeColumn, Cond.selects RX3 yX3_nextFreeColumn yX3_nextFreeColumn, Cond.code yX3_nextFreeColumn cX3_nextFreeColumn 5 (some .int)]
def wsX3_work_r2 : List Cond := [Cond.fieldLink RX3 25 "GlassRopes$Ropes" "toRight" "[Z", Cond.methodLink RX3 53 yX3_hangAt, Cond.instanceMethod yX3_hangAt, Cond.selects RX3 yX3_hangAt yX3_hangAt, Cond.code yX3_hangAt cX3_hangAt 3 (some .boolean), Cond.methodLink RX3 49 yX3_rehang, Cond.instanceMethod yX3_rehang, Cond.selects RX3 yX3_rehang yX3_rehang, Cond.code yX3_rehang cX3_rehang 3 none, Cond.fieldLink RX3 32 "GlassRopes$Ropes" "moved" "[I"]
def wsX3_work : List Cond := .code yX3_work cX3_work 3 none :: ((wsX3_work_r1 ++ wsX3_work_r2) ++ wsX30 ++ wsX20)
def wsX0_goOneDay_r1 : List Cond := [Cond.fieldLink RX0 10 "GlassRopes$Course" "glass" "LGlassRopes$Glass;", Cond.fieldLink RX0 23 "GlassRopes$Course" "wind" "I", Cond.fieldLink RX0 27 "GlassRopes$Course" "day" "I", Cond.fieldLink RX0 30 "GlassRopes$Course" "coins" "I", Cond.fieldLink RX0 33 "GlassRopes$Course" "feastDays" "I", Cond.fieldLink RX0 19 "GlassRopes$Course" "ropes" "LGlassRopes$Ropes;", Cond.methodLink RX0 47 yX2_gather, Cond.instanceMethod yX2_gather, Cond.selects RX2 yX2_gather yX2_gather, Cond.initialized RX2, Cond.code yX2_gather cX2_gather 6 none, Cond.fieldLink RX2 9 "GlassRopes$Glass" "soot" "[I", Cond.methodLink RX2 25 Lib.Math.min.name, Cond.static Lib.Math.min.name, Cond.initialized "java/lang/Math", Cond.code Lib.Math.min.name Lib.Math.min.code 2 (some .int), Cond.methodLink RX2 21 yX2_broughtTo, Cond.static yX2_broughtTo, Cond.code yX2_broughtTo cX2_broughtTo 3 (some .int), Cond.methodLink RX2 30 Lib.Math.max.name, Cond.static Lib.Math.max.name, Cond.code Lib.Math.max.name Lib.Math.max.code 2 (some .int), Cond.methodLink RX0 51 yX1_areOn, Cond.instanceMethod yX1_areOn]
def wsX0_goOneDay_r2 : List Cond := [Cond.selects RX1 yX1_areOn yX1_areOn, Cond.initialized RX1, Cond.code yX1_areOn cX1_areOn 4 (some .boolean), Cond.fieldLink RX1 9 "GlassRopes$Feasts" "size" "I", Cond.fieldLink RX1 15 "GlassRopes$Feasts" "every" "[I", Cond.fieldLink RX1 19 "GlassRopes$Feasts" "on" "[I", Cond.methodLink RX0 57 yX4_allBring, Cond.instanceMethod yX4_allBring, Cond.selects RX4 yX4_allBring yX4_allBring, Cond.initialized RX4, Cond.code yX4_allBring cX4_allBring 4 (some .int), Cond.fieldLink RX4 9 "GlassRopes$Windows" "size" "I", Cond.methodLink RX4 38 yX4_brings, Cond.instanceMethod yX4_brings, Cond.selects RX4 yX4_brings yX4_brings, Cond.code yX4_brings cX4_brings 3 (some .int), Cond.fieldLink RX4 28 "GlassRopes$Windows" "worth" "[I", Cond.methodLink RX4 47 Lib.Math.max.name, Cond.methodLink RX4 52 yX4_panes, Cond.instanceMethod yX4_panes, Cond.selects RX4 yX4_panes yX4_panes, Cond.code yX4_panes cX4_panes 2 (some .int), Cond.fieldLink RX4 22 "GlassRopes$Windows" "width" "[I", Cond.fieldLink RX4 25 "GlassRopes$Windows" "height" "[I"]
def wsX0_goOneDay_r3 : List Cond := [Cond.methodLink RX4 31 yX4_added, Cond.instanceMethod yX4_added, Cond.selects RX4 yX4_added yX4_added, Cond.code yX4_added cX4_added 6 (some .int), Cond.fieldLink RX4 15 "GlassRopes$Windows" "x" "[I", Cond.fieldLink RX4 19 "GlassRopes$Windows" "y" "[I", Cond.methodLink RX4 41 yX2_at, Cond.instanceMethod yX2_at, Cond.selects RX2 yX2_at yX2_at, Cond.code yX2_at cX2_at 3 (some .int), Cond.methodLink RX0 63 yX3_work, Cond.instanceMethod yX3_work, Cond.selects RX3 yX3_work yX3_work, Cond.initialized RX3, Cond.code yX3_work cX3_work 3 none, Cond.fieldLink RX3 9 "GlassRopes$Ropes" "size" "I", Cond.methodLink RX3 35 yX3_workOnOne, Cond.instanceMethod yX3_workOnOne, Cond.selects RX3 yX3_workOnOne yX3_workOnOne, Cond.code yX3_workOnOne cX3_workOnOne 6 none, Cond.fieldLink RX3 22 "GlassRopes$Ropes" "strength" "[I", Cond.fieldLink RX3 15 "GlassRopes$Ropes" "column" "[I", Cond.fieldLink RX3 19 "GlassRopes$Ropes" "row" "[I", Cond.fieldLink RX3 29 "GlassRopes$Ropes" "cleaned" "[I"]
def wsX0_goOneDay_r4 : List Cond := [Cond.methodLink RX3 39 yX2_takeOff, Cond.instanceMethod yX2_takeOff, Cond.selects RX2 yX2_takeOff yX2_takeOff, Cond.code yX2_takeOff cX2_takeOff 6 (some .int), Cond.methodLink RX3 45 yX3_nextFreeColumn, Cond.instanceMethod yX3_nextFreeColumn, Cond.selects RX3 yX3_nextFreeColumn yX3_nextFreeColumn, Cond.code yX3_nextFreeColumn cX3_nextFreeColumn 5 (some .int), Cond.fieldLink RX3 25 "GlassRopes$Ropes" "toRight" "[Z", Cond.methodLink RX3 53 yX3_hangAt, Cond.instanceMethod yX3_hangAt, Cond.selects RX3 yX3_hangAt yX3_hangAt, Cond.code yX3_hangAt cX3_hangAt 3 (some .boolean), Cond.methodLink RX3 49 yX3_rehang, Cond.instanceMethod yX3_rehang, Cond.selects RX3 yX3_rehang yX3_rehang, Cond.code yX3_rehang cX3_rehang 3 none, Cond.fieldLink RX3 32 "GlassRopes$Ropes" "moved" "[I"]
def wsX0_goOneDay : List Cond := .code yX0_goOneDay cX0_goOneDay 3 none :: ((wsX0_goOneDay_r1 ++ (wsX0_goOneDay_r2 ++ (wsX0_goOneDay_r3 ++ wsX0_goOneDay_r4))) ++ wsX00 ++ wsX20 ++ wsX10 ++ wsX40 ++ wsX30)
def wsX0_goOn_r1 : List Cond := [Cond.methodLink RX0 43 yX0_goOneDay, Cond.instanceMethod yX0_goOneDay, Cond.selects RX0 yX0_goOneDay yX0_goOneDay, Cond.initialized RX0, Cond.code yX0_goOneDay cX0_goOneDay 3 none, Cond.fieldLink RX0 10 "GlassRopes$Course" "glass" "LGlassRopes$Glass;", Cond.fieldLink RX0 23 "GlassRopes$Course" "wind" "I", Cond.fieldLink RX0 27 "GlassRopes$Course" "day" "I", Cond.fieldLink RX0 30 "GlassRopes$Course" "coins" "I", Cond.fieldLink RX0 33 "GlassRopes$Course" "feastDays" "I", Cond.fieldLink RX0 19 "GlassRopes$Course" "ropes" "LGlassRopes$Ropes;", Cond.methodLink RX0 47 yX2_gather, Cond.instanceMethod yX2_gather, Cond.selects RX2 yX2_gather yX2_gather, Cond.initialized RX2, Cond.code yX2_gather cX2_gather 6 none, Cond.fieldLink RX2 9 "GlassRopes$Glass" "soot" "[I", Cond.methodLink RX2 25 Lib.Math.min.name, Cond.static Lib.Math.min.name, Cond.initialized "java/lang/Math", Cond.code Lib.Math.min.name Lib.Math.min.code 2 (some .int), Cond.methodLink RX2 21 yX2_broughtTo, Cond.static yX2_broughtTo, Cond.code yX2_broughtTo cX2_broughtTo 3 (some .int)]
def wsX0_goOn_r2 : List Cond := [Cond.methodLink RX2 30 Lib.Math.max.name, Cond.static Lib.Math.max.name, Cond.code Lib.Math.max.name Lib.Math.max.code 2 (some .int), Cond.methodLink RX0 51 yX1_areOn, Cond.instanceMethod yX1_areOn, Cond.selects RX1 yX1_areOn yX1_areOn, Cond.initialized RX1, Cond.code yX1_areOn cX1_areOn 4 (some .boolean), Cond.fieldLink RX1 9 "GlassRopes$Feasts" "size" "I", Cond.fieldLink RX1 15 "GlassRopes$Feasts" "every" "[I", Cond.fieldLink RX1 19 "GlassRopes$Feasts" "on" "[I", Cond.methodLink RX0 57 yX4_allBring, Cond.instanceMethod yX4_allBring, Cond.selects RX4 yX4_allBring yX4_allBring, Cond.initialized RX4, Cond.code yX4_allBring cX4_allBring 4 (some .int), Cond.fieldLink RX4 9 "GlassRopes$Windows" "size" "I", Cond.methodLink RX4 38 yX4_brings, Cond.instanceMethod yX4_brings, Cond.selects RX4 yX4_brings yX4_brings, Cond.code yX4_brings cX4_brings 3 (some .int), Cond.fieldLink RX4 28 "GlassRopes$Windows" "worth" "[I", Cond.methodLink RX4 47 Lib.Math.max.name, Cond.methodLink RX4 52 yX4_panes]
def wsX0_goOn_r3 : List Cond := [Cond.instanceMethod yX4_panes, Cond.selects RX4 yX4_panes yX4_panes, Cond.code yX4_panes cX4_panes 2 (some .int), Cond.fieldLink RX4 22 "GlassRopes$Windows" "width" "[I", Cond.fieldLink RX4 25 "GlassRopes$Windows" "height" "[I", Cond.methodLink RX4 31 yX4_added, Cond.instanceMethod yX4_added, Cond.selects RX4 yX4_added yX4_added, Cond.code yX4_added cX4_added 6 (some .int), Cond.fieldLink RX4 15 "GlassRopes$Windows" "x" "[I", Cond.fieldLink RX4 19 "GlassRopes$Windows" "y" "[I", Cond.methodLink RX4 41 yX2_at, Cond.instanceMethod yX2_at, Cond.selects RX2 yX2_at yX2_at, Cond.code yX2_at cX2_at 3 (some .int), Cond.methodLink RX0 63 yX3_work, Cond.instanceMethod yX3_work, Cond.selects RX3 yX3_work yX3_work, Cond.initialized RX3, Cond.code yX3_work cX3_work 3 none, Cond.fieldLink RX3 9 "GlassRopes$Ropes" "size" "I", Cond.methodLink RX3 35 yX3_workOnOne, Cond.instanceMethod yX3_workOnOne, Cond.selects RX3 yX3_workOnOne yX3_workOnOne]
def wsX0_goOn_r4 : List Cond := [Cond.code yX3_workOnOne cX3_workOnOne 6 none, Cond.fieldLink RX3 22 "GlassRopes$Ropes" "strength" "[I", Cond.fieldLink RX3 15 "GlassRopes$Ropes" "column" "[I", Cond.fieldLink RX3 19 "GlassRopes$Ropes" "row" "[I", Cond.fieldLink RX3 29 "GlassRopes$Ropes" "cleaned" "[I", Cond.methodLink RX3 39 yX2_takeOff, Cond.instanceMethod yX2_takeOff, Cond.selects RX2 yX2_takeOff yX2_takeOff, Cond.code yX2_takeOff cX2_takeOff 6 (some .int), Cond.methodLink RX3 45 yX3_nextFreeColumn, Cond.instanceMethod yX3_nextFreeColumn, Cond.selects RX3 yX3_nextFreeColumn yX3_nextFreeColumn, Cond.code yX3_nextFreeColumn cX3_nextFreeColumn 5 (some .int), Cond.fieldLink RX3 25 "GlassRopes$Ropes" "toRight" "[Z", Cond.methodLink RX3 53 yX3_hangAt, Cond.instanceMethod yX3_hangAt, Cond.selects RX3 yX3_hangAt yX3_hangAt, Cond.code yX3_hangAt cX3_hangAt 3 (some .boolean), Cond.methodLink RX3 49 yX3_rehang, Cond.instanceMethod yX3_rehang, Cond.selects RX3 yX3_rehang yX3_rehang, Cond.code yX3_rehang cX3_rehang 3 none, Cond.fieldLink RX3 32 "GlassRopes$Ropes" "moved" "[I"]
def wsX0_goOn : List Cond := .code yX0_goOn cX0_goOn 5 none :: ((wsX0_goOn_r1 ++ (wsX0_goOn_r2 ++ (wsX0_goOn_r3 ++ wsX0_goOn_r4))) ++ wsX00 ++ wsX20 ++ wsX10 ++ wsX40 ++ wsX30)
def wsX1_init : List Cond := .code yX1_init cX1_init 1 none :: ([.methodLink RX1 3 objectInit, .instanceMethod objectInit, .code objectInit ⟨#[0xb1]⟩ 1 none, .fieldLink RX1 9 "GlassRopes$Feasts" "size" "I", .arrayClass .int, .fieldLink RX1 15 "GlassRopes$Feasts" "every" "[I", .fieldLink RX1 19 "GlassRopes$Feasts" "on" "[I"] ++ wsX10)
def wsX1_put : List Cond := .code yX1_put cX1_put 3 (some .int) :: ([.fieldLink RX1 15 "GlassRopes$Feasts" "every" "[I", .fieldLink RX1 9 "GlassRopes$Feasts" "size" "I", .fieldLink RX1 19 "GlassRopes$Feasts" "on" "[I"] ++ wsX10)
def wsX1_daysUntil : List Cond := .code yX1_daysUntil cX1_daysUntil 3 (some .int) :: ([.methodLink RX1 22 yX1_areOn, .instanceMethod yX1_areOn, .selects RX1 yX1_areOn yX1_areOn, .initialized RX1, .code yX1_areOn cX1_areOn 4 (some .boolean), .fieldLink RX1 9 "GlassRopes$Feasts" "size" "I", .fieldLink RX1 15 "GlassRopes$Feasts" "every" "[I", .fieldLink RX1 19 "GlassRopes$Feasts" "on" "[I"] ++ wsX10)
def wsX2_total : List Cond := .code yX2_total cX2_total 3 (some .int) :: ([.fieldLink RX2 9 "GlassRopes$Glass" "soot" "[I"] ++ wsX20)
def wsX2_cleanPanes : List Cond := .code yX2_cleanPanes cX2_cleanPanes 3 (some .int) :: ([.fieldLink RX2 9 "GlassRopes$Glass" "soot" "[I"] ++ wsX20)
def wsX3_put : List Cond := .code yX3_put cX3_put 4 (some .int) :: ([.fieldLink RX3 15 "GlassRopes$Ropes" "column" "[I", .fieldLink RX3 9 "GlassRopes$Ropes" "size" "I", .fieldLink RX3 22 "GlassRopes$Ropes" "strength" "[I", .fieldLink RX3 25 "GlassRopes$Ropes" "toRight" "[Z"] ++ wsX30)
def wsX3_number : List Cond := .code yX3_number cX3_number 3 (some .int) :: ([.fieldLink RX3 15 "GlassRopes$Ropes" "column" "[I", .fieldLink RX3 19 "GlassRopes$Ropes" "row" "[I", .fieldLink RX3 22 "GlassRopes$Ropes" "strength" "[I", .fieldLink RX3 25 "GlassRopes$Ropes" "toRight" "[Z", .fieldLink RX3 29 "GlassRopes$Ropes" "cleaned" "[I", .fieldLink RX3 32 "GlassRopes$Ropes" "moved" "[I"] ++ wsX30)
def wsX3_allCleaned : List Cond := .code yX3_allCleaned cX3_allCleaned 3 (some .int) :: ([.fieldLink RX3 9 "GlassRopes$Ropes" "size" "I", .fieldLink RX3 29 "GlassRopes$Ropes" "cleaned" "[I"] ++ wsX30)
def wsX4_init : List Cond := .code yX4_init cX4_init 1 none :: ([.methodLink RX4 3 objectInit, .instanceMethod objectInit, .code objectInit ⟨#[0xb1]⟩ 1 none, .fieldLink RX4 9 "GlassRopes$Windows" "size" "I", .arrayClass .int, .fieldLink RX4 15 "GlassRopes$Windows" "x" "[I", .fieldLink RX4 19 "GlassRopes$Windows" "y" "[I", .fieldLink RX4 22 "GlassRopes$Windows" "width" "[I", .fieldLink RX4 25 "GlassRopes$Windows" "height" "[I", .fieldLink RX4 28 "GlassRopes$Windows" "worth" "[I"] ++ wsX40)
def wsX4_put : List Cond := .code yX4_put cX4_put 6 (some .int) :: ([.fieldLink RX4 15 "GlassRopes$Windows" "x" "[I", .fieldLink RX4 9 "GlassRopes$Windows" "size" "I", .fieldLink RX4 19 "GlassRopes$Windows" "y" "[I", .fieldLink RX4 22 "GlassRopes$Windows" "width" "[I", .fieldLink RX4 25 "GlassRopes$Windows" "height" "[I", .fieldLink RX4 28 "GlassRopes$Windows" "worth" "[I"] ++ wsX40)
def wsX4_darkest : List Cond := .code yX4_darkest cX4_darkest 6 (some .int) :: ([.fieldLink RX4 15 "GlassRopes$Windows" "x" "[I", .fieldLink RX4 22 "GlassRopes$Windows" "width" "[I", .fieldLink RX4 19 "GlassRopes$Windows" "y" "[I", .fieldLink RX4 25 "GlassRopes$Windows" "height" "[I", .methodLink RX4 47 Lib.Math.max.name, .static Lib.Math.max.name, .initialized "java/lang/Math", .code Lib.Math.max.name Lib.Math.max.code 2 (some .int), .methodLink RX4 41 yX2_at, .instanceMethod yX2_at, .selects RX2 yX2_at yX2_at, .initialized RX2, .code yX2_at cX2_at 3 (some .int), .fieldLink RX2 9 "GlassRopes$Glass" "soot" "[I"] ++ wsX40 ++ wsX20)
def wsX4_number_r1 : List Cond := [Cond.fieldLink RX4 15 "GlassRopes$Windows" "x" "[I", Cond.fieldLink RX4 19 "GlassRopes$Windows" "y" "[I", Cond.fieldLink RX4 22 "GlassRopes$Windows" "width" "[I", Cond.fieldLink RX4 25 "GlassRopes$Windows" "height" "[I", Cond.fieldLink RX4 28 "GlassRopes$Windows" "worth" "[I", Cond.methodLink RX4 31 yX4_added, Cond.instanceMethod yX4_added, Cond.selects RX4 yX4_added yX4_added, Cond.initialized RX4, Cond.code yX4_added cX4_added 6 (some .int), Cond.methodLink RX4 41 yX2_at, Cond.instanceMethod yX2_at, Cond.selects RX2 yX2_at yX2_at, Cond.initialized RX2, Cond.code yX2_at cX2_at 3 (some .int), Cond.fieldLink RX2 9 "GlassRopes$Glass" "soot" "[I", Cond.methodLink RX4 35 yX4_darkest, Cond.instanceMethod yX4_darkest, Cond.selects RX4 yX4_darkest yX4_darkest, Cond.code yX4_darkest cX4_darkest 6 (some .int), Cond.methodLink RX4 47 Lib.Math.max.name, Cond.static Lib.Math.max.name, Cond.initialized "java/lang/Math", Cond.code Lib.Math.max.name Lib.Math.max.code 2 (some .int)]
def wsX4_number_r2 : List Cond := [Cond.methodLink RX4 38 yX4_brings, Cond.instanceMethod yX4_brings, Cond.selects RX4 yX4_brings yX4_brings, Cond.code yX4_brings cX4_brings 3 (some .int), Cond.methodLink RX4 52 yX4_panes, Cond.instanceMethod yX4_panes, Cond.selects RX4 yX4_panes yX4_panes, Cond.code yX4_panes cX4_panes 2 (some .int)]
def wsX4_number : List Cond := .code yX4_number cX4_number 4 (some .int) :: ((wsX4_number_r1 ++ wsX4_number_r2) ++ wsX40 ++ wsX20)
def wsX4_isClean : List Cond := .code yX4_isClean cX4_isClean 3 (some .boolean) :: ([.methodLink RX4 31 yX4_added, .instanceMethod yX4_added, .selects RX4 yX4_added yX4_added, .initialized RX4, .code yX4_added cX4_added 6 (some .int), .fieldLink RX4 15 "GlassRopes$Windows" "x" "[I", .fieldLink RX4 22 "GlassRopes$Windows" "width" "[I", .fieldLink RX4 19 "GlassRopes$Windows" "y" "[I", .fieldLink RX4 25 "GlassRopes$Windows" "height" "[I", .methodLink RX4 41 yX2_at, .instanceMethod yX2_at, .selects RX2 yX2_at yX2_at, .initialized RX2, .code yX2_at cX2_at 3 (some .int), .fieldLink RX2 9 "GlassRopes$Glass" "soot" "[I", .methodLink RX4 52 yX4_panes, .instanceMethod yX4_panes, .selects RX4 yX4_panes yX4_panes, .code yX4_panes cX4_panes 2 (some .int)] ++ wsX40 ++ wsX20)
def wsX4_wipeOff : List Cond := .code yX4_wipeOff cX4_wipeOff 6 (some .int) :: ([.fieldLink RX4 15 "GlassRopes$Windows" "x" "[I", .fieldLink RX4 22 "GlassRopes$Windows" "width" "[I", .fieldLink RX4 19 "GlassRopes$Windows" "y" "[I", .fieldLink RX4 25 "GlassRopes$Windows" "height" "[I", .methodLink RX4 56 yX2_takeOff, .instanceMethod yX2_takeOff, .selects RX2 yX2_takeOff yX2_takeOff, .initialized RX2, .code yX2_takeOff cX2_takeOff 6 (some .int), .fieldLink RX2 9 "GlassRopes$Glass" "soot" "[I", .methodLink RX2 25 Lib.Math.min.name, .static Lib.Math.min.name, .initialized "java/lang/Math", .code Lib.Math.min.name Lib.Math.min.code 2 (some .int)] ++ wsX40 ++ wsX20)
def wsX5_init_r1 : List Cond := [Cond.methodLink RX5 3 objectInit, Cond.instanceMethod objectInit, Cond.code objectInit ⟨#[0xb1]⟩ 1 none, Cond.classLink RX5 9 RX4, Cond.instantiable RX4 6, Cond.initialized RX4, Cond.fieldLink RX5 12 "GlassRopes" "windows" "LGlassRopes$Windows;", Cond.classLink RX5 16 RX1, Cond.instantiable RX1 3, Cond.initialized RX1, Cond.fieldLink RX5 19 "GlassRopes" "feasts" "LGlassRopes$Feasts;", Cond.classLink RX5 23 RX0, Cond.instantiable RX0 6, Cond.initialized RX0, Cond.fieldLink RX5 26 "GlassRopes" "now" "LGlassRopes$Course;", Cond.fieldLink RX5 30 "GlassRopes" "ahead" "LGlassRopes$Course;", Cond.instanceMethod yX4_init, Cond.code yX4_init cX4_init 1 none, Cond.methodLink RX4 3 objectInit, Cond.fieldLink RX4 9 "GlassRopes$Windows" "size" "I", Cond.arrayClass .int, Cond.fieldLink RX4 15 "GlassRopes$Windows" "x" "[I", Cond.fieldLink RX4 19 "GlassRopes$Windows" "y" "[I", Cond.fieldLink RX4 22 "GlassRopes$Windows" "width" "[I"]
def wsX5_init_r2 : List Cond := [Cond.fieldLink RX4 25 "GlassRopes$Windows" "height" "[I", Cond.fieldLink RX4 28 "GlassRopes$Windows" "worth" "[I", Cond.instanceMethod yX1_init, Cond.code yX1_init cX1_init 1 none, Cond.methodLink RX1 3 objectInit, Cond.fieldLink RX1 9 "GlassRopes$Feasts" "size" "I", Cond.fieldLink RX1 15 "GlassRopes$Feasts" "every" "[I", Cond.fieldLink RX1 19 "GlassRopes$Feasts" "on" "[I", Cond.instanceMethod yX0_init, Cond.code yX0_init cX0_init 1 none, Cond.methodLink RX0 1 objectInit, Cond.classLink RX0 7 RX2, Cond.instantiable RX2 1, Cond.initialized RX2, Cond.fieldLink RX0 10 "GlassRopes$Course" "glass" "LGlassRopes$Glass;", Cond.classLink RX0 16 RX3, Cond.instantiable RX3 7, Cond.initialized RX3, Cond.fieldLink RX0 19 "GlassRopes$Course" "ropes" "LGlassRopes$Ropes;", Cond.fieldLink RX0 23 "GlassRopes$Course" "wind" "I", Cond.fieldLink RX0 27 "GlassRopes$Course" "day" "I", Cond.fieldLink RX0 30 "GlassRopes$Course" "coins" "I", Cond.fieldLink RX0 33 "GlassRopes$Course" "feastDays" "I", Cond.instanceMethod yX2_init]
def wsX5_init_r3 : List Cond := [Cond.code yX2_init cX2_init 1 none, Cond.methodLink RX2 3 objectInit, Cond.fieldLink RX2 9 "GlassRopes$Glass" "soot" "[I", Cond.instanceMethod yX3_init, Cond.code yX3_init cX3_init 1 none, Cond.methodLink RX3 3 objectInit, Cond.fieldLink RX3 9 "GlassRopes$Ropes" "size" "I", Cond.fieldLink RX3 15 "GlassRopes$Ropes" "column" "[I", Cond.fieldLink RX3 19 "GlassRopes$Ropes" "row" "[I", Cond.fieldLink RX3 22 "GlassRopes$Ropes" "strength" "[I", Cond.arrayClass .boolean, Cond.fieldLink RX3 25 "GlassRopes$Ropes" "toRight" "[Z", Cond.fieldLink RX3 29 "GlassRopes$Ropes" "cleaned" "[I", Cond.fieldLink RX3 32 "GlassRopes$Ropes" "moved" "[I"]
def wsX5_init : List Cond := .code yX5_init cX5_init 1 none :: ((wsX5_init_r1 ++ (wsX5_init_r2 ++ wsX5_init_r3)) ++ wsX40 ++ wsX50 ++ wsX10 ++ wsX00 ++ wsX20 ++ wsX30)
def wsX5_window : List Cond := .code yX5_window cX5_window 6 (some .int) :: ([.classLink RX5 33 "java/lang/IllegalArgumentException", .initialized "java/lang/IllegalArgumentException", .classLink RX5 40 "java/lang/IndexOutOfBoundsException", .initialized "java/lang/IndexOutOfBoundsException", .classLink RX5 49 "java/lang/IllegalStateException", .initialized "java/lang/IllegalStateException", .fieldLink RX5 12 "GlassRopes" "windows" "LGlassRopes$Windows;", .methodLink RX5 54 yX4_put, .instanceMethod yX4_put, .selects RX4 yX4_put yX4_put, .initialized RX4, .code yX4_put cX4_put 6 (some .int), .fieldLink RX4 15 "GlassRopes$Windows" "x" "[I", .fieldLink RX4 9 "GlassRopes$Windows" "size" "I", .fieldLink RX4 19 "GlassRopes$Windows" "y" "[I", .fieldLink RX4 22 "GlassRopes$Windows" "width" "[I", .fieldLink RX4 25 "GlassRopes$Windows" "height" "[I", .fieldLink RX4 28 "GlassRopes$Windows" "worth" "[I"] ++ wsX50 ++ wsX40 ++ (vx_atS RX5 37 "java/lang/IllegalArgumentException" ["java/lang/RuntimeException", "java/lang/Exception"]).filter goodWord ++ (vx_atS RX5 44 "java/lang/IndexOutOfBoundsException" ["java/lang/RuntimeException", "java/lang/Exception"]).filter goodWord ++ (vx_atS RX5 53 "java/lang/IllegalStateException" ["java/lang/RuntimeException", "java/lang/Exception"]).filter goodWord)
def wsX5_isColumn : List Cond := .code yX5_isColumn cX5_isColumn 1 (some .boolean) :: ([])
def wsX5_rope : List Cond := .code yX5_rope cX5_rope 4 (some .int) :: ([.classLink RX5 40 "java/lang/IndexOutOfBoundsException", .initialized "java/lang/IndexOutOfBoundsException", .classLink RX5 33 "java/lang/IllegalArgumentException", .initialized "java/lang/IllegalArgumentException", .classLink RX5 49 "java/lang/IllegalStateException", .initialized "java/lang/IllegalStateException", .fieldLink RX5 26 "GlassRopes" "now" "LGlassRopes$Course;", .methodLink RX5 58 yX5_isColumn, .static yX5_isColumn, .initialized RX5, .code yX5_isColumn cX5_isColumn 1 (some .boolean), .methodLink RX5 73 yX3_hangAt, .instanceMethod yX3_hangAt, .selects RX3 yX3_hangAt yX3_hangAt, .initialized RX3, .code yX3_hangAt cX3_hangAt 3 (some .boolean), .fieldLink RX3 9 "GlassRopes$Ropes" "size" "I", .fieldLink RX3 15 "GlassRopes$Ropes" "column" "[I", .methodLink RX5 78 yX3_put, .instanceMethod yX3_put, .selects RX3 yX3_put yX3_put, .code yX3_put cX3_put 4 (some .int), .fieldLink RX3 22 "GlassRopes$Ropes" "strength" "[I", .fieldLink RX3 25 "GlassRopes$Ropes" "toRight" "[Z"] ++ wsX50 ++ wsX00 ++ wsX30 ++ (vx_atS RX5 44 "java/lang/IndexOutOfBoundsException" ["java/lang/RuntimeException", "java/lang/Exception"]).filter goodWord ++ (vx_atS RX5 37 "java/lang/IllegalArgumentException" ["java/lang/RuntimeException", "java/lang/Exception"]).filter goodWord ++ (vx_atS RX5 53 "java/lang/IllegalStateException" ["java/lang/RuntimeException", "java/lang/Exception"]).filter goodWord)
def wsX5_feast : List Cond := .code yX5_feast cX5_feast 3 (some .int) :: ([.classLink RX5 33 "java/lang/IllegalArgumentException", .initialized "java/lang/IllegalArgumentException", .classLink RX5 49 "java/lang/IllegalStateException", .initialized "java/lang/IllegalStateException", .fieldLink RX5 19 "GlassRopes" "feasts" "LGlassRopes$Feasts;", .methodLink RX5 86 yX1_put, .instanceMethod yX1_put, .selects RX1 yX1_put yX1_put, .initialized RX1, .code yX1_put cX1_put 3 (some .int), .fieldLink RX1 15 "GlassRopes$Feasts" "every" "[I", .fieldLink RX1 9 "GlassRopes$Feasts" "size" "I", .fieldLink RX1 19 "GlassRopes$Feasts" "on" "[I"] ++ wsX50 ++ wsX10 ++ (vx_atS RX5 37 "java/lang/IllegalArgumentException" ["java/lang/RuntimeException", "java/lang/Exception"]).filter goodWord ++ (vx_atS RX5 53 "java/lang/IllegalStateException" ["java/lang/RuntimeException", "java/lang/Exception"]).filter goodWord)
def wsX5_setWind : List Cond := .code yX5_setWind cX5_setWind 3 (some .int) :: ([.classLink RX5 33 "java/lang/IllegalArgumentException", .initialized "java/lang/IllegalArgumentException", .fieldLink RX5 26 "GlassRopes" "now" "LGlassRopes$Course;"] ++ wsX50 ++ wsX00 ++ (vx_atS RX5 37 "java/lang/IllegalArgumentException" ["java/lang/RuntimeException", "java/lang/Exception"]).filter goodWord)
def wsX5_isRope : List Cond := .code yX5_isRope cX5_isRope 2 (some .boolean) :: ([.fieldLink RX5 26 "GlassRopes" "now" "LGlassRopes$Course;"] ++ wsX50 ++ wsX00 ++ wsX30)
def wsX5_move_r1 : List Cond := [Cond.classLink RX5 40 "java/lang/IndexOutOfBoundsException", Cond.initialized "java/lang/IndexOutOfBoundsException", Cond.classLink RX5 49 "java/lang/IllegalStateException", Cond.initialized "java/lang/IllegalStateException", Cond.fieldLink RX5 26 "GlassRopes" "now" "LGlassRopes$Course;", Cond.methodLink RX5 94 yX5_isRope, Cond.instanceMethod yX5_isRope, Cond.selects RX5 yX5_isRope yX5_isRope, Cond.initialized RX5, Cond.code yX5_isRope cX5_isRope 2 (some .boolean), Cond.methodLink RX5 58 yX5_isColumn, Cond.static yX5_isColumn, Cond.code yX5_isColumn cX5_isColumn 1 (some .boolean), Cond.methodLink RX5 73 yX3_hangAt, Cond.instanceMethod yX3_hangAt, Cond.selects RX3 yX3_hangAt yX3_hangAt, Cond.initialized RX3, Cond.code yX3_hangAt cX3_hangAt 3 (some .boolean), Cond.fieldLink RX3 9 "GlassRopes$Ropes" "size" "I", Cond.fieldLink RX3 15 "GlassRopes$Ropes" "column" "[I", Cond.methodLink RX5 105 yX3_rehang, Cond.instanceMethod yX3_rehang, Cond.selects RX3 yX3_rehang yX3_rehang, Cond.code yX3_rehang cX3_rehang 3 none]
def wsX5_move_r2 : List Cond := [Cond.fieldLink RX3 19 "GlassRopes$Ropes" "row" "[I", Cond.fieldLink RX3 32 "GlassRopes$Ropes" "moved" "[I"]
def wsX5_move : List Cond := .code yX5_move cX5_move 4 (some .int) :: ((wsX5_move_r1 ++ wsX5_move_r2) ++ wsX50 ++ wsX00 ++ wsX30 ++ (vx_atS RX5 44 "java/lang/IndexOutOfBoundsException" ["java/lang/RuntimeException", "java/lang/Exception"]).filter goodWord ++ (vx_atS RX5 53 "java/lang/IllegalStateException" ["java/lang/RuntimeException", "java/lang/Exception"]).filter goodWord)
def wsX5_turn : List Cond := .code yX5_turn cX5_turn 2 (some .boolean) :: ([.classLink RX5 40 "java/lang/IndexOutOfBoundsException", .initialized "java/lang/IndexOutOfBoundsException", .fieldLink RX5 26 "GlassRopes" "now" "LGlassRopes$Course;", .methodLink RX5 94 yX5_isRope, .instanceMethod yX5_isRope, .selects RX5 yX5_isRope yX5_isRope, .initialized RX5, .code yX5_isRope cX5_isRope 2 (some .boolean)] ++ wsX50 ++ wsX00 ++ wsX30 ++ (vx_atS RX5 44 "java/lang/IndexOutOfBoundsException" ["java/lang/RuntimeException", "java/lang/Exception"]).filter goodWord)
def wsX5_isWindow : List Cond := .code yX5_isWindow cX5_isWindow 2 (some .boolean) :: ([.fieldLink RX5 12 "GlassRopes" "windows" "LGlassRopes$Windows;"] ++ wsX50 ++ wsX40)
def wsX5_wipe_r1 : List Cond := [Cond.classLink RX5 40 "java/lang/IndexOutOfBoundsException", Cond.initialized "java/lang/IndexOutOfBoundsException", Cond.fieldLink RX5 12 "GlassRopes" "windows" "LGlassRopes$Windows;", Cond.fieldLink RX5 26 "GlassRopes" "now" "LGlassRopes$Course;", Cond.methodLink RX5 115 yX5_isWindow, Cond.instanceMethod yX5_isWindow, Cond.selects RX5 yX5_isWindow yX5_isWindow, Cond.initialized RX5, Cond.code yX5_isWindow cX5_isWindow 2 (some .boolean), Cond.methodLink RX5 124 yX4_wipeOff, Cond.instanceMethod yX4_wipeOff, Cond.selects RX4 yX4_wipeOff yX4_wipeOff, Cond.initialized RX4, Cond.code yX4_wipeOff cX4_wipeOff 6 (some .int), Cond.fieldLink RX4 15 "GlassRopes$Windows" "x" "[I", Cond.fieldLink RX4 22 "GlassRopes$Windows" "width" "[I", Cond.fieldLink RX4 19 "GlassRopes$Windows" "y" "[I", Cond.fieldLink RX4 25 "GlassRopes$Windows" "height" "[I", Cond.methodLink RX4 56 yX2_takeOff, Cond.instanceMethod yX2_takeOff, Cond.selects RX2 yX2_takeOff yX2_takeOff, Cond.initialized RX2, Cond.code yX2_takeOff cX2_takeOff 6 (some .int), Cond.fieldLink RX2 9 "GlassRopes$Glass" "soot" "[I"]
def wsX5_wipe_r2 : List Cond := [Cond.methodLink RX2 25 Lib.Math.min.name, Cond.static Lib.Math.min.name, Cond.initialized "java/lang/Math", Cond.code Lib.Math.min.name Lib.Math.min.code 2 (some .int)]
def wsX5_wipe : List Cond := .code yX5_wipe cX5_wipe 2 (some .int) :: ((wsX5_wipe_r1 ++ wsX5_wipe_r2) ++ wsX50 ++ wsX00 ++ wsX40 ++ wsX20 ++ (vx_atS RX5 44 "java/lang/IndexOutOfBoundsException" ["java/lang/RuntimeException", "java/lang/Exception"]).filter goodWord)
def wsX5_pass_r1 : List Cond := [Cond.classLink RX5 33 "java/lang/IllegalArgumentException", Cond.initialized "java/lang/IllegalArgumentException", Cond.fieldLink RX5 26 "GlassRopes" "now" "LGlassRopes$Course;", Cond.fieldLink RX5 12 "GlassRopes" "windows" "LGlassRopes$Windows;", Cond.fieldLink RX5 19 "GlassRopes" "feasts" "LGlassRopes$Feasts;", Cond.methodLink RX5 133 yX0_goOn, Cond.instanceMethod yX0_goOn, Cond.selects RX0 yX0_goOn yX0_goOn, Cond.initialized RX0, Cond.code yX0_goOn cX0_goOn 5 none, Cond.methodLink RX0 43 yX0_goOneDay, Cond.instanceMethod yX0_goOneDay, Cond.selects RX0 yX0_goOneDay yX0_goOneDay, Cond.code yX0_goOneDay cX0_goOneDay 3 none, Cond.fieldLink RX0 10 "GlassRopes$Course" "glass" "LGlassRopes$Glass;", Cond.fieldLink RX0 23 "GlassRopes$Course" "wind" "I", Cond.fieldLink RX0 27 "GlassRopes$Course" "day" "I", Cond.fieldLink RX0 30 "GlassRopes$Course" "coins" "I", Cond.fieldLink RX0 33 "GlassRopes$Course" "feastDays" "I", Cond.fieldLink RX0 19 "GlassRopes$Course" "ropes" "LGlassRopes$Ropes;", Cond.methodLink RX0 47 yX2_gather, Cond.instanceMethod yX2_gather, Cond.selects RX2 yX2_gather yX2_gather, Cond.initialized RX2]
def wsX5_pass_r2 : List Cond := [Cond.code yX2_gather cX2_gather 6 none, Cond.fieldLink RX2 9 "GlassRopes$Glass" "soot" "[I", Cond.methodLink RX2 25 Lib.Math.min.name, Cond.static Lib.Math.min.name, Cond.initialized "java/lang/Math", Cond.code Lib.Math.min.name Lib.Math.min.code 2 (some .int), Cond.methodLink RX2 21 yX2_broughtTo, Cond.static yX2_broughtTo, Cond.code yX2_broughtTo cX2_broughtTo 3 (some .int), Cond.methodLink RX2 30 Lib.Math.max.name, Cond.static Lib.Math.max.name, Cond.code Lib.Math.max.name Lib.Math.max.code 2 (some .int), Cond.methodLink RX0 51 yX1_areOn, Cond.instanceMethod yX1_areOn, Cond.selects RX1 yX1_areOn yX1_areOn, Cond.initialized RX1, Cond.code yX1_areOn cX1_areOn 4 (some .boolean), Cond.fieldLink RX1 9 "GlassRopes$Feasts" "size" "I", Cond.fieldLink RX1 15 "GlassRopes$Feasts" "every" "[I", Cond.fieldLink RX1 19 "GlassRopes$Feasts" "on" "[I", Cond.methodLink RX0 57 yX4_allBring, Cond.instanceMethod yX4_allBring, Cond.selects RX4 yX4_allBring yX4_allBring, Cond.initialized RX4]
def wsX5_pass_r3 : List Cond := [Cond.code yX4_allBring cX4_allBring 4 (some .int), Cond.fieldLink RX4 9 "GlassRopes$Windows" "size" "I", Cond.methodLink RX4 38 yX4_brings, Cond.instanceMethod yX4_brings, Cond.selects RX4 yX4_brings yX4_brings, Cond.code yX4_brings cX4_brings 3 (some .int), Cond.fieldLink RX4 28 "GlassRopes$Windows" "worth" "[I", Cond.methodLink RX4 47 Lib.Math.max.name, Cond.methodLink RX4 52 yX4_panes, Cond.instanceMethod yX4_panes, Cond.selects RX4 yX4_panes yX4_panes, Cond.code yX4_panes cX4_panes 2 (some .int), Cond.fieldLink RX4 22 "GlassRopes$Windows" "width" "[I", Cond.fieldLink RX4 25 "GlassRopes$Windows" "height" "[I", Cond.methodLink RX4 31 yX4_added, Cond.instanceMethod yX4_added, Cond.selects RX4 yX4_added yX4_added, Cond.code yX4_added cX4_added 6 (some .int), Cond.fieldLink RX4 15 "GlassRopes$Windows" "x" "[I", Cond.fieldLink RX4 19 "GlassRopes$Windows" "y" "[I", Cond.methodLink RX4 41 yX2_at, Cond.instanceMethod yX2_at, Cond.selects RX2 yX2_at yX2_at, Cond.code yX2_at cX2_at 3 (some .int)]
def wsX5_pass_r4 : List Cond := [Cond.methodLink RX0 63 yX3_work, Cond.instanceMethod yX3_work, Cond.selects RX3 yX3_work yX3_work, Cond.initialized RX3, Cond.code yX3_work cX3_work 3 none, Cond.fieldLink RX3 9 "GlassRopes$Ropes" "size" "I", Cond.methodLink RX3 35 yX3_workOnOne, Cond.instanceMethod yX3_workOnOne, Cond.selects RX3 yX3_workOnOne yX3_workOnOne, Cond.code yX3_workOnOne cX3_workOnOne 6 none, Cond.fieldLink RX3 22 "GlassRopes$Ropes" "strength" "[I", Cond.fieldLink RX3 15 "GlassRopes$Ropes" "column" "[I", Cond.fieldLink RX3 19 "GlassRopes$Ropes" "row" "[I", Cond.fieldLink RX3 29 "GlassRopes$Ropes" "cleaned" "[I", Cond.methodLink RX3 39 yX2_takeOff, Cond.instanceMethod yX2_takeOff, Cond.selects RX2 yX2_takeOff yX2_takeOff, Cond.code yX2_takeOff cX2_takeOff 6 (some .int), Cond.methodLink RX3 45 yX3_nextFreeColumn, Cond.instanceMethod yX3_nextFreeColumn, Cond.selects RX3 yX3_nextFreeColumn yX3_nextFreeColumn, Cond.code yX3_nextFreeColumn cX3_nextFreeColumn 5 (some .int), Cond.fieldLink RX3 25 "GlassRopes$Ropes" "toRight" "[Z", Cond.methodLink RX3 53 yX3_hangAt]
def wsX5_pass_r5 : List Cond := [Cond.instanceMethod yX3_hangAt, Cond.selects RX3 yX3_hangAt yX3_hangAt, Cond.code yX3_hangAt cX3_hangAt 3 (some .boolean), Cond.methodLink RX3 49 yX3_rehang, Cond.instanceMethod yX3_rehang, Cond.selects RX3 yX3_rehang yX3_rehang, Cond.code yX3_rehang cX3_rehang 3 none, Cond.fieldLink RX3 32 "GlassRopes$Ropes" "moved" "[I"]
def wsX5_pass : List Cond := .code yX5_pass cX5_pass 3 (some .int) :: ((wsX5_pass_r1 ++ (wsX5_pass_r2 ++ (wsX5_pass_r3 ++ (wsX5_pass_r4 ++ wsX5_pass_r5)))) ++ wsX50 ++ wsX00 ++ wsX20 ++ wsX10 ++ wsX40 ++ wsX30 ++ (vx_atS RX5 37 "java/lang/IllegalArgumentException" ["java/lang/RuntimeException", "java/lang/Exception"]).filter goodWord)
def wsX5_soot : List Cond := .code yX5_soot cX5_soot 3 (some .int) :: ([.classLink RX5 40 "java/lang/IndexOutOfBoundsException", .initialized "java/lang/IndexOutOfBoundsException", .fieldLink RX5 26 "GlassRopes" "now" "LGlassRopes$Course;", .methodLink RX5 58 yX5_isColumn, .static yX5_isColumn, .initialized RX5, .code yX5_isColumn cX5_isColumn 1 (some .boolean), .methodLink RX5 139 yX2_at, .instanceMethod yX2_at, .selects RX2 yX2_at yX2_at, .initialized RX2, .code yX2_at cX2_at 3 (some .int), .fieldLink RX2 9 "GlassRopes$Glass" "soot" "[I"] ++ wsX50 ++ wsX00 ++ wsX20 ++ (vx_atS RX5 44 "java/lang/IndexOutOfBoundsException" ["java/lang/RuntimeException", "java/lang/Exception"]).filter goodWord)
def wsX5_about_r1 : List Cond := [Cond.classLink RX5 40 "java/lang/IndexOutOfBoundsException", Cond.initialized "java/lang/IndexOutOfBoundsException", Cond.fieldLink RX5 12 "GlassRopes" "windows" "LGlassRopes$Windows;", Cond.fieldLink RX5 26 "GlassRopes" "now" "LGlassRopes$Course;", Cond.methodLink RX5 115 yX5_isWindow, Cond.instanceMethod yX5_isWindow, Cond.selects RX5 yX5_isWindow yX5_isWindow, Cond.initialized RX5, Cond.code yX5_isWindow cX5_isWindow 2 (some .boolean), Cond.methodLink RX5 146 yX4_number, Cond.instanceMethod yX4_number, Cond.selects RX4 yX4_number yX4_number, Cond.initialized RX4, Cond.code yX4_number cX4_number 4 (some .int), Cond.fieldLink RX4 15 "GlassRopes$Windows" "x" "[I", Cond.fieldLink RX4 19 "GlassRopes$Windows" "y" "[I", Cond.fieldLink RX4 22 "GlassRopes$Windows" "width" "[I", Cond.fieldLink RX4 25 "GlassRopes$Windows" "height" "[I", Cond.fieldLink RX4 28 "GlassRopes$Windows" "worth" "[I", Cond.methodLink RX4 31 yX4_added, Cond.instanceMethod yX4_added, Cond.selects RX4 yX4_added yX4_added, Cond.code yX4_added cX4_added 6 (some .int), Cond.methodLink RX4 41 yX2_at]
def wsX5_about_r2 : List Cond := [Cond.instanceMethod yX2_at, Cond.selects RX2 yX2_at yX2_at, Cond.initialized RX2, Cond.code yX2_at cX2_at 3 (some .int), Cond.fieldLink RX2 9 "GlassRopes$Glass" "soot" "[I", Cond.methodLink RX4 35 yX4_darkest, Cond.instanceMethod yX4_darkest, Cond.selects RX4 yX4_darkest yX4_darkest, Cond.code yX4_darkest cX4_darkest 6 (some .int), Cond.methodLink RX4 47 Lib.Math.max.name, Cond.static Lib.Math.max.name, Cond.initialized "java/lang/Math", Cond.code Lib.Math.max.name Lib.Math.max.code 2 (some .int), Cond.methodLink RX4 38 yX4_brings, Cond.instanceMethod yX4_brings, Cond.selects RX4 yX4_brings yX4_brings, Cond.code yX4_brings cX4_brings 3 (some .int), Cond.methodLink RX4 52 yX4_panes, Cond.instanceMethod yX4_panes, Cond.selects RX4 yX4_panes yX4_panes, Cond.code yX4_panes cX4_panes 2 (some .int)]
def wsX5_about : List Cond := .code yX5_about cX5_about 3 (some .int) :: ((wsX5_about_r1 ++ wsX5_about_r2) ++ wsX50 ++ wsX00 ++ wsX40 ++ wsX20 ++ (vx_atS RX5 44 "java/lang/IndexOutOfBoundsException" ["java/lang/RuntimeException", "java/lang/Exception"]).filter goodWord)
def wsX5_told : List Cond := .code yX5_told cX5_told 3 (some .int) :: ([.classLink RX5 40 "java/lang/IndexOutOfBoundsException", .initialized "java/lang/IndexOutOfBoundsException", .fieldLink RX5 26 "GlassRopes" "now" "LGlassRopes$Course;", .methodLink RX5 94 yX5_isRope, .instanceMethod yX5_isRope, .selects RX5 yX5_isRope yX5_isRope, .initialized RX5, .code yX5_isRope cX5_isRope 2 (some .boolean), .methodLink RX5 152 yX3_number, .instanceMethod yX3_number, .selects RX3 yX3_number yX3_number, .initialized RX3, .code yX3_number cX3_number 3 (some .int), .fieldLink RX3 15 "GlassRopes$Ropes" "column" "[I", .fieldLink RX3 19 "GlassRopes$Ropes" "row" "[I", .fieldLink RX3 22 "GlassRopes$Ropes" "strength" "[I", .fieldLink RX3 25 "GlassRopes$Ropes" "toRight" "[Z", .fieldLink RX3 29 "GlassRopes$Ropes" "cleaned" "[I", .fieldLink RX3 32 "GlassRopes$Ropes" "moved" "[I"] ++ wsX50 ++ wsX00 ++ wsX30 ++ (vx_atS RX5 44 "java/lang/IndexOutOfBoundsException" ["java/lang/RuntimeException", "java/lang/Exception"]).filter goodWord)
def wsX5_number_r1 : List Cond := [Cond.fieldLink RX5 26 "GlassRopes" "now" "LGlassRopes$Course;", Cond.fieldLink RX5 12 "GlassRopes" "windows" "LGlassRopes$Windows;", Cond.fieldLink RX5 19 "GlassRopes" "feasts" "LGlassRopes$Feasts;", Cond.methodLink RX5 172 yX2_total, Cond.instanceMethod yX2_total, Cond.selects RX2 yX2_total yX2_total, Cond.initialized RX2, Cond.code yX2_total cX2_total 3 (some .int), Cond.fieldLink RX2 9 "GlassRopes$Glass" "soot" "[I", Cond.methodLink RX5 199 yX2_cleanPanes, Cond.instanceMethod yX2_cleanPanes, Cond.selects RX2 yX2_cleanPanes yX2_cleanPanes, Cond.code yX2_cleanPanes cX2_cleanPanes 3 (some .int), Cond.methodLink RX5 176 yX3_allCleaned, Cond.instanceMethod yX3_allCleaned, Cond.selects RX3 yX3_allCleaned yX3_allCleaned, Cond.initialized RX3, Cond.code yX3_allCleaned cX3_allCleaned 3 (some .int), Cond.fieldLink RX3 9 "GlassRopes$Ropes" "size" "I", Cond.fieldLink RX3 29 "GlassRopes$Ropes" "cleaned" "[I", Cond.methodLink RX5 205 yX4_allBring, Cond.instanceMethod yX4_allBring, Cond.selects RX4 yX4_allBring yX4_allBring, Cond.initialized RX4]
def wsX5_number_r2 : List Cond := [Cond.code yX4_allBring cX4_allBring 4 (some .int), Cond.fieldLink RX4 9 "GlassRopes$Windows" "size" "I", Cond.methodLink RX4 38 yX4_brings, Cond.instanceMethod yX4_brings, Cond.selects RX4 yX4_brings yX4_brings, Cond.code yX4_brings cX4_brings 3 (some .int), Cond.fieldLink RX4 28 "GlassRopes$Windows" "worth" "[I", Cond.methodLink RX4 47 Lib.Math.max.name, Cond.static Lib.Math.max.name, Cond.initialized "java/lang/Math", Cond.code Lib.Math.max.name Lib.Math.max.code 2 (some .int), Cond.methodLink RX4 52 yX4_panes, Cond.instanceMethod yX4_panes, Cond.selects RX4 yX4_panes yX4_panes, Cond.code yX4_panes cX4_panes 2 (some .int), Cond.fieldLink RX4 22 "GlassRopes$Windows" "width" "[I", Cond.fieldLink RX4 25 "GlassRopes$Windows" "height" "[I", Cond.methodLink RX4 31 yX4_added, Cond.instanceMethod yX4_added, Cond.selects RX4 yX4_added yX4_added, Cond.code yX4_added cX4_added 6 (some .int), Cond.fieldLink RX4 15 "GlassRopes$Windows" "x" "[I", Cond.fieldLink RX4 19 "GlassRopes$Windows" "y" "[I", Cond.methodLink RX4 41 yX2_at]
def wsX5_number_r3 : List Cond := [Cond.instanceMethod yX2_at, Cond.selects RX2 yX2_at yX2_at, Cond.code yX2_at cX2_at 3 (some .int)]
def wsX5_number : List Cond := .code yX5_number cX5_number 2 (some .int) :: ((wsX5_number_r1 ++ (wsX5_number_r2 ++ wsX5_number_r3)) ++ wsX50 ++ wsX00 ++ wsX40 ++ wsX30 ++ wsX10 ++ wsX20)
def wsX5_count_r1 : List Cond := [Cond.classLink RX5 40 "java/lang/IndexOutOfBoundsException", Cond.initialized "java/lang/IndexOutOfBoundsException", Cond.methodLink RX5 156 yX5_number, Cond.instanceMethod yX5_number, Cond.selects RX5 yX5_number yX5_number, Cond.initialized RX5, Cond.code yX5_number cX5_number 2 (some .int), Cond.fieldLink RX5 26 "GlassRopes" "now" "LGlassRopes$Course;", Cond.fieldLink RX5 12 "GlassRopes" "windows" "LGlassRopes$Windows;", Cond.fieldLink RX5 19 "GlassRopes" "feasts" "LGlassRopes$Feasts;", Cond.methodLink RX5 172 yX2_total, Cond.instanceMethod yX2_total, Cond.selects RX2 yX2_total yX2_total, Cond.initialized RX2, Cond.code yX2_total cX2_total 3 (some .int), Cond.fieldLink RX2 9 "GlassRopes$Glass" "soot" "[I", Cond.methodLink RX5 199 yX2_cleanPanes, Cond.instanceMethod yX2_cleanPanes, Cond.selects RX2 yX2_cleanPanes yX2_cleanPanes, Cond.code yX2_cleanPanes cX2_cleanPanes 3 (some .int), Cond.methodLink RX5 176 yX3_allCleaned, Cond.instanceMethod yX3_allCleaned, Cond.selects RX3 yX3_allCleaned yX3_allCleaned, Cond.initialized RX3]
def wsX5_count_r2 : List Cond := [Cond.code yX3_allCleaned cX3_allCleaned 3 (some .int), Cond.fieldLink RX3 9 "GlassRopes$Ropes" "size" "I", Cond.fieldLink RX3 29 "GlassRopes$Ropes" "cleaned" "[I", Cond.methodLink RX5 205 yX4_allBring, Cond.instanceMethod yX4_allBring, Cond.selects RX4 yX4_allBring yX4_allBring, Cond.initialized RX4, Cond.code yX4_allBring cX4_allBring 4 (some .int), Cond.fieldLink RX4 9 "GlassRopes$Windows" "size" "I", Cond.methodLink RX4 38 yX4_brings, Cond.instanceMethod yX4_brings, Cond.selects RX4 yX4_brings yX4_brings, Cond.code yX4_brings cX4_brings 3 (some .int), Cond.fieldLink RX4 28 "GlassRopes$Windows" "worth" "[I", Cond.methodLink RX4 47 Lib.Math.max.name, Cond.static Lib.Math.max.name, Cond.initialized "java/lang/Math", Cond.code Lib.Math.max.name Lib.Math.max.code 2 (some .int), Cond.methodLink RX4 52 yX4_panes, Cond.instanceMethod yX4_panes, Cond.selects RX4 yX4_panes yX4_panes, Cond.code yX4_panes cX4_panes 2 (some .int), Cond.fieldLink RX4 22 "GlassRopes$Windows" "width" "[I", Cond.fieldLink RX4 25 "GlassRopes$Windows" "height" "[I"]
def wsX5_count_r3 : List Cond := [Cond.methodLink RX4 31 yX4_added, Cond.instanceMethod yX4_added, Cond.selects RX4 yX4_added yX4_added, Cond.code yX4_added cX4_added 6 (some .int), Cond.fieldLink RX4 15 "GlassRopes$Windows" "x" "[I", Cond.fieldLink RX4 19 "GlassRopes$Windows" "y" "[I", Cond.methodLink RX4 41 yX2_at, Cond.instanceMethod yX2_at, Cond.selects RX2 yX2_at yX2_at, Cond.code yX2_at cX2_at 3 (some .int)]
def wsX5_count : List Cond := .code yX5_count cX5_count 2 (some .int) :: ((wsX5_count_r1 ++ (wsX5_count_r2 ++ wsX5_count_r3)) ++ wsX50 ++ wsX00 ++ wsX40 ++ wsX30 ++ wsX10 ++ wsX20 ++ (vx_atS RX5 44 "java/lang/IndexOutOfBoundsException" ["java/lang/RuntimeException", "java/lang/Exception"]).filter goodWord)
def wsX5_isFeast : List Cond := .code yX5_isFeast cX5_isFeast 2 (some .boolean) :: ([.classLink RX5 33 "java/lang/IllegalArgumentException", .initialized "java/lang/IllegalArgumentException", .fieldLink RX5 19 "GlassRopes" "feasts" "LGlassRopes$Feasts;", .fieldLink RX5 26 "GlassRopes" "now" "LGlassRopes$Course;", .methodLink RX5 162 yX1_areOn, .instanceMethod yX1_areOn, .selects RX1 yX1_areOn yX1_areOn, .initialized RX1, .code yX1_areOn cX1_areOn 4 (some .boolean), .fieldLink RX1 9 "GlassRopes$Feasts" "size" "I", .fieldLink RX1 15 "GlassRopes$Feasts" "every" "[I", .fieldLink RX1 19 "GlassRopes$Feasts" "on" "[I"] ++ wsX50 ++ wsX00 ++ wsX10 ++ (vx_atS RX5 37 "java/lang/IllegalArgumentException" ["java/lang/RuntimeException", "java/lang/Exception"]).filter goodWord)
def wsX5_next : List Cond := .code yX5_next cX5_next 1 (some .int) :: ([.fieldLink RX5 19 "GlassRopes" "feasts" "LGlassRopes$Feasts;", .fieldLink RX5 26 "GlassRopes" "now" "LGlassRopes$Course;", .methodLink RX5 165 yX1_daysUntil, .instanceMethod yX1_daysUntil, .selects RX1 yX1_daysUntil yX1_daysUntil, .initialized RX1, .code yX1_daysUntil cX1_daysUntil 3 (some .int), .methodLink RX1 22 yX1_areOn, .instanceMethod yX1_areOn, .selects RX1 yX1_areOn yX1_areOn, .code yX1_areOn cX1_areOn 4 (some .boolean), .fieldLink RX1 9 "GlassRopes$Feasts" "size" "I", .fieldLink RX1 15 "GlassRopes$Feasts" "every" "[I", .fieldLink RX1 19 "GlassRopes$Feasts" "on" "[I"] ++ wsX50 ++ wsX00 ++ wsX10)
def wsX5_would_r1 : List Cond := [Cond.classLink RX5 33 "java/lang/IllegalArgumentException", Cond.initialized "java/lang/IllegalArgumentException", Cond.classLink RX5 40 "java/lang/IndexOutOfBoundsException", Cond.initialized "java/lang/IndexOutOfBoundsException", Cond.fieldLink RX5 30 "GlassRopes" "ahead" "LGlassRopes$Course;", Cond.fieldLink RX5 26 "GlassRopes" "now" "LGlassRopes$Course;", Cond.fieldLink RX5 12 "GlassRopes" "windows" "LGlassRopes$Windows;", Cond.fieldLink RX5 19 "GlassRopes" "feasts" "LGlassRopes$Feasts;", Cond.methodLink RX5 168 yX0_copyFrom, Cond.instanceMethod yX0_copyFrom, Cond.selects RX0 yX0_copyFrom yX0_copyFrom, Cond.initialized RX0, Cond.code yX0_copyFrom cX0_copyFrom 2 none, Cond.fieldLink RX0 10 "GlassRopes$Course" "glass" "LGlassRopes$Glass;", Cond.fieldLink RX0 19 "GlassRopes$Course" "ropes" "LGlassRopes$Ropes;", Cond.fieldLink RX0 23 "GlassRopes$Course" "wind" "I", Cond.fieldLink RX0 27 "GlassRopes$Course" "day" "I", Cond.fieldLink RX0 30 "GlassRopes$Course" "coins" "I", Cond.fieldLink RX0 33 "GlassRopes$Course" "feastDays" "I", Cond.methodLink RX0 36 yX2_copyFrom, Cond.instanceMethod yX2_copyFrom, Cond.selects RX2 yX2_copyFrom yX2_copyFrom, Cond.initialized RX2, Cond.code yX2_copyFrom cX2_copyFrom 2 none]
def wsX5_would_r2 : List Cond := [Cond.fieldLink RX2 9 "GlassRopes$Glass" "soot" "[I", Cond.methodLink RX2 15 arraycopyName, Cond.native arraycopyName, Cond.static arraycopyName, Cond.initialized "java/lang/System", Cond.methodLink RX0 40 yX3_copyFrom, Cond.instanceMethod yX3_copyFrom, Cond.selects RX3 yX3_copyFrom yX3_copyFrom, Cond.initialized RX3, Cond.code yX3_copyFrom cX3_copyFrom 3 none, Cond.fieldLink RX3 9 "GlassRopes$Ropes" "size" "I", Cond.fieldLink RX3 15 "GlassRopes$Ropes" "column" "[I", Cond.fieldLink RX3 19 "GlassRopes$Ropes" "row" "[I", Cond.fieldLink RX3 22 "GlassRopes$Ropes" "strength" "[I", Cond.fieldLink RX3 25 "GlassRopes$Ropes" "toRight" "[Z", Cond.fieldLink RX3 29 "GlassRopes$Ropes" "cleaned" "[I", Cond.fieldLink RX3 32 "GlassRopes$Ropes" "moved" "[I", Cond.methodLink RX5 133 yX0_goOn, Cond.instanceMethod yX0_goOn, Cond.selects RX0 yX0_goOn yX0_goOn, Cond.code yX0_goOn cX0_goOn 5 none, Cond.methodLink RX0 43 yX0_goOneDay, Cond.instanceMethod yX0_goOneDay, Cond.selects RX0 yX0_goOneDay yX0_goOneDay]
def wsX5_would_r3 : List Cond := [Cond.code yX0_goOneDay cX0_goOneDay 3 none, Cond.methodLink RX0 47 yX2_gather, Cond.instanceMethod yX2_gather, Cond.selects RX2 yX2_gather yX2_gather, Cond.code yX2_gather cX2_gather 6 none, Cond.methodLink RX2 25 Lib.Math.min.name, Cond.static Lib.Math.min.name, Cond.initialized "java/lang/Math", Cond.code Lib.Math.min.name Lib.Math.min.code 2 (some .int), Cond.methodLink RX2 21 yX2_broughtTo, Cond.static yX2_broughtTo, Cond.code yX2_broughtTo cX2_broughtTo 3 (some .int), Cond.methodLink RX2 30 Lib.Math.max.name, Cond.static Lib.Math.max.name, Cond.code Lib.Math.max.name Lib.Math.max.code 2 (some .int), Cond.methodLink RX0 51 yX1_areOn, Cond.instanceMethod yX1_areOn, Cond.selects RX1 yX1_areOn yX1_areOn, Cond.initialized RX1, Cond.code yX1_areOn cX1_areOn 4 (some .boolean), Cond.fieldLink RX1 9 "GlassRopes$Feasts" "size" "I", Cond.fieldLink RX1 15 "GlassRopes$Feasts" "every" "[I", Cond.fieldLink RX1 19 "GlassRopes$Feasts" "on" "[I", Cond.methodLink RX0 57 yX4_allBring]
def wsX5_would_r4 : List Cond := [Cond.instanceMethod yX4_allBring, Cond.selects RX4 yX4_allBring yX4_allBring, Cond.initialized RX4, Cond.code yX4_allBring cX4_allBring 4 (some .int), Cond.fieldLink RX4 9 "GlassRopes$Windows" "size" "I", Cond.methodLink RX4 38 yX4_brings, Cond.instanceMethod yX4_brings, Cond.selects RX4 yX4_brings yX4_brings, Cond.code yX4_brings cX4_brings 3 (some .int), Cond.fieldLink RX4 28 "GlassRopes$Windows" "worth" "[I", Cond.methodLink RX4 47 Lib.Math.max.name, Cond.methodLink RX4 52 yX4_panes, Cond.instanceMethod yX4_panes, Cond.selects RX4 yX4_panes yX4_panes, Cond.code yX4_panes cX4_panes 2 (some .int), Cond.fieldLink RX4 22 "GlassRopes$Windows" "width" "[I", Cond.fieldLink RX4 25 "GlassRopes$Windows" "height" "[I", Cond.methodLink RX4 31 yX4_added, Cond.instanceMethod yX4_added, Cond.selects RX4 yX4_added yX4_added, Cond.code yX4_added cX4_added 6 (some .int), Cond.fieldLink RX4 15 "GlassRopes$Windows" "x" "[I", Cond.fieldLink RX4 19 "GlassRopes$Windows" "y" "[I", Cond.methodLink RX4 41 yX2_at]
def wsX5_would_r5 : List Cond := [Cond.instanceMethod yX2_at, Cond.selects RX2 yX2_at yX2_at, Cond.code yX2_at cX2_at 3 (some .int), Cond.methodLink RX0 63 yX3_work, Cond.instanceMethod yX3_work, Cond.selects RX3 yX3_work yX3_work, Cond.code yX3_work cX3_work 3 none, Cond.methodLink RX3 35 yX3_workOnOne, Cond.instanceMethod yX3_workOnOne, Cond.selects RX3 yX3_workOnOne yX3_workOnOne, Cond.code yX3_workOnOne cX3_workOnOne 6 none, Cond.methodLink RX3 39 yX2_takeOff, Cond.instanceMethod yX2_takeOff, Cond.selects RX2 yX2_takeOff yX2_takeOff, Cond.code yX2_takeOff cX2_takeOff 6 (some .int), Cond.methodLink RX3 45 yX3_nextFreeColumn, Cond.instanceMethod yX3_nextFreeColumn, Cond.selects RX3 yX3_nextFreeColumn yX3_nextFreeColumn, Cond.code yX3_nextFreeColumn cX3_nextFreeColumn 5 (some .int), Cond.methodLink RX3 53 yX3_hangAt, Cond.instanceMethod yX3_hangAt, Cond.selects RX3 yX3_hangAt yX3_hangAt, Cond.code yX3_hangAt cX3_hangAt 3 (some .boolean), Cond.methodLink RX3 49 yX3_rehang]
def wsX5_would_r6 : List Cond := [Cond.instanceMethod yX3_rehang, Cond.selects RX3 yX3_rehang yX3_rehang, Cond.code yX3_rehang cX3_rehang 3 none, Cond.methodLink RX5 172 yX2_total, Cond.instanceMethod yX2_total, Cond.selects RX2 yX2_total yX2_total, Cond.code yX2_total cX2_total 3 (some .int), Cond.methodLink RX5 176 yX3_allCleaned, Cond.instanceMethod yX3_allCleaned, Cond.selects RX3 yX3_allCleaned yX3_allCleaned, Cond.code yX3_allCleaned cX3_allCleaned 3 (some .int)]
def wsX5_would : List Cond := .code yX5_would cX5_would 3 (some .int) :: ((wsX5_would_r1 ++ (wsX5_would_r2 ++ (wsX5_would_r3 ++ (wsX5_would_r4 ++ (wsX5_would_r5 ++ wsX5_would_r6))))) ++ wsX50 ++ wsX00 ++ wsX20 ++ wsX30 ++ wsX10 ++ wsX40 ++ (vx_atS RX5 37 "java/lang/IllegalArgumentException" ["java/lang/RuntimeException", "java/lang/Exception"]).filter goodWord ++ (vx_atS RX5 44 "java/lang/IndexOutOfBoundsException" ["java/lang/RuntimeException", "java/lang/Exception"]).filter goodWord)
def wsX5_until_r1 : List Cond := [Cond.classLink RX5 40 "java/lang/IndexOutOfBoundsException", Cond.initialized "java/lang/IndexOutOfBoundsException", Cond.fieldLink RX5 30 "GlassRopes" "ahead" "LGlassRopes$Course;", Cond.fieldLink RX5 26 "GlassRopes" "now" "LGlassRopes$Course;", Cond.fieldLink RX5 12 "GlassRopes" "windows" "LGlassRopes$Windows;", Cond.fieldLink RX5 19 "GlassRopes" "feasts" "LGlassRopes$Feasts;", Cond.methodLink RX5 115 yX5_isWindow, Cond.instanceMethod yX5_isWindow, Cond.selects RX5 yX5_isWindow yX5_isWindow, Cond.initialized RX5, Cond.code yX5_isWindow cX5_isWindow 2 (some .boolean), Cond.methodLink RX5 168 yX0_copyFrom, Cond.instanceMethod yX0_copyFrom, Cond.selects RX0 yX0_copyFrom yX0_copyFrom, Cond.initialized RX0, Cond.code yX0_copyFrom cX0_copyFrom 2 none, Cond.fieldLink RX0 10 "GlassRopes$Course" "glass" "LGlassRopes$Glass;", Cond.fieldLink RX0 19 "GlassRopes$Course" "ropes" "LGlassRopes$Ropes;", Cond.fieldLink RX0 23 "GlassRopes$Course" "wind" "I", Cond.fieldLink RX0 27 "GlassRopes$Course" "day" "I", Cond.fieldLink RX0 30 "GlassRopes$Course" "coins" "I", Cond.fieldLink RX0 33 "GlassRopes$Course" "feastDays" "I", Cond.methodLink RX0 36 yX2_copyFrom, Cond.instanceMethod yX2_copyFrom]
def wsX5_until_r2 : List Cond := [Cond.selects RX2 yX2_copyFrom yX2_copyFrom, Cond.initialized RX2, Cond.code yX2_copyFrom cX2_copyFrom 2 none, Cond.fieldLink RX2 9 "GlassRopes$Glass" "soot" "[I", Cond.methodLink RX2 15 arraycopyName, Cond.native arraycopyName, Cond.static arraycopyName, Cond.initialized "java/lang/System", Cond.methodLink RX0 40 yX3_copyFrom, Cond.instanceMethod yX3_copyFrom, Cond.selects RX3 yX3_copyFrom yX3_copyFrom, Cond.initialized RX3, Cond.code yX3_copyFrom cX3_copyFrom 3 none, Cond.fieldLink RX3 9 "GlassRopes$Ropes" "size" "I", Cond.fieldLink RX3 15 "GlassRopes$Ropes" "column" "[I", Cond.fieldLink RX3 19 "GlassRopes$Ropes" "row" "[I", Cond.fieldLink RX3 22 "GlassRopes$Ropes" "strength" "[I", Cond.fieldLink RX3 25 "GlassRopes$Ropes" "toRight" "[Z", Cond.fieldLink RX3 29 "GlassRopes$Ropes" "cleaned" "[I", Cond.fieldLink RX3 32 "GlassRopes$Ropes" "moved" "[I", Cond.methodLink RX5 179 yX4_isClean, Cond.instanceMethod yX4_isClean, Cond.selects RX4 yX4_isClean yX4_isClean, Cond.initialized RX4]
def wsX5_until_r3 : List Cond := [Cond.code yX4_isClean cX4_isClean 3 (some .boolean), Cond.methodLink RX4 31 yX4_added, Cond.instanceMethod yX4_added, Cond.selects RX4 yX4_added yX4_added, Cond.code yX4_added cX4_added 6 (some .int), Cond.fieldLink RX4 15 "GlassRopes$Windows" "x" "[I", Cond.fieldLink RX4 22 "GlassRopes$Windows" "width" "[I", Cond.fieldLink RX4 19 "GlassRopes$Windows" "y" "[I", Cond.fieldLink RX4 25 "GlassRopes$Windows" "height" "[I", Cond.methodLink RX4 41 yX2_at, Cond.instanceMethod yX2_at, Cond.selects RX2 yX2_at yX2_at, Cond.code yX2_at cX2_at 3 (some .int), Cond.methodLink RX4 52 yX4_panes, Cond.instanceMethod yX4_panes, Cond.selects RX4 yX4_panes yX4_panes, Cond.code yX4_panes cX4_panes 2 (some .int), Cond.methodLink RX5 183 yX0_goOneDay, Cond.instanceMethod yX0_goOneDay, Cond.selects RX0 yX0_goOneDay yX0_goOneDay, Cond.code yX0_goOneDay cX0_goOneDay 3 none, Cond.methodLink RX0 47 yX2_gather, Cond.instanceMethod yX2_gather, Cond.selects RX2 yX2_gather yX2_gather]
def wsX5_until_r4 : List Cond := [Cond.code yX2_gather cX2_gather 6 none, Cond.methodLink RX2 25 Lib.Math.min.name, Cond.static Lib.Math.min.name, Cond.initialized "java/lang/Math", Cond.code Lib.Math.min.name Lib.Math.min.code 2 (some .int), Cond.methodLink RX2 21 yX2_broughtTo, Cond.static yX2_broughtTo, Cond.code yX2_broughtTo cX2_broughtTo 3 (some .int), Cond.methodLink RX2 30 Lib.Math.max.name, Cond.static Lib.Math.max.name, Cond.code Lib.Math.max.name Lib.Math.max.code 2 (some .int), Cond.methodLink RX0 51 yX1_areOn, Cond.instanceMethod yX1_areOn, Cond.selects RX1 yX1_areOn yX1_areOn, Cond.initialized RX1, Cond.code yX1_areOn cX1_areOn 4 (some .boolean), Cond.fieldLink RX1 9 "GlassRopes$Feasts" "size" "I", Cond.fieldLink RX1 15 "GlassRopes$Feasts" "every" "[I", Cond.fieldLink RX1 19 "GlassRopes$Feasts" "on" "[I", Cond.methodLink RX0 57 yX4_allBring, Cond.instanceMethod yX4_allBring, Cond.selects RX4 yX4_allBring yX4_allBring, Cond.code yX4_allBring cX4_allBring 4 (some .int), Cond.fieldLink RX4 9 "GlassRopes$Windows" "size" "I"]
def wsX5_until_r5 : List Cond := [Cond.methodLink RX4 38 yX4_brings, Cond.instanceMethod yX4_brings, Cond.selects RX4 yX4_brings yX4_brings, Cond.code yX4_brings cX4_brings 3 (some .int), Cond.fieldLink RX4 28 "GlassRopes$Windows" "worth" "[I", Cond.methodLink RX4 47 Lib.Math.max.name, Cond.methodLink RX0 63 yX3_work, Cond.instanceMethod yX3_work, Cond.selects RX3 yX3_work yX3_work, Cond.code yX3_work cX3_work 3 none, Cond.methodLink RX3 35 yX3_workOnOne, Cond.instanceMethod yX3_workOnOne, Cond.selects RX3 yX3_workOnOne yX3_workOnOne, Cond.code yX3_workOnOne cX3_workOnOne 6 none, Cond.methodLink RX3 39 yX2_takeOff, Cond.instanceMethod yX2_takeOff, Cond.selects RX2 yX2_takeOff yX2_takeOff, Cond.code yX2_takeOff cX2_takeOff 6 (some .int), Cond.methodLink RX3 45 yX3_nextFreeColumn, Cond.instanceMethod yX3_nextFreeColumn, Cond.selects RX3 yX3_nextFreeColumn yX3_nextFreeColumn, Cond.code yX3_nextFreeColumn cX3_nextFreeColumn 5 (some .int), Cond.methodLink RX3 53 yX3_hangAt, Cond.instanceMethod yX3_hangAt]
def wsX5_until_r6 : List Cond := [Cond.selects RX3 yX3_hangAt yX3_hangAt, Cond.code yX3_hangAt cX3_hangAt 3 (some .boolean), Cond.methodLink RX3 49 yX3_rehang, Cond.instanceMethod yX3_rehang, Cond.selects RX3 yX3_rehang yX3_rehang, Cond.code yX3_rehang cX3_rehang 3 none]
def wsX5_until : List Cond := .code yX5_until cX5_until 3 (some .int) :: ((wsX5_until_r1 ++ (wsX5_until_r2 ++ (wsX5_until_r3 ++ (wsX5_until_r4 ++ (wsX5_until_r5 ++ wsX5_until_r6))))) ++ wsX50 ++ wsX00 ++ wsX40 ++ wsX20 ++ wsX30 ++ wsX10 ++ (vx_atS RX5 44 "java/lang/IndexOutOfBoundsException" ["java/lang/RuntimeException", "java/lang/Exception"]).filter goodWord)
def wsX5_coinsBehind_r1 : List Cond := [Cond.fieldLink RX5 30 "GlassRopes" "ahead" "LGlassRopes$Course;", Cond.fieldLink RX5 26 "GlassRopes" "now" "LGlassRopes$Course;", Cond.fieldLink RX5 12 "GlassRopes" "windows" "LGlassRopes$Windows;", Cond.fieldLink RX5 19 "GlassRopes" "feasts" "LGlassRopes$Feasts;", Cond.methodLink RX5 168 yX0_copyFrom, Cond.instanceMethod yX0_copyFrom, Cond.selects RX0 yX0_copyFrom yX0_copyFrom, Cond.initialized RX0, Cond.code yX0_copyFrom cX0_copyFrom 2 none, Cond.fieldLink RX0 10 "GlassRopes$Course" "glass" "LGlassRopes$Glass;", Cond.fieldLink RX0 19 "GlassRopes$Course" "ropes" "LGlassRopes$Ropes;", Cond.fieldLink RX0 23 "GlassRopes$Course" "wind" "I", Cond.fieldLink RX0 27 "GlassRopes$Course" "day" "I", Cond.fieldLink RX0 30 "GlassRopes$Course" "coins" "I", Cond.fieldLink RX0 33 "GlassRopes$Course" "feastDays" "I", Cond.methodLink RX0 36 yX2_copyFrom, Cond.instanceMethod yX2_copyFrom, Cond.selects RX2 yX2_copyFrom yX2_copyFrom, Cond.initialized RX2, Cond.code yX2_copyFrom cX2_copyFrom 2 none, Cond.fieldLink RX2 9 "GlassRopes$Glass" "soot" "[I", Cond.methodLink RX2 15 arraycopyName, Cond.native arraycopyName, Cond.static arraycopyName]
def wsX5_coinsBehind_r2 : List Cond := [Cond.initialized "java/lang/System", Cond.methodLink RX0 40 yX3_copyFrom, Cond.instanceMethod yX3_copyFrom, Cond.selects RX3 yX3_copyFrom yX3_copyFrom, Cond.initialized RX3, Cond.code yX3_copyFrom cX3_copyFrom 3 none, Cond.fieldLink RX3 9 "GlassRopes$Ropes" "size" "I", Cond.fieldLink RX3 15 "GlassRopes$Ropes" "column" "[I", Cond.fieldLink RX3 19 "GlassRopes$Ropes" "row" "[I", Cond.fieldLink RX3 22 "GlassRopes$Ropes" "strength" "[I", Cond.fieldLink RX3 25 "GlassRopes$Ropes" "toRight" "[Z", Cond.fieldLink RX3 29 "GlassRopes$Ropes" "cleaned" "[I", Cond.fieldLink RX3 32 "GlassRopes$Ropes" "moved" "[I", Cond.methodLink RX5 105 yX3_rehang, Cond.instanceMethod yX3_rehang, Cond.selects RX3 yX3_rehang yX3_rehang, Cond.code yX3_rehang cX3_rehang 3 none, Cond.methodLink RX5 183 yX0_goOneDay, Cond.instanceMethod yX0_goOneDay, Cond.selects RX0 yX0_goOneDay yX0_goOneDay, Cond.code yX0_goOneDay cX0_goOneDay 3 none, Cond.methodLink RX0 47 yX2_gather, Cond.instanceMethod yX2_gather, Cond.selects RX2 yX2_gather yX2_gather]
def wsX5_coinsBehind_r3 : List Cond := [Cond.code yX2_gather cX2_gather 6 none, Cond.methodLink RX2 25 Lib.Math.min.name, Cond.static Lib.Math.min.name, Cond.initialized "java/lang/Math", Cond.code Lib.Math.min.name Lib.Math.min.code 2 (some .int), Cond.methodLink RX2 21 yX2_broughtTo, Cond.static yX2_broughtTo, Cond.code yX2_broughtTo cX2_broughtTo 3 (some .int), Cond.methodLink RX2 30 Lib.Math.max.name, Cond.static Lib.Math.max.name, Cond.code Lib.Math.max.name Lib.Math.max.code 2 (some .int), Cond.methodLink RX0 51 yX1_areOn, Cond.instanceMethod yX1_areOn, Cond.selects RX1 yX1_areOn yX1_areOn, Cond.initialized RX1, Cond.code yX1_areOn cX1_areOn 4 (some .boolean), Cond.fieldLink RX1 9 "GlassRopes$Feasts" "size" "I", Cond.fieldLink RX1 15 "GlassRopes$Feasts" "every" "[I", Cond.fieldLink RX1 19 "GlassRopes$Feasts" "on" "[I", Cond.methodLink RX0 57 yX4_allBring, Cond.instanceMethod yX4_allBring, Cond.selects RX4 yX4_allBring yX4_allBring, Cond.initialized RX4, Cond.code yX4_allBring cX4_allBring 4 (some .int)]
def wsX5_coinsBehind_r4 : List Cond := [Cond.fieldLink RX4 9 "GlassRopes$Windows" "size" "I", Cond.methodLink RX4 38 yX4_brings, Cond.instanceMethod yX4_brings, Cond.selects RX4 yX4_brings yX4_brings, Cond.code yX4_brings cX4_brings 3 (some .int), Cond.fieldLink RX4 28 "GlassRopes$Windows" "worth" "[I", Cond.methodLink RX4 47 Lib.Math.max.name, Cond.methodLink RX4 52 yX4_panes, Cond.instanceMethod yX4_panes, Cond.selects RX4 yX4_panes yX4_panes, Cond.code yX4_panes cX4_panes 2 (some .int), Cond.fieldLink RX4 22 "GlassRopes$Windows" "width" "[I", Cond.fieldLink RX4 25 "GlassRopes$Windows" "height" "[I", Cond.methodLink RX4 31 yX4_added, Cond.instanceMethod yX4_added, Cond.selects RX4 yX4_added yX4_added, Cond.code yX4_added cX4_added 6 (some .int), Cond.fieldLink RX4 15 "GlassRopes$Windows" "x" "[I", Cond.fieldLink RX4 19 "GlassRopes$Windows" "y" "[I", Cond.methodLink RX4 41 yX2_at, Cond.instanceMethod yX2_at, Cond.selects RX2 yX2_at yX2_at, Cond.code yX2_at cX2_at 3 (some .int), Cond.methodLink RX0 63 yX3_work]
def wsX5_coinsBehind_r5 : List Cond := [Cond.instanceMethod yX3_work, Cond.selects RX3 yX3_work yX3_work, Cond.code yX3_work cX3_work 3 none, Cond.methodLink RX3 35 yX3_workOnOne, Cond.instanceMethod yX3_workOnOne, Cond.selects RX3 yX3_workOnOne yX3_workOnOne, Cond.code yX3_workOnOne cX3_workOnOne 6 none, Cond.methodLink RX3 39 yX2_takeOff, Cond.instanceMethod yX2_takeOff, Cond.selects RX2 yX2_takeOff yX2_takeOff, Cond.code yX2_takeOff cX2_takeOff 6 (some .int), Cond.methodLink RX3 45 yX3_nextFreeColumn, Cond.instanceMethod yX3_nextFreeColumn, Cond.selects RX3 yX3_nextFreeColumn yX3_nextFreeColumn, Cond.code yX3_nextFreeColumn cX3_nextFreeColumn 5 (some .int), Cond.methodLink RX3 53 yX3_hangAt, Cond.instanceMethod yX3_hangAt, Cond.selects RX3 yX3_hangAt yX3_hangAt, Cond.code yX3_hangAt cX3_hangAt 3 (some .boolean), Cond.methodLink RX3 49 yX3_rehang]
def wsX5_coinsBehind : List Cond := .code yX5_coinsBehind cX5_coinsBehind 5 (some .int) :: ((wsX5_coinsBehind_r1 ++ (wsX5_coinsBehind_r2 ++ (wsX5_coinsBehind_r3 ++ (wsX5_coinsBehind_r4 ++ wsX5_coinsBehind_r5)))) ++ wsX50 ++ wsX00 ++ wsX30 ++ wsX20 ++ wsX10 ++ wsX40)
def wsX5_advise_r1 : List Cond := [Cond.classLink RX5 40 "java/lang/IndexOutOfBoundsException", Cond.initialized "java/lang/IndexOutOfBoundsException", Cond.classLink RX5 49 "java/lang/IllegalStateException", Cond.initialized "java/lang/IllegalStateException", Cond.fieldLink RX5 19 "GlassRopes" "feasts" "LGlassRopes$Feasts;", Cond.fieldLink RX5 26 "GlassRopes" "now" "LGlassRopes$Course;", Cond.methodLink RX5 94 yX5_isRope, Cond.instanceMethod yX5_isRope, Cond.selects RX5 yX5_isRope yX5_isRope, Cond.initialized RX5, Cond.code yX5_isRope cX5_isRope 2 (some .boolean), Cond.methodLink RX5 165 yX1_daysUntil, Cond.instanceMethod yX1_daysUntil, Cond.selects RX1 yX1_daysUntil yX1_daysUntil, Cond.initialized RX1, Cond.code yX1_daysUntil cX1_daysUntil 3 (some .int), Cond.methodLink RX1 22 yX1_areOn, Cond.instanceMethod yX1_areOn, Cond.selects RX1 yX1_areOn yX1_areOn, Cond.code yX1_areOn cX1_areOn 4 (some .boolean), Cond.fieldLink RX1 9 "GlassRopes$Feasts" "size" "I", Cond.fieldLink RX1 15 "GlassRopes$Feasts" "every" "[I", Cond.fieldLink RX1 19 "GlassRopes$Feasts" "on" "[I", Cond.methodLink RX5 189 yX5_coinsBehind]
def wsX5_advise_r2 : List Cond := [Cond.instanceMethod yX5_coinsBehind, Cond.selects RX5 yX5_coinsBehind yX5_coinsBehind, Cond.code yX5_coinsBehind cX5_coinsBehind 5 (some .int), Cond.fieldLink RX5 30 "GlassRopes" "ahead" "LGlassRopes$Course;", Cond.fieldLink RX5 12 "GlassRopes" "windows" "LGlassRopes$Windows;", Cond.methodLink RX5 168 yX0_copyFrom, Cond.instanceMethod yX0_copyFrom, Cond.selects RX0 yX0_copyFrom yX0_copyFrom, Cond.initialized RX0, Cond.code yX0_copyFrom cX0_copyFrom 2 none, Cond.fieldLink RX0 10 "GlassRopes$Course" "glass" "LGlassRopes$Glass;", Cond.fieldLink RX0 19 "GlassRopes$Course" "ropes" "LGlassRopes$Ropes;", Cond.fieldLink RX0 23 "GlassRopes$Course" "wind" "I", Cond.fieldLink RX0 27 "GlassRopes$Course" "day" "I", Cond.fieldLink RX0 30 "GlassRopes$Course" "coins" "I", Cond.fieldLink RX0 33 "GlassRopes$Course" "feastDays" "I", Cond.methodLink RX0 36 yX2_copyFrom, Cond.instanceMethod yX2_copyFrom, Cond.selects RX2 yX2_copyFrom yX2_copyFrom, Cond.initialized RX2, Cond.code yX2_copyFrom cX2_copyFrom 2 none, Cond.fieldLink RX2 9 "GlassRopes$Glass" "soot" "[I", Cond.methodLink RX2 15 arraycopyName, Cond.native arraycopyName]
def wsX5_advise_r3 : List Cond := [Cond.static arraycopyName, Cond.initialized "java/lang/System", Cond.methodLink RX0 40 yX3_copyFrom, Cond.instanceMethod yX3_copyFrom, Cond.selects RX3 yX3_copyFrom yX3_copyFrom, Cond.initialized RX3, Cond.code yX3_copyFrom cX3_copyFrom 3 none, Cond.fieldLink RX3 9 "GlassRopes$Ropes" "size" "I", Cond.fieldLink RX3 15 "GlassRopes$Ropes" "column" "[I", Cond.fieldLink RX3 19 "GlassRopes$Ropes" "row" "[I", Cond.fieldLink RX3 22 "GlassRopes$Ropes" "strength" "[I", Cond.fieldLink RX3 25 "GlassRopes$Ropes" "toRight" "[Z", Cond.fieldLink RX3 29 "GlassRopes$Ropes" "cleaned" "[I", Cond.fieldLink RX3 32 "GlassRopes$Ropes" "moved" "[I", Cond.methodLink RX5 105 yX3_rehang, Cond.instanceMethod yX3_rehang, Cond.selects RX3 yX3_rehang yX3_rehang, Cond.code yX3_rehang cX3_rehang 3 none, Cond.methodLink RX5 183 yX0_goOneDay, Cond.instanceMethod yX0_goOneDay, Cond.selects RX0 yX0_goOneDay yX0_goOneDay, Cond.code yX0_goOneDay cX0_goOneDay 3 none, Cond.methodLink RX0 47 yX2_gather, Cond.instanceMethod yX2_gather]
def wsX5_advise_r4 : List Cond := [Cond.selects RX2 yX2_gather yX2_gather, Cond.code yX2_gather cX2_gather 6 none, Cond.methodLink RX2 25 Lib.Math.min.name, Cond.static Lib.Math.min.name, Cond.initialized "java/lang/Math", Cond.code Lib.Math.min.name Lib.Math.min.code 2 (some .int), Cond.methodLink RX2 21 yX2_broughtTo, Cond.static yX2_broughtTo, Cond.code yX2_broughtTo cX2_broughtTo 3 (some .int), Cond.methodLink RX2 30 Lib.Math.max.name, Cond.static Lib.Math.max.name, Cond.code Lib.Math.max.name Lib.Math.max.code 2 (some .int), Cond.methodLink RX0 51 yX1_areOn, Cond.methodLink RX0 57 yX4_allBring, Cond.instanceMethod yX4_allBring, Cond.selects RX4 yX4_allBring yX4_allBring, Cond.initialized RX4, Cond.code yX4_allBring cX4_allBring 4 (some .int), Cond.fieldLink RX4 9 "GlassRopes$Windows" "size" "I", Cond.methodLink RX4 38 yX4_brings, Cond.instanceMethod yX4_brings, Cond.selects RX4 yX4_brings yX4_brings, Cond.code yX4_brings cX4_brings 3 (some .int), Cond.fieldLink RX4 28 "GlassRopes$Windows" "worth" "[I"]
def wsX5_advise_r5 : List Cond := [Cond.methodLink RX4 47 Lib.Math.max.name, Cond.methodLink RX4 52 yX4_panes, Cond.instanceMethod yX4_panes, Cond.selects RX4 yX4_panes yX4_panes, Cond.code yX4_panes cX4_panes 2 (some .int), Cond.fieldLink RX4 22 "GlassRopes$Windows" "width" "[I", Cond.fieldLink RX4 25 "GlassRopes$Windows" "height" "[I", Cond.methodLink RX4 31 yX4_added, Cond.instanceMethod yX4_added, Cond.selects RX4 yX4_added yX4_added, Cond.code yX4_added cX4_added 6 (some .int), Cond.fieldLink RX4 15 "GlassRopes$Windows" "x" "[I", Cond.fieldLink RX4 19 "GlassRopes$Windows" "y" "[I", Cond.methodLink RX4 41 yX2_at, Cond.instanceMethod yX2_at, Cond.selects RX2 yX2_at yX2_at, Cond.code yX2_at cX2_at 3 (some .int), Cond.methodLink RX0 63 yX3_work, Cond.instanceMethod yX3_work, Cond.selects RX3 yX3_work yX3_work, Cond.code yX3_work cX3_work 3 none, Cond.methodLink RX3 35 yX3_workOnOne, Cond.instanceMethod yX3_workOnOne, Cond.selects RX3 yX3_workOnOne yX3_workOnOne]
def wsX5_advise_r6 : List Cond := [Cond.code yX3_workOnOne cX3_workOnOne 6 none, Cond.methodLink RX3 39 yX2_takeOff, Cond.instanceMethod yX2_takeOff, Cond.selects RX2 yX2_takeOff yX2_takeOff, Cond.code yX2_takeOff cX2_takeOff 6 (some .int), Cond.methodLink RX3 45 yX3_nextFreeColumn, Cond.instanceMethod yX3_nextFreeColumn, Cond.selects RX3 yX3_nextFreeColumn yX3_nextFreeColumn, Cond.code yX3_nextFreeColumn cX3_nextFreeColumn 5 (some .int), Cond.methodLink RX3 53 yX3_hangAt, Cond.instanceMethod yX3_hangAt, Cond.selects RX3 yX3_hangAt yX3_hangAt, Cond.code yX3_hangAt cX3_hangAt 3 (some .boolean), Cond.methodLink RX3 49 yX3_rehang, Cond.methodLink RX5 73 yX3_hangAt]
def wsX5_advise : List Cond := .code yX5_advise cX5_advise 8 (some .int) :: ((wsX5_advise_r1 ++ (wsX5_advise_r2 ++ (wsX5_advise_r3 ++ (wsX5_advise_r4 ++ (wsX5_advise_r5 ++ wsX5_advise_r6))))) ++ wsX50 ++ wsX00 ++ wsX30 ++ wsX10 ++ wsX20 ++ wsX40 ++ (vx_atS RX5 44 "java/lang/IndexOutOfBoundsException" ["java/lang/RuntimeException", "java/lang/Exception"]).filter goodWord ++ (vx_atS RX5 53 "java/lang/IllegalStateException" ["java/lang/RuntimeException", "java/lang/Exception"]).filter goodWord)
def wsX5_mean : List Cond := .code yX5_mean cX5_mean 1 (some .double) :: ([.fieldLink RX5 26 "GlassRopes" "now" "LGlassRopes$Course;", .constantDouble RX5 193 (4636455816377925632), .methodLink RX5 172 yX2_total, .instanceMethod yX2_total, .selects RX2 yX2_total yX2_total, .initialized RX2, .code yX2_total cX2_total 3 (some .int), .fieldLink RX2 9 "GlassRopes$Glass" "soot" "[I"] ++ wsX50 ++ wsX00 ++ wsX20)
def wsX5_digest_r1 : List Cond := [Cond.constantLong RX5 195 (1823), Cond.constantLong RX5 197 (31), Cond.fieldLink RX5 12 "GlassRopes" "windows" "LGlassRopes$Windows;", Cond.fieldLink RX5 26 "GlassRopes" "now" "LGlassRopes$Course;", Cond.methodLink RX5 156 yX5_number, Cond.instanceMethod yX5_number, Cond.selects RX5 yX5_number yX5_number, Cond.initialized RX5, Cond.code yX5_number cX5_number 2 (some .int), Cond.fieldLink RX5 19 "GlassRopes" "feasts" "LGlassRopes$Feasts;", Cond.methodLink RX5 172 yX2_total, Cond.instanceMethod yX2_total, Cond.selects RX2 yX2_total yX2_total, Cond.initialized RX2, Cond.code yX2_total cX2_total 3 (some .int), Cond.fieldLink RX2 9 "GlassRopes$Glass" "soot" "[I", Cond.methodLink RX5 199 yX2_cleanPanes, Cond.instanceMethod yX2_cleanPanes, Cond.selects RX2 yX2_cleanPanes yX2_cleanPanes, Cond.code yX2_cleanPanes cX2_cleanPanes 3 (some .int), Cond.methodLink RX5 176 yX3_allCleaned, Cond.instanceMethod yX3_allCleaned, Cond.selects RX3 yX3_allCleaned yX3_allCleaned, Cond.initialized RX3]
def wsX5_digest_r2 : List Cond := [Cond.code yX3_allCleaned cX3_allCleaned 3 (some .int), Cond.fieldLink RX3 9 "GlassRopes$Ropes" "size" "I", Cond.fieldLink RX3 29 "GlassRopes$Ropes" "cleaned" "[I", Cond.methodLink RX5 205 yX4_allBring, Cond.instanceMethod yX4_allBring, Cond.selects RX4 yX4_allBring yX4_allBring, Cond.initialized RX4, Cond.code yX4_allBring cX4_allBring 4 (some .int), Cond.fieldLink RX4 9 "GlassRopes$Windows" "size" "I", Cond.methodLink RX4 38 yX4_brings, Cond.instanceMethod yX4_brings, Cond.selects RX4 yX4_brings yX4_brings, Cond.code yX4_brings cX4_brings 3 (some .int), Cond.fieldLink RX4 28 "GlassRopes$Windows" "worth" "[I", Cond.methodLink RX4 47 Lib.Math.max.name, Cond.static Lib.Math.max.name, Cond.initialized "java/lang/Math", Cond.code Lib.Math.max.name Lib.Math.max.code 2 (some .int), Cond.methodLink RX4 52 yX4_panes, Cond.instanceMethod yX4_panes, Cond.selects RX4 yX4_panes yX4_panes, Cond.code yX4_panes cX4_panes 2 (some .int), Cond.fieldLink RX4 22 "GlassRopes$Windows" "width" "[I", Cond.fieldLink RX4 25 "GlassRopes$Windows" "height" "[I"]
def wsX5_digest_r3 : List Cond := [Cond.methodLink RX4 31 yX4_added, Cond.instanceMethod yX4_added, Cond.selects RX4 yX4_added yX4_added, Cond.code yX4_added cX4_added 6 (some .int), Cond.fieldLink RX4 15 "GlassRopes$Windows" "x" "[I", Cond.fieldLink RX4 19 "GlassRopes$Windows" "y" "[I", Cond.methodLink RX4 41 yX2_at, Cond.instanceMethod yX2_at, Cond.selects RX2 yX2_at yX2_at, Cond.code yX2_at cX2_at 3 (some .int), Cond.methodLink RX5 146 yX4_number, Cond.instanceMethod yX4_number, Cond.selects RX4 yX4_number yX4_number, Cond.code yX4_number cX4_number 4 (some .int), Cond.methodLink RX4 35 yX4_darkest, Cond.instanceMethod yX4_darkest, Cond.selects RX4 yX4_darkest yX4_darkest, Cond.code yX4_darkest cX4_darkest 6 (some .int), Cond.methodLink RX5 152 yX3_number, Cond.instanceMethod yX3_number, Cond.selects RX3 yX3_number yX3_number, Cond.code yX3_number cX3_number 3 (some .int), Cond.fieldLink RX3 15 "GlassRopes$Ropes" "column" "[I", Cond.fieldLink RX3 19 "GlassRopes$Ropes" "row" "[I"]
def wsX5_digest_r4 : List Cond := [Cond.fieldLink RX3 22 "GlassRopes$Ropes" "strength" "[I", Cond.fieldLink RX3 25 "GlassRopes$Ropes" "toRight" "[Z", Cond.fieldLink RX3 32 "GlassRopes$Ropes" "moved" "[I", Cond.methodLink RX5 139 yX2_at]
def wsX5_digest : List Cond := .code yX5_digest cX5_digest 5 (some .long) :: ((wsX5_digest_r1 ++ (wsX5_digest_r2 ++ (wsX5_digest_r3 ++ wsX5_digest_r4))) ++ wsX50 ++ wsX40 ++ wsX00 ++ wsX30 ++ wsX10 ++ wsX20)
def wsX6_init : List Cond := .code yX6_init cX6_init 1 none :: ([.methodLink RX6 1 objectInit, .instanceMethod objectInit, .code objectInit ⟨#[0xb1]⟩ 1 none, .arrayClass .int, .fieldLink RX6 9 "GlassRopesModel" "told" "[I", .fieldLink RX6 13 "GlassRopesModel" "strengths" "[I", .fieldLink RX6 16 "GlassRopesModel" "every" "[I", .fieldLink RX6 19 "GlassRopesModel" "on" "[I", .fieldLink RX6 22 "GlassRopesModel" "now" "[I", .fieldLink RX6 25 "GlassRopesModel" "kept" "[I"] ++ wsX60)
def wsX6_thrown : List Cond := .code yX6_thrown cX6_thrown 1 (some .int) :: ([.fieldLink RX6 28 "GlassRopesModel" "thrown" "I"] ++ wsX60)
def wsX6_fail : List Cond := .code yX6_fail cX6_fail 2 (some .int) :: ([.fieldLink RX6 28 "GlassRopesModel" "thrown" "I"] ++ wsX60)
def wsX6_isIn : List Cond := .code yX6_isIn cX6_isIn 3 (some .boolean) :: ([])
def wsX6_isWindow : List Cond := .code yX6_isWindow cX6_isWindow 2 (some .boolean) :: ([.fieldLink RX6 32 "GlassRopesModel" "windows" "I", .methodLink RX6 35 yX6_isIn, .static yX6_isIn, .initialized RX6, .code yX6_isIn cX6_isIn 3 (some .boolean)] ++ wsX60)
def wsX6_isRope : List Cond := .code yX6_isRope cX6_isRope 2 (some .boolean) :: ([.fieldLink RX6 39 "GlassRopesModel" "ropes" "I", .methodLink RX6 35 yX6_isIn, .static yX6_isIn, .initialized RX6, .code yX6_isIn cX6_isIn 3 (some .boolean)] ++ wsX60)
def wsX6_wi : List Cond := .code yX6_wi cX6_wi 3 (some .int) :: ([.fieldLink RX6 9 "GlassRopesModel" "told" "[I"] ++ wsX60)
def wsX6_ro : List Cond := .code yX6_ro cX6_ro 3 (some .int) :: ([.fieldLink RX6 22 "GlassRopesModel" "now" "[I"] ++ wsX60)
def wsX6_let : List Cond := .code yX6_let cX6_let 4 none :: ([.fieldLink RX6 22 "GlassRopesModel" "now" "[I"] ++ wsX60)
def wsX6_pane : List Cond := .code yX6_pane cX6_pane 2 (some .int) :: ([])
def wsX6_isHung : List Cond := .code yX6_isHung cX6_isHung 3 (some .boolean) :: ([.fieldLink RX6 39 "GlassRopesModel" "ropes" "I", .methodLink RX6 42 yX6_ro, .instanceMethod yX6_ro, .selects RX6 yX6_ro yX6_ro, .initialized RX6, .code yX6_ro cX6_ro 3 (some .int), .fieldLink RX6 22 "GlassRopesModel" "now" "[I"] ++ wsX60)
def wsX6_isFeastOn : List Cond := .code yX6_isFeastOn cX6_isFeastOn 3 (some .boolean) :: ([.fieldLink RX6 46 "GlassRopesModel" "feasts" "I", .fieldLink RX6 16 "GlassRopesModel" "every" "[I", .fieldLink RX6 19 "GlassRopesModel" "on" "[I"] ++ wsX60)
def wsX6_keep : List Cond := .code yX6_keep cX6_keep 1 none :: ([.fieldLink RX6 22 "GlassRopesModel" "now" "[I", .fieldLink RX6 25 "GlassRopesModel" "kept" "[I", .methodLink RX6 49 arraycopyName, .native arraycopyName, .static arraycopyName, .initialized "java/lang/System"] ++ wsX60)
def wsX6_bringBack : List Cond := .code yX6_bringBack cX6_bringBack 1 none :: ([.fieldLink RX6 25 "GlassRopesModel" "kept" "[I", .fieldLink RX6 22 "GlassRopesModel" "now" "[I", .methodLink RX6 49 arraycopyName, .native arraycopyName, .static arraycopyName, .initialized "java/lang/System"] ++ wsX60)
def wsX6_window : List Cond := .code yX6_window cX6_window 7 (some .int) :: ([.fieldLink RX6 28 "GlassRopesModel" "thrown" "I", .fieldLink RX6 32 "GlassRopesModel" "windows" "I", .arrayClass .int, .fieldLink RX6 9 "GlassRopesModel" "told" "[I", .methodLink RX6 49 arraycopyName, .native arraycopyName, .static arraycopyName, .initialized "java/lang/System", .methodLink RX6 35 yX6_isIn, .static yX6_isIn, .initialized RX6, .code yX6_isIn cX6_isIn 3 (some .boolean), .methodLink RX6 55 yX6_fail, .instanceMethod yX6_fail, .selects RX6 yX6_fail yX6_fail, .code yX6_fail cX6_fail 2 (some .int)] ++ wsX60)
def wsX6_rope : List Cond := .code yX6_rope cX6_rope 4 (some .int) :: ([.fieldLink RX6 28 "GlassRopesModel" "thrown" "I", .fieldLink RX6 39 "GlassRopesModel" "ropes" "I", .fieldLink RX6 13 "GlassRopesModel" "strengths" "[I", .methodLink RX6 35 yX6_isIn, .static yX6_isIn, .initialized RX6, .code yX6_isIn cX6_isIn 3 (some .boolean), .methodLink RX6 55 yX6_fail, .instanceMethod yX6_fail, .selects RX6 yX6_fail yX6_fail, .code yX6_fail cX6_fail 2 (some .int), .methodLink RX6 59 yX6_isHung, .instanceMethod yX6_isHung, .selects RX6 yX6_isHung yX6_isHung, .code yX6_isHung cX6_isHung 3 (some .boolean), .methodLink RX6 42 yX6_ro, .instanceMethod yX6_ro, .selects RX6 yX6_ro yX6_ro, .code yX6_ro cX6_ro 3 (some .int), .fieldLink RX6 22 "GlassRopesModel" "now" "[I", .methodLink RX6 63 yX6_let, .instanceMethod yX6_let, .selects RX6 yX6_let yX6_let, .code yX6_let cX6_let 4 none] ++ wsX60)
def wsX6_feast : List Cond := .code yX6_feast cX6_feast 3 (some .int) :: ([.fieldLink RX6 28 "GlassRopesModel" "thrown" "I", .fieldLink RX6 46 "GlassRopesModel" "feasts" "I", .fieldLink RX6 16 "GlassRopesModel" "every" "[I", .fieldLink RX6 19 "GlassRopesModel" "on" "[I", .methodLink RX6 35 yX6_isIn, .static yX6_isIn, .initialized RX6, .code yX6_isIn cX6_isIn 3 (some .boolean), .methodLink RX6 55 yX6_fail, .instanceMethod yX6_fail, .selects RX6 yX6_fail yX6_fail, .code yX6_fail cX6_fail 2 (some .int)] ++ wsX60)
def wsX6_setWind : List Cond := .code yX6_setWind cX6_setWind 3 (some .int) :: ([.fieldLink RX6 28 "GlassRopesModel" "thrown" "I", .fieldLink RX6 22 "GlassRopesModel" "now" "[I", .methodLink RX6 35 yX6_isIn, .static yX6_isIn, .initialized RX6, .code yX6_isIn cX6_isIn 3 (some .boolean), .methodLink RX6 55 yX6_fail, .instanceMethod yX6_fail, .selects RX6 yX6_fail yX6_fail, .code yX6_fail cX6_fail 2 (some .int)] ++ wsX60)
def wsX6_hang : List Cond := .code yX6_hang cX6_hang 3 none :: ([.methodLink RX6 63 yX6_let, .instanceMethod yX6_let, .selects RX6 yX6_let yX6_let, .initialized RX6, .code yX6_let cX6_let 4 none, .fieldLink RX6 22 "GlassRopesModel" "now" "[I", .methodLink RX6 42 yX6_ro, .instanceMethod yX6_ro, .selects RX6 yX6_ro yX6_ro, .code yX6_ro cX6_ro 3 (some .int)] ++ wsX60)
def wsX6_move_r1 : List Cond := [Cond.fieldLink RX6 28 "GlassRopesModel" "thrown" "I", Cond.methodLink RX6 67 yX6_isRope, Cond.instanceMethod yX6_isRope, Cond.selects RX6 yX6_isRope yX6_isRope, Cond.initialized RX6, Cond.code yX6_isRope cX6_isRope 2 (some .boolean), Cond.fieldLink RX6 39 "GlassRopesModel" "ropes" "I", Cond.methodLink RX6 35 yX6_isIn, Cond.static yX6_isIn, Cond.code yX6_isIn cX6_isIn 3 (some .boolean), Cond.methodLink RX6 55 yX6_fail, Cond.instanceMethod yX6_fail, Cond.selects RX6 yX6_fail yX6_fail, Cond.code yX6_fail cX6_fail 2 (some .int), Cond.methodLink RX6 59 yX6_isHung, Cond.instanceMethod yX6_isHung, Cond.selects RX6 yX6_isHung yX6_isHung, Cond.code yX6_isHung cX6_isHung 3 (some .boolean), Cond.methodLink RX6 42 yX6_ro, Cond.instanceMethod yX6_ro, Cond.selects RX6 yX6_ro yX6_ro, Cond.code yX6_ro cX6_ro 3 (some .int), Cond.fieldLink RX6 22 "GlassRopesModel" "now" "[I", Cond.methodLink RX6 70 yX6_hang]
def wsX6_move_r2 : List Cond := [Cond.instanceMethod yX6_hang, Cond.selects RX6 yX6_hang yX6_hang, Cond.code yX6_hang cX6_hang 3 none, Cond.methodLink RX6 63 yX6_let, Cond.instanceMethod yX6_let, Cond.selects RX6 yX6_let yX6_let, Cond.code yX6_let cX6_let 4 none]
def wsX6_move : List Cond := .code yX6_move cX6_move 4 (some .int) :: ((wsX6_move_r1 ++ wsX6_move_r2) ++ wsX60)
def wsX6_turn : List Cond := .code yX6_turn cX6_turn 2 (some .boolean) :: ([.fieldLink RX6 28 "GlassRopesModel" "thrown" "I", .methodLink RX6 67 yX6_isRope, .instanceMethod yX6_isRope, .selects RX6 yX6_isRope yX6_isRope, .initialized RX6, .code yX6_isRope cX6_isRope 2 (some .boolean), .fieldLink RX6 39 "GlassRopesModel" "ropes" "I", .methodLink RX6 35 yX6_isIn, .static yX6_isIn, .code yX6_isIn cX6_isIn 3 (some .boolean), .methodLink RX6 42 yX6_ro, .instanceMethod yX6_ro, .selects RX6 yX6_ro yX6_ro, .code yX6_ro cX6_ro 3 (some .int), .fieldLink RX6 22 "GlassRopesModel" "now" "[I", .methodLink RX6 63 yX6_let, .instanceMethod yX6_let, .selects RX6 yX6_let yX6_let, .code yX6_let cX6_let 4 none] ++ wsX60)
def wsX6_wipe : List Cond := .code yX6_wipe cX6_wipe 5 (some .int) :: ([.fieldLink RX6 28 "GlassRopesModel" "thrown" "I", .fieldLink RX6 22 "GlassRopesModel" "now" "[I", .methodLink RX6 74 yX6_isWindow, .instanceMethod yX6_isWindow, .selects RX6 yX6_isWindow yX6_isWindow, .initialized RX6, .code yX6_isWindow cX6_isWindow 2 (some .boolean), .fieldLink RX6 32 "GlassRopesModel" "windows" "I", .methodLink RX6 35 yX6_isIn, .static yX6_isIn, .code yX6_isIn cX6_isIn 3 (some .boolean), .methodLink RX6 55 yX6_fail, .instanceMethod yX6_fail, .selects RX6 yX6_fail yX6_fail, .code yX6_fail cX6_fail 2 (some .int), .methodLink RX6 77 yX6_wi, .instanceMethod yX6_wi, .selects RX6 yX6_wi yX6_wi, .code yX6_wi cX6_wi 3 (some .int), .fieldLink RX6 9 "GlassRopesModel" "told" "[I", .methodLink RX6 80 yX6_pane, .static yX6_pane, .code yX6_pane cX6_pane 2 (some .int)] ++ wsX60)
def wsX6_blown : List Cond := .code yX6_blown cX6_blown 2 (some .int) :: ([.fieldLink RX6 22 "GlassRopesModel" "now" "[I", .methodLink RX6 83 Lib.Math.max.name, .static Lib.Math.max.name, .initialized "java/lang/Math", .code Lib.Math.max.name Lib.Math.max.code 2 (some .int)] ++ wsX60)
def wsX6_panes : List Cond := .code yX6_panes cX6_panes 2 (some .int) :: ([.methodLink RX6 77 yX6_wi, .instanceMethod yX6_wi, .selects RX6 yX6_wi yX6_wi, .initialized RX6, .code yX6_wi cX6_wi 3 (some .int), .fieldLink RX6 9 "GlassRopesModel" "told" "[I"] ++ wsX60)
def wsX6_sootOf : List Cond := .code yX6_sootOf cX6_sootOf 7 (some .int) :: ([.fieldLink RX6 22 "GlassRopesModel" "now" "[I", .methodLink RX6 83 Lib.Math.max.name, .static Lib.Math.max.name, .initialized "java/lang/Math", .code Lib.Math.max.name Lib.Math.max.code 2 (some .int), .methodLink RX6 77 yX6_wi, .instanceMethod yX6_wi, .selects RX6 yX6_wi yX6_wi, .initialized RX6, .code yX6_wi cX6_wi 3 (some .int), .fieldLink RX6 9 "GlassRopesModel" "told" "[I", .methodLink RX6 80 yX6_pane, .static yX6_pane, .code yX6_pane cX6_pane 2 (some .int)] ++ wsX60)
def wsX6_brings : List Cond := .code yX6_brings cX6_brings 2 (some .int) :: ([.methodLink RX6 83 Lib.Math.max.name, .static Lib.Math.max.name, .initialized "java/lang/Math", .code Lib.Math.max.name Lib.Math.max.code 2 (some .int), .methodLink RX6 77 yX6_wi, .instanceMethod yX6_wi, .selects RX6 yX6_wi yX6_wi, .initialized RX6, .code yX6_wi cX6_wi 3 (some .int), .fieldLink RX6 9 "GlassRopesModel" "told" "[I", .methodLink RX6 88 yX6_panes, .instanceMethod yX6_panes, .selects RX6 yX6_panes yX6_panes, .code yX6_panes cX6_panes 2 (some .int), .methodLink RX6 91 yX6_sootOf, .instanceMethod yX6_sootOf, .selects RX6 yX6_sootOf yX6_sootOf, .code yX6_sootOf cX6_sootOf 7 (some .int), .fieldLink RX6 22 "GlassRopesModel" "now" "[I", .methodLink RX6 80 yX6_pane, .static yX6_pane, .code yX6_pane cX6_pane 2 (some .int)] ++ wsX60)
def wsX6_allBring_r1 : List Cond := [Cond.fieldLink RX6 32 "GlassRopesModel" "windows" "I", Cond.methodLink RX6 95 yX6_brings, Cond.instanceMethod yX6_brings, Cond.selects RX6 yX6_brings yX6_brings, Cond.initialized RX6, Cond.code yX6_brings cX6_brings 2 (some .int), Cond.methodLink RX6 83 Lib.Math.max.name, Cond.static Lib.Math.max.name, Cond.initialized "java/lang/Math", Cond.code Lib.Math.max.name Lib.Math.max.code 2 (some .int), Cond.methodLink RX6 77 yX6_wi, Cond.instanceMethod yX6_wi, Cond.selects RX6 yX6_wi yX6_wi, Cond.code yX6_wi cX6_wi 3 (some .int), Cond.fieldLink RX6 9 "GlassRopesModel" "told" "[I", Cond.methodLink RX6 88 yX6_panes, Cond.instanceMethod yX6_panes, Cond.selects RX6 yX6_panes yX6_panes, Cond.code yX6_panes cX6_panes 2 (some .int), Cond.methodLink RX6 91 yX6_sootOf, Cond.instanceMethod yX6_sootOf, Cond.selects RX6 yX6_sootOf yX6_sootOf, Cond.code yX6_sootOf cX6_sootOf 7 (some .int), Cond.fieldLink RX6 22 "GlassRopesModel" "now" "[I"]
def wsX6_allBring_r2 : List Cond := [Cond.methodLink RX6 80 yX6_pane, Cond.static yX6_pane, Cond.code yX6_pane cX6_pane 2 (some .int)]
def wsX6_allBring : List Cond := .code yX6_allBring cX6_allBring 3 (some .int) :: ((wsX6_allBring_r1 ++ wsX6_allBring_r2) ++ wsX60)
def wsX6_moveOn : List Cond := .code yX6_moveOn cX6_moveOn 3 none :: ([.methodLink RX6 42 yX6_ro, .instanceMethod yX6_ro, .selects RX6 yX6_ro yX6_ro, .initialized RX6, .code yX6_ro cX6_ro 3 (some .int), .fieldLink RX6 22 "GlassRopesModel" "now" "[I", .methodLink RX6 59 yX6_isHung, .instanceMethod yX6_isHung, .selects RX6 yX6_isHung yX6_isHung, .code yX6_isHung cX6_isHung 3 (some .boolean), .fieldLink RX6 39 "GlassRopesModel" "ropes" "I", .methodLink RX6 70 yX6_hang, .instanceMethod yX6_hang, .selects RX6 yX6_hang yX6_hang, .code yX6_hang cX6_hang 3 none, .methodLink RX6 63 yX6_let, .instanceMethod yX6_let, .selects RX6 yX6_let yX6_let, .code yX6_let cX6_let 4 none] ++ wsX60)
def wsX6_work_r1 : List Cond := [Cond.fieldLink RX6 13 "GlassRopesModel" "strengths" "[I", Cond.fieldLink RX6 22 "GlassRopesModel" "now" "[I", Cond.methodLink RX6 98 Lib.Math.min.name, Cond.static Lib.Math.min.name, Cond.initialized "java/lang/Math", Cond.code Lib.Math.min.name Lib.Math.min.code 2 (some .int), Cond.methodLink RX6 42 yX6_ro, Cond.instanceMethod yX6_ro, Cond.selects RX6 yX6_ro yX6_ro, Cond.initialized RX6, Cond.code yX6_ro cX6_ro 3 (some .int), Cond.methodLink RX6 80 yX6_pane, Cond.static yX6_pane, Cond.code yX6_pane cX6_pane 2 (some .int), Cond.methodLink RX6 63 yX6_let, Cond.instanceMethod yX6_let, Cond.selects RX6 yX6_let yX6_let, Cond.code yX6_let cX6_let 4 none, Cond.methodLink RX6 101 yX6_moveOn, Cond.instanceMethod yX6_moveOn, Cond.selects RX6 yX6_moveOn yX6_moveOn, Cond.code yX6_moveOn cX6_moveOn 3 none, Cond.methodLink RX6 59 yX6_isHung, Cond.instanceMethod yX6_isHung]
def wsX6_work_r2 : List Cond := [Cond.selects RX6 yX6_isHung yX6_isHung, Cond.code yX6_isHung cX6_isHung 3 (some .boolean), Cond.fieldLink RX6 39 "GlassRopesModel" "ropes" "I", Cond.methodLink RX6 70 yX6_hang, Cond.instanceMethod yX6_hang, Cond.selects RX6 yX6_hang yX6_hang, Cond.code yX6_hang cX6_hang 3 none]
def wsX6_work : List Cond := .code yX6_work cX6_work 5 none :: ((wsX6_work_r1 ++ wsX6_work_r2) ++ wsX60)
def wsX6_dayOn_r1 : List Cond := [Cond.fieldLink RX6 22 "GlassRopesModel" "now" "[I", Cond.methodLink RX6 98 Lib.Math.min.name, Cond.static Lib.Math.min.name, Cond.initialized "java/lang/Math", Cond.code Lib.Math.min.name Lib.Math.min.code 2 (some .int), Cond.fieldLink RX6 39 "GlassRopesModel" "ropes" "I", Cond.methodLink RX6 105 yX6_blown, Cond.instanceMethod yX6_blown, Cond.selects RX6 yX6_blown yX6_blown, Cond.initialized RX6, Cond.code yX6_blown cX6_blown 2 (some .int), Cond.methodLink RX6 83 Lib.Math.max.name, Cond.static Lib.Math.max.name, Cond.code Lib.Math.max.name Lib.Math.max.code 2 (some .int), Cond.methodLink RX6 80 yX6_pane, Cond.static yX6_pane, Cond.code yX6_pane cX6_pane 2 (some .int), Cond.methodLink RX6 108 yX6_isFeastOn, Cond.instanceMethod yX6_isFeastOn, Cond.selects RX6 yX6_isFeastOn yX6_isFeastOn, Cond.code yX6_isFeastOn cX6_isFeastOn 3 (some .boolean), Cond.fieldLink RX6 46 "GlassRopesModel" "feasts" "I", Cond.fieldLink RX6 16 "GlassRopesModel" "every" "[I", Cond.fieldLink RX6 19 "GlassRopesModel" "on" "[I"]
def wsX6_dayOn_r2 : List Cond := [Cond.methodLink RX6 111 yX6_allBring, Cond.instanceMethod yX6_allBring, Cond.selects RX6 yX6_allBring yX6_allBring, Cond.code yX6_allBring cX6_allBring 3 (some .int), Cond.fieldLink RX6 32 "GlassRopesModel" "windows" "I", Cond.methodLink RX6 95 yX6_brings, Cond.instanceMethod yX6_brings, Cond.selects RX6 yX6_brings yX6_brings, Cond.code yX6_brings cX6_brings 2 (some .int), Cond.methodLink RX6 77 yX6_wi, Cond.instanceMethod yX6_wi, Cond.selects RX6 yX6_wi yX6_wi, Cond.code yX6_wi cX6_wi 3 (some .int), Cond.fieldLink RX6 9 "GlassRopesModel" "told" "[I", Cond.methodLink RX6 88 yX6_panes, Cond.instanceMethod yX6_panes, Cond.selects RX6 yX6_panes yX6_panes, Cond.code yX6_panes cX6_panes 2 (some .int), Cond.methodLink RX6 91 yX6_sootOf, Cond.instanceMethod yX6_sootOf, Cond.selects RX6 yX6_sootOf yX6_sootOf, Cond.code yX6_sootOf cX6_sootOf 7 (some .int), Cond.methodLink RX6 115 yX6_work, Cond.instanceMethod yX6_work]
def wsX6_dayOn_r3 : List Cond := [Cond.selects RX6 yX6_work yX6_work, Cond.code yX6_work cX6_work 5 none, Cond.fieldLink RX6 13 "GlassRopesModel" "strengths" "[I", Cond.methodLink RX6 42 yX6_ro, Cond.instanceMethod yX6_ro, Cond.selects RX6 yX6_ro yX6_ro, Cond.code yX6_ro cX6_ro 3 (some .int), Cond.methodLink RX6 63 yX6_let, Cond.instanceMethod yX6_let, Cond.selects RX6 yX6_let yX6_let, Cond.code yX6_let cX6_let 4 none, Cond.methodLink RX6 101 yX6_moveOn, Cond.instanceMethod yX6_moveOn, Cond.selects RX6 yX6_moveOn yX6_moveOn, Cond.code yX6_moveOn cX6_moveOn 3 none, Cond.methodLink RX6 59 yX6_isHung, Cond.instanceMethod yX6_isHung, Cond.selects RX6 yX6_isHung yX6_isHung, Cond.code yX6_isHung cX6_isHung 3 (some .boolean), Cond.methodLink RX6 70 yX6_hang, Cond.instanceMethod yX6_hang, Cond.selects RX6 yX6_hang yX6_hang, Cond.code yX6_hang cX6_hang 3 none]
def wsX6_dayOn : List Cond := .code yX6_dayOn cX6_dayOn 4 none :: ((wsX6_dayOn_r1 ++ (wsX6_dayOn_r2 ++ wsX6_dayOn_r3)) ++ wsX60)
def wsX6_daysOn_r1 : List Cond := [Cond.methodLink RX6 118 yX6_dayOn, Cond.instanceMethod yX6_dayOn, Cond.selects RX6 yX6_dayOn yX6_dayOn, Cond.initialized RX6, Cond.code yX6_dayOn cX6_dayOn 4 none, Cond.fieldLink RX6 22 "GlassRopesModel" "now" "[I", Cond.methodLink RX6 98 Lib.Math.min.name, Cond.static Lib.Math.min.name, Cond.initialized "java/lang/Math", Cond.code Lib.Math.min.name Lib.Math.min.code 2 (some .int), Cond.fieldLink RX6 39 "GlassRopesModel" "ropes" "I", Cond.methodLink RX6 105 yX6_blown, Cond.instanceMethod yX6_blown, Cond.selects RX6 yX6_blown yX6_blown, Cond.code yX6_blown cX6_blown 2 (some .int), Cond.methodLink RX6 83 Lib.Math.max.name, Cond.static Lib.Math.max.name, Cond.code Lib.Math.max.name Lib.Math.max.code 2 (some .int), Cond.methodLink RX6 80 yX6_pane, Cond.static yX6_pane, Cond.code yX6_pane cX6_pane 2 (some .int), Cond.methodLink RX6 108 yX6_isFeastOn, Cond.instanceMethod yX6_isFeastOn, Cond.selects RX6 yX6_isFeastOn yX6_isFeastOn]
def wsX6_daysOn_r2 : List Cond := [Cond.code yX6_isFeastOn cX6_isFeastOn 3 (some .boolean), Cond.fieldLink RX6 46 "GlassRopesModel" "feasts" "I", Cond.fieldLink RX6 16 "GlassRopesModel" "every" "[I", Cond.fieldLink RX6 19 "GlassRopesModel" "on" "[I", Cond.methodLink RX6 111 yX6_allBring, Cond.instanceMethod yX6_allBring, Cond.selects RX6 yX6_allBring yX6_allBring, Cond.code yX6_allBring cX6_allBring 3 (some .int), Cond.fieldLink RX6 32 "GlassRopesModel" "windows" "I", Cond.methodLink RX6 95 yX6_brings, Cond.instanceMethod yX6_brings, Cond.selects RX6 yX6_brings yX6_brings, Cond.code yX6_brings cX6_brings 2 (some .int), Cond.methodLink RX6 77 yX6_wi, Cond.instanceMethod yX6_wi, Cond.selects RX6 yX6_wi yX6_wi, Cond.code yX6_wi cX6_wi 3 (some .int), Cond.fieldLink RX6 9 "GlassRopesModel" "told" "[I", Cond.methodLink RX6 88 yX6_panes, Cond.instanceMethod yX6_panes, Cond.selects RX6 yX6_panes yX6_panes, Cond.code yX6_panes cX6_panes 2 (some .int), Cond.methodLink RX6 91 yX6_sootOf, Cond.instanceMethod yX6_sootOf]
def wsX6_daysOn_r3 : List Cond := [Cond.selects RX6 yX6_sootOf yX6_sootOf, Cond.code yX6_sootOf cX6_sootOf 7 (some .int), Cond.methodLink RX6 115 yX6_work, Cond.instanceMethod yX6_work, Cond.selects RX6 yX6_work yX6_work, Cond.code yX6_work cX6_work 5 none, Cond.fieldLink RX6 13 "GlassRopesModel" "strengths" "[I", Cond.methodLink RX6 42 yX6_ro, Cond.instanceMethod yX6_ro, Cond.selects RX6 yX6_ro yX6_ro, Cond.code yX6_ro cX6_ro 3 (some .int), Cond.methodLink RX6 63 yX6_let, Cond.instanceMethod yX6_let, Cond.selects RX6 yX6_let yX6_let, Cond.code yX6_let cX6_let 4 none, Cond.methodLink RX6 101 yX6_moveOn, Cond.instanceMethod yX6_moveOn, Cond.selects RX6 yX6_moveOn yX6_moveOn, Cond.code yX6_moveOn cX6_moveOn 3 none, Cond.methodLink RX6 59 yX6_isHung, Cond.instanceMethod yX6_isHung, Cond.selects RX6 yX6_isHung yX6_isHung, Cond.code yX6_isHung cX6_isHung 3 (some .boolean), Cond.methodLink RX6 70 yX6_hang]
def wsX6_daysOn_r4 : List Cond := [Cond.instanceMethod yX6_hang, Cond.selects RX6 yX6_hang yX6_hang, Cond.code yX6_hang cX6_hang 3 none]
def wsX6_daysOn : List Cond := .code yX6_daysOn cX6_daysOn 3 none :: ((wsX6_daysOn_r1 ++ (wsX6_daysOn_r2 ++ (wsX6_daysOn_r3 ++ wsX6_daysOn_r4))) ++ wsX60)
def wsX6_pass_r1 : List Cond := [Cond.fieldLink RX6 28 "GlassRopesModel" "thrown" "I", Cond.fieldLink RX6 22 "GlassRopesModel" "now" "[I", Cond.methodLink RX6 35 yX6_isIn, Cond.static yX6_isIn, Cond.initialized RX6, Cond.code yX6_isIn cX6_isIn 3 (some .boolean), Cond.methodLink RX6 55 yX6_fail, Cond.instanceMethod yX6_fail, Cond.selects RX6 yX6_fail yX6_fail, Cond.code yX6_fail cX6_fail 2 (some .int), Cond.methodLink RX6 121 yX6_daysOn, Cond.instanceMethod yX6_daysOn, Cond.selects RX6 yX6_daysOn yX6_daysOn, Cond.code yX6_daysOn cX6_daysOn 3 none, Cond.methodLink RX6 118 yX6_dayOn, Cond.instanceMethod yX6_dayOn, Cond.selects RX6 yX6_dayOn yX6_dayOn, Cond.code yX6_dayOn cX6_dayOn 4 none, Cond.methodLink RX6 98 Lib.Math.min.name, Cond.static Lib.Math.min.name, Cond.initialized "java/lang/Math", Cond.code Lib.Math.min.name Lib.Math.min.code 2 (some .int), Cond.fieldLink RX6 39 "GlassRopesModel" "ropes" "I", Cond.methodLink RX6 105 yX6_blown]
def wsX6_pass_r2 : List Cond := [Cond.instanceMethod yX6_blown, Cond.selects RX6 yX6_blown yX6_blown, Cond.code yX6_blown cX6_blown 2 (some .int), Cond.methodLink RX6 83 Lib.Math.max.name, Cond.static Lib.Math.max.name, Cond.code Lib.Math.max.name Lib.Math.max.code 2 (some .int), Cond.methodLink RX6 80 yX6_pane, Cond.static yX6_pane, Cond.code yX6_pane cX6_pane 2 (some .int), Cond.methodLink RX6 108 yX6_isFeastOn, Cond.instanceMethod yX6_isFeastOn, Cond.selects RX6 yX6_isFeastOn yX6_isFeastOn, Cond.code yX6_isFeastOn cX6_isFeastOn 3 (some .boolean), Cond.fieldLink RX6 46 "GlassRopesModel" "feasts" "I", Cond.fieldLink RX6 16 "GlassRopesModel" "every" "[I", Cond.fieldLink RX6 19 "GlassRopesModel" "on" "[I", Cond.methodLink RX6 111 yX6_allBring, Cond.instanceMethod yX6_allBring, Cond.selects RX6 yX6_allBring yX6_allBring, Cond.code yX6_allBring cX6_allBring 3 (some .int), Cond.fieldLink RX6 32 "GlassRopesModel" "windows" "I", Cond.methodLink RX6 95 yX6_brings, Cond.instanceMethod yX6_brings, Cond.selects RX6 yX6_brings yX6_brings]
def wsX6_pass_r3 : List Cond := [Cond.code yX6_brings cX6_brings 2 (some .int), Cond.methodLink RX6 77 yX6_wi, Cond.instanceMethod yX6_wi, Cond.selects RX6 yX6_wi yX6_wi, Cond.code yX6_wi cX6_wi 3 (some .int), Cond.fieldLink RX6 9 "GlassRopesModel" "told" "[I", Cond.methodLink RX6 88 yX6_panes, Cond.instanceMethod yX6_panes, Cond.selects RX6 yX6_panes yX6_panes, Cond.code yX6_panes cX6_panes 2 (some .int), Cond.methodLink RX6 91 yX6_sootOf, Cond.instanceMethod yX6_sootOf, Cond.selects RX6 yX6_sootOf yX6_sootOf, Cond.code yX6_sootOf cX6_sootOf 7 (some .int), Cond.methodLink RX6 115 yX6_work, Cond.instanceMethod yX6_work, Cond.selects RX6 yX6_work yX6_work, Cond.code yX6_work cX6_work 5 none, Cond.fieldLink RX6 13 "GlassRopesModel" "strengths" "[I", Cond.methodLink RX6 42 yX6_ro, Cond.instanceMethod yX6_ro, Cond.selects RX6 yX6_ro yX6_ro, Cond.code yX6_ro cX6_ro 3 (some .int), Cond.methodLink RX6 63 yX6_let]
def wsX6_pass_r4 : List Cond := [Cond.instanceMethod yX6_let, Cond.selects RX6 yX6_let yX6_let, Cond.code yX6_let cX6_let 4 none, Cond.methodLink RX6 101 yX6_moveOn, Cond.instanceMethod yX6_moveOn, Cond.selects RX6 yX6_moveOn yX6_moveOn, Cond.code yX6_moveOn cX6_moveOn 3 none, Cond.methodLink RX6 59 yX6_isHung, Cond.instanceMethod yX6_isHung, Cond.selects RX6 yX6_isHung yX6_isHung, Cond.code yX6_isHung cX6_isHung 3 (some .boolean), Cond.methodLink RX6 70 yX6_hang, Cond.instanceMethod yX6_hang, Cond.selects RX6 yX6_hang yX6_hang, Cond.code yX6_hang cX6_hang 3 none]
def wsX6_pass : List Cond := .code yX6_pass cX6_pass 3 (some .int) :: ((wsX6_pass_r1 ++ (wsX6_pass_r2 ++ (wsX6_pass_r3 ++ wsX6_pass_r4))) ++ wsX60)
def wsX6_soot : List Cond := .code yX6_soot cX6_soot 3 (some .int) :: ([.fieldLink RX6 28 "GlassRopesModel" "thrown" "I", .fieldLink RX6 22 "GlassRopesModel" "now" "[I", .methodLink RX6 35 yX6_isIn, .static yX6_isIn, .initialized RX6, .code yX6_isIn cX6_isIn 3 (some .boolean), .methodLink RX6 80 yX6_pane, .static yX6_pane, .code yX6_pane cX6_pane 2 (some .int), .methodLink RX6 55 yX6_fail, .instanceMethod yX6_fail, .selects RX6 yX6_fail yX6_fail, .code yX6_fail cX6_fail 2 (some .int)] ++ wsX60)
def wsX6_windowTold_r1 : List Cond := [Cond.methodLink RX6 91 yX6_sootOf, Cond.instanceMethod yX6_sootOf, Cond.selects RX6 yX6_sootOf yX6_sootOf, Cond.initialized RX6, Cond.code yX6_sootOf cX6_sootOf 7 (some .int), Cond.fieldLink RX6 22 "GlassRopesModel" "now" "[I", Cond.methodLink RX6 83 Lib.Math.max.name, Cond.static Lib.Math.max.name, Cond.initialized "java/lang/Math", Cond.code Lib.Math.max.name Lib.Math.max.code 2 (some .int), Cond.methodLink RX6 77 yX6_wi, Cond.instanceMethod yX6_wi, Cond.selects RX6 yX6_wi yX6_wi, Cond.code yX6_wi cX6_wi 3 (some .int), Cond.fieldLink RX6 9 "GlassRopesModel" "told" "[I", Cond.methodLink RX6 80 yX6_pane, Cond.static yX6_pane, Cond.code yX6_pane cX6_pane 2 (some .int), Cond.methodLink RX6 95 yX6_brings, Cond.instanceMethod yX6_brings, Cond.selects RX6 yX6_brings yX6_brings, Cond.code yX6_brings cX6_brings 2 (some .int), Cond.methodLink RX6 88 yX6_panes, Cond.instanceMethod yX6_panes]
def wsX6_windowTold_r2 : List Cond := [Cond.selects RX6 yX6_panes yX6_panes, Cond.code yX6_panes cX6_panes 2 (some .int)]
def wsX6_windowTold : List Cond := .code yX6_windowTold cX6_windowTold 3 (some .int) :: ((wsX6_windowTold_r1 ++ wsX6_windowTold_r2) ++ wsX60)
def wsX6_about_r1 : List Cond := [Cond.fieldLink RX6 28 "GlassRopesModel" "thrown" "I", Cond.methodLink RX6 74 yX6_isWindow, Cond.instanceMethod yX6_isWindow, Cond.selects RX6 yX6_isWindow yX6_isWindow, Cond.initialized RX6, Cond.code yX6_isWindow cX6_isWindow 2 (some .boolean), Cond.fieldLink RX6 32 "GlassRopesModel" "windows" "I", Cond.methodLink RX6 35 yX6_isIn, Cond.static yX6_isIn, Cond.code yX6_isIn cX6_isIn 3 (some .boolean), Cond.methodLink RX6 124 yX6_windowTold, Cond.instanceMethod yX6_windowTold, Cond.selects RX6 yX6_windowTold yX6_windowTold, Cond.code yX6_windowTold cX6_windowTold 3 (some .int), Cond.methodLink RX6 91 yX6_sootOf, Cond.instanceMethod yX6_sootOf, Cond.selects RX6 yX6_sootOf yX6_sootOf, Cond.code yX6_sootOf cX6_sootOf 7 (some .int), Cond.fieldLink RX6 22 "GlassRopesModel" "now" "[I", Cond.methodLink RX6 83 Lib.Math.max.name, Cond.static Lib.Math.max.name, Cond.initialized "java/lang/Math", Cond.code Lib.Math.max.name Lib.Math.max.code 2 (some .int), Cond.methodLink RX6 77 yX6_wi]
def wsX6_about_r2 : List Cond := [Cond.instanceMethod yX6_wi, Cond.selects RX6 yX6_wi yX6_wi, Cond.code yX6_wi cX6_wi 3 (some .int), Cond.fieldLink RX6 9 "GlassRopesModel" "told" "[I", Cond.methodLink RX6 80 yX6_pane, Cond.static yX6_pane, Cond.code yX6_pane cX6_pane 2 (some .int), Cond.methodLink RX6 95 yX6_brings, Cond.instanceMethod yX6_brings, Cond.selects RX6 yX6_brings yX6_brings, Cond.code yX6_brings cX6_brings 2 (some .int), Cond.methodLink RX6 88 yX6_panes, Cond.instanceMethod yX6_panes, Cond.selects RX6 yX6_panes yX6_panes, Cond.code yX6_panes cX6_panes 2 (some .int), Cond.methodLink RX6 55 yX6_fail, Cond.instanceMethod yX6_fail, Cond.selects RX6 yX6_fail yX6_fail, Cond.code yX6_fail cX6_fail 2 (some .int)]
def wsX6_about : List Cond := .code yX6_about cX6_about 3 (some .int) :: ((wsX6_about_r1 ++ wsX6_about_r2) ++ wsX60)
def wsX6_ropeTold : List Cond := .code yX6_ropeTold cX6_ropeTold 3 (some .int) :: ([.fieldLink RX6 13 "GlassRopesModel" "strengths" "[I", .methodLink RX6 42 yX6_ro, .instanceMethod yX6_ro, .selects RX6 yX6_ro yX6_ro, .initialized RX6, .code yX6_ro cX6_ro 3 (some .int), .fieldLink RX6 22 "GlassRopesModel" "now" "[I"] ++ wsX60)
def wsX6_told : List Cond := .code yX6_told cX6_told 3 (some .int) :: ([.fieldLink RX6 28 "GlassRopesModel" "thrown" "I", .methodLink RX6 67 yX6_isRope, .instanceMethod yX6_isRope, .selects RX6 yX6_isRope yX6_isRope, .initialized RX6, .code yX6_isRope cX6_isRope 2 (some .boolean), .fieldLink RX6 39 "GlassRopesModel" "ropes" "I", .methodLink RX6 35 yX6_isIn, .static yX6_isIn, .code yX6_isIn cX6_isIn 3 (some .boolean), .methodLink RX6 127 yX6_ropeTold, .instanceMethod yX6_ropeTold, .selects RX6 yX6_ropeTold yX6_ropeTold, .code yX6_ropeTold cX6_ropeTold 3 (some .int), .fieldLink RX6 13 "GlassRopesModel" "strengths" "[I", .methodLink RX6 42 yX6_ro, .instanceMethod yX6_ro, .selects RX6 yX6_ro yX6_ro, .code yX6_ro cX6_ro 3 (some .int), .fieldLink RX6 22 "GlassRopesModel" "now" "[I", .methodLink RX6 55 yX6_fail, .instanceMethod yX6_fail, .selects RX6 yX6_fail yX6_fail, .code yX6_fail cX6_fail 2 (some .int)] ++ wsX60)
def wsX6_allSoot : List Cond := .code yX6_allSoot cX6_allSoot 3 (some .int) :: ([.fieldLink RX6 22 "GlassRopesModel" "now" "[I"] ++ wsX60)
def wsX6_cleaned : List Cond := .code yX6_cleaned cX6_cleaned 3 (some .int) :: ([.fieldLink RX6 39 "GlassRopesModel" "ropes" "I", .methodLink RX6 42 yX6_ro, .instanceMethod yX6_ro, .selects RX6 yX6_ro yX6_ro, .initialized RX6, .code yX6_ro cX6_ro 3 (some .int), .fieldLink RX6 22 "GlassRopesModel" "now" "[I"] ++ wsX60)
def wsX6_counted_r1 : List Cond := [Cond.fieldLink RX6 22 "GlassRopesModel" "now" "[I", Cond.fieldLink RX6 32 "GlassRopesModel" "windows" "I", Cond.fieldLink RX6 39 "GlassRopesModel" "ropes" "I", Cond.fieldLink RX6 46 "GlassRopesModel" "feasts" "I", Cond.methodLink RX6 130 yX6_allSoot, Cond.instanceMethod yX6_allSoot, Cond.selects RX6 yX6_allSoot yX6_allSoot, Cond.initialized RX6, Cond.code yX6_allSoot cX6_allSoot 3 (some .int), Cond.methodLink RX6 133 yX6_cleaned, Cond.instanceMethod yX6_cleaned, Cond.selects RX6 yX6_cleaned yX6_cleaned, Cond.code yX6_cleaned cX6_cleaned 3 (some .int), Cond.methodLink RX6 42 yX6_ro, Cond.instanceMethod yX6_ro, Cond.selects RX6 yX6_ro yX6_ro, Cond.code yX6_ro cX6_ro 3 (some .int), Cond.methodLink RX6 111 yX6_allBring, Cond.instanceMethod yX6_allBring, Cond.selects RX6 yX6_allBring yX6_allBring, Cond.code yX6_allBring cX6_allBring 3 (some .int), Cond.methodLink RX6 95 yX6_brings, Cond.instanceMethod yX6_brings, Cond.selects RX6 yX6_brings yX6_brings]
def wsX6_counted_r2 : List Cond := [Cond.code yX6_brings cX6_brings 2 (some .int), Cond.methodLink RX6 83 Lib.Math.max.name, Cond.static Lib.Math.max.name, Cond.initialized "java/lang/Math", Cond.code Lib.Math.max.name Lib.Math.max.code 2 (some .int), Cond.methodLink RX6 77 yX6_wi, Cond.instanceMethod yX6_wi, Cond.selects RX6 yX6_wi yX6_wi, Cond.code yX6_wi cX6_wi 3 (some .int), Cond.fieldLink RX6 9 "GlassRopesModel" "told" "[I", Cond.methodLink RX6 88 yX6_panes, Cond.instanceMethod yX6_panes, Cond.selects RX6 yX6_panes yX6_panes, Cond.code yX6_panes cX6_panes 2 (some .int), Cond.methodLink RX6 91 yX6_sootOf, Cond.instanceMethod yX6_sootOf, Cond.selects RX6 yX6_sootOf yX6_sootOf, Cond.code yX6_sootOf cX6_sootOf 7 (some .int), Cond.methodLink RX6 80 yX6_pane, Cond.static yX6_pane, Cond.code yX6_pane cX6_pane 2 (some .int)]
def wsX6_counted : List Cond := .code yX6_counted cX6_counted 4 (some .int) :: ((wsX6_counted_r1 ++ wsX6_counted_r2) ++ wsX60)
def wsX6_count_r1 : List Cond := [Cond.fieldLink RX6 28 "GlassRopesModel" "thrown" "I", Cond.methodLink RX6 35 yX6_isIn, Cond.static yX6_isIn, Cond.initialized RX6, Cond.code yX6_isIn cX6_isIn 3 (some .boolean), Cond.methodLink RX6 136 yX6_counted, Cond.instanceMethod yX6_counted, Cond.selects RX6 yX6_counted yX6_counted, Cond.code yX6_counted cX6_counted 4 (some .int), Cond.fieldLink RX6 22 "GlassRopesModel" "now" "[I", Cond.fieldLink RX6 32 "GlassRopesModel" "windows" "I", Cond.fieldLink RX6 39 "GlassRopesModel" "ropes" "I", Cond.fieldLink RX6 46 "GlassRopesModel" "feasts" "I", Cond.methodLink RX6 130 yX6_allSoot, Cond.instanceMethod yX6_allSoot, Cond.selects RX6 yX6_allSoot yX6_allSoot, Cond.code yX6_allSoot cX6_allSoot 3 (some .int), Cond.methodLink RX6 133 yX6_cleaned, Cond.instanceMethod yX6_cleaned, Cond.selects RX6 yX6_cleaned yX6_cleaned, Cond.code yX6_cleaned cX6_cleaned 3 (some .int), Cond.methodLink RX6 42 yX6_ro, Cond.instanceMethod yX6_ro, Cond.selects RX6 yX6_ro yX6_ro]
def wsX6_count_r2 : List Cond := [Cond.code yX6_ro cX6_ro 3 (some .int), Cond.methodLink RX6 111 yX6_allBring, Cond.instanceMethod yX6_allBring, Cond.selects RX6 yX6_allBring yX6_allBring, Cond.code yX6_allBring cX6_allBring 3 (some .int), Cond.methodLink RX6 95 yX6_brings, Cond.instanceMethod yX6_brings, Cond.selects RX6 yX6_brings yX6_brings, Cond.code yX6_brings cX6_brings 2 (some .int), Cond.methodLink RX6 83 Lib.Math.max.name, Cond.static Lib.Math.max.name, Cond.initialized "java/lang/Math", Cond.code Lib.Math.max.name Lib.Math.max.code 2 (some .int), Cond.methodLink RX6 77 yX6_wi, Cond.instanceMethod yX6_wi, Cond.selects RX6 yX6_wi yX6_wi, Cond.code yX6_wi cX6_wi 3 (some .int), Cond.fieldLink RX6 9 "GlassRopesModel" "told" "[I", Cond.methodLink RX6 88 yX6_panes, Cond.instanceMethod yX6_panes, Cond.selects RX6 yX6_panes yX6_panes, Cond.code yX6_panes cX6_panes 2 (some .int), Cond.methodLink RX6 91 yX6_sootOf, Cond.instanceMethod yX6_sootOf]
def wsX6_count_r3 : List Cond := [Cond.selects RX6 yX6_sootOf yX6_sootOf, Cond.code yX6_sootOf cX6_sootOf 7 (some .int), Cond.methodLink RX6 80 yX6_pane, Cond.static yX6_pane, Cond.code yX6_pane cX6_pane 2 (some .int), Cond.methodLink RX6 55 yX6_fail, Cond.instanceMethod yX6_fail, Cond.selects RX6 yX6_fail yX6_fail, Cond.code yX6_fail cX6_fail 2 (some .int)]
def wsX6_count : List Cond := .code yX6_count cX6_count 2 (some .int) :: ((wsX6_count_r1 ++ (wsX6_count_r2 ++ wsX6_count_r3)) ++ wsX60)
def wsX6_isFeast : List Cond := .code yX6_isFeast cX6_isFeast 2 (some .boolean) :: ([.fieldLink RX6 28 "GlassRopesModel" "thrown" "I", .fieldLink RX6 22 "GlassRopesModel" "now" "[I", .methodLink RX6 35 yX6_isIn, .static yX6_isIn, .initialized RX6, .code yX6_isIn cX6_isIn 3 (some .boolean), .methodLink RX6 108 yX6_isFeastOn, .instanceMethod yX6_isFeastOn, .selects RX6 yX6_isFeastOn yX6_isFeastOn, .code yX6_isFeastOn cX6_isFeastOn 3 (some .boolean), .fieldLink RX6 46 "GlassRopesModel" "feasts" "I", .fieldLink RX6 16 "GlassRopesModel" "every" "[I", .fieldLink RX6 19 "GlassRopesModel" "on" "[I"] ++ wsX60)
def wsX6_nextFeast : List Cond := .code yX6_nextFeast cX6_nextFeast 2 (some .int) :: ([.fieldLink RX6 22 "GlassRopesModel" "now" "[I", .methodLink RX6 108 yX6_isFeastOn, .instanceMethod yX6_isFeastOn, .selects RX6 yX6_isFeastOn yX6_isFeastOn, .initialized RX6, .code yX6_isFeastOn cX6_isFeastOn 3 (some .boolean), .fieldLink RX6 46 "GlassRopesModel" "feasts" "I", .fieldLink RX6 16 "GlassRopesModel" "every" "[I", .fieldLink RX6 19 "GlassRopesModel" "on" "[I"] ++ wsX60)
def wsX6_next : List Cond := .code yX6_next cX6_next 1 (some .int) :: ([.fieldLink RX6 28 "GlassRopesModel" "thrown" "I", .methodLink RX6 139 yX6_nextFeast, .instanceMethod yX6_nextFeast, .selects RX6 yX6_nextFeast yX6_nextFeast, .initialized RX6, .code yX6_nextFeast cX6_nextFeast 2 (some .int), .fieldLink RX6 22 "GlassRopesModel" "now" "[I", .methodLink RX6 108 yX6_isFeastOn, .instanceMethod yX6_isFeastOn, .selects RX6 yX6_isFeastOn yX6_isFeastOn, .code yX6_isFeastOn cX6_isFeastOn 3 (some .boolean), .fieldLink RX6 46 "GlassRopesModel" "feasts" "I", .fieldLink RX6 16 "GlassRopesModel" "every" "[I", .fieldLink RX6 19 "GlassRopesModel" "on" "[I"] ++ wsX60)
def wsX6_would_r1 : List Cond := [Cond.fieldLink RX6 28 "GlassRopesModel" "thrown" "I", Cond.fieldLink RX6 22 "GlassRopesModel" "now" "[I", Cond.methodLink RX6 35 yX6_isIn, Cond.static yX6_isIn, Cond.initialized RX6, Cond.code yX6_isIn cX6_isIn 3 (some .boolean), Cond.methodLink RX6 55 yX6_fail, Cond.instanceMethod yX6_fail, Cond.selects RX6 yX6_fail yX6_fail, Cond.code yX6_fail cX6_fail 2 (some .int), Cond.methodLink RX6 142 yX6_keep, Cond.instanceMethod yX6_keep, Cond.selects RX6 yX6_keep yX6_keep, Cond.code yX6_keep cX6_keep 1 none, Cond.fieldLink RX6 25 "GlassRopesModel" "kept" "[I", Cond.methodLink RX6 49 arraycopyName, Cond.native arraycopyName, Cond.static arraycopyName, Cond.initialized "java/lang/System", Cond.methodLink RX6 121 yX6_daysOn, Cond.instanceMethod yX6_daysOn, Cond.selects RX6 yX6_daysOn yX6_daysOn, Cond.code yX6_daysOn cX6_daysOn 3 none, Cond.methodLink RX6 118 yX6_dayOn]
def wsX6_would_r2 : List Cond := [Cond.instanceMethod yX6_dayOn, Cond.selects RX6 yX6_dayOn yX6_dayOn, Cond.code yX6_dayOn cX6_dayOn 4 none, Cond.methodLink RX6 98 Lib.Math.min.name, Cond.static Lib.Math.min.name, Cond.initialized "java/lang/Math", Cond.code Lib.Math.min.name Lib.Math.min.code 2 (some .int), Cond.fieldLink RX6 39 "GlassRopesModel" "ropes" "I", Cond.methodLink RX6 105 yX6_blown, Cond.instanceMethod yX6_blown, Cond.selects RX6 yX6_blown yX6_blown, Cond.code yX6_blown cX6_blown 2 (some .int), Cond.methodLink RX6 83 Lib.Math.max.name, Cond.static Lib.Math.max.name, Cond.code Lib.Math.max.name Lib.Math.max.code 2 (some .int), Cond.methodLink RX6 80 yX6_pane, Cond.static yX6_pane, Cond.code yX6_pane cX6_pane 2 (some .int), Cond.methodLink RX6 108 yX6_isFeastOn, Cond.instanceMethod yX6_isFeastOn, Cond.selects RX6 yX6_isFeastOn yX6_isFeastOn, Cond.code yX6_isFeastOn cX6_isFeastOn 3 (some .boolean), Cond.fieldLink RX6 46 "GlassRopesModel" "feasts" "I", Cond.fieldLink RX6 16 "GlassRopesModel" "every" "[I"]
def wsX6_would_r3 : List Cond := [Cond.fieldLink RX6 19 "GlassRopesModel" "on" "[I", Cond.methodLink RX6 111 yX6_allBring, Cond.instanceMethod yX6_allBring, Cond.selects RX6 yX6_allBring yX6_allBring, Cond.code yX6_allBring cX6_allBring 3 (some .int), Cond.fieldLink RX6 32 "GlassRopesModel" "windows" "I", Cond.methodLink RX6 95 yX6_brings, Cond.instanceMethod yX6_brings, Cond.selects RX6 yX6_brings yX6_brings, Cond.code yX6_brings cX6_brings 2 (some .int), Cond.methodLink RX6 77 yX6_wi, Cond.instanceMethod yX6_wi, Cond.selects RX6 yX6_wi yX6_wi, Cond.code yX6_wi cX6_wi 3 (some .int), Cond.fieldLink RX6 9 "GlassRopesModel" "told" "[I", Cond.methodLink RX6 88 yX6_panes, Cond.instanceMethod yX6_panes, Cond.selects RX6 yX6_panes yX6_panes, Cond.code yX6_panes cX6_panes 2 (some .int), Cond.methodLink RX6 91 yX6_sootOf, Cond.instanceMethod yX6_sootOf, Cond.selects RX6 yX6_sootOf yX6_sootOf, Cond.code yX6_sootOf cX6_sootOf 7 (some .int), Cond.methodLink RX6 115 yX6_work]
def wsX6_would_r4 : List Cond := [Cond.instanceMethod yX6_work, Cond.selects RX6 yX6_work yX6_work, Cond.code yX6_work cX6_work 5 none, Cond.fieldLink RX6 13 "GlassRopesModel" "strengths" "[I", Cond.methodLink RX6 42 yX6_ro, Cond.instanceMethod yX6_ro, Cond.selects RX6 yX6_ro yX6_ro, Cond.code yX6_ro cX6_ro 3 (some .int), Cond.methodLink RX6 63 yX6_let, Cond.instanceMethod yX6_let, Cond.selects RX6 yX6_let yX6_let, Cond.code yX6_let cX6_let 4 none, Cond.methodLink RX6 101 yX6_moveOn, Cond.instanceMethod yX6_moveOn, Cond.selects RX6 yX6_moveOn yX6_moveOn, Cond.code yX6_moveOn cX6_moveOn 3 none, Cond.methodLink RX6 59 yX6_isHung, Cond.instanceMethod yX6_isHung, Cond.selects RX6 yX6_isHung yX6_isHung, Cond.code yX6_isHung cX6_isHung 3 (some .boolean), Cond.methodLink RX6 70 yX6_hang, Cond.instanceMethod yX6_hang, Cond.selects RX6 yX6_hang yX6_hang, Cond.code yX6_hang cX6_hang 3 none]
def wsX6_would_r5 : List Cond := [Cond.methodLink RX6 130 yX6_allSoot, Cond.instanceMethod yX6_allSoot, Cond.selects RX6 yX6_allSoot yX6_allSoot, Cond.code yX6_allSoot cX6_allSoot 3 (some .int), Cond.methodLink RX6 133 yX6_cleaned, Cond.instanceMethod yX6_cleaned, Cond.selects RX6 yX6_cleaned yX6_cleaned, Cond.code yX6_cleaned cX6_cleaned 3 (some .int), Cond.methodLink RX6 145 yX6_bringBack, Cond.instanceMethod yX6_bringBack, Cond.selects RX6 yX6_bringBack yX6_bringBack, Cond.code yX6_bringBack cX6_bringBack 1 none]
def wsX6_would : List Cond := .code yX6_would cX6_would 4 (some .int) :: ((wsX6_would_r1 ++ (wsX6_would_r2 ++ (wsX6_would_r3 ++ (wsX6_would_r4 ++ wsX6_would_r5)))) ++ wsX60)
def wsX6_until_r1 : List Cond := [Cond.fieldLink RX6 28 "GlassRopesModel" "thrown" "I", Cond.methodLink RX6 74 yX6_isWindow, Cond.instanceMethod yX6_isWindow, Cond.selects RX6 yX6_isWindow yX6_isWindow, Cond.initialized RX6, Cond.code yX6_isWindow cX6_isWindow 2 (some .boolean), Cond.fieldLink RX6 32 "GlassRopesModel" "windows" "I", Cond.methodLink RX6 35 yX6_isIn, Cond.static yX6_isIn, Cond.code yX6_isIn cX6_isIn 3 (some .boolean), Cond.methodLink RX6 55 yX6_fail, Cond.instanceMethod yX6_fail, Cond.selects RX6 yX6_fail yX6_fail, Cond.code yX6_fail cX6_fail 2 (some .int), Cond.methodLink RX6 142 yX6_keep, Cond.instanceMethod yX6_keep, Cond.selects RX6 yX6_keep yX6_keep, Cond.code yX6_keep cX6_keep 1 none, Cond.fieldLink RX6 22 "GlassRopesModel" "now" "[I", Cond.fieldLink RX6 25 "GlassRopesModel" "kept" "[I", Cond.methodLink RX6 49 arraycopyName, Cond.native arraycopyName, Cond.static arraycopyName, Cond.initialized "java/lang/System"]
def wsX6_until_r2 : List Cond := [Cond.methodLink RX6 91 yX6_sootOf, Cond.instanceMethod yX6_sootOf, Cond.selects RX6 yX6_sootOf yX6_sootOf, Cond.code yX6_sootOf cX6_sootOf 7 (some .int), Cond.methodLink RX6 83 Lib.Math.max.name, Cond.static Lib.Math.max.name, Cond.initialized "java/lang/Math", Cond.code Lib.Math.max.name Lib.Math.max.code 2 (some .int), Cond.methodLink RX6 77 yX6_wi, Cond.instanceMethod yX6_wi, Cond.selects RX6 yX6_wi yX6_wi, Cond.code yX6_wi cX6_wi 3 (some .int), Cond.fieldLink RX6 9 "GlassRopesModel" "told" "[I", Cond.methodLink RX6 80 yX6_pane, Cond.static yX6_pane, Cond.code yX6_pane cX6_pane 2 (some .int), Cond.methodLink RX6 88 yX6_panes, Cond.instanceMethod yX6_panes, Cond.selects RX6 yX6_panes yX6_panes, Cond.code yX6_panes cX6_panes 2 (some .int), Cond.methodLink RX6 118 yX6_dayOn, Cond.instanceMethod yX6_dayOn, Cond.selects RX6 yX6_dayOn yX6_dayOn, Cond.code yX6_dayOn cX6_dayOn 4 none]
def wsX6_until_r3 : List Cond := [Cond.methodLink RX6 98 Lib.Math.min.name, Cond.static Lib.Math.min.name, Cond.code Lib.Math.min.name Lib.Math.min.code 2 (some .int), Cond.fieldLink RX6 39 "GlassRopesModel" "ropes" "I", Cond.methodLink RX6 105 yX6_blown, Cond.instanceMethod yX6_blown, Cond.selects RX6 yX6_blown yX6_blown, Cond.code yX6_blown cX6_blown 2 (some .int), Cond.methodLink RX6 108 yX6_isFeastOn, Cond.instanceMethod yX6_isFeastOn, Cond.selects RX6 yX6_isFeastOn yX6_isFeastOn, Cond.code yX6_isFeastOn cX6_isFeastOn 3 (some .boolean), Cond.fieldLink RX6 46 "GlassRopesModel" "feasts" "I", Cond.fieldLink RX6 16 "GlassRopesModel" "every" "[I", Cond.fieldLink RX6 19 "GlassRopesModel" "on" "[I", Cond.methodLink RX6 111 yX6_allBring, Cond.instanceMethod yX6_allBring, Cond.selects RX6 yX6_allBring yX6_allBring, Cond.code yX6_allBring cX6_allBring 3 (some .int), Cond.methodLink RX6 95 yX6_brings, Cond.instanceMethod yX6_brings, Cond.selects RX6 yX6_brings yX6_brings, Cond.code yX6_brings cX6_brings 2 (some .int), Cond.methodLink RX6 115 yX6_work]
def wsX6_until_r4 : List Cond := [Cond.instanceMethod yX6_work, Cond.selects RX6 yX6_work yX6_work, Cond.code yX6_work cX6_work 5 none, Cond.fieldLink RX6 13 "GlassRopesModel" "strengths" "[I", Cond.methodLink RX6 42 yX6_ro, Cond.instanceMethod yX6_ro, Cond.selects RX6 yX6_ro yX6_ro, Cond.code yX6_ro cX6_ro 3 (some .int), Cond.methodLink RX6 63 yX6_let, Cond.instanceMethod yX6_let, Cond.selects RX6 yX6_let yX6_let, Cond.code yX6_let cX6_let 4 none, Cond.methodLink RX6 101 yX6_moveOn, Cond.instanceMethod yX6_moveOn, Cond.selects RX6 yX6_moveOn yX6_moveOn, Cond.code yX6_moveOn cX6_moveOn 3 none, Cond.methodLink RX6 59 yX6_isHung, Cond.instanceMethod yX6_isHung, Cond.selects RX6 yX6_isHung yX6_isHung, Cond.code yX6_isHung cX6_isHung 3 (some .boolean), Cond.methodLink RX6 70 yX6_hang, Cond.instanceMethod yX6_hang, Cond.selects RX6 yX6_hang yX6_hang, Cond.code yX6_hang cX6_hang 3 none]
def wsX6_until_r5 : List Cond := [Cond.methodLink RX6 145 yX6_bringBack, Cond.instanceMethod yX6_bringBack, Cond.selects RX6 yX6_bringBack yX6_bringBack, Cond.code yX6_bringBack cX6_bringBack 1 none]
def wsX6_until : List Cond := .code yX6_until cX6_until 3 (some .int) :: ((wsX6_until_r1 ++ (wsX6_until_r2 ++ (wsX6_until_r3 ++ (wsX6_until_r4 ++ wsX6_until_r5)))) ++ wsX60)
def wsX6_advise_r1 : List Cond := [Cond.fieldLink RX6 28 "GlassRopesModel" "thrown" "I", Cond.fieldLink RX6 22 "GlassRopesModel" "now" "[I", Cond.methodLink RX6 67 yX6_isRope, Cond.instanceMethod yX6_isRope, Cond.selects RX6 yX6_isRope yX6_isRope, Cond.initialized RX6, Cond.code yX6_isRope cX6_isRope 2 (some .boolean), Cond.fieldLink RX6 39 "GlassRopesModel" "ropes" "I", Cond.methodLink RX6 35 yX6_isIn, Cond.static yX6_isIn, Cond.code yX6_isIn cX6_isIn 3 (some .boolean), Cond.methodLink RX6 55 yX6_fail, Cond.instanceMethod yX6_fail, Cond.selects RX6 yX6_fail yX6_fail, Cond.code yX6_fail cX6_fail 2 (some .int), Cond.methodLink RX6 139 yX6_nextFeast, Cond.instanceMethod yX6_nextFeast, Cond.selects RX6 yX6_nextFeast yX6_nextFeast, Cond.code yX6_nextFeast cX6_nextFeast 2 (some .int), Cond.methodLink RX6 108 yX6_isFeastOn, Cond.instanceMethod yX6_isFeastOn, Cond.selects RX6 yX6_isFeastOn yX6_isFeastOn, Cond.code yX6_isFeastOn cX6_isFeastOn 3 (some .boolean), Cond.fieldLink RX6 46 "GlassRopesModel" "feasts" "I"]
def wsX6_advise_r2 : List Cond := [Cond.fieldLink RX6 16 "GlassRopesModel" "every" "[I", Cond.fieldLink RX6 19 "GlassRopesModel" "on" "[I", Cond.methodLink RX6 142 yX6_keep, Cond.instanceMethod yX6_keep, Cond.selects RX6 yX6_keep yX6_keep, Cond.code yX6_keep cX6_keep 1 none, Cond.fieldLink RX6 25 "GlassRopesModel" "kept" "[I", Cond.methodLink RX6 49 arraycopyName, Cond.native arraycopyName, Cond.static arraycopyName, Cond.initialized "java/lang/System", Cond.methodLink RX6 42 yX6_ro, Cond.instanceMethod yX6_ro, Cond.selects RX6 yX6_ro yX6_ro, Cond.code yX6_ro cX6_ro 3 (some .int), Cond.methodLink RX6 59 yX6_isHung, Cond.instanceMethod yX6_isHung, Cond.selects RX6 yX6_isHung yX6_isHung, Cond.code yX6_isHung cX6_isHung 3 (some .boolean), Cond.methodLink RX6 70 yX6_hang, Cond.instanceMethod yX6_hang, Cond.selects RX6 yX6_hang yX6_hang, Cond.code yX6_hang cX6_hang 3 none, Cond.methodLink RX6 63 yX6_let]
def wsX6_advise_r3 : List Cond := [Cond.instanceMethod yX6_let, Cond.selects RX6 yX6_let yX6_let, Cond.code yX6_let cX6_let 4 none, Cond.methodLink RX6 121 yX6_daysOn, Cond.instanceMethod yX6_daysOn, Cond.selects RX6 yX6_daysOn yX6_daysOn, Cond.code yX6_daysOn cX6_daysOn 3 none, Cond.methodLink RX6 118 yX6_dayOn, Cond.instanceMethod yX6_dayOn, Cond.selects RX6 yX6_dayOn yX6_dayOn, Cond.code yX6_dayOn cX6_dayOn 4 none, Cond.methodLink RX6 98 Lib.Math.min.name, Cond.static Lib.Math.min.name, Cond.initialized "java/lang/Math", Cond.code Lib.Math.min.name Lib.Math.min.code 2 (some .int), Cond.methodLink RX6 105 yX6_blown, Cond.instanceMethod yX6_blown, Cond.selects RX6 yX6_blown yX6_blown, Cond.code yX6_blown cX6_blown 2 (some .int), Cond.methodLink RX6 83 Lib.Math.max.name, Cond.static Lib.Math.max.name, Cond.code Lib.Math.max.name Lib.Math.max.code 2 (some .int), Cond.methodLink RX6 80 yX6_pane, Cond.static yX6_pane]
def wsX6_advise_r4 : List Cond := [Cond.code yX6_pane cX6_pane 2 (some .int), Cond.methodLink RX6 111 yX6_allBring, Cond.instanceMethod yX6_allBring, Cond.selects RX6 yX6_allBring yX6_allBring, Cond.code yX6_allBring cX6_allBring 3 (some .int), Cond.fieldLink RX6 32 "GlassRopesModel" "windows" "I", Cond.methodLink RX6 95 yX6_brings, Cond.instanceMethod yX6_brings, Cond.selects RX6 yX6_brings yX6_brings, Cond.code yX6_brings cX6_brings 2 (some .int), Cond.methodLink RX6 77 yX6_wi, Cond.instanceMethod yX6_wi, Cond.selects RX6 yX6_wi yX6_wi, Cond.code yX6_wi cX6_wi 3 (some .int), Cond.fieldLink RX6 9 "GlassRopesModel" "told" "[I", Cond.methodLink RX6 88 yX6_panes, Cond.instanceMethod yX6_panes, Cond.selects RX6 yX6_panes yX6_panes, Cond.code yX6_panes cX6_panes 2 (some .int), Cond.methodLink RX6 91 yX6_sootOf, Cond.instanceMethod yX6_sootOf, Cond.selects RX6 yX6_sootOf yX6_sootOf, Cond.code yX6_sootOf cX6_sootOf 7 (some .int), Cond.methodLink RX6 115 yX6_work]
def wsX6_advise_r5 : List Cond := [Cond.instanceMethod yX6_work, Cond.selects RX6 yX6_work yX6_work, Cond.code yX6_work cX6_work 5 none, Cond.fieldLink RX6 13 "GlassRopesModel" "strengths" "[I", Cond.methodLink RX6 101 yX6_moveOn, Cond.instanceMethod yX6_moveOn, Cond.selects RX6 yX6_moveOn yX6_moveOn, Cond.code yX6_moveOn cX6_moveOn 3 none, Cond.methodLink RX6 145 yX6_bringBack, Cond.instanceMethod yX6_bringBack, Cond.selects RX6 yX6_bringBack yX6_bringBack, Cond.code yX6_bringBack cX6_bringBack 1 none]
def wsX6_advise : List Cond := .code yX6_advise cX6_advise 7 (some .int) :: ((wsX6_advise_r1 ++ (wsX6_advise_r2 ++ (wsX6_advise_r3 ++ (wsX6_advise_r4 ++ wsX6_advise_r5)))) ++ wsX60)
def wsX6_mean : List Cond := .code yX6_mean cX6_mean 1 (some .double) :: ([.fieldLink RX6 28 "GlassRopesModel" "thrown" "I", .constantDouble RX6 148 (4636455816377925632), .methodLink RX6 130 yX6_allSoot, .instanceMethod yX6_allSoot, .selects RX6 yX6_allSoot yX6_allSoot, .initialized RX6, .code yX6_allSoot cX6_allSoot 3 (some .int), .fieldLink RX6 22 "GlassRopesModel" "now" "[I"] ++ wsX60)
def wsX6_digest_r1 : List Cond := [Cond.fieldLink RX6 28 "GlassRopesModel" "thrown" "I", Cond.constantLong RX6 150 (1823), Cond.constantLong RX6 152 (31), Cond.fieldLink RX6 32 "GlassRopesModel" "windows" "I", Cond.fieldLink RX6 39 "GlassRopesModel" "ropes" "I", Cond.fieldLink RX6 22 "GlassRopesModel" "now" "[I", Cond.methodLink RX6 136 yX6_counted, Cond.instanceMethod yX6_counted, Cond.selects RX6 yX6_counted yX6_counted, Cond.initialized RX6, Cond.code yX6_counted cX6_counted 4 (some .int), Cond.fieldLink RX6 46 "GlassRopesModel" "feasts" "I", Cond.methodLink RX6 130 yX6_allSoot, Cond.instanceMethod yX6_allSoot, Cond.selects RX6 yX6_allSoot yX6_allSoot, Cond.code yX6_allSoot cX6_allSoot 3 (some .int), Cond.methodLink RX6 133 yX6_cleaned, Cond.instanceMethod yX6_cleaned, Cond.selects RX6 yX6_cleaned yX6_cleaned, Cond.code yX6_cleaned cX6_cleaned 3 (some .int), Cond.methodLink RX6 42 yX6_ro, Cond.instanceMethod yX6_ro, Cond.selects RX6 yX6_ro yX6_ro, Cond.code yX6_ro cX6_ro 3 (some .int)]
def wsX6_digest_r2 : List Cond := [Cond.methodLink RX6 111 yX6_allBring, Cond.instanceMethod yX6_allBring, Cond.selects RX6 yX6_allBring yX6_allBring, Cond.code yX6_allBring cX6_allBring 3 (some .int), Cond.methodLink RX6 95 yX6_brings, Cond.instanceMethod yX6_brings, Cond.selects RX6 yX6_brings yX6_brings, Cond.code yX6_brings cX6_brings 2 (some .int), Cond.methodLink RX6 83 Lib.Math.max.name, Cond.static Lib.Math.max.name, Cond.initialized "java/lang/Math", Cond.code Lib.Math.max.name Lib.Math.max.code 2 (some .int), Cond.methodLink RX6 77 yX6_wi, Cond.instanceMethod yX6_wi, Cond.selects RX6 yX6_wi yX6_wi, Cond.code yX6_wi cX6_wi 3 (some .int), Cond.fieldLink RX6 9 "GlassRopesModel" "told" "[I", Cond.methodLink RX6 88 yX6_panes, Cond.instanceMethod yX6_panes, Cond.selects RX6 yX6_panes yX6_panes, Cond.code yX6_panes cX6_panes 2 (some .int), Cond.methodLink RX6 91 yX6_sootOf, Cond.instanceMethod yX6_sootOf, Cond.selects RX6 yX6_sootOf yX6_sootOf]
def wsX6_digest_r3 : List Cond := [Cond.code yX6_sootOf cX6_sootOf 7 (some .int), Cond.methodLink RX6 80 yX6_pane, Cond.static yX6_pane, Cond.code yX6_pane cX6_pane 2 (some .int), Cond.methodLink RX6 124 yX6_windowTold, Cond.instanceMethod yX6_windowTold, Cond.selects RX6 yX6_windowTold yX6_windowTold, Cond.code yX6_windowTold cX6_windowTold 3 (some .int), Cond.methodLink RX6 127 yX6_ropeTold, Cond.instanceMethod yX6_ropeTold, Cond.selects RX6 yX6_ropeTold yX6_ropeTold, Cond.code yX6_ropeTold cX6_ropeTold 3 (some .int), Cond.fieldLink RX6 13 "GlassRopesModel" "strengths" "[I"]
def wsX6_digest : List Cond := .code yX6_digest cX6_digest 5 (some .long) :: ((wsX6_digest_r1 ++ (wsX6_digest_r2 ++ wsX6_digest_r3)) ++ wsX60)
def wsJ9_max_7cf53 : List Cond := .code yJ9_max_7cf53 cJ9_max_7cf53 2 (some .int) :: ([])
def wsJ9_min_7cf53 : List Cond := .code yJ9_min_7cf53 cJ9_min_7cf53 2 (some .int) :: ([])
def wsL_window_r1 : List Cond := [Cond.classLink RL 13 "java/lang/IllegalArgumentException", Cond.classLink RL 15 "java/lang/IndexOutOfBoundsException", Cond.classLink RL 17 "java/lang/IllegalStateException", Cond.methodLink RL 7 yX5_window, Cond.instanceMethod yX5_window, Cond.selects RX5 yX5_window yX5_window, Cond.initialized RX5, Cond.code yX5_window cX5_window 6 (some .int), Cond.classLink RX5 33 "java/lang/IllegalArgumentException", Cond.initialized "java/lang/IllegalArgumentException", Cond.classLink RX5 40 "java/lang/IndexOutOfBoundsException", Cond.initialized "java/lang/IndexOutOfBoundsException", Cond.classLink RX5 49 "java/lang/IllegalStateException", Cond.initialized "java/lang/IllegalStateException", Cond.fieldLink RX5 12 "GlassRopes" "windows" "LGlassRopes$Windows;", Cond.methodLink RX5 54 yX4_put, Cond.instanceMethod yX4_put, Cond.selects RX4 yX4_put yX4_put, Cond.initialized RX4, Cond.code yX4_put cX4_put 6 (some .int), Cond.fieldLink RX4 15 "GlassRopes$Windows" "x" "[I", Cond.fieldLink RX4 9 "GlassRopes$Windows" "size" "I", Cond.fieldLink RX4 19 "GlassRopes$Windows" "y" "[I", Cond.fieldLink RX4 22 "GlassRopes$Windows" "width" "[I"]
def wsL_window_r2 : List Cond := [Cond.fieldLink RX4 25 "GlassRopes$Windows" "height" "[I", Cond.fieldLink RX4 28 "GlassRopes$Windows" "worth" "[I"]
def wsL_window : List Cond := .codeWith yL_window cL_window 8 (some .int) [(0, 16, 19, 13), (0, 16, 23, 15), (0, 16, 27, 17)] :: ((wsL_window_r1 ++ wsL_window_r2) ++ wsX50 ++ wsX40 ++ (vx_atS RX5 37 "java/lang/IllegalArgumentException" ["java/lang/RuntimeException", "java/lang/Exception"]).filter goodWord ++ (vx_atS RX5 44 "java/lang/IndexOutOfBoundsException" ["java/lang/RuntimeException", "java/lang/Exception"]).filter goodWord ++ (vx_atS RX5 53 "java/lang/IllegalStateException" ["java/lang/RuntimeException", "java/lang/Exception"]).filter goodWord)
def wsL_rope_r1 : List Cond := [Cond.classLink RL 15 "java/lang/IndexOutOfBoundsException", Cond.classLink RL 13 "java/lang/IllegalArgumentException", Cond.classLink RL 17 "java/lang/IllegalStateException", Cond.methodLink RL 19 yX5_rope, Cond.instanceMethod yX5_rope, Cond.selects RX5 yX5_rope yX5_rope, Cond.initialized RX5, Cond.code yX5_rope cX5_rope 4 (some .int), Cond.classLink RX5 40 "java/lang/IndexOutOfBoundsException", Cond.initialized "java/lang/IndexOutOfBoundsException", Cond.classLink RX5 33 "java/lang/IllegalArgumentException", Cond.initialized "java/lang/IllegalArgumentException", Cond.classLink RX5 49 "java/lang/IllegalStateException", Cond.initialized "java/lang/IllegalStateException", Cond.fieldLink RX5 26 "GlassRopes" "now" "LGlassRopes$Course;", Cond.methodLink RX5 58 yX5_isColumn, Cond.static yX5_isColumn, Cond.code yX5_isColumn cX5_isColumn 1 (some .boolean), Cond.methodLink RX5 73 yX3_hangAt, Cond.instanceMethod yX3_hangAt, Cond.selects RX3 yX3_hangAt yX3_hangAt, Cond.initialized RX3, Cond.code yX3_hangAt cX3_hangAt 3 (some .boolean), Cond.fieldLink RX3 9 "GlassRopes$Ropes" "size" "I"]
def wsL_rope_r2 : List Cond := [Cond.fieldLink RX3 15 "GlassRopes$Ropes" "column" "[I", Cond.methodLink RX5 78 yX3_put, Cond.instanceMethod yX3_put, Cond.selects RX3 yX3_put yX3_put, Cond.code yX3_put cX3_put 4 (some .int), Cond.fieldLink RX3 22 "GlassRopes$Ropes" "strength" "[I", Cond.fieldLink RX3 25 "GlassRopes$Ropes" "toRight" "[Z"]
def wsL_rope : List Cond := .codeWith yL_rope cL_rope 6 (some .int) [(0, 12, 15, 15), (0, 12, 19, 13), (0, 12, 23, 17)] :: ((wsL_rope_r1 ++ wsL_rope_r2) ++ wsX50 ++ wsX00 ++ wsX30 ++ (vx_atS RX5 44 "java/lang/IndexOutOfBoundsException" ["java/lang/RuntimeException", "java/lang/Exception"]).filter goodWord ++ (vx_atS RX5 37 "java/lang/IllegalArgumentException" ["java/lang/RuntimeException", "java/lang/Exception"]).filter goodWord ++ (vx_atS RX5 53 "java/lang/IllegalStateException" ["java/lang/RuntimeException", "java/lang/Exception"]).filter goodWord)
def wsL_feast : List Cond := .codeWith yL_feast cL_feast 5 (some .int) [(0, 10, 13, 13), (0, 10, 17, 17)] :: ([.classLink RL 13 "java/lang/IllegalArgumentException", .classLink RL 17 "java/lang/IllegalStateException", .methodLink RL 23 yX5_feast, .instanceMethod yX5_feast, .selects RX5 yX5_feast yX5_feast, .initialized RX5, .code yX5_feast cX5_feast 3 (some .int), .classLink RX5 33 "java/lang/IllegalArgumentException", .initialized "java/lang/IllegalArgumentException", .classLink RX5 49 "java/lang/IllegalStateException", .initialized "java/lang/IllegalStateException", .fieldLink RX5 19 "GlassRopes" "feasts" "LGlassRopes$Feasts;", .methodLink RX5 86 yX1_put, .instanceMethod yX1_put, .selects RX1 yX1_put yX1_put, .initialized RX1, .code yX1_put cX1_put 3 (some .int), .fieldLink RX1 15 "GlassRopes$Feasts" "every" "[I", .fieldLink RX1 9 "GlassRopes$Feasts" "size" "I", .fieldLink RX1 19 "GlassRopes$Feasts" "on" "[I"] ++ wsX50 ++ wsX10 ++ (vx_atS RX5 37 "java/lang/IllegalArgumentException" ["java/lang/RuntimeException", "java/lang/Exception"]).filter goodWord ++ (vx_atS RX5 53 "java/lang/IllegalStateException" ["java/lang/RuntimeException", "java/lang/Exception"]).filter goodWord)
def wsL_setWind : List Cond := .codeWith yL_setWind cL_setWind 4 (some .int) [(0, 9, 12, 13)] :: ([.classLink RL 13 "java/lang/IllegalArgumentException", .methodLink RL 27 yX5_setWind, .instanceMethod yX5_setWind, .selects RX5 yX5_setWind yX5_setWind, .initialized RX5, .code yX5_setWind cX5_setWind 3 (some .int), .classLink RX5 33 "java/lang/IllegalArgumentException", .initialized "java/lang/IllegalArgumentException", .fieldLink RX5 26 "GlassRopes" "now" "LGlassRopes$Course;"] ++ wsX50 ++ wsX00 ++ (vx_atS RX5 37 "java/lang/IllegalArgumentException" ["java/lang/RuntimeException", "java/lang/Exception"]).filter goodWord)
def wsL_move_r1 : List Cond := [Cond.classLink RL 15 "java/lang/IndexOutOfBoundsException", Cond.classLink RL 17 "java/lang/IllegalStateException", Cond.methodLink RL 31 yX5_move, Cond.instanceMethod yX5_move, Cond.selects RX5 yX5_move yX5_move, Cond.initialized RX5, Cond.code yX5_move cX5_move 4 (some .int), Cond.classLink RX5 40 "java/lang/IndexOutOfBoundsException", Cond.initialized "java/lang/IndexOutOfBoundsException", Cond.classLink RX5 49 "java/lang/IllegalStateException", Cond.initialized "java/lang/IllegalStateException", Cond.fieldLink RX5 26 "GlassRopes" "now" "LGlassRopes$Course;", Cond.methodLink RX5 94 yX5_isRope, Cond.instanceMethod yX5_isRope, Cond.selects RX5 yX5_isRope yX5_isRope, Cond.code yX5_isRope cX5_isRope 2 (some .boolean), Cond.methodLink RX5 58 yX5_isColumn, Cond.static yX5_isColumn, Cond.code yX5_isColumn cX5_isColumn 1 (some .boolean), Cond.methodLink RX5 73 yX3_hangAt, Cond.instanceMethod yX3_hangAt, Cond.selects RX3 yX3_hangAt yX3_hangAt, Cond.initialized RX3, Cond.code yX3_hangAt cX3_hangAt 3 (some .boolean)]
def wsL_move_r2 : List Cond := [Cond.fieldLink RX3 9 "GlassRopes$Ropes" "size" "I", Cond.fieldLink RX3 15 "GlassRopes$Ropes" "column" "[I", Cond.methodLink RX5 105 yX3_rehang, Cond.instanceMethod yX3_rehang, Cond.selects RX3 yX3_rehang yX3_rehang, Cond.code yX3_rehang cX3_rehang 3 none, Cond.fieldLink RX3 19 "GlassRopes$Ropes" "row" "[I", Cond.fieldLink RX3 32 "GlassRopes$Ropes" "moved" "[I"]
def wsL_move : List Cond := .codeWith yL_move cL_move 5 (some .int) [(0, 10, 13, 15), (0, 10, 17, 17)] :: ((wsL_move_r1 ++ wsL_move_r2) ++ wsX50 ++ wsX00 ++ wsX30 ++ (vx_atS RX5 44 "java/lang/IndexOutOfBoundsException" ["java/lang/RuntimeException", "java/lang/Exception"]).filter goodWord ++ (vx_atS RX5 53 "java/lang/IllegalStateException" ["java/lang/RuntimeException", "java/lang/Exception"]).filter goodWord)
def wsL_turn : List Cond := .codeWith yL_turn cL_turn 4 (some .int) [(0, 16, 19, 15)] :: ([.classLink RL 15 "java/lang/IndexOutOfBoundsException", .methodLink RL 34 yX5_turn, .instanceMethod yX5_turn, .selects RX5 yX5_turn yX5_turn, .initialized RX5, .code yX5_turn cX5_turn 2 (some .boolean), .classLink RX5 40 "java/lang/IndexOutOfBoundsException", .initialized "java/lang/IndexOutOfBoundsException", .fieldLink RX5 26 "GlassRopes" "now" "LGlassRopes$Course;", .methodLink RX5 94 yX5_isRope, .instanceMethod yX5_isRope, .selects RX5 yX5_isRope yX5_isRope, .code yX5_isRope cX5_isRope 2 (some .boolean)] ++ wsX50 ++ wsX00 ++ wsX30 ++ (vx_atS RX5 44 "java/lang/IndexOutOfBoundsException" ["java/lang/RuntimeException", "java/lang/Exception"]).filter goodWord)
def wsL_wipe_r1 : List Cond := [Cond.classLink RL 15 "java/lang/IndexOutOfBoundsException", Cond.methodLink RL 38 yX5_wipe, Cond.instanceMethod yX5_wipe, Cond.selects RX5 yX5_wipe yX5_wipe, Cond.initialized RX5, Cond.code yX5_wipe cX5_wipe 2 (some .int), Cond.classLink RX5 40 "java/lang/IndexOutOfBoundsException", Cond.initialized "java/lang/IndexOutOfBoundsException", Cond.fieldLink RX5 12 "GlassRopes" "windows" "LGlassRopes$Windows;", Cond.fieldLink RX5 26 "GlassRopes" "now" "LGlassRopes$Course;", Cond.methodLink RX5 115 yX5_isWindow, Cond.instanceMethod yX5_isWindow, Cond.selects RX5 yX5_isWindow yX5_isWindow, Cond.code yX5_isWindow cX5_isWindow 2 (some .boolean), Cond.methodLink RX5 124 yX4_wipeOff, Cond.instanceMethod yX4_wipeOff, Cond.selects RX4 yX4_wipeOff yX4_wipeOff, Cond.initialized RX4, Cond.code yX4_wipeOff cX4_wipeOff 6 (some .int), Cond.fieldLink RX4 15 "GlassRopes$Windows" "x" "[I", Cond.fieldLink RX4 22 "GlassRopes$Windows" "width" "[I", Cond.fieldLink RX4 19 "GlassRopes$Windows" "y" "[I", Cond.fieldLink RX4 25 "GlassRopes$Windows" "height" "[I", Cond.methodLink RX4 56 yX2_takeOff]
def wsL_wipe_r2 : List Cond := [Cond.instanceMethod yX2_takeOff, Cond.selects RX2 yX2_takeOff yX2_takeOff, Cond.initialized RX2, Cond.code yX2_takeOff cX2_takeOff 6 (some .int), Cond.fieldLink RX2 9 "GlassRopes$Glass" "soot" "[I", Cond.methodLink RX2 25 Lib.Math.min.name, Cond.static Lib.Math.min.name, Cond.initialized "java/lang/Math", Cond.code Lib.Math.min.name Lib.Math.min.code 2 (some .int)]
def wsL_wipe : List Cond := .codeWith yL_wipe cL_wipe 4 (some .int) [(0, 9, 12, 15)] :: ((wsL_wipe_r1 ++ wsL_wipe_r2) ++ wsX50 ++ wsX00 ++ wsX40 ++ wsX20 ++ (vx_atS RX5 44 "java/lang/IndexOutOfBoundsException" ["java/lang/RuntimeException", "java/lang/Exception"]).filter goodWord)
def wsL_pass_r1 : List Cond := [Cond.classLink RL 13 "java/lang/IllegalArgumentException", Cond.methodLink RL 41 yX5_pass, Cond.instanceMethod yX5_pass, Cond.selects RX5 yX5_pass yX5_pass, Cond.initialized RX5, Cond.code yX5_pass cX5_pass 3 (some .int), Cond.classLink RX5 33 "java/lang/IllegalArgumentException", Cond.initialized "java/lang/IllegalArgumentException", Cond.fieldLink RX5 26 "GlassRopes" "now" "LGlassRopes$Course;", Cond.fieldLink RX5 12 "GlassRopes" "windows" "LGlassRopes$Windows;", Cond.fieldLink RX5 19 "GlassRopes" "feasts" "LGlassRopes$Feasts;", Cond.methodLink RX5 133 yX0_goOn, Cond.instanceMethod yX0_goOn, Cond.selects RX0 yX0_goOn yX0_goOn, Cond.initialized RX0, Cond.code yX0_goOn cX0_goOn 5 none, Cond.methodLink RX0 43 yX0_goOneDay, Cond.instanceMethod yX0_goOneDay, Cond.selects RX0 yX0_goOneDay yX0_goOneDay, Cond.code yX0_goOneDay cX0_goOneDay 3 none, Cond.fieldLink RX0 10 "GlassRopes$Course" "glass" "LGlassRopes$Glass;", Cond.fieldLink RX0 23 "GlassRopes$Course" "wind" "I", Cond.fieldLink RX0 27 "GlassRopes$Course" "day" "I", Cond.fieldLink RX0 30 "GlassRopes$Course" "coins" "I"]
def wsL_pass_r2 : List Cond := [Cond.fieldLink RX0 33 "GlassRopes$Course" "feastDays" "I", Cond.fieldLink RX0 19 "GlassRopes$Course" "ropes" "LGlassRopes$Ropes;", Cond.methodLink RX0 47 yX2_gather, Cond.instanceMethod yX2_gather, Cond.selects RX2 yX2_gather yX2_gather, Cond.initialized RX2, Cond.code yX2_gather cX2_gather 6 none, Cond.fieldLink RX2 9 "GlassRopes$Glass" "soot" "[I", Cond.methodLink RX2 25 Lib.Math.min.name, Cond.static Lib.Math.min.name, Cond.initialized "java/lang/Math", Cond.code Lib.Math.min.name Lib.Math.min.code 2 (some .int), Cond.methodLink RX2 21 yX2_broughtTo, Cond.static yX2_broughtTo, Cond.code yX2_broughtTo cX2_broughtTo 3 (some .int), Cond.methodLink RX2 30 Lib.Math.max.name, Cond.static Lib.Math.max.name, Cond.code Lib.Math.max.name Lib.Math.max.code 2 (some .int), Cond.methodLink RX0 51 yX1_areOn, Cond.instanceMethod yX1_areOn, Cond.selects RX1 yX1_areOn yX1_areOn, Cond.initialized RX1, Cond.code yX1_areOn cX1_areOn 4 (some .boolean), Cond.fieldLink RX1 9 "GlassRopes$Feasts" "size" "I"]
def wsL_pass_r3 : List Cond := [Cond.fieldLink RX1 15 "GlassRopes$Feasts" "every" "[I", Cond.fieldLink RX1 19 "GlassRopes$Feasts" "on" "[I", Cond.methodLink RX0 57 yX4_allBring, Cond.instanceMethod yX4_allBring, Cond.selects RX4 yX4_allBring yX4_allBring, Cond.initialized RX4, Cond.code yX4_allBring cX4_allBring 4 (some .int), Cond.fieldLink RX4 9 "GlassRopes$Windows" "size" "I", Cond.methodLink RX4 38 yX4_brings, Cond.instanceMethod yX4_brings, Cond.selects RX4 yX4_brings yX4_brings, Cond.code yX4_brings cX4_brings 3 (some .int), Cond.fieldLink RX4 28 "GlassRopes$Windows" "worth" "[I", Cond.methodLink RX4 47 Lib.Math.max.name, Cond.methodLink RX4 52 yX4_panes, Cond.instanceMethod yX4_panes, Cond.selects RX4 yX4_panes yX4_panes, Cond.code yX4_panes cX4_panes 2 (some .int), Cond.fieldLink RX4 22 "GlassRopes$Windows" "width" "[I", Cond.fieldLink RX4 25 "GlassRopes$Windows" "height" "[I", Cond.methodLink RX4 31 yX4_added, Cond.instanceMethod yX4_added, Cond.selects RX4 yX4_added yX4_added, Cond.code yX4_added cX4_added 6 (some .int)]
def wsL_pass_r4 : List Cond := [Cond.fieldLink RX4 15 "GlassRopes$Windows" "x" "[I", Cond.fieldLink RX4 19 "GlassRopes$Windows" "y" "[I", Cond.methodLink RX4 41 yX2_at, Cond.instanceMethod yX2_at, Cond.selects RX2 yX2_at yX2_at, Cond.code yX2_at cX2_at 3 (some .int), Cond.methodLink RX0 63 yX3_work, Cond.instanceMethod yX3_work, Cond.selects RX3 yX3_work yX3_work, Cond.initialized RX3, Cond.code yX3_work cX3_work 3 none, Cond.fieldLink RX3 9 "GlassRopes$Ropes" "size" "I", Cond.methodLink RX3 35 yX3_workOnOne, Cond.instanceMethod yX3_workOnOne, Cond.selects RX3 yX3_workOnOne yX3_workOnOne, Cond.code yX3_workOnOne cX3_workOnOne 6 none, Cond.fieldLink RX3 22 "GlassRopes$Ropes" "strength" "[I", Cond.fieldLink RX3 15 "GlassRopes$Ropes" "column" "[I", Cond.fieldLink RX3 19 "GlassRopes$Ropes" "row" "[I", Cond.fieldLink RX3 29 "GlassRopes$Ropes" "cleaned" "[I", Cond.methodLink RX3 39 yX2_takeOff, Cond.instanceMethod yX2_takeOff, Cond.selects RX2 yX2_takeOff yX2_takeOff, Cond.code yX2_takeOff cX2_takeOff 6 (some .int)]
def wsL_pass_r5 : List Cond := [Cond.methodLink RX3 45 yX3_nextFreeColumn, Cond.instanceMethod yX3_nextFreeColumn, Cond.selects RX3 yX3_nextFreeColumn yX3_nextFreeColumn, Cond.code yX3_nextFreeColumn cX3_nextFreeColumn 5 (some .int), Cond.fieldLink RX3 25 "GlassRopes$Ropes" "toRight" "[Z", Cond.methodLink RX3 53 yX3_hangAt, Cond.instanceMethod yX3_hangAt, Cond.selects RX3 yX3_hangAt yX3_hangAt, Cond.code yX3_hangAt cX3_hangAt 3 (some .boolean), Cond.methodLink RX3 49 yX3_rehang, Cond.instanceMethod yX3_rehang, Cond.selects RX3 yX3_rehang yX3_rehang, Cond.code yX3_rehang cX3_rehang 3 none, Cond.fieldLink RX3 32 "GlassRopes$Ropes" "moved" "[I"]
def wsL_pass : List Cond := .codeWith yL_pass cL_pass 4 (some .int) [(0, 9, 12, 13)] :: ((wsL_pass_r1 ++ (wsL_pass_r2 ++ (wsL_pass_r3 ++ (wsL_pass_r4 ++ wsL_pass_r5)))) ++ wsX50 ++ wsX00 ++ wsX20 ++ wsX10 ++ wsX40 ++ wsX30 ++ (vx_atS RX5 37 "java/lang/IllegalArgumentException" ["java/lang/RuntimeException", "java/lang/Exception"]).filter goodWord)
def wsL_soot : List Cond := .codeWith yL_soot cL_soot 5 (some .int) [(0, 10, 13, 15)] :: ([.classLink RL 15 "java/lang/IndexOutOfBoundsException", .methodLink RL 44 yX5_soot, .instanceMethod yX5_soot, .selects RX5 yX5_soot yX5_soot, .initialized RX5, .code yX5_soot cX5_soot 3 (some .int), .classLink RX5 40 "java/lang/IndexOutOfBoundsException", .initialized "java/lang/IndexOutOfBoundsException", .fieldLink RX5 26 "GlassRopes" "now" "LGlassRopes$Course;", .methodLink RX5 58 yX5_isColumn, .static yX5_isColumn, .code yX5_isColumn cX5_isColumn 1 (some .boolean), .methodLink RX5 139 yX2_at, .instanceMethod yX2_at, .selects RX2 yX2_at yX2_at, .initialized RX2, .code yX2_at cX2_at 3 (some .int), .fieldLink RX2 9 "GlassRopes$Glass" "soot" "[I"] ++ wsX50 ++ wsX00 ++ wsX20 ++ (vx_atS RX5 44 "java/lang/IndexOutOfBoundsException" ["java/lang/RuntimeException", "java/lang/Exception"]).filter goodWord)
def wsL_about_r1 : List Cond := [Cond.classLink RL 15 "java/lang/IndexOutOfBoundsException", Cond.methodLink RL 47 yX5_about, Cond.instanceMethod yX5_about, Cond.selects RX5 yX5_about yX5_about, Cond.initialized RX5, Cond.code yX5_about cX5_about 3 (some .int), Cond.classLink RX5 40 "java/lang/IndexOutOfBoundsException", Cond.initialized "java/lang/IndexOutOfBoundsException", Cond.fieldLink RX5 12 "GlassRopes" "windows" "LGlassRopes$Windows;", Cond.fieldLink RX5 26 "GlassRopes" "now" "LGlassRopes$Course;", Cond.methodLink RX5 115 yX5_isWindow, Cond.instanceMethod yX5_isWindow, Cond.selects RX5 yX5_isWindow yX5_isWindow, Cond.code yX5_isWindow cX5_isWindow 2 (some .boolean), Cond.methodLink RX5 146 yX4_number, Cond.instanceMethod yX4_number, Cond.selects RX4 yX4_number yX4_number, Cond.initialized RX4, Cond.code yX4_number cX4_number 4 (some .int), Cond.fieldLink RX4 15 "GlassRopes$Windows" "x" "[I", Cond.fieldLink RX4 19 "GlassRopes$Windows" "y" "[I", Cond.fieldLink RX4 22 "GlassRopes$Windows" "width" "[I", Cond.fieldLink RX4 25 "GlassRopes$Windows" "height" "[I", Cond.fieldLink RX4 28 "GlassRopes$Windows" "worth" "[I"]
def wsL_about_r2 : List Cond := [Cond.methodLink RX4 31 yX4_added, Cond.instanceMethod yX4_added, Cond.selects RX4 yX4_added yX4_added, Cond.code yX4_added cX4_added 6 (some .int), Cond.methodLink RX4 41 yX2_at, Cond.instanceMethod yX2_at, Cond.selects RX2 yX2_at yX2_at, Cond.initialized RX2, Cond.code yX2_at cX2_at 3 (some .int), Cond.fieldLink RX2 9 "GlassRopes$Glass" "soot" "[I", Cond.methodLink RX4 35 yX4_darkest, Cond.instanceMethod yX4_darkest, Cond.selects RX4 yX4_darkest yX4_darkest, Cond.code yX4_darkest cX4_darkest 6 (some .int), Cond.methodLink RX4 47 Lib.Math.max.name, Cond.static Lib.Math.max.name, Cond.initialized "java/lang/Math", Cond.code Lib.Math.max.name Lib.Math.max.code 2 (some .int), Cond.methodLink RX4 38 yX4_brings, Cond.instanceMethod yX4_brings, Cond.selects RX4 yX4_brings yX4_brings, Cond.code yX4_brings cX4_brings 3 (some .int), Cond.methodLink RX4 52 yX4_panes, Cond.instanceMethod yX4_panes]
def wsL_about_r3 : List Cond := [Cond.selects RX4 yX4_panes yX4_panes, Cond.code yX4_panes cX4_panes 2 (some .int)]
def wsL_about : List Cond := .codeWith yL_about cL_about 5 (some .int) [(0, 10, 13, 15)] :: ((wsL_about_r1 ++ (wsL_about_r2 ++ wsL_about_r3)) ++ wsX50 ++ wsX00 ++ wsX40 ++ wsX20 ++ (vx_atS RX5 44 "java/lang/IndexOutOfBoundsException" ["java/lang/RuntimeException", "java/lang/Exception"]).filter goodWord)
def wsL_told : List Cond := .codeWith yL_told cL_told 5 (some .int) [(0, 10, 13, 15)] :: ([.classLink RL 15 "java/lang/IndexOutOfBoundsException", .methodLink RL 50 yX5_told, .instanceMethod yX5_told, .selects RX5 yX5_told yX5_told, .initialized RX5, .code yX5_told cX5_told 3 (some .int), .classLink RX5 40 "java/lang/IndexOutOfBoundsException", .initialized "java/lang/IndexOutOfBoundsException", .fieldLink RX5 26 "GlassRopes" "now" "LGlassRopes$Course;", .methodLink RX5 94 yX5_isRope, .instanceMethod yX5_isRope, .selects RX5 yX5_isRope yX5_isRope, .code yX5_isRope cX5_isRope 2 (some .boolean), .methodLink RX5 152 yX3_number, .instanceMethod yX3_number, .selects RX3 yX3_number yX3_number, .initialized RX3, .code yX3_number cX3_number 3 (some .int), .fieldLink RX3 15 "GlassRopes$Ropes" "column" "[I", .fieldLink RX3 19 "GlassRopes$Ropes" "row" "[I", .fieldLink RX3 22 "GlassRopes$Ropes" "strength" "[I", .fieldLink RX3 25 "GlassRopes$Ropes" "toRight" "[Z", .fieldLink RX3 29 "GlassRopes$Ropes" "cleaned" "[I", .fieldLink RX3 32 "GlassRopes$Ropes" "moved" "[I"] ++ wsX50 ++ wsX00 ++ wsX30 ++ (vx_atS RX5 44 "java/lang/IndexOutOfBoundsException" ["java/lang/RuntimeException", "java/lang/Exception"]).filter goodWord)
def wsL_count_r1 : List Cond := [Cond.classLink RL 15 "java/lang/IndexOutOfBoundsException", Cond.methodLink RL 53 yX5_count, Cond.instanceMethod yX5_count, Cond.selects RX5 yX5_count yX5_count, Cond.initialized RX5, Cond.code yX5_count cX5_count 2 (some .int), Cond.classLink RX5 40 "java/lang/IndexOutOfBoundsException", Cond.initialized "java/lang/IndexOutOfBoundsException", Cond.methodLink RX5 156 yX5_number, Cond.instanceMethod yX5_number, Cond.selects RX5 yX5_number yX5_number, Cond.code yX5_number cX5_number 2 (some .int), Cond.fieldLink RX5 26 "GlassRopes" "now" "LGlassRopes$Course;", Cond.fieldLink RX5 12 "GlassRopes" "windows" "LGlassRopes$Windows;", Cond.fieldLink RX5 19 "GlassRopes" "feasts" "LGlassRopes$Feasts;", Cond.methodLink RX5 172 yX2_total, Cond.instanceMethod yX2_total, Cond.selects RX2 yX2_total yX2_total, Cond.initialized RX2, Cond.code yX2_total cX2_total 3 (some .int), Cond.fieldLink RX2 9 "GlassRopes$Glass" "soot" "[I", Cond.methodLink RX5 199 yX2_cleanPanes, Cond.instanceMethod yX2_cleanPanes, Cond.selects RX2 yX2_cleanPanes yX2_cleanPanes]
def wsL_count_r2 : List Cond := [Cond.code yX2_cleanPanes cX2_cleanPanes 3 (some .int), Cond.methodLink RX5 176 yX3_allCleaned, Cond.instanceMethod yX3_allCleaned, Cond.selects RX3 yX3_allCleaned yX3_allCleaned, Cond.initialized RX3, Cond.code yX3_allCleaned cX3_allCleaned 3 (some .int), Cond.fieldLink RX3 9 "GlassRopes$Ropes" "size" "I", Cond.fieldLink RX3 29 "GlassRopes$Ropes" "cleaned" "[I", Cond.methodLink RX5 205 yX4_allBring, Cond.instanceMethod yX4_allBring, Cond.selects RX4 yX4_allBring yX4_allBring, Cond.initialized RX4, Cond.code yX4_allBring cX4_allBring 4 (some .int), Cond.fieldLink RX4 9 "GlassRopes$Windows" "size" "I", Cond.methodLink RX4 38 yX4_brings, Cond.instanceMethod yX4_brings, Cond.selects RX4 yX4_brings yX4_brings, Cond.code yX4_brings cX4_brings 3 (some .int), Cond.fieldLink RX4 28 "GlassRopes$Windows" "worth" "[I", Cond.methodLink RX4 47 Lib.Math.max.name, Cond.static Lib.Math.max.name, Cond.initialized "java/lang/Math", Cond.code Lib.Math.max.name Lib.Math.max.code 2 (some .int), Cond.methodLink RX4 52 yX4_panes]
def wsL_count_r3 : List Cond := [Cond.instanceMethod yX4_panes, Cond.selects RX4 yX4_panes yX4_panes, Cond.code yX4_panes cX4_panes 2 (some .int), Cond.fieldLink RX4 22 "GlassRopes$Windows" "width" "[I", Cond.fieldLink RX4 25 "GlassRopes$Windows" "height" "[I", Cond.methodLink RX4 31 yX4_added, Cond.instanceMethod yX4_added, Cond.selects RX4 yX4_added yX4_added, Cond.code yX4_added cX4_added 6 (some .int), Cond.fieldLink RX4 15 "GlassRopes$Windows" "x" "[I", Cond.fieldLink RX4 19 "GlassRopes$Windows" "y" "[I", Cond.methodLink RX4 41 yX2_at, Cond.instanceMethod yX2_at, Cond.selects RX2 yX2_at yX2_at, Cond.code yX2_at cX2_at 3 (some .int)]
def wsL_count : List Cond := .codeWith yL_count cL_count 4 (some .int) [(0, 9, 12, 15)] :: ((wsL_count_r1 ++ (wsL_count_r2 ++ wsL_count_r3)) ++ wsX50 ++ wsX00 ++ wsX40 ++ wsX30 ++ wsX10 ++ wsX20 ++ (vx_atS RX5 44 "java/lang/IndexOutOfBoundsException" ["java/lang/RuntimeException", "java/lang/Exception"]).filter goodWord)
def wsL_isFeast : List Cond := .codeWith yL_isFeast cL_isFeast 4 (some .int) [(0, 16, 19, 13)] :: ([.classLink RL 13 "java/lang/IllegalArgumentException", .methodLink RL 56 yX5_isFeast, .instanceMethod yX5_isFeast, .selects RX5 yX5_isFeast yX5_isFeast, .initialized RX5, .code yX5_isFeast cX5_isFeast 2 (some .boolean), .classLink RX5 33 "java/lang/IllegalArgumentException", .initialized "java/lang/IllegalArgumentException", .fieldLink RX5 19 "GlassRopes" "feasts" "LGlassRopes$Feasts;", .fieldLink RX5 26 "GlassRopes" "now" "LGlassRopes$Course;", .methodLink RX5 162 yX1_areOn, .instanceMethod yX1_areOn, .selects RX1 yX1_areOn yX1_areOn, .initialized RX1, .code yX1_areOn cX1_areOn 4 (some .boolean), .fieldLink RX1 9 "GlassRopes$Feasts" "size" "I", .fieldLink RX1 15 "GlassRopes$Feasts" "every" "[I", .fieldLink RX1 19 "GlassRopes$Feasts" "on" "[I"] ++ wsX50 ++ wsX00 ++ wsX10 ++ (vx_atS RX5 37 "java/lang/IllegalArgumentException" ["java/lang/RuntimeException", "java/lang/Exception"]).filter goodWord)
def wsL_would_r1 : List Cond := [Cond.classLink RL 13 "java/lang/IllegalArgumentException", Cond.classLink RL 15 "java/lang/IndexOutOfBoundsException", Cond.methodLink RL 59 yX5_would, Cond.instanceMethod yX5_would, Cond.selects RX5 yX5_would yX5_would, Cond.initialized RX5, Cond.code yX5_would cX5_would 3 (some .int), Cond.classLink RX5 33 "java/lang/IllegalArgumentException", Cond.initialized "java/lang/IllegalArgumentException", Cond.classLink RX5 40 "java/lang/IndexOutOfBoundsException", Cond.initialized "java/lang/IndexOutOfBoundsException", Cond.fieldLink RX5 30 "GlassRopes" "ahead" "LGlassRopes$Course;", Cond.fieldLink RX5 26 "GlassRopes" "now" "LGlassRopes$Course;", Cond.fieldLink RX5 12 "GlassRopes" "windows" "LGlassRopes$Windows;", Cond.fieldLink RX5 19 "GlassRopes" "feasts" "LGlassRopes$Feasts;", Cond.methodLink RX5 168 yX0_copyFrom, Cond.instanceMethod yX0_copyFrom, Cond.selects RX0 yX0_copyFrom yX0_copyFrom, Cond.initialized RX0, Cond.code yX0_copyFrom cX0_copyFrom 2 none, Cond.fieldLink RX0 10 "GlassRopes$Course" "glass" "LGlassRopes$Glass;", Cond.fieldLink RX0 19 "GlassRopes$Course" "ropes" "LGlassRopes$Ropes;", Cond.fieldLink RX0 23 "GlassRopes$Course" "wind" "I", Cond.fieldLink RX0 27 "GlassRopes$Course" "day" "I"]
def wsL_would_r2 : List Cond := [Cond.fieldLink RX0 30 "GlassRopes$Course" "coins" "I", Cond.fieldLink RX0 33 "GlassRopes$Course" "feastDays" "I", Cond.methodLink RX0 36 yX2_copyFrom, Cond.instanceMethod yX2_copyFrom, Cond.selects RX2 yX2_copyFrom yX2_copyFrom, Cond.initialized RX2, Cond.code yX2_copyFrom cX2_copyFrom 2 none, Cond.fieldLink RX2 9 "GlassRopes$Glass" "soot" "[I", Cond.methodLink RX2 15 arraycopyName, Cond.native arraycopyName, Cond.static arraycopyName, Cond.initialized "java/lang/System", Cond.methodLink RX0 40 yX3_copyFrom, Cond.instanceMethod yX3_copyFrom, Cond.selects RX3 yX3_copyFrom yX3_copyFrom, Cond.initialized RX3, Cond.code yX3_copyFrom cX3_copyFrom 3 none, Cond.fieldLink RX3 9 "GlassRopes$Ropes" "size" "I", Cond.fieldLink RX3 15 "GlassRopes$Ropes" "column" "[I", Cond.fieldLink RX3 19 "GlassRopes$Ropes" "row" "[I", Cond.fieldLink RX3 22 "GlassRopes$Ropes" "strength" "[I", Cond.fieldLink RX3 25 "GlassRopes$Ropes" "toRight" "[Z", Cond.fieldLink RX3 29 "GlassRopes$Ropes" "cleaned" "[I", Cond.fieldLink RX3 32 "GlassRopes$Ropes" "moved" "[I"]
def wsL_would_r3 : List Cond := [Cond.methodLink RX5 133 yX0_goOn, Cond.instanceMethod yX0_goOn, Cond.selects RX0 yX0_goOn yX0_goOn, Cond.code yX0_goOn cX0_goOn 5 none, Cond.methodLink RX0 43 yX0_goOneDay, Cond.instanceMethod yX0_goOneDay, Cond.selects RX0 yX0_goOneDay yX0_goOneDay, Cond.code yX0_goOneDay cX0_goOneDay 3 none, Cond.methodLink RX0 47 yX2_gather, Cond.instanceMethod yX2_gather, Cond.selects RX2 yX2_gather yX2_gather, Cond.code yX2_gather cX2_gather 6 none, Cond.methodLink RX2 25 Lib.Math.min.name, Cond.static Lib.Math.min.name, Cond.initialized "java/lang/Math", Cond.code Lib.Math.min.name Lib.Math.min.code 2 (some .int), Cond.methodLink RX2 21 yX2_broughtTo, Cond.static yX2_broughtTo, Cond.code yX2_broughtTo cX2_broughtTo 3 (some .int), Cond.methodLink RX2 30 Lib.Math.max.name, Cond.static Lib.Math.max.name, Cond.code Lib.Math.max.name Lib.Math.max.code 2 (some .int), Cond.methodLink RX0 51 yX1_areOn, Cond.instanceMethod yX1_areOn]
def wsL_would_r4 : List Cond := [Cond.selects RX1 yX1_areOn yX1_areOn, Cond.initialized RX1, Cond.code yX1_areOn cX1_areOn 4 (some .boolean), Cond.fieldLink RX1 9 "GlassRopes$Feasts" "size" "I", Cond.fieldLink RX1 15 "GlassRopes$Feasts" "every" "[I", Cond.fieldLink RX1 19 "GlassRopes$Feasts" "on" "[I", Cond.methodLink RX0 57 yX4_allBring, Cond.instanceMethod yX4_allBring, Cond.selects RX4 yX4_allBring yX4_allBring, Cond.initialized RX4, Cond.code yX4_allBring cX4_allBring 4 (some .int), Cond.fieldLink RX4 9 "GlassRopes$Windows" "size" "I", Cond.methodLink RX4 38 yX4_brings, Cond.instanceMethod yX4_brings, Cond.selects RX4 yX4_brings yX4_brings, Cond.code yX4_brings cX4_brings 3 (some .int), Cond.fieldLink RX4 28 "GlassRopes$Windows" "worth" "[I", Cond.methodLink RX4 47 Lib.Math.max.name, Cond.methodLink RX4 52 yX4_panes, Cond.instanceMethod yX4_panes, Cond.selects RX4 yX4_panes yX4_panes, Cond.code yX4_panes cX4_panes 2 (some .int), Cond.fieldLink RX4 22 "GlassRopes$Windows" "width" "[I", Cond.fieldLink RX4 25 "GlassRopes$Windows" "height" "[I"]
def wsL_would_r5 : List Cond := [Cond.methodLink RX4 31 yX4_added, Cond.instanceMethod yX4_added, Cond.selects RX4 yX4_added yX4_added, Cond.code yX4_added cX4_added 6 (some .int), Cond.fieldLink RX4 15 "GlassRopes$Windows" "x" "[I", Cond.fieldLink RX4 19 "GlassRopes$Windows" "y" "[I", Cond.methodLink RX4 41 yX2_at, Cond.instanceMethod yX2_at, Cond.selects RX2 yX2_at yX2_at, Cond.code yX2_at cX2_at 3 (some .int), Cond.methodLink RX0 63 yX3_work, Cond.instanceMethod yX3_work, Cond.selects RX3 yX3_work yX3_work, Cond.code yX3_work cX3_work 3 none, Cond.methodLink RX3 35 yX3_workOnOne, Cond.instanceMethod yX3_workOnOne, Cond.selects RX3 yX3_workOnOne yX3_workOnOne, Cond.code yX3_workOnOne cX3_workOnOne 6 none, Cond.methodLink RX3 39 yX2_takeOff, Cond.instanceMethod yX2_takeOff, Cond.selects RX2 yX2_takeOff yX2_takeOff, Cond.code yX2_takeOff cX2_takeOff 6 (some .int), Cond.methodLink RX3 45 yX3_nextFreeColumn, Cond.instanceMethod yX3_nextFreeColumn]
def wsL_would_r6 : List Cond := [Cond.selects RX3 yX3_nextFreeColumn yX3_nextFreeColumn, Cond.code yX3_nextFreeColumn cX3_nextFreeColumn 5 (some .int), Cond.methodLink RX3 53 yX3_hangAt, Cond.instanceMethod yX3_hangAt, Cond.selects RX3 yX3_hangAt yX3_hangAt, Cond.code yX3_hangAt cX3_hangAt 3 (some .boolean), Cond.methodLink RX3 49 yX3_rehang, Cond.instanceMethod yX3_rehang, Cond.selects RX3 yX3_rehang yX3_rehang, Cond.code yX3_rehang cX3_rehang 3 none, Cond.methodLink RX5 172 yX2_total, Cond.instanceMethod yX2_total, Cond.selects RX2 yX2_total yX2_total, Cond.code yX2_total cX2_total 3 (some .int), Cond.methodLink RX5 176 yX3_allCleaned, Cond.instanceMethod yX3_allCleaned, Cond.selects RX3 yX3_allCleaned yX3_allCleaned, Cond.code yX3_allCleaned cX3_allCleaned 3 (some .int)]
def wsL_would : List Cond := .codeWith yL_would cL_would 5 (some .int) [(0, 10, 13, 13), (0, 10, 17, 15)] :: ((wsL_would_r1 ++ (wsL_would_r2 ++ (wsL_would_r3 ++ (wsL_would_r4 ++ (wsL_would_r5 ++ wsL_would_r6))))) ++ wsX50 ++ wsX00 ++ wsX20 ++ wsX30 ++ wsX10 ++ wsX40 ++ (vx_atS RX5 37 "java/lang/IllegalArgumentException" ["java/lang/RuntimeException", "java/lang/Exception"]).filter goodWord ++ (vx_atS RX5 44 "java/lang/IndexOutOfBoundsException" ["java/lang/RuntimeException", "java/lang/Exception"]).filter goodWord)
def wsL_until_r1 : List Cond := [Cond.classLink RL 15 "java/lang/IndexOutOfBoundsException", Cond.methodLink RL 62 yX5_until, Cond.instanceMethod yX5_until, Cond.selects RX5 yX5_until yX5_until, Cond.initialized RX5, Cond.code yX5_until cX5_until 3 (some .int), Cond.classLink RX5 40 "java/lang/IndexOutOfBoundsException", Cond.initialized "java/lang/IndexOutOfBoundsException", Cond.fieldLink RX5 30 "GlassRopes" "ahead" "LGlassRopes$Course;", Cond.fieldLink RX5 26 "GlassRopes" "now" "LGlassRopes$Course;", Cond.fieldLink RX5 12 "GlassRopes" "windows" "LGlassRopes$Windows;", Cond.fieldLink RX5 19 "GlassRopes" "feasts" "LGlassRopes$Feasts;", Cond.methodLink RX5 115 yX5_isWindow, Cond.instanceMethod yX5_isWindow, Cond.selects RX5 yX5_isWindow yX5_isWindow, Cond.code yX5_isWindow cX5_isWindow 2 (some .boolean), Cond.methodLink RX5 168 yX0_copyFrom, Cond.instanceMethod yX0_copyFrom, Cond.selects RX0 yX0_copyFrom yX0_copyFrom, Cond.initialized RX0, Cond.code yX0_copyFrom cX0_copyFrom 2 none, Cond.fieldLink RX0 10 "GlassRopes$Course" "glass" "LGlassRopes$Glass;", Cond.fieldLink RX0 19 "GlassRopes$Course" "ropes" "LGlassRopes$Ropes;", Cond.fieldLink RX0 23 "GlassRopes$Course" "wind" "I"]
def wsL_until_r2 : List Cond := [Cond.fieldLink RX0 27 "GlassRopes$Course" "day" "I", Cond.fieldLink RX0 30 "GlassRopes$Course" "coins" "I", Cond.fieldLink RX0 33 "GlassRopes$Course" "feastDays" "I", Cond.methodLink RX0 36 yX2_copyFrom, Cond.instanceMethod yX2_copyFrom, Cond.selects RX2 yX2_copyFrom yX2_copyFrom, Cond.initialized RX2, Cond.code yX2_copyFrom cX2_copyFrom 2 none, Cond.fieldLink RX2 9 "GlassRopes$Glass" "soot" "[I", Cond.methodLink RX2 15 arraycopyName, Cond.native arraycopyName, Cond.static arraycopyName, Cond.initialized "java/lang/System", Cond.methodLink RX0 40 yX3_copyFrom, Cond.instanceMethod yX3_copyFrom, Cond.selects RX3 yX3_copyFrom yX3_copyFrom, Cond.initialized RX3, Cond.code yX3_copyFrom cX3_copyFrom 3 none, Cond.fieldLink RX3 9 "GlassRopes$Ropes" "size" "I", Cond.fieldLink RX3 15 "GlassRopes$Ropes" "column" "[I", Cond.fieldLink RX3 19 "GlassRopes$Ropes" "row" "[I", Cond.fieldLink RX3 22 "GlassRopes$Ropes" "strength" "[I", Cond.fieldLink RX3 25 "GlassRopes$Ropes" "toRight" "[Z", Cond.fieldLink RX3 29 "GlassRopes$Ropes" "cleaned" "[I"]
def wsL_until_r3 : List Cond := [Cond.fieldLink RX3 32 "GlassRopes$Ropes" "moved" "[I", Cond.methodLink RX5 179 yX4_isClean, Cond.instanceMethod yX4_isClean, Cond.selects RX4 yX4_isClean yX4_isClean, Cond.initialized RX4, Cond.code yX4_isClean cX4_isClean 3 (some .boolean), Cond.methodLink RX4 31 yX4_added, Cond.instanceMethod yX4_added, Cond.selects RX4 yX4_added yX4_added, Cond.code yX4_added cX4_added 6 (some .int), Cond.fieldLink RX4 15 "GlassRopes$Windows" "x" "[I", Cond.fieldLink RX4 22 "GlassRopes$Windows" "width" "[I", Cond.fieldLink RX4 19 "GlassRopes$Windows" "y" "[I", Cond.fieldLink RX4 25 "GlassRopes$Windows" "height" "[I", Cond.methodLink RX4 41 yX2_at, Cond.instanceMethod yX2_at, Cond.selects RX2 yX2_at yX2_at, Cond.code yX2_at cX2_at 3 (some .int), Cond.methodLink RX4 52 yX4_panes, Cond.instanceMethod yX4_panes, Cond.selects RX4 yX4_panes yX4_panes, Cond.code yX4_panes cX4_panes 2 (some .int), Cond.methodLink RX5 183 yX0_goOneDay, Cond.instanceMethod yX0_goOneDay]
def wsL_until_r4 : List Cond := [Cond.selects RX0 yX0_goOneDay yX0_goOneDay, Cond.code yX0_goOneDay cX0_goOneDay 3 none, Cond.methodLink RX0 47 yX2_gather, Cond.instanceMethod yX2_gather, Cond.selects RX2 yX2_gather yX2_gather, Cond.code yX2_gather cX2_gather 6 none, Cond.methodLink RX2 25 Lib.Math.min.name, Cond.static Lib.Math.min.name, Cond.initialized "java/lang/Math", Cond.code Lib.Math.min.name Lib.Math.min.code 2 (some .int), Cond.methodLink RX2 21 yX2_broughtTo, Cond.static yX2_broughtTo, Cond.code yX2_broughtTo cX2_broughtTo 3 (some .int), Cond.methodLink RX2 30 Lib.Math.max.name, Cond.static Lib.Math.max.name, Cond.code Lib.Math.max.name Lib.Math.max.code 2 (some .int), Cond.methodLink RX0 51 yX1_areOn, Cond.instanceMethod yX1_areOn, Cond.selects RX1 yX1_areOn yX1_areOn, Cond.initialized RX1, Cond.code yX1_areOn cX1_areOn 4 (some .boolean), Cond.fieldLink RX1 9 "GlassRopes$Feasts" "size" "I", Cond.fieldLink RX1 15 "GlassRopes$Feasts" "every" "[I", Cond.fieldLink RX1 19 "GlassRopes$Feasts" "on" "[I"]
def wsL_until_r5 : List Cond := [Cond.methodLink RX0 57 yX4_allBring, Cond.instanceMethod yX4_allBring, Cond.selects RX4 yX4_allBring yX4_allBring, Cond.code yX4_allBring cX4_allBring 4 (some .int), Cond.fieldLink RX4 9 "GlassRopes$Windows" "size" "I", Cond.methodLink RX4 38 yX4_brings, Cond.instanceMethod yX4_brings, Cond.selects RX4 yX4_brings yX4_brings, Cond.code yX4_brings cX4_brings 3 (some .int), Cond.fieldLink RX4 28 "GlassRopes$Windows" "worth" "[I", Cond.methodLink RX4 47 Lib.Math.max.name, Cond.methodLink RX0 63 yX3_work, Cond.instanceMethod yX3_work, Cond.selects RX3 yX3_work yX3_work, Cond.code yX3_work cX3_work 3 none, Cond.methodLink RX3 35 yX3_workOnOne, Cond.instanceMethod yX3_workOnOne, Cond.selects RX3 yX3_workOnOne yX3_workOnOne, Cond.code yX3_workOnOne cX3_workOnOne 6 none, Cond.methodLink RX3 39 yX2_takeOff, Cond.instanceMethod yX2_takeOff, Cond.selects RX2 yX2_takeOff yX2_takeOff, Cond.code yX2_takeOff cX2_takeOff 6 (some .int), Cond.methodLink RX3 45 yX3_nextFreeColumn]
def wsL_until_r6 : List Cond := [Cond.instanceMethod yX3_nextFreeColumn, Cond.selects RX3 yX3_nextFreeColumn yX3_nextFreeColumn, Cond.code yX3_nextFreeColumn cX3_nextFreeColumn 5 (some .int), Cond.methodLink RX3 53 yX3_hangAt, Cond.instanceMethod yX3_hangAt, Cond.selects RX3 yX3_hangAt yX3_hangAt, Cond.code yX3_hangAt cX3_hangAt 3 (some .boolean), Cond.methodLink RX3 49 yX3_rehang, Cond.instanceMethod yX3_rehang, Cond.selects RX3 yX3_rehang yX3_rehang, Cond.code yX3_rehang cX3_rehang 3 none]
def wsL_until : List Cond := .codeWith yL_until cL_until 4 (some .int) [(0, 9, 12, 15)] :: ((wsL_until_r1 ++ (wsL_until_r2 ++ (wsL_until_r3 ++ (wsL_until_r4 ++ (wsL_until_r5 ++ wsL_until_r6))))) ++ wsX50 ++ wsX00 ++ wsX40 ++ wsX20 ++ wsX30 ++ wsX10 ++ (vx_atS RX5 44 "java/lang/IndexOutOfBoundsException" ["java/lang/RuntimeException", "java/lang/Exception"]).filter goodWord)
def wsL_advise_r1 : List Cond := [Cond.classLink RL 15 "java/lang/IndexOutOfBoundsException", Cond.classLink RL 17 "java/lang/IllegalStateException", Cond.methodLink RL 65 yX5_advise, Cond.instanceMethod yX5_advise, Cond.selects RX5 yX5_advise yX5_advise, Cond.initialized RX5, Cond.code yX5_advise cX5_advise 8 (some .int), Cond.classLink RX5 40 "java/lang/IndexOutOfBoundsException", Cond.initialized "java/lang/IndexOutOfBoundsException", Cond.classLink RX5 49 "java/lang/IllegalStateException", Cond.initialized "java/lang/IllegalStateException", Cond.fieldLink RX5 19 "GlassRopes" "feasts" "LGlassRopes$Feasts;", Cond.fieldLink RX5 26 "GlassRopes" "now" "LGlassRopes$Course;", Cond.methodLink RX5 94 yX5_isRope, Cond.instanceMethod yX5_isRope, Cond.selects RX5 yX5_isRope yX5_isRope, Cond.code yX5_isRope cX5_isRope 2 (some .boolean), Cond.methodLink RX5 165 yX1_daysUntil, Cond.instanceMethod yX1_daysUntil, Cond.selects RX1 yX1_daysUntil yX1_daysUntil, Cond.initialized RX1, Cond.code yX1_daysUntil cX1_daysUntil 3 (some .int), Cond.methodLink RX1 22 yX1_areOn, Cond.instanceMethod yX1_areOn]
def wsL_advise_r2 : List Cond := [Cond.selects RX1 yX1_areOn yX1_areOn, Cond.code yX1_areOn cX1_areOn 4 (some .boolean), Cond.fieldLink RX1 9 "GlassRopes$Feasts" "size" "I", Cond.fieldLink RX1 15 "GlassRopes$Feasts" "every" "[I", Cond.fieldLink RX1 19 "GlassRopes$Feasts" "on" "[I", Cond.methodLink RX5 189 yX5_coinsBehind, Cond.instanceMethod yX5_coinsBehind, Cond.selects RX5 yX5_coinsBehind yX5_coinsBehind, Cond.code yX5_coinsBehind cX5_coinsBehind 5 (some .int), Cond.fieldLink RX5 30 "GlassRopes" "ahead" "LGlassRopes$Course;", Cond.fieldLink RX5 12 "GlassRopes" "windows" "LGlassRopes$Windows;", Cond.methodLink RX5 168 yX0_copyFrom, Cond.instanceMethod yX0_copyFrom, Cond.selects RX0 yX0_copyFrom yX0_copyFrom, Cond.initialized RX0, Cond.code yX0_copyFrom cX0_copyFrom 2 none, Cond.fieldLink RX0 10 "GlassRopes$Course" "glass" "LGlassRopes$Glass;", Cond.fieldLink RX0 19 "GlassRopes$Course" "ropes" "LGlassRopes$Ropes;", Cond.fieldLink RX0 23 "GlassRopes$Course" "wind" "I", Cond.fieldLink RX0 27 "GlassRopes$Course" "day" "I", Cond.fieldLink RX0 30 "GlassRopes$Course" "coins" "I", Cond.fieldLink RX0 33 "GlassRopes$Course" "feastDays" "I", Cond.methodLink RX0 36 yX2_copyFrom, Cond.instanceMethod yX2_copyFrom]
def wsL_advise_r3 : List Cond := [Cond.selects RX2 yX2_copyFrom yX2_copyFrom, Cond.initialized RX2, Cond.code yX2_copyFrom cX2_copyFrom 2 none, Cond.fieldLink RX2 9 "GlassRopes$Glass" "soot" "[I", Cond.methodLink RX2 15 arraycopyName, Cond.native arraycopyName, Cond.static arraycopyName, Cond.initialized "java/lang/System", Cond.methodLink RX0 40 yX3_copyFrom, Cond.instanceMethod yX3_copyFrom, Cond.selects RX3 yX3_copyFrom yX3_copyFrom, Cond.initialized RX3, Cond.code yX3_copyFrom cX3_copyFrom 3 none, Cond.fieldLink RX3 9 "GlassRopes$Ropes" "size" "I", Cond.fieldLink RX3 15 "GlassRopes$Ropes" "column" "[I", Cond.fieldLink RX3 19 "GlassRopes$Ropes" "row" "[I", Cond.fieldLink RX3 22 "GlassRopes$Ropes" "strength" "[I", Cond.fieldLink RX3 25 "GlassRopes$Ropes" "toRight" "[Z", Cond.fieldLink RX3 29 "GlassRopes$Ropes" "cleaned" "[I", Cond.fieldLink RX3 32 "GlassRopes$Ropes" "moved" "[I", Cond.methodLink RX5 105 yX3_rehang, Cond.instanceMethod yX3_rehang, Cond.selects RX3 yX3_rehang yX3_rehang, Cond.code yX3_rehang cX3_rehang 3 none]
def wsL_advise_r4 : List Cond := [Cond.methodLink RX5 183 yX0_goOneDay, Cond.instanceMethod yX0_goOneDay, Cond.selects RX0 yX0_goOneDay yX0_goOneDay, Cond.code yX0_goOneDay cX0_goOneDay 3 none, Cond.methodLink RX0 47 yX2_gather, Cond.instanceMethod yX2_gather, Cond.selects RX2 yX2_gather yX2_gather, Cond.code yX2_gather cX2_gather 6 none, Cond.methodLink RX2 25 Lib.Math.min.name, Cond.static Lib.Math.min.name, Cond.initialized "java/lang/Math", Cond.code Lib.Math.min.name Lib.Math.min.code 2 (some .int), Cond.methodLink RX2 21 yX2_broughtTo, Cond.static yX2_broughtTo, Cond.code yX2_broughtTo cX2_broughtTo 3 (some .int), Cond.methodLink RX2 30 Lib.Math.max.name, Cond.static Lib.Math.max.name, Cond.code Lib.Math.max.name Lib.Math.max.code 2 (some .int), Cond.methodLink RX0 51 yX1_areOn, Cond.methodLink RX0 57 yX4_allBring, Cond.instanceMethod yX4_allBring, Cond.selects RX4 yX4_allBring yX4_allBring, Cond.initialized RX4, Cond.code yX4_allBring cX4_allBring 4 (some .int)]
def wsL_advise_r5 : List Cond := [Cond.fieldLink RX4 9 "GlassRopes$Windows" "size" "I", Cond.methodLink RX4 38 yX4_brings, Cond.instanceMethod yX4_brings, Cond.selects RX4 yX4_brings yX4_brings, Cond.code yX4_brings cX4_brings 3 (some .int), Cond.fieldLink RX4 28 "GlassRopes$Windows" "worth" "[I", Cond.methodLink RX4 47 Lib.Math.max.name, Cond.methodLink RX4 52 yX4_panes, Cond.instanceMethod yX4_panes, Cond.selects RX4 yX4_panes yX4_panes, Cond.code yX4_panes cX4_panes 2 (some .int), Cond.fieldLink RX4 22 "GlassRopes$Windows" "width" "[I", Cond.fieldLink RX4 25 "GlassRopes$Windows" "height" "[I", Cond.methodLink RX4 31 yX4_added, Cond.instanceMethod yX4_added, Cond.selects RX4 yX4_added yX4_added, Cond.code yX4_added cX4_added 6 (some .int), Cond.fieldLink RX4 15 "GlassRopes$Windows" "x" "[I", Cond.fieldLink RX4 19 "GlassRopes$Windows" "y" "[I", Cond.methodLink RX4 41 yX2_at, Cond.instanceMethod yX2_at, Cond.selects RX2 yX2_at yX2_at, Cond.code yX2_at cX2_at 3 (some .int), Cond.methodLink RX0 63 yX3_work]
def wsL_advise_r6 : List Cond := [Cond.instanceMethod yX3_work, Cond.selects RX3 yX3_work yX3_work, Cond.code yX3_work cX3_work 3 none, Cond.methodLink RX3 35 yX3_workOnOne, Cond.instanceMethod yX3_workOnOne, Cond.selects RX3 yX3_workOnOne yX3_workOnOne, Cond.code yX3_workOnOne cX3_workOnOne 6 none, Cond.methodLink RX3 39 yX2_takeOff, Cond.instanceMethod yX2_takeOff, Cond.selects RX2 yX2_takeOff yX2_takeOff, Cond.code yX2_takeOff cX2_takeOff 6 (some .int), Cond.methodLink RX3 45 yX3_nextFreeColumn, Cond.instanceMethod yX3_nextFreeColumn, Cond.selects RX3 yX3_nextFreeColumn yX3_nextFreeColumn, Cond.code yX3_nextFreeColumn cX3_nextFreeColumn 5 (some .int), Cond.methodLink RX3 53 yX3_hangAt, Cond.instanceMethod yX3_hangAt, Cond.selects RX3 yX3_hangAt yX3_hangAt, Cond.code yX3_hangAt cX3_hangAt 3 (some .boolean), Cond.methodLink RX3 49 yX3_rehang, Cond.methodLink RX5 73 yX3_hangAt]
def wsL_advise : List Cond := .codeWith yL_advise cL_advise 4 (some .int) [(0, 9, 12, 15), (0, 9, 15, 17)] :: ((wsL_advise_r1 ++ (wsL_advise_r2 ++ (wsL_advise_r3 ++ (wsL_advise_r4 ++ (wsL_advise_r5 ++ wsL_advise_r6))))) ++ wsX50 ++ wsX00 ++ wsX30 ++ wsX10 ++ wsX20 ++ wsX40 ++ (vx_atS RX5 44 "java/lang/IndexOutOfBoundsException" ["java/lang/RuntimeException", "java/lang/Exception"]).filter goodWord ++ (vx_atS RX5 53 "java/lang/IllegalStateException" ["java/lang/RuntimeException", "java/lang/Exception"]).filter goodWord)
def wsL_law0_r1 : List Cond := [Cond.classLink RL 8 RX5, Cond.instantiable RX5 4, Cond.initialized RX5, Cond.classLink RL 69 RX6, Cond.instantiable RX6 10, Cond.initialized RX6, Cond.arrayClass .long, Cond.methodLink RL 68 yX5_init, Cond.instanceMethod yX5_init, Cond.code yX5_init cX5_init 1 none, Cond.methodLink RX5 3 objectInit, Cond.instanceMethod objectInit, Cond.code objectInit ⟨#[0xb1]⟩ 1 none, Cond.classLink RX5 9 RX4, Cond.instantiable RX4 6, Cond.initialized RX4, Cond.fieldLink RX5 12 "GlassRopes" "windows" "LGlassRopes$Windows;", Cond.classLink RX5 16 RX1, Cond.instantiable RX1 3, Cond.initialized RX1, Cond.fieldLink RX5 19 "GlassRopes" "feasts" "LGlassRopes$Feasts;", Cond.classLink RX5 23 RX0, Cond.instantiable RX0 6, Cond.initialized RX0]
def wsL_law0_r2 : List Cond := [Cond.fieldLink RX5 26 "GlassRopes" "now" "LGlassRopes$Course;", Cond.fieldLink RX5 30 "GlassRopes" "ahead" "LGlassRopes$Course;", Cond.instanceMethod yX4_init, Cond.code yX4_init cX4_init 1 none, Cond.methodLink RX4 3 objectInit, Cond.fieldLink RX4 9 "GlassRopes$Windows" "size" "I", Cond.arrayClass .int, Cond.fieldLink RX4 15 "GlassRopes$Windows" "x" "[I", Cond.fieldLink RX4 19 "GlassRopes$Windows" "y" "[I", Cond.fieldLink RX4 22 "GlassRopes$Windows" "width" "[I", Cond.fieldLink RX4 25 "GlassRopes$Windows" "height" "[I", Cond.fieldLink RX4 28 "GlassRopes$Windows" "worth" "[I", Cond.instanceMethod yX1_init, Cond.code yX1_init cX1_init 1 none, Cond.methodLink RX1 3 objectInit, Cond.fieldLink RX1 9 "GlassRopes$Feasts" "size" "I", Cond.fieldLink RX1 15 "GlassRopes$Feasts" "every" "[I", Cond.fieldLink RX1 19 "GlassRopes$Feasts" "on" "[I", Cond.instanceMethod yX0_init, Cond.code yX0_init cX0_init 1 none, Cond.methodLink RX0 1 objectInit, Cond.classLink RX0 7 RX2, Cond.instantiable RX2 1, Cond.initialized RX2]
def wsL_law0_r3 : List Cond := [Cond.fieldLink RX0 10 "GlassRopes$Course" "glass" "LGlassRopes$Glass;", Cond.classLink RX0 16 RX3, Cond.instantiable RX3 7, Cond.initialized RX3, Cond.fieldLink RX0 19 "GlassRopes$Course" "ropes" "LGlassRopes$Ropes;", Cond.fieldLink RX0 23 "GlassRopes$Course" "wind" "I", Cond.fieldLink RX0 27 "GlassRopes$Course" "day" "I", Cond.fieldLink RX0 30 "GlassRopes$Course" "coins" "I", Cond.fieldLink RX0 33 "GlassRopes$Course" "feastDays" "I", Cond.instanceMethod yX2_init, Cond.code yX2_init cX2_init 1 none, Cond.methodLink RX2 3 objectInit, Cond.fieldLink RX2 9 "GlassRopes$Glass" "soot" "[I", Cond.instanceMethod yX3_init, Cond.code yX3_init cX3_init 1 none, Cond.methodLink RX3 3 objectInit, Cond.fieldLink RX3 9 "GlassRopes$Ropes" "size" "I", Cond.fieldLink RX3 15 "GlassRopes$Ropes" "column" "[I", Cond.fieldLink RX3 19 "GlassRopes$Ropes" "row" "[I", Cond.fieldLink RX3 22 "GlassRopes$Ropes" "strength" "[I", Cond.arrayClass .boolean, Cond.fieldLink RX3 25 "GlassRopes$Ropes" "toRight" "[Z", Cond.fieldLink RX3 29 "GlassRopes$Ropes" "cleaned" "[I", Cond.fieldLink RX3 32 "GlassRopes$Ropes" "moved" "[I"]
def wsL_law0_r4 : List Cond := [Cond.methodLink RL 71 yX6_init, Cond.instanceMethod yX6_init, Cond.code yX6_init cX6_init 1 none, Cond.methodLink RX6 1 objectInit, Cond.fieldLink RX6 9 "GlassRopesModel" "told" "[I", Cond.fieldLink RX6 13 "GlassRopesModel" "strengths" "[I", Cond.fieldLink RX6 16 "GlassRopesModel" "every" "[I", Cond.fieldLink RX6 19 "GlassRopesModel" "on" "[I", Cond.fieldLink RX6 22 "GlassRopesModel" "now" "[I", Cond.fieldLink RX6 25 "GlassRopesModel" "kept" "[I", Cond.methodLink RL 72 yL_window, Cond.static yL_window, Cond.initialized RL, Cond.codeWith yL_window cL_window 8 (some .int) [(0, 16, 19, 13), (0, 16, 23, 15), (0, 16, 27, 17)], Cond.classLink RL 13 "java/lang/IllegalArgumentException", Cond.classLink RL 15 "java/lang/IndexOutOfBoundsException", Cond.classLink RL 17 "java/lang/IllegalStateException", Cond.methodLink RL 7 yX5_window, Cond.instanceMethod yX5_window, Cond.selects RX5 yX5_window yX5_window, Cond.code yX5_window cX5_window 6 (some .int), Cond.classLink RX5 33 "java/lang/IllegalArgumentException", Cond.initialized "java/lang/IllegalArgumentException", Cond.classLink RX5 40 "java/lang/IndexOutOfBoundsException"]
def wsL_law0_r5 : List Cond := [Cond.initialized "java/lang/IndexOutOfBoundsException", Cond.classLink RX5 49 "java/lang/IllegalStateException", Cond.initialized "java/lang/IllegalStateException", Cond.methodLink RX5 54 yX4_put, Cond.instanceMethod yX4_put, Cond.selects RX4 yX4_put yX4_put, Cond.code yX4_put cX4_put 6 (some .int), Cond.methodLink RL 77 yX6_window, Cond.instanceMethod yX6_window, Cond.selects RX6 yX6_window yX6_window, Cond.code yX6_window cX6_window 7 (some .int), Cond.fieldLink RX6 28 "GlassRopesModel" "thrown" "I", Cond.fieldLink RX6 32 "GlassRopesModel" "windows" "I", Cond.methodLink RX6 49 arraycopyName, Cond.native arraycopyName, Cond.static arraycopyName, Cond.initialized "java/lang/System", Cond.methodLink RX6 35 yX6_isIn, Cond.static yX6_isIn, Cond.code yX6_isIn cX6_isIn 3 (some .boolean), Cond.methodLink RX6 55 yX6_fail, Cond.instanceMethod yX6_fail, Cond.selects RX6 yX6_fail yX6_fail, Cond.code yX6_fail cX6_fail 2 (some .int)]
def wsL_law0_r6 : List Cond := [Cond.methodLink RL 78 yX6_thrown, Cond.instanceMethod yX6_thrown, Cond.selects RX6 yX6_thrown yX6_thrown, Cond.code yX6_thrown cX6_thrown 1 (some .int), Cond.methodLink RL 82 yL_rope, Cond.static yL_rope, Cond.codeWith yL_rope cL_rope 6 (some .int) [(0, 12, 15, 15), (0, 12, 19, 13), (0, 12, 23, 17)], Cond.methodLink RL 19 yX5_rope, Cond.instanceMethod yX5_rope, Cond.selects RX5 yX5_rope yX5_rope, Cond.code yX5_rope cX5_rope 4 (some .int), Cond.methodLink RX5 58 yX5_isColumn, Cond.static yX5_isColumn, Cond.code yX5_isColumn cX5_isColumn 1 (some .boolean), Cond.methodLink RX5 73 yX3_hangAt, Cond.instanceMethod yX3_hangAt, Cond.selects RX3 yX3_hangAt yX3_hangAt, Cond.code yX3_hangAt cX3_hangAt 3 (some .boolean), Cond.methodLink RX5 78 yX3_put, Cond.instanceMethod yX3_put, Cond.selects RX3 yX3_put yX3_put, Cond.code yX3_put cX3_put 4 (some .int), Cond.methodLink RL 85 yX6_rope, Cond.instanceMethod yX6_rope]
def wsL_law0_r7 : List Cond := [Cond.selects RX6 yX6_rope yX6_rope, Cond.code yX6_rope cX6_rope 4 (some .int), Cond.fieldLink RX6 39 "GlassRopesModel" "ropes" "I", Cond.methodLink RX6 59 yX6_isHung, Cond.instanceMethod yX6_isHung, Cond.selects RX6 yX6_isHung yX6_isHung, Cond.code yX6_isHung cX6_isHung 3 (some .boolean), Cond.methodLink RX6 42 yX6_ro, Cond.instanceMethod yX6_ro, Cond.selects RX6 yX6_ro yX6_ro, Cond.code yX6_ro cX6_ro 3 (some .int), Cond.methodLink RX6 63 yX6_let, Cond.instanceMethod yX6_let, Cond.selects RX6 yX6_let yX6_let, Cond.code yX6_let cX6_let 4 none, Cond.methodLink RL 86 yL_feast, Cond.static yL_feast, Cond.codeWith yL_feast cL_feast 5 (some .int) [(0, 10, 13, 13), (0, 10, 17, 17)], Cond.methodLink RL 23 yX5_feast, Cond.instanceMethod yX5_feast, Cond.selects RX5 yX5_feast yX5_feast, Cond.code yX5_feast cX5_feast 3 (some .int), Cond.methodLink RX5 86 yX1_put, Cond.instanceMethod yX1_put]
def wsL_law0_r8 : List Cond := [Cond.selects RX1 yX1_put yX1_put, Cond.code yX1_put cX1_put 3 (some .int), Cond.methodLink RL 89 yX6_feast, Cond.instanceMethod yX6_feast, Cond.selects RX6 yX6_feast yX6_feast, Cond.code yX6_feast cX6_feast 3 (some .int), Cond.fieldLink RX6 46 "GlassRopesModel" "feasts" "I", Cond.methodLink RL 90 yL_setWind, Cond.static yL_setWind, Cond.codeWith yL_setWind cL_setWind 4 (some .int) [(0, 9, 12, 13)], Cond.methodLink RL 27 yX5_setWind, Cond.instanceMethod yX5_setWind, Cond.selects RX5 yX5_setWind yX5_setWind, Cond.code yX5_setWind cX5_setWind 3 (some .int), Cond.methodLink RL 93 yX6_setWind, Cond.instanceMethod yX6_setWind, Cond.selects RX6 yX6_setWind yX6_setWind, Cond.code yX6_setWind cX6_setWind 3 (some .int), Cond.methodLink RL 94 yL_move, Cond.static yL_move, Cond.codeWith yL_move cL_move 5 (some .int) [(0, 10, 13, 15), (0, 10, 17, 17)], Cond.methodLink RL 31 yX5_move, Cond.instanceMethod yX5_move, Cond.selects RX5 yX5_move yX5_move]
def wsL_law0_r9 : List Cond := [Cond.code yX5_move cX5_move 4 (some .int), Cond.methodLink RX5 94 yX5_isRope, Cond.instanceMethod yX5_isRope, Cond.selects RX5 yX5_isRope yX5_isRope, Cond.code yX5_isRope cX5_isRope 2 (some .boolean), Cond.methodLink RX5 105 yX3_rehang, Cond.instanceMethod yX3_rehang, Cond.selects RX3 yX3_rehang yX3_rehang, Cond.code yX3_rehang cX3_rehang 3 none, Cond.methodLink RL 96 yX6_move, Cond.instanceMethod yX6_move, Cond.selects RX6 yX6_move yX6_move, Cond.code yX6_move cX6_move 4 (some .int), Cond.methodLink RX6 67 yX6_isRope, Cond.instanceMethod yX6_isRope, Cond.selects RX6 yX6_isRope yX6_isRope, Cond.code yX6_isRope cX6_isRope 2 (some .boolean), Cond.methodLink RX6 70 yX6_hang, Cond.instanceMethod yX6_hang, Cond.selects RX6 yX6_hang yX6_hang, Cond.code yX6_hang cX6_hang 3 none, Cond.methodLink RL 97 yL_turn, Cond.static yL_turn, Cond.codeWith yL_turn cL_turn 4 (some .int) [(0, 16, 19, 15)]]
def wsL_law0_r10 : List Cond := [Cond.methodLink RL 34 yX5_turn, Cond.instanceMethod yX5_turn, Cond.selects RX5 yX5_turn yX5_turn, Cond.code yX5_turn cX5_turn 2 (some .boolean), Cond.methodLink RL 99 yX6_turn, Cond.instanceMethod yX6_turn, Cond.selects RX6 yX6_turn yX6_turn, Cond.code yX6_turn cX6_turn 2 (some .boolean), Cond.methodLink RL 100 yL_wipe, Cond.static yL_wipe, Cond.codeWith yL_wipe cL_wipe 4 (some .int) [(0, 9, 12, 15)], Cond.methodLink RL 38 yX5_wipe, Cond.instanceMethod yX5_wipe, Cond.selects RX5 yX5_wipe yX5_wipe, Cond.code yX5_wipe cX5_wipe 2 (some .int), Cond.methodLink RX5 115 yX5_isWindow, Cond.instanceMethod yX5_isWindow, Cond.selects RX5 yX5_isWindow yX5_isWindow, Cond.code yX5_isWindow cX5_isWindow 2 (some .boolean), Cond.methodLink RX5 124 yX4_wipeOff, Cond.instanceMethod yX4_wipeOff, Cond.selects RX4 yX4_wipeOff yX4_wipeOff, Cond.code yX4_wipeOff cX4_wipeOff 6 (some .int), Cond.methodLink RX4 56 yX2_takeOff]
def wsL_law0_r11 : List Cond := [Cond.instanceMethod yX2_takeOff, Cond.selects RX2 yX2_takeOff yX2_takeOff, Cond.code yX2_takeOff cX2_takeOff 6 (some .int), Cond.methodLink RX2 25 Lib.Math.min.name, Cond.static Lib.Math.min.name, Cond.initialized "java/lang/Math", Cond.code Lib.Math.min.name Lib.Math.min.code 2 (some .int), Cond.methodLink RL 102 yX6_wipe, Cond.instanceMethod yX6_wipe, Cond.selects RX6 yX6_wipe yX6_wipe, Cond.code yX6_wipe cX6_wipe 5 (some .int), Cond.methodLink RX6 74 yX6_isWindow, Cond.instanceMethod yX6_isWindow, Cond.selects RX6 yX6_isWindow yX6_isWindow, Cond.code yX6_isWindow cX6_isWindow 2 (some .boolean), Cond.methodLink RX6 77 yX6_wi, Cond.instanceMethod yX6_wi, Cond.selects RX6 yX6_wi yX6_wi, Cond.code yX6_wi cX6_wi 3 (some .int), Cond.methodLink RX6 80 yX6_pane, Cond.static yX6_pane, Cond.code yX6_pane cX6_pane 2 (some .int), Cond.methodLink RL 103 yL_pass, Cond.static yL_pass]
def wsL_law0_r12 : List Cond := [Cond.codeWith yL_pass cL_pass 4 (some .int) [(0, 9, 12, 13)], Cond.methodLink RL 41 yX5_pass, Cond.instanceMethod yX5_pass, Cond.selects RX5 yX5_pass yX5_pass, Cond.code yX5_pass cX5_pass 3 (some .int), Cond.methodLink RX5 133 yX0_goOn, Cond.instanceMethod yX0_goOn, Cond.selects RX0 yX0_goOn yX0_goOn, Cond.code yX0_goOn cX0_goOn 5 none, Cond.methodLink RX0 43 yX0_goOneDay, Cond.instanceMethod yX0_goOneDay, Cond.selects RX0 yX0_goOneDay yX0_goOneDay, Cond.code yX0_goOneDay cX0_goOneDay 3 none, Cond.methodLink RX0 47 yX2_gather, Cond.instanceMethod yX2_gather, Cond.selects RX2 yX2_gather yX2_gather, Cond.code yX2_gather cX2_gather 6 none, Cond.methodLink RX2 21 yX2_broughtTo, Cond.static yX2_broughtTo, Cond.code yX2_broughtTo cX2_broughtTo 3 (some .int), Cond.methodLink RX2 30 Lib.Math.max.name, Cond.static Lib.Math.max.name, Cond.code Lib.Math.max.name Lib.Math.max.code 2 (some .int), Cond.methodLink RX0 51 yX1_areOn]
def wsL_law0_r13 : List Cond := [Cond.instanceMethod yX1_areOn, Cond.selects RX1 yX1_areOn yX1_areOn, Cond.code yX1_areOn cX1_areOn 4 (some .boolean), Cond.methodLink RX0 57 yX4_allBring, Cond.instanceMethod yX4_allBring, Cond.selects RX4 yX4_allBring yX4_allBring, Cond.code yX4_allBring cX4_allBring 4 (some .int), Cond.methodLink RX4 38 yX4_brings, Cond.instanceMethod yX4_brings, Cond.selects RX4 yX4_brings yX4_brings, Cond.code yX4_brings cX4_brings 3 (some .int), Cond.methodLink RX4 47 Lib.Math.max.name, Cond.methodLink RX4 52 yX4_panes, Cond.instanceMethod yX4_panes, Cond.selects RX4 yX4_panes yX4_panes, Cond.code yX4_panes cX4_panes 2 (some .int), Cond.methodLink RX4 31 yX4_added, Cond.instanceMethod yX4_added, Cond.selects RX4 yX4_added yX4_added, Cond.code yX4_added cX4_added 6 (some .int), Cond.methodLink RX4 41 yX2_at, Cond.instanceMethod yX2_at, Cond.selects RX2 yX2_at yX2_at, Cond.code yX2_at cX2_at 3 (some .int)]
def wsL_law0_r14 : List Cond := [Cond.methodLink RX0 63 yX3_work, Cond.instanceMethod yX3_work, Cond.selects RX3 yX3_work yX3_work, Cond.code yX3_work cX3_work 3 none, Cond.methodLink RX3 35 yX3_workOnOne, Cond.instanceMethod yX3_workOnOne, Cond.selects RX3 yX3_workOnOne yX3_workOnOne, Cond.code yX3_workOnOne cX3_workOnOne 6 none, Cond.methodLink RX3 39 yX2_takeOff, Cond.methodLink RX3 45 yX3_nextFreeColumn, Cond.instanceMethod yX3_nextFreeColumn, Cond.selects RX3 yX3_nextFreeColumn yX3_nextFreeColumn, Cond.code yX3_nextFreeColumn cX3_nextFreeColumn 5 (some .int), Cond.methodLink RX3 53 yX3_hangAt, Cond.methodLink RX3 49 yX3_rehang, Cond.methodLink RL 105 yX6_pass, Cond.instanceMethod yX6_pass, Cond.selects RX6 yX6_pass yX6_pass, Cond.code yX6_pass cX6_pass 3 (some .int), Cond.methodLink RX6 121 yX6_daysOn, Cond.instanceMethod yX6_daysOn, Cond.selects RX6 yX6_daysOn yX6_daysOn, Cond.code yX6_daysOn cX6_daysOn 3 none, Cond.methodLink RX6 118 yX6_dayOn]
def wsL_law0_r15 : List Cond := [Cond.instanceMethod yX6_dayOn, Cond.selects RX6 yX6_dayOn yX6_dayOn, Cond.code yX6_dayOn cX6_dayOn 4 none, Cond.methodLink RX6 98 Lib.Math.min.name, Cond.methodLink RX6 105 yX6_blown, Cond.instanceMethod yX6_blown, Cond.selects RX6 yX6_blown yX6_blown, Cond.code yX6_blown cX6_blown 2 (some .int), Cond.methodLink RX6 83 Lib.Math.max.name, Cond.methodLink RX6 108 yX6_isFeastOn, Cond.instanceMethod yX6_isFeastOn, Cond.selects RX6 yX6_isFeastOn yX6_isFeastOn, Cond.code yX6_isFeastOn cX6_isFeastOn 3 (some .boolean), Cond.methodLink RX6 111 yX6_allBring, Cond.instanceMethod yX6_allBring, Cond.selects RX6 yX6_allBring yX6_allBring, Cond.code yX6_allBring cX6_allBring 3 (some .int), Cond.methodLink RX6 95 yX6_brings, Cond.instanceMethod yX6_brings, Cond.selects RX6 yX6_brings yX6_brings, Cond.code yX6_brings cX6_brings 2 (some .int), Cond.methodLink RX6 88 yX6_panes, Cond.instanceMethod yX6_panes, Cond.selects RX6 yX6_panes yX6_panes]
def wsL_law0_r16 : List Cond := [Cond.code yX6_panes cX6_panes 2 (some .int), Cond.methodLink RX6 91 yX6_sootOf, Cond.instanceMethod yX6_sootOf, Cond.selects RX6 yX6_sootOf yX6_sootOf, Cond.code yX6_sootOf cX6_sootOf 7 (some .int), Cond.methodLink RX6 115 yX6_work, Cond.instanceMethod yX6_work, Cond.selects RX6 yX6_work yX6_work, Cond.code yX6_work cX6_work 5 none, Cond.methodLink RX6 101 yX6_moveOn, Cond.instanceMethod yX6_moveOn, Cond.selects RX6 yX6_moveOn yX6_moveOn, Cond.code yX6_moveOn cX6_moveOn 3 none, Cond.methodLink RL 106 yL_soot, Cond.static yL_soot, Cond.codeWith yL_soot cL_soot 5 (some .int) [(0, 10, 13, 15)], Cond.methodLink RL 44 yX5_soot, Cond.instanceMethod yX5_soot, Cond.selects RX5 yX5_soot yX5_soot, Cond.code yX5_soot cX5_soot 3 (some .int), Cond.methodLink RX5 139 yX2_at, Cond.methodLink RL 108 yX6_soot, Cond.instanceMethod yX6_soot, Cond.selects RX6 yX6_soot yX6_soot]
def wsL_law0_r17 : List Cond := [Cond.code yX6_soot cX6_soot 3 (some .int), Cond.methodLink RL 109 yL_about, Cond.static yL_about, Cond.codeWith yL_about cL_about 5 (some .int) [(0, 10, 13, 15)], Cond.methodLink RL 47 yX5_about, Cond.instanceMethod yX5_about, Cond.selects RX5 yX5_about yX5_about, Cond.code yX5_about cX5_about 3 (some .int), Cond.methodLink RX5 146 yX4_number, Cond.instanceMethod yX4_number, Cond.selects RX4 yX4_number yX4_number, Cond.code yX4_number cX4_number 4 (some .int), Cond.methodLink RX4 35 yX4_darkest, Cond.instanceMethod yX4_darkest, Cond.selects RX4 yX4_darkest yX4_darkest, Cond.code yX4_darkest cX4_darkest 6 (some .int), Cond.methodLink RL 111 yX6_about, Cond.instanceMethod yX6_about, Cond.selects RX6 yX6_about yX6_about, Cond.code yX6_about cX6_about 3 (some .int), Cond.methodLink RX6 124 yX6_windowTold, Cond.instanceMethod yX6_windowTold, Cond.selects RX6 yX6_windowTold yX6_windowTold, Cond.code yX6_windowTold cX6_windowTold 3 (some .int)]
def wsL_law0_r18 : List Cond := [Cond.methodLink RL 112 yL_told, Cond.static yL_told, Cond.codeWith yL_told cL_told 5 (some .int) [(0, 10, 13, 15)], Cond.methodLink RL 50 yX5_told, Cond.instanceMethod yX5_told, Cond.selects RX5 yX5_told yX5_told, Cond.code yX5_told cX5_told 3 (some .int), Cond.methodLink RX5 152 yX3_number, Cond.instanceMethod yX3_number, Cond.selects RX3 yX3_number yX3_number, Cond.code yX3_number cX3_number 3 (some .int), Cond.methodLink RL 114 yX6_told, Cond.instanceMethod yX6_told, Cond.selects RX6 yX6_told yX6_told, Cond.code yX6_told cX6_told 3 (some .int), Cond.methodLink RX6 127 yX6_ropeTold, Cond.instanceMethod yX6_ropeTold, Cond.selects RX6 yX6_ropeTold yX6_ropeTold, Cond.code yX6_ropeTold cX6_ropeTold 3 (some .int), Cond.methodLink RL 115 yL_count, Cond.static yL_count, Cond.codeWith yL_count cL_count 4 (some .int) [(0, 9, 12, 15)], Cond.methodLink RL 53 yX5_count, Cond.instanceMethod yX5_count]
def wsL_law0_r19 : List Cond := [Cond.selects RX5 yX5_count yX5_count, Cond.code yX5_count cX5_count 2 (some .int), Cond.methodLink RX5 156 yX5_number, Cond.instanceMethod yX5_number, Cond.selects RX5 yX5_number yX5_number, Cond.code yX5_number cX5_number 2 (some .int), Cond.methodLink RX5 172 yX2_total, Cond.instanceMethod yX2_total, Cond.selects RX2 yX2_total yX2_total, Cond.code yX2_total cX2_total 3 (some .int), Cond.methodLink RX5 199 yX2_cleanPanes, Cond.instanceMethod yX2_cleanPanes, Cond.selects RX2 yX2_cleanPanes yX2_cleanPanes, Cond.code yX2_cleanPanes cX2_cleanPanes 3 (some .int), Cond.methodLink RX5 176 yX3_allCleaned, Cond.instanceMethod yX3_allCleaned, Cond.selects RX3 yX3_allCleaned yX3_allCleaned, Cond.code yX3_allCleaned cX3_allCleaned 3 (some .int), Cond.methodLink RX5 205 yX4_allBring, Cond.methodLink RL 117 yX6_count, Cond.instanceMethod yX6_count, Cond.selects RX6 yX6_count yX6_count, Cond.code yX6_count cX6_count 2 (some .int), Cond.methodLink RX6 136 yX6_counted]
def wsL_law0_r20 : List Cond := [Cond.instanceMethod yX6_counted, Cond.selects RX6 yX6_counted yX6_counted, Cond.code yX6_counted cX6_counted 4 (some .int), Cond.methodLink RX6 130 yX6_allSoot, Cond.instanceMethod yX6_allSoot, Cond.selects RX6 yX6_allSoot yX6_allSoot, Cond.code yX6_allSoot cX6_allSoot 3 (some .int), Cond.methodLink RX6 133 yX6_cleaned, Cond.instanceMethod yX6_cleaned, Cond.selects RX6 yX6_cleaned yX6_cleaned, Cond.code yX6_cleaned cX6_cleaned 3 (some .int), Cond.methodLink RL 118 yL_isFeast, Cond.static yL_isFeast, Cond.codeWith yL_isFeast cL_isFeast 4 (some .int) [(0, 16, 19, 13)], Cond.methodLink RL 56 yX5_isFeast, Cond.instanceMethod yX5_isFeast, Cond.selects RX5 yX5_isFeast yX5_isFeast, Cond.code yX5_isFeast cX5_isFeast 2 (some .boolean), Cond.methodLink RX5 162 yX1_areOn, Cond.methodLink RL 120 yX6_isFeast, Cond.instanceMethod yX6_isFeast, Cond.selects RX6 yX6_isFeast yX6_isFeast, Cond.code yX6_isFeast cX6_isFeast 2 (some .boolean), Cond.methodLink RL 121 yX5_next]
def wsL_law0_r21 : List Cond := [Cond.instanceMethod yX5_next, Cond.selects RX5 yX5_next yX5_next, Cond.code yX5_next cX5_next 1 (some .int), Cond.methodLink RX5 165 yX1_daysUntil, Cond.instanceMethod yX1_daysUntil, Cond.selects RX1 yX1_daysUntil yX1_daysUntil, Cond.code yX1_daysUntil cX1_daysUntil 3 (some .int), Cond.methodLink RX1 22 yX1_areOn, Cond.methodLink RL 124 yX6_next, Cond.instanceMethod yX6_next, Cond.selects RX6 yX6_next yX6_next, Cond.code yX6_next cX6_next 1 (some .int), Cond.methodLink RX6 139 yX6_nextFeast, Cond.instanceMethod yX6_nextFeast, Cond.selects RX6 yX6_nextFeast yX6_nextFeast, Cond.code yX6_nextFeast cX6_nextFeast 2 (some .int), Cond.methodLink RL 125 yL_would, Cond.static yL_would, Cond.codeWith yL_would cL_would 5 (some .int) [(0, 10, 13, 13), (0, 10, 17, 15)], Cond.methodLink RL 59 yX5_would, Cond.instanceMethod yX5_would, Cond.selects RX5 yX5_would yX5_would, Cond.code yX5_would cX5_would 3 (some .int), Cond.methodLink RX5 168 yX0_copyFrom]
def wsL_law0_r22 : List Cond := [Cond.instanceMethod yX0_copyFrom, Cond.selects RX0 yX0_copyFrom yX0_copyFrom, Cond.code yX0_copyFrom cX0_copyFrom 2 none, Cond.methodLink RX0 36 yX2_copyFrom, Cond.instanceMethod yX2_copyFrom, Cond.selects RX2 yX2_copyFrom yX2_copyFrom, Cond.code yX2_copyFrom cX2_copyFrom 2 none, Cond.methodLink RX2 15 arraycopyName, Cond.methodLink RX0 40 yX3_copyFrom, Cond.instanceMethod yX3_copyFrom, Cond.selects RX3 yX3_copyFrom yX3_copyFrom, Cond.code yX3_copyFrom cX3_copyFrom 3 none, Cond.methodLink RL 127 yX6_would, Cond.instanceMethod yX6_would, Cond.selects RX6 yX6_would yX6_would, Cond.code yX6_would cX6_would 4 (some .int), Cond.methodLink RX6 142 yX6_keep, Cond.instanceMethod yX6_keep, Cond.selects RX6 yX6_keep yX6_keep, Cond.code yX6_keep cX6_keep 1 none, Cond.methodLink RX6 145 yX6_bringBack, Cond.instanceMethod yX6_bringBack, Cond.selects RX6 yX6_bringBack yX6_bringBack, Cond.code yX6_bringBack cX6_bringBack 1 none]
def wsL_law0_r23 : List Cond := [Cond.methodLink RL 128 yL_until, Cond.static yL_until, Cond.codeWith yL_until cL_until 4 (some .int) [(0, 9, 12, 15)], Cond.methodLink RL 62 yX5_until, Cond.instanceMethod yX5_until, Cond.selects RX5 yX5_until yX5_until, Cond.code yX5_until cX5_until 3 (some .int), Cond.methodLink RX5 179 yX4_isClean, Cond.instanceMethod yX4_isClean, Cond.selects RX4 yX4_isClean yX4_isClean, Cond.code yX4_isClean cX4_isClean 3 (some .boolean), Cond.methodLink RX5 183 yX0_goOneDay, Cond.methodLink RL 130 yX6_until, Cond.instanceMethod yX6_until, Cond.selects RX6 yX6_until yX6_until, Cond.code yX6_until cX6_until 3 (some .int), Cond.methodLink RL 131 yL_advise, Cond.static yL_advise, Cond.codeWith yL_advise cL_advise 4 (some .int) [(0, 9, 12, 15), (0, 9, 15, 17)], Cond.methodLink RL 65 yX5_advise, Cond.instanceMethod yX5_advise, Cond.selects RX5 yX5_advise yX5_advise, Cond.code yX5_advise cX5_advise 8 (some .int), Cond.methodLink RX5 189 yX5_coinsBehind]
def wsL_law0_r24 : List Cond := [Cond.instanceMethod yX5_coinsBehind, Cond.selects RX5 yX5_coinsBehind yX5_coinsBehind, Cond.code yX5_coinsBehind cX5_coinsBehind 5 (some .int), Cond.methodLink RL 133 yX6_advise, Cond.instanceMethod yX6_advise, Cond.selects RX6 yX6_advise yX6_advise, Cond.code yX6_advise cX6_advise 7 (some .int), Cond.methodLink RL 134 yX5_mean, Cond.instanceMethod yX5_mean, Cond.selects RX5 yX5_mean yX5_mean, Cond.code yX5_mean cX5_mean 1 (some .double), Cond.constantDouble RX5 193 (4636455816377925632), Cond.methodLink RL 138 yX6_mean, Cond.instanceMethod yX6_mean, Cond.selects RX6 yX6_mean yX6_mean, Cond.code yX6_mean cX6_mean 1 (some .double), Cond.constantDouble RX6 148 (4636455816377925632), Cond.methodLink RL 139 yX5_digest, Cond.instanceMethod yX5_digest, Cond.selects RX5 yX5_digest yX5_digest, Cond.code yX5_digest cX5_digest 5 (some .long), Cond.constantLong RX5 195 (1823), Cond.constantLong RX5 197 (31), Cond.methodLink RL 143 yX6_digest]
def wsL_law0_r25 : List Cond := [Cond.instanceMethod yX6_digest, Cond.selects RX6 yX6_digest yX6_digest, Cond.code yX6_digest cX6_digest 5 (some .long), Cond.constantLong RX6 150 (1823), Cond.constantLong RX6 152 (31)]
def wsL_law0 : List Cond := (wsL_law0_r1 ++ (wsL_law0_r2 ++ (wsL_law0_r3 ++ (wsL_law0_r4 ++ (wsL_law0_r5 ++ (wsL_law0_r6 ++ (wsL_law0_r7 ++ (wsL_law0_r8 ++ (wsL_law0_r9 ++ (wsL_law0_r10 ++ (wsL_law0_r11 ++ (wsL_law0_r12 ++ (wsL_law0_r13 ++ (wsL_law0_r14 ++ (wsL_law0_r15 ++ (wsL_law0_r16 ++ (wsL_law0_r17 ++ (wsL_law0_r18 ++ (wsL_law0_r19 ++ (wsL_law0_r20 ++ (wsL_law0_r21 ++ (wsL_law0_r22 ++ (wsL_law0_r23 ++ (wsL_law0_r24 ++ wsL_law0_r25)))))))))))))))))))))))) ++ wsX50 ++ wsX60 ++ wsX40 ++ wsX10 ++ wsX00 ++ wsX20 ++ wsX30 ++ ([] : List Cond)
def wsL_law : List Cond := wsL_law0 ++ (vx_atS RX5 37 "java/lang/IllegalArgumentException" ["java/lang/RuntimeException", "java/lang/Exception"]).filter goodWord ++ (vx_atS RX5 44 "java/lang/IndexOutOfBoundsException" ["java/lang/RuntimeException", "java/lang/Exception"]).filter goodWord ++ (vx_atS RX5 53 "java/lang/IllegalStateException" ["java/lang/RuntimeException", "java/lang/Exception"]).filter goodWord
abbrev vwCl : List vw_C := [(RX0, TX0, 6), (RX1, TX1, 3), (RX2, TX2, 1), (RX3, TX3, 7), (RX4, TX4, 6), (RX5, TX5, 4), (RX6, TX6, 10)]
end
section
/-! THE WALK'S OWN LAYER: G says 'from this pc, with these locals, this stack and these cells, the machine comes to Q'; a row an instruction. -/
theorem fm_map {α : Type} {ws : List α} : ∀ (is : List Nat) (w : List α), is.map (fun i => ws[i]?) = w.map some → is.filterMap (fun i => ws[i]?) = w := by
  intro is
  induction is with
  | nil => intro w hw; cases w with
    | nil => rfl
    | cons a w => cases hw
  | cons i is ih =>
    intro w hw
    cases w with
    | nil => cases hw
    | cons a w =>
      simp only [List.map_cons, List.cons.injEq] at hw
      rw [List.filterMap_cons, hw.1]
      simp only [ih w hw.2]
section GL
variable {p : Program} {l : Launch} {e : Env} {R : Room} {s : State} {m : MethodId} {args : Array Value} {below : List Frame} {meth : Method} {c : Code} {Q : State → Prop}
variable {D : va_G} {tys : List (ClassId × FieldType)} {A : Nat → Prop} {cc : ByteArray} {nL kc ks : Nat} {own : String} {Ts : List Cond}
variable {ws ws' : va_W} {lv lv' : List (Nat × Value)} {pc pc' tgt : Nat} {st : List Value}
/-- what stays the same through a walk -/
def gX (p : Program) (s : State) (m : MethodId) (args : Array Value) (c : Code) (D : va_G) (tys : List (ClassId × FieldType)) (A : Nat → Prop) (cc : ByteArray) (nL : Nat) (own : String) (Ts : List Cond) : Prop :=
  p.tables.exec = Jvm.exec ∧ c.code = cc ∧ c.maxLocals = nL ∧ s.vm.findClass own = some m.cls ∧ (∀ w ∈ Ts, w.before args s = true) ∧ va_K D vwCl tys s ∧ (∀ q : Nat, s.heap.size ≤ q → A q)
def G (p : Program) (l : Launch) (e : Env) (R : Room) (s : State) (m : MethodId) (args : Array Value) (below : List Frame) (meth : Method) (c : Code) (Q : State → Prop) (D : va_G) (A : Nat → Prop) (nL kc ks : Nat) (ws : va_W) (lv : List (Nat × Value)) (pc : Nat) (st : List Value) : Prop :=
  ∀ (H : Heap) (locs : List Loc) (ls : Array Slot), va_P D vwCl ws H → va_D A ws → va_S A s.heap H locs → lv_has ls nL lv → W p l e R s m args below meth c H locs kc ks Q (F0 m pc ls st)
theorem gX.fix (X : gX p s m args c D tys A cc nL own Ts) : CallFix p m c cc nL s args Ts own := ⟨X.1, X.2.1, X.2.2.1, X.2.2.2.1, X.2.2.2.2.1⟩
theorem gX.K (X : gX p s m args c D tys A cc nL own Ts) : va_K D vwCl tys s := X.2.2.2.2.2.1
theorem gX.hA (X : gX p s m args c D tys A cc nL own Ts) : ∀ q : Nat, s.heap.size ≤ q → A q := X.2.2.2.2.2.2
theorem gX.hts (X : gX p s m args c D tys A cc nL own Ts) : ∀ w ∈ Ts, w.before args s = true := X.2.2.2.2.1
/-- constants -/
theorem g_iconst (X : gX p s m args c D tys A cc nL own Ts) {n : Int} (v : Int32) (pc' : Nat) (hd : decode cc pc = .ok (.iconst n, 1)) (hn : pc + 1 = pc') (hv : Int32.ofInt n = v) (k : G p l e R s m args below meth c Q D A nL kc ks ws lv pc' (.int v :: st)) : G p l e R s m args below meth c Q D A nL kc ks ws lv pc st := by
  subst hn
  exact fun H locs ls hP hD hS hl => lv_iconst X.1 X.2.1 hd hv (k H locs ls hP hD hS hl)
theorem g_bipush (X : gX p s m args c D tys A cc nL own Ts) {n : Int} (v : Int32) (pc' : Nat) (hd : decode cc pc = .ok (.bipush n, 2)) (hn : pc + 2 = pc') (hv : (Int8.ofInt n).toInt32 = v) (k : G p l e R s m args below meth c Q D A nL kc ks ws lv pc' (.int v :: st)) : G p l e R s m args below meth c Q D A nL kc ks ws lv pc st := by
  subst hn
  exact fun H locs ls hP hD hS hl => lv_bipush X.1 X.2.1 hd hv (k H locs ls hP hD hS hl)
theorem g_sipush (X : gX p s m args c D tys A cc nL own Ts) {n : Int} (v : Int32) (pc' : Nat) (hd : decode cc pc = .ok (.sipush n, 3)) (hn : pc + 3 = pc') (hv : (Int16.ofInt n).toInt32 = v) (k : G p l e R s m args below meth c Q D A nL kc ks ws lv pc' (.int v :: st)) : G p l e R s m args below meth c Q D A nL kc ks ws lv pc st := by
  subst hn
  exact fun H locs ls hP hD hS hl => lv_sipush X.1 X.2.1 hd hv (k H locs ls hP hD hS hl)
/-- locals -/
theorem g_iload_n (X : gX p s m args c D tys A cc nL own Ts) {i : Fin 4} {j : Nat} {x : Int32} (q pc' : Nat) (hd : decode cc pc = .ok (.iload_n i, 1)) (hn : pc + 1 = pc') (hi : (i : Nat) = j) (hj : lv[q]? = some (j, .int x)) (k : G p l e R s m args below meth c Q D A nL kc ks ws lv pc' (.int x :: st)) : G p l e R s m args below meth c Q D A nL kc ks ws lv pc st := by
  subst hn
  exact fun H locs ls hP hD hS hl => lv_iload_n X.1 X.2.1 hd hi (lv_at hl q hj) (k H locs ls hP hD hS hl)
theorem g_iload (X : gX p s m args c D tys A cc nL own Ts) {i : Nat} {x : Int32} (q pc' : Nat) (hd : decode cc pc = .ok (.iload i, 2)) (hn : pc + 2 = pc') (hj : lv[q]? = some (i, .int x)) (k : G p l e R s m args below meth c Q D A nL kc ks ws lv pc' (.int x :: st)) : G p l e R s m args below meth c Q D A nL kc ks ws lv pc st := by
  subst hn
  exact fun H locs ls hP hD hS hl => lv_iload X.1 X.2.1 hd (lv_at hl q hj) (k H locs ls hP hD hS hl)
theorem g_aload_n (X : gX p s m args c D tys A cc nL own Ts) {i : Fin 4} {j : Nat} {x : Nat} (q pc' : Nat) (hd : decode cc pc = .ok (.aload_n i, 1)) (hn : pc + 1 = pc') (hi : (i : Nat) = j) (hj : lv[q]? = some (j, .ref x)) (k : G p l e R s m args below meth c Q D A nL kc ks ws lv pc' (.ref x :: st)) : G p l e R s m args below meth c Q D A nL kc ks ws lv pc st := by
  subst hn
  exact fun H locs ls hP hD hS hl => lv_aload_n X.1 X.2.1 hd hi (lv_at hl q hj) (k H locs ls hP hD hS hl)
theorem g_aload (X : gX p s m args c D tys A cc nL own Ts) {i : Nat} {x : Nat} (q pc' : Nat) (hd : decode cc pc = .ok (.aload i, 2)) (hn : pc + 2 = pc') (hj : lv[q]? = some (i, .ref x)) (k : G p l e R s m args below meth c Q D A nL kc ks ws lv pc' (.ref x :: st)) : G p l e R s m args below meth c Q D A nL kc ks ws lv pc st := by
  subst hn
  exact fun H locs ls hP hD hS hl => lv_aload X.1 X.2.1 hd (lv_at hl q hj) (k H locs ls hP hD hS hl)
theorem g_lload_n (X : gX p s m args c D tys A cc nL own Ts) {i : Fin 4} {j : Nat} {x : Int64} (q pc' : Nat) (hd : decode cc pc = .ok (.lload_n i, 1)) (hn : pc + 1 = pc') (hi : (i : Nat) = j) (hj : lv[q]? = some (j, .long x)) (k : G p l e R s m args below meth c Q D A nL kc ks ws lv pc' (.long x :: st)) : G p l e R s m args below meth c Q D A nL kc ks ws lv pc st := by
  subst hn
  exact fun H locs ls hP hD hS hl => lv_lload_n X.1 X.2.1 hd hi (lv_at hl q hj) (k H locs ls hP hD hS hl)
theorem g_dload (X : gX p s m args c D tys A cc nL own Ts) {i : Nat} {x : UInt64} (q pc' : Nat) (hd : decode cc pc = .ok (.dload i, 2)) (hn : pc + 2 = pc') (hj : lv[q]? = some (i, .double x)) (k : G p l e R s m args below meth c Q D A nL kc ks ws lv pc' (.double x :: st)) : G p l e R s m args below meth c Q D A nL kc ks ws lv pc st := by
  subst hn
  exact fun H locs ls hP hD hS hl => lv_dload X.1 X.2.1 hd (lv_at hl q hj) (k H locs ls hP hD hS hl)
abbrev gSt (i : Nat) (v : Value) (lv : List (Nat × Value)) : List (Nat × Value) := (i, v) :: lv.filter (fun q => !(q.1 == i) && !(q.1 + 1 == i && q.2.category == 2))
theorem g_istore_n (X : gX p s m args c D tys A cc nL own Ts) {i : Fin 4} {j : Nat} {x : Int32} (lv' : List (Nat × Value)) (pc' : Nat) (hd : decode cc pc = .ok (.istore_n i, 1)) (hn : pc + 1 = pc') (hi : (i : Nat) = j) (hj : j < nL) (hl' : gSt j (.int x) lv = lv') (k : G p l e R s m args below meth c Q D A nL kc ks ws lv' pc' st) : G p l e R s m args below meth c Q D A nL kc ks ws lv pc (.int x :: st) := by
  subst hn
  exact fun H locs ls hP hD hS hl => lv_istore_n X.1 X.2.1 hd hi hl hj hl' (fun ls hl => k H locs ls hP hD hS hl)
theorem g_istore (X : gX p s m args c D tys A cc nL own Ts) {i : Nat} {x : Int32} (lv' : List (Nat × Value)) (pc' : Nat) (hd : decode cc pc = .ok (.istore i, 2)) (hn : pc + 2 = pc') (hj : i < nL) (hl' : gSt i (.int x) lv = lv') (k : G p l e R s m args below meth c Q D A nL kc ks ws lv' pc' st) : G p l e R s m args below meth c Q D A nL kc ks ws lv pc (.int x :: st) := by
  subst hn
  exact fun H locs ls hP hD hS hl => lv_istore X.1 X.2.1 hd hl hj hl' (fun ls hl => k H locs ls hP hD hS hl)
theorem g_astore_n (X : gX p s m args c D tys A cc nL own Ts) {i : Fin 4} {j : Nat} {x : Nat} (lv' : List (Nat × Value)) (pc' : Nat) (hd : decode cc pc = .ok (.astore_n i, 1)) (hn : pc + 1 = pc') (hi : (i : Nat) = j) (hj : j < nL) (hl' : gSt j (.ref x) lv = lv') (k : G p l e R s m args below meth c Q D A nL kc ks ws lv' pc' st) : G p l e R s m args below meth c Q D A nL kc ks ws lv pc (.ref x :: st) := by
  subst hn
  exact fun H locs ls hP hD hS hl => lv_astore_n X.1 X.2.1 hd hi hl hj hl' (fun ls hl => k H locs ls hP hD hS hl)
theorem g_astore (X : gX p s m args c D tys A cc nL own Ts) {i : Nat} {x : Nat} (lv' : List (Nat × Value)) (pc' : Nat) (hd : decode cc pc = .ok (.astore i, 2)) (hn : pc + 2 = pc') (hj : i < nL) (hl' : gSt i (.ref x) lv = lv') (k : G p l e R s m args below meth c Q D A nL kc ks ws lv' pc' st) : G p l e R s m args below meth c Q D A nL kc ks ws lv pc (.ref x :: st) := by
  subst hn
  exact fun H locs ls hP hD hS hl => lv_astore X.1 X.2.1 hd hl hj hl' (fun ls hl => k H locs ls hP hD hS hl)
theorem g_lstore_n (X : gX p s m args c D tys A cc nL own Ts) {i : Fin 4} {j : Nat} {x : Int64} (lv' : List (Nat × Value)) (pc' : Nat) (hd : decode cc pc = .ok (.lstore_n i, 1)) (hn : pc + 1 = pc') (hi : (i : Nat) = j) (hj : j + 1 < nL) (hl' : (j, Value.long x) :: lv.filter (fun q => !(q.1 == j) && (!(q.1 == j + 1) && !(q.1 + 1 == j && q.2.category == 2))) = lv') (k : G p l e R s m args below meth c Q D A nL kc ks ws lv' pc' st) : G p l e R s m args below meth c Q D A nL kc ks ws lv pc (.long x :: st) := by
  subst hn
  exact fun H locs ls hP hD hS hl => lv_lstore_n X.1 X.2.1 hd hi hl hj hl' (fun ls hl => k H locs ls hP hD hS hl)
theorem g_dstore (X : gX p s m args c D tys A cc nL own Ts) {i : Nat} {x : UInt64} (lv' : List (Nat × Value)) (pc' : Nat) (hd : decode cc pc = .ok (.dstore i, 2)) (hn : pc + 2 = pc') (hj : i + 1 < nL) (hl' : (i, Value.double x) :: lv.filter (fun q => !(q.1 == i) && (!(q.1 == i + 1) && !(q.1 + 1 == i && q.2.category == 2))) = lv') (k : G p l e R s m args below meth c Q D A nL kc ks ws lv' pc' st) : G p l e R s m args below meth c Q D A nL kc ks ws lv pc (.double x :: st) := by
  subst hn
  exact fun H locs ls hP hD hS hl => lv_dstore X.1 X.2.1 hd hl hj hl' (fun ls hl => k H locs ls hP hD hS hl)
/-- an int's counter goes on -/
theorem g_iinc (X : gX p s m args c D tys A cc nL own Ts) {i : Nat} {n : Int} {x : Int32} (q : Nat) (v : Int32) (lv' : List (Nat × Value)) (pc' : Nat) (hd : decode cc pc = .ok (.iinc i n, 3)) (hn : pc + 3 = pc') (hq : lv[q]? = some (i, .int x)) (hv : x + Int32.ofInt n = v) (hj : i < nL) (hl' : gSt i (.int v) lv = lv') (k : G p l e R s m args below meth c Q D A nL kc ks ws lv' pc' st) : G p l e R s m args below meth c Q D A nL kc ks ws lv pc st := by
  subst hn
  exact fun H locs ls hP hD hS hl => lv_iinc X.1 X.2.1 hd hl hq hv hj hl' (fun ls hl => k H locs ls hP hD hS hl)
/-- fewer locals, in any order -/
theorem g_lv (ks0 : List Nat) (hl' : lv_pick lv ks0 = lv') (k : G p l e R s m args below meth c Q D A nL kc ks ws lv' pc st) : G p l e R s m args below meth c Q D A nL kc ks ws lv pc st :=
  fun H locs ls hP hD hS hl => k H locs ls hP hD hS (lv_sub hl ks0 hl')
/-- the stack -/
theorem g_dup (X : gX p s m args c D tys A cc nL own Ts) {v : Value} (pc' : Nat) (hd : decode cc pc = .ok (.dup, 1)) (hn : pc + 1 = pc') (hv : v.category = 1) (k : G p l e R s m args below meth c Q D A nL kc ks ws lv pc' (v :: v :: st)) : G p l e R s m args below meth c Q D A nL kc ks ws lv pc (v :: st) := by
  subst hn
  exact fun H locs ls hP hD hS hl => lv_dup X.1 X.2.1 hd hv (k H locs ls hP hD hS hl)
theorem g_pop (X : gX p s m args c D tys A cc nL own Ts) {v : Value} (pc' : Nat) (hd : decode cc pc = .ok (.pop, 1)) (hn : pc + 1 = pc') (hv : v.category = 1) (k : G p l e R s m args below meth c Q D A nL kc ks ws lv pc' st) : G p l e R s m args below meth c Q D A nL kc ks ws lv pc (v :: st) := by
  subst hn
  exact fun H locs ls hP hD hS hl => lv_pop X.1 X.2.1 hd hv (k H locs ls hP hD hS hl)
/-- arithmetic: the answer under a name of its own -/
theorem g_iadd (X : gX p s m args c D tys A cc nL own Ts) {x y : Int32} (z : Int32) (pc' : Nat) (hd : decode cc pc = .ok (.iadd, 1)) (hn : pc + 1 = pc') (hz : x + y = z) (k : G p l e R s m args below meth c Q D A nL kc ks ws lv pc' (.int z :: st)) : G p l e R s m args below meth c Q D A nL kc ks ws lv pc (.int y :: .int x :: st) := by
  subst hn
  subst hz
  exact fun H locs ls hP hD hS hl => lv_iadd X.1 X.2.1 hd (k H locs ls hP hD hS hl)
theorem g_isub (X : gX p s m args c D tys A cc nL own Ts) {x y : Int32} (z : Int32) (pc' : Nat) (hd : decode cc pc = .ok (.isub, 1)) (hn : pc + 1 = pc') (hz : x - y = z) (k : G p l e R s m args below meth c Q D A nL kc ks ws lv pc' (.int z :: st)) : G p l e R s m args below meth c Q D A nL kc ks ws lv pc (.int y :: .int x :: st) := by
  subst hn
  subst hz
  exact fun H locs ls hP hD hS hl => lv_isub X.1 X.2.1 hd (k H locs ls hP hD hS hl)
theorem g_imul (X : gX p s m args c D tys A cc nL own Ts) {x y : Int32} (z : Int32) (pc' : Nat) (hd : decode cc pc = .ok (.imul, 1)) (hn : pc + 1 = pc') (hz : x * y = z) (k : G p l e R s m args below meth c Q D A nL kc ks ws lv pc' (.int z :: st)) : G p l e R s m args below meth c Q D A nL kc ks ws lv pc (.int y :: .int x :: st) := by
  subst hn
  subst hz
  exact fun H locs ls hP hD hS hl => lv_imul X.1 X.2.1 hd (k H locs ls hP hD hS hl)
theorem g_idiv (X : gX p s m args c D tys A cc nL own Ts) {x y : Int32} (z : Int32) (pc' : Nat) (hd : decode cc pc = .ok (.idiv, 1)) (hn : pc + 1 = pc') (hy : ¬ y = 0) (hz : x / y = z) (k : G p l e R s m args below meth c Q D A nL kc ks ws lv pc' (.int z :: st)) : G p l e R s m args below meth c Q D A nL kc ks ws lv pc (.int y :: .int x :: st) := by
  subst hn
  subst hz
  exact fun H locs ls hP hD hS hl => lv_idiv X.1 X.2.1 hd hy (k H locs ls hP hD hS hl)
theorem g_irem (X : gX p s m args c D tys A cc nL own Ts) {x y : Int32} (z : Int32) (pc' : Nat) (hd : decode cc pc = .ok (.irem, 1)) (hn : pc + 1 = pc') (hy : ¬ y = 0) (hz : x - x / y * y = z) (k : G p l e R s m args below meth c Q D A nL kc ks ws lv pc' (.int z :: st)) : G p l e R s m args below meth c Q D A nL kc ks ws lv pc (.int y :: .int x :: st) := by
  subst hn
  subst hz
  exact fun H locs ls hP hD hS hl => lv_irem X.1 X.2.1 hd hy (k H locs ls hP hD hS hl)
theorem g_ineg (X : gX p s m args c D tys A cc nL own Ts) {x : Int32} (pc' : Nat) (hd : decode cc pc = .ok (.ineg, 1)) (hn : pc + 1 = pc') (k : G p l e R s m args below meth c Q D A nL kc ks ws lv pc' (.int (-x) :: st)) : G p l e R s m args below meth c Q D A nL kc ks ws lv pc (.int x :: st) := by
  subst hn
  exact fun H locs ls hP hD hS hl => lv_ineg X.1 X.2.1 hd (k H locs ls hP hD hS hl)
theorem g_iand (X : gX p s m args c D tys A cc nL own Ts) {x y : Int32} (pc' : Nat) (hd : decode cc pc = .ok (.iand, 1)) (hn : pc + 1 = pc') (k : G p l e R s m args below meth c Q D A nL kc ks ws lv pc' (.int (x &&& y) :: st)) : G p l e R s m args below meth c Q D A nL kc ks ws lv pc (.int y :: .int x :: st) := by
  subst hn
  exact fun H locs ls hP hD hS hl => lv_iand X.1 X.2.1 hd (k H locs ls hP hD hS hl)
theorem g_i2l (X : gX p s m args c D tys A cc nL own Ts) {x : Int32} (pc' : Nat) (hd : decode cc pc = .ok (.i2l, 1)) (hn : pc + 1 = pc') (k : G p l e R s m args below meth c Q D A nL kc ks ws lv pc' (.long x.toInt64 :: st)) : G p l e R s m args below meth c Q D A nL kc ks ws lv pc (.int x :: st) := by
  subst hn
  exact fun H locs ls hP hD hS hl => lv_i2l X.1 X.2.1 hd rfl (k H locs ls hP hD hS hl)
theorem g_ladd (X : gX p s m args c D tys A cc nL own Ts) {x y : Int64} (pc' : Nat) (hd : decode cc pc = .ok (.ladd, 1)) (hn : pc + 1 = pc') (k : G p l e R s m args below meth c Q D A nL kc ks ws lv pc' (.long (x + y) :: st)) : G p l e R s m args below meth c Q D A nL kc ks ws lv pc (.long y :: .long x :: st) := by
  subst hn
  exact fun H locs ls hP hD hS hl => lv_ladd X.1 X.2.1 hd (k H locs ls hP hD hS hl)
theorem g_lmul (X : gX p s m args c D tys A cc nL own Ts) {x y : Int64} (pc' : Nat) (hd : decode cc pc = .ok (.lmul, 1)) (hn : pc + 1 = pc') (k : G p l e R s m args below meth c Q D A nL kc ks ws lv pc' (.long (x * y) :: st)) : G p l e R s m args below meth c Q D A nL kc ks ws lv pc (.long y :: .long x :: st) := by
  subst hn
  exact fun H locs ls hP hD hS hl => lv_lmul X.1 X.2.1 hd (k H locs ls hP hD hS hl)
theorem g_i2d (X : gX p s m args c D tys A cc nL own Ts) {x : Int32} (pc' : Nat) (hd : decode cc pc = .ok (.i2d, 1)) (hn : pc + 1 = pc') (k : G p l e R s m args below meth c Q D A nL kc ks ws lv pc' (.double (FP.i2d x) :: st)) : G p l e R s m args below meth c Q D A nL kc ks ws lv pc (.int x :: st) := by
  subst hn
  exact fun H locs ls hP hD hS hl => lv_i2d X.1 X.2.1 hd (k H locs ls hP hD hS hl)
/-- branches -/
theorem g_goto (X : gX p s m args c D tys A cc nL own Ts) {off : Int} (tgt : Nat) (hd : decode cc pc = .ok (.goto off, 3)) (ht : (pc : Int) + off = (tgt : Int)) (k : G p l e R s m args below meth c Q D A nL kc ks ws lv tgt st) : G p l e R s m args below meth c Q D A nL kc ks ws lv pc st :=
  fun H locs ls hP hD hS hl => lv_goto X.1 X.2.1 hd ht (k H locs ls hP hD hS hl)
theorem g_icmp_eq (X : gX p s m args c D tys A cc nL own Ts) {x y : Int32} {off : Int} {P : Prop} (pc' tgt : Nat) (hd : decode cc pc = .ok (.if_icmp .eq off, 3)) (hn : pc + 3 = pc') (ht : (pc : Int) + off = (tgt : Int)) (hi : x = y ↔ P) (kt : P → G p l e R s m args below meth c Q D A nL kc ks ws lv tgt st) (kf : ¬ P → G p l e R s m args below meth c Q D A nL kc ks ws lv pc' st) : G p l e R s m args below meth c Q D A nL kc ks ws lv pc (.int y :: .int x :: st) := by
  subst hn
  exact fun H locs ls hP hD hS hl => lv_icmp_eq X.1 X.2.1 hd ht (fun h => kt (hi.mp h) H locs ls hP hD hS hl) (fun h => kf (fun z => h (hi.mpr z)) H locs ls hP hD hS hl)
theorem g_if_eq (X : gX p s m args c D tys A cc nL own Ts) {x : Int32} {off : Int} {P : Prop} (pc' tgt : Nat) (hd : decode cc pc = .ok (.ifCond .eq off, 3)) (hn : pc + 3 = pc') (ht : (pc : Int) + off = (tgt : Int)) (hi : x = 0 ↔ P) (kt : P → G p l e R s m args below meth c Q D A nL kc ks ws lv tgt st) (kf : ¬ P → G p l e R s m args below meth c Q D A nL kc ks ws lv pc' st) : G p l e R s m args below meth c Q D A nL kc ks ws lv pc (.int x :: st) := by
  subst hn
  exact fun H locs ls hP hD hS hl => lv_if_eq X.1 X.2.1 hd ht (fun h => kt (hi.mp h) H locs ls hP hD hS hl) (fun h => kf (fun z => h (hi.mpr z)) H locs ls hP hD hS hl)
theorem g_icmp_ne (X : gX p s m args c D tys A cc nL own Ts) {x y : Int32} {off : Int} {P : Prop} (pc' tgt : Nat) (hd : decode cc pc = .ok (.if_icmp .ne off, 3)) (hn : pc + 3 = pc') (ht : (pc : Int) + off = (tgt : Int)) (hi : x = y ↔ P) (kt : ¬ P → G p l e R s m args below meth c Q D A nL kc ks ws lv tgt st) (kf : P → G p l e R s m args below meth c Q D A nL kc ks ws lv pc' st) : G p l e R s m args below meth c Q D A nL kc ks ws lv pc (.int y :: .int x :: st) := by
  subst hn
  exact fun H locs ls hP hD hS hl => lv_icmp_ne X.1 X.2.1 hd ht (fun h => kt (fun z => h (hi.mpr z)) H locs ls hP hD hS hl) (fun h => kf (hi.mp h) H locs ls hP hD hS hl)
theorem g_if_ne (X : gX p s m args c D tys A cc nL own Ts) {x : Int32} {off : Int} {P : Prop} (pc' tgt : Nat) (hd : decode cc pc = .ok (.ifCond .ne off, 3)) (hn : pc + 3 = pc') (ht : (pc : Int) + off = (tgt : Int)) (hi : x = 0 ↔ P) (kt : ¬ P → G p l e R s m args below meth c Q D A nL kc ks ws lv tgt st) (kf : P → G p l e R s m args below meth c Q D A nL kc ks ws lv pc' st) : G p l e R s m args below meth c Q D A nL kc ks ws lv pc (.int x :: st) := by
  subst hn
  exact fun H locs ls hP hD hS hl => lv_if_ne X.1 X.2.1 hd ht (fun h => kt (fun z => h (hi.mpr z)) H locs ls hP hD hS hl) (fun h => kf (hi.mp h) H locs ls hP hD hS hl)
theorem g_icmp_lt (X : gX p s m args c D tys A cc nL own Ts) {x y : Int32} {off : Int} {P : Prop} (pc' tgt : Nat) (hd : decode cc pc = .ok (.if_icmp .lt off, 3)) (hn : pc + 3 = pc') (ht : (pc : Int) + off = (tgt : Int)) (hi : x < y ↔ P) (kt : P → G p l e R s m args below meth c Q D A nL kc ks ws lv tgt st) (kf : ¬ P → G p l e R s m args below meth c Q D A nL kc ks ws lv pc' st) : G p l e R s m args below meth c Q D A nL kc ks ws lv pc (.int y :: .int x :: st) := by
  subst hn
  exact fun H locs ls hP hD hS hl => lv_icmp_lt X.1 X.2.1 hd ht (fun h => kt (hi.mp h) H locs ls hP hD hS hl) (fun h => kf (fun z => h (hi.mpr z)) H locs ls hP hD hS hl)
theorem g_if_lt (X : gX p s m args c D tys A cc nL own Ts) {x : Int32} {off : Int} {P : Prop} (pc' tgt : Nat) (hd : decode cc pc = .ok (.ifCond .lt off, 3)) (hn : pc + 3 = pc') (ht : (pc : Int) + off = (tgt : Int)) (hi : x < 0 ↔ P) (kt : P → G p l e R s m args below meth c Q D A nL kc ks ws lv tgt st) (kf : ¬ P → G p l e R s m args below meth c Q D A nL kc ks ws lv pc' st) : G p l e R s m args below meth c Q D A nL kc ks ws lv pc (.int x :: st) := by
  subst hn
  exact fun H locs ls hP hD hS hl => lv_if_lt X.1 X.2.1 hd ht (fun h => kt (hi.mp h) H locs ls hP hD hS hl) (fun h => kf (fun z => h (hi.mpr z)) H locs ls hP hD hS hl)
theorem g_icmp_ge (X : gX p s m args c D tys A cc nL own Ts) {x y : Int32} {off : Int} {P : Prop} (pc' tgt : Nat) (hd : decode cc pc = .ok (.if_icmp .ge off, 3)) (hn : pc + 3 = pc') (ht : (pc : Int) + off = (tgt : Int)) (hi : y ≤ x ↔ P) (kt : P → G p l e R s m args below meth c Q D A nL kc ks ws lv tgt st) (kf : ¬ P → G p l e R s m args below meth c Q D A nL kc ks ws lv pc' st) : G p l e R s m args below meth c Q D A nL kc ks ws lv pc (.int y :: .int x :: st) := by
  subst hn
  exact fun H locs ls hP hD hS hl => lv_icmp_ge X.1 X.2.1 hd ht (fun h => kt (hi.mp h) H locs ls hP hD hS hl) (fun h => kf (fun z => h (hi.mpr z)) H locs ls hP hD hS hl)
theorem g_if_ge (X : gX p s m args c D tys A cc nL own Ts) {x : Int32} {off : Int} {P : Prop} (pc' tgt : Nat) (hd : decode cc pc = .ok (.ifCond .ge off, 3)) (hn : pc + 3 = pc') (ht : (pc : Int) + off = (tgt : Int)) (hi : 0 ≤ x ↔ P) (kt : P → G p l e R s m args below meth c Q D A nL kc ks ws lv tgt st) (kf : ¬ P → G p l e R s m args below meth c Q D A nL kc ks ws lv pc' st) : G p l e R s m args below meth c Q D A nL kc ks ws lv pc (.int x :: st) := by
  subst hn
  exact fun H locs ls hP hD hS hl => lv_if_ge X.1 X.2.1 hd ht (fun h => kt (hi.mp h) H locs ls hP hD hS hl) (fun h => kf (fun z => h (hi.mpr z)) H locs ls hP hD hS hl)
theorem g_icmp_gt (X : gX p s m args c D tys A cc nL own Ts) {x y : Int32} {off : Int} {P : Prop} (pc' tgt : Nat) (hd : decode cc pc = .ok (.if_icmp .gt off, 3)) (hn : pc + 3 = pc') (ht : (pc : Int) + off = (tgt : Int)) (hi : y < x ↔ P) (kt : P → G p l e R s m args below meth c Q D A nL kc ks ws lv tgt st) (kf : ¬ P → G p l e R s m args below meth c Q D A nL kc ks ws lv pc' st) : G p l e R s m args below meth c Q D A nL kc ks ws lv pc (.int y :: .int x :: st) := by
  subst hn
  exact fun H locs ls hP hD hS hl => lv_icmp_gt X.1 X.2.1 hd ht (fun h => kt (hi.mp h) H locs ls hP hD hS hl) (fun h => kf (fun z => h (hi.mpr z)) H locs ls hP hD hS hl)
theorem g_if_gt (X : gX p s m args c D tys A cc nL own Ts) {x : Int32} {off : Int} {P : Prop} (pc' tgt : Nat) (hd : decode cc pc = .ok (.ifCond .gt off, 3)) (hn : pc + 3 = pc') (ht : (pc : Int) + off = (tgt : Int)) (hi : 0 < x ↔ P) (kt : P → G p l e R s m args below meth c Q D A nL kc ks ws lv tgt st) (kf : ¬ P → G p l e R s m args below meth c Q D A nL kc ks ws lv pc' st) : G p l e R s m args below meth c Q D A nL kc ks ws lv pc (.int x :: st) := by
  subst hn
  exact fun H locs ls hP hD hS hl => lv_if_gt X.1 X.2.1 hd ht (fun h => kt (hi.mp h) H locs ls hP hD hS hl) (fun h => kf (fun z => h (hi.mpr z)) H locs ls hP hD hS hl)
theorem g_icmp_le (X : gX p s m args c D tys A cc nL own Ts) {x y : Int32} {off : Int} {P : Prop} (pc' tgt : Nat) (hd : decode cc pc = .ok (.if_icmp .le off, 3)) (hn : pc + 3 = pc') (ht : (pc : Int) + off = (tgt : Int)) (hi : x ≤ y ↔ P) (kt : P → G p l e R s m args below meth c Q D A nL kc ks ws lv tgt st) (kf : ¬ P → G p l e R s m args below meth c Q D A nL kc ks ws lv pc' st) : G p l e R s m args below meth c Q D A nL kc ks ws lv pc (.int y :: .int x :: st) := by
  subst hn
  exact fun H locs ls hP hD hS hl => lv_icmp_le X.1 X.2.1 hd ht (fun h => kt (hi.mp h) H locs ls hP hD hS hl) (fun h => kf (fun z => h (hi.mpr z)) H locs ls hP hD hS hl)
theorem g_if_le (X : gX p s m args c D tys A cc nL own Ts) {x : Int32} {off : Int} {P : Prop} (pc' tgt : Nat) (hd : decode cc pc = .ok (.ifCond .le off, 3)) (hn : pc + 3 = pc') (ht : (pc : Int) + off = (tgt : Int)) (hi : x ≤ 0 ↔ P) (kt : P → G p l e R s m args below meth c Q D A nL kc ks ws lv tgt st) (kf : ¬ P → G p l e R s m args below meth c Q D A nL kc ks ws lv pc' st) : G p l e R s m args below meth c Q D A nL kc ks ws lv pc (.int x :: st) := by
  subst hn
  exact fun H locs ls hP hD hS hl => lv_if_le X.1 X.2.1 hd ht (fun h => kt (hi.mp h) H locs ls hP hD hS hl) (fun h => kf (fun z => h (hi.mpr z)) H locs ls hP hD hS hl)
/-- switches -/
theorem g_tableIn (X : gX p s m args c D tys A cc nL own Ts) {dflt lo hi : Int} {offs : Array Int} {len : Nat} {x : Int32} {off : Int} (tgt : Nat) (hd : decode cc pc = .ok (.tableswitch dflt lo hi offs, len)) (z : Int) (hz : x.toInt = z) (h1 : ¬ z < lo) (h2 : ¬ hi < z) (ho : offs[(z - lo).toNat]? = some off) (ht : (pc : Int) + off = (tgt : Int)) (k : G p l e R s m args below meth c Q D A nL kc ks ws lv tgt st) : G p l e R s m args below meth c Q D A nL kc ks ws lv pc (.int x :: st) := by
  subst hz
  exact fun H locs ls hP hD hS hl => lv_tableIn X.1 X.2.1 hd h1 h2 ho ht (k H locs ls hP hD hS hl)
theorem g_tableOut (X : gX p s m args c D tys A cc nL own Ts) {dflt lo hi : Int} {offs : Array Int} {len : Nat} {x : Int32} (tgt : Nat) (hd : decode cc pc = .ok (.tableswitch dflt lo hi offs, len)) (h : x.toInt < lo ∨ hi < x.toInt) (ht : (pc : Int) + dflt = (tgt : Int)) (k : G p l e R s m args below meth c Q D A nL kc ks ws lv tgt st) : G p l e R s m args below meth c Q D A nL kc ks ws lv pc (.int x :: st) :=
  fun H locs ls hP hD hS hl => lv_tableOut X.1 X.2.1 hd h ht (k H locs ls hP hD hS hl)
/-- fields -/
theorem g_get (X : gX p s m args c D tys A cc nL own Ts) {C : String} {T : u_T} {N ci index a : Nat} (hin : ∀ w ∈ u_ws C T N, w ∈ Ts) (q0 : Nat) (k0 pc' : Nat) {fs : List Value} (he : ws[q0]? = some (a, .inr (ci, fs))) (hc : vwCl[ci]? = some (C, T, N)) (hk : k0 < N) (hl0 : Cond.fieldLink own index (T k0).1 (T k0).2.1 (T k0).2.2.1 ∈ Ts) {v : Value} (hv : fs[k0]? = some v) (hd : decode cc pc = .ok (.getfield index, 3)) (hn : pc + 3 = pc') (k : G p l e R s m args below meth c Q D A nL kc ks ws lv pc' (v :: st)) : G p l e R s m args below meth c Q D A nL kc ks ws lv pc (.ref a :: st) := by
  subst hn
  exact fun H locs ls hP hD hS hl => va_get (D := D) X.1 X.2.1 X.hts hin X.2.2.2.1 X.K hP q0 he hc k0 hk (X.hts _ hl0) (fun _ h => h) hv hd (k H locs ls hP hD hS hl)
theorem g_put (X : gX p s m args c D tys A cc nL own Ts) {C : String} {T : u_T} {N ci index a : Nat} (hin : ∀ w ∈ u_ws C T N, w ∈ Ts) (ty0 : Nat → FieldType) (hty : ∀ k, k < N → parseFieldDescriptor (T k).2.2.1 = some (ty0 k)) (hnm : ∀ a, a < N → ∀ b, b < N → a ≠ b → (T a).2.1 ≠ (T b).2.1) (q0 : Nat) (k0 pc' : Nat) {fs : List Value} (he : ws[q0]? = some (a, .inr (ci, fs))) (hc : vwCl[ci]? = some (C, T, N)) (hk : k0 < N) (hl0 : Cond.fieldLink own index (T k0).1 (T k0).2.1 (T k0).2.2.1 ∈ Ts) (hfin : (T k0).2.2.2 = false) {ty : FieldType} {v : Value} (hpd : parseFieldDescriptor (T k0).2.2.1 = some ty) (hnv : narrow ty v = v) (hfit : fits ty v = true) (hlen : k0 < fs.length) (hd : decode cc pc = .ok (.putfield index, 3)) (hn : pc + 3 = pc') (hw : ws.set q0 (a, .inr (ci, fs.set k0 v)) = ws') (k : G p l e R s m args below meth c Q D A nL kc ks ws' lv pc' st) : G p l e R s m args below meth c Q D A nL kc ks ws lv pc (v :: .ref a :: st) := by
  subst hn
  subst hw
  exact fun H locs ls hP hD hS hl => va_put (D := D) X.1 X.2.1 X.hts hin ty0 hty hnm X.2.2.2.1 X.K hP hD hS q0 he hc k0 hk (X.hts _ hl0) (fun _ h => h) hfin hpd hnv hfit hlen hd (fun H locs hP hD hS => k H locs ls hP hD hS hl)
theorem g_putF (X : gX p s m args c D tys A cc nL own Ts) (hin2 : meth.name = "<init>") {C : String} {T : u_T} {N ci index a : Nat} (hin : ∀ w ∈ u_ws C T N, w ∈ Ts) (ty0 : Nat → FieldType) (hty : ∀ k, k < N → parseFieldDescriptor (T k).2.2.1 = some (ty0 k)) (hnm : ∀ a, a < N → ∀ b, b < N → a ≠ b → (T a).2.1 ≠ (T b).2.1) (q0 : Nat) (k0 pc' : Nat) {fs : List Value} (he : ws[q0]? = some (a, .inr (ci, fs))) (hc : vwCl[ci]? = some (C, T, N)) (hk : k0 < N) (hl0 : Cond.fieldLink own index (T k0).1 (T k0).2.1 (T k0).2.2.1 ∈ Ts) (hfin : (T k0).2.2.2 = true) (hdecl : (T k0).1 = own) {ty : FieldType} {v : Value} (hpd : parseFieldDescriptor (T k0).2.2.1 = some ty) (hnv : narrow ty v = v) (hfit : fits ty v = true) (hlen : k0 < fs.length) (hd : decode cc pc = .ok (.putfield index, 3)) (hn : pc + 3 = pc') (hw : ws.set q0 (a, .inr (ci, fs.set k0 v)) = ws') (k : G p l e R s m args below meth c Q D A nL kc ks ws' lv pc' st) : G p l e R s m args below meth c Q D A nL kc ks ws lv pc (v :: .ref a :: st) := by
  subst hn
  subst hw
  exact fun H locs ls hP hD hS hl => va_putF (D := D) X.1 X.2.1 X.hts hin ty0 hty hnm X.2.2.2.1 X.K hP hD hS q0 he hc k0 hk (X.hts _ hl0) (fun _ h => h) hfin hin2 hdecl hpd hnv hfit hlen hd (fun H locs hP hD hS => k H locs ls hP hD hS hl)
/-- arrays: the index is a number -/
theorem nIc {n : Nat} (h : n < 2 ^ 31) : (nI n).toNatClampNeg = n := nI_clamp h
theorem g_iald (X : gX p s m args c D tys A cc nL own Ts) {a n : Nat} {cA : ClassId} {f : Nat → Int32} (q0 t0 : Nat) (j : Nat) (v : Int32) (pc' : Nat) (ha : ws[q0]? = some (a, .inl (cA, n, .inl f))) (ht : tys[t0]? = some (cA, .int)) (hj : j < n) (hn31 : n < 2 ^ 31) (hv : f j = v) (hd : decode cc pc = .ok (.iaload, 1)) (hn : pc + 1 = pc') (k : G p l e R s m args below meth c Q D A nL kc ks ws lv pc' (.int v :: st)) : G p l e R s m args below meth c Q D A nL kc ks ws lv pc (.int (nI j) :: .ref a :: st) := by
  subst hn
  subst hv
  have hc : (nI j).toNatClampNeg = j := nI_clamp (Nat.lt_trans hj hn31)
  exact fun H locs ls hP hD hS hl => va_iald (D := D) X.1 X.2.1 X.K hP q0 t0 ha ht (vp_in_nI hj hn31) hd (by rw [hc]; exact k H locs ls hP hD hS hl)
theorem g_zald (X : gX p s m args c D tys A cc nL own Ts) {a n : Nat} {cA : ClassId} {f : Nat → Int32} (q0 t0 : Nat) (j : Nat) (v : Int32) (pc' : Nat) (ha : ws[q0]? = some (a, .inl (cA, n, .inl f))) (ht : tys[t0]? = some (cA, .boolean)) (hj : j < n) (hn31 : n < 2 ^ 31) (hv : f j = v) (hd : decode cc pc = .ok (.baload, 1)) (hn : pc + 1 = pc') (k : G p l e R s m args below meth c Q D A nL kc ks ws lv pc' (.int v :: st)) : G p l e R s m args below meth c Q D A nL kc ks ws lv pc (.int (nI j) :: .ref a :: st) := by
  subst hn
  subst hv
  have hc : (nI j).toNatClampNeg = j := nI_clamp (Nat.lt_trans hj hn31)
  exact fun H locs ls hP hD hS hl => va_zald (D := D) X.1 X.2.1 X.K hP q0 t0 ha ht (vp_in_nI hj hn31) hd (by rw [hc]; exact k H locs ls hP hD hS hl)
theorem g_lald (X : gX p s m args c D tys A cc nL own Ts) {a n : Nat} {cA : ClassId} {f : Nat → Int64} (q0 t0 : Nat) (j : Nat) (v : Int64) (pc' : Nat) (ha : ws[q0]? = some (a, .inl (cA, n, .inr (.inl f)))) (ht : tys[t0]? = some (cA, .long)) (hj : j < n) (hn31 : n < 2 ^ 31) (hv : f j = v) (hd : decode cc pc = .ok (.laload, 1)) (hn : pc + 1 = pc') (k : G p l e R s m args below meth c Q D A nL kc ks ws lv pc' (.long v :: st)) : G p l e R s m args below meth c Q D A nL kc ks ws lv pc (.int (nI j) :: .ref a :: st) := by
  subst hn
  subst hv
  have hc : (nI j).toNatClampNeg = j := nI_clamp (Nat.lt_trans hj hn31)
  exact fun H locs ls hP hD hS hl => va_lald (D := D) X.1 X.2.1 X.K hP q0 t0 ha ht (vp_in_nI hj hn31) hd (by rw [hc]; exact k H locs ls hP hD hS hl)
theorem g_iast (X : gX p s m args c D tys A cc nL own Ts) {a n : Nat} {cA : ClassId} {f : Nat → Int32} (q0 t0 : Nat) (j : Nat) (f' : Nat → Int32) {x : Int32} (pc' : Nat) (ha : ws[q0]? = some (a, .inl (cA, n, .inl f))) (ht : tys[t0]? = some (cA, .int)) (hj : j < n) (hn31 : n < 2 ^ 31) (hf : upd f j x = f') (hd : decode cc pc = .ok (.iastore, 1)) (hn : pc + 1 = pc') (hw : ws.set q0 (a, .inl (cA, n, .inl f')) = ws') (k : G p l e R s m args below meth c Q D A nL kc ks ws' lv pc' st) : G p l e R s m args below meth c Q D A nL kc ks ws lv pc (.int x :: .int (nI j) :: .ref a :: st) := by
  subst hn
  subst hf
  subst hw
  have hc : (nI j).toNatClampNeg = j := nI_clamp (Nat.lt_trans hj hn31)
  exact fun H locs ls hP hD hS hl => va_iast (D := D) X.1 X.2.1 X.K hP hD hS q0 t0 ha ht (vp_in_nI hj hn31) hd (by rw [hc]; exact fun H locs hP hD hS => k H locs ls hP hD hS hl)
theorem g_zast (X : gX p s m args c D tys A cc nL own Ts) {a n : Nat} {cA : ClassId} {f : Nat → Int32} (q0 t0 : Nat) (j : Nat) (f' : Nat → Int32) {x : Int32} (pc' : Nat) (ha : ws[q0]? = some (a, .inl (cA, n, .inl f))) (ht : tys[t0]? = some (cA, .boolean)) (hj : j < n) (hn31 : n < 2 ^ 31) (hf : upd f j (vp_nar .boolean x) = f') (hd : decode cc pc = .ok (.bastore, 1)) (hn : pc + 1 = pc') (hw : ws.set q0 (a, .inl (cA, n, .inl f')) = ws') (k : G p l e R s m args below meth c Q D A nL kc ks ws' lv pc' st) : G p l e R s m args below meth c Q D A nL kc ks ws lv pc (.int x :: .int (nI j) :: .ref a :: st) := by
  subst hn
  subst hf
  subst hw
  have hc : (nI j).toNatClampNeg = j := nI_clamp (Nat.lt_trans hj hn31)
  exact fun H locs ls hP hD hS hl => va_zast (D := D) X.1 X.2.1 X.K hP hD hS q0 t0 ha ht (vp_in_nI hj hn31) hd (by rw [hc]; exact fun H locs hP hD hS => k H locs ls hP hD hS hl)
theorem g_last (X : gX p s m args c D tys A cc nL own Ts) {a n : Nat} {cA : ClassId} {f : Nat → Int64} (q0 t0 : Nat) (j : Nat) (f' : Nat → Int64) {x : Int64} (pc' : Nat) (ha : ws[q0]? = some (a, .inl (cA, n, .inr (.inl f)))) (ht : tys[t0]? = some (cA, .long)) (hj : j < n) (hn31 : n < 2 ^ 31) (hf : vp_updL f j x = f') (hd : decode cc pc = .ok (.lastore, 1)) (hn : pc + 1 = pc') (hw : ws.set q0 (a, .inl (cA, n, .inr (.inl f'))) = ws') (k : G p l e R s m args below meth c Q D A nL kc ks ws' lv pc' st) : G p l e R s m args below meth c Q D A nL kc ks ws lv pc (.long x :: .int (nI j) :: .ref a :: st) := by
  subst hn
  subst hf
  subst hw
  have hc : (nI j).toNatClampNeg = j := nI_clamp (Nat.lt_trans hj hn31)
  exact fun H locs ls hP hD hS hl => va_last (D := D) X.1 X.2.1 X.K hP hD hS q0 t0 ha ht (vp_in_nI hj hn31) hd (by rw [hc]; exact fun H locs hP hD hS => k H locs ls hP hD hS hl)
/-- Math.max, Math.min -/
theorem g_max (X : gX p s m args c D tys A cc nL own Ts) {index : Nat} {x y : Int32} (z : Int32) (pc' : Nat) (h1 : Cond.methodLink own index Lib.Math.max.name ∈ Ts) (h2 : Cond.static Lib.Math.max.name ∈ Ts) (h3 : Cond.initialized "java/lang/Math" ∈ Ts) (h4 : Cond.code Lib.Math.max.name Lib.Math.max.code 2 (some .int) ∈ Ts) (hR : 1 ≤ R.frames) (hL : (st.map fun v => v.category).sum + 13 ≤ R.locals) (hkc : kc ≤ R.cells) (hks : ks ≤ R.slots) (hz : (if x < y then y else x) = z) (hd : decode cc pc = .ok (.invokestatic index, 3)) (hn : pc + 3 = pc') (k : G p l e R s m args below meth c Q D A nL kc ks ws lv pc' (.int z :: st)) : G p l e R s m args below meth c Q D A nL kc ks ws lv pc (.int y :: .int x :: st) := by
  subst hn
  subst hz
  exact fun H locs ls hP hD hS hl => va_mmax X.1 X.2.1 (X.2.2.1.trans hl.1.symm) X.2.2.2.1 (X.hts _ h1) (X.hts _ h2) (X.hts _ h3) (X.hts _ h4) hR hL hkc hks hd (k H locs ls hP hD hS hl)
theorem g_min (X : gX p s m args c D tys A cc nL own Ts) {index : Nat} {x y : Int32} (z : Int32) (pc' : Nat) (h1 : Cond.methodLink own index Lib.Math.min.name ∈ Ts) (h2 : Cond.static Lib.Math.min.name ∈ Ts) (h3 : Cond.initialized "java/lang/Math" ∈ Ts) (h4 : Cond.code Lib.Math.min.name Lib.Math.min.code 2 (some .int) ∈ Ts) (hR : 1 ≤ R.frames) (hL : (st.map fun v => v.category).sum + 13 ≤ R.locals) (hkc : kc ≤ R.cells) (hks : ks ≤ R.slots) (hz : (if y < x then y else x) = z) (hd : decode cc pc = .ok (.invokestatic index, 3)) (hn : pc + 3 = pc') (k : G p l e R s m args below meth c Q D A nL kc ks ws lv pc' (.int z :: st)) : G p l e R s m args below meth c Q D A nL kc ks ws lv pc (.int y :: .int x :: st) := by
  subst hn
  subst hz
  exact fun H locs ls hP hD hS hl => va_mmin X.1 X.2.1 (X.2.2.1.trans hl.1.symm) X.2.2.2.1 (X.hts _ h1) (X.hts _ h2) (X.hts _ h3) (X.hts _ h4) hR hL hkc hks hd (k H locs ls hP hD hS hl)
/-- a part of the cells, in any order -/
theorem g_ws (is : List Nat) (hn : va_nd is = true) (h : is.map (fun i => ws[i]?) = ws'.map some) (k : G p l e R s m args below meth c Q D A nL kc ks ws' lv pc st) : G p l e R s m args below meth c Q D A nL kc ks ws lv pc st :=
  fun H locs ls hP hD hS hl => k H locs ls (hP.sub is (fm_map is ws' h)) (hD.sub is hn h) hS hl
/-- the contents of an array count as far as it goes -/
theorem arrV_congr (cA : ClassId) (n : Nat) (f g : Nat → Value) (h : ∀ j, j < n → f j = g j) : arrV cA n f = arrV cA n g := by
  have h1 : (fun j : Fin n => f j.val) = (fun j : Fin n => g j.val) := funext fun j => h j.val j.isLt
  simp only [arrV, h1]
theorem g_arr {a n : Nat} {cA : ClassId} {f : Nat → Int32} (q0 : Nat) (g : Nat → Int32) (ha : ws[q0]? = some (a, .inl (cA, n, .inl f))) (hfg : ∀ j, j < n → f j = g j) (hw : ws.set q0 (a, .inl (cA, n, .inl g)) = ws') (k : G p l e R s m args below meth c Q D A nL kc ks ws' lv pc st) : G p l e R s m args below meth c Q D A nL kc ks ws lv pc st := by
  subst hw
  refine fun H locs ls hP hD hS hl => k H locs ls (hP.set hD ha ?_ (fun _ _ => rfl)) (hD.set ha) hS hl
  have h1 : H[a]? = some (vp_cell cA (n, .inl f)) := hP q0 _ ha
  show H[a]? = some (vp_cell cA (n, .inl g))
  rw [h1, vp_cell_i, vp_cell_i, arrV_congr cA n _ _ (fun j hj => by rw [hfg j hj])]
theorem g_w {kc' ks' : Nat} (h1 : kc ≤ kc') (h2 : ks ≤ ks') (k : G p l e R s m args below meth c Q D A nL kc' ks' ws lv pc st) : G p l e R s m args below meth c Q D A nL kc ks ws lv pc st :=
  fun H locs ls hP hD hS hl => W.widen h1 h2 (k H locs ls hP hD hS hl)
end GL
end
section
/-! CONTRACTS: what a method answers, and which cells it leaves; calls in G -/
abbrev gT (cI cZ cJ : ClassId) : List (ClassId × FieldType) := [(cI, .int), (cZ, .boolean), (cJ, .long)]
/-- the world u, in the state t -/
def gB (D : va_G) (tys : List (ClassId × FieldType)) (A : Nat → Prop) (u : va_W) (t : State) : Prop := va_P D vwCl u t.heap ∧ va_K D vwCl tys t ∧ va_D A u
def gPc (D : va_G) (tys : List (ClassId × FieldType)) (ws : va_W) (av : List Value) (sz : Nat) : Array Value → State → Prop := va_Pc av (fun U => U.heap.size = sz ∧ va_P D vwCl ws U.heap ∧ va_K D vwCl tys U ∧ va_D (fun _ => True) ws)
def MI (l : Launch) (y : MethodName) (wds : List Cond) (rm : Room) (D : va_G) (tys : List (ClassId × FieldType)) (ws : va_W) (av : List Value) (post : Int32 → va_W → Prop) : Prop :=
  ∀ sz : Nat, Met l y wds rm (gPc D tys ws av sz) (va_Qi post (gB D tys (va_A ws sz)) (va_A ws sz)) rm.cells rm.slots (va_A ws sz)
def MV (l : Launch) (y : MethodName) (wds : List Cond) (rm : Room) (D : va_G) (tys : List (ClassId × FieldType)) (ws : va_W) (av : List Value) (post : va_W → Prop) : Prop :=
  ∀ sz : Nat, Met l y wds rm (gPc D tys ws av sz) (va_Qv post (gB D tys (va_A ws sz)) (va_A ws sz)) rm.cells rm.slots (va_A ws sz)
def ML (l : Launch) (y : MethodName) (wds : List Cond) (rm : Room) (D : va_G) (tys : List (ClassId × FieldType)) (ws : va_W) (av : List Value) (post : Int64 → va_W → Prop) : Prop :=
  ∀ sz : Nat, Met l y wds rm (gPc D tys ws av sz) (va_Ql post (gB D tys (va_A ws sz)) (va_A ws sz)) rm.cells rm.slots (va_A ws sz)
def MDb (l : Launch) (y : MethodName) (wds : List Cond) (rm : Room) (D : va_G) (tys : List (ClassId × FieldType)) (ws : va_W) (av : List Value) (post : UInt64 → va_W → Prop) : Prop :=
  ∀ sz : Nat, Met l y wds rm (gPc D tys ws av sz) (va_Qd post (gB D tys (va_A ws sz)) (va_A ws sz)) rm.cells rm.slots (va_A ws sz)
theorem gPc_blind (D : va_G) (tys : List (ClassId × FieldType)) (ws : va_W) (av : List Value) (sz : Nat) : FrameBlind (gPc D tys ws av sz) :=
  fun a U g mk q => by
    obtain ⟨q0, q1, qP, qK, qD⟩ := q
    exact ⟨q0, q1, qP, va_K.moved (u := U) (U := U.calling g mk a) (Vm.Alike.refl U.vm) qK, qD⟩
section GM
variable {l : Launch} {D : va_G} {tys : List (ClassId × FieldType)}
/-- a method's proof: the walk of its body from the entry, over any Q that its returns reach -/
theorem MI_of {y : MethodName} {wds wds' : List Cond} {rm : Room} {cc : ByteArray} {nL : Nat} {ty : FieldType} {ws : va_W} {av : List Value} {post : Int32 → va_W → Prop} (lv0 : List (Nat × Value)) (hy : plainName y.cls = true) (hw : wds = Cond.code y cc nL (some ty) :: wds') (hlen : (lg_sl av).length ≤ nL) (hlv : lv_args 0 av = lv0)
    (body : ∀ (p : Program) (e : Env) (s : State) (m : MethodId) (args : Array Value) (below : List Frame) (meth : Method) (c : Code) (A : Nat → Prop) (Q : State → Prop), gX p s m args c D tys A cc nL y.cls wds →
      (∀ (u : va_W) (lv : List (Nat × Value)) (pc : Nat) (r : Int32), decode cc pc = .ok (.ireturn, 1) → narrow ty (.int r) = .int r → post r u → G p l e rm s m args below meth c Q D A nL rm.cells rm.slots u lv pc [.int r]) →
      G p l e rm s m args below meth c Q D A nL 0 0 ws lv0 0 []) : MI l y wds rm D tys ws av post := by
  intro sz
  refine Met.ofW (cc := cc) (maxL := nL) (ret := some ty) hy hw ?_
  intro p e s m args below meth c s₁ B hml hv
  obtain ⟨rfl, hsz, hP, hK, hD0⟩ := hv
  have hlocks := B.notSynchronized
  subst hsz
  have hl := lv_entry av (n := nL) hlen
  rw [lg_entry_eq]
  rw [hlv] at hl
  refine body p e s m _ below meth c (va_A ws s.heap.size) _ ⟨B.exec, B.bytes, hml, findClass_of_methodNamed B.named, atoms_spec (ws := wds) B.pre, hK, fun q h => Or.inr h⟩ ?_ _ _ _ hP hD0.self va_S.rf hl
  intro u lv pc r hd hnr hp H locs ls hP hD hS hl
  exact W.zret B.exec B.bytes B.returns hnr (fun t ht hW => ⟨⟨r, u, rfl, hp, by rw [ht]; exact hP, va_K.moved hW.alike hK, hD⟩, hS.F ht⟩) hS.2.2 hd hlocks
theorem MV_of {y : MethodName} {wds wds' : List Cond} {rm : Room} {cc : ByteArray} {nL : Nat} {ws : va_W} {av : List Value} {post : va_W → Prop} (lv0 : List (Nat × Value)) (hy : plainName y.cls = true) (hw : wds = Cond.code y cc nL none :: wds') (hlen : (lg_sl av).length ≤ nL) (hlv : lv_args 0 av = lv0)
    (body : ∀ (p : Program) (e : Env) (s : State) (m : MethodId) (args : Array Value) (below : List Frame) (meth : Method) (c : Code) (A : Nat → Prop) (Q : State → Prop), gX p s m args c D tys A cc nL y.cls wds →
      (∀ (u : va_W) (lv : List (Nat × Value)) (pc : Nat), decode cc pc = .ok (.return_, 1) → post u → G p l e rm s m args below meth c Q D A nL rm.cells rm.slots u lv pc []) →
      G p l e rm s m args below meth c Q D A nL 0 0 ws lv0 0 []) : MV l y wds rm D tys ws av post := by
  intro sz
  refine Met.ofW (cc := cc) (maxL := nL) (ret := none) hy hw ?_
  intro p e s m args below meth c s₁ B hml hv
  obtain ⟨rfl, hsz, hP, hK, hD0⟩ := hv
  have hlocks := B.notSynchronized
  subst hsz
  have hl := lv_entry av (n := nL) hlen
  rw [lg_entry_eq]
  rw [hlv] at hl
  refine body p e s m _ below meth c (va_A ws s.heap.size) _ ⟨B.exec, B.bytes, hml, findClass_of_methodNamed B.named, atoms_spec (ws := wds) B.pre, hK, fun q h => Or.inr h⟩ ?_ _ _ _ hP hD0.self va_S.rf hl
  intro u lv pc hd hp H locs ls hP hD hS hl
  exact W.vret B.exec B.bytes B.returns (fun t ht hW => ⟨⟨u, rfl, hp, by rw [ht]; exact hP, va_K.moved hW.alike hK, hD⟩, hS.F ht⟩) hS.2.2 hd hlocks
theorem ML_of {y : MethodName} {wds wds' : List Cond} {rm : Room} {cc : ByteArray} {nL : Nat} {ws : va_W} {av : List Value} {post : Int64 → va_W → Prop} (lv0 : List (Nat × Value)) (hy : plainName y.cls = true) (hw : wds = Cond.code y cc nL (some .long) :: wds') (hlen : (lg_sl av).length ≤ nL) (hlv : lv_args 0 av = lv0)
    (body : ∀ (p : Program) (e : Env) (s : State) (m : MethodId) (args : Array Value) (below : List Frame) (meth : Method) (c : Code) (A : Nat → Prop) (Q : State → Prop), gX p s m args c D tys A cc nL y.cls wds →
      (∀ (u : va_W) (lv : List (Nat × Value)) (pc : Nat) (r : Int64), decode cc pc = .ok (.lreturn, 1) → post r u → G p l e rm s m args below meth c Q D A nL rm.cells rm.slots u lv pc [.long r]) →
      G p l e rm s m args below meth c Q D A nL 0 0 ws lv0 0 []) : ML l y wds rm D tys ws av post := by
  intro sz
  refine Met.ofW (cc := cc) (maxL := nL) (ret := some .long) hy hw ?_
  intro p e s m args below meth c s₁ B hml hv
  obtain ⟨rfl, hsz, hP, hK, hD0⟩ := hv
  have hlocks := B.notSynchronized
  subst hsz
  have hl := lv_entry av (n := nL) hlen
  rw [lg_entry_eq]
  rw [hlv] at hl
  refine body p e s m _ below meth c (va_A ws s.heap.size) _ ⟨B.exec, B.bytes, hml, findClass_of_methodNamed B.named, atoms_spec (ws := wds) B.pre, hK, fun q h => Or.inr h⟩ ?_ _ _ _ hP hD0.self va_S.rf hl
  intro u lv pc r hd hp H locs ls hP hD hS hl
  exact W.lret B.exec B.bytes B.returns (fun t ht hW => ⟨⟨r, u, rfl, hp, by rw [ht]; exact hP, va_K.moved hW.alike hK, hD⟩, hS.F ht⟩) hS.2.2 hd hlocks
theorem MDb_of {y : MethodName} {wds wds' : List Cond} {rm : Room} {cc : ByteArray} {nL : Nat} {ws : va_W} {av : List Value} {post : UInt64 → va_W → Prop} (lv0 : List (Nat × Value)) (hy : plainName y.cls = true) (hw : wds = Cond.code y cc nL (some .double) :: wds') (hlen : (lg_sl av).length ≤ nL) (hlv : lv_args 0 av = lv0)
    (body : ∀ (p : Program) (e : Env) (s : State) (m : MethodId) (args : Array Value) (below : List Frame) (meth : Method) (c : Code) (A : Nat → Prop) (Q : State → Prop), gX p s m args c D tys A cc nL y.cls wds →
      (∀ (u : va_W) (lv : List (Nat × Value)) (pc : Nat) (r : UInt64), decode cc pc = .ok (.dreturn, 1) → post r u → G p l e rm s m args below meth c Q D A nL rm.cells rm.slots u lv pc [.double r]) →
      G p l e rm s m args below meth c Q D A nL 0 0 ws lv0 0 []) : MDb l y wds rm D tys ws av post := by
  intro sz
  refine Met.ofW (cc := cc) (maxL := nL) (ret := some .double) hy hw ?_
  intro p e s m args below meth c s₁ B hml hv
  obtain ⟨rfl, hsz, hP, hK, hD0⟩ := hv
  have hlocks := B.notSynchronized
  subst hsz
  have hl := lv_entry av (n := nL) hlen
  rw [lg_entry_eq]
  rw [hlv] at hl
  refine body p e s m _ below meth c (va_A ws s.heap.size) _ ⟨B.exec, B.bytes, hml, findClass_of_methodNamed B.named, atoms_spec (ws := wds) B.pre, hK, fun q h => Or.inr h⟩ ?_ _ _ _ hP hD0.self va_S.rf hl
  intro u lv pc r hd hp H locs ls hP hD hS hl
  exact W.dret B.exec B.bytes B.returns (fun t ht hW => ⟨⟨r, u, rfl, hp, by rw [ht]; exact hP, va_K.moved hW.alike hK, hD⟩, hS.F ht⟩) hS.2.2 hd hlocks
end GM
/-- the callee's cells, put back at their places -/
def putB : va_W → List Nat → va_W → va_W
  | ws, i :: is, q :: qs => putB (ws.set i q) is qs
  | ws, _, _ => ws
theorem putB_len : ∀ (is : List Nat) (ws wc : va_W), (putB ws is wc).length = ws.length
  | [], ws, wc => by cases wc <;> rfl
  | i :: is, ws, [] => rfl
  | i :: is, ws, q :: qs => by
    show (putB (ws.set i q) is qs).length = _
    rw [putB_len, List.length_set]
/-- a place that isn't the callee's stays; each of the callee's places holds a cell of its -/
theorem putB_at : ∀ (is : List Nat) (ws wc : va_W) (k : Nat) (q : Nat × va_E), (putB ws is wc)[k]? = some q → (ws[k]? = some q ∧ (k ∉ is ∨ wc.length < is.length)) ∨ q ∈ wc
  | [], ws, wc, k, q, h => by
    have h1 : putB ws [] wc = ws := by cases wc <;> rfl
    rw [h1] at h
    exact Or.inl ⟨h, Or.inl List.not_mem_nil⟩
  | i :: is, ws, [], k, q, h => Or.inl ⟨h, Or.inr (Nat.succ_pos _)⟩
  | i :: is, ws, q0 :: qs, k, q, h => by
    have h1 : (putB (ws.set i q0) is qs)[k]? = some q := h
    rcases putB_at is (ws.set i q0) qs k q h1 with ⟨h2, h3⟩ | h2
    · by_cases hk : k = i
      · subst hk
        have hl : k < ws.length := by
          have := (List.getElem?_eq_some_iff.mp h2).1
          rwa [List.length_set] at this
        rw [List.getElem?_set_self hl] at h2
        cases h2
        exact Or.inr List.mem_cons_self
      · rw [List.getElem?_set_ne (Ne.symm hk)] at h2
        refine Or.inl ⟨h2, ?_⟩
        rcases h3 with h3 | h3
        · exact Or.inl (fun z => (List.mem_cons.mp z).elim hk h3)
        · exact Or.inr (Nat.succ_lt_succ h3)
    · exact Or.inr (List.mem_cons_of_mem _ h2)
theorem putB_adr : ∀ (is : List Nat) (ws wc wc0 : va_W), is.map (fun i => ws[i]?) = wc0.map some → wc.map Prod.fst = wc0.map Prod.fst → va_nd is = true → (putB ws is wc).map Prod.fst = ws.map Prod.fst
  | [], ws, wc, wc0, _, _, _ => by cases wc <;> rfl
  | i :: is, ws, [], wc0, _, _, _ => rfl
  | i :: is, ws, q0 :: qs, [], h, _, _ => by cases h
  | i :: is, ws, q0 :: qs, q1 :: wc0, h, ha, hn => by
    simp only [List.map_cons, List.cons.injEq] at h ha
    have hl := (List.getElem?_eq_some_iff.mp h.1).1
    have hn1 : i ∉ is ∧ va_nd is = true := by
      simpa [va_nd] using hn
    have hs : (ws.set i q0).map Prod.fst = ws.map Prod.fst := by
      apply List.ext_getElem?
      intro k
      rw [List.getElem?_map, List.getElem?_map]
      by_cases hk : k = i
      · subst hk
        rw [List.getElem?_set_self hl, h.1]
        exact congrArg some ha.1
      · rw [List.getElem?_set_ne (Ne.symm hk)]
    have hm : is.map (fun j => (ws.set i q0)[j]?) = wc0.map some := by
      rw [← h.2]
      apply List.map_congr_left
      intro j hj
      rw [List.getElem?_set_ne (fun z => hn1.1 (by rw [z]; exact hj))]
    show (putB (ws.set i q0) is qs).map Prod.fst = _
    rw [putB_adr is (ws.set i q0) qs wc0 hm ha.2 hn1.2, hs]
theorem va_D.adr {A : Nat → Prop} {ws ws' : va_W} (h : va_D A ws) (ha : ws'.map Prod.fst = ws.map Prod.fst) : va_D A ws' := by
  have key : ∀ (k : Nat) (q : Nat × va_E), ws'[k]? = some q → ∃ q0, ws[k]? = some q0 ∧ q0.1 = q.1 := by
    intro k q hk
    have h1 : (ws'.map Prod.fst)[k]? = some q.1 := by rw [List.getElem?_map, hk]; rfl
    rw [ha, List.getElem?_map] at h1
    cases h2 : ws[k]? with
    | none => rw [h2] at h1; cases h1
    | some q0 => rw [h2] at h1; exact ⟨q0, rfl, Option.some.inj h1⟩
  refine ⟨fun i j x y hi hj hxy => ?_, fun k q hk => ?_⟩
  · obtain ⟨x0, h1, h2⟩ := key i x hi
    obtain ⟨y0, h3, h4⟩ := key j y hj
    exact h.1 i j x0 y0 h1 h3 (h2.trans (hxy.trans h4.symm))
  · obtain ⟨q0, h1, h2⟩ := key k q hk
    rw [← h2]
    exact h.2 k q0 h1
/-- behind a call: the callee's cells at their places, the others as they were -/
theorem putB_join {A0 : Nat → Prop} {D : va_G} {cl : List vw_C} {ws wc wc' : va_W} {H H1 : Heap} (hP : va_P D cl ws H) (hD : va_D A0 ws) (isC : List Nat) (hC : isC.map (fun i => ws[i]?) = wc.map some) (hn : va_nd isC = true) (ha : wc'.map Prod.fst = wc.map Prod.fst)
    (hk : ∀ q : Nat, q < H.size → ¬ va_A wc H.size q → H1[q]? = H[q]?) (hP1 : va_P D cl wc' H1) : va_P D cl (putB ws isC wc') H1 ∧ va_D A0 (putB ws isC wc') := by
  have hlen : wc'.length = isC.length := by
    have h1 := congrArg List.length ha
    have h2 := congrArg List.length hC
    simp only [List.length_map] at h1 h2
    omega
  refine ⟨fun k q hq => ?_, hD.adr (putB_adr isC ws wc' wc hC ha hn)⟩
  rcases putB_at isC ws wc' k q hq with ⟨h1, h2⟩ | h1
  · have hni : k ∉ isC := h2.elim id (fun z => absurd z (by omega))
    have hl := (hP k q h1).lt
    refine (hP k q h1).kept (hk q.1 hl ?_)
    rintro (⟨k2, e, h3⟩ | h3)
    · have h4 : (isC.map (fun i => ws[i]?))[k2]? = some (some (q.1, e)) := by rw [hC, List.getElem?_map, h3]; rfl
      rw [List.getElem?_map] at h4
      cases h5 : isC[k2]? with
      | none => rw [h5] at h4; cases h4
      | some j =>
        rw [h5] at h4
        have h6 : ws[j]? = some (q.1, e) := Option.some.inj h4
        have := hD.1 k j q (q.1, e) h1 h6 rfl
        subst this
        exact hni (List.mem_of_getElem? h5)
    · omega
  · obtain ⟨j, hj⟩ := List.getElem?_of_mem h1
    exact hP1 j q hj
section GC
variable {p : Program} {l : Launch} {e : Env} {R : Room} {s : State} {m : MethodId} {args : Array Value} {below : List Frame} {meth : Method} {c : Code} {Q : State → Prop}
variable {D : va_G} {tys : List (ClassId × FieldType)} {A : Nat → Prop} {cc : ByteArray} {nL kc ks : Nat} {own : String} {Ts : List Cond}
variable {ws ws' : va_W} {lv lv' : List (Nat × Value)} {pc : Nat} {st rest : List Value}
variable {y : MethodName} {wds ws9 : List Cond} {rm : Room} {bytes : ByteArray} {maxL n index : Nat} {ret : Option FieldType} {C : String} {b : Nat} {av : List Value} {wc wc' : va_W}
theorem gPreV (hK : va_K D vwCl tys s) {H : Heap} (hP : va_P D vwCl wc H) (hD : va_D (fun _ => True) wc) {ci : Nat} {T : u_T} {N q0 : Nat} {fs : List Value} (hc : vwCl[ci]? = some (C, T, N)) (he : wc[q0]? = some (b, .inr (ci, fs))) : PreV s H C b (gPc D tys wc (.ref b :: av) H.size) av :=
  ⟨gPc_blind _ _ _ _ _, va_recv hK hP hc he, fun U hU hW => ⟨rfl, by rw [hU], by rw [hU]; exact hP, va_K.moved hW.alike hK, hD⟩⟩
theorem gPreS (hK : va_K D vwCl tys s) {H : Heap} (hP : va_P D vwCl wc H) (hD : va_D (fun _ => True) wc) : PreS s H (gPc D tys wc av H.size) av :=
  ⟨gPc_blind _ _ _ _ _, fun U hU hW => ⟨rfl, by rw [hU], by rw [hU]; exact hP, va_K.moved hW.alike hK, hD⟩⟩
/-- a virtual call that answers an int: the answer and the cells are told -/
theorem g_callVi (X : gX p s m args c D tys A cc nL own Ts) {r0 : Int32} (hM : MI l y wds rm D tys wc (.ref b :: av) (fun r u => r = r0 ∧ u = wc')) (pc' : Nat) (isC : List Nat) (hG : GoodIn Ts (wsV own index C y wds)) (hwd : wds = Cond.code y bytes maxL ret :: ws9)
    (hdy : y.cls = C ∧ y.cls ≠ "java/lang/invoke/MethodHandle" ∧ y.cls ≠ "java/lang/invoke/VarHandle" ∧ (parseMethodDescriptor y.desc).map (fun d => d.parameters.length) = some av.length) (hR : rm.frames + 1 ≤ R.frames ∧ 8 + (maxL + 11) + rm.locals ≤ R.locals) {ci : Nat} {T : u_T} {N q0 : Nat} {fs : List Value} (hc : vwCl[ci]? = some (C, T, N)) (he : wc[q0]? = some (b, .inr (ci, fs)))
    (hst : st = av.reverse ++ .ref b :: rest) (hrest : (rest.map fun v => v.category).sum ≤ 8) (hC : isC.map (fun i => ws[i]?) = wc.map some) (hn : va_nd isC = true) (ha : wc'.map Prod.fst = wc.map Prod.fst) (hws : putB ws isC wc' = ws')
    (hd : decode cc pc = .ok (.invokevirtual index, 3)) (hpc : pc + 3 = pc') (hf : kc + rm.cells ≤ R.cells ∧ ks + rm.slots ≤ R.slots) (k : G p l e R s m args below meth c Q D A nL (kc + rm.cells) (ks + rm.slots) ws' lv pc' (.int r0 :: rest)) : G p l e R s m args below meth c Q D A nL kc ks ws lv pc st := by
  subst hpc
  subst hst
  subst hws
  intro H locs ls hP hD hS hl
  have hPc : va_P D vwCl wc H := (va_P.sub hP isC (fm_map isC wc hC))
  have hDc : va_D (fun _ => True) wc := (va_D.sub hD isC hn hC).weaken (fun _ _ _ _ => trivial)
  have hFc := va_free (wc := wc) hD hS X.hA isC hC
  refine va_calli (va_runV (As := av) (rest := rest) X.fix (hM H.size) (cwV av.length X.hts hG hwd rfl rfl hdy hR) (gPreV X.K hPc hDc hc he) rfl rfl hl.1 rfl (lv_room hrest) hd hf) hS (fun q _ h => hFc q h) hFc (fun r u t H1 locs1 ht hvm hw hB hz1 hk1 hS => ?_)
  obtain ⟨rfl, rfl⟩ := hw
  obtain ⟨hP1, hK1, hD1⟩ := hB
  rw [ht] at hP1
  obtain ⟨hP2, hD2⟩ := putB_join hP hD isC hC hn ha hk1 hP1
  exact k H1 locs1 ls hP2 hD2 hS hl
theorem g_callSi (X : gX p s m args c D tys A cc nL own Ts) {r0 : Int32} (hM : MI l y wds rm D tys wc av (fun r u => r = r0 ∧ u = wc')) (pc' : Nat) (isC : List Nat) (hG : GoodIn Ts (va_wsS own index y wds)) (hwd : wds = Cond.code y bytes maxL ret :: ws9)
    (hdy : y.cls ≠ "java/lang/invoke/MethodHandle" ∧ y.cls ≠ "java/lang/invoke/VarHandle" ∧ (parseMethodDescriptor y.desc).map (fun d => d.parameters.length) = some av.length) (hR : rm.frames + 1 ≤ R.frames ∧ 8 + (maxL + 11) + rm.locals ≤ R.locals)
    (hst : st = av.reverse ++ rest) (hrest : (rest.map fun v => v.category).sum ≤ 8) (hC : isC.map (fun i => ws[i]?) = wc.map some) (hn : va_nd isC = true) (ha : wc'.map Prod.fst = wc.map Prod.fst) (hws : putB ws isC wc' = ws')
    (hd : decode cc pc = .ok (.invokestatic index, 3)) (hpc : pc + 3 = pc') (hf : kc + rm.cells ≤ R.cells ∧ ks + rm.slots ≤ R.slots) (k : G p l e R s m args below meth c Q D A nL (kc + rm.cells) (ks + rm.slots) ws' lv pc' (.int r0 :: rest)) : G p l e R s m args below meth c Q D A nL kc ks ws lv pc st := by
  subst hpc
  subst hst
  subst hws
  intro H locs ls hP hD hS hl
  have hPc : va_P D vwCl wc H := (va_P.sub hP isC (fm_map isC wc hC))
  have hDc : va_D (fun _ => True) wc := (va_D.sub hD isC hn hC).weaken (fun _ _ _ _ => trivial)
  have hFc := va_free (wc := wc) hD hS X.hA isC hC
  refine va_calli (va_runS (As := av) (rest := rest) X.fix (hM H.size) (va_cwS av.length X.hts hG hwd rfl rfl hdy hR) (gPreS X.K hPc hDc) rfl rfl hl.1 rfl (lv_room hrest) hd hf) hS (fun q _ h => hFc q h) hFc (fun r u t H1 locs1 ht hvm hw hB hz1 hk1 hS => ?_)
  obtain ⟨rfl, rfl⟩ := hw
  obtain ⟨hP1, hK1, hD1⟩ := hB
  rw [ht] at hP1
  obtain ⟨hP2, hD2⟩ := putB_join hP hD isC hC hn ha hk1 hP1
  exact k H1 locs1 ls hP2 hD2 hS hl
theorem g_callVl (X : gX p s m args c D tys A cc nL own Ts) {r0 : Int64} (hM : ML l y wds rm D tys wc (.ref b :: av) (fun r u => r = r0 ∧ u = wc')) (pc' : Nat) (isC : List Nat) (hG : GoodIn Ts (wsV own index C y wds)) (hwd : wds = Cond.code y bytes maxL ret :: ws9)
    (hdy : y.cls = C ∧ y.cls ≠ "java/lang/invoke/MethodHandle" ∧ y.cls ≠ "java/lang/invoke/VarHandle" ∧ (parseMethodDescriptor y.desc).map (fun d => d.parameters.length) = some av.length) (hR : rm.frames + 1 ≤ R.frames ∧ 8 + (maxL + 11) + rm.locals ≤ R.locals) {ci : Nat} {T : u_T} {N q0 : Nat} {fs : List Value} (hc : vwCl[ci]? = some (C, T, N)) (he : wc[q0]? = some (b, .inr (ci, fs)))
    (hst : st = av.reverse ++ .ref b :: rest) (hrest : (rest.map fun v => v.category).sum ≤ 8) (hC : isC.map (fun i => ws[i]?) = wc.map some) (hn : va_nd isC = true) (ha : wc'.map Prod.fst = wc.map Prod.fst) (hws : putB ws isC wc' = ws')
    (hd : decode cc pc = .ok (.invokevirtual index, 3)) (hpc : pc + 3 = pc') (hf : kc + rm.cells ≤ R.cells ∧ ks + rm.slots ≤ R.slots) (k : G p l e R s m args below meth c Q D A nL (kc + rm.cells) (ks + rm.slots) ws' lv pc' (.long r0 :: rest)) : G p l e R s m args below meth c Q D A nL kc ks ws lv pc st := by
  subst hpc
  subst hst
  subst hws
  intro H locs ls hP hD hS hl
  have hPc : va_P D vwCl wc H := (va_P.sub hP isC (fm_map isC wc hC))
  have hDc : va_D (fun _ => True) wc := (va_D.sub hD isC hn hC).weaken (fun _ _ _ _ => trivial)
  have hFc := va_free (wc := wc) hD hS X.hA isC hC
  refine va_calll (va_runV (As := av) (rest := rest) X.fix (hM H.size) (cwV av.length X.hts hG hwd rfl rfl hdy hR) (gPreV X.K hPc hDc hc he) rfl rfl hl.1 rfl (lv_room hrest) hd hf) hS (fun q _ h => hFc q h) hFc (fun r u t H1 locs1 ht hvm hw hB hz1 hk1 hS => ?_)
  obtain ⟨rfl, rfl⟩ := hw
  obtain ⟨hP1, hK1, hD1⟩ := hB
  rw [ht] at hP1
  obtain ⟨hP2, hD2⟩ := putB_join hP hD isC hC hn ha hk1 hP1
  exact k H1 locs1 ls hP2 hD2 hS hl
theorem g_callVd (X : gX p s m args c D tys A cc nL own Ts) {r0 : UInt64} (hM : MDb l y wds rm D tys wc (.ref b :: av) (fun r u => r = r0 ∧ u = wc')) (pc' : Nat) (isC : List Nat) (hG : GoodIn Ts (wsV own index C y wds)) (hwd : wds = Cond.code y bytes maxL ret :: ws9)
    (hdy : y.cls = C ∧ y.cls ≠ "java/lang/invoke/MethodHandle" ∧ y.cls ≠ "java/lang/invoke/VarHandle" ∧ (parseMethodDescriptor y.desc).map (fun d => d.parameters.length) = some av.length) (hR : rm.frames + 1 ≤ R.frames ∧ 8 + (maxL + 11) + rm.locals ≤ R.locals) {ci : Nat} {T : u_T} {N q0 : Nat} {fs : List Value} (hc : vwCl[ci]? = some (C, T, N)) (he : wc[q0]? = some (b, .inr (ci, fs)))
    (hst : st = av.reverse ++ .ref b :: rest) (hrest : (rest.map fun v => v.category).sum ≤ 8) (hC : isC.map (fun i => ws[i]?) = wc.map some) (hn : va_nd isC = true) (ha : wc'.map Prod.fst = wc.map Prod.fst) (hws : putB ws isC wc' = ws')
    (hd : decode cc pc = .ok (.invokevirtual index, 3)) (hpc : pc + 3 = pc') (hf : kc + rm.cells ≤ R.cells ∧ ks + rm.slots ≤ R.slots) (k : G p l e R s m args below meth c Q D A nL (kc + rm.cells) (ks + rm.slots) ws' lv pc' (.double r0 :: rest)) : G p l e R s m args below meth c Q D A nL kc ks ws lv pc st := by
  subst hpc
  subst hst
  subst hws
  intro H locs ls hP hD hS hl
  have hPc : va_P D vwCl wc H := (va_P.sub hP isC (fm_map isC wc hC))
  have hDc : va_D (fun _ => True) wc := (va_D.sub hD isC hn hC).weaken (fun _ _ _ _ => trivial)
  have hFc := va_free (wc := wc) hD hS X.hA isC hC
  refine va_calld (va_runV (As := av) (rest := rest) X.fix (hM H.size) (cwV av.length X.hts hG hwd rfl rfl hdy hR) (gPreV X.K hPc hDc hc he) rfl rfl hl.1 rfl (lv_room hrest) hd hf) hS (fun q _ h => hFc q h) hFc (fun r u t H1 locs1 ht hvm hw hB hz1 hk1 hS => ?_)
  obtain ⟨rfl, rfl⟩ := hw
  obtain ⟨hP1, hK1, hD1⟩ := hB
  rw [ht] at hP1
  obtain ⟨hP2, hD2⟩ := putB_join hP hD isC hC hn ha hk1 hP1
  exact k H1 locs1 ls hP2 hD2 hS hl
theorem g_callVv (X : gX p s m args c D tys A cc nL own Ts) (hM : MV l y wds rm D tys wc (.ref b :: av) (fun u => u = wc')) (pc' : Nat) (isC : List Nat) (hG : GoodIn Ts (wsV own index C y wds)) (hwd : wds = Cond.code y bytes maxL ret :: ws9)
    (hdy : y.cls = C ∧ y.cls ≠ "java/lang/invoke/MethodHandle" ∧ y.cls ≠ "java/lang/invoke/VarHandle" ∧ (parseMethodDescriptor y.desc).map (fun d => d.parameters.length) = some av.length) (hR : rm.frames + 1 ≤ R.frames ∧ 8 + (maxL + 11) + rm.locals ≤ R.locals) {ci : Nat} {T : u_T} {N q0 : Nat} {fs : List Value} (hc : vwCl[ci]? = some (C, T, N)) (he : wc[q0]? = some (b, .inr (ci, fs)))
    (hst : st = av.reverse ++ .ref b :: rest) (hrest : (rest.map fun v => v.category).sum ≤ 8) (hC : isC.map (fun i => ws[i]?) = wc.map some) (hn : va_nd isC = true) (ha : wc'.map Prod.fst = wc.map Prod.fst) (hws : putB ws isC wc' = ws')
    (hd : decode cc pc = .ok (.invokevirtual index, 3)) (hpc : pc + 3 = pc') (hf : kc + rm.cells ≤ R.cells ∧ ks + rm.slots ≤ R.slots) (k : G p l e R s m args below meth c Q D A nL (kc + rm.cells) (ks + rm.slots) ws' lv pc' rest) : G p l e R s m args below meth c Q D A nL kc ks ws lv pc st := by
  subst hpc
  subst hst
  subst hws
  intro H locs ls hP hD hS hl
  have hPc : va_P D vwCl wc H := (va_P.sub hP isC (fm_map isC wc hC))
  have hDc : va_D (fun _ => True) wc := (va_D.sub hD isC hn hC).weaken (fun _ _ _ _ => trivial)
  have hFc := va_free (wc := wc) hD hS X.hA isC hC
  refine va_callv (va_runV (As := av) (rest := rest) X.fix (hM H.size) (cwV av.length X.hts hG hwd rfl rfl hdy hR) (gPreV X.K hPc hDc hc he) rfl rfl hl.1 rfl (lv_room hrest) hd hf) hS (fun q _ h => hFc q h) hFc (fun u t H1 locs1 ht hvm hw hB hz1 hk1 hS => ?_)
  obtain rfl := hw
  obtain ⟨hP1, hK1, hD1⟩ := hB
  rw [ht] at hP1
  obtain ⟨hP2, hD2⟩ := putB_join hP hD isC hC hn ha hk1 hP1
  exact k H1 locs1 ls hP2 hD2 hS hl
end GC
end
