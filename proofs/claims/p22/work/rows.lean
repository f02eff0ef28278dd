section
/-- a private method of a class that the tables say can be made, by its rows of tables_1 -/
def lw_okq (q : MethodName × Nat) : Prop := (q.1.cls ≠ "java/lang/invoke/MethodHandle" ∧ q.1.cls ≠ "java/lang/invoke/VarHandle") ∧ Cond.instantiable q.1.cls q.2 ∈ tables_1 ∧ Cond.privateMethod q.1 ∈ tables_1 ∧ Cond.instanceMethod q.1 ∈ tables_1
theorem lw_p0 : lw_okq (⟨"java/lang/Throwable", "fillInStackTrace", "(I)Ljava/lang/Throwable;"⟩, 6) := ⟨⟨by decide +kernel, by decide +kernel⟩, List.mem_of_getElem? (i := 196) (by decide +kernel), List.mem_of_getElem? (i := 194) (by decide +kernel), List.mem_of_getElem? (i := 195) (by decide +kernel)⟩
theorem lw_p1 : lw_okq (⟨"GlassRopes$Windows", "brings", "(ILGlassRopes$Glass;)I"⟩, 6) := ⟨⟨by decide +kernel, by decide +kernel⟩, List.mem_of_getElem? (i := 24) (by decide +kernel), List.mem_of_getElem? (i := 255) (by decide +kernel), List.mem_of_getElem? (i := 256) (by decide +kernel)⟩
theorem lw_p2 : lw_okq (⟨"GlassRopes$Windows", "panes", "(I)I"⟩, 6) := ⟨⟨by decide +kernel, by decide +kernel⟩, List.mem_of_getElem? (i := 24) (by decide +kernel), List.mem_of_getElem? (i := 259) (by decide +kernel), List.mem_of_getElem? (i := 260) (by decide +kernel)⟩
theorem lw_p3 : lw_okq (⟨"GlassRopes$Windows", "added", "(ILGlassRopes$Glass;)I"⟩, 6) := ⟨⟨by decide +kernel, by decide +kernel⟩, List.mem_of_getElem? (i := 24) (by decide +kernel), List.mem_of_getElem? (i := 263) (by decide +kernel), List.mem_of_getElem? (i := 264) (by decide +kernel)⟩
theorem lw_p4 : lw_okq (⟨"GlassRopes$Ropes", "workOnOne", "(ILGlassRopes$Glass;)V"⟩, 7) := ⟨⟨by decide +kernel, by decide +kernel⟩, List.mem_of_getElem? (i := 84) (by decide +kernel), List.mem_of_getElem? (i := 276) (by decide +kernel), List.mem_of_getElem? (i := 277) (by decide +kernel)⟩
theorem lw_p5 : lw_okq (⟨"GlassRopes$Ropes", "nextFreeColumn", "(I)I"⟩, 7) := ⟨⟨by decide +kernel, by decide +kernel⟩, List.mem_of_getElem? (i := 84) (by decide +kernel), List.mem_of_getElem? (i := 284) (by decide +kernel), List.mem_of_getElem? (i := 285) (by decide +kernel)⟩
theorem lw_p6 : lw_okq (⟨"GlassRopes", "isWindow", "(I)Z"⟩, 4) := ⟨⟨by decide +kernel, by decide +kernel⟩, List.mem_of_getElem? (i := 16) (by decide +kernel), List.mem_of_getElem? (i := 324) (by decide +kernel), List.mem_of_getElem? (i := 325) (by decide +kernel)⟩
theorem lw_p7 : lw_okq (⟨"GlassRopes$Windows", "darkest", "(ILGlassRopes$Glass;)I"⟩, 6) := ⟨⟨by decide +kernel, by decide +kernel⟩, List.mem_of_getElem? (i := 24) (by decide +kernel), List.mem_of_getElem? (i := 333) (by decide +kernel), List.mem_of_getElem? (i := 334) (by decide +kernel)⟩
theorem lw_p8 : lw_okq (⟨"GlassRopes", "isRope", "(I)Z"⟩, 4) := ⟨⟨by decide +kernel, by decide +kernel⟩, List.mem_of_getElem? (i := 16) (by decide +kernel), List.mem_of_getElem? (i := 341) (by decide +kernel), List.mem_of_getElem? (i := 342) (by decide +kernel)⟩
theorem lw_p9 : lw_okq (⟨"GlassRopes", "number", "(I)I"⟩, 4) := ⟨⟨by decide +kernel, by decide +kernel⟩, List.mem_of_getElem? (i := 16) (by decide +kernel), List.mem_of_getElem? (i := 355) (by decide +kernel), List.mem_of_getElem? (i := 356) (by decide +kernel)⟩
def lw_privs_1 : List (MethodName × Nat) := [(⟨"java/lang/Throwable", "fillInStackTrace", "(I)Ljava/lang/Throwable;"⟩, 6), (⟨"GlassRopes$Windows", "brings", "(ILGlassRopes$Glass;)I"⟩, 6), (⟨"GlassRopes$Windows", "panes", "(I)I"⟩, 6), (⟨"GlassRopes$Windows", "added", "(ILGlassRopes$Glass;)I"⟩, 6), (⟨"GlassRopes$Ropes", "workOnOne", "(ILGlassRopes$Glass;)V"⟩, 7), (⟨"GlassRopes$Ropes", "nextFreeColumn", "(I)I"⟩, 7), (⟨"GlassRopes", "isWindow", "(I)Z"⟩, 4), (⟨"GlassRopes$Windows", "darkest", "(ILGlassRopes$Glass;)I"⟩, 6), (⟨"GlassRopes", "isRope", "(I)Z"⟩, 4), (⟨"GlassRopes", "number", "(I)I"⟩, 4)]
theorem lw_r1 : ∀ q ∈ lw_privs_1, lw_okq q := List.forall_mem_cons.mpr ⟨lw_p0, List.forall_mem_cons.mpr ⟨lw_p1, List.forall_mem_cons.mpr ⟨lw_p2, List.forall_mem_cons.mpr ⟨lw_p3, List.forall_mem_cons.mpr ⟨lw_p4, List.forall_mem_cons.mpr ⟨lw_p5, List.forall_mem_cons.mpr ⟨lw_p6, List.forall_mem_cons.mpr ⟨lw_p7, List.forall_mem_cons.mpr ⟨lw_p8, List.forall_mem_cons.mpr ⟨lw_p9, fun _ h => absurd h List.not_mem_nil⟩⟩⟩⟩⟩⟩⟩⟩⟩⟩
def lw_privs : List (MethodName × Nat) := lw_privs_1
def lw_tbl : List Cond := k2_sels lw_privs ++ tables_1
theorem lw_privs_ok : ∀ q ∈ lw_privs, lw_okq q := lw_r1
/-- the streams that the claim lets the run draw from -/
abbrev lw_cs : List Choice := [Jvm.Choice.named "NaN.bits"]
theorem lw_bits : nanBits ∈ lw_cs := by first | decide | exact List.mem_cons_self | simp [lw_cs, nanBits]
end
section
/-! ===== BEGIN words of one list among another's, by their places ===== -/
theorem goodIn_r {big : List Cond} (ws : List Cond) (ps : List Nat) (hp : ws = ps.filterMap (fun i => big[i]?)) (h : ws.all goodWord = true) : GoodIn big ws := by
  intro w hw
  have h1 := List.all_eq_true.mp h w hw
  rw [hp] at hw
  obtain ⟨i, -, hi⟩ := List.mem_filterMap.mp hw
  have hm : w ∈ big := by first | exact List.mem_of_getElem? hi | exact List.getElem?_mem hi
  exact ⟨hm, good_of_word h1⟩
theorem goodIn_app {big a b : List Cond} (ha : GoodIn big a) (hb : GoodIn big b) : GoodIn big (a ++ b) := fun w h => (List.mem_append.mp h).elim (ha w) (hb w)
theorem goodIn_ca {big a b : List Cond} {c : Cond} (ha : GoodIn big (c :: a)) (hb : GoodIn big b) : GoodIn big (c :: (a ++ b)) := fun w h => (List.mem_cons.mp h).elim (fun e => ha w (List.mem_cons.mpr (Or.inl e))) (fun h => (List.mem_append.mp h).elim (fun h => ha w (List.mem_cons.mpr (Or.inr h))) (hb w))
theorem goodIn_sub {big ws : List Cond} (hm : ∀ w ∈ ws, w ∈ big) (h : ws.all goodWord = true) : GoodIn big ws := fun w hw => ⟨hm w hw, good_of_word (List.all_eq_true.mp h w hw)⟩
/-! ===== END ===== -/

/-- arrays of arrays: the tables' word -/
def va_AOA (ty : FieldType) (U : State) : Prop := (Cond.arrayOver (.array ty)).before #[] U = true
theorem va_AOA.of {ty : FieldType} {A : Array Value} {U : State} (h : (Cond.arrayOver (.array ty)).before A U = true) : va_AOA ty U := h
theorem va_AOA.use {ty : FieldType} {A : Array Value} {U : State} (h : va_AOA ty U) : (Cond.arrayOver (.array ty)).before A U = true := h
/-! ===== BEGIN new T[n][m]: the outer array a place, the inner ones among the pooled ===== -/
/-- f, but v at every address of l -/
def mr_up {α : Type} (f : Nat → α) (l : List Nat) (v : α) : Nat → α := fun a => if a ∈ l then v else f a
theorem mr_up_in {α : Type} {f : Nat → α} {l : List Nat} {v : α} {a : Nat} (h : a ∈ l) : mr_up f l v a = v := if_pos h
theorem mr_up_ne {α : Type} {f : Nat → α} {l : List Nat} {v : α} {a : Nat} (h : a ∉ l) : mr_up f l v a = f a := if_neg h
theorem mr_rows {L l : List Nat} {f : Nat → va_E} {e : va_E} (h : ∀ a, a ∈ l → a ∉ L) : va_pl L f ++ l.map (fun a => (a, e)) = va_pl (L ++ l) (mr_up f l e) := by
  unfold va_pl
  rw [List.map_append]
  congr 1
  · apply List.map_congr_left
    intro a ha
    rw [mr_up_ne (fun q => h a q ha)]
  · apply List.map_congr_left
    intro a ha
    rw [mr_up_in ha]
theorem mr_lay {X rows : va_W} {x : Nat × va_E} {pl : va_W} {D : va_G} {cl : List vw_C} {H : Heap} (hP : va_P D cl (((X ++ pl) ++ [x]) ++ rows) H) : va_P D cl ((X ++ [x]) ++ (pl ++ rows)) H := by
  rw [List.append_assoc (X ++ pl)] at hP
  have h := va_P.swap hP
  rw [← List.append_assoc X] at h
  have h2 := va_P.swap h
  rw [List.append_assoc (X ++ [x])] at h2
  exact h2
theorem mr_layD {X rows : va_W} {x : Nat × va_E} {pl : va_W} {A : Nat → Prop} (hD : va_D A (((X ++ pl) ++ [x]) ++ rows)) : va_D A ((X ++ [x]) ++ (pl ++ rows)) := by
  rw [List.append_assoc (X ++ pl)] at hD
  have h := va_D.swap hD
  rw [← List.append_assoc X] at h
  have h2 := va_D.swap h
  rw [List.append_assoc (X ++ [x])] at h2
  exact h2
theorem mr_outer (c : ClassId) (N h0 : Nat) : ∀ i : Nat, Jvm.Free.Multi.outerC c N h0 i = arrV c N (fun j => va_rf (if j < i then some (h0 + 1 + j) else none))
  | 0 => by
    show ({ cls := c, slots := Array.replicate N .null, vm := .none } : Cell) = _
    rw [arrV_new]
    refine congrArg (arrV c N) (funext fun j => ?_)
    simp [va_rf]
  | i + 1 => by
    show (Jvm.Free.Multi.outerC c N h0 i).setSlot i (.ref (h0 + 1 + i)) = _
    rw [mr_outer c N h0 i, arrV_store]
    refine congrArg (arrV c N) (funext fun j => ?_)
    by_cases e : j = i
    · subst e
      simp [updV, va_rf]
    · by_cases h : j < i
      · simp [updV, e, h, Nat.lt_succ_of_lt h]
      · simp [updV, e, h, show ¬ j < i + 1 by omega]
section VGM
variable {p : Program} {l : Launch} {e : Env} {R : Room} {s : State} {m : MethodId} {args : Array Value} {below : List Frame} {meth : Method} {c : Code} {H : Heap} {locs : List Loc} {cells slots : Nat} {Q : State → Prop}
variable {cc : ByteArray} {pc : Nat} {ls : Array Slot} {rest : List Value} {D : va_G} {cl : List vw_C} {A : Nat → Prop} {a : Nat} {tys : List (ClassId × FieldType)} {ws : va_W} {H0 : Heap}
theorem va_mna {X : va_W} {L : List Nat} {f : Nat → va_E} {cc : ByteArray} (hexec : p.tables.exec = Jvm.exec) (hb : c.code = cc) {own : String} {index : Nat} {ty : FieldType} {cy : ClassId} (hown : s.vm.findClass own = some m.cls) (hclink : (Cond.classLink own index ("[" ++ (FieldType.array ty).toString)).before args s = true) (hover : va_AOA ty s) (harr : (Cond.arrayClass ty).before args s = true) (hcy : s.vm.findClass (FieldType.array ty).toString = some cy)
    (hK : va_K D cl tys s) (hP : va_P D cl (X ++ va_pl L f) H) (hD : va_D A (X ++ va_pl L f)) (hS : va_S A H0 H locs) (hA : ∀ q, H0.size ≤ q → A q) {n k : Int32} {N' K' : Nat} {z : vp_A} (hn : ¬ n < 0) (hk : ¬ k < 0) (hN : n.toNatClampNeg = N') (hM : k.toNatClampNeg = K')
    (hb1 : N' * 4 ≤ 536870912) (hb2 : K' * componentBytes ty ≤ 536870912) (hb3 : K' ≤ 536870912) (hdf : fits ty (defaultValue ty) = true) (hdd : (defaultValue ty).isDefault = true) (hcells : cells + (1 + N') ≤ R.cells) (hslots : slots + (N' + N' * K') ≤ R.slots) (hz : ∀ c : ClassId, Jvm.Free.Multi.innerC c K' (defaultValue ty) = vp_cell c z) (hdg : decode cc pc = .ok (.multianewarray index 2, 4))
    (kk : ∀ (q : Nat) (r : Nat → Nat) (cA : ClassId) (H1 : Heap), (∀ i j : Nat, i < N' → j < N' → r i = r j → i = j) → (∀ i : Nat, i < N' → r i ∉ L) → va_K D cl (tys ++ [(cA, .array ty)]) s →
      va_P D cl ((X ++ [(q, .inl (cA, N', .inr (.inr (.inr (.inr (fun i => if i < N' then some (r i) else none))))))]) ++ va_pl (L ++ (List.range N').map r) (mr_up f ((List.range N').map r) (.inl (cy, z)))) H1 → va_D A ((X ++ [(q, .inl (cA, N', .inr (.inr (.inr (.inr (fun i => if i < N' then some (r i) else none))))))]) ++ va_pl (L ++ (List.range N').map r) (mr_up f ((List.range N').map r) (.inl (cy, z)))) → va_S A H0 H1 locs →
      W p l e R s m args below meth c H1 locs (cells + 1 + N') (slots + N' + N' * K') Q (F0 m (pc + 4) ls (.ref q :: rest))) : W p l e R s m args below meth c H locs cells slots Q (F0 m pc ls (.int k :: .int n :: rest)) := by
  subst hN
  subst hM
  intro T hT Xs
  obtain ⟨vm₁, cA, comp, -, fA, fC, hO, -, X', step⟩ := Xs.multianewarray2F hexec hown hclink (va_AOA.use hover) harr (g := F0 m pc ls (.int k :: .int n :: rest)) rfl (by rw [hb]; exact hdg) rfl hn hk hb1 hb2 hb3 hdf hdd hcells hslots
  have ec : some cy = some comp := hcy.symm.trans fC
  cases ec
  generalize hF : Jvm.Free.Multi.fill (T.setVm vm₁) cA cy n.toNatClampNeg k.toNatClampNeg (defaultValue ty) n.toNatClampNeg = F at X' step
  have hTh : (T.setVm vm₁).heap = H := hT
  obtain ⟨f1, f2, -, -⟩ := Jvm.Free.Multi.fill_facts (T.setVm vm₁) cA cy n.toNatClampNeg k.toNatClampNeg (defaultValue ty) n.toNatClampNeg
  rw [hF, hTh] at f1 f2
  have hold : ∀ x : Nat, x < H.size → F.heap[x]? = H[x]? := fun x hx => by
    have := Jvm.Free.Multi.fill_old (T.setVm vm₁) cA cy n.toNatClampNeg k.toNatClampNeg (defaultValue ty) (a := x) (by rw [hTh]; exact hx) n.toNatClampNeg
    rw [hF, hTh] at this
    exact this
  have hrow : ∀ j : Nat, j < n.toNatClampNeg → F.heap[H.size + 1 + j]? = some (vp_cell cy z) := fun j hj => by
    have := Jvm.Free.Multi.fill_inner (T.setVm vm₁) cA cy n.toNatClampNeg k.toNatClampNeg (defaultValue ty) n.toNatClampNeg j hj
    rw [hF, hTh, hz] at this
    exact this
  have hout : Jvm.Free.Multi.outerC cA n.toNatClampNeg H.size n.toNatClampNeg = vp_cell cA (n.toNatClampNeg, .inr (.inr (.inr (.inr (fun i => if i < n.toNatClampNeg then some (H.size + 1 + i) else none))))) := by
    rw [vp_cell_q]
    exact mr_outer cA n.toNatClampNeg H.size n.toNatClampNeg
  rw [hout] at f2
  have hlt : ∀ a, a ∈ L → a < H.size := fun a ha => by
    obtain ⟨k9, hk9⟩ := va_pl_get (X := X) (f := f) ha
    exact (hP k9 _ hk9).lt
  have hnl : ∀ i : Nat, i < n.toNatClampNeg → H.size + 1 + i ∉ L := fun i _ h => by
    have := hlt _ h
    omega
  have hnm : ∀ a, a ∈ (List.range n.toNatClampNeg).map (fun i => H.size + 1 + i) → a ∉ L := fun a ha h => by
    obtain ⟨i, -, rfl⟩ := List.mem_map.mp ha
    have := hlt _ h
    omega
  have hP0 : va_P D cl (X ++ va_pl L f) F.heap := hP.kept (fun k9 x hx => hold x.1 ((hP k9 x hx).lt))
  have hP1 : va_P D cl ((X ++ va_pl L f) ++ [(H.size, .inl (cA, n.toNatClampNeg, .inr (.inr (.inr (.inr (fun i => if i < n.toNatClampNeg then some (H.size + 1 + i) else none))))))]) F.heap := hP0.app (fun k9 x hx => by
    have h0 : k9 < 1 := (List.getElem?_eq_some_iff.mp hx).1
    rw [show k9 = 0 by omega] at hx
    cases hx
    exact f2)
  have hP2 : va_P D cl (((X ++ va_pl L f) ++ [(H.size, .inl (cA, n.toNatClampNeg, .inr (.inr (.inr (.inr (fun i => if i < n.toNatClampNeg then some (H.size + 1 + i) else none))))))]) ++ ((List.range n.toNatClampNeg).map (fun i => H.size + 1 + i)).map (fun a => (a, .inl (cy, z)))) F.heap := hP1.app (fun k9 x hx => by
    obtain ⟨a, ha, rfl⟩ := List.mem_map.mp (List.mem_of_getElem? hx)
    obtain ⟨i, hi, rfl⟩ := List.mem_map.mp ha
    exact hrow i (List.mem_range.mp hi))
  have hD2 : va_D A (((X ++ va_pl L f) ++ [(H.size, .inl (cA, n.toNatClampNeg, .inr (.inr (.inr (.inr (fun i => if i < n.toNatClampNeg then some (H.size + 1 + i) else none))))))]) ++ ((List.range n.toNatClampNeg).map (fun i => H.size + 1 + i)).map (fun a => (a, .inl (cy, z)))) := by
    have hD1 := hD.push (e := .inl (cA, n.toNatClampNeg, .inr (.inr (.inr (.inr (fun i => if i < n.toNatClampNeg then some (H.size + 1 + i) else none)))))) hP rfl (hA _ hS.1)
    generalize hW1 : (X ++ va_pl L f) ++ [(H.size, .inl (cA, n.toNatClampNeg, .inr (.inr (.inr (.inr (fun i => if i < n.toNatClampNeg then some (H.size + 1 + i) else none))))))] = W1 at hD1 hP1 ⊢
    have hle : ∀ (k9 : Nat) (x : Nat × va_E), W1[k9]? = some x → x.1 ≤ H.size := fun k9 x hx => by
      rw [← hW1] at hx
      by_cases hl : k9 < (X ++ va_pl L f).length
      · rw [List.getElem?_append_left hl] at hx
        exact Nat.le_of_lt ((hP k9 x hx).lt)
      · rw [List.getElem?_append_right (by omega)] at hx
        have h0 : k9 - (X ++ va_pl L f).length < 1 := (List.getElem?_eq_some_iff.mp hx).1
        rw [show k9 - (X ++ va_pl L f).length = 0 by omega] at hx
        cases hx
        exact Nat.le_refl _
    have hr : ∀ (k9 : Nat) (x : Nat × va_E), (((List.range n.toNatClampNeg).map (fun i => H.size + 1 + i)).map (fun a => ((a, .inl (cy, z)) : Nat × va_E)))[k9]? = some x → x.1 = H.size + 1 + k9 := fun k9 x hx => by
      rw [List.getElem?_map, List.getElem?_map] at hx
      by_cases h9 : k9 < n.toNatClampNeg
      · rw [List.getElem?_range h9] at hx
        cases hx
        rfl
      · have hn0 : (List.range n.toNatClampNeg)[k9]? = none := List.getElem?_eq_none (by rw [List.length_range]; omega)
        rw [hn0] at hx
        cases hx
    refine ⟨fun i j x y hi hj hxy => ?_, fun k9 x hx => ?_⟩
    · by_cases h1 : i < W1.length <;> by_cases h2 : j < W1.length
      · rw [List.getElem?_append_left h1] at hi
        rw [List.getElem?_append_left h2] at hj
        exact hD1.1 i j x y hi hj hxy
      · rw [List.getElem?_append_left h1] at hi
        rw [List.getElem?_append_right (by omega)] at hj
        have := hle _ _ hi
        have := hr _ _ hj
        omega
      · rw [List.getElem?_append_right (by omega)] at hi
        rw [List.getElem?_append_left h2] at hj
        have := hle _ _ hj
        have := hr _ _ hi
        omega
      · rw [List.getElem?_append_right (by omega)] at hi hj
        have := hr _ _ hi
        have := hr _ _ hj
        omega
    · by_cases h1 : k9 < W1.length
      · rw [List.getElem?_append_left h1] at hx
        exact hD1.2 k9 x hx
      · rw [List.getElem?_append_right (by omega)] at hx
        have := hr _ _ hx
        exact hA _ (by have := hS.1; omega)
  have hAr : ArrOfT s cA (.array ty) := fun N9 z9 => by
    obtain ⟨-, k9, hk9, cm9, hkk9⟩ := (hO 0 0 0).1
    exact ⟨(fun q hq => by cases hq), k9, hk9, cm9, hkk9⟩
  have hK2 : va_K D cl (tys ++ [(cA, .array ty)]) s := ⟨hK.1, fun k9 x hx => by
    by_cases hl : k9 < tys.length
    · rw [List.getElem?_append_left hl] at hx
      exact hK.2 k9 x hx
    · rw [List.getElem?_append_right (by omega)] at hx
      have h0 : k9 - tys.length < 1 := (List.getElem?_eq_some_iff.mp hx).1
      rw [show k9 - tys.length = 0 by omega] at hx
      cases hx
      exact ⟨hAr, fA⟩⟩
  obtain ⟨t, a1, b1⟩ := kk H.size (fun i => H.size + 1 + i) cA F.heap (fun i j _ _ h => by have h9 : H.size + 1 + i = H.size + 1 + j := h; omega) hnl hK2 (by rw [← mr_rows hnm]; exact mr_lay hP2) (by rw [← mr_rows hnm]; exact mr_layD hD2) ⟨by rw [f1]; have := hS.1; omega, fun x h1 h2 => (hold x (Nat.lt_of_lt_of_le h1 hS.1)).trans (hS.2.1 x h1 h2), hS.2.2⟩ F rfl X'
  refine ⟨t, step t ?_, b1⟩
  have e : T.heap.size = H.size := by rw [hT]
  rw [e]
  exact a1
end VGM
/-! ===== END ===== -/

/-! ===== BEGIN exceptions that leave a method, and their catching by the caller (launches without stack traces) ===== -/
section VXA
/-! The laws vx_back, vx_callV, vx_callS, vx_callSW, vx_throw0, vx_throwS follow proofs of the library, with one case more: JvmDerived/Free/Laws.lean (Back.of_free), Shelf42/LK1.lean (callV, callS), Shelf/KitTraced.lean (throwNew0V, throwNewS). -/
/-- where a method has thrown q: the class by its name, the cell, what was written, the world -/
def vx_T (XC : String → State → State → Prop) (st : State) (q : Addr) (t : State) (mc ms : Nat) (free : Addr → Prop) : Prop :=
  ∃ (E : String) (ce : Cell) (L : List Loc), XC E st t ∧ t.heap[q]? = some ce ∧ ce.vm = .none ∧ st.vm.findClass E = some ce.cls ∧ st.WarmedH t.vm ∧ st.sameButNew ({ t with vm := st.vm } : State) L mc ms ∧ ∀ z ∈ L, free z.base
def vx_Q (Qc : Array Value → State → Outcome → State → Prop) (XC : String → State → State → Prop) (mc ms : Nat) (free : Addr → Prop) : Array Value → State → Outcome → State → Prop := fun a st o t =>
  (Qc a st o t ∧ ∃ L, FrameEnd st o t L mc ms ∧ ∀ q ∈ L, free q.base) ∨ ∃ q, o = .threw q ∧ vx_T XC st q t mc ms free
/-- a callee that returns or throws -/
def vx_Met (l : Launch) (y : MethodName) (ws : List Cond) (rm : Room) (Pc : Array Value → State → Prop) (Qc : Array Value → State → Outcome → State → Prop) (XC : String → State → State → Prop) (mc ms : Nat) (free : Addr → Prop) : Prop :=
  MetFree l y (headSpec ws rm) Pc (fun _ _ _ _ _ => True) (vx_Q Qc XC mc ms free)
def vx_Post (XC : String → State → State → Prop) (mc ms : Nat) (free : Addr → Prop) : Pt → Array Value → Addr → Pt → Prop := fun A a q B =>
  ∃ (g : JFrame) (mk : MethodId) (t : State) (L : List Loc) (E : String) (ce : Cell), B.U.heap = t.heap ∧ B.U.vm = t.vm ∧ XC E (A.U.calling g mk a) t ∧ t.heap[q]? = some ce ∧ ce.vm = .none ∧ A.U.vm.findClass E = some ce.cls ∧ B.locs = A.locs ++ L ∧ (∀ z ∈ L, free z.base) ∧ B.cells = A.cells + mc ∧ B.slots = A.slots + ms
def vx_Back (l : Launch) (R : Room) (p : Program) (e : Env) (below : List Frame) (s : State) (sargs : Array Value) (y : MethodName) (len W9 : Nat)
    (Pre : Pt → Array Value → Prop) (Post : Pt → Array Value → Option Value → Pt → Prop) (PostX : Pt → Array Value → Addr → Pt → Prop) : Prop :=
  ∀ (m : MethodId) (meth : Method) (c : Code) (A : Pt) (g : JFrame) (ig : Instr) (mk : MethodId) (a : Array Value),
    Stand p l e R s m sargs below meth c A.U A.locs A.cells A.slots → g.method = m → g.locals.size = c.maxLocals → decode c.code g.pc = .ok (ig, len) →
    2 * g.monitorRoom + (g.stack.map fun v => v.category).sum ≤ W9 → A.U.methodNamed? y = some mk → Pre A a →
    (∃ (v : Option Value) (B : Pt), Stand p l e R s m sargs below meth c B.U B.locs B.cells B.slots ∧ Post A a v B ∧
      Steps p.tables e below (doInvoke e (A.U.setTop g) [] mk a).1 (B.U.setTop { g with pc := g.pc + len, stack := v.toList ++ g.stack })) ∨
    (∃ (q : Addr) (B : Pt), Stand p l e R s m sargs below meth c B.U B.locs B.cells B.slots ∧ PostX A a q B ∧
      Steps p.tables e below (doInvoke e (A.U.setTop g) [] mk a).1 ((B.U.setTop g).pushFrame (.throwing q)))
section Payer
variable {l : Launch} {R : Room} {p : Program} {e : Env} {below : List Frame} {s : State} {sargs : Array Value} {y : MethodName} {len W9 : Nat}
theorem vx_back {ws : List Cond} {rm : Room} {Pc : Array Value → State → Prop} {Qc : Array Value → State → Outcome → State → Prop} {XC : String → State → State → Prop} {mc ms : Nat} {free : Addr → Prop} {bytes : ByteArray} {maxL : Nat} {ret : Option FieldType}
    (hM : vx_Met l y ws rm Pc Qc XC mc ms free) (hblind : FrameBlind Pc) (hrc : rm.cells = mc) (hrs : rm.slots = ms)
    (hframes : rm.frames + 1 ≤ R.frames) (hlocals : W9 + (maxL + 11) + rm.locals ≤ R.locals)
    (hws : ∀ w ∈ ws, ∀ a' U, s.WarmedH U.vm → w.before a' U = true) (hcode : Cond.code y bytes maxL ret ∈ ws) (hinit : ∀ a' U, s.WarmedH U.vm → (Cond.initialized y.cls).before a' U = true) :
    vx_Back l R p e below s sargs y len W9 (PreOf R mc ms Pc) (PostOf Qc mc ms free) (vx_Post XC mc ms free) := by
  intro m meth c A g ig mk a X hg hsize hdg hW hn hp
  have h1 : (headSpec ws rm).pre.before a A.U = true := atoms_intro fun w hw => hws w hw _ _ X.warmed
  have h2 : (Cond.code y bytes maxL ret).before a A.U = true := hws _ hcode _ _ X.warmed
  have h3 : (Cond.initialized y.cls).before a A.U = true := hinit _ _ X.warmed
  have h4 : A.cells + (headSpec ws rm).room.cells ≤ R.cells := by rw [show (headSpec ws rm).room.cells = mc from hrc]; exact hp.1
  have h5 : A.slots + (headSpec ws rm).room.slots ≤ R.slots := by rw [show (headSpec ws rm).room.slots = ms from hrs]; exact hp.2.1
  have hPc : Pc a (A.U.calling g mk a) := hblind _ _ _ _ hp.2.2
  obtain ⟨U, Ls, c0, s0⟩ := A
  dsimp only [Pt.U, Pt.locs, Pt.cells, Pt.slots] at h1 h2 h3 h4 h5 X hn hPc ⊢
  obtain ⟨methY, cY, hmY, hcY, -, hlY, -, -, -, -⟩ := Cond.code_spec hn h2
  obtain ⟨kY, hkY, -⟩ := className_of_methodNamed hn
  have hinitY : kY.init = .initialized := Cond.initialized_spec (findClass_of_methodNamed hn) hkY h3
  have h : At U g.method c below := by rw [hg]; exact X.here
  have hlocals9 : W9 + (maxL + 11) + (headSpec ws rm).room.locals ≤ R.locals := hlocals
  have happ : (headSpec ws rm).appliesLoose y e.platform (U.calling g mk a) = true :=
    Spec.appliesLoose_calling (g := g) h hdg hn hkY hinitY
      (X.room_calling (g := g) (R' := (headSpec ws rm).room) hsize hmY hcY hframes (by rw [hlY]; omega) h4 h5) h1
  obtain ⟨mid, hmid⟩ := h.above
  have hfr : (U.setTop g).frames = (.java g :: mid) ++ below := by rw [State.frames_setTop' g h.top, hmid]; rfl
  obtain ⟨o, s₂, hsteps, -, hend, hq⟩ := Steps.callFree hM p X.admits X.cas X.clock (acts := []) hfr happ hPc trivial
  have hq' : vx_Q Qc XC mc ms free a (U.calling g mk a) o s₂ := hq
  rw [State.frames_setTop' g h.top] at hend
  obtain ⟨g₀, hg0⟩ := Option.isSome_iff_exists.mp h.top
  obtain ⟨r, hr⟩ := State.topJava?_eq_some.mp hg0
  have hr' : (({ U with heap := s₂.heap, slotsUsed := s₂.slotsUsed } : State).setVm s₂.vm).frames = .java g₀ :: r := hr
  rcases hq' with ⟨hqc, L, hfe, hL⟩ | ⟨q, rfl, E, ce, L, hx, hce, hcv, hcl, hW₂, hsm, hL⟩
  · obtain ⟨⟨v, rfl⟩, hW₂, e2, q2, q3, q4, q5, q6⟩ := id hfe
    have e3 : s₂ = ({ (U.calling g mk a).setFrames s₂.frames with heap := s₂.heap, slotsUsed := s₂.slotsUsed } : State).setVm s₂.vm := by
      have : s₂ = ({ s₂ with vm := (U.calling g mk a).vm } : State).setVm s₂.vm := rfl
      rw [e2] at this
      exact this
    obtain ⟨c₂, i₂, len₂, hc₂, hd₂, hf₂⟩ := hend
    have hW' : U.WarmedH s₂.vm := hW₂
    have hcc : c₂ = c := by
      have h1 : s₂.code? g.method = U.code? g.method := by
        rw [State.code?_eq, State.code?_eq, hW'.alike.method?]
      exact Option.some.inj (hc₂.symm.trans (h1.trans h.code))
    subst hcc
    have hlen : len₂ = len := by rw [hdg] at hd₂; cases hd₂; rfl
    subst hlen
    have hs₂ : s₂ = (({ U with heap := s₂.heap, slotsUsed := s₂.slotsUsed } : State).setVm s₂.vm).setTop { g with pc := g.pc + len₂, stack := v.toList ++ g.stack } := by
      refine e3.trans ?_
      rw [hf₂, State.calling_eq h.top, State.setFrames_setFrames, State.setTop_of_frames _ hr', hr]
      rfl
    have hsame : U.sameButNew ({ U with heap := s₂.heap, slotsUsed := s₂.slotsUsed } : State) L mc ms := by
      refine ⟨?_, q2, q3, q4, q5, q6⟩
      obtain ⟨t, ht, -⟩ := State.frames_cons hr
      show ({ U with heap := s₂.heap, slotsUsed := s₂.slotsUsed } : State) = { U.setFrames U.frames with heap := s₂.heap, slotsUsed := s₂.slotsUsed }
      rw [State.setFrames_self ht]
    subst hg
    refine Or.inl ⟨v, ⟨(({ U with heap := s₂.heap, slotsUsed := s₂.slotsUsed } : State).setVm s₂.vm), Ls ++ L, c0 + mc, s0 + ms⟩,
      ⟨X.admits, X.cas, X.clock, X.frames, X.room, X.hears, X.method, X.code, (X.here.setHeapUsed s₂.heap s₂.slotsUsed).setVm hW'.alike, X.tail, State.WarmedH.trans X.warmed hW', X.limits, X.bytes, X.same.trans (hsame.setVm s.vm)⟩,
      ⟨g, mk, s₂, L, rfl, rfl, hqc, rfl, hL, rfl, rfl⟩, ?_⟩
    show Steps p.tables e below _ ((({ U with heap := s₂.heap, slotsUsed := s₂.slotsUsed } : State).setVm s₂.vm).setTop { g with pc := g.pc + len₂, stack := v.toList ++ g.stack })
    rw [← hs₂]
    exact hsteps
  · obtain ⟨e2, q2, q3, q4, q5, q6⟩ := id hsm
    have e3 : s₂ = ({ (U.calling g mk a).setFrames s₂.frames with heap := s₂.heap, slotsUsed := s₂.slotsUsed } : State).setVm s₂.vm := by
      have : s₂ = ({ s₂ with vm := (U.calling g mk a).vm } : State).setVm s₂.vm := rfl
      rw [e2] at this
      exact this
    have hf₂ : s₂.frames = .throwing q :: .java g :: U.frames.tail := hend
    have hW' : U.WarmedH s₂.vm := hW₂
    have hs₂ : s₂ = ((({ U with heap := s₂.heap, slotsUsed := s₂.slotsUsed } : State).setVm s₂.vm).setTop g).pushFrame (.throwing q) := by
      refine e3.trans ?_
      rw [hf₂, State.calling_eq h.top, State.setFrames_setFrames, State.pushFrame, State.frames_setTop _ hr', State.setTop_of_frames _ hr', State.setFrames_setFrames, hr]
      rfl
    have hsame : U.sameButNew ({ U with heap := s₂.heap, slotsUsed := s₂.slotsUsed } : State) L mc ms := by
      refine ⟨?_, q2, q3, q4, q5, q6⟩
      obtain ⟨t, ht, -⟩ := State.frames_cons hr
      show ({ U with heap := s₂.heap, slotsUsed := s₂.slotsUsed } : State) = { U.setFrames U.frames with heap := s₂.heap, slotsUsed := s₂.slotsUsed }
      rw [State.setFrames_self ht]
    subst hg
    refine Or.inr ⟨q, ⟨(({ U with heap := s₂.heap, slotsUsed := s₂.slotsUsed } : State).setVm s₂.vm), Ls ++ L, c0 + mc, s0 + ms⟩,
      ⟨X.admits, X.cas, X.clock, X.frames, X.room, X.hears, X.method, X.code, (X.here.setHeapUsed s₂.heap s₂.slotsUsed).setVm hW'.alike, X.tail, State.WarmedH.trans X.warmed hW', X.limits, X.bytes, X.same.trans (hsame.setVm s.vm)⟩,
      ⟨g, mk, s₂, L, E, ce, rfl, rfl, hx, hce, hcv, hcl, rfl, hL, rfl, rfl⟩, ?_⟩
    show Steps p.tables e below _ (((({ U with heap := s₂.heap, slotsUsed := s₂.slotsUsed } : State).setVm s₂.vm).setTop g).pushFrame (.throwing q))
    rw [← hs₂]
    exact hsteps
end Payer
section Calls
variable {p : Program} {l : Launch} {e : Env} {R : Room} {s : State} {m : MethodId} {args : Array Value} {below : List Frame} {meth : Method} {c : Code} {T : State} {locs : List Loc} {cells slots : Nat}
theorem vx_callV (X : Stand p l e R s m args below meth c T locs cells slots) (hexec : p.tables.exec = Jvm.exec) {own C : String} {index : Nat} {y : MethodName} {bytes : ByteArray} {maxL : Nat} {ret : Option FieldType}
    (hown : s.vm.findClass own = some m.cls) (hlink : (Cond.methodLink own index y).before args s = true) (hinst : (Cond.instanceMethod y).before args s = true) (hsel : (Cond.selects C y y).before args s = true)
    (hcode : (Cond.code y bytes maxL ret).before args s = true) (hy : y.cls ≠ "java/lang/invoke/MethodHandle" ∧ y.cls ≠ "java/lang/invoke/VarHandle")
    {W9 : Nat} {Pre : Pt → Array Value → Prop} {Post : Pt → Array Value → Option Value → Pt → Prop} {PostX : Pt → Array Value → Addr → Pt → Prop} (hK : vx_Back l R p e below s args y 3 W9 Pre Post PostX)
    {b : Addr} {cellB : Cell} (hcell : T.heap[b]? = some cellB) (hobj : cellB.vm.isStatics = false) (hcls : s.vm.findClass C = some cellB.cls)
    {g : JFrame} (hg : g.method = m) (hsize : g.locals.size = c.maxLocals) {argsL rest : List Value} (hlen : ∀ sig, parseMethodDescriptor y.desc = some sig → argsL.length = sig.parameters.length)
    (hstack : g.stack = argsL.reverse ++ .ref b :: rest) (hW : 2 * g.monitorRoom + (rest.map fun v => v.category).sum ≤ W9) (hdg : decode c.code g.pc = .ok (.invokevirtual index, 3))
    (hpre : ∀ vm₁, s.WarmedH vm₁ → Pre ⟨T.setVm vm₁, locs, cells, slots⟩ (Value.ref b :: argsL).toArray) :
    (∃ (v : Option Value) (vm₁ : Vm) (B : Pt), s.WarmedH vm₁ ∧ Stand p l e R s m args below meth c B.U B.locs B.cells B.slots ∧ Post ⟨T.setVm vm₁, locs, cells, slots⟩ (Value.ref b :: argsL).toArray v B ∧
      ∀ target, Steps p.tables e below (B.U.setTop { g with pc := g.pc + 3, stack := v.toList ++ rest }) target → Steps p.tables e below (T.setTop g) target) ∨
    (∃ (q : Addr) (vm₁ : Vm) (B : Pt), s.WarmedH vm₁ ∧ Stand p l e R s m args below meth c B.U B.locs B.cells B.slots ∧ PostX ⟨T.setVm vm₁, locs, cells, slots⟩ (Value.ref b :: argsL).toArray q B ∧
      Steps p.tables e below (T.setTop g) ((B.U.setTop { g with stack := rest }).pushFrame (.throwing q))) := by
  obtain ⟨mk, methM, hnamed, hmethM, hstM, habM⟩ := Cond.instanceMethod_spec hinst
  obtain ⟨methM', cM, hmethM', -, -, -, -, -, -, hsigM⟩ := Cond.code_spec hnamed hcode
  cases hmethM.symm.trans hmethM'
  obtain ⟨c2, r2, m2, q1, q2, q3, q4, kP, hkP, hkPi⟩ := Cond.selects_spec hsel
  cases hcls.symm.trans q1
  cases (State.methodFound?_of_named hnamed hy).symm.trans q2
  cases hnamed.symm.trans q3
  have hselP : selectMethod e.platform s.vm cellB.cls mk = .method mk := by rw [Launch.admits_selectMethod X.admits]; exact q4
  obtain ⟨vm₁, X₁, hstep₁⟩ := X.invokevirtual hexec hown hlink hnamed hmethM hstM hkP hkPi hy (a := b) (cell := cellB) hcell
    (fun z h => by rw [h] at hobj; cases hobj) hselP hmethM habM hkP hkPi (g := g) hg (argsL := argsL) (rest := rest) (hlen _ hsigM) hstack hdg
  rcases hK m meth c ⟨T.setVm vm₁, locs, cells, slots⟩ { g with stack := rest } (.invokevirtual index) mk (Value.ref b :: argsL).toArray X₁ hg hsize hdg hW (X₁.named hnamed) (hpre vm₁ X₁.warmed) with ⟨v, B, X', hpost, hsteps⟩ | ⟨q, B, X', hpost, hsteps⟩
  · exact Or.inl ⟨v, vm₁, B, X₁.warmed, X', hpost, fun target h => hstep₁ _ fun acts => by rw [doInvoke_state]; exact hsteps.trans h⟩
  · exact Or.inr ⟨q, vm₁, B, X₁.warmed, X', hpost, hstep₁ _ fun acts => by rw [doInvoke_state]; exact hsteps⟩
theorem vx_callS (X : Stand p l e R s m args below meth c T locs cells slots) (hexec : p.tables.exec = Jvm.exec) {own : String} {index : Nat} {y : MethodName} {bytes : ByteArray} {maxL : Nat} {ret : Option FieldType}
    (hown : s.vm.findClass own = some m.cls) (hlink : (Cond.methodLink own index y).before args s = true) (hstat : (Cond.static y).before args s = true) (hinit : (Cond.initialized y.cls).before args s = true)
    (hcode : (Cond.code y bytes maxL ret).before args s = true) (hy : y.cls ≠ "java/lang/invoke/MethodHandle" ∧ y.cls ≠ "java/lang/invoke/VarHandle")
    {W9 : Nat} {Pre : Pt → Array Value → Prop} {Post : Pt → Array Value → Option Value → Pt → Prop} {PostX : Pt → Array Value → Addr → Pt → Prop} (hK : vx_Back l R p e below s args y 3 W9 Pre Post PostX)
    {g : JFrame} (hg : g.method = m) (hsize : g.locals.size = c.maxLocals) {argsL rest : List Value} (hlen : ∀ sig, parseMethodDescriptor y.desc = some sig → argsL.length = sig.parameters.length)
    (hstack : g.stack = argsL.reverse ++ rest) (hW : 2 * g.monitorRoom + (rest.map fun v => v.category).sum ≤ W9) (hdg : decode c.code g.pc = .ok (.invokestatic index, 3))
    (hpre : ∀ vm₁, s.WarmedH vm₁ → Pre ⟨T.setVm vm₁, locs, cells, slots⟩ argsL.toArray) :
    (∃ (v : Option Value) (vm₁ : Vm) (B : Pt), s.WarmedH vm₁ ∧ Stand p l e R s m args below meth c B.U B.locs B.cells B.slots ∧ Post ⟨T.setVm vm₁, locs, cells, slots⟩ argsL.toArray v B ∧
      ∀ target, Steps p.tables e below (B.U.setTop { g with pc := g.pc + 3, stack := v.toList ++ rest }) target → Steps p.tables e below (T.setTop g) target) ∨
    (∃ (q : Addr) (vm₁ : Vm) (B : Pt), s.WarmedH vm₁ ∧ Stand p l e R s m args below meth c B.U B.locs B.cells B.slots ∧ PostX ⟨T.setVm vm₁, locs, cells, slots⟩ argsL.toArray q B ∧
      Steps p.tables e below (T.setTop g) ((B.U.setTop { g with stack := rest }).pushFrame (.throwing q))) := by
  obtain ⟨mk, hnamed⟩ := Cond.code_named hcode
  obtain ⟨methM, cM, hmethM, -, -, -, -, -, -, hsigM⟩ := Cond.code_spec hnamed hcode
  have hstatic : methM.isStatic = true := Cond.static_spec hnamed hmethM hstat
  obtain ⟨kP, hkP, -⟩ := className_of_methodNamed hnamed
  have hinitP : kP.init = .initialized := Cond.initialized_spec (findClass_of_methodNamed hnamed) hkP hinit
  obtain ⟨vm₁, X₁, hstep₁⟩ := X.invokestatic hexec hown hlink hnamed hmethM hstatic hkP hinitP hy (g := g) hg (argsL := argsL) (rest := rest) (hlen _ hsigM) hstack hdg
  rcases hK m meth c ⟨T.setVm vm₁, locs, cells, slots⟩ { g with stack := rest } (.invokestatic index) mk argsL.toArray X₁ hg hsize hdg hW (X₁.named hnamed) (hpre vm₁ X₁.warmed) with ⟨v, B, X', hpost, hsteps⟩ | ⟨q, B, X', hpost, hsteps⟩
  · exact Or.inl ⟨v, vm₁, B, X₁.warmed, X', hpost, fun target h => hstep₁ _ fun acts => by rw [doInvoke_state]; exact hsteps.trans h⟩
  · exact Or.inr ⟨q, vm₁, B, X₁.warmed, X', hpost, hstep₁ _ fun acts => by rw [doInvoke_state]; exact hsteps⟩
end Calls
theorem vx_cls {s : State} {T : State} {vm₁ : Vm} {E : String} {k : ClassId} (hW : s.WarmedH vm₁) (h : (T.setVm vm₁).vm.findClass E = some k) : s.vm.findClass E = some k := by
  have h1 : vm₁.findClass E = some k := h
  rw [hW.alike.findClass] at h1
  exact h1
/-- the method's frame g, with q thrown over it -/
def vx_W (p : Program) (l : Launch) (e : Env) (R : Room) (s : State) (m : MethodId) (args : Array Value) (below : List Frame) (meth : Method) (c : Code) (H : Heap) (locs : List Loc) (cells slots : Nat) (Q : State → Prop) (g : JFrame) (q : Addr) : Prop :=
  ∀ T : State, T.heap = H → Stand p l e R s m args below meth c T locs cells slots → ∃ t, Steps p.tables e below ((T.setTop g).pushFrame (.throwing q)) t ∧ Q t
def vx_Run (p : Program) (l : Launch) (e : Env) (R : Room) (s : State) (m : MethodId) (args : Array Value) (below : List Frame) (meth : Method) (c : Code) (H : Heap) (locs : List Loc) (cells slots mc ms : Nat) (g : JFrame) (rest : List Value) (Qa : State → Outcome → State → Prop) (XC : String → State → State → Prop) (free : Addr → Prop) : Prop :=
  ∀ T : State, T.heap = H → Stand p l e R s m args below meth c T locs cells slots →
    (∃ (v : Option Value) (st₀ t T' : State) (L : List Loc), st₀.heap = H ∧ Stand p l e R s m args below meth c T' (locs ++ L) (cells + mc) (slots + ms) ∧ (∀ q ∈ L, free q.base) ∧ T'.heap = t.heap ∧ T'.vm = t.vm ∧ Qa st₀ (.returned v) t ∧
      Goes p e below T g T' { g with pc := g.pc + 3, stack := v.toList ++ rest }) ∨
    (∃ (q : Addr) (st₀ t T' : State) (L : List Loc) (E : String) (ce : Cell), st₀.heap = H ∧ Stand p l e R s m args below meth c T' (locs ++ L) (cells + mc) (slots + ms) ∧ (∀ z ∈ L, free z.base) ∧ T'.heap = t.heap ∧ T'.vm = t.vm ∧ XC E st₀ t ∧ t.heap[q]? = some ce ∧ ce.vm = .none ∧ s.vm.findClass E = some ce.cls ∧
      Steps p.tables e below (T.setTop g) ((T'.setTop { g with stack := rest }).pushFrame (.throwing q)))
def vx_X {S : Type} (px : S → Prop) (B : String → S → State → Prop) (A : Nat → Prop) : String → State → State → Prop := fun E st t => ∃ u : S, px u ∧ B E u t ∧ va_F A st t
section Runs
variable {p : Program} {l : Launch} {e : Env} {R : Room} {s : State} {m : MethodId} {args : Array Value} {below : List Frame} {meth : Method} {c : Code} {H : Heap} {locs : List Loc} {cells slots : Nat}
variable {y : MethodName} {bytes cc : ByteArray} {maxL nL mc ms n index : Nat} {ret : Option FieldType} {ws : List Cond} {rm : Room} {Pc : Array Value → State → Prop} {Qc : Array Value → State → Outcome → State → Prop} {XC : String → State → State → Prop} {free : Addr → Prop} {Ts : List Cond} {own C : String} {b : Addr} {As rest : List Value} {g : JFrame}
theorem vx_callBack (cb : CallB R s args own index y bytes maxL ret ws rm mc ms n) (hM : vx_Met l y ws rm Pc Qc XC mc ms free) (hbl : FrameBlind Pc) : vx_Back l R p e below s args y 3 8 (PreOf R mc ms Pc) (PostOf Qc mc ms free) (vx_Post XC mc ms free) := by
  obtain ⟨hrc, hrs, hfr, hlo, hws, hcw, -, hini, -⟩ := cb
  exact vx_back (bytes := bytes) (maxL := maxL) (ret := ret) hM hbl hrc hrs hfr hlo hws hcw (fun a' U hW => word_at hW (Or.inl (by first | rfl | simp [Cond.onTables, Cond.keeps, Cond.steady])) hini)
theorem vx_runV (S : CallFix p m c cc nL s args Ts own) (hM : vx_Met l y ws rm Pc Qc XC mc ms free) (cw : CallW R s args own C index y bytes maxL ret ws rm mc ms n) (hp : PreV s H C b Pc As)
    (hg : g.method = m) (hn : As.length = n) (hsize : g.locals.size = nL) (hstack : g.stack = As.reverse ++ .ref b :: rest) (hW : 2 * g.monitorRoom + (rest.map fun v => v.category).sum ≤ 8) (hdg : decode cc g.pc = .ok (.invokevirtual index, 3)) (hf : cells + mc ≤ R.cells ∧ slots + ms ≤ R.slots) :
    vx_Run p l e R s m args below meth c H locs cells slots mc ms g rest (Qc (Value.ref b :: As).toArray) XC free := by
  have hK : vx_Back l R p e below s args y 3 8 (PreOf R mc ms Pc) (PostOf Qc mc ms free) (vx_Post XC mc ms free) := vx_callBack cw.1 hM hp.1
  obtain ⟨⟨-, -, -, -, -, -, hcode, -, hy, hlen, hl⟩, hin, hse⟩ := cw
  obtain ⟨hx, hb, hml, ho, -⟩ := S
  obtain ⟨-, ⟨cellB, hcB, hoB, hclB⟩, hPc⟩ := hp
  intro T hT X
  rcases vx_callV X hx (C := C) (bytes := bytes) (maxL := maxL) (ret := ret) ho hl hin hse hcode hy hK (by rw [hT]; exact hcB) hoB hclB hg (hsize.trans hml.symm) (argsL := As) (rest := rest) (fun sig h => hn.trans (hlen sig h)) hstack hW (by rw [hb]; exact hdg)
    (fun vm₁ hW₁ => ⟨hf.1, hf.2, hPc (T.setVm vm₁) hT hW₁⟩) with ⟨v, vm₁, ⟨U', l2, c2, s2⟩, hW₁, X', ⟨g', mk, t, L, e1, e2, hq, h1, hL, h2, h3⟩, st⟩ | ⟨q, vm₁, ⟨U', l2, c2, s2⟩, hW₁, X', ⟨g', mk, t, L, E, ce, e1, e2, hq, hce, hcv, hcl, h1, hL, h2, h3⟩, st⟩
  · dsimp only [Pt.U, Pt.locs, Pt.cells, Pt.slots] at X' e1 e2 h1 h2 h3 st
    subst h1; subst h2; subst h3
    exact Or.inl ⟨v, (T.setVm vm₁).calling g' mk (Value.ref b :: As).toArray, t, U', L, hT, X', hL, e1, e2, hq, st⟩
  · dsimp only [Pt.U, Pt.locs, Pt.cells, Pt.slots] at X' e1 e2 h1 h2 h3 st hcl
    subst h1; subst h2; subst h3
    exact Or.inr ⟨q, (T.setVm vm₁).calling g' mk (Value.ref b :: As).toArray, t, U', L, E, ce, hT, X', hL, e1, e2, hq, hce, hcv, vx_cls hW₁ hcl, st⟩
theorem vx_runS (S : CallFix p m c cc nL s args Ts own) (hM : vx_Met l y ws rm Pc Qc XC mc ms free) (cw : CallB R s args own index y bytes maxL ret ws rm mc ms n ∧ (Cond.static y).before args s = true) (hp : PreS s H Pc As)
    (hg : g.method = m) (hn : As.length = n) (hsize : g.locals.size = nL) (hstack : g.stack = As.reverse ++ rest) (hW : 2 * g.monitorRoom + (rest.map fun v => v.category).sum ≤ 8) (hdg : decode cc g.pc = .ok (.invokestatic index, 3)) (hf : cells + mc ≤ R.cells ∧ slots + ms ≤ R.slots) :
    vx_Run p l e R s m args below meth c H locs cells slots mc ms g rest (Qc As.toArray) XC free := by
  have hK : vx_Back l R p e below s args y 3 8 (PreOf R mc ms Pc) (PostOf Qc mc ms free) (vx_Post XC mc ms free) := vx_callBack cw.1 hM hp.1
  obtain ⟨⟨-, -, -, -, -, -, hcode, hini, hy, hlen, hl⟩, hstt⟩ := cw
  obtain ⟨hx, hb, hml, ho, -⟩ := S
  intro T hT X
  rcases vx_callS X hx (bytes := bytes) (maxL := maxL) (ret := ret) ho hl hstt hini hcode hy hK hg (hsize.trans hml.symm) (argsL := As) (rest := rest) (fun sig h => hn.trans (hlen sig h)) hstack hW (by rw [hb]; exact hdg)
    (fun vm₁ hW₁ => ⟨hf.1, hf.2, hp.2 (T.setVm vm₁) hT hW₁⟩) with ⟨v, vm₁, ⟨U', l2, c2, s2⟩, hW₁, X', ⟨g', mk, t, L, e1, e2, hq, h1, hL, h2, h3⟩, st⟩ | ⟨q, vm₁, ⟨U', l2, c2, s2⟩, hW₁, X', ⟨g', mk, t, L, E, ce, e1, e2, hq, hce, hcv, hcl, h1, hL, h2, h3⟩, st⟩
  · dsimp only [Pt.U, Pt.locs, Pt.cells, Pt.slots] at X' e1 e2 h1 h2 h3 st
    subst h1; subst h2; subst h3
    exact Or.inl ⟨v, (T.setVm vm₁).calling g' mk As.toArray, t, U', L, hT, X', hL, e1, e2, hq, st⟩
  · dsimp only [Pt.U, Pt.locs, Pt.cells, Pt.slots] at X' e1 e2 h1 h2 h3 st hcl
    subst h1; subst h2; subst h3
    exact Or.inr ⟨q, (T.setVm vm₁).calling g' mk As.toArray, t, U', L, E, ce, hT, X', hL, e1, e2, hq, hce, hcv, vx_cls hW₁ hcl, st⟩
end Runs
section Rows
variable {p : Program} {l : Launch} {e : Env} {R : Room} {s : State} {m : MethodId} {args : Array Value} {below : List Frame} {meth : Method} {c : Code} {H : Heap} {locs : List Loc} {cells slots : Nat} {Q : State → Prop}
variable {mc ms : Nat} {free : Addr → Prop} {A0 A1 : Nat → Prop} {H0 : Heap} {a : Array Value} {pc : Nat} {ls : Array Slot} {st0 rest : List Value}
theorem vx_keep {st₀ t T' : State} {L : List Loc} (h0 : st₀.heap = H) (e1 : T'.heap = t.heap) (hS : va_S A0 H0 H locs) (hA : ∀ q, q < H.size → A1 q → A0 q) (hf : ∀ q, free q → A0 q) (hL : ∀ q ∈ L, free q.base) (hF : va_F A1 st₀ t) :
    H.size ≤ T'.heap.size ∧ (∀ q : Nat, q < H.size → ¬ A1 q → T'.heap[q]? = H[q]?) ∧ va_S A0 H0 T'.heap (locs ++ L) := by
  obtain ⟨hz, hk⟩ := hF
  rw [h0] at hz hk
  exact ⟨by rw [e1]; exact hz, fun q h1 h2 => by rw [e1]; exact hk q h1 h2,
    ⟨Nat.le_trans hS.1 (by rw [e1]; exact hz), fun q h1 h2 => by rw [e1, hk q (Nat.lt_of_lt_of_le h1 hS.1) (fun z => h2 (hA q (Nat.lt_of_lt_of_le h1 hS.1) z))]; exact hS.2.1 q h1 h2, fun q hq => by
      rcases List.mem_append.mp hq with h | h
      · exact hS.2.2 q h
      · exact hf _ (hL q h)⟩⟩
theorem vx_calli {S SX : Type} {post : Int32 → S → Prop} {px : SX → Prop} {B : S → State → Prop} {BX : String → SX → State → Prop} {AX : Nat → Prop} (hr : vx_Run p l e R s m args below meth c H locs cells slots mc ms (F0 m pc ls st0) rest (va_Qi post B A1 a) (vx_X px BX AX) free) (hS : va_S A0 H0 H locs) (hA : ∀ q, q < H.size → A1 q → A0 q) (hf : ∀ q, free q → A0 q) (hAX : ∀ q, q < H.size → AX q → A0 q)
    (kx : ∀ (E : String) (ce : Cell) (q9 : Addr) (u : SX) (t : State) (H1 : Heap) (locs1 : List Loc), t.heap = H1 → s.vm.Alike t.vm → px u → BX E u t → H.size ≤ H1.size → (∀ q : Nat, q < H.size → ¬ AX q → H1[q]? = H[q]?) → va_S A0 H0 H1 locs1 → H1[q9]? = some ce → ce.vm = .none → s.vm.findClass E = some ce.cls → vx_W p l e R s m args below meth c H1 locs1 (cells + mc) (slots + ms) Q (F0 m pc ls rest) q9)
    (kk : ∀ (r : Int32) (u : S) (t : State) (H1 : Heap) (locs1 : List Loc), t.heap = H1 → s.vm.Alike t.vm → post r u → B u t → H.size ≤ H1.size → (∀ q : Nat, q < H.size → ¬ A1 q → H1[q]? = H[q]?) → va_S A0 H0 H1 locs1 → W p l e R s m args below meth c H1 locs1 (cells + mc) (slots + ms) Q (F0 m (pc + 3) ls (.int r :: rest))) : W p l e R s m args below meth c H locs cells slots Q (F0 m pc ls st0) := by
  intro T hT X
  rcases hr T hT X with ⟨v, st₀, t, T', L, h0, X', hL, e1, e2, ⟨⟨r, u, hv, hp, hb⟩, hF⟩, st⟩ | ⟨q, st₀, t, T', L, E, ce, h0, X', hL, e1, e2, ⟨u, hp, hb, hF⟩, hce, hcv, hcl, st⟩
  · cases hv
    obtain ⟨k1, k2, k3⟩ := vx_keep h0 e1 hS hA hf hL hF
    obtain ⟨t2, a1, b1⟩ := kk r u t T'.heap (locs ++ L) e1.symm (by rw [← e2]; exact X'.warmed.alike) hp hb k1 k2 k3 T' rfl X'
    exact ⟨t2, st t2 a1, b1⟩
  · obtain ⟨k1, k2, k3⟩ := vx_keep h0 e1 hS hAX hf hL hF
    obtain ⟨t2, a1, b1⟩ := kx E ce q u t T'.heap (locs ++ L) e1.symm (by rw [← e2]; exact X'.warmed.alike) hp hb k1 k2 k3 (by rw [e1]; exact hce) hcv hcl T' rfl X'
    exact ⟨t2, st.trans a1, b1⟩
theorem vx_calll {S SX : Type} {post : Int64 → S → Prop} {px : SX → Prop} {B : S → State → Prop} {BX : String → SX → State → Prop} {AX : Nat → Prop} (hr : vx_Run p l e R s m args below meth c H locs cells slots mc ms (F0 m pc ls st0) rest (va_Ql post B A1 a) (vx_X px BX AX) free) (hS : va_S A0 H0 H locs) (hA : ∀ q, q < H.size → A1 q → A0 q) (hf : ∀ q, free q → A0 q) (hAX : ∀ q, q < H.size → AX q → A0 q)
    (kx : ∀ (E : String) (ce : Cell) (q9 : Addr) (u : SX) (t : State) (H1 : Heap) (locs1 : List Loc), t.heap = H1 → s.vm.Alike t.vm → px u → BX E u t → H.size ≤ H1.size → (∀ q : Nat, q < H.size → ¬ AX q → H1[q]? = H[q]?) → va_S A0 H0 H1 locs1 → H1[q9]? = some ce → ce.vm = .none → s.vm.findClass E = some ce.cls → vx_W p l e R s m args below meth c H1 locs1 (cells + mc) (slots + ms) Q (F0 m pc ls rest) q9)
    (kk : ∀ (r : Int64) (u : S) (t : State) (H1 : Heap) (locs1 : List Loc), t.heap = H1 → s.vm.Alike t.vm → post r u → B u t → H.size ≤ H1.size → (∀ q : Nat, q < H.size → ¬ A1 q → H1[q]? = H[q]?) → va_S A0 H0 H1 locs1 → W p l e R s m args below meth c H1 locs1 (cells + mc) (slots + ms) Q (F0 m (pc + 3) ls (.long r :: rest))) : W p l e R s m args below meth c H locs cells slots Q (F0 m pc ls st0) := by
  intro T hT X
  rcases hr T hT X with ⟨v, st₀, t, T', L, h0, X', hL, e1, e2, ⟨⟨r, u, hv, hp, hb⟩, hF⟩, st⟩ | ⟨q, st₀, t, T', L, E, ce, h0, X', hL, e1, e2, ⟨u, hp, hb, hF⟩, hce, hcv, hcl, st⟩
  · cases hv
    obtain ⟨k1, k2, k3⟩ := vx_keep h0 e1 hS hA hf hL hF
    obtain ⟨t2, a1, b1⟩ := kk r u t T'.heap (locs ++ L) e1.symm (by rw [← e2]; exact X'.warmed.alike) hp hb k1 k2 k3 T' rfl X'
    exact ⟨t2, st t2 a1, b1⟩
  · obtain ⟨k1, k2, k3⟩ := vx_keep h0 e1 hS hAX hf hL hF
    obtain ⟨t2, a1, b1⟩ := kx E ce q u t T'.heap (locs ++ L) e1.symm (by rw [← e2]; exact X'.warmed.alike) hp hb k1 k2 k3 (by rw [e1]; exact hce) hcv hcl T' rfl X'
    exact ⟨t2, st.trans a1, b1⟩
theorem vx_callf {S SX : Type} {post : UInt32 → S → Prop} {px : SX → Prop} {B : S → State → Prop} {BX : String → SX → State → Prop} {AX : Nat → Prop} (hr : vx_Run p l e R s m args below meth c H locs cells slots mc ms (F0 m pc ls st0) rest (va_Qf post B A1 a) (vx_X px BX AX) free) (hS : va_S A0 H0 H locs) (hA : ∀ q, q < H.size → A1 q → A0 q) (hf : ∀ q, free q → A0 q) (hAX : ∀ q, q < H.size → AX q → A0 q)
    (kx : ∀ (E : String) (ce : Cell) (q9 : Addr) (u : SX) (t : State) (H1 : Heap) (locs1 : List Loc), t.heap = H1 → s.vm.Alike t.vm → px u → BX E u t → H.size ≤ H1.size → (∀ q : Nat, q < H.size → ¬ AX q → H1[q]? = H[q]?) → va_S A0 H0 H1 locs1 → H1[q9]? = some ce → ce.vm = .none → s.vm.findClass E = some ce.cls → vx_W p l e R s m args below meth c H1 locs1 (cells + mc) (slots + ms) Q (F0 m pc ls rest) q9)
    (kk : ∀ (r : UInt32) (u : S) (t : State) (H1 : Heap) (locs1 : List Loc), t.heap = H1 → s.vm.Alike t.vm → post r u → B u t → H.size ≤ H1.size → (∀ q : Nat, q < H.size → ¬ A1 q → H1[q]? = H[q]?) → va_S A0 H0 H1 locs1 → W p l e R s m args below meth c H1 locs1 (cells + mc) (slots + ms) Q (F0 m (pc + 3) ls (.float r :: rest))) : W p l e R s m args below meth c H locs cells slots Q (F0 m pc ls st0) := by
  intro T hT X
  rcases hr T hT X with ⟨v, st₀, t, T', L, h0, X', hL, e1, e2, ⟨⟨r, u, hv, hp, hb⟩, hF⟩, st⟩ | ⟨q, st₀, t, T', L, E, ce, h0, X', hL, e1, e2, ⟨u, hp, hb, hF⟩, hce, hcv, hcl, st⟩
  · cases hv
    obtain ⟨k1, k2, k3⟩ := vx_keep h0 e1 hS hA hf hL hF
    obtain ⟨t2, a1, b1⟩ := kk r u t T'.heap (locs ++ L) e1.symm (by rw [← e2]; exact X'.warmed.alike) hp hb k1 k2 k3 T' rfl X'
    exact ⟨t2, st t2 a1, b1⟩
  · obtain ⟨k1, k2, k3⟩ := vx_keep h0 e1 hS hAX hf hL hF
    obtain ⟨t2, a1, b1⟩ := kx E ce q u t T'.heap (locs ++ L) e1.symm (by rw [← e2]; exact X'.warmed.alike) hp hb k1 k2 k3 (by rw [e1]; exact hce) hcv hcl T' rfl X'
    exact ⟨t2, st.trans a1, b1⟩
theorem vx_calld {S SX : Type} {post : UInt64 → S → Prop} {px : SX → Prop} {B : S → State → Prop} {BX : String → SX → State → Prop} {AX : Nat → Prop} (hr : vx_Run p l e R s m args below meth c H locs cells slots mc ms (F0 m pc ls st0) rest (va_Qd post B A1 a) (vx_X px BX AX) free) (hS : va_S A0 H0 H locs) (hA : ∀ q, q < H.size → A1 q → A0 q) (hf : ∀ q, free q → A0 q) (hAX : ∀ q, q < H.size → AX q → A0 q)
    (kx : ∀ (E : String) (ce : Cell) (q9 : Addr) (u : SX) (t : State) (H1 : Heap) (locs1 : List Loc), t.heap = H1 → s.vm.Alike t.vm → px u → BX E u t → H.size ≤ H1.size → (∀ q : Nat, q < H.size → ¬ AX q → H1[q]? = H[q]?) → va_S A0 H0 H1 locs1 → H1[q9]? = some ce → ce.vm = .none → s.vm.findClass E = some ce.cls → vx_W p l e R s m args below meth c H1 locs1 (cells + mc) (slots + ms) Q (F0 m pc ls rest) q9)
    (kk : ∀ (r : UInt64) (u : S) (t : State) (H1 : Heap) (locs1 : List Loc), t.heap = H1 → s.vm.Alike t.vm → post r u → B u t → H.size ≤ H1.size → (∀ q : Nat, q < H.size → ¬ A1 q → H1[q]? = H[q]?) → va_S A0 H0 H1 locs1 → W p l e R s m args below meth c H1 locs1 (cells + mc) (slots + ms) Q (F0 m (pc + 3) ls (.double r :: rest))) : W p l e R s m args below meth c H locs cells slots Q (F0 m pc ls st0) := by
  intro T hT X
  rcases hr T hT X with ⟨v, st₀, t, T', L, h0, X', hL, e1, e2, ⟨⟨r, u, hv, hp, hb⟩, hF⟩, st⟩ | ⟨q, st₀, t, T', L, E, ce, h0, X', hL, e1, e2, ⟨u, hp, hb, hF⟩, hce, hcv, hcl, st⟩
  · cases hv
    obtain ⟨k1, k2, k3⟩ := vx_keep h0 e1 hS hA hf hL hF
    obtain ⟨t2, a1, b1⟩ := kk r u t T'.heap (locs ++ L) e1.symm (by rw [← e2]; exact X'.warmed.alike) hp hb k1 k2 k3 T' rfl X'
    exact ⟨t2, st t2 a1, b1⟩
  · obtain ⟨k1, k2, k3⟩ := vx_keep h0 e1 hS hAX hf hL hF
    obtain ⟨t2, a1, b1⟩ := kx E ce q u t T'.heap (locs ++ L) e1.symm (by rw [← e2]; exact X'.warmed.alike) hp hb k1 k2 k3 (by rw [e1]; exact hce) hcv hcl T' rfl X'
    exact ⟨t2, st.trans a1, b1⟩
theorem vx_callv {S SX : Type} {post : S → Prop} {px : SX → Prop} {B : S → State → Prop} {BX : String → SX → State → Prop} {AX : Nat → Prop} (hr : vx_Run p l e R s m args below meth c H locs cells slots mc ms (F0 m pc ls st0) rest (va_Qv post B A1 a) (vx_X px BX AX) free) (hS : va_S A0 H0 H locs) (hA : ∀ q, q < H.size → A1 q → A0 q) (hf : ∀ q, free q → A0 q) (hAX : ∀ q, q < H.size → AX q → A0 q)
    (kx : ∀ (E : String) (ce : Cell) (q9 : Addr) (u : SX) (t : State) (H1 : Heap) (locs1 : List Loc), t.heap = H1 → s.vm.Alike t.vm → px u → BX E u t → H.size ≤ H1.size → (∀ q : Nat, q < H.size → ¬ AX q → H1[q]? = H[q]?) → va_S A0 H0 H1 locs1 → H1[q9]? = some ce → ce.vm = .none → s.vm.findClass E = some ce.cls → vx_W p l e R s m args below meth c H1 locs1 (cells + mc) (slots + ms) Q (F0 m pc ls rest) q9)
    (kk : ∀ (u : S) (t : State) (H1 : Heap) (locs1 : List Loc), t.heap = H1 → s.vm.Alike t.vm → post u → B u t → H.size ≤ H1.size → (∀ q : Nat, q < H.size → ¬ A1 q → H1[q]? = H[q]?) → va_S A0 H0 H1 locs1 → W p l e R s m args below meth c H1 locs1 (cells + mc) (slots + ms) Q (F0 m (pc + 3) ls (rest))) : W p l e R s m args below meth c H locs cells slots Q (F0 m pc ls st0) := by
  intro T hT X
  rcases hr T hT X with ⟨v, st₀, t, T', L, h0, X', hL, e1, e2, ⟨⟨u, hv, hp, hb⟩, hF⟩, st⟩ | ⟨q, st₀, t, T', L, E, ce, h0, X', hL, e1, e2, ⟨u, hp, hb, hF⟩, hce, hcv, hcl, st⟩
  · cases hv
    obtain ⟨k1, k2, k3⟩ := vx_keep h0 e1 hS hA hf hL hF
    obtain ⟨t2, a1, b1⟩ := kk u t T'.heap (locs ++ L) e1.symm (by rw [← e2]; exact X'.warmed.alike) hp hb k1 k2 k3 T' rfl X'
    exact ⟨t2, st t2 a1, b1⟩
  · obtain ⟨k1, k2, k3⟩ := vx_keep h0 e1 hS hAX hf hL hF
    obtain ⟨t2, a1, b1⟩ := kx E ce q u t T'.heap (locs ++ L) e1.symm (by rw [← e2]; exact X'.warmed.alike) hp hb k1 k2 k3 (by rw [e1]; exact hce) hcv hcl T' rfl X'
    exact ⟨t2, st.trans a1, b1⟩
/-- caught by the row x of this method's table; the rows ahead don't take it -/
theorem vx_catch {own name : String} {E : String} {ce : Cell} {q : Addr} (hown : s.vm.findClass own = some m.cls) (pre : List ExceptionTableEntry) (x : ExceptionTableEntry) (suf : List ExceptionTableEntry) (hsplit : c.exceptionTable.toList = pre ++ x :: suf)
    (hpass : ∀ z ∈ pre, covers z pc = false ∨ (z.catchType ≠ 0 ∧ ∃ nm : String, (Cond.classLink own z.catchType nm).before args s = true ∧ va_Nc E nm s)) (hx : covers x pc = true) (h0 : x.catchType ≠ 0)
    (hlink : (Cond.classLink own x.catchType name).before args s = true) (hcast : (Cond.castable E name).before args s = true) (hcell : H[q]? = some ce) (hv : ce.vm = .none) (hcl : s.vm.findClass E = some ce.cls)
    (kk : W p l e R s m args below meth c H locs cells slots Q (F0 m x.handlerPc ls [.ref q])) : vx_W p l e R s m args below meth c H locs cells slots Q (F0 m pc ls rest) q := by
  intro T hT X
  have hpl : e.platform.magicAccessors = ({} : Platform).magicAccessors := by rw [X.admits.platform]
  obtain ⟨c3, c4, hc3, hc4, hasg⟩ := Cond.castable_spec hcast
  cases Option.some.inj (hc3.symm.trans hcl)
  obtain ⟨c5, hc5, hcl5⟩ := Cond.classLink_spec hown hlink e.platform hpl
  cases Option.some.inj (hc4.symm.trans hc5)
  obtain ⟨vm', X', st⟩ := X.thenCaughtThrough q (g := F0 m pc ls rest) rfl (Steps.refl _) (by rw [hT]; exact hcell) (by rw [hv]; rfl) (by obtain ⟨k9, h9, -⟩ := Vm.findClass_spec hcl; exact ⟨k9, h9⟩) pre x suf hsplit
    (fun z hz => by
      rcases hpass z hz with h | ⟨hz0, nm, hl1, hn1⟩
      · exact Or.inl h
      · obtain ⟨c6, hc6, hcl6⟩ := Cond.classLink_spec hown hl1 e.platform hpl
        obtain ⟨a8, b8, h1, h2, h3⟩ := hn1
        cases Option.some.inj (h1.symm.trans hcl)
        cases Option.some.inj (h2.symm.trans hc6)
        exact Or.inr ⟨hz0, _, hcl6, h3⟩) hx (Or.inr ⟨h0, c4, hcl5, hasg⟩)
  obtain ⟨t, a1, b1⟩ := kk (T.setVm vm') hT X'
  exact ⟨t, st.trans a1, b1⟩
end Rows
section Ends
variable {p : Program} {l : Launch} {e : Env} {R : Room} {s : State} {m : MethodId} {args : Array Value} {below : List Frame} {meth : Method} {c : Code} {H : Heap} {locs : List Loc} {cells slots : Nat} {Q : State → Prop}
variable {mc ms : Nat} {free : Addr → Prop} {A0 A1 : Nat → Prop} {H0 : Heap} {a : Array Value} {ls : Array Slot} {st0 rest : List Value}
variable {Qc : Array Value → State → Outcome → State → Prop} {XC : String → State → State → Prop}
/-- what a body that may throw owes at its end -/
def vx_MQ (below : List Frame) (Qc : Array Value → State → Outcome → State → Prop) (XC : String → State → State → Prop) (a : Array Value) (s : State) (mc ms : Nat) (free : Addr → Prop) : State → Prop := fun t =>
  ∃ o, t.status = .running ∧ Ended t below o ∧ vx_Q Qc XC mc ms free a s o t
theorem vx_ret {g : JFrame} {mc ms : Nat} (k : W p l e R s m args below meth c H locs cells slots (MQ below Qc args s mc ms free) g) : W p l e R s m args below meth c H locs cells slots (vx_MQ below Qc XC args s mc ms free) g := by
  intro T hT X
  obtain ⟨t, a1, o, b1, b2, b3, b4⟩ := k T hT X
  exact ⟨t, a1, o, b1, b2, Or.inl ⟨b3, b4⟩⟩
/-- not caught here: it goes on to the caller -/
theorem vx_widen {g : JFrame} {q : Addr} {k n : Nat} (h1 : cells ≤ k) (h2 : slots ≤ n) (kk : vx_W p l e R s m args below meth c H locs k n Q g q) : vx_W p l e R s m args below meth c H locs cells slots Q g q := fun T hT X => kk T hT (stand_widen X h1 h2)
theorem vx_out {pc : Nat} {E : String} {ce : Cell} {q : Addr} {mc ms : Nat} (hout : ∀ x ∈ c.exceptionTable.toList, covers x pc = false) (hlocks : meth.locks = false) (hcell : H[q]? = some ce) (hv : ce.vm = .none) (hcl : s.vm.findClass E = some ce.cls)
    (hx : ∀ t : State, t.heap = H → s.vm.Alike t.vm → XC E s t) (hf : ∀ z ∈ locs, free z.base) (hc : cells ≤ mc) (hs : slots ≤ ms) :
    vx_W p l e R s m args below meth c H locs cells slots (vx_MQ below Qc XC args s mc ms free) (F0 m pc ls rest) q := by
  intro T hT X
  obtain ⟨st1, hrun, hend, hW, hsm⟩ := X.leaveThrown q (g := F0 m pc ls rest) rfl rfl rfl hout hlocks
  have hcell9 : (T.setFrames (.throwing q :: below)).heap[q]? = some ce := by
    show T.heap[q]? = some ce
    rw [hT]; exact hcell
  exact ⟨_, st1, .threw q, hrun, hend, Or.inr ⟨q, rfl, E, ce, locs, hx _ hT hW.alike, hcell9, hv, hcl, hW, hsm.mono hc hs, hf⟩⟩
theorem vx_frame {U : State} {k n : Nat} (h : s.sameButNew ({ U with vm := s.vm } : State) locs k n) : s.heap.size ≤ U.heap.size ∧ ∀ q : Nat, q < s.heap.size → (∀ z ∈ locs, z.base ≠ q) → U.heap[q]? = s.heap[q]? := by
  obtain ⟨-, h2, -, -, -, h6⟩ := h
  refine ⟨h2, fun q hq hz => ?_⟩
  obtain ⟨c9, e1, e2, e3, e4⟩ := h6 q _ (Array.getElem?_eq_getElem hq)
  have hs : c9.slots = (s.heap[q]).slots := Array.ext_getElem? fun i => e4 i fun hm => hz _ hm rfl
  have h9 : c9 = s.heap[q] := by
    rw [hs] at e2
    exact e2
  have e5 : U.heap[q]? = some c9 := e1
  rw [e5, h9, Array.getElem?_eq_getElem hq]
/-- the words of a throw but the four that speak of the heap -/
def vx_no (w : Cond) : Bool := decide (w ≠ .isRef (.static Bundle.tN "UNASSIGNED_STACK" Bundle.steD)) && decide (w ≠ .isRef (.static Bundle.tN "SUPPRESSED_SENTINEL" Bundle.listD)) && decide (w ≠ .laysStatic Bundle.tN "UNASSIGNED_STACK" Bundle.steD) && decide (w ≠ .laysStatic Bundle.tN "SUPPRESSED_SENTINEL" Bundle.listD)
def vx_at0 (own : String) (ic : Nat) (X : String) (names : List String) : List Cond := (Bundle.ownAtoms0 own ic X names).filter vx_no
def vx_atS (own : String) (ic : Nat) (X : String) (names : List String) : List Cond := (Bundle.ownAtoms own ic X names).filter vx_no
/-- a word that the tables alone decide, or a good one -/
def vx_ot (w : Cond) : Bool := w.onTables || goodWord w
theorem vx_ot_at {args a' : Array Value} {s U : State} {w : Cond} (hW : s.WarmedH U.vm) (hvm : s.vm = U.vm) (hg : vx_ot w = true) (h : w.before args s = true) : w.before a' U = true := by
  simp only [vx_ot, Bool.or_eq_true] at hg
  rcases hg with hg | hg
  · exact va_tabs hg hvm h
  · exact word_at hW (good_of_word hg) h
/-- a list's words: the good ones out of the method's own list, the others by premises of their own -/
theorem vx_hat {args : Array Value} {s : State} {L B : List Cond} (h1 : ∀ w ∈ L.filter goodWord, w.before args s = true) (h2 : ∀ w ∈ L.filter (fun w => !goodWord w), w ∈ B) (h3 : ∀ w ∈ B, w.before args s = true) : ∀ w ∈ L, w.before args s = true := by
  intro w hw
  by_cases g : goodWord w = true
  · exact h1 w (List.mem_filter.mpr ⟨hw, g⟩)
  · refine h3 w (h2 w (List.mem_filter.mpr ⟨hw, ?_⟩))
    show (!goodWord w) = true
    cases hgw : goodWord w
    · rfl
    · exact absurd hgw g
theorem vx_c {args : Array Value} {s : State} {w : Cond} {B : List Cond} (h : w.before args s = true) (t : ∀ w ∈ B, w.before args s = true) : ∀ w' ∈ w :: B, w'.before args s = true := fun w' h' => (List.mem_cons.mp h').elim (fun e => by rw [e]; exact h) (t w')
theorem vx_n {args : Array Value} {s : State} : ∀ w ∈ ([] : List Cond), w.before args s = true := fun _ h => nomatch h
theorem vx_own {args : Array Value} {s : State} {L : List Cond} (h1 : ∀ w ∈ L.filter vx_no, w.before args s = true)
    (hU : (Cond.isRef (.static Bundle.tN "UNASSIGNED_STACK" Bundle.steD)).before args s = true) (hN : (Cond.isRef (.static Bundle.tN "SUPPRESSED_SENTINEL" Bundle.listD)).before args s = true)
    (lU : (Cond.laysStatic Bundle.tN "UNASSIGNED_STACK" Bundle.steD).before args s = true) (lN : (Cond.laysStatic Bundle.tN "SUPPRESSED_SENTINEL" Bundle.listD).before args s = true) : ∀ w ∈ L, w.before args s = true := by
  intro w hw
  by_cases e1 : w = .isRef (.static Bundle.tN "UNASSIGNED_STACK" Bundle.steD)
  · rw [e1]; exact hU
  · by_cases e2 : w = .isRef (.static Bundle.tN "SUPPRESSED_SENTINEL" Bundle.listD)
    · rw [e2]; exact hN
    · by_cases e3 : w = .laysStatic Bundle.tN "UNASSIGNED_STACK" Bundle.steD
      · rw [e3]; exact lU
      · by_cases e4 : w = .laysStatic Bundle.tN "SUPPRESSED_SENTINEL" Bundle.listD
        · rw [e4]; exact lN
        · exact h1 w (List.mem_filter.mpr ⟨hw, by unfold vx_no; rw [decide_eq_true e1, decide_eq_true e2, decide_eq_true e3, decide_eq_true e4]; rfl⟩)
/-- where a static field lies, its class's statics cell in H -/
def vx_L (C n d : String) (A : Nat → Prop) (U : State) (H : Heap) : Prop := ∃ (c : ClassId) (k : Class) (i : Nat) (f : Field) (a : Nat) (cell : Cell), U.vm.findClass C = some c ∧ U.fieldFound? C n d = some (c, k, i, f) ∧ f.isStatic = true ∧ k.statics = some a ∧ H[a]? = some cell ∧ cell.vm.isStatics = true ∧ cell.cls = c ∧ f.slot < cell.slots.size ∧ k.staticTypes[f.slot]? = some f.type ∧ ¬ A a
theorem vx_L.moved {C n d : String} {A : Nat → Prop} {u U : State} {H : Heap} (hvm : u.vm.Alike U.vm) (h : vx_L C n d A u H) : vx_L C n d A U H := by
  obtain ⟨c, k, i, f, a, cell, h1, h2, h3, h4, h5, h6, h7, h8, h9, h10⟩ := h
  obtain ⟨k', hi', he⟩ := State.fieldFound?_setVm hvm h2
  exact ⟨c, k', i, f, a, cell, by rw [hvm.findClass]; exact h1, hi', h3, by rw [he]; exact h4, h5, h6, h7, h8, by rw [he]; exact h9, h10⟩
theorem vx_L.kept {C n d : String} {A : Nat → Prop} {U : State} {H H1 : Heap} (h : vx_L C n d A U H) (hq : ∀ a : Nat, a < H.size → ¬ A a → H1[a]? = H[a]?) : vx_L C n d A U H1 := by
  obtain ⟨c, k, i, f, a, cell, h1, h2, h3, h4, h5, h6, h7, h8, h9, h10⟩ := h
  exact ⟨c, k, i, f, a, cell, h1, h2, h3, h4, by rw [hq a (Array.getElem?_eq_some_iff.mp h5).1 h10]; exact h5, h6, h7, h8, h9, h10⟩
theorem vx_L.narrow {C n d : String} {A B : Nat → Prop} {U : State} {H : Heap} (h : vx_L C n d A U H) (hAB : ∀ q, B q → A q) : vx_L C n d B U H := by
  obtain ⟨c, k, i, f, a, cell, h1, h2, h3, h4, h5, h6, h7, h8, h9, h10⟩ := h
  exact ⟨c, k, i, f, a, cell, h1, h2, h3, h4, h5, h6, h7, h8, h9, fun z => h10 (hAB _ z)⟩
theorem vx_L.word {C n d : String} {A : Nat → Prop} {s : State} {args : Array Value} (h : vx_L C n d A s s.heap) : (Cond.laysStatic C n d).before args s = true := by
  obtain ⟨c, k, i, f, a, cell, h1, h2, h3, h4, h5, h6, h7, h8, h9, -⟩ := h
  show (Cond.laysStatic C n d).holds args s none s [] = true
  exact Cond.laysStatic_of h1 h2 h3 h4 h5 h6 h7 h8 h9
/-- .. and what it holds: null or some reference -/
def vx_Zq (C n d : String) (A : Nat → Prop) (U : State) (H : Heap) : Prop := va_Zq C n d A U H ∧ vx_L C n d A U H
theorem vx_Zq.moved {C n d : String} {A : Nat → Prop} {u U : State} {H : Heap} (hvm : u.vm.Alike U.vm) (h : vx_Zq C n d A u H) : vx_Zq C n d A U H := ⟨va_Zq.moved hvm h.1, vx_L.moved hvm h.2⟩
theorem vx_Zq.kept {C n d : String} {A : Nat → Prop} {U : State} {H H1 : Heap} (h : vx_Zq C n d A U H) (hq : ∀ a : Nat, a < H.size → ¬ A a → H1[a]? = H[a]?) : vx_Zq C n d A U H1 := ⟨va_Zq.kept h.1 hq, vx_L.kept h.2 hq⟩
theorem vx_Zq.narrow {C n d : String} {A B : Nat → Prop} {U : State} {H : Heap} (h : vx_Zq C n d A U H) (hAB : ∀ q, B q → A q) : vx_Zq C n d B U H := ⟨va_Zq.narrow h.1 hAB, vx_L.narrow h.2 hAB⟩
theorem vx_Zqof {args : Array Value} {s : State} {C n d : String} {A : Nat → Prop} (hl : (Cond.laysStatic C n d).before args s = true) (hini : (Cond.initialized C).before args s = true) (h : (Cond.isRef (.static C n d)).before args s = true) (hA : ∀ a : Nat, a < s.heap.size → ¬ A a) : vx_Zq C n d A s s.heap := by
  refine ⟨va_Zqof hl hini h hA, ?_⟩
  obtain ⟨c, k, i, f, a, cell, h1, h2, h3, h4, h5, h6, h7, h8, h9⟩ := Cond.laysStatic_spec hl
  exact ⟨c, k, i, f, a, cell, h1, h2, h3, h4, h5, h6, h7, h8, h9, hA a (Array.getElem?_eq_some_iff.mp h5).1⟩
theorem vx_isRef {C n d : String} {v : Value} {A : Nat → Prop} {s : State} {args : Array Value} (h : va_Z C n d v A s s.heap) (hv : v.isRef = true) : (Cond.isRef (.static C n d)).before args s = true := by
  obtain ⟨cf, kf, fi, f, a, cell, h1, h2, h3, h4, h5, h6, h7, -⟩ := h
  have he : (Term.static C n d).eval args s none [] s = some v := by
    simp [Term.eval, State.fieldNamed?, h1, h2, h4, h5, h6, h7]
  simp only [Cond.before, Cond.holds, Cond.value, he]
  cases v <;> simp_all [Value.isRef]
theorem vx_isRefq {C n d : String} {A : Nat → Prop} {s : State} {args : Array Value} (h : va_Zq C n d A s s.heap) : (Cond.isRef (.static C n d)).before args s = true := by
  rcases h with h | ⟨t, h⟩
  · exact vx_isRef h rfl
  · exact vx_isRef h rfl
/-- the same frame, seen from here: as if the method were called anew in this heap -/
theorem vx_rebase {T : State} (X : Stand p l e R s m args below meth c T locs cells slots) {R' : Room} (hf : R'.frames ≤ R.frames) (hl : R'.locals ≤ R.locals) (hc : cells + R'.cells ≤ R.cells) (hs : slots + R'.slots ≤ R.slots) :
    Stand p l e R' ((T.setVm s.vm).setFrames (.invoking m args :: below)) m args below meth c T [] 0 0 := by
  have htop : (T.setVm s.vm).topJava?.isSome := X.here.top
  have hF : ((T.setVm s.vm).setFrames (.invoking m args :: below)).frames = .invoking m args :: below := State.frames_setFrames _ (State.cur_lt_of_top htop)
  obtain ⟨g₀, hg0⟩ := Option.isSome_iff_exists.mp htop
  obtain ⟨r, hr⟩ := State.topJava?_eq_some.mp hg0
  have hl9 : e.platform.stackLimits (T.setVm s.vm).me = e.platform.stackLimits s.me := X.limits
  have hb9 : (T.setVm s.vm).me.stackBytes = s.me.stackBytes := X.bytes
  refine ⟨X.admits, X.cas, X.clock, hF, ?_, X.hears, X.method, X.code, X.here, X.tail, X.warmed, ?_, ?_, ?_⟩
  · have h := X.room
    have hU : ((T.setVm s.vm).setFrames (.invoking m args :: below)).localsInUse = s.localsInUse := by
      rw [State.localsInUse_invoking hF (meth := meth) (c := c) X.method X.code, State.localsInUse_invoking X.frames X.method X.code]
    simp only [State.hasRoom, Bool.and_eq_true, decide_eq_true_eq] at h ⊢
    obtain ⟨⟨⟨⟨h1, h2, h3, h4, h5, h6⟩, h7⟩, h8⟩, h9⟩ := h
    rw [X.frames, List.length_cons] at h2 h3
    have q1 := X.heapSize
    have q2 := X.used
    simp only [hF, hU, List.length_cons, State.stackLimits_setFrames, State.stackBytes_setFrames, hl9, hb9]
    refine ⟨⟨⟨⟨by omega, by omega, by omega, by omega, by omega, h6⟩, ?_⟩, ?_⟩, X.book⟩
    · show T.heap.size + R'.cells ≤ e.platform.maxCells
      omega
    · show T.slotsUsed + R'.slots ≤ e.platform.maxSlots
      omega
  · rw [State.stackLimits_setFrames]; rfl
  · rw [State.stackBytes_setFrames]; rfl
  · refine ⟨?_, Nat.le_refl _, Nat.le_refl _, ?_, ?_, fun a c9 h9 => ⟨c9, h9, rfl, rfl, fun _ _ => rfl⟩⟩
    · obtain ⟨t, ht, -⟩ := State.frames_cons hr
      show T.setVm s.vm = { ((T.setVm s.vm).setFrames (.invoking m args :: below)).setFrames (T.setVm s.vm).frames with heap := T.heap, slotsUsed := T.slotsUsed }
      rw [State.setFrames_setFrames, State.setFrames_self ht]
      rfl
    · show T.slotsUsed = T.slotsUsed + ((T.heap.toList.drop T.heap.size).map (·.slots.size)).sum
      rw [List.drop_eq_nil_of_le (Nat.le_of_eq Array.length_toList)]
      rfl
    · show ((T.heap.toList.drop T.heap.size).map (·.slots.size)).sum ≤ 0
      rw [List.drop_eq_nil_of_le (Nat.le_of_eq Array.length_toList)]
      exact Nat.le_refl _
/-- 'throw new E()': new; dup; invokespecial; athrow -/
theorem vx_throw0 {cc : ByteArray} {pc : Nat} (hexec : p.tables.exec = Jvm.exec) (hb : c.code = cc) (hl : l.stackTraces = false) {own cls : String} {names : List String} {ik ic mc ms : Nat} {A : Nat → Prop}
    (hown : s.vm.findClass own = some m.cls) (hcls : Bundle.fit cls = true) (hnames : ∀ n ∈ names, Bundle.fit n = true)
    (hk : (Cond.classLink own ik cls).before args s = true) (hini : (Cond.initialized cls).before args s = true) (hat : ∀ w ∈ vx_at0 own ic cls names, w.before args s = true)
    (hgood : ∀ w ∈ Cond.classLink own ik cls :: Cond.initialized cls :: vx_at0 own ic cls names, vx_ot w = true)
    (hU : vx_Zq Bundle.tN "UNASSIGNED_STACK" Bundle.steD A s s.heap) (hN : vx_Zq Bundle.tN "SUPPRESSED_SENTINEL" Bundle.listD A s s.heap) (hS : va_S A s.heap H locs) (hsize : ls.size = c.maxLocals)
    (d0 : decode cc pc = .ok (.new ik, 3)) (d3 : decode cc (pc + 3) = .ok (.dup, 1)) (d4 : decode cc (pc + 4) = .ok (.invokespecial ic, 3)) (d7 : decode cc (pc + 7) = .ok (.athrow, 1))
    (hout : ∀ x ∈ c.exceptionTable.toList, covers x (pc + 7) = false)
    (hRframes : names.length + 3 < R.frames) (hRlocals : (rest.map fun v => v.category).sum + (13 * (names.length + 1) + 42) ≤ R.locals) (hRcells : cells + 1 ≤ R.cells) (hRslots : slots + 6 ≤ R.slots) (hlocks : meth.locks = false)
    (hx : ∀ t : State, s.vm.Alike t.vm → H.size ≤ t.heap.size → (∀ q : Nat, q < H.size → t.heap[q]? = H[q]?) → XC cls s t)
    (hf : ∀ z ∈ locs, free z.base) (hc : cells + 1 ≤ mc) (hs : slots + 6 ≤ ms) :
    W p l e R s m args below meth c H locs cells slots (vx_MQ below Qc XC args s mc ms free) (F0 m pc ls rest) := by
  intro T hT X
  have htr : e.platform.stackTraces = false := (show e.platform.stackTraces = l.stackTraces by rw [X.admits.platform]).trans hl
  have Y := vx_rebase X (R' := { frames := R.frames, locals := R.locals, cells := 1, slots := 6 }) (Nat.le_refl _) (Nat.le_refl _) hRcells hRslots
  obtain ⟨s', hA⟩ : ∃ z, z = (T.setVm s.vm).setFrames (.invoking m args :: below) := ⟨_, rfl⟩
  rw [← hA] at Y
  have hvm : s'.vm = s.vm := by rw [hA]; rfl
  have hhp : s'.heap = H := by rw [hA]; exact hT
  have hW0 : s.WarmedH s'.vm := by rw [hvm]; exact State.WarmedH.refl s
  have hat' : ∀ w ∈ vx_at0 own ic cls names, w.before args s' = true := fun w hw => vx_ot_at hW0 hvm.symm (hgood w (List.mem_cons_of_mem _ (List.mem_cons_of_mem _ hw))) (hat w hw)
  have hk' : (Cond.classLink own ik cls).before args s' = true := vx_ot_at hW0 hvm.symm (hgood _ List.mem_cons_self) hk
  have hini' : (Cond.initialized cls).before args s' = true := vx_ot_at hW0 hvm.symm (hgood _ (List.mem_cons_of_mem _ List.mem_cons_self)) hini
  have hU' : vx_Zq Bundle.tN "UNASSIGNED_STACK" Bundle.steD A s' s'.heap := by rw [hhp]; exact vx_Zq.moved hW0.alike (hU.kept hS.2.1)
  have hN' : vx_Zq Bundle.tN "SUPPRESSED_SENTINEL" Bundle.listD A s' s'.heap := by rw [hhp]; exact vx_Zq.moved hW0.alike (hN.kept hS.2.1)
  have h : ∀ w ∈ Bundle.ownAtoms0 own ic cls names, w.before args s' = true := vx_own hat' (vx_isRefq hU'.1) (vx_isRefq hN'.1) hU'.2.word hN'.2.word
  have hown' : s'.vm.findClass own = some m.cls := by rw [hvm]; exact hown
  have hins : (Cond.instantiable cls 6).before args s' = true := h _ (by simp [Bundle.ownAtoms0])
  obtain ⟨vm₁, cX, kX, hfX, hkX, -, -, X₁, st1⟩ := Y.newCold hexec (own := own) (C := cls) (index := ik) (n := 6) hown' hk' hins hini'
    (g := F0 m pc ls rest) rfl (by rw [hb]; exact d0) (Nat.le_refl _) (Nat.le_refl _)
  generalize hT1 : (T.setVm vm₁).pushCell { cls := cX, slots := kX.instanceTypes.map defaultValue, vm := .none } = T1 at X₁ st1
  have hcat : (Value.ref T.heap.size).category = 1 := rfl
  have hcellA : T1.heap[T.heap.size]? = some (freshCell cX kX) := by rw [← hT1]; exact State.heap_pushCell_size _ _
  have d3' : decode c.code (pc + 3) = .ok (.dup, 1) := by rw [hb]; exact d3
  obtain ⟨U, hsteps, hrun, hend, hW, hsame, ce, hce, hO⟩ := X₁.ctorThrow0 hexec htr (own := own) (cls := cls) (names := names) (ic := ic) hown' hcls hnames h (fun x hx => nomatch hx) hfX hkX hcellA (by rw [hhp, hT]; exact Nat.le_refl _)
    (g := { method := m, pc := pc + 4, locals := ls, stack := .ref T.heap.size :: .ref T.heap.size :: rest, locked := none }) rfl hsize rfl rfl (rest := rest) rfl
    (by rw [hb]; exact d4) (by rw [hb]; exact d7) hout hRframes (by simp only [List.map_cons, List.sum_cons, hcat]; omega) hlocks
  obtain ⟨f1, f2⟩ := vx_frame hsame
  rw [hhp] at f1 f2
  have hWs : s.WarmedH U.vm := State.WarmedH.trans hW0 hW
  have hcl : s.vm.findClass cls = some ce.cls := by
    have h9 := hO.cls
    rw [hvm] at h9
    exact h9
  have hall : s.sameButNew ({ U with vm := s.vm } : State) locs mc ms := by
    subst hA
    obtain ⟨e1, e2⟩ := hsame
    rw [State.setFrames_setFrames] at e1
    have h2 : (T.setVm s.vm).sameButNew ({ U with vm := s.vm } : State) [] (0 + 1) (0 + 6) := ⟨e1, e2⟩
    have h3 := X.same.trans h2
    rw [List.append_nil] at h3
    exact h3.mono hc hs
  refine ⟨U, ?_, .threw T.heap.size, hrun, hend, Or.inr ⟨T.heap.size, rfl, cls, ce, locs, hx U hWs.alike f1 (fun q hq => f2 q hq (fun z hz => nomatch hz)), hce, hO.vm, hcl, hWs, hall, hf⟩⟩
  refine st1 _ ?_
  show Steps p.tables e below (T1.setTop { method := m, pc := pc + 3, locals := ls, stack := .ref T.heap.size :: rest, locked := none }) _
  jvm_step X₁.here [X₁.here.top, hexec, d3', Value.category]
  exact hsteps
/-- 'throw new E("text")': new; dup; ldc; invokespecial; athrow -/
theorem vx_throwS {cc : ByteArray} {pc : Nat} (hexec : p.tables.exec = Jvm.exec) (hb : c.code = cc) (hl : l.stackTraces = false) {own cls text : String} {names : List String} {ik is ic mc ms sa : Nat} {A : Nat → Prop}
    (hown : s.vm.findClass own = some m.cls) (hcls : Bundle.fit cls = true) (hnames : ∀ n ∈ names, Bundle.fit n = true)
    (hk : (Cond.classLink own ik cls).before args s = true) (hini : (Cond.initialized cls).before args s = true) (hstr : vk_R own is text sa s) (hat : ∀ w ∈ vx_atS own ic cls names, w.before args s = true)
    (hgood : ∀ w ∈ Cond.classLink own ik cls :: Cond.initialized cls :: vx_atS own ic cls names, vx_ot w = true)
    (hU : vx_Zq Bundle.tN "UNASSIGNED_STACK" Bundle.steD A s s.heap) (hN : vx_Zq Bundle.tN "SUPPRESSED_SENTINEL" Bundle.listD A s s.heap) (hS : va_S A s.heap H locs) (hsize : ls.size = c.maxLocals)
    (d0 : decode cc pc = .ok (.new ik, 3)) (d3 : decode cc (pc + 3) = .ok (.dup, 1)) (d4 : decode cc (pc + 4) = .ok (.ldc is, 2)) (d6 : decode cc (pc + 6) = .ok (.invokespecial ic, 3)) (d9 : decode cc (pc + 9) = .ok (.athrow, 1))
    (hout : ∀ x ∈ c.exceptionTable.toList, covers x (pc + 9) = false)
    (hRframes : names.length + 3 < R.frames) (hRlocals : (rest.map fun v => v.category).sum + (13 * (names.length + 1) + 43) ≤ R.locals) (hRcells : cells + 1 ≤ R.cells) (hRslots : slots + 6 ≤ R.slots) (hlocks : meth.locks = false)
    (hx : ∀ t : State, s.vm.Alike t.vm → H.size ≤ t.heap.size → (∀ q : Nat, q < H.size → t.heap[q]? = H[q]?) → XC cls s t)
    (hf : ∀ z ∈ locs, free z.base) (hc : cells + 1 ≤ mc) (hs : slots + 6 ≤ ms) :
    W p l e R s m args below meth c H locs cells slots (vx_MQ below Qc XC args s mc ms free) (F0 m pc ls rest) := by
  intro T hT X
  have htr : e.platform.stackTraces = false := (show e.platform.stackTraces = l.stackTraces by rw [X.admits.platform]).trans hl
  have Y := vx_rebase X (R' := { frames := R.frames, locals := R.locals, cells := 1, slots := 6 }) (Nat.le_refl _) (Nat.le_refl _) hRcells hRslots
  obtain ⟨s', hA⟩ : ∃ z, z = (T.setVm s.vm).setFrames (.invoking m args :: below) := ⟨_, rfl⟩
  rw [← hA] at Y
  have hvm : s'.vm = s.vm := by rw [hA]; rfl
  have hhp : s'.heap = H := by rw [hA]; exact hT
  have hW0 : s.WarmedH s'.vm := by rw [hvm]; exact State.WarmedH.refl s
  have hat' : ∀ w ∈ vx_atS own ic cls names, w.before args s' = true := fun w hw => vx_ot_at hW0 hvm.symm (hgood w (List.mem_cons_of_mem _ (List.mem_cons_of_mem _ hw))) (hat w hw)
  have hk' : (Cond.classLink own ik cls).before args s' = true := vx_ot_at hW0 hvm.symm (hgood _ List.mem_cons_self) hk
  have hini' : (Cond.initialized cls).before args s' = true := vx_ot_at hW0 hvm.symm (hgood _ (List.mem_cons_of_mem _ List.mem_cons_self)) hini
  have hU' : vx_Zq Bundle.tN "UNASSIGNED_STACK" Bundle.steD A s' s'.heap := by rw [hhp]; exact vx_Zq.moved hW0.alike (hU.kept hS.2.1)
  have hN' : vx_Zq Bundle.tN "SUPPRESSED_SENTINEL" Bundle.listD A s' s'.heap := by rw [hhp]; exact vx_Zq.moved hW0.alike (hN.kept hS.2.1)
  have h : ∀ w ∈ Bundle.ownAtoms own ic cls names, w.before args s' = true := vx_own hat' (vx_isRefq hU'.1) (vx_isRefq hN'.1) hU'.2.word hN'.2.word
  have hown' : s'.vm.findClass own = some m.cls := by rw [hvm]; exact hown
  have hins : (Cond.instantiable cls 6).before args s' = true := h _ (by simp [Bundle.ownAtoms])
  obtain ⟨vm₁, cX, kX, hfX, hkX, -, -, X₁, st1⟩ := Y.newCold hexec (own := own) (C := cls) (index := ik) (n := 6) hown' hk' hins hini'
    (g := F0 m pc ls rest) rfl (by rw [hb]; exact d0) (Nat.le_refl _) (Nat.le_refl _)
  generalize hT1 : (T.setVm vm₁).pushCell { cls := cX, slots := kX.instanceTypes.map defaultValue, vm := .none } = T1 at X₁ st1
  have hcat : (Value.ref T.heap.size).category = 1 := rfl
  have hcellA : T1.heap[T.heap.size]? = some (freshCell cX kX) := by rw [← hT1]; exact State.heap_pushCell_size _ _
  have d3' : decode c.code (pc + 3) = .ok (.dup, 1) := by rw [hb]; exact d3
  have d4' : decode c.code (pc + 4) = .ok (.ldc is, 2) := by rw [hb]; exact d4
  have hstr' : vk_R own is text sa s' := vk_R.warm hW0 hstr
  obtain ⟨U, hsteps, hrun, hend, hW, hsame, ce, hce, hO⟩ := X₁.ctorThrowS hexec htr (own := own) (cls := cls) (names := names) (ic := ic) hown' hcls hnames h (fun x hx => nomatch hx) hfX hkX hcellA (by rw [hhp, hT]; exact Nat.le_refl _) (msg := .ref sa) rfl
    (g := { method := m, pc := pc + 6, locals := ls, stack := .ref sa :: .ref T.heap.size :: .ref T.heap.size :: rest, locked := none }) rfl hsize rfl rfl (rest := rest) rfl
    (by rw [hb]; exact d6) (by rw [hb]; exact d9) hout hRframes (by simp only [List.map_cons, List.sum_cons, hcat]; omega) hlocks
  obtain ⟨f1, f2⟩ := vx_frame hsame
  rw [hhp] at f1 f2
  have hWs : s.WarmedH U.vm := State.WarmedH.trans hW0 hW
  have hcl : s.vm.findClass cls = some ce.cls := by
    have h9 := hO.cls
    rw [hvm] at h9
    exact h9
  have hall : s.sameButNew ({ U with vm := s.vm } : State) locs mc ms := by
    subst hA
    obtain ⟨e1, e2⟩ := hsame
    rw [State.setFrames_setFrames] at e1
    have h2 : (T.setVm s.vm).sameButNew ({ U with vm := s.vm } : State) [] (0 + 1) (0 + 6) := ⟨e1, e2⟩
    have h3 := X.same.trans h2
    rw [List.append_nil] at h3
    exact h3.mono hc hs
  refine ⟨U, ?_, .threw T.heap.size, hrun, hend, Or.inr ⟨T.heap.size, rfl, cls, ce, locs, hx U hWs.alike f1 (fun q hq => f2 q hq (fun z hz => nomatch hz)), hce, hO.vm, hcl, hWs, hall, hf⟩⟩
  refine st1 _ ?_
  show Steps p.tables e below (T1.setTop { method := m, pc := pc + 3, locals := ls, stack := .ref T.heap.size :: rest, locked := none }) _
  jvm_step X₁.here [X₁.here.top, hexec, d3', Value.category]
  exact X₁.ldcString hexec (own := own) (text := text) (index := is) (a := sa) hown' hstr'.1 hstr'.2
    (g := { method := m, pc := pc + 4, locals := ls, stack := .ref T.heap.size :: .ref T.heap.size :: rest, locked := none }) rfl d4' _ hsteps
/-- 'throw new E("text")', the text by a wide index -/
theorem vx_throwSW {cc : ByteArray} {pc : Nat} (hexec : p.tables.exec = Jvm.exec) (hb : c.code = cc) (hl : l.stackTraces = false) {own cls text : String} {names : List String} {ik is ic mc ms sa : Nat} {A : Nat → Prop}
    (hown : s.vm.findClass own = some m.cls) (hcls : Bundle.fit cls = true) (hnames : ∀ n ∈ names, Bundle.fit n = true)
    (hk : (Cond.classLink own ik cls).before args s = true) (hini : (Cond.initialized cls).before args s = true) (hstr : vk_R own is text sa s) (hat : ∀ w ∈ vx_atS own ic cls names, w.before args s = true)
    (hgood : ∀ w ∈ Cond.classLink own ik cls :: Cond.initialized cls :: vx_atS own ic cls names, vx_ot w = true)
    (hU : vx_Zq Bundle.tN "UNASSIGNED_STACK" Bundle.steD A s s.heap) (hN : vx_Zq Bundle.tN "SUPPRESSED_SENTINEL" Bundle.listD A s s.heap) (hS : va_S A s.heap H locs) (hsize : ls.size = c.maxLocals)
    (d0 : decode cc pc = .ok (.new ik, 3)) (d3 : decode cc (pc + 3) = .ok (.dup, 1)) (d4 : decode cc (pc + 4) = .ok (.ldc_w is, 3)) (d7 : decode cc (pc + 7) = .ok (.invokespecial ic, 3)) (d10 : decode cc (pc + 10) = .ok (.athrow, 1))
    (hout : ∀ x ∈ c.exceptionTable.toList, covers x (pc + 10) = false)
    (hRframes : names.length + 3 < R.frames) (hRlocals : (rest.map fun v => v.category).sum + (13 * (names.length + 1) + 43) ≤ R.locals) (hRcells : cells + 1 ≤ R.cells) (hRslots : slots + 6 ≤ R.slots) (hlocks : meth.locks = false)
    (hx : ∀ t : State, s.vm.Alike t.vm → H.size ≤ t.heap.size → (∀ q : Nat, q < H.size → t.heap[q]? = H[q]?) → XC cls s t)
    (hf : ∀ z ∈ locs, free z.base) (hc : cells + 1 ≤ mc) (hs : slots + 6 ≤ ms) :
    W p l e R s m args below meth c H locs cells slots (vx_MQ below Qc XC args s mc ms free) (F0 m pc ls rest) := by
  intro T hT X
  have htr : e.platform.stackTraces = false := (show e.platform.stackTraces = l.stackTraces by rw [X.admits.platform]).trans hl
  have Y := vx_rebase X (R' := { frames := R.frames, locals := R.locals, cells := 1, slots := 6 }) (Nat.le_refl _) (Nat.le_refl _) hRcells hRslots
  obtain ⟨s', hA⟩ : ∃ z, z = (T.setVm s.vm).setFrames (.invoking m args :: below) := ⟨_, rfl⟩
  rw [← hA] at Y
  have hvm : s'.vm = s.vm := by rw [hA]; rfl
  have hhp : s'.heap = H := by rw [hA]; exact hT
  have hW0 : s.WarmedH s'.vm := by rw [hvm]; exact State.WarmedH.refl s
  have hat' : ∀ w ∈ vx_atS own ic cls names, w.before args s' = true := fun w hw => vx_ot_at hW0 hvm.symm (hgood w (List.mem_cons_of_mem _ (List.mem_cons_of_mem _ hw))) (hat w hw)
  have hk' : (Cond.classLink own ik cls).before args s' = true := vx_ot_at hW0 hvm.symm (hgood _ List.mem_cons_self) hk
  have hini' : (Cond.initialized cls).before args s' = true := vx_ot_at hW0 hvm.symm (hgood _ (List.mem_cons_of_mem _ List.mem_cons_self)) hini
  have hU' : vx_Zq Bundle.tN "UNASSIGNED_STACK" Bundle.steD A s' s'.heap := by rw [hhp]; exact vx_Zq.moved hW0.alike (hU.kept hS.2.1)
  have hN' : vx_Zq Bundle.tN "SUPPRESSED_SENTINEL" Bundle.listD A s' s'.heap := by rw [hhp]; exact vx_Zq.moved hW0.alike (hN.kept hS.2.1)
  have h : ∀ w ∈ Bundle.ownAtoms own ic cls names, w.before args s' = true := vx_own hat' (vx_isRefq hU'.1) (vx_isRefq hN'.1) hU'.2.word hN'.2.word
  have hown' : s'.vm.findClass own = some m.cls := by rw [hvm]; exact hown
  have hins : (Cond.instantiable cls 6).before args s' = true := h _ (by simp [Bundle.ownAtoms])
  obtain ⟨vm₁, cX, kX, hfX, hkX, -, -, X₁, st1⟩ := Y.newCold hexec (own := own) (C := cls) (index := ik) (n := 6) hown' hk' hins hini'
    (g := F0 m pc ls rest) rfl (by rw [hb]; exact d0) (Nat.le_refl _) (Nat.le_refl _)
  generalize hT1 : (T.setVm vm₁).pushCell { cls := cX, slots := kX.instanceTypes.map defaultValue, vm := .none } = T1 at X₁ st1
  have hcat : (Value.ref T.heap.size).category = 1 := rfl
  have hcellA : T1.heap[T.heap.size]? = some (freshCell cX kX) := by rw [← hT1]; exact State.heap_pushCell_size _ _
  have d3' : decode c.code (pc + 3) = .ok (.dup, 1) := by rw [hb]; exact d3
  have d4' : decode c.code (pc + 4) = .ok (.ldc_w is, 3) := by rw [hb]; exact d4
  have hstr' : vk_R own is text sa s' := vk_R.warm hW0 hstr
  obtain ⟨U, hsteps, hrun, hend, hW, hsame, ce, hce, hO⟩ := X₁.ctorThrowS hexec htr (own := own) (cls := cls) (names := names) (ic := ic) hown' hcls hnames h (fun x hx => nomatch hx) hfX hkX hcellA (by rw [hhp, hT]; exact Nat.le_refl _) (msg := .ref sa) rfl
    (g := { method := m, pc := pc + 7, locals := ls, stack := .ref sa :: .ref T.heap.size :: .ref T.heap.size :: rest, locked := none }) rfl hsize rfl rfl (rest := rest) rfl
    (by rw [hb]; exact d7) (by rw [hb]; exact d10) hout hRframes (by simp only [List.map_cons, List.sum_cons, hcat]; omega) hlocks
  obtain ⟨f1, f2⟩ := vx_frame hsame
  rw [hhp] at f1 f2
  have hWs : s.WarmedH U.vm := State.WarmedH.trans hW0 hW
  have hcl : s.vm.findClass cls = some ce.cls := by
    have h9 := hO.cls
    rw [hvm] at h9
    exact h9
  have hall : s.sameButNew ({ U with vm := s.vm } : State) locs mc ms := by
    subst hA
    obtain ⟨e1, e2⟩ := hsame
    rw [State.setFrames_setFrames] at e1
    have h2 : (T.setVm s.vm).sameButNew ({ U with vm := s.vm } : State) [] (0 + 1) (0 + 6) := ⟨e1, e2⟩
    have h3 := X.same.trans h2
    rw [List.append_nil] at h3
    exact h3.mono hc hs
  refine ⟨U, ?_, .threw T.heap.size, hrun, hend, Or.inr ⟨T.heap.size, rfl, cls, ce, locs, hx U hWs.alike f1 (fun q hq => f2 q hq (fun z hz => nomatch hz)), hce, hO.vm, hcl, hWs, hall, hf⟩⟩
  refine st1 _ ?_
  show Steps p.tables e below (T1.setTop { method := m, pc := pc + 3, locals := ls, stack := .ref T.heap.size :: rest, locked := none }) _
  jvm_step X₁.here [X₁.here.top, hexec, d3', Value.category]
  exact X₁.ldcStringW hexec (own := own) (text := text) (index := is) (a := sa) hown' hstr'.1 hstr'.2
    (g := { method := m, pc := pc + 4, locals := ls, stack := .ref T.heap.size :: .ref T.heap.size :: rest, locked := none }) rfl d4' _ hsteps
end Ends
section Bodies
variable {l : Launch}
theorem vx_ofW {y : MethodName} {ws ws' : List Cond} {rm : Room} {Pc : Array Value → State → Prop} {Qc : Array Value → State → Outcome → State → Prop} {XC : String → State → State → Prop} {mc ms : Nat} {free : Addr → Prop} {cc : ByteArray} {maxL : Nat} {ret : Option FieldType}
    (hy : plainName y.cls = true) (hw : ws = Cond.code y cc maxL ret :: ws')
    (body : ∀ p e s m args below meth c s₁, BodyLoose p l y (headSpec ws rm) cc maxL ret e s m args below meth c s₁ → c.maxLocals = maxL → (∀ x ∈ c.exceptionTable.toList, False) → Pc args s →
      W p l e (headSpec ws rm).room s m args below meth c s.heap [] 0 0 (vx_MQ below Qc XC args s mc ms free) (entryFrame m args maxL)) : vx_Met l y ws rm Pc Qc XC mc ms free := by
  refine MetFree.of_bodyS (code := cc) (maxLocals := maxL) (ret := ret) hy ?_ ?_
  · intro args s m h hn
    obtain ⟨meth, c, h1, h2, h3, h4, h5, h6, -, -⟩ := Cond.code_spec hn (atoms_spec (ws := ws) h _ (by rw [hw]; exact List.mem_cons_self))
    exact ⟨meth, c, h1, h2, h3, h4, h5, h6⟩
  · intro p e s m args below meth c s₁ B hml hP _
    have hh0 : s₁.heap = s.heap := by rw [B.state]; rfl
    have ht : ∀ x ∈ c.exceptionTable.toList, False := by
      obtain ⟨meth9, c9, h1, h2, -, -, -, -, h7, -⟩ := Cond.code_spec B.named (atoms_spec (ws := ws) B.pre _ (by rw [hw]; exact List.mem_cons_self))
      cases Option.some.inj (h1.symm.trans B.method)
      cases Option.some.inj (h2.symm.trans (Stand.of_body B).code)
      intro x hx
      rw [Array.isEmpty_iff.mp h7] at hx
      cases hx
    obtain ⟨t, a1, o, b1, b2, b3⟩ := body p e s m args below meth c s₁ B hml ht hP s₁ hh0 (Stand.of_body B)
    exact ⟨t, o, a1, b1, b2, b3⟩
/-- the table of a body with handlers -/
theorem vx_table {p : Program} {x y : MethodName} {S : Spec} {cc bytes : ByteArray} {maxL maxL' : Nat} {ret ret' : Option FieldType} {e : Env} {s s₁ : State} {m : MethodId} {args : Array Value} {below : List Frame} {meth : Method} {c : Code} {hh : List (Nat × Nat × Nat × Nat)}
    (B : BodyLoose p l y S cc maxL ret e s m args below meth c s₁) (h : (Cond.codeWith y bytes maxL' ret' hh).before args s = true) : c.exceptionTable.toList = tableOf hh := by
  obtain ⟨m9, meth9, c9, hn9, h1, h2, -, -, h6, -⟩ := Cond.codeWith_spec h
  cases Option.some.inj (hn9.symm.trans B.named)
  cases Option.some.inj (h1.symm.trans B.method)
  cases Option.some.inj (h2.symm.trans (Stand.of_body B).code)
  rw [← h6, table_eq]
end Bodies
end VXA
/-! ===== END ===== -/
/-! ===== BEGIN a static call of a method with an exception table ===== -/
section VXS
variable {p : Program} {l : Launch} {e : Env} {R : Room} {s : State} {m : MethodId} {args : Array Value} {below : List Frame} {meth : Method} {c : Code} {T : State} {H : Heap} {locs : List Loc} {cells slots : Nat}
abbrev vx_CSW (R : Room) (s : State) (args : Array Value) (own : String) (index : Nat) (y : MethodName) (bytes : ByteArray) (maxL : Nat) (ret : Option FieldType) (hh : List (Nat × Nat × Nat × Nat)) (ws : List Cond) (rm : Room) (mc ms n : Nat) : Prop :=
  (rm.cells = mc ∧ rm.slots = ms ∧ rm.frames + 1 ≤ R.frames ∧ 8 + (maxL + 11) + rm.locals ≤ R.locals ∧ (∀ w ∈ ws, ∀ (a' : Array Value) (U : State), s.WarmedH U.vm → w.before a' U = true) ∧ Cond.codeWith y bytes maxL ret hh ∈ ws) ∧
  (Cond.codeWith y bytes maxL ret hh).before args s = true ∧ (Cond.initialized y.cls).before args s = true ∧ (y.cls ≠ "java/lang/invoke/MethodHandle" ∧ y.cls ≠ "java/lang/invoke/VarHandle") ∧
  (∀ sig, parseMethodDescriptor y.desc = some sig → n = sig.parameters.length) ∧ (Cond.methodLink own index y).before args s = true ∧ (Cond.static y).before args s = true
theorem vx_cwSW {own : String} {index maxL mc ms : Nat} {y : MethodName} {bytes : ByteArray} {ret : Option FieldType} {hh : List (Nat × Nat × Nat × Nat)} {Ts ws ws' : List Cond} {rm : Room} (n : Nat) (ht : ∀ w ∈ Ts, w.before args s = true) (hT : GoodIn Ts (va_wsS own index y ws)) (hw : ws = Cond.codeWith y bytes maxL ret hh :: ws') (hrc : rm.cells = mc) (hrs : rm.slots = ms)
    (hd : y.cls ≠ "java/lang/invoke/MethodHandle" ∧ y.cls ≠ "java/lang/invoke/VarHandle" ∧ (parseMethodDescriptor y.desc).map (fun d => d.parameters.length) = some n) (hR : rm.frames + 1 ≤ R.frames ∧ 8 + (maxL + 11) + rm.locals ≤ R.locals) :
    vx_CSW R s args own index y bytes maxL ret hh ws rm mc ms n := by
  have ok : ∀ w ∈ va_wsS own index y ws, w.before args s = true := fun w h => ht w (hT w h).1
  have hG : GoodIn Ts ws := fun w h => hT w (by unfold va_wsS; exact List.mem_append_right _ h)
  have hc : Cond.codeWith y bytes maxL ret hh ∈ ws := by rw [hw]; exact List.mem_cons_self
  refine ⟨⟨hrc, hrs, hR.1, hR.2, pay_in ht hG, hc⟩, ht _ (hG _ hc).1, ok _ (by simp [va_wsS]), ⟨hd.1, hd.2.1⟩, fun sig h => ?_, ok _ (by simp [va_wsS]), ok _ (by simp [va_wsS])⟩
  have h2 := hd.2.2
  rw [h] at h2
  exact (Option.some.inj h2).symm
theorem vx_callSW (X : Stand p l e R s m args below meth c T locs cells slots) (hexec : p.tables.exec = Jvm.exec) {own : String} {index : Nat} {y : MethodName} {bytes : ByteArray} {maxL : Nat} {ret : Option FieldType} {hh : List (Nat × Nat × Nat × Nat)}
    (hown : s.vm.findClass own = some m.cls) (hlink : (Cond.methodLink own index y).before args s = true) (hstat : (Cond.static y).before args s = true) (hinit : (Cond.initialized y.cls).before args s = true)
    (hcode : (Cond.codeWith y bytes maxL ret hh).before args s = true) (hy : y.cls ≠ "java/lang/invoke/MethodHandle" ∧ y.cls ≠ "java/lang/invoke/VarHandle")
    {W9 : Nat} {Pre : Pt → Array Value → Prop} {Post : Pt → Array Value → Option Value → Pt → Prop} (hK : Back l R p e below s args y 3 W9 Pre Post)
    {g : JFrame} (hg : g.method = m) (hsize : g.locals.size = c.maxLocals) {argsL rest : List Value} (hlen : ∀ sig, parseMethodDescriptor y.desc = some sig → argsL.length = sig.parameters.length)
    (hstack : g.stack = argsL.reverse ++ rest) (hW : 2 * g.monitorRoom + (rest.map fun v => v.category).sum ≤ W9) (hdg : decode c.code g.pc = .ok (.invokestatic index, 3))
    (hpre : ∀ vm₁, s.WarmedH vm₁ → Pre ⟨T.setVm vm₁, locs, cells, slots⟩ argsL.toArray) :
    ∃ (v : Option Value) (vm₁ : Vm) (B : Pt), s.WarmedH vm₁ ∧ Stand p l e R s m args below meth c B.U B.locs B.cells B.slots ∧ Post ⟨T.setVm vm₁, locs, cells, slots⟩ argsL.toArray v B ∧
      ∀ target, Steps p.tables e below (B.U.setTop { g with pc := g.pc + 3, stack := v.toList ++ rest }) target → Steps p.tables e below (T.setTop g) target := by
  obtain ⟨mk, methM, cM, hnamed, hmethM, -, -, -, -, -, -, hsigM⟩ := Cond.codeWith_spec hcode
  have hstatic : methM.isStatic = true := Cond.static_spec hnamed hmethM hstat
  obtain ⟨kP, hkP, -⟩ := className_of_methodNamed hnamed
  have hinitP : kP.init = .initialized := Cond.initialized_spec (findClass_of_methodNamed hnamed) hkP hinit
  obtain ⟨vm₁, X₁, hstep₁⟩ := X.invokestatic hexec hown hlink hnamed hmethM hstatic hkP hinitP hy (g := g) hg (argsL := argsL) (rest := rest) (hlen _ hsigM) hstack hdg
  obtain ⟨v, B, X', hpost, hsteps⟩ := hK m meth c ⟨T.setVm vm₁, locs, cells, slots⟩ { g with stack := rest } (.invokestatic index) mk argsL.toArray X₁ hg hsize hdg hW (X₁.named hnamed) (hpre vm₁ X₁.warmed)
  exact ⟨v, vm₁, B, X₁.warmed, X', hpost, fun target h => hstep₁ _ fun acts => by rw [doInvoke_state]; exact hsteps.trans h⟩
theorem vx_runSW {y : MethodName} {bytes cc : ByteArray} {maxL nL mc ms n index : Nat} {ret : Option FieldType} {hh : List (Nat × Nat × Nat × Nat)} {ws : List Cond} {rm : Room} {Pc : Array Value → State → Prop} {Qc : Array Value → State → Outcome → State → Prop} {free : Addr → Prop} {Ts : List Cond} {own : String} {As rest : List Value} {g : JFrame}
    (S : CallFix p m c cc nL s args Ts own) (hM : Met l y ws rm Pc Qc mc ms free) (cw : vx_CSW R s args own index y bytes maxL ret hh ws rm mc ms n) (hp : PreS s H Pc As)
    (hg : g.method = m) (hn : As.length = n) (hsize : g.locals.size = nL) (hstack : g.stack = As.reverse ++ rest) (hW : 2 * g.monitorRoom + (rest.map fun v => v.category).sum ≤ 8) (hdg : decode cc g.pc = .ok (.invokestatic index, 3)) (hf : cells + mc ≤ R.cells ∧ slots + ms ≤ R.slots) :
    va_Run p l e R s m args below meth c H locs cells slots mc ms g rest (Qc As.toArray) (free) := by
  obtain ⟨⟨hrc, hrs, hfr, hlo, hws, hcw⟩, hcode, hini, hy, hlen, hl, hstt⟩ := cw
  have hK : Back l R p e below s args y 3 8 (PreOf R mc ms Pc) (PostOf Qc mc ms free) := va_backW (hh := hh) (bytes := bytes) (maxL := maxL) (ret := ret) hM hp.1 hrc hrs hfr hlo hws hcw (fun a' U hW => word_at hW (Or.inl (by first | rfl | simp [Cond.onTables, Cond.keeps, Cond.steady])) hini)
  obtain ⟨hx, hb, hml, ho, -⟩ := S
  intro T hT X
  obtain ⟨v, vm₁, ⟨U', l2, c2, s2⟩, hW₁, X', ⟨g', mk, t, L, e1, e2, hq, h1, hL, h2, h3⟩, st⟩ := vx_callSW X hx (hh := hh) (bytes := bytes) (maxL := maxL) (ret := ret) ho hl hstt hini hcode hy hK hg (hsize.trans hml.symm) (argsL := As) (rest := rest) (fun sig h => hn.trans (hlen sig h)) hstack hW (by rw [hb]; exact hdg)
    (fun vm₁ hW₁ => ⟨hf.1, hf.2, hp.2 (T.setVm vm₁) hT hW₁⟩)
  dsimp only [Pt.U, Pt.locs, Pt.cells, Pt.slots] at X' e1 e2 h1 h2 h3 st
  subst h1; subst h2; subst h3
  exact ⟨v, (T.setVm vm₁).calling g' mk As.toArray, t, U', L, hT, X', hL, e1, e2, hq, st⟩
/-- not caught here, past rows that name other classes: it goes on to the caller -/
theorem vx_outP {p : Program} {l : Launch} {e : Env} {R : Room} {s : State} {m : MethodId} {args : Array Value} {below : List Frame} {meth : Method} {c : Code} {H : Heap} {locs : List Loc} {cells slots : Nat} {free : Addr → Prop} {ls : Array Slot} {rest : List Value} {Qc : Array Value → State → Outcome → State → Prop} {XC : String → State → State → Prop}
    {pc : Nat} {own E : String} {ce : Cell} {q : Addr} {mc ms : Nat} (hown : s.vm.findClass own = some m.cls) (hlocks : meth.locks = false)
    (hpass : ∀ z ∈ c.exceptionTable.toList, covers z pc = false ∨ (z.catchType ≠ 0 ∧ ∃ nm : String, (Cond.classLink own z.catchType nm).before args s = true ∧ va_Nc E nm s)) (hcell : H[q]? = some ce) (hv : ce.vm = .none) (hcl : s.vm.findClass E = some ce.cls)
    (hx : ∀ t : State, t.heap = H → s.vm.Alike t.vm → XC E s t) (hf : ∀ z ∈ locs, free z.base) (hc : cells ≤ mc) (hs : slots ≤ ms) :
    vx_W p l e R s m args below meth c H locs cells slots (vx_MQ below Qc XC args s mc ms free) (F0 m pc ls rest) q := by
  intro T hT X
  have hpl : e.platform.magicAccessors = ({} : Platform).magicAccessors := by rw [X.admits.platform]
  obtain ⟨vm', hW', X', st⟩ := X.outThrough hlocks q (g := F0 m pc ls rest) rfl rfl rfl (cell := ce) (by rw [hT]; exact hcell) (by rw [hv]; rfl)
    (by obtain ⟨k9, h9, -⟩ := Vm.findClass_spec hcl; exact ⟨k9, h9⟩) (fun z hz => by
      rcases hpass z hz with h | ⟨hz0, nm, hl1, hn1⟩
      · exact Or.inl h
      · obtain ⟨c6, hc6, hcl6⟩ := Cond.classLink_spec hown hl1 e.platform hpl
        obtain ⟨a8, b8, h1, h2, h3⟩ := hn1
        cases Option.some.inj (h1.symm.trans hcl)
        cases Option.some.inj (h2.symm.trans hc6)
        exact Or.inr ⟨hz0, _, hcl6, h3⟩)
  obtain ⟨g₀, hfr⟩ := X'.frames_eq
  have hcell9 : ((T.setVm vm').setFrames (.throwing q :: below)).heap[q]? = some ce := by
    show T.heap[q]? = some ce
    rw [hT]; exact hcell
  have hend : Ended ((T.setVm vm').setFrames (.throwing q :: below)) below (.threw q) := State.frames_setFrames _ (State.cur_lt_of_frames hfr)
  refine ⟨(T.setVm vm').setFrames (.throwing q :: below), ?_, .threw q, X'.here.running, hend, Or.inr ⟨q, rfl, E, ce, locs, hx _ hT (X'.ends _).1.alike, hcell9, hv, hcl, (X'.ends _).1, (X'.ends _).2.mono hc hs, hf⟩⟩
  rw [X.pushThrowing_eq]
  exact st
/-- a thing of a world lies in the heap -/
theorem vx_lt {D : va_G} {cl : List vw_C} {ws : va_W} {H1 : Heap} (h : va_P D cl ws H1) {k : Nat} {q : Nat × va_E} (hk : ws[k]? = some q) : q.1 < H1.size := (h k q hk).lt
end VXS
/-! ===== END ===== -/
/-! ===== BEGIN methods with a table of their own: called by a name, returning or throwing ===== -/
section VXH
/-! vx_backW, vx_callVX, vx_callSX, vx_callVW, vx_runVW, vx_runVX, vx_runSX, vx_ofWH follow the same proofs as their sisters above (Free/Laws.lean, Shelf42/LK1.lean); vx_outP calls Shelf42/NT130.lean (outThrough). -/
section
variable {l : Launch} {R : Room} {p : Program} {e : Env} {below : List Frame} {s : State} {sargs : Array Value} {y : MethodName} {len W9 : Nat}
theorem vx_backW {ws : List Cond} {rm : Room} {Pc : Array Value → State → Prop} {Qc : Array Value → State → Outcome → State → Prop} {XC : String → State → State → Prop} {mc ms : Nat} {free : Addr → Prop} {bytes : ByteArray} {maxL : Nat} {ret : Option FieldType} {hh : List (Nat × Nat × Nat × Nat)}
    (hM : vx_Met l y ws rm Pc Qc XC mc ms free) (hblind : FrameBlind Pc) (hrc : rm.cells = mc) (hrs : rm.slots = ms)
    (hframes : rm.frames + 1 ≤ R.frames) (hlocals : W9 + (maxL + 11) + rm.locals ≤ R.locals)
    (hws : ∀ w ∈ ws, ∀ a' U, s.WarmedH U.vm → w.before a' U = true) (hcode : Cond.codeWith y bytes maxL ret hh ∈ ws) (hinit : ∀ a' U, s.WarmedH U.vm → (Cond.initialized y.cls).before a' U = true) :
    vx_Back l R p e below s sargs y len W9 (PreOf R mc ms Pc) (PostOf Qc mc ms free) (vx_Post XC mc ms free) := by
  intro m meth c A g ig mk a X hg hsize hdg hW hn hp
  have h1 : (headSpec ws rm).pre.before a A.U = true := atoms_intro fun w hw => hws w hw _ _ X.warmed
  have h2 : (Cond.codeWith y bytes maxL ret hh).before a A.U = true := hws _ hcode _ _ X.warmed
  have h3 : (Cond.initialized y.cls).before a A.U = true := hinit _ _ X.warmed
  have h4 : A.cells + (headSpec ws rm).room.cells ≤ R.cells := by rw [show (headSpec ws rm).room.cells = mc from hrc]; exact hp.1
  have h5 : A.slots + (headSpec ws rm).room.slots ≤ R.slots := by rw [show (headSpec ws rm).room.slots = ms from hrs]; exact hp.2.1
  have hPc : Pc a (A.U.calling g mk a) := hblind _ _ _ _ hp.2.2
  obtain ⟨U, Ls, c0, s0⟩ := A
  dsimp only [Pt.U, Pt.locs, Pt.cells, Pt.slots] at h1 h2 h3 h4 h5 X hn hPc ⊢
  obtain ⟨m9, methY, cY, hn9, hmY, hcY, -, hlY, -⟩ := Cond.codeWith_spec h2
  cases Option.some.inj (hn9.symm.trans hn)
  obtain ⟨kY, hkY, -⟩ := className_of_methodNamed hn
  have hinitY : kY.init = .initialized := Cond.initialized_spec (findClass_of_methodNamed hn) hkY h3
  have h : At U g.method c below := by rw [hg]; exact X.here
  have hlocals9 : W9 + (maxL + 11) + (headSpec ws rm).room.locals ≤ R.locals := hlocals
  have happ : (headSpec ws rm).appliesLoose y e.platform (U.calling g mk a) = true :=
    Spec.appliesLoose_calling (g := g) h hdg hn hkY hinitY
      (X.room_calling (g := g) (R' := (headSpec ws rm).room) hsize hmY hcY hframes (by rw [hlY]; omega) h4 h5) h1
  obtain ⟨mid, hmid⟩ := h.above
  have hfr : (U.setTop g).frames = (.java g :: mid) ++ below := by rw [State.frames_setTop' g h.top, hmid]; rfl
  obtain ⟨o, s₂, hsteps, -, hend, hq⟩ := Steps.callFree hM p X.admits X.cas X.clock (acts := []) hfr happ hPc trivial
  have hq' : vx_Q Qc XC mc ms free a (U.calling g mk a) o s₂ := hq
  rw [State.frames_setTop' g h.top] at hend
  obtain ⟨g₀, hg0⟩ := Option.isSome_iff_exists.mp h.top
  obtain ⟨r, hr⟩ := State.topJava?_eq_some.mp hg0
  have hr' : (({ U with heap := s₂.heap, slotsUsed := s₂.slotsUsed } : State).setVm s₂.vm).frames = .java g₀ :: r := hr
  rcases hq' with ⟨hqc, L, hfe, hL⟩ | ⟨q, rfl, E, ce, L, hx, hce, hcv, hcl, hW₂, hsm, hL⟩
  · obtain ⟨⟨v, rfl⟩, hW₂, e2, q2, q3, q4, q5, q6⟩ := id hfe
    have e3 : s₂ = ({ (U.calling g mk a).setFrames s₂.frames with heap := s₂.heap, slotsUsed := s₂.slotsUsed } : State).setVm s₂.vm := by
      have : s₂ = ({ s₂ with vm := (U.calling g mk a).vm } : State).setVm s₂.vm := rfl
      rw [e2] at this
      exact this
    obtain ⟨c₂, i₂, len₂, hc₂, hd₂, hf₂⟩ := hend
    have hW' : U.WarmedH s₂.vm := hW₂
    have hcc : c₂ = c := by
      have h1 : s₂.code? g.method = U.code? g.method := by
        rw [State.code?_eq, State.code?_eq, hW'.alike.method?]
      exact Option.some.inj (hc₂.symm.trans (h1.trans h.code))
    subst hcc
    have hlen : len₂ = len := by rw [hdg] at hd₂; cases hd₂; rfl
    subst hlen
    have hs₂ : s₂ = (({ U with heap := s₂.heap, slotsUsed := s₂.slotsUsed } : State).setVm s₂.vm).setTop { g with pc := g.pc + len₂, stack := v.toList ++ g.stack } := by
      refine e3.trans ?_
      rw [hf₂, State.calling_eq h.top, State.setFrames_setFrames, State.setTop_of_frames _ hr', hr]
      rfl
    have hsame : U.sameButNew ({ U with heap := s₂.heap, slotsUsed := s₂.slotsUsed } : State) L mc ms := by
      refine ⟨?_, q2, q3, q4, q5, q6⟩
      obtain ⟨t, ht, -⟩ := State.frames_cons hr
      show ({ U with heap := s₂.heap, slotsUsed := s₂.slotsUsed } : State) = { U.setFrames U.frames with heap := s₂.heap, slotsUsed := s₂.slotsUsed }
      rw [State.setFrames_self ht]
    subst hg
    refine Or.inl ⟨v, ⟨(({ U with heap := s₂.heap, slotsUsed := s₂.slotsUsed } : State).setVm s₂.vm), Ls ++ L, c0 + mc, s0 + ms⟩,
      ⟨X.admits, X.cas, X.clock, X.frames, X.room, X.hears, X.method, X.code, (X.here.setHeapUsed s₂.heap s₂.slotsUsed).setVm hW'.alike, X.tail, State.WarmedH.trans X.warmed hW', X.limits, X.bytes, X.same.trans (hsame.setVm s.vm)⟩,
      ⟨g, mk, s₂, L, rfl, rfl, hqc, rfl, hL, rfl, rfl⟩, ?_⟩
    show Steps p.tables e below _ ((({ U with heap := s₂.heap, slotsUsed := s₂.slotsUsed } : State).setVm s₂.vm).setTop { g with pc := g.pc + len₂, stack := v.toList ++ g.stack })
    rw [← hs₂]
    exact hsteps
  · obtain ⟨e2, q2, q3, q4, q5, q6⟩ := id hsm
    have e3 : s₂ = ({ (U.calling g mk a).setFrames s₂.frames with heap := s₂.heap, slotsUsed := s₂.slotsUsed } : State).setVm s₂.vm := by
      have : s₂ = ({ s₂ with vm := (U.calling g mk a).vm } : State).setVm s₂.vm := rfl
      rw [e2] at this
      exact this
    have hf₂ : s₂.frames = .throwing q :: .java g :: U.frames.tail := hend
    have hW' : U.WarmedH s₂.vm := hW₂
    have hs₂ : s₂ = ((({ U with heap := s₂.heap, slotsUsed := s₂.slotsUsed } : State).setVm s₂.vm).setTop g).pushFrame (.throwing q) := by
      refine e3.trans ?_
      rw [hf₂, State.calling_eq h.top, State.setFrames_setFrames, State.pushFrame, State.frames_setTop _ hr', State.setTop_of_frames _ hr', State.setFrames_setFrames, hr]
      rfl
    have hsame : U.sameButNew ({ U with heap := s₂.heap, slotsUsed := s₂.slotsUsed } : State) L mc ms := by
      refine ⟨?_, q2, q3, q4, q5, q6⟩
      obtain ⟨t, ht, -⟩ := State.frames_cons hr
      show ({ U with heap := s₂.heap, slotsUsed := s₂.slotsUsed } : State) = { U.setFrames U.frames with heap := s₂.heap, slotsUsed := s₂.slotsUsed }
      rw [State.setFrames_self ht]
    subst hg
    refine Or.inr ⟨q, ⟨(({ U with heap := s₂.heap, slotsUsed := s₂.slotsUsed } : State).setVm s₂.vm), Ls ++ L, c0 + mc, s0 + ms⟩,
      ⟨X.admits, X.cas, X.clock, X.frames, X.room, X.hears, X.method, X.code, (X.here.setHeapUsed s₂.heap s₂.slotsUsed).setVm hW'.alike, X.tail, State.WarmedH.trans X.warmed hW', X.limits, X.bytes, X.same.trans (hsame.setVm s.vm)⟩,
      ⟨g, mk, s₂, L, E, ce, rfl, rfl, hx, hce, hcv, hcl, rfl, hL, rfl, rfl⟩, ?_⟩
    show Steps p.tables e below _ (((({ U with heap := s₂.heap, slotsUsed := s₂.slotsUsed } : State).setVm s₂.vm).setTop g).pushFrame (.throwing q))
    rw [← hs₂]
    exact hsteps
end
variable {p : Program} {l : Launch} {e : Env} {R : Room} {s : State} {m : MethodId} {args : Array Value} {below : List Frame} {meth : Method} {c : Code} {T : State} {H : Heap} {locs : List Loc} {cells slots : Nat}
theorem vx_callVX (X : Stand p l e R s m args below meth c T locs cells slots) (hexec : p.tables.exec = Jvm.exec) {own C : String} {index : Nat} {y : MethodName} {bytes : ByteArray} {maxL : Nat} {ret : Option FieldType} {hh : List (Nat × Nat × Nat × Nat)}
    (hown : s.vm.findClass own = some m.cls) (hlink : (Cond.methodLink own index y).before args s = true) (hinst : (Cond.instanceMethod y).before args s = true) (hsel : (Cond.selects C y y).before args s = true)
    (hcode : (Cond.codeWith y bytes maxL ret hh).before args s = true) (hy : y.cls ≠ "java/lang/invoke/MethodHandle" ∧ y.cls ≠ "java/lang/invoke/VarHandle")
    {W9 : Nat} {Pre : Pt → Array Value → Prop} {Post : Pt → Array Value → Option Value → Pt → Prop} {PostX : Pt → Array Value → Addr → Pt → Prop} (hK : vx_Back l R p e below s args y 3 W9 Pre Post PostX)
    {b : Addr} {cellB : Cell} (hcell : T.heap[b]? = some cellB) (hobj : cellB.vm.isStatics = false) (hcls : s.vm.findClass C = some cellB.cls)
    {g : JFrame} (hg : g.method = m) (hsize : g.locals.size = c.maxLocals) {argsL rest : List Value} (hlen : ∀ sig, parseMethodDescriptor y.desc = some sig → argsL.length = sig.parameters.length)
    (hstack : g.stack = argsL.reverse ++ .ref b :: rest) (hW : 2 * g.monitorRoom + (rest.map fun v => v.category).sum ≤ W9) (hdg : decode c.code g.pc = .ok (.invokevirtual index, 3))
    (hpre : ∀ vm₁, s.WarmedH vm₁ → Pre ⟨T.setVm vm₁, locs, cells, slots⟩ (Value.ref b :: argsL).toArray) :
    (∃ (v : Option Value) (vm₁ : Vm) (B : Pt), s.WarmedH vm₁ ∧ Stand p l e R s m args below meth c B.U B.locs B.cells B.slots ∧ Post ⟨T.setVm vm₁, locs, cells, slots⟩ (Value.ref b :: argsL).toArray v B ∧
      ∀ target, Steps p.tables e below (B.U.setTop { g with pc := g.pc + 3, stack := v.toList ++ rest }) target → Steps p.tables e below (T.setTop g) target) ∨
    (∃ (q : Addr) (vm₁ : Vm) (B : Pt), s.WarmedH vm₁ ∧ Stand p l e R s m args below meth c B.U B.locs B.cells B.slots ∧ PostX ⟨T.setVm vm₁, locs, cells, slots⟩ (Value.ref b :: argsL).toArray q B ∧
      Steps p.tables e below (T.setTop g) ((B.U.setTop { g with stack := rest }).pushFrame (.throwing q))) := by
  obtain ⟨mk, methM, hnamed, hmethM, hstM, habM⟩ := Cond.instanceMethod_spec hinst
  obtain ⟨m8, methM', cM, hn8, hmethM', -, -, -, -, -, -, hsigM⟩ := Cond.codeWith_spec hcode
  cases Option.some.inj (hn8.symm.trans hnamed)
  cases hmethM.symm.trans hmethM'
  obtain ⟨c2, r2, m2, q1, q2, q3, q4, kP, hkP, hkPi⟩ := Cond.selects_spec hsel
  cases hcls.symm.trans q1
  cases (State.methodFound?_of_named hnamed hy).symm.trans q2
  cases hnamed.symm.trans q3
  have hselP : selectMethod e.platform s.vm cellB.cls mk = .method mk := by rw [Launch.admits_selectMethod X.admits]; exact q4
  obtain ⟨vm₁, X₁, hstep₁⟩ := X.invokevirtual hexec hown hlink hnamed hmethM hstM hkP hkPi hy (a := b) (cell := cellB) hcell
    (fun z h => by rw [h] at hobj; cases hobj) hselP hmethM habM hkP hkPi (g := g) hg (argsL := argsL) (rest := rest) (hlen _ hsigM) hstack hdg
  rcases hK m meth c ⟨T.setVm vm₁, locs, cells, slots⟩ { g with stack := rest } (.invokevirtual index) mk (Value.ref b :: argsL).toArray X₁ hg hsize hdg hW (X₁.named hnamed) (hpre vm₁ X₁.warmed) with ⟨v, B, X', hpost, hsteps⟩ | ⟨q, B, X', hpost, hsteps⟩
  · exact Or.inl ⟨v, vm₁, B, X₁.warmed, X', hpost, fun target h => hstep₁ _ fun acts => by rw [doInvoke_state]; exact hsteps.trans h⟩
  · exact Or.inr ⟨q, vm₁, B, X₁.warmed, X', hpost, hstep₁ _ fun acts => by rw [doInvoke_state]; exact hsteps⟩
theorem vx_callSX (X : Stand p l e R s m args below meth c T locs cells slots) (hexec : p.tables.exec = Jvm.exec) {own : String} {index : Nat} {y : MethodName} {bytes : ByteArray} {maxL : Nat} {ret : Option FieldType} {hh : List (Nat × Nat × Nat × Nat)}
    (hown : s.vm.findClass own = some m.cls) (hlink : (Cond.methodLink own index y).before args s = true) (hstat : (Cond.static y).before args s = true) (hinit : (Cond.initialized y.cls).before args s = true)
    (hcode : (Cond.codeWith y bytes maxL ret hh).before args s = true) (hy : y.cls ≠ "java/lang/invoke/MethodHandle" ∧ y.cls ≠ "java/lang/invoke/VarHandle")
    {W9 : Nat} {Pre : Pt → Array Value → Prop} {Post : Pt → Array Value → Option Value → Pt → Prop} {PostX : Pt → Array Value → Addr → Pt → Prop} (hK : vx_Back l R p e below s args y 3 W9 Pre Post PostX)
    {g : JFrame} (hg : g.method = m) (hsize : g.locals.size = c.maxLocals) {argsL rest : List Value} (hlen : ∀ sig, parseMethodDescriptor y.desc = some sig → argsL.length = sig.parameters.length)
    (hstack : g.stack = argsL.reverse ++ rest) (hW : 2 * g.monitorRoom + (rest.map fun v => v.category).sum ≤ W9) (hdg : decode c.code g.pc = .ok (.invokestatic index, 3))
    (hpre : ∀ vm₁, s.WarmedH vm₁ → Pre ⟨T.setVm vm₁, locs, cells, slots⟩ argsL.toArray) :
    (∃ (v : Option Value) (vm₁ : Vm) (B : Pt), s.WarmedH vm₁ ∧ Stand p l e R s m args below meth c B.U B.locs B.cells B.slots ∧ Post ⟨T.setVm vm₁, locs, cells, slots⟩ argsL.toArray v B ∧
      ∀ target, Steps p.tables e below (B.U.setTop { g with pc := g.pc + 3, stack := v.toList ++ rest }) target → Steps p.tables e below (T.setTop g) target) ∨
    (∃ (q : Addr) (vm₁ : Vm) (B : Pt), s.WarmedH vm₁ ∧ Stand p l e R s m args below meth c B.U B.locs B.cells B.slots ∧ PostX ⟨T.setVm vm₁, locs, cells, slots⟩ argsL.toArray q B ∧
      Steps p.tables e below (T.setTop g) ((B.U.setTop { g with stack := rest }).pushFrame (.throwing q))) := by
  obtain ⟨mk, methM, cM, hnamed, hmethM, -, -, -, -, -, -, hsigM⟩ := Cond.codeWith_spec hcode
  have hstatic : methM.isStatic = true := Cond.static_spec hnamed hmethM hstat
  obtain ⟨kP, hkP, -⟩ := className_of_methodNamed hnamed
  have hinitP : kP.init = .initialized := Cond.initialized_spec (findClass_of_methodNamed hnamed) hkP hinit
  obtain ⟨vm₁, X₁, hstep₁⟩ := X.invokestatic hexec hown hlink hnamed hmethM hstatic hkP hinitP hy (g := g) hg (argsL := argsL) (rest := rest) (hlen _ hsigM) hstack hdg
  rcases hK m meth c ⟨T.setVm vm₁, locs, cells, slots⟩ { g with stack := rest } (.invokestatic index) mk argsL.toArray X₁ hg hsize hdg hW (X₁.named hnamed) (hpre vm₁ X₁.warmed) with ⟨v, B, X', hpost, hsteps⟩ | ⟨q, B, X', hpost, hsteps⟩
  · exact Or.inl ⟨v, vm₁, B, X₁.warmed, X', hpost, fun target h => hstep₁ _ fun acts => by rw [doInvoke_state]; exact hsteps.trans h⟩
  · exact Or.inr ⟨q, vm₁, B, X₁.warmed, X', hpost, hstep₁ _ fun acts => by rw [doInvoke_state]; exact hsteps⟩
theorem vx_callVW (X : Stand p l e R s m args below meth c T locs cells slots) (hexec : p.tables.exec = Jvm.exec) {own C : String} {index : Nat} {y : MethodName} {bytes : ByteArray} {maxL : Nat} {ret : Option FieldType} {hh : List (Nat × Nat × Nat × Nat)}
    (hown : s.vm.findClass own = some m.cls) (hlink : (Cond.methodLink own index y).before args s = true) (hinst : (Cond.instanceMethod y).before args s = true) (hsel : (Cond.selects C y y).before args s = true)
    (hcode : (Cond.codeWith y bytes maxL ret hh).before args s = true) (hy : y.cls ≠ "java/lang/invoke/MethodHandle" ∧ y.cls ≠ "java/lang/invoke/VarHandle")
    {W9 : Nat} {Pre : Pt → Array Value → Prop} {Post : Pt → Array Value → Option Value → Pt → Prop} (hK : Back l R p e below s args y 3 W9 Pre Post)
    {b : Addr} {cellB : Cell} (hcell : T.heap[b]? = some cellB) (hobj : cellB.vm.isStatics = false) (hcls : s.vm.findClass C = some cellB.cls)
    {g : JFrame} (hg : g.method = m) (hsize : g.locals.size = c.maxLocals) {argsL rest : List Value} (hlen : ∀ sig, parseMethodDescriptor y.desc = some sig → argsL.length = sig.parameters.length)
    (hstack : g.stack = argsL.reverse ++ .ref b :: rest) (hW : 2 * g.monitorRoom + (rest.map fun v => v.category).sum ≤ W9) (hdg : decode c.code g.pc = .ok (.invokevirtual index, 3))
    (hpre : ∀ vm₁, s.WarmedH vm₁ → Pre ⟨T.setVm vm₁, locs, cells, slots⟩ (Value.ref b :: argsL).toArray) :
    ∃ (v : Option Value) (vm₁ : Vm) (B : Pt), s.WarmedH vm₁ ∧ Stand p l e R s m args below meth c B.U B.locs B.cells B.slots ∧ Post ⟨T.setVm vm₁, locs, cells, slots⟩ (Value.ref b :: argsL).toArray v B ∧
      ∀ target, Steps p.tables e below (B.U.setTop { g with pc := g.pc + 3, stack := v.toList ++ rest }) target → Steps p.tables e below (T.setTop g) target := by
  obtain ⟨mk, methM, hnamed, hmethM, hstM, habM⟩ := Cond.instanceMethod_spec hinst
  obtain ⟨m8, methM', cM, hn8, hmethM', -, -, -, -, -, -, hsigM⟩ := Cond.codeWith_spec hcode
  cases Option.some.inj (hn8.symm.trans hnamed)
  cases hmethM.symm.trans hmethM'
  obtain ⟨c2, r2, m2, q1, q2, q3, q4, kP, hkP, hkPi⟩ := Cond.selects_spec hsel
  cases hcls.symm.trans q1
  cases (State.methodFound?_of_named hnamed hy).symm.trans q2
  cases hnamed.symm.trans q3
  have hselP : selectMethod e.platform s.vm cellB.cls mk = .method mk := by rw [Launch.admits_selectMethod X.admits]; exact q4
  obtain ⟨vm₁, X₁, hstep₁⟩ := X.invokevirtual hexec hown hlink hnamed hmethM hstM hkP hkPi hy (a := b) (cell := cellB) hcell
    (fun z h => by rw [h] at hobj; cases hobj) hselP hmethM habM hkP hkPi (g := g) hg (argsL := argsL) (rest := rest) (hlen _ hsigM) hstack hdg
  obtain ⟨v, B, X', hpost, hsteps⟩ := hK m meth c ⟨T.setVm vm₁, locs, cells, slots⟩ { g with stack := rest } (.invokevirtual index) mk (Value.ref b :: argsL).toArray X₁ hg hsize hdg hW (X₁.named hnamed) (hpre vm₁ X₁.warmed)
  exact ⟨v, vm₁, B, X₁.warmed, X', hpost, fun target h => hstep₁ _ fun acts => by rw [doInvoke_state]; exact hsteps.trans h⟩
abbrev vx_CVW (R : Room) (s : State) (args : Array Value) (own C : String) (index : Nat) (y : MethodName) (bytes : ByteArray) (maxL : Nat) (ret : Option FieldType) (hh : List (Nat × Nat × Nat × Nat)) (ws : List Cond) (rm : Room) (mc ms n : Nat) : Prop :=
  (rm.cells = mc ∧ rm.slots = ms ∧ rm.frames + 1 ≤ R.frames ∧ 8 + (maxL + 11) + rm.locals ≤ R.locals ∧ (∀ w ∈ ws, ∀ (a' : Array Value) (U : State), s.WarmedH U.vm → w.before a' U = true) ∧ Cond.codeWith y bytes maxL ret hh ∈ ws) ∧
  (Cond.codeWith y bytes maxL ret hh).before args s = true ∧ (Cond.initialized y.cls).before args s = true ∧ (y.cls ≠ "java/lang/invoke/MethodHandle" ∧ y.cls ≠ "java/lang/invoke/VarHandle") ∧
  (∀ sig, parseMethodDescriptor y.desc = some sig → n = sig.parameters.length) ∧ (Cond.methodLink own index y).before args s = true ∧ (Cond.instanceMethod y).before args s = true ∧ (Cond.selects C y y).before args s = true
theorem vx_cwVW {own C : String} {index maxL mc ms : Nat} {y : MethodName} {bytes : ByteArray} {ret : Option FieldType} {hh : List (Nat × Nat × Nat × Nat)} {Ts ws ws' : List Cond} {rm : Room} (n : Nat) (ht : ∀ w ∈ Ts, w.before args s = true) (hT : GoodIn Ts (wsV own index C y ws)) (hw : ws = Cond.codeWith y bytes maxL ret hh :: ws') (hrc : rm.cells = mc) (hrs : rm.slots = ms)
    (hd : y.cls = C ∧ y.cls ≠ "java/lang/invoke/MethodHandle" ∧ y.cls ≠ "java/lang/invoke/VarHandle" ∧ (parseMethodDescriptor y.desc).map (fun d => d.parameters.length) = some n) (hR : rm.frames + 1 ≤ R.frames ∧ 8 + (maxL + 11) + rm.locals ≤ R.locals) :
    vx_CVW R s args own C index y bytes maxL ret hh ws rm mc ms n := by
  obtain ⟨hC, hd⟩ := hd
  subst hC
  have ok : ∀ w ∈ wsV own index y.cls y ws, w.before args s = true := fun w h => ht w (hT w h).1
  have hG : GoodIn Ts ws := fun w h => hT w (by unfold wsV; exact List.mem_append_right _ h)
  have hc : Cond.codeWith y bytes maxL ret hh ∈ ws := by rw [hw]; exact List.mem_cons_self
  refine ⟨⟨hrc, hrs, hR.1, hR.2, pay_in ht hG, hc⟩, ht _ (hG _ hc).1, ok _ (by simp [wsV]), ⟨hd.1, hd.2.1⟩, fun sig h => ?_, ok _ (by simp [wsV]), ok _ (by simp [wsV]), ok _ (by simp [wsV])⟩
  have h2 := hd.2.2
  rw [h] at h2
  exact (Option.some.inj h2).symm
theorem vx_runVW {y : MethodName} {bytes cc : ByteArray} {maxL nL mc ms n index : Nat} {ret : Option FieldType} {hh : List (Nat × Nat × Nat × Nat)} {ws : List Cond} {rm : Room} {Pc : Array Value → State → Prop} {Qc : Array Value → State → Outcome → State → Prop} {free : Addr → Prop} {Ts : List Cond} {own C : String} {b : Addr} {As rest : List Value} {g : JFrame}
    (S : CallFix p m c cc nL s args Ts own) (hM : Met l y ws rm Pc Qc mc ms free) (cw : vx_CVW R s args own C index y bytes maxL ret hh ws rm mc ms n) (hp : PreV s H C b Pc As)
    (hg : g.method = m) (hn : As.length = n) (hsize : g.locals.size = nL) (hstack : g.stack = As.reverse ++ .ref b :: rest) (hW : 2 * g.monitorRoom + (rest.map fun v => v.category).sum ≤ 8) (hdg : decode cc g.pc = .ok (.invokevirtual index, 3)) (hf : cells + mc ≤ R.cells ∧ slots + ms ≤ R.slots) :
    va_Run p l e R s m args below meth c H locs cells slots mc ms g rest (Qc (Value.ref b :: As).toArray) free := by
  obtain ⟨⟨hrc, hrs, hfr, hlo, hws, hcw⟩, hcode, hini, hy, hlen, hl, hin, hse⟩ := cw
  have hK : Back l R p e below s args y 3 8 (PreOf R mc ms Pc) (PostOf Qc mc ms free) := va_backW (hh := hh) (bytes := bytes) (maxL := maxL) (ret := ret) hM hp.1 hrc hrs hfr hlo hws hcw (fun a' U hW => word_at hW (Or.inl (by first | rfl | simp [Cond.onTables, Cond.keeps, Cond.steady])) hini)
  obtain ⟨hx, hb, hml, ho, -⟩ := S
  obtain ⟨-, ⟨cellB, hcB, hoB, hclB⟩, hPc⟩ := hp
  intro T hT X
  obtain ⟨v, vm₁, ⟨U', l2, c2, s2⟩, hW₁, X', ⟨g', mk, t, L, e1, e2, hq, h1, hL, h2, h3⟩, st⟩ := vx_callVW X hx (C := C) (hh := hh) (bytes := bytes) (maxL := maxL) (ret := ret) ho hl hin hse hcode hy hK (by rw [hT]; exact hcB) hoB hclB hg (hsize.trans hml.symm) (argsL := As) (rest := rest) (fun sig h => hn.trans (hlen sig h)) hstack hW (by rw [hb]; exact hdg)
    (fun vm₁ hW₁ => ⟨hf.1, hf.2, hPc (T.setVm vm₁) hT hW₁⟩)
  dsimp only [Pt.U, Pt.locs, Pt.cells, Pt.slots] at X' e1 e2 h1 h2 h3 st
  subst h1; subst h2; subst h3
  exact ⟨v, (T.setVm vm₁).calling g' mk (Value.ref b :: As).toArray, t, U', L, hT, X', hL, e1, e2, hq, st⟩
section
variable {y : MethodName} {bytes cc : ByteArray} {maxL nL mc ms n index : Nat} {ret : Option FieldType} {ws : List Cond} {rm : Room} {Pc : Array Value → State → Prop} {Qc : Array Value → State → Outcome → State → Prop} {XC : String → State → State → Prop} {free : Addr → Prop} {Ts : List Cond} {own C : String} {b : Addr} {As rest : List Value} {g : JFrame}
theorem vx_runVX {hh : List (Nat × Nat × Nat × Nat)} (S : CallFix p m c cc nL s args Ts own) (hM : vx_Met l y ws rm Pc Qc XC mc ms free) (cw : vx_CVW R s args own C index y bytes maxL ret hh ws rm mc ms n) (hp : PreV s H C b Pc As)
    (hg : g.method = m) (hn : As.length = n) (hsize : g.locals.size = nL) (hstack : g.stack = As.reverse ++ .ref b :: rest) (hW : 2 * g.monitorRoom + (rest.map fun v => v.category).sum ≤ 8) (hdg : decode cc g.pc = .ok (.invokevirtual index, 3)) (hf : cells + mc ≤ R.cells ∧ slots + ms ≤ R.slots) :
    vx_Run p l e R s m args below meth c H locs cells slots mc ms g rest (Qc (Value.ref b :: As).toArray) XC free := by
  obtain ⟨⟨hrc, hrs, hfr, hlo, hws, hcw⟩, hcode, hini, hy, hlen, hl, hin, hse⟩ := cw
  have hK : vx_Back l R p e below s args y 3 8 (PreOf R mc ms Pc) (PostOf Qc mc ms free) (vx_Post XC mc ms free) := vx_backW (hh := hh) (bytes := bytes) (maxL := maxL) (ret := ret) hM hp.1 hrc hrs hfr hlo hws hcw (fun a' U hW => word_at hW (Or.inl (by first | rfl | simp [Cond.onTables, Cond.keeps, Cond.steady])) hini)
  obtain ⟨hx, hb, hml, ho, -⟩ := S
  obtain ⟨-, ⟨cellB, hcB, hoB, hclB⟩, hPc⟩ := hp
  intro T hT X
  rcases vx_callVX X hx (C := C) (hh := hh) (bytes := bytes) (maxL := maxL) (ret := ret) ho hl hin hse hcode hy hK (by rw [hT]; exact hcB) hoB hclB hg (hsize.trans hml.symm) (argsL := As) (rest := rest) (fun sig h => hn.trans (hlen sig h)) hstack hW (by rw [hb]; exact hdg)
    (fun vm₁ hW₁ => ⟨hf.1, hf.2, hPc (T.setVm vm₁) hT hW₁⟩) with ⟨v, vm₁, ⟨U', l2, c2, s2⟩, hW₁, X', ⟨g', mk, t, L, e1, e2, hq, h1, hL, h2, h3⟩, st⟩ | ⟨q, vm₁, ⟨U', l2, c2, s2⟩, hW₁, X', ⟨g', mk, t, L, E, ce, e1, e2, hq, hce, hcv, hcl, h1, hL, h2, h3⟩, st⟩
  · dsimp only [Pt.U, Pt.locs, Pt.cells, Pt.slots] at X' e1 e2 h1 h2 h3 st
    subst h1; subst h2; subst h3
    exact Or.inl ⟨v, (T.setVm vm₁).calling g' mk (Value.ref b :: As).toArray, t, U', L, hT, X', hL, e1, e2, hq, st⟩
  · dsimp only [Pt.U, Pt.locs, Pt.cells, Pt.slots] at X' e1 e2 h1 h2 h3 st hcl
    subst h1; subst h2; subst h3
    exact Or.inr ⟨q, (T.setVm vm₁).calling g' mk (Value.ref b :: As).toArray, t, U', L, E, ce, hT, X', hL, e1, e2, hq, hce, hcv, vx_cls hW₁ hcl, st⟩
theorem vx_runSX {hh : List (Nat × Nat × Nat × Nat)} (S : CallFix p m c cc nL s args Ts own) (hM : vx_Met l y ws rm Pc Qc XC mc ms free) (cw : vx_CSW R s args own index y bytes maxL ret hh ws rm mc ms n) (hp : PreS s H Pc As)
    (hg : g.method = m) (hn : As.length = n) (hsize : g.locals.size = nL) (hstack : g.stack = As.reverse ++ rest) (hW : 2 * g.monitorRoom + (rest.map fun v => v.category).sum ≤ 8) (hdg : decode cc g.pc = .ok (.invokestatic index, 3)) (hf : cells + mc ≤ R.cells ∧ slots + ms ≤ R.slots) :
    vx_Run p l e R s m args below meth c H locs cells slots mc ms g rest (Qc As.toArray) XC free := by
  obtain ⟨⟨hrc, hrs, hfr, hlo, hws, hcw⟩, hcode, hini, hy, hlen, hl, hstt⟩ := cw
  have hK : vx_Back l R p e below s args y 3 8 (PreOf R mc ms Pc) (PostOf Qc mc ms free) (vx_Post XC mc ms free) := vx_backW (hh := hh) (bytes := bytes) (maxL := maxL) (ret := ret) hM hp.1 hrc hrs hfr hlo hws hcw (fun a' U hW => word_at hW (Or.inl (by first | rfl | simp [Cond.onTables, Cond.keeps, Cond.steady])) hini)
  obtain ⟨hx, hb, hml, ho, -⟩ := S
  intro T hT X
  rcases vx_callSX X hx (hh := hh) (bytes := bytes) (maxL := maxL) (ret := ret) ho hl hstt hini hcode hy hK hg (hsize.trans hml.symm) (argsL := As) (rest := rest) (fun sig h => hn.trans (hlen sig h)) hstack hW (by rw [hb]; exact hdg)
    (fun vm₁ hW₁ => ⟨hf.1, hf.2, hp.2 (T.setVm vm₁) hT hW₁⟩) with ⟨v, vm₁, ⟨U', l2, c2, s2⟩, hW₁, X', ⟨g', mk, t, L, e1, e2, hq, h1, hL, h2, h3⟩, st⟩ | ⟨q, vm₁, ⟨U', l2, c2, s2⟩, hW₁, X', ⟨g', mk, t, L, E, ce, e1, e2, hq, hce, hcv, hcl, h1, hL, h2, h3⟩, st⟩
  · dsimp only [Pt.U, Pt.locs, Pt.cells, Pt.slots] at X' e1 e2 h1 h2 h3 st
    subst h1; subst h2; subst h3
    exact Or.inl ⟨v, (T.setVm vm₁).calling g' mk As.toArray, t, U', L, hT, X', hL, e1, e2, hq, st⟩
  · dsimp only [Pt.U, Pt.locs, Pt.cells, Pt.slots] at X' e1 e2 h1 h2 h3 st hcl
    subst h1; subst h2; subst h3
    exact Or.inr ⟨q, (T.setVm vm₁).calling g' mk As.toArray, t, U', L, E, ce, hT, X', hL, e1, e2, hq, hce, hcv, vx_cls hW₁ hcl, st⟩
end
end VXH
theorem vx_ofWH {l : Launch} {y : MethodName} {ws ws' : List Cond} {rm : Room} {Pc : Array Value → State → Prop} {Qc : Array Value → State → Outcome → State → Prop} {XC : String → State → State → Prop} {mc ms : Nat} {free : Addr → Prop} {cc : ByteArray} {maxL : Nat} {ret : Option FieldType} {hh : List (Nat × Nat × Nat × Nat)}
    (hy : plainName y.cls = true) (hw : ws = Cond.codeWith y cc maxL ret hh :: ws')
    (body : ∀ p e s m args below meth c s₁, BodyLoose p l y (headSpec ws rm) cc maxL ret e s m args below meth c s₁ → c.maxLocals = maxL → Pc args s →
      W p l e (headSpec ws rm).room s m args below meth c s.heap [] 0 0 (vx_MQ below Qc XC args s mc ms free) (entryFrame m args maxL)) : vx_Met l y ws rm Pc Qc XC mc ms free := by
  refine MetFree.of_bodyS (code := cc) (maxLocals := maxL) (ret := ret) hy ?_ ?_
  · intro args s m h hn
    obtain ⟨m9, meth, c, hn9, h1, h2, h3, h4, -, h5, h6, -⟩ := Cond.codeWith_spec (atoms_spec (ws := ws) h _ (by rw [hw]; exact List.mem_cons_self))
    cases hn.symm.trans hn9
    exact ⟨meth, c, h1, h2, h3, h4, h5, h6⟩
  · intro p e s m args below meth c s₁ B hml hP _
    have hh0 : s₁.heap = s.heap := by rw [B.state]; rfl
    obtain ⟨t, a1, o, b1, b2, b3⟩ := body p e s m args below meth c s₁ B hml hP s₁ hh0 (Stand.of_body B)
    exact ⟨t, o, a1, b1, b2, b3⟩
/-! ===== END ===== -/
end
section
/-! ===== BEGIN printed: names, fields, word lists, decode rows ===== -/
def RX0 : String := "GlassRopes$Course"
def TX0 : u_T := fun k => match k with
  | 0 => ("GlassRopes$Course", "glass", "LGlassRopes$Glass;", true)
  | 1 => ("GlassRopes$Course", "ropes", "LGlassRopes$Ropes;", true)
  | 2 => ("GlassRopes$Course", "wind", "I", false)
  | 3 => ("GlassRopes$Course", "day", "I", false)
  | 4 => ("GlassRopes$Course", "coins", "I", false)
  | _ => ("GlassRopes$Course", "feastDays", "I", false)
def tyX0 : Nat → FieldType := fun k => match k with
  | 0 => .object "GlassRopes$Glass"
  | 1 => .object "GlassRopes$Ropes"
  | 2 => .int
  | 3 => .int
  | 4 => .int
  | _ => .int
abbrev wsX00 : List Cond := u_ws RX0 TX0 6
theorem nmX0 : ∀ a, a < 6 → ∀ b, b < 6 → a ≠ b → (TX0 a).2.1 ≠ (TX0 b).2.1 := by decide +kernel
theorem tyX0_ok : ∀ k, k < 6 → parseFieldDescriptor (TX0 k).2.2.1 = some (tyX0 k) := by decide +kernel
abbrev cX0_init : ByteArray := prog_2_method_1_code
def yX0_init : MethodName := ⟨RX0, "<init>", "()V"⟩
abbrev cX0_goOn : ByteArray := prog_2_method_3_code
def yX0_goOn : MethodName := ⟨RX0, "goOn", "(ILGlassRopes$Windows;LGlassRopes$Feasts;)V"⟩
abbrev cX0_goOneDay : ByteArray := prog_2_method_4_code
def yX0_goOneDay : MethodName := ⟨RX0, "goOneDay", "(LGlassRopes$Windows;LGlassRopes$Feasts;)V"⟩
def RX1 : String := "GlassRopes$Feasts"
def TX1 : u_T := fun k => match k with
  | 0 => ("GlassRopes$Feasts", "size", "I", false)
  | 1 => ("GlassRopes$Feasts", "every", "[I", true)
  | _ => ("GlassRopes$Feasts", "on", "[I", true)
def tyX1 : Nat → FieldType := fun k => match k with
  | 0 => .int
  | 1 => .array .int
  | _ => .array .int
abbrev wsX10 : List Cond := u_ws RX1 TX1 3
theorem nmX1 : ∀ a, a < 3 → ∀ b, b < 3 → a ≠ b → (TX1 a).2.1 ≠ (TX1 b).2.1 := by decide +kernel
theorem tyX1_ok : ∀ k, k < 3 → parseFieldDescriptor (TX1 k).2.2.1 = some (tyX1 k) := by decide +kernel
abbrev cX1_init : ByteArray := prog_3_method_1_code
def yX1_init : MethodName := ⟨RX1, "<init>", "()V"⟩
abbrev cX1_put : ByteArray := prog_3_method_2_code
def yX1_put : MethodName := ⟨RX1, "put", "(II)I"⟩
abbrev cX1_areOn : ByteArray := prog_3_method_3_code
def yX1_areOn : MethodName := ⟨RX1, "areOn", "(I)Z"⟩
abbrev cX1_daysUntil : ByteArray := prog_3_method_4_code
def yX1_daysUntil : MethodName := ⟨RX1, "daysUntil", "(I)I"⟩
def RX2 : String := "GlassRopes$Glass"
def TX2 : u_T := fun k => match k with
  | _ => ("GlassRopes$Glass", "soot", "[I", true)
def tyX2 : Nat → FieldType := fun k => match k with
  | _ => .array .int
abbrev wsX20 : List Cond := u_ws RX2 TX2 1
theorem nmX2 : ∀ a, a < 1 → ∀ b, b < 1 → a ≠ b → (TX2 a).2.1 ≠ (TX2 b).2.1 := by decide +kernel
theorem tyX2_ok : ∀ k, k < 1 → parseFieldDescriptor (TX2 k).2.2.1 = some (tyX2 k) := by decide +kernel
abbrev cX2_init : ByteArray := prog_4_method_1_code
def yX2_init : MethodName := ⟨RX2, "<init>", "()V"⟩
abbrev cX2_at : ByteArray := prog_4_method_3_code
def yX2_at : MethodName := ⟨RX2, "at", "(II)I"⟩
abbrev cX2_gather : ByteArray := prog_4_method_4_code
def yX2_gather : MethodName := ⟨RX2, "gather", "(I)V"⟩
abbrev cX2_broughtTo : ByteArray := prog_4_method_5_code
def yX2_broughtTo : MethodName := ⟨RX2, "broughtTo", "(II)I"⟩
abbrev cX2_takeOff : ByteArray := prog_4_method_6_code
def yX2_takeOff : MethodName := ⟨RX2, "takeOff", "(III)I"⟩
abbrev cX2_total : ByteArray := prog_4_method_7_code
def yX2_total : MethodName := ⟨RX2, "total", "()I"⟩
abbrev cX2_cleanPanes : ByteArray := prog_4_method_8_code
def yX2_cleanPanes : MethodName := ⟨RX2, "cleanPanes", "()I"⟩
def RX3 : String := "GlassRopes$Ropes"
def TX3 : u_T := fun k => match k with
  | 0 => ("GlassRopes$Ropes", "size", "I", false)
  | 1 => ("GlassRopes$Ropes", "column", "[I", true)
  | 2 => ("GlassRopes$Ropes", "row", "[I", true)
  | 3 => ("GlassRopes$Ropes", "strength", "[I", true)
  | 4 => ("GlassRopes$Ropes", "toRight", "[Z", true)
  | 5 => ("GlassRopes$Ropes", "cleaned", "[I", true)
  | _ => ("GlassRopes$Ropes", "moved", "[I", true)
def tyX3 : Nat → FieldType := fun k => match k with
  | 0 => .int
  | 1 => .array .int
  | 2 => .array .int
  | 3 => .array .int
  | 4 => .array .boolean
  | 5 => .array .int
  | _ => .array .int
abbrev wsX30 : List Cond := u_ws RX3 TX3 7
theorem nmX3 : ∀ a, a < 7 → ∀ b, b < 7 → a ≠ b → (TX3 a).2.1 ≠ (TX3 b).2.1 := by decide +kernel
theorem tyX3_ok : ∀ k, k < 7 → parseFieldDescriptor (TX3 k).2.2.1 = some (tyX3 k) := by decide +kernel
abbrev cX3_init : ByteArray := prog_5_method_1_code
def yX3_init : MethodName := ⟨RX3, "<init>", "()V"⟩
abbrev cX3_put : ByteArray := prog_5_method_3_code
def yX3_put : MethodName := ⟨RX3, "put", "(IIZ)I"⟩
abbrev cX3_number : ByteArray := prog_5_method_4_code
def yX3_number : MethodName := ⟨RX3, "number", "(II)I"⟩
abbrev cX3_allCleaned : ByteArray := prog_5_method_5_code
def yX3_allCleaned : MethodName := ⟨RX3, "allCleaned", "()I"⟩
abbrev cX3_hangAt : ByteArray := prog_5_method_6_code
def yX3_hangAt : MethodName := ⟨RX3, "hangAt", "(I)Z"⟩
abbrev cX3_rehang : ByteArray := prog_5_method_7_code
def yX3_rehang : MethodName := ⟨RX3, "rehang", "(II)V"⟩
abbrev cX3_work : ByteArray := prog_5_method_8_code
def yX3_work : MethodName := ⟨RX3, "work", "(LGlassRopes$Glass;)V"⟩
abbrev cX3_workOnOne : ByteArray := prog_5_method_9_code
def yX3_workOnOne : MethodName := ⟨RX3, "workOnOne", "(ILGlassRopes$Glass;)V"⟩
abbrev cX3_nextFreeColumn : ByteArray := prog_5_method_10_code
def yX3_nextFreeColumn : MethodName := ⟨RX3, "nextFreeColumn", "(I)I"⟩
def RX4 : String := "GlassRopes$Windows"
def TX4 : u_T := fun k => match k with
  | 0 => ("GlassRopes$Windows", "size", "I", false)
  | 1 => ("GlassRopes$Windows", "x", "[I", true)
  | 2 => ("GlassRopes$Windows", "y", "[I", true)
  | 3 => ("GlassRopes$Windows", "width", "[I", true)
  | 4 => ("GlassRopes$Windows", "height", "[I", true)
  | _ => ("GlassRopes$Windows", "worth", "[I", true)
def tyX4 : Nat → FieldType := fun k => match k with
  | 0 => .int
  | 1 => .array .int
  | 2 => .array .int
  | 3 => .array .int
  | 4 => .array .int
  | _ => .array .int
abbrev wsX40 : List Cond := u_ws RX4 TX4 6
theorem nmX4 : ∀ a, a < 6 → ∀ b, b < 6 → a ≠ b → (TX4 a).2.1 ≠ (TX4 b).2.1 := by decide +kernel
theorem tyX4_ok : ∀ k, k < 6 → parseFieldDescriptor (TX4 k).2.2.1 = some (tyX4 k) := by decide +kernel
abbrev cX4_init : ByteArray := prog_6_method_1_code
def yX4_init : MethodName := ⟨RX4, "<init>", "()V"⟩
abbrev cX4_put : ByteArray := prog_6_method_2_code
def yX4_put : MethodName := ⟨RX4, "put", "(IIIII)I"⟩
abbrev cX4_number : ByteArray := prog_6_method_3_code
def yX4_number : MethodName := ⟨RX4, "number", "(IILGlassRopes$Glass;)I"⟩
abbrev cX4_panes : ByteArray := prog_6_method_4_code
def yX4_panes : MethodName := ⟨RX4, "panes", "(I)I"⟩
abbrev cX4_added : ByteArray := prog_6_method_5_code
def yX4_added : MethodName := ⟨RX4, "added", "(ILGlassRopes$Glass;)I"⟩
abbrev cX4_darkest : ByteArray := prog_6_method_6_code
def yX4_darkest : MethodName := ⟨RX4, "darkest", "(ILGlassRopes$Glass;)I"⟩
abbrev cX4_brings : ByteArray := prog_6_method_7_code
def yX4_brings : MethodName := ⟨RX4, "brings", "(ILGlassRopes$Glass;)I"⟩
abbrev cX4_allBring : ByteArray := prog_6_method_8_code
def yX4_allBring : MethodName := ⟨RX4, "allBring", "(LGlassRopes$Glass;)I"⟩
abbrev cX4_wipeOff : ByteArray := prog_6_method_10_code
def yX4_wipeOff : MethodName := ⟨RX4, "wipeOff", "(ILGlassRopes$Glass;)I"⟩
def RX5 : String := "GlassRopes"
def TX5 : u_T := fun k => match k with
  | 0 => ("GlassRopes", "windows", "LGlassRopes$Windows;", true)
  | 1 => ("GlassRopes", "feasts", "LGlassRopes$Feasts;", true)
  | 2 => ("GlassRopes", "now", "LGlassRopes$Course;", true)
  | _ => ("GlassRopes", "ahead", "LGlassRopes$Course;", true)
def tyX5 : Nat → FieldType := fun k => match k with
  | 0 => .object "GlassRopes$Windows"
  | 1 => .object "GlassRopes$Feasts"
  | 2 => .object "GlassRopes$Course"
  | _ => .object "GlassRopes$Course"
abbrev wsX50 : List Cond := u_ws RX5 TX5 4
theorem nmX5 : ∀ a, a < 4 → ∀ b, b < 4 → a ≠ b → (TX5 a).2.1 ≠ (TX5 b).2.1 := by decide +kernel
theorem tyX5_ok : ∀ k, k < 4 → parseFieldDescriptor (TX5 k).2.2.1 = some (tyX5 k) := by decide +kernel
abbrev cX5_init : ByteArray := prog_1_method_1_code
def yX5_init : MethodName := ⟨RX5, "<init>", "()V"⟩
abbrev cX5_window : ByteArray := prog_1_method_2_code
def yX5_window : MethodName := ⟨RX5, "window", "(IIIII)I"⟩
abbrev cX5_rope : ByteArray := prog_1_method_3_code
def yX5_rope : MethodName := ⟨RX5, "rope", "(IIZ)I"⟩
abbrev cX5_feast : ByteArray := prog_1_method_4_code
def yX5_feast : MethodName := ⟨RX5, "feast", "(II)I"⟩
abbrev cX5_setWind : ByteArray := prog_1_method_5_code
def yX5_setWind : MethodName := ⟨RX5, "setWind", "(I)I"⟩
abbrev cX5_move : ByteArray := prog_1_method_6_code
def yX5_move : MethodName := ⟨RX5, "move", "(II)I"⟩
abbrev cX5_turn : ByteArray := prog_1_method_7_code
def yX5_turn : MethodName := ⟨RX5, "turn", "(I)Z"⟩
abbrev cX5_wipe : ByteArray := prog_1_method_8_code
def yX5_wipe : MethodName := ⟨RX5, "wipe", "(I)I"⟩
abbrev cX5_pass : ByteArray := prog_1_method_9_code
def yX5_pass : MethodName := ⟨RX5, "pass", "(I)I"⟩
abbrev cX5_soot : ByteArray := prog_1_method_10_code
def yX5_soot : MethodName := ⟨RX5, "soot", "(II)I"⟩
abbrev cX5_about : ByteArray := prog_1_method_11_code
def yX5_about : MethodName := ⟨RX5, "about", "(II)I"⟩
abbrev cX5_told : ByteArray := prog_1_method_12_code
def yX5_told : MethodName := ⟨RX5, "told", "(II)I"⟩
abbrev cX5_count : ByteArray := prog_1_method_13_code
def yX5_count : MethodName := ⟨RX5, "count", "(I)I"⟩
abbrev cX5_isFeast : ByteArray := prog_1_method_14_code
def yX5_isFeast : MethodName := ⟨RX5, "isFeast", "(I)Z"⟩
abbrev cX5_next : ByteArray := prog_1_method_15_code
def yX5_next : MethodName := ⟨RX5, "next", "()I"⟩
abbrev cX5_mean : ByteArray := prog_1_method_19_code
def yX5_mean : MethodName := ⟨RX5, "mean", "()D"⟩
abbrev cX5_isColumn : ByteArray := prog_1_method_21_code
def yX5_isColumn : MethodName := ⟨RX5, "isColumn", "(I)Z"⟩
abbrev cX5_isWindow : ByteArray := prog_1_method_22_code
def yX5_isWindow : MethodName := ⟨RX5, "isWindow", "(I)Z"⟩
abbrev cX5_isRope : ByteArray := prog_1_method_23_code
def yX5_isRope : MethodName := ⟨RX5, "isRope", "(I)Z"⟩
abbrev cX5_number : ByteArray := prog_1_method_24_code
def yX5_number : MethodName := ⟨RX5, "number", "(I)I"⟩
def RX6 : String := "GlassRopesLaw$Sim"
def TX6 : u_T := fun k => match k with
  | 0 => ("GlassRopesLaw$Sim", "day", "I", false)
  | 1 => ("GlassRopesLaw$Sim", "wind", "I", false)
  | 2 => ("GlassRopesLaw$Sim", "coins", "I", false)
  | 3 => ("GlassRopesLaw$Sim", "gone", "I", false)
  | 4 => ("GlassRopesLaw$Sim", "soot", "[[I", false)
  | 5 => ("GlassRopesLaw$Sim", "windows", "[[I", false)
  | 6 => ("GlassRopesLaw$Sim", "ropes", "[[I", false)
  | _ => ("GlassRopesLaw$Sim", "feasts", "[[I", false)
def tyX6 : Nat → FieldType := fun k => match k with
  | 0 => .int
  | 1 => .int
  | 2 => .int
  | 3 => .int
  | 4 => .array (.array .int)
  | 5 => .array (.array .int)
  | 6 => .array (.array .int)
  | _ => .array (.array .int)
abbrev wsX60 : List Cond := u_ws RX6 TX6 8
theorem nmX6 : ∀ a, a < 8 → ∀ b, b < 8 → a ≠ b → (TX6 a).2.1 ≠ (TX6 b).2.1 := by decide +kernel
theorem tyX6_ok : ∀ k, k < 8 → parseFieldDescriptor (TX6 k).2.2.1 = some (tyX6 k) := by decide +kernel
abbrev cX6_init : ByteArray := prog_8_method_1_code
def yX6_init : MethodName := ⟨RX6, "<init>", "()V"⟩
abbrev cX6_with : ByteArray := prog_8_method_2_code
def yX6_with : MethodName := ⟨RX6, "with", "([[I[I)[[I"⟩
abbrev cX6_ropeAt : ByteArray := prog_8_method_4_code
def yX6_ropeAt : MethodName := ⟨RX6, "ropeAt", "(I)I"⟩
abbrev cX6_isFeast : ByteArray := prog_8_method_5_code
def yX6_isFeast : MethodName := ⟨RX6, "isFeast", "(I)Z"⟩
abbrev cX6_of : ByteArray := prog_8_method_6_code
def yX6_of : MethodName := ⟨RX6, "of", "([I)[I"⟩
abbrev cX6_bring : ByteArray := prog_8_method_7_code
def yX6_bring : MethodName := ⟨RX6, "bring", "()I"⟩
abbrev cX6_pass : ByteArray := prog_8_method_8_code
def yX6_pass : MethodName := ⟨RX6, "pass", "()V"⟩
abbrev cX6_behind : ByteArray := prog_8_method_9_code
def yX6_behind : MethodName := ⟨RX6, "behind", "(I)LGlassRopesLaw$Sim;"⟩
abbrev cX6_next : ByteArray := prog_8_method_10_code
def yX6_next : MethodName := ⟨RX6, "next", "()I"⟩
abbrev cX6_sums : ByteArray := prog_8_method_11_code
def yX6_sums : MethodName := ⟨RX6, "sums", "()[I"⟩
abbrev cX6_isSame : ByteArray := prog_8_method_12_code
def yX6_isSame : MethodName := ⟨RX6, "isSame", "(LGlassRopes;)Z"⟩
def RX7 : String := "GlassRopesModel"
def TX7 : u_T := fun k => match k with
  | _ => ("", "", "", false)
def tyX7 : Nat → FieldType := fun k => match k with
  | _ => .int
abbrev wsX70 : List Cond := u_ws RX7 TX7 0
theorem nmX7 : ∀ a, a < 0 → ∀ b, b < 0 → a ≠ b → (TX7 a).2.1 ≠ (TX7 b).2.1 := by decide +kernel
theorem tyX7_ok : ∀ k, k < 0 → parseFieldDescriptor (TX7 k).2.2.1 = some (tyX7 k) := by decide +kernel
def RJ9 : String := "java/lang/Math"
def TJ9 : u_T := fun k => match k with
  | _ => ("", "", "", false)
def tyJ9 : Nat → FieldType := fun k => match k with
  | _ => .int
abbrev wsJ90 : List Cond := u_ws RJ9 TJ9 0
theorem nmJ9 : ∀ a, a < 0 → ∀ b, b < 0 → a ≠ b → (TJ9 a).2.1 ≠ (TJ9 b).2.1 := by decide +kernel
theorem tyJ9_ok : ∀ k, k < 0 → parseFieldDescriptor (TJ9 k).2.2.1 = some (tyJ9 k) := by decide +kernel
abbrev cJ9_max_7cf53 : ByteArray := prog_14_method_65_code
def yJ9_max_7cf53 : MethodName := ⟨RJ9, "max", "(II)I"⟩
abbrev cJ9_min_7cf53 : ByteArray := prog_14_method_69_code
def yJ9_min_7cf53 : MethodName := ⟨RJ9, "min", "(II)I"⟩
def RJ0 : String := "java/lang/String"
def TJ0 : u_T := fun k => match k with
  | _ => ("", "", "", false)
def tyJ0 : Nat → FieldType := fun k => match k with
  | _ => .int
abbrev wsJ00 : List Cond := u_ws RJ0 TJ0 0
theorem nmJ0 : ∀ a, a < 0 → ∀ b, b < 0 → a ≠ b → (TJ0 a).2.1 ≠ (TJ0 b).2.1 := by decide +kernel
theorem tyJ0_ok : ∀ k, k < 0 → parseFieldDescriptor (TJ0 k).2.2.1 = some (tyJ0 k) := by decide +kernel
def RL : String := "GlassRopesLaw"
abbrev cL_below : ByteArray := method_2_code
def yL_below : MethodName := ⟨RL, "below", "(II)I"⟩
abbrev cL_cell : ByteArray := method_3_code
def yL_cell : MethodName := ⟨RL, "cell", "([II)I"⟩
abbrev cL_act : ByteArray := method_4_code
def yL_act : MethodName := ⟨RL, "act", "(LGlassRopes;LGlassRopesLaw$Sim;I)Z"⟩
abbrev cL_build : ByteArray := method_5_code
def yL_build : MethodName := ⟨RL, "build", "(LGlassRopes;[I)LGlassRopesLaw$Sim;"⟩
abbrev cL_law : ByteArray := code
def yL_law : MethodName := ⟨RL, "law", "([I)Z"⟩
def wsX2_init : List Cond := .code yX2_init cX2_init 1 none :: ([.methodLink RX2 3 objectInit, .instanceMethod objectInit, .code objectInit ⟨#[0xb1]⟩ 1 none, .arrayClass .int, .fieldLink RX2 9 "GlassRopes$Glass" "soot" "[I"] ++ wsX20)
def wsX3_init : List Cond := .code yX3_init cX3_init 1 none :: ([.methodLink RX3 3 objectInit, .instanceMethod objectInit, .code objectInit ⟨#[0xb1]⟩ 1 none, .fieldLink RX3 9 "GlassRopes$Ropes" "size" "I", .arrayClass .int, .fieldLink RX3 15 "GlassRopes$Ropes" "column" "[I", .fieldLink RX3 19 "GlassRopes$Ropes" "row" "[I", .fieldLink RX3 22 "GlassRopes$Ropes" "strength" "[I", .arrayClass .boolean, .fieldLink RX3 25 "GlassRopes$Ropes" "toRight" "[Z", .fieldLink RX3 29 "GlassRopes$Ropes" "cleaned" "[I", .fieldLink RX3 32 "GlassRopes$Ropes" "moved" "[I"] ++ wsX30)
def wsX0_init_r1 : List Cond := [Cond.methodLink RX0 1 objectInit, Cond.instanceMethod objectInit, Cond.code objectInit ⟨#[0xb1]⟩ 1 none, Cond.classLink RX0 7 RX2, Cond.instantiable RX2 1, Cond.initialized RX2, Cond.fieldLink RX0 10 "GlassRopes$Course" "glass" "LGlassRopes$Glass;", Cond.classLink RX0 16 RX3, Cond.instantiable RX3 7, Cond.initialized RX3, Cond.fieldLink RX0 19 "GlassRopes$Course" "ropes" "LGlassRopes$Ropes;", Cond.fieldLink RX0 23 "GlassRopes$Course" "wind" "I", Cond.fieldLink RX0 27 "GlassRopes$Course" "day" "I", Cond.fieldLink RX0 30 "GlassRopes$Course" "coins" "I", Cond.fieldLink RX0 33 "GlassRopes$Course" "feastDays" "I", Cond.instanceMethod yX2_init, Cond.code yX2_init cX2_init 1 none, Cond.methodLink RX2 3 objectInit, Cond.arrayClass .int, Cond.fieldLink RX2 9 "GlassRopes$Glass" "soot" "[I", Cond.instanceMethod yX3_init, Cond.code yX3_init cX3_init 1 none, Cond.methodLink RX3 3 objectInit, Cond.fieldLink RX3 9 "GlassRopes$Ropes" "size" "I"]
def wsX0_init_r2 : List Cond := [Cond.fieldLink RX3 15 "GlassRopes$Ropes" "column" "[I", Cond.fieldLink RX3 19 "GlassRopes$Ropes" "row" "[I", Cond.fieldLink RX3 22 "GlassRopes$Ropes" "strength" "[I", Cond.arrayClass .boolean, Cond.fieldLink RX3 25 "GlassRopes$Ropes" "toRight" "[Z", Cond.fieldLink RX3 29 "GlassRopes$Ropes" "cleaned" "[I", Cond.fieldLink RX3 32 "GlassRopes$Ropes" "moved" "[I"]
def wsX0_init : List Cond := .code yX0_init cX0_init 1 none :: ((wsX0_init_r1 ++ wsX0_init_r2) ++ wsX20 ++ wsX00 ++ wsX30)
def wsX2_broughtTo : List Cond := .code yX2_broughtTo cX2_broughtTo 3 (some .int) :: ([.methodLink RX2 30 Lib.Math.max.name, .static Lib.Math.max.name, .initialized "java/lang/Math", .code Lib.Math.max.name Lib.Math.max.code 2 (some .int)])
def wsX2_gather : List Cond := .code yX2_gather cX2_gather 6 none :: ([.fieldLink RX2 9 "GlassRopes$Glass" "soot" "[I", .methodLink RX2 25 Lib.Math.min.name, .static Lib.Math.min.name, .initialized "java/lang/Math", .code Lib.Math.min.name Lib.Math.min.code 2 (some .int), .methodLink RX2 21 yX2_broughtTo, .static yX2_broughtTo, .initialized RX2, .code yX2_broughtTo cX2_broughtTo 3 (some .int), .methodLink RX2 30 Lib.Math.max.name, .static Lib.Math.max.name, .code Lib.Math.max.name Lib.Math.max.code 2 (some .int)] ++ wsX20)
def wsX1_areOn : List Cond := .code yX1_areOn cX1_areOn 4 (some .boolean) :: ([.fieldLink RX1 9 "GlassRopes$Feasts" "size" "I", .fieldLink RX1 15 "GlassRopes$Feasts" "every" "[I", .fieldLink RX1 19 "GlassRopes$Feasts" "on" "[I"] ++ wsX10)
def wsX4_panes : List Cond := .code yX4_panes cX4_panes 2 (some .int) :: ([.fieldLink RX4 22 "GlassRopes$Windows" "width" "[I", .fieldLink RX4 25 "GlassRopes$Windows" "height" "[I"] ++ wsX40)
def wsX2_at : List Cond := .code yX2_at cX2_at 3 (some .int) :: ([.fieldLink RX2 9 "GlassRopes$Glass" "soot" "[I"] ++ wsX20)
def wsX4_added : List Cond := .code yX4_added cX4_added 6 (some .int) :: ([.fieldLink RX4 15 "GlassRopes$Windows" "x" "[I", .fieldLink RX4 22 "GlassRopes$Windows" "width" "[I", .fieldLink RX4 19 "GlassRopes$Windows" "y" "[I", .fieldLink RX4 25 "GlassRopes$Windows" "height" "[I", .methodLink RX4 41 yX2_at, .instanceMethod yX2_at, .selects RX2 yX2_at yX2_at, .initialized RX2, .code yX2_at cX2_at 3 (some .int), .fieldLink RX2 9 "GlassRopes$Glass" "soot" "[I"] ++ wsX40 ++ wsX20)
def wsX4_brings : List Cond := .code yX4_brings cX4_brings 3 (some .int) :: ([.fieldLink RX4 28 "GlassRopes$Windows" "worth" "[I", .methodLink RX4 47 Lib.Math.max.name, .static Lib.Math.max.name, .initialized "java/lang/Math", .code Lib.Math.max.name Lib.Math.max.code 2 (some .int), .methodLink RX4 52 yX4_panes, .instanceMethod yX4_panes, .selects RX4 yX4_panes yX4_panes, .initialized RX4, .code yX4_panes cX4_panes 2 (some .int), .fieldLink RX4 22 "GlassRopes$Windows" "width" "[I", .fieldLink RX4 25 "GlassRopes$Windows" "height" "[I", .methodLink RX4 31 yX4_added, .instanceMethod yX4_added, .selects RX4 yX4_added yX4_added, .code yX4_added cX4_added 6 (some .int), .fieldLink RX4 15 "GlassRopes$Windows" "x" "[I", .fieldLink RX4 19 "GlassRopes$Windows" "y" "[I", .methodLink RX4 41 yX2_at, .instanceMethod yX2_at, .selects RX2 yX2_at yX2_at, .initialized RX2, .code yX2_at cX2_at 3 (some .int), .fieldLink RX2 9 "GlassRopes$Glass" "soot" "[I"] ++ wsX40 ++ wsX20)
def wsX4_allBring_r1 : List Cond := [Cond.fieldLink RX4 9 "GlassRopes$Windows" "size" "I", Cond.methodLink RX4 38 yX4_brings, Cond.instanceMethod yX4_brings, Cond.selects RX4 yX4_brings yX4_brings, Cond.initialized RX4, Cond.code yX4_brings cX4_brings 3 (some .int), Cond.fieldLink RX4 28 "GlassRopes$Windows" "worth" "[I", Cond.methodLink RX4 47 Lib.Math.max.name, Cond.static Lib.Math.max.name, Cond.initialized "java/lang/Math", Cond.code Lib.Math.max.name Lib.Math.max.code 2 (some .int), Cond.methodLink RX4 52 yX4_panes, Cond.instanceMethod yX4_panes, Cond.selects RX4 yX4_panes yX4_panes, Cond.code yX4_panes cX4_panes 2 (some .int), Cond.fieldLink RX4 22 "GlassRopes$Windows" "width" "[I", Cond.fieldLink RX4 25 "GlassRopes$Windows" "height" "[I", Cond.methodLink RX4 31 yX4_added, Cond.instanceMethod yX4_added, Cond.selects RX4 yX4_added yX4_added, Cond.code yX4_added cX4_added 6 (some .int), Cond.fieldLink RX4 15 "GlassRopes$Windows" "x" "[I", Cond.fieldLink RX4 19 "GlassRopes$Windows" "y" "[I", Cond.methodLink RX4 41 yX2_at]
def wsX4_allBring_r2 : List Cond := [Cond.instanceMethod yX2_at, Cond.selects RX2 yX2_at yX2_at, Cond.initialized RX2, Cond.code yX2_at cX2_at 3 (some .int), Cond.fieldLink RX2 9 "GlassRopes$Glass" "soot" "[I"]
def wsX4_allBring : List Cond := .code yX4_allBring cX4_allBring 4 (some .int) :: ((wsX4_allBring_r1 ++ wsX4_allBring_r2) ++ wsX40 ++ wsX20)
def wsX2_takeOff : List Cond := .code yX2_takeOff cX2_takeOff 6 (some .int) :: ([.fieldLink RX2 9 "GlassRopes$Glass" "soot" "[I", .methodLink RX2 25 Lib.Math.min.name, .static Lib.Math.min.name, .initialized "java/lang/Math", .code Lib.Math.min.name Lib.Math.min.code 2 (some .int)] ++ wsX20)
def wsX3_hangAt : List Cond := .code yX3_hangAt cX3_hangAt 3 (some .boolean) :: ([.fieldLink RX3 9 "GlassRopes$Ropes" "size" "I", .fieldLink RX3 15 "GlassRopes$Ropes" "column" "[I"] ++ wsX30)
def wsX3_nextFreeColumn : List Cond := .code yX3_nextFreeColumn cX3_nextFreeColumn 5 (some .int) :: ([.fieldLink RX3 25 "GlassRopes$Ropes" "toRight" "[Z", .fieldLink RX3 15 "GlassRopes$Ropes" "column" "[I", .methodLink RX3 53 yX3_hangAt, .instanceMethod yX3_hangAt, .selects RX3 yX3_hangAt yX3_hangAt, .initialized RX3, .code yX3_hangAt cX3_hangAt 3 (some .boolean), .fieldLink RX3 9 "GlassRopes$Ropes" "size" "I"] ++ wsX30)
def wsX3_rehang : List Cond := .code yX3_rehang cX3_rehang 3 none :: ([.fieldLink RX3 15 "GlassRopes$Ropes" "column" "[I", .fieldLink RX3 19 "GlassRopes$Ropes" "row" "[I", .fieldLink RX3 32 "GlassRopes$Ropes" "moved" "[I"] ++ wsX30)
def wsX3_workOnOne_r1 : List Cond := [Cond.fieldLink RX3 22 "GlassRopes$Ropes" "strength" "[I", Cond.fieldLink RX3 15 "GlassRopes$Ropes" "column" "[I", Cond.fieldLink RX3 19 "GlassRopes$Ropes" "row" "[I", Cond.fieldLink RX3 29 "GlassRopes$Ropes" "cleaned" "[I", Cond.methodLink RX3 39 yX2_takeOff, Cond.instanceMethod yX2_takeOff, Cond.selects RX2 yX2_takeOff yX2_takeOff, Cond.initialized RX2, Cond.code yX2_takeOff cX2_takeOff 6 (some .int), Cond.fieldLink RX2 9 "GlassRopes$Glass" "soot" "[I", Cond.methodLink RX2 25 Lib.Math.min.name, Cond.static Lib.Math.min.name, Cond.initialized "java/lang/Math", Cond.code Lib.Math.min.name Lib.Math.min.code 2 (some .int), Cond.methodLink RX3 45 yX3_nextFreeColumn, Cond.instanceMethod yX3_nextFreeColumn, Cond.selects RX3 yX3_nextFreeColumn yX3_nextFreeColumn, Cond.initialized RX3, Cond.code yX3_nextFreeColumn cX3_nextFreeColumn 5 (some .int), Cond.fieldLink RX3 25 "GlassRopes$Ropes" "toRight" "[Z", Cond.methodLink RX3 53 yX3_hangAt, Cond.instanceMethod yX3_hangAt, Cond.selects RX3 yX3_hangAt yX3_hangAt, Cond.code yX3_hangAt cX3_hangAt 3 (some .boolean)]
def wsX3_workOnOne_r2 : List Cond := [Cond.fieldLink RX3 9 "GlassRopes$Ropes" "size" "I", Cond.methodLink RX3 49 yX3_rehang, Cond.instanceMethod yX3_rehang, Cond.selects RX3 yX3_rehang yX3_rehang, Cond.code yX3_rehang cX3_rehang 3 none, Cond.fieldLink RX3 32 "GlassRopes$Ropes" "moved" "[I"]
def wsX3_workOnOne : List Cond := .code yX3_workOnOne cX3_workOnOne 6 none :: ((wsX3_workOnOne_r1 ++ wsX3_workOnOne_r2) ++ wsX30 ++ wsX20)
def wsX3_work_r1 : List Cond := [Cond.fieldLink RX3 9 "GlassRopes$Ropes" "size" "I", Cond.methodLink RX3 35 yX3_workOnOne, Cond.instanceMethod yX3_workOnOne, Cond.selects RX3 yX3_workOnOne yX3_workOnOne, Cond.initialized RX3, Cond.code yX3_workOnOne cX3_workOnOne 6 none, Cond.fieldLink RX3 22 "GlassRopes$Ropes" "strength" "[I", Cond.fieldLink RX3 15 "GlassRopes$Ropes" "column" "[I", Cond.fieldLink RX3 19 "GlassRopes$Ropes" "row" "[I", Cond.fieldLink RX3 29 "GlassRopes$Ropes" "cleaned" "[I", Cond.methodLink RX3 39 yX2_takeOff, Cond.instanceMethod yX2_takeOff, Cond.selects RX2 yX2_takeOff yX2_takeOff, Cond.initialized RX2, Cond.code yX2_takeOff cX2_takeOff 6 (some .int), Cond.fieldLink RX2 9 "GlassRopes$Glass" "soot" "[I", Cond.methodLink RX2 25 Lib.Math.min.name, Cond.static Lib.Math.min.name, Cond.initialized "java/lang/Math", Cond.code Lib.Math.min.name Lib.Math.min.code 2 (some .int), Cond.methodLink RX3 45 yX3_nextFreeColumn, Cond.instanceMethod yX3_nextFreeColumn, Cond.selects RX3 yX3_nextFreeColumn yX3_nextFreeColumn, Cond.code yX3_nextFreeColumn cX3_nextFreeColumn 5 (some .int)]
def wsX3_work_r2 : List Cond := [Cond.fieldLink RX3 25 "GlassRopes$Ropes" "toRight" "[Z", Cond.methodLink RX3 53 yX3_hangAt, Cond.instanceMethod yX3_hangAt, Cond.selects RX3 yX3_hangAt yX3_hangAt, Cond.code yX3_hangAt cX3_hangAt 3 (some .boolean), Cond.methodLink RX3 49 yX3_rehang, Cond.instanceMethod yX3_rehang, Cond.selects RX3 yX3_rehang yX3_rehang, Cond.code yX3_rehang cX3_rehang 3 none, Cond.fieldLink RX3 32 "GlassRopes$Ropes" "moved" "[I"]
def wsX3_work : List Cond := .code yX3_work cX3_work 3 none :: ((wsX3_work_r1 ++ wsX3_work_r2) ++ wsX30 ++ wsX20)
def wsX0_goOneDay_r1 : List Cond := [Cond.fieldLink RX0 10 "GlassRopes$Course" "glass" "LGlassRopes$Glass;", Cond.fieldLink RX0 23 "GlassRopes$Course" "wind" "I", Cond.fieldLink RX0 27 "GlassRopes$Course" "day" "I", Cond.fieldLink RX0 30 "GlassRopes$Course" "coins" "I", Cond.fieldLink RX0 33 "GlassRopes$Course" "feastDays" "I", Cond.fieldLink RX0 19 "GlassRopes$Course" "ropes" "LGlassRopes$Ropes;", Cond.methodLink RX0 47 yX2_gather, Cond.instanceMethod yX2_gather, Cond.selects RX2 yX2_gather yX2_gather, Cond.initialized RX2, Cond.code yX2_gather cX2_gather 6 none, Cond.fieldLink RX2 9 "GlassRopes$Glass" "soot" "[I", Cond.methodLink RX2 25 Lib.Math.min.name, Cond.static Lib.Math.min.name, Cond.initialized "java/lang/Math", Cond.code Lib.Math.min.name Lib.Math.min.code 2 (some .int), Cond.methodLink RX2 21 yX2_broughtTo, Cond.static yX2_broughtTo, Cond.code yX2_broughtTo cX2_broughtTo 3 (some .int), Cond.methodLink RX2 30 Lib.Math.max.name, Cond.static Lib.Math.max.name, Cond.code Lib.Math.max.name Lib.Math.max.code 2 (some .int), Cond.methodLink RX0 51 yX1_areOn, Cond.instanceMethod yX1_areOn]
def wsX0_goOneDay_r2 : List Cond := [Cond.selects RX1 yX1_areOn yX1_areOn, Cond.initialized RX1, Cond.code yX1_areOn cX1_areOn 4 (some .boolean), Cond.fieldLink RX1 9 "GlassRopes$Feasts" "size" "I", Cond.fieldLink RX1 15 "GlassRopes$Feasts" "every" "[I", Cond.fieldLink RX1 19 "GlassRopes$Feasts" "on" "[I", Cond.methodLink RX0 57 yX4_allBring, Cond.instanceMethod yX4_allBring, Cond.selects RX4 yX4_allBring yX4_allBring, Cond.initialized RX4, Cond.code yX4_allBring cX4_allBring 4 (some .int), Cond.fieldLink RX4 9 "GlassRopes$Windows" "size" "I", Cond.methodLink RX4 38 yX4_brings, Cond.instanceMethod yX4_brings, Cond.selects RX4 yX4_brings yX4_brings, Cond.code yX4_brings cX4_brings 3 (some .int), Cond.fieldLink RX4 28 "GlassRopes$Windows" "worth" "[I", Cond.methodLink RX4 47 Lib.Math.max.name, Cond.methodLink RX4 52 yX4_panes, Cond.instanceMethod yX4_panes, Cond.selects RX4 yX4_panes yX4_panes, Cond.code yX4_panes cX4_panes 2 (some .int), Cond.fieldLink RX4 22 "GlassRopes$Windows" "width" "[I", Cond.fieldLink RX4 25 "GlassRopes$Windows" "height" "[I"]
def wsX0_goOneDay_r3 : List Cond := [Cond.methodLink RX4 31 yX4_added, Cond.instanceMethod yX4_added, Cond.selects RX4 yX4_added yX4_added, Cond.code yX4_added cX4_added 6 (some .int), Cond.fieldLink RX4 15 "GlassRopes$Windows" "x" "[I", Cond.fieldLink RX4 19 "GlassRopes$Windows" "y" "[I", Cond.methodLink RX4 41 yX2_at, Cond.instanceMethod yX2_at, Cond.selects RX2 yX2_at yX2_at, Cond.code yX2_at cX2_at 3 (some .int), Cond.methodLink RX0 63 yX3_work, Cond.instanceMethod yX3_work, Cond.selects RX3 yX3_work yX3_work, Cond.initialized RX3, Cond.code yX3_work cX3_work 3 none, Cond.fieldLink RX3 9 "GlassRopes$Ropes" "size" "I", Cond.methodLink RX3 35 yX3_workOnOne, Cond.instanceMethod yX3_workOnOne, Cond.selects RX3 yX3_workOnOne yX3_workOnOne, Cond.code yX3_workOnOne cX3_workOnOne 6 none, Cond.fieldLink RX3 22 "GlassRopes$Ropes" "strength" "[I", Cond.fieldLink RX3 15 "GlassRopes$Ropes" "column" "[I", Cond.fieldLink RX3 19 "GlassRopes$Ropes" "row" "[I", Cond.fieldLink RX3 29 "GlassRopes$Ropes" "cleaned" "[I"]
def wsX0_goOneDay_r4 : List Cond := [Cond.methodLink RX3 39 yX2_takeOff, Cond.instanceMethod yX2_takeOff, Cond.selects RX2 yX2_takeOff yX2_takeOff, Cond.code yX2_takeOff cX2_takeOff 6 (some .int), Cond.methodLink RX3 45 yX3_nextFreeColumn, Cond.instanceMethod yX3_nextFreeColumn, Cond.selects RX3 yX3_nextFreeColumn yX3_nextFreeColumn, Cond.code yX3_nextFreeColumn cX3_nextFreeColumn 5 (some .int), Cond.fieldLink RX3 25 "GlassRopes$Ropes" "toRight" "[Z", Cond.methodLink RX3 53 yX3_hangAt, Cond.instanceMethod yX3_hangAt, Cond.selects RX3 yX3_hangAt yX3_hangAt, Cond.code yX3_hangAt cX3_hangAt 3 (some .boolean), Cond.methodLink RX3 49 yX3_rehang, Cond.instanceMethod yX3_rehang, Cond.selects RX3 yX3_rehang yX3_rehang, Cond.code yX3_rehang cX3_rehang 3 none, Cond.fieldLink RX3 32 "GlassRopes$Ropes" "moved" "[I"]
def wsX0_goOneDay : List Cond := .code yX0_goOneDay cX0_goOneDay 3 none :: ((wsX0_goOneDay_r1 ++ (wsX0_goOneDay_r2 ++ (wsX0_goOneDay_r3 ++ wsX0_goOneDay_r4))) ++ wsX00 ++ wsX20 ++ wsX10 ++ wsX40 ++ wsX30)
def wsX0_goOn_r1 : List Cond := [Cond.methodLink RX0 43 yX0_goOneDay, Cond.instanceMethod yX0_goOneDay, Cond.selects RX0 yX0_goOneDay yX0_goOneDay, Cond.initialized RX0, Cond.code yX0_goOneDay cX0_goOneDay 3 none, Cond.fieldLink RX0 10 "GlassRopes$Course" "glass" "LGlassRopes$Glass;", Cond.fieldLink RX0 23 "GlassRopes$Course" "wind" "I", Cond.fieldLink RX0 27 "GlassRopes$Course" "day" "I", Cond.fieldLink RX0 30 "GlassRopes$Course" "coins" "I", Cond.fieldLink RX0 33 "GlassRopes$Course" "feastDays" "I", Cond.fieldLink RX0 19 "GlassRopes$Course" "ropes" "LGlassRopes$Ropes;", Cond.methodLink RX0 47 yX2_gather, Cond.instanceMethod yX2_gather, Cond.selects RX2 yX2_gather yX2_gather, Cond.initialized RX2, Cond.code yX2_gather cX2_gather 6 none, Cond.fieldLink RX2 9 "GlassRopes$Glass" "soot" "[I", Cond.methodLink RX2 25 Lib.Math.min.name, Cond.static Lib.Math.min.name, Cond.initialized "java/lang/Math", Cond.code Lib.Math.min.name Lib.Math.min.code 2 (some .int), Cond.methodLink RX2 21 yX2_broughtTo, Cond.static yX2_broughtTo, Cond.code yX2_broughtTo cX2_broughtTo 3 (some .int)]
def wsX0_goOn_r2 : List Cond := [Cond.methodLink RX2 30 Lib.Math.max.name, Cond.static Lib.Math.max.name, Cond.code Lib.Math.max.name Lib.Math.max.code 2 (some .int), Cond.methodLink RX0 51 yX1_areOn, Cond.instanceMethod yX1_areOn, Cond.selects RX1 yX1_areOn yX1_areOn, Cond.initialized RX1, Cond.code yX1_areOn cX1_areOn 4 (some .boolean), Cond.fieldLink RX1 9 "GlassRopes$Feasts" "size" "I", Cond.fieldLink RX1 15 "GlassRopes$Feasts" "every" "[I", Cond.fieldLink RX1 19 "GlassRopes$Feasts" "on" "[I", Cond.methodLink RX0 57 yX4_allBring, Cond.instanceMethod yX4_allBring, Cond.selects RX4 yX4_allBring yX4_allBring, Cond.initialized RX4, Cond.code yX4_allBring cX4_allBring 4 (some .int), Cond.fieldLink RX4 9 "GlassRopes$Windows" "size" "I", Cond.methodLink RX4 38 yX4_brings, Cond.instanceMethod yX4_brings, Cond.selects RX4 yX4_brings yX4_brings, Cond.code yX4_brings cX4_brings 3 (some .int), Cond.fieldLink RX4 28 "GlassRopes$Windows" "worth" "[I", Cond.methodLink RX4 47 Lib.Math.max.name, Cond.methodLink RX4 52 yX4_panes]
def wsX0_goOn_r3 : List Cond := [Cond.instanceMethod yX4_panes, Cond.selects RX4 yX4_panes yX4_panes, Cond.code yX4_panes cX4_panes 2 (some .int), Cond.fieldLink RX4 22 "GlassRopes$Windows" "width" "[I", Cond.fieldLink RX4 25 "GlassRopes$Windows" "height" "[I", Cond.methodLink RX4 31 yX4_added, Cond.instanceMethod yX4_added, Cond.selects RX4 yX4_added yX4_added, Cond.code yX4_added cX4_added 6 (some .int), Cond.fieldLink RX4 15 "GlassRopes$Windows" "x" "[I", Cond.fieldLink RX4 19 "GlassRopes$Windows" "y" "[I", Cond.methodLink RX4 41 yX2_at, Cond.instanceMethod yX2_at, Cond.selects RX2 yX2_at yX2_at, Cond.code yX2_at cX2_at 3 (some .int), Cond.methodLink RX0 63 yX3_work, Cond.instanceMethod yX3_work, Cond.selects RX3 yX3_work yX3_work, Cond.initialized RX3, Cond.code yX3_work cX3_work 3 none, Cond.fieldLink RX3 9 "GlassRopes$Ropes" "size" "I", Cond.methodLink RX3 35 yX3_workOnOne, Cond.instanceMethod yX3_workOnOne, Cond.selects RX3 yX3_workOnOne yX3_workOnOne]
def wsX0_goOn_r4 : List Cond := [Cond.code yX3_workOnOne cX3_workOnOne 6 none, Cond.fieldLink RX3 22 "GlassRopes$Ropes" "strength" "[I", Cond.fieldLink RX3 15 "GlassRopes$Ropes" "column" "[I", Cond.fieldLink RX3 19 "GlassRopes$Ropes" "row" "[I", Cond.fieldLink RX3 29 "GlassRopes$Ropes" "cleaned" "[I", Cond.methodLink RX3 39 yX2_takeOff, Cond.instanceMethod yX2_takeOff, Cond.selects RX2 yX2_takeOff yX2_takeOff, Cond.code yX2_takeOff cX2_takeOff 6 (some .int), Cond.methodLink RX3 45 yX3_nextFreeColumn, Cond.instanceMethod yX3_nextFreeColumn, Cond.selects RX3 yX3_nextFreeColumn yX3_nextFreeColumn, Cond.code yX3_nextFreeColumn cX3_nextFreeColumn 5 (some .int), Cond.fieldLink RX3 25 "GlassRopes$Ropes" "toRight" "[Z", Cond.methodLink RX3 53 yX3_hangAt, Cond.instanceMethod yX3_hangAt, Cond.selects RX3 yX3_hangAt yX3_hangAt, Cond.code yX3_hangAt cX3_hangAt 3 (some .boolean), Cond.methodLink RX3 49 yX3_rehang, Cond.instanceMethod yX3_rehang, Cond.selects RX3 yX3_rehang yX3_rehang, Cond.code yX3_rehang cX3_rehang 3 none, Cond.fieldLink RX3 32 "GlassRopes$Ropes" "moved" "[I"]
def wsX0_goOn : List Cond := .code yX0_goOn cX0_goOn 5 none :: ((wsX0_goOn_r1 ++ (wsX0_goOn_r2 ++ (wsX0_goOn_r3 ++ wsX0_goOn_r4))) ++ wsX00 ++ wsX20 ++ wsX10 ++ wsX40 ++ wsX30)
def wsX1_init : List Cond := .code yX1_init cX1_init 1 none :: ([.methodLink RX1 3 objectInit, .instanceMethod objectInit, .code objectInit ⟨#[0xb1]⟩ 1 none, .fieldLink RX1 9 "GlassRopes$Feasts" "size" "I", .arrayClass .int, .fieldLink RX1 15 "GlassRopes$Feasts" "every" "[I", .fieldLink RX1 19 "GlassRopes$Feasts" "on" "[I"] ++ wsX10)
def wsX1_put : List Cond := .code yX1_put cX1_put 3 (some .int) :: ([.fieldLink RX1 15 "GlassRopes$Feasts" "every" "[I", .fieldLink RX1 9 "GlassRopes$Feasts" "size" "I", .fieldLink RX1 19 "GlassRopes$Feasts" "on" "[I"] ++ wsX10)
def wsX1_daysUntil : List Cond := .code yX1_daysUntil cX1_daysUntil 3 (some .int) :: ([.methodLink RX1 22 yX1_areOn, .instanceMethod yX1_areOn, .selects RX1 yX1_areOn yX1_areOn, .initialized RX1, .code yX1_areOn cX1_areOn 4 (some .boolean), .fieldLink RX1 9 "GlassRopes$Feasts" "size" "I", .fieldLink RX1 15 "GlassRopes$Feasts" "every" "[I", .fieldLink RX1 19 "GlassRopes$Feasts" "on" "[I"] ++ wsX10)
def wsX2_total : List Cond := .code yX2_total cX2_total 3 (some .int) :: ([.fieldLink RX2 9 "GlassRopes$Glass" "soot" "[I"] ++ wsX20)
def wsX2_cleanPanes : List Cond := .code yX2_cleanPanes cX2_cleanPanes 3 (some .int) :: ([.fieldLink RX2 9 "GlassRopes$Glass" "soot" "[I"] ++ wsX20)
def wsX3_put : List Cond := .code yX3_put cX3_put 4 (some .int) :: ([.fieldLink RX3 15 "GlassRopes$Ropes" "column" "[I", .fieldLink RX3 9 "GlassRopes$Ropes" "size" "I", .fieldLink RX3 22 "GlassRopes$Ropes" "strength" "[I", .fieldLink RX3 25 "GlassRopes$Ropes" "toRight" "[Z"] ++ wsX30)
def wsX3_number : List Cond := .code yX3_number cX3_number 3 (some .int) :: ([.fieldLink RX3 15 "GlassRopes$Ropes" "column" "[I", .fieldLink RX3 19 "GlassRopes$Ropes" "row" "[I", .fieldLink RX3 22 "GlassRopes$Ropes" "strength" "[I", .fieldLink RX3 25 "GlassRopes$Ropes" "toRight" "[Z", .fieldLink RX3 29 "GlassRopes$Ropes" "cleaned" "[I", .fieldLink RX3 32 "GlassRopes$Ropes" "moved" "[I"] ++ wsX30)
def wsX3_allCleaned : List Cond := .code yX3_allCleaned cX3_allCleaned 3 (some .int) :: ([.fieldLink RX3 9 "GlassRopes$Ropes" "size" "I", .fieldLink RX3 29 "GlassRopes$Ropes" "cleaned" "[I"] ++ wsX30)
def wsX4_init : List Cond := .code yX4_init cX4_init 1 none :: ([.methodLink RX4 3 objectInit, .instanceMethod objectInit, .code objectInit ⟨#[0xb1]⟩ 1 none, .fieldLink RX4 9 "GlassRopes$Windows" "size" "I", .arrayClass .int, .fieldLink RX4 15 "GlassRopes$Windows" "x" "[I", .fieldLink RX4 19 "GlassRopes$Windows" "y" "[I", .fieldLink RX4 22 "GlassRopes$Windows" "width" "[I", .fieldLink RX4 25 "GlassRopes$Windows" "height" "[I", .fieldLink RX4 28 "GlassRopes$Windows" "worth" "[I"] ++ wsX40)
def wsX4_put : List Cond := .code yX4_put cX4_put 6 (some .int) :: ([.fieldLink RX4 15 "GlassRopes$Windows" "x" "[I", .fieldLink RX4 9 "GlassRopes$Windows" "size" "I", .fieldLink RX4 19 "GlassRopes$Windows" "y" "[I", .fieldLink RX4 22 "GlassRopes$Windows" "width" "[I", .fieldLink RX4 25 "GlassRopes$Windows" "height" "[I", .fieldLink RX4 28 "GlassRopes$Windows" "worth" "[I"] ++ wsX40)
def wsX4_darkest : List Cond := .code yX4_darkest cX4_darkest 6 (some .int) :: ([.fieldLink RX4 15 "GlassRopes$Windows" "x" "[I", .fieldLink RX4 22 "GlassRopes$Windows" "width" "[I", .fieldLink RX4 19 "GlassRopes$Windows" "y" "[I", .fieldLink RX4 25 "GlassRopes$Windows" "height" "[I", .methodLink RX4 47 Lib.Math.max.name, .static Lib.Math.max.name, .initialized "java/lang/Math", .code Lib.Math.max.name Lib.Math.max.code 2 (some .int), .methodLink RX4 41 yX2_at, .instanceMethod yX2_at, .selects RX2 yX2_at yX2_at, .initialized RX2, .code yX2_at cX2_at 3 (some .int), .fieldLink RX2 9 "GlassRopes$Glass" "soot" "[I"] ++ wsX40 ++ wsX20)
def wsX4_number_r1 : List Cond := [Cond.fieldLink RX4 15 "GlassRopes$Windows" "x" "[I", Cond.fieldLink RX4 19 "GlassRopes$Windows" "y" "[I", Cond.fieldLink RX4 22 "GlassRopes$Windows" "width" "[I", Cond.fieldLink RX4 25 "GlassRopes$Windows" "height" "[I", Cond.fieldLink RX4 28 "GlassRopes$Windows" "worth" "[I", Cond.methodLink RX4 31 yX4_added, Cond.instanceMethod yX4_added, Cond.selects RX4 yX4_added yX4_added, Cond.initialized RX4, Cond.code yX4_added cX4_added 6 (some .int), Cond.methodLink RX4 41 yX2_at, Cond.instanceMethod yX2_at, Cond.selects RX2 yX2_at yX2_at, Cond.initialized RX2, Cond.code yX2_at cX2_at 3 (some .int), Cond.fieldLink RX2 9 "GlassRopes$Glass" "soot" "[I", Cond.methodLink RX4 35 yX4_darkest, Cond.instanceMethod yX4_darkest, Cond.selects RX4 yX4_darkest yX4_darkest, Cond.code yX4_darkest cX4_darkest 6 (some .int), Cond.methodLink RX4 47 Lib.Math.max.name, Cond.static Lib.Math.max.name, Cond.initialized "java/lang/Math", Cond.code Lib.Math.max.name Lib.Math.max.code 2 (some .int)]
def wsX4_number_r2 : List Cond := [Cond.methodLink RX4 38 yX4_brings, Cond.instanceMethod yX4_brings, Cond.selects RX4 yX4_brings yX4_brings, Cond.code yX4_brings cX4_brings 3 (some .int), Cond.methodLink RX4 52 yX4_panes, Cond.instanceMethod yX4_panes, Cond.selects RX4 yX4_panes yX4_panes, Cond.code yX4_panes cX4_panes 2 (some .int)]
def wsX4_number : List Cond := .code yX4_number cX4_number 4 (some .int) :: ((wsX4_number_r1 ++ wsX4_number_r2) ++ wsX40 ++ wsX20)
def wsX4_wipeOff : List Cond := .code yX4_wipeOff cX4_wipeOff 6 (some .int) :: ([.fieldLink RX4 15 "GlassRopes$Windows" "x" "[I", .fieldLink RX4 22 "GlassRopes$Windows" "width" "[I", .fieldLink RX4 19 "GlassRopes$Windows" "y" "[I", .fieldLink RX4 25 "GlassRopes$Windows" "height" "[I", .methodLink RX4 56 yX2_takeOff, .instanceMethod yX2_takeOff, .selects RX2 yX2_takeOff yX2_takeOff, .initialized RX2, .code yX2_takeOff cX2_takeOff 6 (some .int), .fieldLink RX2 9 "GlassRopes$Glass" "soot" "[I", .methodLink RX2 25 Lib.Math.min.name, .static Lib.Math.min.name, .initialized "java/lang/Math", .code Lib.Math.min.name Lib.Math.min.code 2 (some .int)] ++ wsX40 ++ wsX20)
def wsX5_init_r1 : List Cond := [Cond.methodLink RX5 3 objectInit, Cond.instanceMethod objectInit, Cond.code objectInit ⟨#[0xb1]⟩ 1 none, Cond.classLink RX5 9 RX4, Cond.instantiable RX4 6, Cond.initialized RX4, Cond.fieldLink RX5 12 "GlassRopes" "windows" "LGlassRopes$Windows;", Cond.classLink RX5 16 RX1, Cond.instantiable RX1 3, Cond.initialized RX1, Cond.fieldLink RX5 19 "GlassRopes" "feasts" "LGlassRopes$Feasts;", Cond.classLink RX5 23 RX0, Cond.instantiable RX0 6, Cond.initialized RX0, Cond.fieldLink RX5 26 "GlassRopes" "now" "LGlassRopes$Course;", Cond.fieldLink RX5 30 "GlassRopes" "ahead" "LGlassRopes$Course;", Cond.instanceMethod yX4_init, Cond.code yX4_init cX4_init 1 none, Cond.methodLink RX4 3 objectInit, Cond.fieldLink RX4 9 "GlassRopes$Windows" "size" "I", Cond.arrayClass .int, Cond.fieldLink RX4 15 "GlassRopes$Windows" "x" "[I", Cond.fieldLink RX4 19 "GlassRopes$Windows" "y" "[I", Cond.fieldLink RX4 22 "GlassRopes$Windows" "width" "[I"]
def wsX5_init_r2 : List Cond := [Cond.fieldLink RX4 25 "GlassRopes$Windows" "height" "[I", Cond.fieldLink RX4 28 "GlassRopes$Windows" "worth" "[I", Cond.instanceMethod yX1_init, Cond.code yX1_init cX1_init 1 none, Cond.methodLink RX1 3 objectInit, Cond.fieldLink RX1 9 "GlassRopes$Feasts" "size" "I", Cond.fieldLink RX1 15 "GlassRopes$Feasts" "every" "[I", Cond.fieldLink RX1 19 "GlassRopes$Feasts" "on" "[I", Cond.instanceMethod yX0_init, Cond.code yX0_init cX0_init 1 none, Cond.methodLink RX0 1 objectInit, Cond.classLink RX0 7 RX2, Cond.instantiable RX2 1, Cond.initialized RX2, Cond.fieldLink RX0 10 "GlassRopes$Course" "glass" "LGlassRopes$Glass;", Cond.classLink RX0 16 RX3, Cond.instantiable RX3 7, Cond.initialized RX3, Cond.fieldLink RX0 19 "GlassRopes$Course" "ropes" "LGlassRopes$Ropes;", Cond.fieldLink RX0 23 "GlassRopes$Course" "wind" "I", Cond.fieldLink RX0 27 "GlassRopes$Course" "day" "I", Cond.fieldLink RX0 30 "GlassRopes$Course" "coins" "I", Cond.fieldLink RX0 33 "GlassRopes$Course" "feastDays" "I", Cond.instanceMethod yX2_init]
def wsX5_init_r3 : List Cond := [Cond.code yX2_init cX2_init 1 none, Cond.methodLink RX2 3 objectInit, Cond.fieldLink RX2 9 "GlassRopes$Glass" "soot" "[I", Cond.instanceMethod yX3_init, Cond.code yX3_init cX3_init 1 none, Cond.methodLink RX3 3 objectInit, Cond.fieldLink RX3 9 "GlassRopes$Ropes" "size" "I", Cond.fieldLink RX3 15 "GlassRopes$Ropes" "column" "[I", Cond.fieldLink RX3 19 "GlassRopes$Ropes" "row" "[I", Cond.fieldLink RX3 22 "GlassRopes$Ropes" "strength" "[I", Cond.arrayClass .boolean, Cond.fieldLink RX3 25 "GlassRopes$Ropes" "toRight" "[Z", Cond.fieldLink RX3 29 "GlassRopes$Ropes" "cleaned" "[I", Cond.fieldLink RX3 32 "GlassRopes$Ropes" "moved" "[I"]
def wsX5_init : List Cond := .code yX5_init cX5_init 1 none :: ((wsX5_init_r1 ++ (wsX5_init_r2 ++ wsX5_init_r3)) ++ wsX40 ++ wsX50 ++ wsX10 ++ wsX00 ++ wsX20 ++ wsX30)
def wsX5_window : List Cond := .code yX5_window cX5_window 6 (some .int) :: ([.classLink RX5 33 "java/lang/IllegalArgumentException", .initialized "java/lang/IllegalArgumentException", .classLink RX5 40 "java/lang/IndexOutOfBoundsException", .initialized "java/lang/IndexOutOfBoundsException", .classLink RX5 49 "java/lang/IllegalStateException", .initialized "java/lang/IllegalStateException", .fieldLink RX5 12 "GlassRopes" "windows" "LGlassRopes$Windows;", .methodLink RX5 54 yX4_put, .instanceMethod yX4_put, .selects RX4 yX4_put yX4_put, .initialized RX4, .code yX4_put cX4_put 6 (some .int), .fieldLink RX4 15 "GlassRopes$Windows" "x" "[I", .fieldLink RX4 9 "GlassRopes$Windows" "size" "I", .fieldLink RX4 19 "GlassRopes$Windows" "y" "[I", .fieldLink RX4 22 "GlassRopes$Windows" "width" "[I", .fieldLink RX4 25 "GlassRopes$Windows" "height" "[I", .fieldLink RX4 28 "GlassRopes$Windows" "worth" "[I"] ++ wsX50 ++ wsX40 ++ (vx_atS RX5 37 "java/lang/IllegalArgumentException" ["java/lang/RuntimeException", "java/lang/Exception"]).filter goodWord ++ (vx_atS RX5 44 "java/lang/IndexOutOfBoundsException" ["java/lang/RuntimeException", "java/lang/Exception"]).filter goodWord ++ (vx_atS RX5 53 "java/lang/IllegalStateException" ["java/lang/RuntimeException", "java/lang/Exception"]).filter goodWord)
def wsX5_isColumn : List Cond := .code yX5_isColumn cX5_isColumn 1 (some .boolean) :: ([])
def wsX5_rope : List Cond := .code yX5_rope cX5_rope 4 (some .int) :: ([.classLink RX5 40 "java/lang/IndexOutOfBoundsException", .initialized "java/lang/IndexOutOfBoundsException", .classLink RX5 33 "java/lang/IllegalArgumentException", .initialized "java/lang/IllegalArgumentException", .classLink RX5 49 "java/lang/IllegalStateException", .initialized "java/lang/IllegalStateException", .fieldLink RX5 26 "GlassRopes" "now" "LGlassRopes$Course;", .methodLink RX5 58 yX5_isColumn, .static yX5_isColumn, .initialized RX5, .code yX5_isColumn cX5_isColumn 1 (some .boolean), .methodLink RX5 73 yX3_hangAt, .instanceMethod yX3_hangAt, .selects RX3 yX3_hangAt yX3_hangAt, .initialized RX3, .code yX3_hangAt cX3_hangAt 3 (some .boolean), .fieldLink RX3 9 "GlassRopes$Ropes" "size" "I", .fieldLink RX3 15 "GlassRopes$Ropes" "column" "[I", .methodLink RX5 78 yX3_put, .instanceMethod yX3_put, .selects RX3 yX3_put yX3_put, .code yX3_put cX3_put 4 (some .int), .fieldLink RX3 22 "GlassRopes$Ropes" "strength" "[I", .fieldLink RX3 25 "GlassRopes$Ropes" "toRight" "[Z"] ++ wsX50 ++ wsX00 ++ wsX30 ++ (vx_atS RX5 44 "java/lang/IndexOutOfBoundsException" ["java/lang/RuntimeException", "java/lang/Exception"]).filter goodWord ++ (vx_atS RX5 37 "java/lang/IllegalArgumentException" ["java/lang/RuntimeException", "java/lang/Exception"]).filter goodWord ++ (vx_atS RX5 53 "java/lang/IllegalStateException" ["java/lang/RuntimeException", "java/lang/Exception"]).filter goodWord)
def wsX5_feast : List Cond := .code yX5_feast cX5_feast 3 (some .int) :: ([.classLink RX5 33 "java/lang/IllegalArgumentException", .initialized "java/lang/IllegalArgumentException", .classLink RX5 49 "java/lang/IllegalStateException", .initialized "java/lang/IllegalStateException", .fieldLink RX5 19 "GlassRopes" "feasts" "LGlassRopes$Feasts;", .methodLink RX5 86 yX1_put, .instanceMethod yX1_put, .selects RX1 yX1_put yX1_put, .initialized RX1, .code yX1_put cX1_put 3 (some .int), .fieldLink RX1 15 "GlassRopes$Feasts" "every" "[I", .fieldLink RX1 9 "GlassRopes$Feasts" "size" "I", .fieldLink RX1 19 "GlassRopes$Feasts" "on" "[I"] ++ wsX50 ++ wsX10 ++ (vx_atS RX5 37 "java/lang/IllegalArgumentException" ["java/lang/RuntimeException", "java/lang/Exception"]).filter goodWord ++ (vx_atS RX5 53 "java/lang/IllegalStateException" ["java/lang/RuntimeException", "java/lang/Exception"]).filter goodWord)
def wsX5_setWind : List Cond := .code yX5_setWind cX5_setWind 3 (some .int) :: ([.classLink RX5 33 "java/lang/IllegalArgumentException", .initialized "java/lang/IllegalArgumentException", .fieldLink RX5 26 "GlassRopes" "now" "LGlassRopes$Course;"] ++ wsX50 ++ wsX00 ++ (vx_atS RX5 37 "java/lang/IllegalArgumentException" ["java/lang/RuntimeException", "java/lang/Exception"]).filter goodWord)
def wsX5_isRope : List Cond := .code yX5_isRope cX5_isRope 2 (some .boolean) :: ([.fieldLink RX5 26 "GlassRopes" "now" "LGlassRopes$Course;"] ++ wsX50 ++ wsX00 ++ wsX30)
def wsX5_move_r1 : List Cond := [Cond.classLink RX5 40 "java/lang/IndexOutOfBoundsException", Cond.initialized "java/lang/IndexOutOfBoundsException", Cond.classLink RX5 49 "java/lang/IllegalStateException", Cond.initialized "java/lang/IllegalStateException", Cond.fieldLink RX5 26 "GlassRopes" "now" "LGlassRopes$Course;", Cond.methodLink RX5 94 yX5_isRope, Cond.instanceMethod yX5_isRope, Cond.selects RX5 yX5_isRope yX5_isRope, Cond.initialized RX5, Cond.code yX5_isRope cX5_isRope 2 (some .boolean), Cond.methodLink RX5 58 yX5_isColumn, Cond.static yX5_isColumn, Cond.code yX5_isColumn cX5_isColumn 1 (some .boolean), Cond.methodLink RX5 73 yX3_hangAt, Cond.instanceMethod yX3_hangAt, Cond.selects RX3 yX3_hangAt yX3_hangAt, Cond.initialized RX3, Cond.code yX3_hangAt cX3_hangAt 3 (some .boolean), Cond.fieldLink RX3 9 "GlassRopes$Ropes" "size" "I", Cond.fieldLink RX3 15 "GlassRopes$Ropes" "column" "[I", Cond.methodLink RX5 105 yX3_rehang, Cond.instanceMethod yX3_rehang, Cond.selects RX3 yX3_rehang yX3_rehang, Cond.code yX3_rehang cX3_rehang 3 none]
def wsX5_move_r2 : List Cond := [Cond.fieldLink RX3 19 "GlassRopes$Ropes" "row" "[I", Cond.fieldLink RX3 32 "GlassRopes$Ropes" "moved" "[I"]
def wsX5_move : List Cond := .code yX5_move cX5_move 4 (some .int) :: ((wsX5_move_r1 ++ wsX5_move_r2) ++ wsX50 ++ wsX00 ++ wsX30 ++ (vx_atS RX5 44 "java/lang/IndexOutOfBoundsException" ["java/lang/RuntimeException", "java/lang/Exception"]).filter goodWord ++ (vx_atS RX5 53 "java/lang/IllegalStateException" ["java/lang/RuntimeException", "java/lang/Exception"]).filter goodWord)
def wsX5_turn : List Cond := .code yX5_turn cX5_turn 2 (some .boolean) :: ([.classLink RX5 40 "java/lang/IndexOutOfBoundsException", .initialized "java/lang/IndexOutOfBoundsException", .fieldLink RX5 26 "GlassRopes" "now" "LGlassRopes$Course;", .methodLink RX5 94 yX5_isRope, .instanceMethod yX5_isRope, .selects RX5 yX5_isRope yX5_isRope, .initialized RX5, .code yX5_isRope cX5_isRope 2 (some .boolean)] ++ wsX50 ++ wsX00 ++ wsX30 ++ (vx_atS RX5 44 "java/lang/IndexOutOfBoundsException" ["java/lang/RuntimeException", "java/lang/Exception"]).filter goodWord)
def wsX5_isWindow : List Cond := .code yX5_isWindow cX5_isWindow 2 (some .boolean) :: ([.fieldLink RX5 12 "GlassRopes" "windows" "LGlassRopes$Windows;"] ++ wsX50 ++ wsX40)
def wsX5_wipe_r1 : List Cond := [Cond.classLink RX5 40 "java/lang/IndexOutOfBoundsException", Cond.initialized "java/lang/IndexOutOfBoundsException", Cond.fieldLink RX5 12 "GlassRopes" "windows" "LGlassRopes$Windows;", Cond.fieldLink RX5 26 "GlassRopes" "now" "LGlassRopes$Course;", Cond.methodLink RX5 115 yX5_isWindow, Cond.instanceMethod yX5_isWindow, Cond.selects RX5 yX5_isWindow yX5_isWindow, Cond.initialized RX5, Cond.code yX5_isWindow cX5_isWindow 2 (some .boolean), Cond.methodLink RX5 124 yX4_wipeOff, Cond.instanceMethod yX4_wipeOff, Cond.selects RX4 yX4_wipeOff yX4_wipeOff, Cond.initialized RX4, Cond.code yX4_wipeOff cX4_wipeOff 6 (some .int), Cond.fieldLink RX4 15 "GlassRopes$Windows" "x" "[I", Cond.fieldLink RX4 22 "GlassRopes$Windows" "width" "[I", Cond.fieldLink RX4 19 "GlassRopes$Windows" "y" "[I", Cond.fieldLink RX4 25 "GlassRopes$Windows" "height" "[I", Cond.methodLink RX4 56 yX2_takeOff, Cond.instanceMethod yX2_takeOff, Cond.selects RX2 yX2_takeOff yX2_takeOff, Cond.initialized RX2, Cond.code yX2_takeOff cX2_takeOff 6 (some .int), Cond.fieldLink RX2 9 "GlassRopes$Glass" "soot" "[I"]
def wsX5_wipe_r2 : List Cond := [Cond.methodLink RX2 25 Lib.Math.min.name, Cond.static Lib.Math.min.name, Cond.initialized "java/lang/Math", Cond.code Lib.Math.min.name Lib.Math.min.code 2 (some .int)]
def wsX5_wipe : List Cond := .code yX5_wipe cX5_wipe 2 (some .int) :: ((wsX5_wipe_r1 ++ wsX5_wipe_r2) ++ wsX50 ++ wsX00 ++ wsX40 ++ wsX20 ++ (vx_atS RX5 44 "java/lang/IndexOutOfBoundsException" ["java/lang/RuntimeException", "java/lang/Exception"]).filter goodWord)
def wsX5_pass_r1 : List Cond := [Cond.classLink RX5 33 "java/lang/IllegalArgumentException", Cond.initialized "java/lang/IllegalArgumentException", Cond.fieldLink RX5 26 "GlassRopes" "now" "LGlassRopes$Course;", Cond.fieldLink RX5 12 "GlassRopes" "windows" "LGlassRopes$Windows;", Cond.fieldLink RX5 19 "GlassRopes" "feasts" "LGlassRopes$Feasts;", Cond.methodLink RX5 133 yX0_goOn, Cond.instanceMethod yX0_goOn, Cond.selects RX0 yX0_goOn yX0_goOn, Cond.initialized RX0, Cond.code yX0_goOn cX0_goOn 5 none, Cond.methodLink RX0 43 yX0_goOneDay, Cond.instanceMethod yX0_goOneDay, Cond.selects RX0 yX0_goOneDay yX0_goOneDay, Cond.code yX0_goOneDay cX0_goOneDay 3 none, Cond.fieldLink RX0 10 "GlassRopes$Course" "glass" "LGlassRopes$Glass;", Cond.fieldLink RX0 23 "GlassRopes$Course" "wind" "I", Cond.fieldLink RX0 27 "GlassRopes$Course" "day" "I", Cond.fieldLink RX0 30 "GlassRopes$Course" "coins" "I", Cond.fieldLink RX0 33 "GlassRopes$Course" "feastDays" "I", Cond.fieldLink RX0 19 "GlassRopes$Course" "ropes" "LGlassRopes$Ropes;", Cond.methodLink RX0 47 yX2_gather, Cond.instanceMethod yX2_gather, Cond.selects RX2 yX2_gather yX2_gather, Cond.initialized RX2]
def wsX5_pass_r2 : List Cond := [Cond.code yX2_gather cX2_gather 6 none, Cond.fieldLink RX2 9 "GlassRopes$Glass" "soot" "[I", Cond.methodLink RX2 25 Lib.Math.min.name, Cond.static Lib.Math.min.name, Cond.initialized "java/lang/Math", Cond.code Lib.Math.min.name Lib.Math.min.code 2 (some .int), Cond.methodLink RX2 21 yX2_broughtTo, Cond.static yX2_broughtTo, Cond.code yX2_broughtTo cX2_broughtTo 3 (some .int), Cond.methodLink RX2 30 Lib.Math.max.name, Cond.static Lib.Math.max.name, Cond.code Lib.Math.max.name Lib.Math.max.code 2 (some .int), Cond.methodLink RX0 51 yX1_areOn, Cond.instanceMethod yX1_areOn, Cond.selects RX1 yX1_areOn yX1_areOn, Cond.initialized RX1, Cond.code yX1_areOn cX1_areOn 4 (some .boolean), Cond.fieldLink RX1 9 "GlassRopes$Feasts" "size" "I", Cond.fieldLink RX1 15 "GlassRopes$Feasts" "every" "[I", Cond.fieldLink RX1 19 "GlassRopes$Feasts" "on" "[I", Cond.methodLink RX0 57 yX4_allBring, Cond.instanceMethod yX4_allBring, Cond.selects RX4 yX4_allBring yX4_allBring, Cond.initialized RX4]
def wsX5_pass_r3 : List Cond := [Cond.code yX4_allBring cX4_allBring 4 (some .int), Cond.fieldLink RX4 9 "GlassRopes$Windows" "size" "I", Cond.methodLink RX4 38 yX4_brings, Cond.instanceMethod yX4_brings, Cond.selects RX4 yX4_brings yX4_brings, Cond.code yX4_brings cX4_brings 3 (some .int), Cond.fieldLink RX4 28 "GlassRopes$Windows" "worth" "[I", Cond.methodLink RX4 47 Lib.Math.max.name, Cond.methodLink RX4 52 yX4_panes, Cond.instanceMethod yX4_panes, Cond.selects RX4 yX4_panes yX4_panes, Cond.code yX4_panes cX4_panes 2 (some .int), Cond.fieldLink RX4 22 "GlassRopes$Windows" "width" "[I", Cond.fieldLink RX4 25 "GlassRopes$Windows" "height" "[I", Cond.methodLink RX4 31 yX4_added, Cond.instanceMethod yX4_added, Cond.selects RX4 yX4_added yX4_added, Cond.code yX4_added cX4_added 6 (some .int), Cond.fieldLink RX4 15 "GlassRopes$Windows" "x" "[I", Cond.fieldLink RX4 19 "GlassRopes$Windows" "y" "[I", Cond.methodLink RX4 41 yX2_at, Cond.instanceMethod yX2_at, Cond.selects RX2 yX2_at yX2_at, Cond.code yX2_at cX2_at 3 (some .int)]
def wsX5_pass_r4 : List Cond := [Cond.methodLink RX0 63 yX3_work, Cond.instanceMethod yX3_work, Cond.selects RX3 yX3_work yX3_work, Cond.initialized RX3, Cond.code yX3_work cX3_work 3 none, Cond.fieldLink RX3 9 "GlassRopes$Ropes" "size" "I", Cond.methodLink RX3 35 yX3_workOnOne, Cond.instanceMethod yX3_workOnOne, Cond.selects RX3 yX3_workOnOne yX3_workOnOne, Cond.code yX3_workOnOne cX3_workOnOne 6 none, Cond.fieldLink RX3 22 "GlassRopes$Ropes" "strength" "[I", Cond.fieldLink RX3 15 "GlassRopes$Ropes" "column" "[I", Cond.fieldLink RX3 19 "GlassRopes$Ropes" "row" "[I", Cond.fieldLink RX3 29 "GlassRopes$Ropes" "cleaned" "[I", Cond.methodLink RX3 39 yX2_takeOff, Cond.instanceMethod yX2_takeOff, Cond.selects RX2 yX2_takeOff yX2_takeOff, Cond.code yX2_takeOff cX2_takeOff 6 (some .int), Cond.methodLink RX3 45 yX3_nextFreeColumn, Cond.instanceMethod yX3_nextFreeColumn, Cond.selects RX3 yX3_nextFreeColumn yX3_nextFreeColumn, Cond.code yX3_nextFreeColumn cX3_nextFreeColumn 5 (some .int), Cond.fieldLink RX3 25 "GlassRopes$Ropes" "toRight" "[Z", Cond.methodLink RX3 53 yX3_hangAt]
def wsX5_pass_r5 : List Cond := [Cond.instanceMethod yX3_hangAt, Cond.selects RX3 yX3_hangAt yX3_hangAt, Cond.code yX3_hangAt cX3_hangAt 3 (some .boolean), Cond.methodLink RX3 49 yX3_rehang, Cond.instanceMethod yX3_rehang, Cond.selects RX3 yX3_rehang yX3_rehang, Cond.code yX3_rehang cX3_rehang 3 none, Cond.fieldLink RX3 32 "GlassRopes$Ropes" "moved" "[I"]
def wsX5_pass : List Cond := .code yX5_pass cX5_pass 3 (some .int) :: ((wsX5_pass_r1 ++ (wsX5_pass_r2 ++ (wsX5_pass_r3 ++ (wsX5_pass_r4 ++ wsX5_pass_r5)))) ++ wsX50 ++ wsX00 ++ wsX20 ++ wsX10 ++ wsX40 ++ wsX30 ++ (vx_atS RX5 37 "java/lang/IllegalArgumentException" ["java/lang/RuntimeException", "java/lang/Exception"]).filter goodWord)
def wsX5_soot : List Cond := .code yX5_soot cX5_soot 3 (some .int) :: ([.classLink RX5 40 "java/lang/IndexOutOfBoundsException", .initialized "java/lang/IndexOutOfBoundsException", .fieldLink RX5 26 "GlassRopes" "now" "LGlassRopes$Course;", .methodLink RX5 58 yX5_isColumn, .static yX5_isColumn, .initialized RX5, .code yX5_isColumn cX5_isColumn 1 (some .boolean), .methodLink RX5 139 yX2_at, .instanceMethod yX2_at, .selects RX2 yX2_at yX2_at, .initialized RX2, .code yX2_at cX2_at 3 (some .int), .fieldLink RX2 9 "GlassRopes$Glass" "soot" "[I"] ++ wsX50 ++ wsX00 ++ wsX20 ++ (vx_atS RX5 44 "java/lang/IndexOutOfBoundsException" ["java/lang/RuntimeException", "java/lang/Exception"]).filter goodWord)
def wsX5_about_r1 : List Cond := [Cond.classLink RX5 40 "java/lang/IndexOutOfBoundsException", Cond.initialized "java/lang/IndexOutOfBoundsException", Cond.fieldLink RX5 12 "GlassRopes" "windows" "LGlassRopes$Windows;", Cond.fieldLink RX5 26 "GlassRopes" "now" "LGlassRopes$Course;", Cond.methodLink RX5 115 yX5_isWindow, Cond.instanceMethod yX5_isWindow, Cond.selects RX5 yX5_isWindow yX5_isWindow, Cond.initialized RX5, Cond.code yX5_isWindow cX5_isWindow 2 (some .boolean), Cond.methodLink RX5 146 yX4_number, Cond.instanceMethod yX4_number, Cond.selects RX4 yX4_number yX4_number, Cond.initialized RX4, Cond.code yX4_number cX4_number 4 (some .int), Cond.fieldLink RX4 15 "GlassRopes$Windows" "x" "[I", Cond.fieldLink RX4 19 "GlassRopes$Windows" "y" "[I", Cond.fieldLink RX4 22 "GlassRopes$Windows" "width" "[I", Cond.fieldLink RX4 25 "GlassRopes$Windows" "height" "[I", Cond.fieldLink RX4 28 "GlassRopes$Windows" "worth" "[I", Cond.methodLink RX4 31 yX4_added, Cond.instanceMethod yX4_added, Cond.selects RX4 yX4_added yX4_added, Cond.code yX4_added cX4_added 6 (some .int), Cond.methodLink RX4 41 yX2_at]
def wsX5_about_r2 : List Cond := [Cond.instanceMethod yX2_at, Cond.selects RX2 yX2_at yX2_at, Cond.initialized RX2, Cond.code yX2_at cX2_at 3 (some .int), Cond.fieldLink RX2 9 "GlassRopes$Glass" "soot" "[I", Cond.methodLink RX4 35 yX4_darkest, Cond.instanceMethod yX4_darkest, Cond.selects RX4 yX4_darkest yX4_darkest, Cond.code yX4_darkest cX4_darkest 6 (some .int), Cond.methodLink RX4 47 Lib.Math.max.name, Cond.static Lib.Math.max.name, Cond.initialized "java/lang/Math", Cond.code Lib.Math.max.name Lib.Math.max.code 2 (some .int), Cond.methodLink RX4 38 yX4_brings, Cond.instanceMethod yX4_brings, Cond.selects RX4 yX4_brings yX4_brings, Cond.code yX4_brings cX4_brings 3 (some .int), Cond.methodLink RX4 52 yX4_panes, Cond.instanceMethod yX4_panes, Cond.selects RX4 yX4_panes yX4_panes, Cond.code yX4_panes cX4_panes 2 (some .int)]
def wsX5_about : List Cond := .code yX5_about cX5_about 3 (some .int) :: ((wsX5_about_r1 ++ wsX5_about_r2) ++ wsX50 ++ wsX00 ++ wsX40 ++ wsX20 ++ (vx_atS RX5 44 "java/lang/IndexOutOfBoundsException" ["java/lang/RuntimeException", "java/lang/Exception"]).filter goodWord)
def wsX5_told : List Cond := .code yX5_told cX5_told 3 (some .int) :: ([.classLink RX5 40 "java/lang/IndexOutOfBoundsException", .initialized "java/lang/IndexOutOfBoundsException", .fieldLink RX5 26 "GlassRopes" "now" "LGlassRopes$Course;", .methodLink RX5 94 yX5_isRope, .instanceMethod yX5_isRope, .selects RX5 yX5_isRope yX5_isRope, .initialized RX5, .code yX5_isRope cX5_isRope 2 (some .boolean), .methodLink RX5 152 yX3_number, .instanceMethod yX3_number, .selects RX3 yX3_number yX3_number, .initialized RX3, .code yX3_number cX3_number 3 (some .int), .fieldLink RX3 15 "GlassRopes$Ropes" "column" "[I", .fieldLink RX3 19 "GlassRopes$Ropes" "row" "[I", .fieldLink RX3 22 "GlassRopes$Ropes" "strength" "[I", .fieldLink RX3 25 "GlassRopes$Ropes" "toRight" "[Z", .fieldLink RX3 29 "GlassRopes$Ropes" "cleaned" "[I", .fieldLink RX3 32 "GlassRopes$Ropes" "moved" "[I"] ++ wsX50 ++ wsX00 ++ wsX30 ++ (vx_atS RX5 44 "java/lang/IndexOutOfBoundsException" ["java/lang/RuntimeException", "java/lang/Exception"]).filter goodWord)
def wsX5_number_r1 : List Cond := [Cond.fieldLink RX5 26 "GlassRopes" "now" "LGlassRopes$Course;", Cond.fieldLink RX5 12 "GlassRopes" "windows" "LGlassRopes$Windows;", Cond.fieldLink RX5 19 "GlassRopes" "feasts" "LGlassRopes$Feasts;", Cond.methodLink RX5 172 yX2_total, Cond.instanceMethod yX2_total, Cond.selects RX2 yX2_total yX2_total, Cond.initialized RX2, Cond.code yX2_total cX2_total 3 (some .int), Cond.fieldLink RX2 9 "GlassRopes$Glass" "soot" "[I", Cond.methodLink RX5 199 yX2_cleanPanes, Cond.instanceMethod yX2_cleanPanes, Cond.selects RX2 yX2_cleanPanes yX2_cleanPanes, Cond.code yX2_cleanPanes cX2_cleanPanes 3 (some .int), Cond.methodLink RX5 176 yX3_allCleaned, Cond.instanceMethod yX3_allCleaned, Cond.selects RX3 yX3_allCleaned yX3_allCleaned, Cond.initialized RX3, Cond.code yX3_allCleaned cX3_allCleaned 3 (some .int), Cond.fieldLink RX3 9 "GlassRopes$Ropes" "size" "I", Cond.fieldLink RX3 29 "GlassRopes$Ropes" "cleaned" "[I", Cond.methodLink RX5 205 yX4_allBring, Cond.instanceMethod yX4_allBring, Cond.selects RX4 yX4_allBring yX4_allBring, Cond.initialized RX4]
def wsX5_number_r2 : List Cond := [Cond.code yX4_allBring cX4_allBring 4 (some .int), Cond.fieldLink RX4 9 "GlassRopes$Windows" "size" "I", Cond.methodLink RX4 38 yX4_brings, Cond.instanceMethod yX4_brings, Cond.selects RX4 yX4_brings yX4_brings, Cond.code yX4_brings cX4_brings 3 (some .int), Cond.fieldLink RX4 28 "GlassRopes$Windows" "worth" "[I", Cond.methodLink RX4 47 Lib.Math.max.name, Cond.static Lib.Math.max.name, Cond.initialized "java/lang/Math", Cond.code Lib.Math.max.name Lib.Math.max.code 2 (some .int), Cond.methodLink RX4 52 yX4_panes, Cond.instanceMethod yX4_panes, Cond.selects RX4 yX4_panes yX4_panes, Cond.code yX4_panes cX4_panes 2 (some .int), Cond.fieldLink RX4 22 "GlassRopes$Windows" "width" "[I", Cond.fieldLink RX4 25 "GlassRopes$Windows" "height" "[I", Cond.methodLink RX4 31 yX4_added, Cond.instanceMethod yX4_added, Cond.selects RX4 yX4_added yX4_added, Cond.code yX4_added cX4_added 6 (some .int), Cond.fieldLink RX4 15 "GlassRopes$Windows" "x" "[I", Cond.fieldLink RX4 19 "GlassRopes$Windows" "y" "[I", Cond.methodLink RX4 41 yX2_at]
def wsX5_number_r3 : List Cond := [Cond.instanceMethod yX2_at, Cond.selects RX2 yX2_at yX2_at, Cond.code yX2_at cX2_at 3 (some .int)]
def wsX5_number : List Cond := .code yX5_number cX5_number 2 (some .int) :: ((wsX5_number_r1 ++ (wsX5_number_r2 ++ wsX5_number_r3)) ++ wsX50 ++ wsX00 ++ wsX40 ++ wsX30 ++ wsX10 ++ wsX20)
def wsX5_count_r1 : List Cond := [Cond.classLink RX5 40 "java/lang/IndexOutOfBoundsException", Cond.initialized "java/lang/IndexOutOfBoundsException", Cond.methodLink RX5 156 yX5_number, Cond.instanceMethod yX5_number, Cond.selects RX5 yX5_number yX5_number, Cond.initialized RX5, Cond.code yX5_number cX5_number 2 (some .int), Cond.fieldLink RX5 26 "GlassRopes" "now" "LGlassRopes$Course;", Cond.fieldLink RX5 12 "GlassRopes" "windows" "LGlassRopes$Windows;", Cond.fieldLink RX5 19 "GlassRopes" "feasts" "LGlassRopes$Feasts;", Cond.methodLink RX5 172 yX2_total, Cond.instanceMethod yX2_total, Cond.selects RX2 yX2_total yX2_total, Cond.initialized RX2, Cond.code yX2_total cX2_total 3 (some .int), Cond.fieldLink RX2 9 "GlassRopes$Glass" "soot" "[I", Cond.methodLink RX5 199 yX2_cleanPanes, Cond.instanceMethod yX2_cleanPanes, Cond.selects RX2 yX2_cleanPanes yX2_cleanPanes, Cond.code yX2_cleanPanes cX2_cleanPanes 3 (some .int), Cond.methodLink RX5 176 yX3_allCleaned, Cond.instanceMethod yX3_allCleaned, Cond.selects RX3 yX3_allCleaned yX3_allCleaned, Cond.initialized RX3]
def wsX5_count_r2 : List Cond := [Cond.code yX3_allCleaned cX3_allCleaned 3 (some .int), Cond.fieldLink RX3 9 "GlassRopes$Ropes" "size" "I", Cond.fieldLink RX3 29 "GlassRopes$Ropes" "cleaned" "[I", Cond.methodLink RX5 205 yX4_allBring, Cond.instanceMethod yX4_allBring, Cond.selects RX4 yX4_allBring yX4_allBring, Cond.initialized RX4, Cond.code yX4_allBring cX4_allBring 4 (some .int), Cond.fieldLink RX4 9 "GlassRopes$Windows" "size" "I", Cond.methodLink RX4 38 yX4_brings, Cond.instanceMethod yX4_brings, Cond.selects RX4 yX4_brings yX4_brings, Cond.code yX4_brings cX4_brings 3 (some .int), Cond.fieldLink RX4 28 "GlassRopes$Windows" "worth" "[I", Cond.methodLink RX4 47 Lib.Math.max.name, Cond.static Lib.Math.max.name, Cond.initialized "java/lang/Math", Cond.code Lib.Math.max.name Lib.Math.max.code 2 (some .int), Cond.methodLink RX4 52 yX4_panes, Cond.instanceMethod yX4_panes, Cond.selects RX4 yX4_panes yX4_panes, Cond.code yX4_panes cX4_panes 2 (some .int), Cond.fieldLink RX4 22 "GlassRopes$Windows" "width" "[I", Cond.fieldLink RX4 25 "GlassRopes$Windows" "height" "[I"]
def wsX5_count_r3 : List Cond := [Cond.methodLink RX4 31 yX4_added, Cond.instanceMethod yX4_added, Cond.selects RX4 yX4_added yX4_added, Cond.code yX4_added cX4_added 6 (some .int), Cond.fieldLink RX4 15 "GlassRopes$Windows" "x" "[I", Cond.fieldLink RX4 19 "GlassRopes$Windows" "y" "[I", Cond.methodLink RX4 41 yX2_at, Cond.instanceMethod yX2_at, Cond.selects RX2 yX2_at yX2_at, Cond.code yX2_at cX2_at 3 (some .int)]
def wsX5_count : List Cond := .code yX5_count cX5_count 2 (some .int) :: ((wsX5_count_r1 ++ (wsX5_count_r2 ++ wsX5_count_r3)) ++ wsX50 ++ wsX00 ++ wsX40 ++ wsX30 ++ wsX10 ++ wsX20 ++ (vx_atS RX5 44 "java/lang/IndexOutOfBoundsException" ["java/lang/RuntimeException", "java/lang/Exception"]).filter goodWord)
def wsX5_isFeast : List Cond := .code yX5_isFeast cX5_isFeast 2 (some .boolean) :: ([.classLink RX5 33 "java/lang/IllegalArgumentException", .initialized "java/lang/IllegalArgumentException", .fieldLink RX5 19 "GlassRopes" "feasts" "LGlassRopes$Feasts;", .fieldLink RX5 26 "GlassRopes" "now" "LGlassRopes$Course;", .methodLink RX5 162 yX1_areOn, .instanceMethod yX1_areOn, .selects RX1 yX1_areOn yX1_areOn, .initialized RX1, .code yX1_areOn cX1_areOn 4 (some .boolean), .fieldLink RX1 9 "GlassRopes$Feasts" "size" "I", .fieldLink RX1 15 "GlassRopes$Feasts" "every" "[I", .fieldLink RX1 19 "GlassRopes$Feasts" "on" "[I"] ++ wsX50 ++ wsX00 ++ wsX10 ++ (vx_atS RX5 37 "java/lang/IllegalArgumentException" ["java/lang/RuntimeException", "java/lang/Exception"]).filter goodWord)
def wsX5_next : List Cond := .code yX5_next cX5_next 1 (some .int) :: ([.fieldLink RX5 19 "GlassRopes" "feasts" "LGlassRopes$Feasts;", .fieldLink RX5 26 "GlassRopes" "now" "LGlassRopes$Course;", .methodLink RX5 165 yX1_daysUntil, .instanceMethod yX1_daysUntil, .selects RX1 yX1_daysUntil yX1_daysUntil, .initialized RX1, .code yX1_daysUntil cX1_daysUntil 3 (some .int), .methodLink RX1 22 yX1_areOn, .instanceMethod yX1_areOn, .selects RX1 yX1_areOn yX1_areOn, .code yX1_areOn cX1_areOn 4 (some .boolean), .fieldLink RX1 9 "GlassRopes$Feasts" "size" "I", .fieldLink RX1 15 "GlassRopes$Feasts" "every" "[I", .fieldLink RX1 19 "GlassRopes$Feasts" "on" "[I"] ++ wsX50 ++ wsX00 ++ wsX10)
def wsX5_mean : List Cond := .code yX5_mean cX5_mean 1 (some .double) :: ([.fieldLink RX5 26 "GlassRopes" "now" "LGlassRopes$Course;", .constantDouble RX5 193 (4636455816377925632), .methodLink RX5 172 yX2_total, .instanceMethod yX2_total, .selects RX2 yX2_total yX2_total, .initialized RX2, .code yX2_total cX2_total 3 (some .int), .fieldLink RX2 9 "GlassRopes$Glass" "soot" "[I"] ++ wsX50 ++ wsX00 ++ wsX20)
def wsX6_init : List Cond := .code yX6_init cX6_init 1 none :: ([.methodLink RX6 1 objectInit, .instanceMethod objectInit, .code objectInit ⟨#[0xb1]⟩ 1 none, .classLink RX6 7 "[[I", .arrayClass .int, .fieldLink RX6 9 "GlassRopesLaw$Sim" "soot" "[[I", .classLink RX6 14 "[I", .fieldLink RX6 16 "GlassRopesLaw$Sim" "windows" "[[I", .fieldLink RX6 19 "GlassRopesLaw$Sim" "ropes" "[[I", .fieldLink RX6 22 "GlassRopesLaw$Sim" "feasts" "[[I"] ++ wsX60)
def wsX6_with : List Cond := .code yX6_with cX6_with 4 (some (.array (.array .int))) :: ([.classLink RX6 14 "[I"])
def wsX6_ropeAt : List Cond := .code yX6_ropeAt cX6_ropeAt 3 (some .int) :: ([.fieldLink RX6 19 "GlassRopesLaw$Sim" "ropes" "[[I"] ++ wsX60)
def wsX6_isFeast : List Cond := .code yX6_isFeast cX6_isFeast 6 (some .boolean) :: ([.fieldLink RX6 22 "GlassRopesLaw$Sim" "feasts" "[[I"] ++ wsX60)
def wsX6_of : List Cond := .code yX6_of cX6_of 6 (some (.array .int)) :: ([.arrayClass .int, .fieldLink RX6 9 "GlassRopesLaw$Sim" "soot" "[[I"] ++ wsX60)
def wsX6_bring : List Cond := .code yX6_bring cX6_bring 6 (some .int) :: ([.fieldLink RX6 16 "GlassRopesLaw$Sim" "windows" "[[I", .methodLink RX6 47 yX6_of, .instanceMethod yX6_of, .selects RX6 yX6_of yX6_of, .initialized RX6, .code yX6_of cX6_of 6 (some (.array .int)), .arrayClass .int, .fieldLink RX6 9 "GlassRopesLaw$Sim" "soot" "[[I"] ++ wsX60)
def wsX6_pass_r1 : List Cond := [Cond.fieldLink RX6 30 "GlassRopesLaw$Sim" "wind" "I", Cond.fieldLink RX6 9 "GlassRopesLaw$Sim" "soot" "[[I", Cond.fieldLink RX6 26 "GlassRopesLaw$Sim" "day" "I", Cond.fieldLink RX6 33 "GlassRopesLaw$Sim" "coins" "I", Cond.fieldLink RX6 36 "GlassRopesLaw$Sim" "gone" "I", Cond.fieldLink RX6 19 "GlassRopesLaw$Sim" "ropes" "[[I", Cond.methodLink RX6 51 yX6_isFeast, Cond.instanceMethod yX6_isFeast, Cond.selects RX6 yX6_isFeast yX6_isFeast, Cond.initialized RX6, Cond.code yX6_isFeast cX6_isFeast 6 (some .boolean), Cond.fieldLink RX6 22 "GlassRopesLaw$Sim" "feasts" "[[I", Cond.methodLink RX6 55 yX6_bring, Cond.instanceMethod yX6_bring, Cond.selects RX6 yX6_bring yX6_bring, Cond.code yX6_bring cX6_bring 6 (some .int), Cond.fieldLink RX6 16 "GlassRopesLaw$Sim" "windows" "[[I", Cond.methodLink RX6 47 yX6_of, Cond.instanceMethod yX6_of, Cond.selects RX6 yX6_of yX6_of, Cond.code yX6_of cX6_of 6 (some (.array .int)), Cond.arrayClass .int, Cond.methodLink RX6 59 yX6_ropeAt, Cond.instanceMethod yX6_ropeAt]
def wsX6_pass_r2 : List Cond := [Cond.selects RX6 yX6_ropeAt yX6_ropeAt, Cond.code yX6_ropeAt cX6_ropeAt 3 (some .int)]
def wsX6_pass : List Cond := .code yX6_pass cX6_pass 9 none :: ((wsX6_pass_r1 ++ wsX6_pass_r2) ++ wsX60)
def wsX6_behind_r1 : List Cond := [Cond.methodLink RX6 63 yX6_pass, Cond.instanceMethod yX6_pass, Cond.selects RX6 yX6_pass yX6_pass, Cond.initialized RX6, Cond.code yX6_pass cX6_pass 9 none, Cond.fieldLink RX6 30 "GlassRopesLaw$Sim" "wind" "I", Cond.fieldLink RX6 9 "GlassRopesLaw$Sim" "soot" "[[I", Cond.fieldLink RX6 26 "GlassRopesLaw$Sim" "day" "I", Cond.fieldLink RX6 33 "GlassRopesLaw$Sim" "coins" "I", Cond.fieldLink RX6 36 "GlassRopesLaw$Sim" "gone" "I", Cond.fieldLink RX6 19 "GlassRopesLaw$Sim" "ropes" "[[I", Cond.methodLink RX6 51 yX6_isFeast, Cond.instanceMethod yX6_isFeast, Cond.selects RX6 yX6_isFeast yX6_isFeast, Cond.code yX6_isFeast cX6_isFeast 6 (some .boolean), Cond.fieldLink RX6 22 "GlassRopesLaw$Sim" "feasts" "[[I", Cond.methodLink RX6 55 yX6_bring, Cond.instanceMethod yX6_bring, Cond.selects RX6 yX6_bring yX6_bring, Cond.code yX6_bring cX6_bring 6 (some .int), Cond.fieldLink RX6 16 "GlassRopesLaw$Sim" "windows" "[[I", Cond.methodLink RX6 47 yX6_of, Cond.instanceMethod yX6_of, Cond.selects RX6 yX6_of yX6_of]
def wsX6_behind_r2 : List Cond := [Cond.code yX6_of cX6_of 6 (some (.array .int)), Cond.arrayClass .int, Cond.methodLink RX6 59 yX6_ropeAt, Cond.instanceMethod yX6_ropeAt, Cond.selects RX6 yX6_ropeAt yX6_ropeAt, Cond.code yX6_ropeAt cX6_ropeAt 3 (some .int)]
def wsX6_behind : List Cond := .code yX6_behind cX6_behind 3 (some (.object "GlassRopesLaw$Sim")) :: ((wsX6_behind_r1 ++ wsX6_behind_r2) ++ wsX60)
def wsX6_next : List Cond := .code yX6_next cX6_next 2 (some .int) :: ([.fieldLink RX6 26 "GlassRopesLaw$Sim" "day" "I", .methodLink RX6 51 yX6_isFeast, .instanceMethod yX6_isFeast, .selects RX6 yX6_isFeast yX6_isFeast, .initialized RX6, .code yX6_isFeast cX6_isFeast 6 (some .boolean), .fieldLink RX6 22 "GlassRopesLaw$Sim" "feasts" "[[I"] ++ wsX60)
def wsX6_sums : List Cond := .code yX6_sums cX6_sums 10 (some (.array .int)) :: ([.arrayClass .int, .fieldLink RX6 9 "GlassRopesLaw$Sim" "soot" "[[I", .fieldLink RX6 19 "GlassRopesLaw$Sim" "ropes" "[[I"] ++ wsX60)
def wsX6_isSame_r1 : List Cond := [Cond.arrayClass .int, Cond.fieldLink RX6 26 "GlassRopesLaw$Sim" "day" "I", Cond.fieldLink RX6 16 "GlassRopesLaw$Sim" "windows" "[[I", Cond.fieldLink RX6 19 "GlassRopesLaw$Sim" "ropes" "[[I", Cond.fieldLink RX6 22 "GlassRopesLaw$Sim" "feasts" "[[I", Cond.fieldLink RX6 30 "GlassRopesLaw$Sim" "wind" "I", Cond.fieldLink RX6 33 "GlassRopesLaw$Sim" "coins" "I", Cond.fieldLink RX6 36 "GlassRopesLaw$Sim" "gone" "I", Cond.fieldLink RX6 9 "GlassRopesLaw$Sim" "soot" "[[I", Cond.constantDouble RX6 88 (4636455816377925632), Cond.methodLink RX6 66 yX6_sums, Cond.instanceMethod yX6_sums, Cond.selects RX6 yX6_sums yX6_sums, Cond.initialized RX6, Cond.code yX6_sums cX6_sums 10 (some (.array .int)), Cond.methodLink RX6 55 yX6_bring, Cond.instanceMethod yX6_bring, Cond.selects RX6 yX6_bring yX6_bring, Cond.code yX6_bring cX6_bring 6 (some .int), Cond.methodLink RX6 47 yX6_of, Cond.instanceMethod yX6_of, Cond.selects RX6 yX6_of yX6_of, Cond.code yX6_of cX6_of 6 (some (.array .int)), Cond.methodLink RX6 70 yX5_count]
def wsX6_isSame_r2 : List Cond := [Cond.instanceMethod yX5_count, Cond.selects RX5 yX5_count yX5_count, Cond.initialized RX5, Cond.code yX5_count cX5_count 2 (some .int), Cond.classLink RX5 40 "java/lang/IndexOutOfBoundsException", Cond.initialized "java/lang/IndexOutOfBoundsException", Cond.methodLink RX5 156 yX5_number, Cond.instanceMethod yX5_number, Cond.selects RX5 yX5_number yX5_number, Cond.code yX5_number cX5_number 2 (some .int), Cond.fieldLink RX5 26 "GlassRopes" "now" "LGlassRopes$Course;", Cond.fieldLink RX5 12 "GlassRopes" "windows" "LGlassRopes$Windows;", Cond.fieldLink RX5 19 "GlassRopes" "feasts" "LGlassRopes$Feasts;", Cond.methodLink RX5 172 yX2_total, Cond.instanceMethod yX2_total, Cond.selects RX2 yX2_total yX2_total, Cond.initialized RX2, Cond.code yX2_total cX2_total 3 (some .int), Cond.fieldLink RX2 9 "GlassRopes$Glass" "soot" "[I", Cond.methodLink RX5 199 yX2_cleanPanes, Cond.instanceMethod yX2_cleanPanes, Cond.selects RX2 yX2_cleanPanes yX2_cleanPanes, Cond.code yX2_cleanPanes cX2_cleanPanes 3 (some .int), Cond.methodLink RX5 176 yX3_allCleaned]
def wsX6_isSame_r3 : List Cond := [Cond.instanceMethod yX3_allCleaned, Cond.selects RX3 yX3_allCleaned yX3_allCleaned, Cond.initialized RX3, Cond.code yX3_allCleaned cX3_allCleaned 3 (some .int), Cond.fieldLink RX3 9 "GlassRopes$Ropes" "size" "I", Cond.fieldLink RX3 29 "GlassRopes$Ropes" "cleaned" "[I", Cond.methodLink RX5 205 yX4_allBring, Cond.instanceMethod yX4_allBring, Cond.selects RX4 yX4_allBring yX4_allBring, Cond.initialized RX4, Cond.code yX4_allBring cX4_allBring 4 (some .int), Cond.fieldLink RX4 9 "GlassRopes$Windows" "size" "I", Cond.methodLink RX4 38 yX4_brings, Cond.instanceMethod yX4_brings, Cond.selects RX4 yX4_brings yX4_brings, Cond.code yX4_brings cX4_brings 3 (some .int), Cond.fieldLink RX4 28 "GlassRopes$Windows" "worth" "[I", Cond.methodLink RX4 47 Lib.Math.max.name, Cond.static Lib.Math.max.name, Cond.initialized "java/lang/Math", Cond.code Lib.Math.max.name Lib.Math.max.code 2 (some .int), Cond.methodLink RX4 52 yX4_panes, Cond.instanceMethod yX4_panes, Cond.selects RX4 yX4_panes yX4_panes]
def wsX6_isSame_r4 : List Cond := [Cond.code yX4_panes cX4_panes 2 (some .int), Cond.fieldLink RX4 22 "GlassRopes$Windows" "width" "[I", Cond.fieldLink RX4 25 "GlassRopes$Windows" "height" "[I", Cond.methodLink RX4 31 yX4_added, Cond.instanceMethod yX4_added, Cond.selects RX4 yX4_added yX4_added, Cond.code yX4_added cX4_added 6 (some .int), Cond.fieldLink RX4 15 "GlassRopes$Windows" "x" "[I", Cond.fieldLink RX4 19 "GlassRopes$Windows" "y" "[I", Cond.methodLink RX4 41 yX2_at, Cond.instanceMethod yX2_at, Cond.selects RX2 yX2_at yX2_at, Cond.code yX2_at cX2_at 3 (some .int), Cond.methodLink RX6 75 yX5_soot, Cond.instanceMethod yX5_soot, Cond.selects RX5 yX5_soot yX5_soot, Cond.code yX5_soot cX5_soot 3 (some .int), Cond.methodLink RX5 58 yX5_isColumn, Cond.static yX5_isColumn, Cond.code yX5_isColumn cX5_isColumn 1 (some .boolean), Cond.methodLink RX5 139 yX2_at, Cond.methodLink RX6 78 yX5_about, Cond.instanceMethod yX5_about, Cond.selects RX5 yX5_about yX5_about]
def wsX6_isSame_r5 : List Cond := [Cond.code yX5_about cX5_about 3 (some .int), Cond.methodLink RX5 115 yX5_isWindow, Cond.instanceMethod yX5_isWindow, Cond.selects RX5 yX5_isWindow yX5_isWindow, Cond.code yX5_isWindow cX5_isWindow 2 (some .boolean), Cond.methodLink RX5 146 yX4_number, Cond.instanceMethod yX4_number, Cond.selects RX4 yX4_number yX4_number, Cond.code yX4_number cX4_number 4 (some .int), Cond.methodLink RX4 35 yX4_darkest, Cond.instanceMethod yX4_darkest, Cond.selects RX4 yX4_darkest yX4_darkest, Cond.code yX4_darkest cX4_darkest 6 (some .int), Cond.methodLink RX6 81 yX5_told, Cond.instanceMethod yX5_told, Cond.selects RX5 yX5_told yX5_told, Cond.code yX5_told cX5_told 3 (some .int), Cond.methodLink RX5 94 yX5_isRope, Cond.instanceMethod yX5_isRope, Cond.selects RX5 yX5_isRope yX5_isRope, Cond.code yX5_isRope cX5_isRope 2 (some .boolean), Cond.methodLink RX5 152 yX3_number, Cond.instanceMethod yX3_number, Cond.selects RX3 yX3_number yX3_number]
def wsX6_isSame_r6 : List Cond := [Cond.code yX3_number cX3_number 3 (some .int), Cond.fieldLink RX3 15 "GlassRopes$Ropes" "column" "[I", Cond.fieldLink RX3 19 "GlassRopes$Ropes" "row" "[I", Cond.fieldLink RX3 22 "GlassRopes$Ropes" "strength" "[I", Cond.fieldLink RX3 25 "GlassRopes$Ropes" "toRight" "[Z", Cond.fieldLink RX3 32 "GlassRopes$Ropes" "moved" "[I", Cond.methodLink RX6 84 yX5_mean, Cond.instanceMethod yX5_mean, Cond.selects RX5 yX5_mean yX5_mean, Cond.code yX5_mean cX5_mean 1 (some .double), Cond.constantDouble RX5 193 (4636455816377925632), Cond.methodLink RX6 90 yX5_next, Cond.instanceMethod yX5_next, Cond.selects RX5 yX5_next yX5_next, Cond.code yX5_next cX5_next 1 (some .int), Cond.methodLink RX5 165 yX1_daysUntil, Cond.instanceMethod yX1_daysUntil, Cond.selects RX1 yX1_daysUntil yX1_daysUntil, Cond.initialized RX1, Cond.code yX1_daysUntil cX1_daysUntil 3 (some .int), Cond.methodLink RX1 22 yX1_areOn, Cond.instanceMethod yX1_areOn, Cond.selects RX1 yX1_areOn yX1_areOn, Cond.code yX1_areOn cX1_areOn 4 (some .boolean)]
def wsX6_isSame_r7 : List Cond := [Cond.fieldLink RX1 9 "GlassRopes$Feasts" "size" "I", Cond.fieldLink RX1 15 "GlassRopes$Feasts" "every" "[I", Cond.fieldLink RX1 19 "GlassRopes$Feasts" "on" "[I", Cond.methodLink RX6 93 yX6_next, Cond.instanceMethod yX6_next, Cond.selects RX6 yX6_next yX6_next, Cond.code yX6_next cX6_next 2 (some .int), Cond.methodLink RX6 51 yX6_isFeast, Cond.instanceMethod yX6_isFeast, Cond.selects RX6 yX6_isFeast yX6_isFeast, Cond.code yX6_isFeast cX6_isFeast 6 (some .boolean), Cond.methodLink RX6 94 yX5_isFeast, Cond.instanceMethod yX5_isFeast, Cond.selects RX5 yX5_isFeast yX5_isFeast, Cond.code yX5_isFeast cX5_isFeast 2 (some .boolean), Cond.classLink RX5 33 "java/lang/IllegalArgumentException", Cond.initialized "java/lang/IllegalArgumentException", Cond.methodLink RX5 162 yX1_areOn]
def wsX6_isSame : List Cond := .code yX6_isSame cX6_isSame 7 (some .boolean) :: ((wsX6_isSame_r1 ++ (wsX6_isSame_r2 ++ (wsX6_isSame_r3 ++ (wsX6_isSame_r4 ++ (wsX6_isSame_r5 ++ (wsX6_isSame_r6 ++ wsX6_isSame_r7)))))) ++ wsX60 ++ wsX50 ++ wsX00 ++ wsX40 ++ wsX30 ++ wsX10 ++ wsX20 ++ (vx_atS RX5 44 "java/lang/IndexOutOfBoundsException" ["java/lang/RuntimeException", "java/lang/Exception"]).filter goodWord ++ (vx_atS RX5 37 "java/lang/IllegalArgumentException" ["java/lang/RuntimeException", "java/lang/Exception"]).filter goodWord)
def wsJ9_max_7cf53 : List Cond := .code yJ9_max_7cf53 cJ9_max_7cf53 2 (some .int) :: ([])
def wsJ9_min_7cf53 : List Cond := .code yJ9_min_7cf53 cJ9_min_7cf53 2 (some .int) :: ([])
def wsL_below : List Cond := .code yL_below cL_below 2 (some .int) :: ([.constant RL 7 (2147483647)])
def wsL_cell : List Cond := .code yL_cell cL_cell 2 (some .int) :: ([.constant RL 8 (790386105)])
def wsL_act_r1 : List Cond := [Cond.fieldLink RL 15 "GlassRopesLaw$Sim" "windows" "[[I", Cond.arrayClass .int, Cond.fieldLink RL 31 "GlassRopesLaw$Sim" "ropes" "[[I", Cond.fieldLink RL 42 "GlassRopesLaw$Sim" "feasts" "[[I", Cond.fieldLink RL 48 "GlassRopesLaw$Sim" "wind" "I", Cond.fieldLink RL 66 "GlassRopesLaw$Sim" "soot" "[[I", Cond.fieldLink RL 72 "GlassRopesLaw$Sim" "coins" "I", Cond.methodLink RL 9 yL_below, Cond.static yL_below, Cond.initialized RL, Cond.code yL_below cL_below 2 (some .int), Cond.constant RL 7 (2147483647), Cond.methodLink RL 21 yX6_with, Cond.static yX6_with, Cond.initialized RX6, Cond.code yX6_with cX6_with 4 (some (.array (.array .int))), Cond.classLink RX6 14 "[I", Cond.methodLink RL 25 yX5_window, Cond.instanceMethod yX5_window, Cond.selects RX5 yX5_window yX5_window, Cond.initialized RX5, Cond.code yX5_window cX5_window 6 (some .int), Cond.classLink RX5 33 "java/lang/IllegalArgumentException", Cond.initialized "java/lang/IllegalArgumentException"]
def wsL_act_r2 : List Cond := [Cond.classLink RX5 40 "java/lang/IndexOutOfBoundsException", Cond.initialized "java/lang/IndexOutOfBoundsException", Cond.classLink RX5 49 "java/lang/IllegalStateException", Cond.initialized "java/lang/IllegalStateException", Cond.fieldLink RX5 12 "GlassRopes" "windows" "LGlassRopes$Windows;", Cond.methodLink RX5 54 yX4_put, Cond.instanceMethod yX4_put, Cond.selects RX4 yX4_put yX4_put, Cond.initialized RX4, Cond.code yX4_put cX4_put 6 (some .int), Cond.fieldLink RX4 15 "GlassRopes$Windows" "x" "[I", Cond.fieldLink RX4 9 "GlassRopes$Windows" "size" "I", Cond.fieldLink RX4 19 "GlassRopes$Windows" "y" "[I", Cond.fieldLink RX4 22 "GlassRopes$Windows" "width" "[I", Cond.fieldLink RX4 25 "GlassRopes$Windows" "height" "[I", Cond.fieldLink RX4 28 "GlassRopes$Windows" "worth" "[I", Cond.methodLink RL 34 yX6_ropeAt, Cond.instanceMethod yX6_ropeAt, Cond.selects RX6 yX6_ropeAt yX6_ropeAt, Cond.code yX6_ropeAt cX6_ropeAt 3 (some .int), Cond.fieldLink RX6 19 "GlassRopesLaw$Sim" "ropes" "[[I", Cond.methodLink RL 38 yX5_rope, Cond.instanceMethod yX5_rope, Cond.selects RX5 yX5_rope yX5_rope]
def wsL_act_r3 : List Cond := [Cond.code yX5_rope cX5_rope 4 (some .int), Cond.fieldLink RX5 26 "GlassRopes" "now" "LGlassRopes$Course;", Cond.methodLink RX5 58 yX5_isColumn, Cond.static yX5_isColumn, Cond.code yX5_isColumn cX5_isColumn 1 (some .boolean), Cond.methodLink RX5 73 yX3_hangAt, Cond.instanceMethod yX3_hangAt, Cond.selects RX3 yX3_hangAt yX3_hangAt, Cond.initialized RX3, Cond.code yX3_hangAt cX3_hangAt 3 (some .boolean), Cond.fieldLink RX3 9 "GlassRopes$Ropes" "size" "I", Cond.fieldLink RX3 15 "GlassRopes$Ropes" "column" "[I", Cond.methodLink RX5 78 yX3_put, Cond.instanceMethod yX3_put, Cond.selects RX3 yX3_put yX3_put, Cond.code yX3_put cX3_put 4 (some .int), Cond.fieldLink RX3 22 "GlassRopes$Ropes" "strength" "[I", Cond.fieldLink RX3 25 "GlassRopes$Ropes" "toRight" "[Z", Cond.methodLink RL 45 yX5_feast, Cond.instanceMethod yX5_feast, Cond.selects RX5 yX5_feast yX5_feast, Cond.code yX5_feast cX5_feast 3 (some .int), Cond.fieldLink RX5 19 "GlassRopes" "feasts" "LGlassRopes$Feasts;", Cond.methodLink RX5 86 yX1_put]
def wsL_act_r4 : List Cond := [Cond.instanceMethod yX1_put, Cond.selects RX1 yX1_put yX1_put, Cond.initialized RX1, Cond.code yX1_put cX1_put 3 (some .int), Cond.fieldLink RX1 15 "GlassRopes$Feasts" "every" "[I", Cond.fieldLink RX1 9 "GlassRopes$Feasts" "size" "I", Cond.fieldLink RX1 19 "GlassRopes$Feasts" "on" "[I", Cond.methodLink RL 52 yX5_setWind, Cond.instanceMethod yX5_setWind, Cond.selects RX5 yX5_setWind yX5_setWind, Cond.code yX5_setWind cX5_setWind 3 (some .int), Cond.methodLink RL 55 yX5_move, Cond.instanceMethod yX5_move, Cond.selects RX5 yX5_move yX5_move, Cond.code yX5_move cX5_move 4 (some .int), Cond.methodLink RX5 94 yX5_isRope, Cond.instanceMethod yX5_isRope, Cond.selects RX5 yX5_isRope yX5_isRope, Cond.code yX5_isRope cX5_isRope 2 (some .boolean), Cond.methodLink RX5 105 yX3_rehang, Cond.instanceMethod yX3_rehang, Cond.selects RX3 yX3_rehang yX3_rehang, Cond.code yX3_rehang cX3_rehang 3 none, Cond.fieldLink RX3 19 "GlassRopes$Ropes" "row" "[I"]
def wsL_act_r5 : List Cond := [Cond.fieldLink RX3 32 "GlassRopes$Ropes" "moved" "[I", Cond.methodLink RL 58 yX5_turn, Cond.instanceMethod yX5_turn, Cond.selects RX5 yX5_turn yX5_turn, Cond.code yX5_turn cX5_turn 2 (some .boolean), Cond.methodLink RL 62 yX6_of, Cond.instanceMethod yX6_of, Cond.selects RX6 yX6_of yX6_of, Cond.code yX6_of cX6_of 6 (some (.array .int)), Cond.fieldLink RX6 9 "GlassRopesLaw$Sim" "soot" "[[I", Cond.methodLink RL 69 yX5_wipe, Cond.instanceMethod yX5_wipe, Cond.selects RX5 yX5_wipe yX5_wipe, Cond.code yX5_wipe cX5_wipe 2 (some .int), Cond.methodLink RX5 115 yX5_isWindow, Cond.instanceMethod yX5_isWindow, Cond.selects RX5 yX5_isWindow yX5_isWindow, Cond.code yX5_isWindow cX5_isWindow 2 (some .boolean), Cond.methodLink RX5 124 yX4_wipeOff, Cond.instanceMethod yX4_wipeOff, Cond.selects RX4 yX4_wipeOff yX4_wipeOff, Cond.code yX4_wipeOff cX4_wipeOff 6 (some .int), Cond.methodLink RX4 56 yX2_takeOff, Cond.instanceMethod yX2_takeOff]
def wsL_act_r6 : List Cond := [Cond.selects RX2 yX2_takeOff yX2_takeOff, Cond.initialized RX2, Cond.code yX2_takeOff cX2_takeOff 6 (some .int), Cond.fieldLink RX2 9 "GlassRopes$Glass" "soot" "[I", Cond.methodLink RX2 25 Lib.Math.min.name, Cond.static Lib.Math.min.name, Cond.initialized "java/lang/Math", Cond.code Lib.Math.min.name Lib.Math.min.code 2 (some .int), Cond.methodLink RL 75 yX6_behind, Cond.instanceMethod yX6_behind, Cond.selects RX6 yX6_behind yX6_behind, Cond.code yX6_behind cX6_behind 3 (some (.object "GlassRopesLaw$Sim")), Cond.methodLink RX6 63 yX6_pass, Cond.instanceMethod yX6_pass, Cond.selects RX6 yX6_pass yX6_pass, Cond.code yX6_pass cX6_pass 9 none, Cond.fieldLink RX6 30 "GlassRopesLaw$Sim" "wind" "I", Cond.fieldLink RX6 26 "GlassRopesLaw$Sim" "day" "I", Cond.fieldLink RX6 33 "GlassRopesLaw$Sim" "coins" "I", Cond.fieldLink RX6 36 "GlassRopesLaw$Sim" "gone" "I", Cond.methodLink RX6 51 yX6_isFeast, Cond.instanceMethod yX6_isFeast, Cond.selects RX6 yX6_isFeast yX6_isFeast, Cond.code yX6_isFeast cX6_isFeast 6 (some .boolean)]
def wsL_act_r7 : List Cond := [Cond.fieldLink RX6 22 "GlassRopesLaw$Sim" "feasts" "[[I", Cond.methodLink RX6 55 yX6_bring, Cond.instanceMethod yX6_bring, Cond.selects RX6 yX6_bring yX6_bring, Cond.code yX6_bring cX6_bring 6 (some .int), Cond.fieldLink RX6 16 "GlassRopesLaw$Sim" "windows" "[[I", Cond.methodLink RX6 47 yX6_of, Cond.methodLink RX6 59 yX6_ropeAt, Cond.methodLink RL 79 yX5_pass, Cond.instanceMethod yX5_pass, Cond.selects RX5 yX5_pass yX5_pass, Cond.code yX5_pass cX5_pass 3 (some .int), Cond.methodLink RX5 133 yX0_goOn, Cond.instanceMethod yX0_goOn, Cond.selects RX0 yX0_goOn yX0_goOn, Cond.initialized RX0, Cond.code yX0_goOn cX0_goOn 5 none, Cond.methodLink RX0 43 yX0_goOneDay, Cond.instanceMethod yX0_goOneDay, Cond.selects RX0 yX0_goOneDay yX0_goOneDay, Cond.code yX0_goOneDay cX0_goOneDay 3 none, Cond.fieldLink RX0 10 "GlassRopes$Course" "glass" "LGlassRopes$Glass;", Cond.fieldLink RX0 23 "GlassRopes$Course" "wind" "I", Cond.fieldLink RX0 27 "GlassRopes$Course" "day" "I"]
def wsL_act_r8 : List Cond := [Cond.fieldLink RX0 30 "GlassRopes$Course" "coins" "I", Cond.fieldLink RX0 33 "GlassRopes$Course" "feastDays" "I", Cond.fieldLink RX0 19 "GlassRopes$Course" "ropes" "LGlassRopes$Ropes;", Cond.methodLink RX0 47 yX2_gather, Cond.instanceMethod yX2_gather, Cond.selects RX2 yX2_gather yX2_gather, Cond.code yX2_gather cX2_gather 6 none, Cond.methodLink RX2 21 yX2_broughtTo, Cond.static yX2_broughtTo, Cond.code yX2_broughtTo cX2_broughtTo 3 (some .int), Cond.methodLink RX2 30 Lib.Math.max.name, Cond.static Lib.Math.max.name, Cond.code Lib.Math.max.name Lib.Math.max.code 2 (some .int), Cond.methodLink RX0 51 yX1_areOn, Cond.instanceMethod yX1_areOn, Cond.selects RX1 yX1_areOn yX1_areOn, Cond.code yX1_areOn cX1_areOn 4 (some .boolean), Cond.methodLink RX0 57 yX4_allBring, Cond.instanceMethod yX4_allBring, Cond.selects RX4 yX4_allBring yX4_allBring, Cond.code yX4_allBring cX4_allBring 4 (some .int), Cond.methodLink RX4 38 yX4_brings, Cond.instanceMethod yX4_brings, Cond.selects RX4 yX4_brings yX4_brings]
def wsL_act_r9 : List Cond := [Cond.code yX4_brings cX4_brings 3 (some .int), Cond.methodLink RX4 47 Lib.Math.max.name, Cond.methodLink RX4 52 yX4_panes, Cond.instanceMethod yX4_panes, Cond.selects RX4 yX4_panes yX4_panes, Cond.code yX4_panes cX4_panes 2 (some .int), Cond.methodLink RX4 31 yX4_added, Cond.instanceMethod yX4_added, Cond.selects RX4 yX4_added yX4_added, Cond.code yX4_added cX4_added 6 (some .int), Cond.methodLink RX4 41 yX2_at, Cond.instanceMethod yX2_at, Cond.selects RX2 yX2_at yX2_at, Cond.code yX2_at cX2_at 3 (some .int), Cond.methodLink RX0 63 yX3_work, Cond.instanceMethod yX3_work, Cond.selects RX3 yX3_work yX3_work, Cond.code yX3_work cX3_work 3 none, Cond.methodLink RX3 35 yX3_workOnOne, Cond.instanceMethod yX3_workOnOne, Cond.selects RX3 yX3_workOnOne yX3_workOnOne, Cond.code yX3_workOnOne cX3_workOnOne 6 none, Cond.fieldLink RX3 29 "GlassRopes$Ropes" "cleaned" "[I", Cond.methodLink RX3 39 yX2_takeOff]
def wsL_act_r10 : List Cond := [Cond.methodLink RX3 45 yX3_nextFreeColumn, Cond.instanceMethod yX3_nextFreeColumn, Cond.selects RX3 yX3_nextFreeColumn yX3_nextFreeColumn, Cond.code yX3_nextFreeColumn cX3_nextFreeColumn 5 (some .int), Cond.methodLink RX3 53 yX3_hangAt, Cond.methodLink RX3 49 yX3_rehang]
def wsL_act : List Cond := .code yL_act cL_act 17 (some .boolean) :: ((wsL_act_r1 ++ (wsL_act_r2 ++ (wsL_act_r3 ++ (wsL_act_r4 ++ (wsL_act_r5 ++ (wsL_act_r6 ++ (wsL_act_r7 ++ (wsL_act_r8 ++ (wsL_act_r9 ++ wsL_act_r10))))))))) ++ wsX60 ++ wsX50 ++ wsX40 ++ wsX00 ++ wsX30 ++ wsX10 ++ wsX20 ++ (vx_atS RX5 37 "java/lang/IllegalArgumentException" ["java/lang/RuntimeException", "java/lang/Exception"]).filter goodWord ++ (vx_atS RX5 44 "java/lang/IndexOutOfBoundsException" ["java/lang/RuntimeException", "java/lang/Exception"]).filter goodWord ++ (vx_atS RX5 53 "java/lang/IllegalStateException" ["java/lang/RuntimeException", "java/lang/Exception"]).filter goodWord)
def wsL_build_r1 : List Cond := [Cond.classLink RL 16 RX6, Cond.instantiable RX6 8, Cond.initialized RX6, Cond.instanceMethod yX6_init, Cond.code yX6_init cX6_init 1 none, Cond.methodLink RX6 1 objectInit, Cond.instanceMethod objectInit, Cond.code objectInit ⟨#[0xb1]⟩ 1 none, Cond.classLink RX6 7 "[[I", Cond.arrayClass .int, Cond.fieldLink RX6 9 "GlassRopesLaw$Sim" "soot" "[[I", Cond.classLink RX6 14 "[I", Cond.fieldLink RX6 16 "GlassRopesLaw$Sim" "windows" "[[I", Cond.fieldLink RX6 19 "GlassRopesLaw$Sim" "ropes" "[[I", Cond.fieldLink RX6 22 "GlassRopesLaw$Sim" "feasts" "[[I", Cond.methodLink RL 83 yL_cell, Cond.static yL_cell, Cond.initialized RL, Cond.code yL_cell cL_cell 2 (some .int), Cond.constant RL 8 (790386105), Cond.methodLink RL 9 yL_below, Cond.static yL_below, Cond.code yL_below cL_below 2 (some .int), Cond.constant RL 7 (2147483647)]
def wsL_build_r2 : List Cond := [Cond.methodLink RL 87 yL_act, Cond.static yL_act, Cond.code yL_act cL_act 17 (some .boolean), Cond.fieldLink RL 15 "GlassRopesLaw$Sim" "windows" "[[I", Cond.fieldLink RL 31 "GlassRopesLaw$Sim" "ropes" "[[I", Cond.fieldLink RL 42 "GlassRopesLaw$Sim" "feasts" "[[I", Cond.fieldLink RL 48 "GlassRopesLaw$Sim" "wind" "I", Cond.fieldLink RL 66 "GlassRopesLaw$Sim" "soot" "[[I", Cond.fieldLink RL 72 "GlassRopesLaw$Sim" "coins" "I", Cond.methodLink RL 21 yX6_with, Cond.static yX6_with, Cond.code yX6_with cX6_with 4 (some (.array (.array .int))), Cond.methodLink RL 25 yX5_window, Cond.instanceMethod yX5_window, Cond.selects RX5 yX5_window yX5_window, Cond.initialized RX5, Cond.code yX5_window cX5_window 6 (some .int), Cond.classLink RX5 33 "java/lang/IllegalArgumentException", Cond.initialized "java/lang/IllegalArgumentException", Cond.classLink RX5 40 "java/lang/IndexOutOfBoundsException", Cond.initialized "java/lang/IndexOutOfBoundsException", Cond.classLink RX5 49 "java/lang/IllegalStateException", Cond.initialized "java/lang/IllegalStateException", Cond.fieldLink RX5 12 "GlassRopes" "windows" "LGlassRopes$Windows;"]
def wsL_build_r3 : List Cond := [Cond.methodLink RX5 54 yX4_put, Cond.instanceMethod yX4_put, Cond.selects RX4 yX4_put yX4_put, Cond.initialized RX4, Cond.code yX4_put cX4_put 6 (some .int), Cond.fieldLink RX4 15 "GlassRopes$Windows" "x" "[I", Cond.fieldLink RX4 9 "GlassRopes$Windows" "size" "I", Cond.fieldLink RX4 19 "GlassRopes$Windows" "y" "[I", Cond.fieldLink RX4 22 "GlassRopes$Windows" "width" "[I", Cond.fieldLink RX4 25 "GlassRopes$Windows" "height" "[I", Cond.fieldLink RX4 28 "GlassRopes$Windows" "worth" "[I", Cond.methodLink RL 34 yX6_ropeAt, Cond.instanceMethod yX6_ropeAt, Cond.selects RX6 yX6_ropeAt yX6_ropeAt, Cond.code yX6_ropeAt cX6_ropeAt 3 (some .int), Cond.methodLink RL 38 yX5_rope, Cond.instanceMethod yX5_rope, Cond.selects RX5 yX5_rope yX5_rope, Cond.code yX5_rope cX5_rope 4 (some .int), Cond.fieldLink RX5 26 "GlassRopes" "now" "LGlassRopes$Course;", Cond.methodLink RX5 58 yX5_isColumn, Cond.static yX5_isColumn, Cond.code yX5_isColumn cX5_isColumn 1 (some .boolean), Cond.methodLink RX5 73 yX3_hangAt]
def wsL_build_r4 : List Cond := [Cond.instanceMethod yX3_hangAt, Cond.selects RX3 yX3_hangAt yX3_hangAt, Cond.initialized RX3, Cond.code yX3_hangAt cX3_hangAt 3 (some .boolean), Cond.fieldLink RX3 9 "GlassRopes$Ropes" "size" "I", Cond.fieldLink RX3 15 "GlassRopes$Ropes" "column" "[I", Cond.methodLink RX5 78 yX3_put, Cond.instanceMethod yX3_put, Cond.selects RX3 yX3_put yX3_put, Cond.code yX3_put cX3_put 4 (some .int), Cond.fieldLink RX3 22 "GlassRopes$Ropes" "strength" "[I", Cond.fieldLink RX3 25 "GlassRopes$Ropes" "toRight" "[Z", Cond.methodLink RL 45 yX5_feast, Cond.instanceMethod yX5_feast, Cond.selects RX5 yX5_feast yX5_feast, Cond.code yX5_feast cX5_feast 3 (some .int), Cond.fieldLink RX5 19 "GlassRopes" "feasts" "LGlassRopes$Feasts;", Cond.methodLink RX5 86 yX1_put, Cond.instanceMethod yX1_put, Cond.selects RX1 yX1_put yX1_put, Cond.initialized RX1, Cond.code yX1_put cX1_put 3 (some .int), Cond.fieldLink RX1 15 "GlassRopes$Feasts" "every" "[I", Cond.fieldLink RX1 9 "GlassRopes$Feasts" "size" "I"]
def wsL_build_r5 : List Cond := [Cond.fieldLink RX1 19 "GlassRopes$Feasts" "on" "[I", Cond.methodLink RL 52 yX5_setWind, Cond.instanceMethod yX5_setWind, Cond.selects RX5 yX5_setWind yX5_setWind, Cond.code yX5_setWind cX5_setWind 3 (some .int), Cond.methodLink RL 55 yX5_move, Cond.instanceMethod yX5_move, Cond.selects RX5 yX5_move yX5_move, Cond.code yX5_move cX5_move 4 (some .int), Cond.methodLink RX5 94 yX5_isRope, Cond.instanceMethod yX5_isRope, Cond.selects RX5 yX5_isRope yX5_isRope, Cond.code yX5_isRope cX5_isRope 2 (some .boolean), Cond.methodLink RX5 105 yX3_rehang, Cond.instanceMethod yX3_rehang, Cond.selects RX3 yX3_rehang yX3_rehang, Cond.code yX3_rehang cX3_rehang 3 none, Cond.fieldLink RX3 19 "GlassRopes$Ropes" "row" "[I", Cond.fieldLink RX3 32 "GlassRopes$Ropes" "moved" "[I", Cond.methodLink RL 58 yX5_turn, Cond.instanceMethod yX5_turn, Cond.selects RX5 yX5_turn yX5_turn, Cond.code yX5_turn cX5_turn 2 (some .boolean), Cond.methodLink RL 62 yX6_of]
def wsL_build_r6 : List Cond := [Cond.instanceMethod yX6_of, Cond.selects RX6 yX6_of yX6_of, Cond.code yX6_of cX6_of 6 (some (.array .int)), Cond.methodLink RL 69 yX5_wipe, Cond.instanceMethod yX5_wipe, Cond.selects RX5 yX5_wipe yX5_wipe, Cond.code yX5_wipe cX5_wipe 2 (some .int), Cond.methodLink RX5 115 yX5_isWindow, Cond.instanceMethod yX5_isWindow, Cond.selects RX5 yX5_isWindow yX5_isWindow, Cond.code yX5_isWindow cX5_isWindow 2 (some .boolean), Cond.methodLink RX5 124 yX4_wipeOff, Cond.instanceMethod yX4_wipeOff, Cond.selects RX4 yX4_wipeOff yX4_wipeOff, Cond.code yX4_wipeOff cX4_wipeOff 6 (some .int), Cond.methodLink RX4 56 yX2_takeOff, Cond.instanceMethod yX2_takeOff, Cond.selects RX2 yX2_takeOff yX2_takeOff, Cond.initialized RX2, Cond.code yX2_takeOff cX2_takeOff 6 (some .int), Cond.fieldLink RX2 9 "GlassRopes$Glass" "soot" "[I", Cond.methodLink RX2 25 Lib.Math.min.name, Cond.static Lib.Math.min.name, Cond.initialized "java/lang/Math"]
def wsL_build_r7 : List Cond := [Cond.code Lib.Math.min.name Lib.Math.min.code 2 (some .int), Cond.methodLink RL 75 yX6_behind, Cond.instanceMethod yX6_behind, Cond.selects RX6 yX6_behind yX6_behind, Cond.code yX6_behind cX6_behind 3 (some (.object "GlassRopesLaw$Sim")), Cond.methodLink RX6 63 yX6_pass, Cond.instanceMethod yX6_pass, Cond.selects RX6 yX6_pass yX6_pass, Cond.code yX6_pass cX6_pass 9 none, Cond.fieldLink RX6 30 "GlassRopesLaw$Sim" "wind" "I", Cond.fieldLink RX6 26 "GlassRopesLaw$Sim" "day" "I", Cond.fieldLink RX6 33 "GlassRopesLaw$Sim" "coins" "I", Cond.fieldLink RX6 36 "GlassRopesLaw$Sim" "gone" "I", Cond.methodLink RX6 51 yX6_isFeast, Cond.instanceMethod yX6_isFeast, Cond.selects RX6 yX6_isFeast yX6_isFeast, Cond.code yX6_isFeast cX6_isFeast 6 (some .boolean), Cond.methodLink RX6 55 yX6_bring, Cond.instanceMethod yX6_bring, Cond.selects RX6 yX6_bring yX6_bring, Cond.code yX6_bring cX6_bring 6 (some .int), Cond.methodLink RX6 47 yX6_of, Cond.methodLink RX6 59 yX6_ropeAt, Cond.methodLink RL 79 yX5_pass]
def wsL_build_r8 : List Cond := [Cond.instanceMethod yX5_pass, Cond.selects RX5 yX5_pass yX5_pass, Cond.code yX5_pass cX5_pass 3 (some .int), Cond.methodLink RX5 133 yX0_goOn, Cond.instanceMethod yX0_goOn, Cond.selects RX0 yX0_goOn yX0_goOn, Cond.initialized RX0, Cond.code yX0_goOn cX0_goOn 5 none, Cond.methodLink RX0 43 yX0_goOneDay, Cond.instanceMethod yX0_goOneDay, Cond.selects RX0 yX0_goOneDay yX0_goOneDay, Cond.code yX0_goOneDay cX0_goOneDay 3 none, Cond.fieldLink RX0 10 "GlassRopes$Course" "glass" "LGlassRopes$Glass;", Cond.fieldLink RX0 23 "GlassRopes$Course" "wind" "I", Cond.fieldLink RX0 27 "GlassRopes$Course" "day" "I", Cond.fieldLink RX0 30 "GlassRopes$Course" "coins" "I", Cond.fieldLink RX0 33 "GlassRopes$Course" "feastDays" "I", Cond.fieldLink RX0 19 "GlassRopes$Course" "ropes" "LGlassRopes$Ropes;", Cond.methodLink RX0 47 yX2_gather, Cond.instanceMethod yX2_gather, Cond.selects RX2 yX2_gather yX2_gather, Cond.code yX2_gather cX2_gather 6 none, Cond.methodLink RX2 21 yX2_broughtTo, Cond.static yX2_broughtTo]
def wsL_build_r9 : List Cond := [Cond.code yX2_broughtTo cX2_broughtTo 3 (some .int), Cond.methodLink RX2 30 Lib.Math.max.name, Cond.static Lib.Math.max.name, Cond.code Lib.Math.max.name Lib.Math.max.code 2 (some .int), Cond.methodLink RX0 51 yX1_areOn, Cond.instanceMethod yX1_areOn, Cond.selects RX1 yX1_areOn yX1_areOn, Cond.code yX1_areOn cX1_areOn 4 (some .boolean), Cond.methodLink RX0 57 yX4_allBring, Cond.instanceMethod yX4_allBring, Cond.selects RX4 yX4_allBring yX4_allBring, Cond.code yX4_allBring cX4_allBring 4 (some .int), Cond.methodLink RX4 38 yX4_brings, Cond.instanceMethod yX4_brings, Cond.selects RX4 yX4_brings yX4_brings, Cond.code yX4_brings cX4_brings 3 (some .int), Cond.methodLink RX4 47 Lib.Math.max.name, Cond.methodLink RX4 52 yX4_panes, Cond.instanceMethod yX4_panes, Cond.selects RX4 yX4_panes yX4_panes, Cond.code yX4_panes cX4_panes 2 (some .int), Cond.methodLink RX4 31 yX4_added, Cond.instanceMethod yX4_added, Cond.selects RX4 yX4_added yX4_added]
def wsL_build_r10 : List Cond := [Cond.code yX4_added cX4_added 6 (some .int), Cond.methodLink RX4 41 yX2_at, Cond.instanceMethod yX2_at, Cond.selects RX2 yX2_at yX2_at, Cond.code yX2_at cX2_at 3 (some .int), Cond.methodLink RX0 63 yX3_work, Cond.instanceMethod yX3_work, Cond.selects RX3 yX3_work yX3_work, Cond.code yX3_work cX3_work 3 none, Cond.methodLink RX3 35 yX3_workOnOne, Cond.instanceMethod yX3_workOnOne, Cond.selects RX3 yX3_workOnOne yX3_workOnOne, Cond.code yX3_workOnOne cX3_workOnOne 6 none, Cond.fieldLink RX3 29 "GlassRopes$Ropes" "cleaned" "[I", Cond.methodLink RX3 39 yX2_takeOff, Cond.methodLink RX3 45 yX3_nextFreeColumn, Cond.instanceMethod yX3_nextFreeColumn, Cond.selects RX3 yX3_nextFreeColumn yX3_nextFreeColumn, Cond.code yX3_nextFreeColumn cX3_nextFreeColumn 5 (some .int), Cond.methodLink RX3 53 yX3_hangAt, Cond.methodLink RX3 49 yX3_rehang]
def wsL_build : List Cond := .code yL_build cL_build 5 (some (.object "GlassRopesLaw$Sim")) :: ((wsL_build_r1 ++ (wsL_build_r2 ++ (wsL_build_r3 ++ (wsL_build_r4 ++ (wsL_build_r5 ++ (wsL_build_r6 ++ (wsL_build_r7 ++ (wsL_build_r8 ++ (wsL_build_r9 ++ wsL_build_r10))))))))) ++ wsX60 ++ wsX50 ++ wsX40 ++ wsX00 ++ wsX30 ++ wsX10 ++ wsX20 ++ (vx_atS RX5 37 "java/lang/IllegalArgumentException" ["java/lang/RuntimeException", "java/lang/Exception"]).filter goodWord ++ (vx_atS RX5 44 "java/lang/IndexOutOfBoundsException" ["java/lang/RuntimeException", "java/lang/Exception"]).filter goodWord ++ (vx_atS RX5 53 "java/lang/IllegalStateException" ["java/lang/RuntimeException", "java/lang/Exception"]).filter goodWord)
def wsL_law0_r1 : List Cond := [Cond.classLink RL 26 RX5, Cond.instantiable RX5 4, Cond.initialized RX5, Cond.arrayClass .int, Cond.methodLink RL 109 Lib.Math.max.name, Cond.static Lib.Math.max.name, Cond.initialized "java/lang/Math", Cond.code Lib.Math.max.name Lib.Math.max.code 2 (some .int), Cond.methodLink RL 114 Lib.Math.min.name, Cond.static Lib.Math.min.name, Cond.code Lib.Math.min.name Lib.Math.min.code 2 (some .int), Cond.arrayClass .boolean, Cond.methodLink RL 91 yX5_init, Cond.instanceMethod yX5_init, Cond.code yX5_init cX5_init 1 none, Cond.methodLink RX5 3 objectInit, Cond.instanceMethod objectInit, Cond.code objectInit ⟨#[0xb1]⟩ 1 none, Cond.classLink RX5 9 RX4, Cond.instantiable RX4 6, Cond.initialized RX4, Cond.fieldLink RX5 12 "GlassRopes" "windows" "LGlassRopes$Windows;", Cond.classLink RX5 16 RX1, Cond.instantiable RX1 3]
def wsL_law0_r2 : List Cond := [Cond.initialized RX1, Cond.fieldLink RX5 19 "GlassRopes" "feasts" "LGlassRopes$Feasts;", Cond.classLink RX5 23 RX0, Cond.instantiable RX0 6, Cond.initialized RX0, Cond.fieldLink RX5 26 "GlassRopes" "now" "LGlassRopes$Course;", Cond.fieldLink RX5 30 "GlassRopes" "ahead" "LGlassRopes$Course;", Cond.instanceMethod yX4_init, Cond.code yX4_init cX4_init 1 none, Cond.methodLink RX4 3 objectInit, Cond.fieldLink RX4 9 "GlassRopes$Windows" "size" "I", Cond.fieldLink RX4 15 "GlassRopes$Windows" "x" "[I", Cond.fieldLink RX4 19 "GlassRopes$Windows" "y" "[I", Cond.fieldLink RX4 22 "GlassRopes$Windows" "width" "[I", Cond.fieldLink RX4 25 "GlassRopes$Windows" "height" "[I", Cond.fieldLink RX4 28 "GlassRopes$Windows" "worth" "[I", Cond.instanceMethod yX1_init, Cond.code yX1_init cX1_init 1 none, Cond.methodLink RX1 3 objectInit, Cond.fieldLink RX1 9 "GlassRopes$Feasts" "size" "I", Cond.fieldLink RX1 15 "GlassRopes$Feasts" "every" "[I", Cond.fieldLink RX1 19 "GlassRopes$Feasts" "on" "[I", Cond.instanceMethod yX0_init, Cond.code yX0_init cX0_init 1 none]
def wsL_law0_r3 : List Cond := [Cond.methodLink RX0 1 objectInit, Cond.classLink RX0 7 RX2, Cond.instantiable RX2 1, Cond.initialized RX2, Cond.fieldLink RX0 10 "GlassRopes$Course" "glass" "LGlassRopes$Glass;", Cond.classLink RX0 16 RX3, Cond.instantiable RX3 7, Cond.initialized RX3, Cond.fieldLink RX0 19 "GlassRopes$Course" "ropes" "LGlassRopes$Ropes;", Cond.fieldLink RX0 23 "GlassRopes$Course" "wind" "I", Cond.fieldLink RX0 27 "GlassRopes$Course" "day" "I", Cond.fieldLink RX0 30 "GlassRopes$Course" "coins" "I", Cond.fieldLink RX0 33 "GlassRopes$Course" "feastDays" "I", Cond.instanceMethod yX2_init, Cond.code yX2_init cX2_init 1 none, Cond.methodLink RX2 3 objectInit, Cond.fieldLink RX2 9 "GlassRopes$Glass" "soot" "[I", Cond.instanceMethod yX3_init, Cond.code yX3_init cX3_init 1 none, Cond.methodLink RX3 3 objectInit, Cond.fieldLink RX3 9 "GlassRopes$Ropes" "size" "I", Cond.fieldLink RX3 15 "GlassRopes$Ropes" "column" "[I", Cond.fieldLink RX3 19 "GlassRopes$Ropes" "row" "[I", Cond.fieldLink RX3 22 "GlassRopes$Ropes" "strength" "[I"]
def wsL_law0_r4 : List Cond := [Cond.fieldLink RX3 25 "GlassRopes$Ropes" "toRight" "[Z", Cond.fieldLink RX3 29 "GlassRopes$Ropes" "cleaned" "[I", Cond.fieldLink RX3 32 "GlassRopes$Ropes" "moved" "[I", Cond.methodLink RL 92 yL_build, Cond.static yL_build, Cond.initialized RL, Cond.code yL_build cL_build 5 (some (.object "GlassRopesLaw$Sim")), Cond.classLink RL 16 RX6, Cond.instantiable RX6 8, Cond.initialized RX6, Cond.instanceMethod yX6_init, Cond.code yX6_init cX6_init 1 none, Cond.methodLink RX6 1 objectInit, Cond.classLink RX6 7 "[[I", Cond.fieldLink RX6 9 "GlassRopesLaw$Sim" "soot" "[[I", Cond.classLink RX6 14 "[I", Cond.fieldLink RX6 16 "GlassRopesLaw$Sim" "windows" "[[I", Cond.fieldLink RX6 19 "GlassRopesLaw$Sim" "ropes" "[[I", Cond.fieldLink RX6 22 "GlassRopesLaw$Sim" "feasts" "[[I", Cond.methodLink RL 83 yL_cell, Cond.static yL_cell, Cond.code yL_cell cL_cell 2 (some .int), Cond.constant RL 8 (790386105), Cond.methodLink RL 9 yL_below]
def wsL_law0_r5 : List Cond := [Cond.static yL_below, Cond.code yL_below cL_below 2 (some .int), Cond.constant RL 7 (2147483647), Cond.methodLink RL 87 yL_act, Cond.static yL_act, Cond.code yL_act cL_act 17 (some .boolean), Cond.fieldLink RL 15 "GlassRopesLaw$Sim" "windows" "[[I", Cond.fieldLink RL 31 "GlassRopesLaw$Sim" "ropes" "[[I", Cond.fieldLink RL 42 "GlassRopesLaw$Sim" "feasts" "[[I", Cond.fieldLink RL 48 "GlassRopesLaw$Sim" "wind" "I", Cond.fieldLink RL 66 "GlassRopesLaw$Sim" "soot" "[[I", Cond.fieldLink RL 72 "GlassRopesLaw$Sim" "coins" "I", Cond.methodLink RL 21 yX6_with, Cond.static yX6_with, Cond.code yX6_with cX6_with 4 (some (.array (.array .int))), Cond.methodLink RL 25 yX5_window, Cond.instanceMethod yX5_window, Cond.selects RX5 yX5_window yX5_window, Cond.code yX5_window cX5_window 6 (some .int), Cond.classLink RX5 33 "java/lang/IllegalArgumentException", Cond.initialized "java/lang/IllegalArgumentException", Cond.classLink RX5 40 "java/lang/IndexOutOfBoundsException", Cond.initialized "java/lang/IndexOutOfBoundsException", Cond.classLink RX5 49 "java/lang/IllegalStateException"]
def wsL_law0_r6 : List Cond := [Cond.initialized "java/lang/IllegalStateException", Cond.methodLink RX5 54 yX4_put, Cond.instanceMethod yX4_put, Cond.selects RX4 yX4_put yX4_put, Cond.code yX4_put cX4_put 6 (some .int), Cond.methodLink RL 34 yX6_ropeAt, Cond.instanceMethod yX6_ropeAt, Cond.selects RX6 yX6_ropeAt yX6_ropeAt, Cond.code yX6_ropeAt cX6_ropeAt 3 (some .int), Cond.methodLink RL 38 yX5_rope, Cond.instanceMethod yX5_rope, Cond.selects RX5 yX5_rope yX5_rope, Cond.code yX5_rope cX5_rope 4 (some .int), Cond.methodLink RX5 58 yX5_isColumn, Cond.static yX5_isColumn, Cond.code yX5_isColumn cX5_isColumn 1 (some .boolean), Cond.methodLink RX5 73 yX3_hangAt, Cond.instanceMethod yX3_hangAt, Cond.selects RX3 yX3_hangAt yX3_hangAt, Cond.code yX3_hangAt cX3_hangAt 3 (some .boolean), Cond.methodLink RX5 78 yX3_put, Cond.instanceMethod yX3_put, Cond.selects RX3 yX3_put yX3_put, Cond.code yX3_put cX3_put 4 (some .int)]
def wsL_law0_r7 : List Cond := [Cond.methodLink RL 45 yX5_feast, Cond.instanceMethod yX5_feast, Cond.selects RX5 yX5_feast yX5_feast, Cond.code yX5_feast cX5_feast 3 (some .int), Cond.methodLink RX5 86 yX1_put, Cond.instanceMethod yX1_put, Cond.selects RX1 yX1_put yX1_put, Cond.code yX1_put cX1_put 3 (some .int), Cond.methodLink RL 52 yX5_setWind, Cond.instanceMethod yX5_setWind, Cond.selects RX5 yX5_setWind yX5_setWind, Cond.code yX5_setWind cX5_setWind 3 (some .int), Cond.methodLink RL 55 yX5_move, Cond.instanceMethod yX5_move, Cond.selects RX5 yX5_move yX5_move, Cond.code yX5_move cX5_move 4 (some .int), Cond.methodLink RX5 94 yX5_isRope, Cond.instanceMethod yX5_isRope, Cond.selects RX5 yX5_isRope yX5_isRope, Cond.code yX5_isRope cX5_isRope 2 (some .boolean), Cond.methodLink RX5 105 yX3_rehang, Cond.instanceMethod yX3_rehang, Cond.selects RX3 yX3_rehang yX3_rehang, Cond.code yX3_rehang cX3_rehang 3 none]
def wsL_law0_r8 : List Cond := [Cond.methodLink RL 58 yX5_turn, Cond.instanceMethod yX5_turn, Cond.selects RX5 yX5_turn yX5_turn, Cond.code yX5_turn cX5_turn 2 (some .boolean), Cond.methodLink RL 62 yX6_of, Cond.instanceMethod yX6_of, Cond.selects RX6 yX6_of yX6_of, Cond.code yX6_of cX6_of 6 (some (.array .int)), Cond.methodLink RL 69 yX5_wipe, Cond.instanceMethod yX5_wipe, Cond.selects RX5 yX5_wipe yX5_wipe, Cond.code yX5_wipe cX5_wipe 2 (some .int), Cond.methodLink RX5 115 yX5_isWindow, Cond.instanceMethod yX5_isWindow, Cond.selects RX5 yX5_isWindow yX5_isWindow, Cond.code yX5_isWindow cX5_isWindow 2 (some .boolean), Cond.methodLink RX5 124 yX4_wipeOff, Cond.instanceMethod yX4_wipeOff, Cond.selects RX4 yX4_wipeOff yX4_wipeOff, Cond.code yX4_wipeOff cX4_wipeOff 6 (some .int), Cond.methodLink RX4 56 yX2_takeOff, Cond.instanceMethod yX2_takeOff, Cond.selects RX2 yX2_takeOff yX2_takeOff, Cond.code yX2_takeOff cX2_takeOff 6 (some .int)]
def wsL_law0_r9 : List Cond := [Cond.methodLink RX2 25 Lib.Math.min.name, Cond.methodLink RL 75 yX6_behind, Cond.instanceMethod yX6_behind, Cond.selects RX6 yX6_behind yX6_behind, Cond.code yX6_behind cX6_behind 3 (some (.object "GlassRopesLaw$Sim")), Cond.methodLink RX6 63 yX6_pass, Cond.instanceMethod yX6_pass, Cond.selects RX6 yX6_pass yX6_pass, Cond.code yX6_pass cX6_pass 9 none, Cond.fieldLink RX6 30 "GlassRopesLaw$Sim" "wind" "I", Cond.fieldLink RX6 26 "GlassRopesLaw$Sim" "day" "I", Cond.fieldLink RX6 33 "GlassRopesLaw$Sim" "coins" "I", Cond.fieldLink RX6 36 "GlassRopesLaw$Sim" "gone" "I", Cond.methodLink RX6 51 yX6_isFeast, Cond.instanceMethod yX6_isFeast, Cond.selects RX6 yX6_isFeast yX6_isFeast, Cond.code yX6_isFeast cX6_isFeast 6 (some .boolean), Cond.methodLink RX6 55 yX6_bring, Cond.instanceMethod yX6_bring, Cond.selects RX6 yX6_bring yX6_bring, Cond.code yX6_bring cX6_bring 6 (some .int), Cond.methodLink RX6 47 yX6_of, Cond.methodLink RX6 59 yX6_ropeAt, Cond.methodLink RL 79 yX5_pass]
def wsL_law0_r10 : List Cond := [Cond.instanceMethod yX5_pass, Cond.selects RX5 yX5_pass yX5_pass, Cond.code yX5_pass cX5_pass 3 (some .int), Cond.methodLink RX5 133 yX0_goOn, Cond.instanceMethod yX0_goOn, Cond.selects RX0 yX0_goOn yX0_goOn, Cond.code yX0_goOn cX0_goOn 5 none, Cond.methodLink RX0 43 yX0_goOneDay, Cond.instanceMethod yX0_goOneDay, Cond.selects RX0 yX0_goOneDay yX0_goOneDay, Cond.code yX0_goOneDay cX0_goOneDay 3 none, Cond.methodLink RX0 47 yX2_gather, Cond.instanceMethod yX2_gather, Cond.selects RX2 yX2_gather yX2_gather, Cond.code yX2_gather cX2_gather 6 none, Cond.methodLink RX2 21 yX2_broughtTo, Cond.static yX2_broughtTo, Cond.code yX2_broughtTo cX2_broughtTo 3 (some .int), Cond.methodLink RX2 30 Lib.Math.max.name, Cond.methodLink RX0 51 yX1_areOn, Cond.instanceMethod yX1_areOn, Cond.selects RX1 yX1_areOn yX1_areOn, Cond.code yX1_areOn cX1_areOn 4 (some .boolean), Cond.methodLink RX0 57 yX4_allBring]
def wsL_law0_r11 : List Cond := [Cond.instanceMethod yX4_allBring, Cond.selects RX4 yX4_allBring yX4_allBring, Cond.code yX4_allBring cX4_allBring 4 (some .int), Cond.methodLink RX4 38 yX4_brings, Cond.instanceMethod yX4_brings, Cond.selects RX4 yX4_brings yX4_brings, Cond.code yX4_brings cX4_brings 3 (some .int), Cond.methodLink RX4 47 Lib.Math.max.name, Cond.methodLink RX4 52 yX4_panes, Cond.instanceMethod yX4_panes, Cond.selects RX4 yX4_panes yX4_panes, Cond.code yX4_panes cX4_panes 2 (some .int), Cond.methodLink RX4 31 yX4_added, Cond.instanceMethod yX4_added, Cond.selects RX4 yX4_added yX4_added, Cond.code yX4_added cX4_added 6 (some .int), Cond.methodLink RX4 41 yX2_at, Cond.instanceMethod yX2_at, Cond.selects RX2 yX2_at yX2_at, Cond.code yX2_at cX2_at 3 (some .int), Cond.methodLink RX0 63 yX3_work, Cond.instanceMethod yX3_work, Cond.selects RX3 yX3_work yX3_work, Cond.code yX3_work cX3_work 3 none]
def wsL_law0_r12 : List Cond := [Cond.methodLink RX3 35 yX3_workOnOne, Cond.instanceMethod yX3_workOnOne, Cond.selects RX3 yX3_workOnOne yX3_workOnOne, Cond.code yX3_workOnOne cX3_workOnOne 6 none, Cond.methodLink RX3 39 yX2_takeOff, Cond.methodLink RX3 45 yX3_nextFreeColumn, Cond.instanceMethod yX3_nextFreeColumn, Cond.selects RX3 yX3_nextFreeColumn yX3_nextFreeColumn, Cond.code yX3_nextFreeColumn cX3_nextFreeColumn 5 (some .int), Cond.methodLink RX3 53 yX3_hangAt, Cond.methodLink RX3 49 yX3_rehang, Cond.methodLink RL 96 yX5_count, Cond.instanceMethod yX5_count, Cond.selects RX5 yX5_count yX5_count, Cond.code yX5_count cX5_count 2 (some .int), Cond.methodLink RX5 156 yX5_number, Cond.instanceMethod yX5_number, Cond.selects RX5 yX5_number yX5_number, Cond.code yX5_number cX5_number 2 (some .int), Cond.methodLink RX5 172 yX2_total, Cond.instanceMethod yX2_total, Cond.selects RX2 yX2_total yX2_total, Cond.code yX2_total cX2_total 3 (some .int), Cond.methodLink RX5 199 yX2_cleanPanes]
def wsL_law0_r13 : List Cond := [Cond.instanceMethod yX2_cleanPanes, Cond.selects RX2 yX2_cleanPanes yX2_cleanPanes, Cond.code yX2_cleanPanes cX2_cleanPanes 3 (some .int), Cond.methodLink RX5 176 yX3_allCleaned, Cond.instanceMethod yX3_allCleaned, Cond.selects RX3 yX3_allCleaned yX3_allCleaned, Cond.code yX3_allCleaned cX3_allCleaned 3 (some .int), Cond.methodLink RX5 205 yX4_allBring, Cond.methodLink RL 99 yX5_told, Cond.instanceMethod yX5_told, Cond.selects RX5 yX5_told yX5_told, Cond.code yX5_told cX5_told 3 (some .int), Cond.methodLink RX5 152 yX3_number, Cond.instanceMethod yX3_number, Cond.selects RX3 yX3_number yX3_number, Cond.code yX3_number cX3_number 3 (some .int), Cond.methodLink RL 102 yX5_soot, Cond.instanceMethod yX5_soot, Cond.selects RX5 yX5_soot yX5_soot, Cond.code yX5_soot cX5_soot 3 (some .int), Cond.methodLink RX5 139 yX2_at, Cond.methodLink RL 104 yX5_isFeast, Cond.instanceMethod yX5_isFeast, Cond.selects RX5 yX5_isFeast yX5_isFeast]
def wsL_law0_r14 : List Cond := [Cond.code yX5_isFeast cX5_isFeast 2 (some .boolean), Cond.methodLink RX5 162 yX1_areOn, Cond.methodLink RL 107 yX6_pass, Cond.methodLink RL 117 yX5_about, Cond.instanceMethod yX5_about, Cond.selects RX5 yX5_about yX5_about, Cond.code yX5_about cX5_about 3 (some .int), Cond.methodLink RX5 146 yX4_number, Cond.instanceMethod yX4_number, Cond.selects RX4 yX4_number yX4_number, Cond.code yX4_number cX4_number 4 (some .int), Cond.methodLink RX4 35 yX4_darkest, Cond.instanceMethod yX4_darkest, Cond.selects RX4 yX4_darkest yX4_darkest, Cond.code yX4_darkest cX4_darkest 6 (some .int), Cond.methodLink RL 120 yX6_isSame, Cond.instanceMethod yX6_isSame, Cond.selects RX6 yX6_isSame yX6_isSame, Cond.code yX6_isSame cX6_isSame 7 (some .boolean), Cond.constantDouble RX6 88 (4636455816377925632), Cond.methodLink RX6 66 yX6_sums, Cond.instanceMethod yX6_sums, Cond.selects RX6 yX6_sums yX6_sums, Cond.code yX6_sums cX6_sums 10 (some (.array .int))]
def wsL_law0_r15 : List Cond := [Cond.methodLink RX6 70 yX5_count, Cond.methodLink RX6 75 yX5_soot, Cond.methodLink RX6 78 yX5_about, Cond.methodLink RX6 81 yX5_told, Cond.methodLink RX6 84 yX5_mean, Cond.instanceMethod yX5_mean, Cond.selects RX5 yX5_mean yX5_mean, Cond.code yX5_mean cX5_mean 1 (some .double), Cond.constantDouble RX5 193 (4636455816377925632), Cond.methodLink RX6 90 yX5_next, Cond.instanceMethod yX5_next, Cond.selects RX5 yX5_next yX5_next, Cond.code yX5_next cX5_next 1 (some .int), Cond.methodLink RX5 165 yX1_daysUntil, Cond.instanceMethod yX1_daysUntil, Cond.selects RX1 yX1_daysUntil yX1_daysUntil, Cond.code yX1_daysUntil cX1_daysUntil 3 (some .int), Cond.methodLink RX1 22 yX1_areOn, Cond.methodLink RX6 93 yX6_next, Cond.instanceMethod yX6_next, Cond.selects RX6 yX6_next yX6_next, Cond.code yX6_next cX6_next 2 (some .int), Cond.methodLink RX6 94 yX5_isFeast]
def wsL_law0 : List Cond := (wsL_law0_r1 ++ (wsL_law0_r2 ++ (wsL_law0_r3 ++ (wsL_law0_r4 ++ (wsL_law0_r5 ++ (wsL_law0_r6 ++ (wsL_law0_r7 ++ (wsL_law0_r8 ++ (wsL_law0_r9 ++ (wsL_law0_r10 ++ (wsL_law0_r11 ++ (wsL_law0_r12 ++ (wsL_law0_r13 ++ (wsL_law0_r14 ++ wsL_law0_r15)))))))))))))) ++ wsX50 ++ wsX40 ++ wsX10 ++ wsX00 ++ wsX20 ++ wsX30 ++ wsX60 ++ ([] : List Cond)
def wsL_law : List Cond := wsL_law0 ++ (vx_atS RX5 37 "java/lang/IllegalArgumentException" ["java/lang/RuntimeException", "java/lang/Exception"]).filter goodWord ++ (vx_atS RX5 44 "java/lang/IndexOutOfBoundsException" ["java/lang/RuntimeException", "java/lang/Exception"]).filter goodWord ++ (vx_atS RX5 53 "java/lang/IllegalStateException" ["java/lang/RuntimeException", "java/lang/Exception"]).filter goodWord
abbrev vwCl : List vw_C := [(RX0, TX0, 6), (RX1, TX1, 3), (RX2, TX2, 1), (RX3, TX3, 7), (RX4, TX4, 6), (RX5, TX5, 4), (RX6, TX6, 8)]
end
section
/-! THE WALK'S OWN LAYER: G says 'from this pc, with these locals, this stack and these cells, the machine comes to Q'; a row an instruction. -/
theorem fm_map {α : Type} {ws : List α} : ∀ (is : List Nat) (w : List α), is.map (fun i => ws[i]?) = w.map some → is.filterMap (fun i => ws[i]?) = w := by
  intro is
  induction is with
  | nil => intro w hw; cases w with
    | nil => rfl
    | cons a w => cases hw
  | cons i is ih =>
    intro w hw
    cases w with
    | nil => cases hw
    | cons a w =>
      simp only [List.map_cons, List.cons.injEq] at hw
      rw [List.filterMap_cons, hw.1]
      simp only [ih w hw.2]
section GL
variable {p : Program} {l : Launch} {e : Env} {R : Room} {s : State} {m : MethodId} {args : Array Value} {below : List Frame} {meth : Method} {c : Code} {Q : State → Prop}
variable {D : va_G} {tys : List (ClassId × FieldType)} {A : Nat → Prop} {cc : ByteArray} {nL kc ks : Nat} {own : String} {Ts : List Cond}
variable {ws ws' : va_W} {lv lv' : List (Nat × Value)} {pc pc' tgt : Nat} {st : List Value}
/-- what stays the same through a walk -/
def gX (p : Program) (s : State) (m : MethodId) (args : Array Value) (c : Code) (D : va_G) (tys : List (ClassId × FieldType)) (A : Nat → Prop) (cc : ByteArray) (nL : Nat) (own : String) (Ts : List Cond) : Prop :=
  p.tables.exec = Jvm.exec ∧ c.code = cc ∧ c.maxLocals = nL ∧ s.vm.findClass own = some m.cls ∧ (∀ w ∈ Ts, w.before args s = true) ∧ va_K D vwCl tys s ∧ (∀ q : Nat, s.heap.size ≤ q → A q)
def G (p : Program) (l : Launch) (e : Env) (R : Room) (s : State) (m : MethodId) (args : Array Value) (below : List Frame) (meth : Method) (c : Code) (Q : State → Prop) (D : va_G) (A : Nat → Prop) (nL kc ks : Nat) (ws : va_W) (lv : List (Nat × Value)) (pc : Nat) (st : List Value) : Prop :=
  ∀ (H : Heap) (locs : List Loc) (ls : Array Slot), va_P D vwCl ws H → va_D A ws → va_S A s.heap H locs → lv_has ls nL lv → W p l e R s m args below meth c H locs kc ks Q (F0 m pc ls st)
theorem gX.fix (X : gX p s m args c D tys A cc nL own Ts) : CallFix p m c cc nL s args Ts own := ⟨X.1, X.2.1, X.2.2.1, X.2.2.2.1, X.2.2.2.2.1⟩
theorem gX.K (X : gX p s m args c D tys A cc nL own Ts) : va_K D vwCl tys s := X.2.2.2.2.2.1
theorem gX.hA (X : gX p s m args c D tys A cc nL own Ts) : ∀ q : Nat, s.heap.size ≤ q → A q := X.2.2.2.2.2.2
theorem gX.hts (X : gX p s m args c D tys A cc nL own Ts) : ∀ w ∈ Ts, w.before args s = true := X.2.2.2.2.1
/-- constants -/
theorem g_iconst (X : gX p s m args c D tys A cc nL own Ts) {n : Int} (v : Int32) (pc' : Nat) (hd : decode cc pc = .ok (.iconst n, 1)) (hn : pc + 1 = pc') (hv : Int32.ofInt n = v) (k : G p l e R s m args below meth c Q D A nL kc ks ws lv pc' (.int v :: st)) : G p l e R s m args below meth c Q D A nL kc ks ws lv pc st := by
  subst hn
  exact fun H locs ls hP hD hS hl => lv_iconst X.1 X.2.1 hd hv (k H locs ls hP hD hS hl)
theorem g_bipush (X : gX p s m args c D tys A cc nL own Ts) {n : Int} (v : Int32) (pc' : Nat) (hd : decode cc pc = .ok (.bipush n, 2)) (hn : pc + 2 = pc') (hv : (Int8.ofInt n).toInt32 = v) (k : G p l e R s m args below meth c Q D A nL kc ks ws lv pc' (.int v :: st)) : G p l e R s m args below meth c Q D A nL kc ks ws lv pc st := by
  subst hn
  exact fun H locs ls hP hD hS hl => lv_bipush X.1 X.2.1 hd hv (k H locs ls hP hD hS hl)
theorem g_sipush (X : gX p s m args c D tys A cc nL own Ts) {n : Int} (v : Int32) (pc' : Nat) (hd : decode cc pc = .ok (.sipush n, 3)) (hn : pc + 3 = pc') (hv : (Int16.ofInt n).toInt32 = v) (k : G p l e R s m args below meth c Q D A nL kc ks ws lv pc' (.int v :: st)) : G p l e R s m args below meth c Q D A nL kc ks ws lv pc st := by
  subst hn
  exact fun H locs ls hP hD hS hl => lv_sipush X.1 X.2.1 hd hv (k H locs ls hP hD hS hl)
/-- locals -/
theorem g_iload_n (X : gX p s m args c D tys A cc nL own Ts) {i : Fin 4} {j : Nat} {x : Int32} (q pc' : Nat) (hd : decode cc pc = .ok (.iload_n i, 1)) (hn : pc + 1 = pc') (hi : (i : Nat) = j) (hj : lv[q]? = some (j, .int x)) (k : G p l e R s m args below meth c Q D A nL kc ks ws lv pc' (.int x :: st)) : G p l e R s m args below meth c Q D A nL kc ks ws lv pc st := by
  subst hn
  exact fun H locs ls hP hD hS hl => lv_iload_n X.1 X.2.1 hd hi (lv_at hl q hj) (k H locs ls hP hD hS hl)
theorem g_iload (X : gX p s m args c D tys A cc nL own Ts) {i : Nat} {x : Int32} (q pc' : Nat) (hd : decode cc pc = .ok (.iload i, 2)) (hn : pc + 2 = pc') (hj : lv[q]? = some (i, .int x)) (k : G p l e R s m args below meth c Q D A nL kc ks ws lv pc' (.int x :: st)) : G p l e R s m args below meth c Q D A nL kc ks ws lv pc st := by
  subst hn
  exact fun H locs ls hP hD hS hl => lv_iload X.1 X.2.1 hd (lv_at hl q hj) (k H locs ls hP hD hS hl)
theorem g_aload_n (X : gX p s m args c D tys A cc nL own Ts) {i : Fin 4} {j : Nat} {x : Nat} (q pc' : Nat) (hd : decode cc pc = .ok (.aload_n i, 1)) (hn : pc + 1 = pc') (hi : (i : Nat) = j) (hj : lv[q]? = some (j, .ref x)) (k : G p l e R s m args below meth c Q D A nL kc ks ws lv pc' (.ref x :: st)) : G p l e R s m args below meth c Q D A nL kc ks ws lv pc st := by
  subst hn
  exact fun H locs ls hP hD hS hl => lv_aload_n X.1 X.2.1 hd hi (lv_at hl q hj) (k H locs ls hP hD hS hl)
theorem g_aload (X : gX p s m args c D tys A cc nL own Ts) {i : Nat} {x : Nat} (q pc' : Nat) (hd : decode cc pc = .ok (.aload i, 2)) (hn : pc + 2 = pc') (hj : lv[q]? = some (i, .ref x)) (k : G p l e R s m args below meth c Q D A nL kc ks ws lv pc' (.ref x :: st)) : G p l e R s m args below meth c Q D A nL kc ks ws lv pc st := by
  subst hn
  exact fun H locs ls hP hD hS hl => lv_aload X.1 X.2.1 hd (lv_at hl q hj) (k H locs ls hP hD hS hl)
theorem g_lload_n (X : gX p s m args c D tys A cc nL own Ts) {i : Fin 4} {j : Nat} {x : Int64} (q pc' : Nat) (hd : decode cc pc = .ok (.lload_n i, 1)) (hn : pc + 1 = pc') (hi : (i : Nat) = j) (hj : lv[q]? = some (j, .long x)) (k : G p l e R s m args below meth c Q D A nL kc ks ws lv pc' (.long x :: st)) : G p l e R s m args below meth c Q D A nL kc ks ws lv pc st := by
  subst hn
  exact fun H locs ls hP hD hS hl => lv_lload_n X.1 X.2.1 hd hi (lv_at hl q hj) (k H locs ls hP hD hS hl)
theorem g_dload (X : gX p s m args c D tys A cc nL own Ts) {i : Nat} {x : UInt64} (q pc' : Nat) (hd : decode cc pc = .ok (.dload i, 2)) (hn : pc + 2 = pc') (hj : lv[q]? = some (i, .double x)) (k : G p l e R s m args below meth c Q D A nL kc ks ws lv pc' (.double x :: st)) : G p l e R s m args below meth c Q D A nL kc ks ws lv pc st := by
  subst hn
  exact fun H locs ls hP hD hS hl => lv_dload X.1 X.2.1 hd (lv_at hl q hj) (k H locs ls hP hD hS hl)
abbrev gSt (i : Nat) (v : Value) (lv : List (Nat × Value)) : List (Nat × Value) := (i, v) :: lv.filter (fun q => !(q.1 == i) && !(q.1 + 1 == i && q.2.category == 2))
theorem g_istore_n (X : gX p s m args c D tys A cc nL own Ts) {i : Fin 4} {j : Nat} {x : Int32} (lv' : List (Nat × Value)) (pc' : Nat) (hd : decode cc pc = .ok (.istore_n i, 1)) (hn : pc + 1 = pc') (hi : (i : Nat) = j) (hj : j < nL) (hl' : gSt j (.int x) lv = lv') (k : G p l e R s m args below meth c Q D A nL kc ks ws lv' pc' st) : G p l e R s m args below meth c Q D A nL kc ks ws lv pc (.int x :: st) := by
  subst hn
  exact fun H locs ls hP hD hS hl => lv_istore_n X.1 X.2.1 hd hi hl hj hl' (fun ls hl => k H locs ls hP hD hS hl)
theorem g_istore (X : gX p s m args c D tys A cc nL own Ts) {i : Nat} {x : Int32} (lv' : List (Nat × Value)) (pc' : Nat) (hd : decode cc pc = .ok (.istore i, 2)) (hn : pc + 2 = pc') (hj : i < nL) (hl' : gSt i (.int x) lv = lv') (k : G p l e R s m args below meth c Q D A nL kc ks ws lv' pc' st) : G p l e R s m args below meth c Q D A nL kc ks ws lv pc (.int x :: st) := by
  subst hn
  exact fun H locs ls hP hD hS hl => lv_istore X.1 X.2.1 hd hl hj hl' (fun ls hl => k H locs ls hP hD hS hl)
theorem g_astore_n (X : gX p s m args c D tys A cc nL own Ts) {i : Fin 4} {j : Nat} {x : Nat} (lv' : List (Nat × Value)) (pc' : Nat) (hd : decode cc pc = .ok (.astore_n i, 1)) (hn : pc + 1 = pc') (hi : (i : Nat) = j) (hj : j < nL) (hl' : gSt j (.ref x) lv = lv') (k : G p l e R s m args below meth c Q D A nL kc ks ws lv' pc' st) : G p l e R s m args below meth c Q D A nL kc ks ws lv pc (.ref x :: st) := by
  subst hn
  exact fun H locs ls hP hD hS hl => lv_astore_n X.1 X.2.1 hd hi hl hj hl' (fun ls hl => k H locs ls hP hD hS hl)
theorem g_astore (X : gX p s m args c D tys A cc nL own Ts) {i : Nat} {x : Nat} (lv' : List (Nat × Value)) (pc' : Nat) (hd : decode cc pc = .ok (.astore i, 2)) (hn : pc + 2 = pc') (hj : i < nL) (hl' : gSt i (.ref x) lv = lv') (k : G p l e R s m args below meth c Q D A nL kc ks ws lv' pc' st) : G p l e R s m args below meth c Q D A nL kc ks ws lv pc (.ref x :: st) := by
  subst hn
  exact fun H locs ls hP hD hS hl => lv_astore X.1 X.2.1 hd hl hj hl' (fun ls hl => k H locs ls hP hD hS hl)
theorem g_lstore_n (X : gX p s m args c D tys A cc nL own Ts) {i : Fin 4} {j : Nat} {x : Int64} (lv' : List (Nat × Value)) (pc' : Nat) (hd : decode cc pc = .ok (.lstore_n i, 1)) (hn : pc + 1 = pc') (hi : (i : Nat) = j) (hj : j + 1 < nL) (hl' : (j, Value.long x) :: lv.filter (fun q => !(q.1 == j) && (!(q.1 == j + 1) && !(q.1 + 1 == j && q.2.category == 2))) = lv') (k : G p l e R s m args below meth c Q D A nL kc ks ws lv' pc' st) : G p l e R s m args below meth c Q D A nL kc ks ws lv pc (.long x :: st) := by
  subst hn
  exact fun H locs ls hP hD hS hl => lv_lstore_n X.1 X.2.1 hd hi hl hj hl' (fun ls hl => k H locs ls hP hD hS hl)
theorem g_dstore (X : gX p s m args c D tys A cc nL own Ts) {i : Nat} {x : UInt64} (lv' : List (Nat × Value)) (pc' : Nat) (hd : decode cc pc = .ok (.dstore i, 2)) (hn : pc + 2 = pc') (hj : i + 1 < nL) (hl' : (i, Value.double x) :: lv.filter (fun q => !(q.1 == i) && (!(q.1 == i + 1) && !(q.1 + 1 == i && q.2.category == 2))) = lv') (k : G p l e R s m args below meth c Q D A nL kc ks ws lv' pc' st) : G p l e R s m args below meth c Q D A nL kc ks ws lv pc (.double x :: st) := by
  subst hn
  exact fun H locs ls hP hD hS hl => lv_dstore X.1 X.2.1 hd hl hj hl' (fun ls hl => k H locs ls hP hD hS hl)
/-- an int's counter goes on -/
theorem g_iinc (X : gX p s m args c D tys A cc nL own Ts) {i : Nat} {n : Int} {x : Int32} (q : Nat) (v : Int32) (lv' : List (Nat × Value)) (pc' : Nat) (hd : decode cc pc = .ok (.iinc i n, 3)) (hn : pc + 3 = pc') (hq : lv[q]? = some (i, .int x)) (hv : x + Int32.ofInt n = v) (hj : i < nL) (hl' : gSt i (.int v) lv = lv') (k : G p l e R s m args below meth c Q D A nL kc ks ws lv' pc' st) : G p l e R s m args below meth c Q D A nL kc ks ws lv pc st := by
  subst hn
  exact fun H locs ls hP hD hS hl => lv_iinc X.1 X.2.1 hd hl hq hv hj hl' (fun ls hl => k H locs ls hP hD hS hl)
/-- fewer locals, in any order -/
theorem g_lv (ks0 : List Nat) (hl' : lv_pick lv ks0 = lv') (k : G p l e R s m args below meth c Q D A nL kc ks ws lv' pc st) : G p l e R s m args below meth c Q D A nL kc ks ws lv pc st :=
  fun H locs ls hP hD hS hl => k H locs ls hP hD hS (lv_sub hl ks0 hl')
/-- the stack -/
theorem g_dup (X : gX p s m args c D tys A cc nL own Ts) {v : Value} (pc' : Nat) (hd : decode cc pc = .ok (.dup, 1)) (hn : pc + 1 = pc') (hv : v.category = 1) (k : G p l e R s m args below meth c Q D A nL kc ks ws lv pc' (v :: v :: st)) : G p l e R s m args below meth c Q D A nL kc ks ws lv pc (v :: st) := by
  subst hn
  exact fun H locs ls hP hD hS hl => lv_dup X.1 X.2.1 hd hv (k H locs ls hP hD hS hl)
theorem g_pop (X : gX p s m args c D tys A cc nL own Ts) {v : Value} (pc' : Nat) (hd : decode cc pc = .ok (.pop, 1)) (hn : pc + 1 = pc') (hv : v.category = 1) (k : G p l e R s m args below meth c Q D A nL kc ks ws lv pc' st) : G p l e R s m args below meth c Q D A nL kc ks ws lv pc (v :: st) := by
  subst hn
  exact fun H locs ls hP hD hS hl => lv_pop X.1 X.2.1 hd hv (k H locs ls hP hD hS hl)
/-- arithmetic: the answer under a name of its own -/
theorem g_iadd (X : gX p s m args c D tys A cc nL own Ts) {x y : Int32} (z : Int32) (pc' : Nat) (hd : decode cc pc = .ok (.iadd, 1)) (hn : pc + 1 = pc') (hz : x + y = z) (k : G p l e R s m args below meth c Q D A nL kc ks ws lv pc' (.int z :: st)) : G p l e R s m args below meth c Q D A nL kc ks ws lv pc (.int y :: .int x :: st) := by
  subst hn
  subst hz
  exact fun H locs ls hP hD hS hl => lv_iadd X.1 X.2.1 hd (k H locs ls hP hD hS hl)
theorem g_isub (X : gX p s m args c D tys A cc nL own Ts) {x y : Int32} (z : Int32) (pc' : Nat) (hd : decode cc pc = .ok (.isub, 1)) (hn : pc + 1 = pc') (hz : x - y = z) (k : G p l e R s m args below meth c Q D A nL kc ks ws lv pc' (.int z :: st)) : G p l e R s m args below meth c Q D A nL kc ks ws lv pc (.int y :: .int x :: st) := by
  subst hn
  subst hz
  exact fun H locs ls hP hD hS hl => lv_isub X.1 X.2.1 hd (k H locs ls hP hD hS hl)
theorem g_imul (X : gX p s m args c D tys A cc nL own Ts) {x y : Int32} (z : Int32) (pc' : Nat) (hd : decode cc pc = .ok (.imul, 1)) (hn : pc + 1 = pc') (hz : x * y = z) (k : G p l e R s m args below meth c Q D A nL kc ks ws lv pc' (.int z :: st)) : G p l e R s m args below meth c Q D A nL kc ks ws lv pc (.int y :: .int x :: st) := by
  subst hn
  subst hz
  exact fun H locs ls hP hD hS hl => lv_imul X.1 X.2.1 hd (k H locs ls hP hD hS hl)
theorem g_idiv (X : gX p s m args c D tys A cc nL own Ts) {x y : Int32} (z : Int32) (pc' : Nat) (hd : decode cc pc = .ok (.idiv, 1)) (hn : pc + 1 = pc') (hy : ¬ y = 0) (hz : x / y = z) (k : G p l e R s m args below meth c Q D A nL kc ks ws lv pc' (.int z :: st)) : G p l e R s m args below meth c Q D A nL kc ks ws lv pc (.int y :: .int x :: st) := by
  subst hn
  subst hz
  exact fun H locs ls hP hD hS hl => lv_idiv X.1 X.2.1 hd hy (k H locs ls hP hD hS hl)
theorem g_irem (X : gX p s m args c D tys A cc nL own Ts) {x y : Int32} (z : Int32) (pc' : Nat) (hd : decode cc pc = .ok (.irem, 1)) (hn : pc + 1 = pc') (hy : ¬ y = 0) (hz : x - x / y * y = z) (k : G p l e R s m args below meth c Q D A nL kc ks ws lv pc' (.int z :: st)) : G p l e R s m args below meth c Q D A nL kc ks ws lv pc (.int y :: .int x :: st) := by
  subst hn
  subst hz
  exact fun H locs ls hP hD hS hl => lv_irem X.1 X.2.1 hd hy (k H locs ls hP hD hS hl)
theorem g_ineg (X : gX p s m args c D tys A cc nL own Ts) {x : Int32} (pc' : Nat) (hd : decode cc pc = .ok (.ineg, 1)) (hn : pc + 1 = pc') (k : G p l e R s m args below meth c Q D A nL kc ks ws lv pc' (.int (-x) :: st)) : G p l e R s m args below meth c Q D A nL kc ks ws lv pc (.int x :: st) := by
  subst hn
  exact fun H locs ls hP hD hS hl => lv_ineg X.1 X.2.1 hd (k H locs ls hP hD hS hl)
theorem g_iand (X : gX p s m args c D tys A cc nL own Ts) {x y : Int32} (pc' : Nat) (hd : decode cc pc = .ok (.iand, 1)) (hn : pc + 1 = pc') (k : G p l e R s m args below meth c Q D A nL kc ks ws lv pc' (.int (x &&& y) :: st)) : G p l e R s m args below meth c Q D A nL kc ks ws lv pc (.int y :: .int x :: st) := by
  subst hn
  exact fun H locs ls hP hD hS hl => lv_iand X.1 X.2.1 hd (k H locs ls hP hD hS hl)
theorem g_i2l (X : gX p s m args c D tys A cc nL own Ts) {x : Int32} (pc' : Nat) (hd : decode cc pc = .ok (.i2l, 1)) (hn : pc + 1 = pc') (k : G p l e R s m args below meth c Q D A nL kc ks ws lv pc' (.long x.toInt64 :: st)) : G p l e R s m args below meth c Q D A nL kc ks ws lv pc (.int x :: st) := by
  subst hn
  exact fun H locs ls hP hD hS hl => lv_i2l X.1 X.2.1 hd rfl (k H locs ls hP hD hS hl)
theorem g_ladd (X : gX p s m args c D tys A cc nL own Ts) {x y : Int64} (pc' : Nat) (hd : decode cc pc = .ok (.ladd, 1)) (hn : pc + 1 = pc') (k : G p l e R s m args below meth c Q D A nL kc ks ws lv pc' (.long (x + y) :: st)) : G p l e R s m args below meth c Q D A nL kc ks ws lv pc (.long y :: .long x :: st) := by
  subst hn
  exact fun H locs ls hP hD hS hl => lv_ladd X.1 X.2.1 hd (k H locs ls hP hD hS hl)
theorem g_lmul (X : gX p s m args c D tys A cc nL own Ts) {x y : Int64} (pc' : Nat) (hd : decode cc pc = .ok (.lmul, 1)) (hn : pc + 1 = pc') (k : G p l e R s m args below meth c Q D A nL kc ks ws lv pc' (.long (x * y) :: st)) : G p l e R s m args below meth c Q D A nL kc ks ws lv pc (.long y :: .long x :: st) := by
  subst hn
  exact fun H locs ls hP hD hS hl => lv_lmul X.1 X.2.1 hd (k H locs ls hP hD hS hl)
theorem g_i2d (X : gX p s m args c D tys A cc nL own Ts) {x : Int32} (pc' : Nat) (hd : decode cc pc = .ok (.i2d, 1)) (hn : pc + 1 = pc') (k : G p l e R s m args below meth c Q D A nL kc ks ws lv pc' (.double (FP.i2d x) :: st)) : G p l e R s m args below meth c Q D A nL kc ks ws lv pc (.int x :: st) := by
  subst hn
  exact fun H locs ls hP hD hS hl => lv_i2d X.1 X.2.1 hd (k H locs ls hP hD hS hl)
/-- branches -/
theorem g_goto (X : gX p s m args c D tys A cc nL own Ts) {off : Int} (tgt : Nat) (hd : decode cc pc = .ok (.goto off, 3)) (ht : (pc : Int) + off = (tgt : Int)) (k : G p l e R s m args below meth c Q D A nL kc ks ws lv tgt st) : G p l e R s m args below meth c Q D A nL kc ks ws lv pc st :=
  fun H locs ls hP hD hS hl => lv_goto X.1 X.2.1 hd ht (k H locs ls hP hD hS hl)
theorem g_icmp_eq (X : gX p s m args c D tys A cc nL own Ts) {x y : Int32} {off : Int} {P : Prop} (pc' tgt : Nat) (hd : decode cc pc = .ok (.if_icmp .eq off, 3)) (hn : pc + 3 = pc') (ht : (pc : Int) + off = (tgt : Int)) (hi : x = y ↔ P) (kt : P → G p l e R s m args below meth c Q D A nL kc ks ws lv tgt st) (kf : ¬ P → G p l e R s m args below meth c Q D A nL kc ks ws lv pc' st) : G p l e R s m args below meth c Q D A nL kc ks ws lv pc (.int y :: .int x :: st) := by
  subst hn
  exact fun H locs ls hP hD hS hl => lv_icmp_eq X.1 X.2.1 hd ht (fun h => kt (hi.mp h) H locs ls hP hD hS hl) (fun h => kf (fun z => h (hi.mpr z)) H locs ls hP hD hS hl)
theorem g_if_eq (X : gX p s m args c D tys A cc nL own Ts) {x : Int32} {off : Int} {P : Prop} (pc' tgt : Nat) (hd : decode cc pc = .ok (.ifCond .eq off, 3)) (hn : pc + 3 = pc') (ht : (pc : Int) + off = (tgt : Int)) (hi : x = 0 ↔ P) (kt : P → G p l e R s m args below meth c Q D A nL kc ks ws lv tgt st) (kf : ¬ P → G p l e R s m args below meth c Q D A nL kc ks ws lv pc' st) : G p l e R s m args below meth c Q D A nL kc ks ws lv pc (.int x :: st) := by
  subst hn
  exact fun H locs ls hP hD hS hl => lv_if_eq X.1 X.2.1 hd ht (fun h => kt (hi.mp h) H locs ls hP hD hS hl) (fun h => kf (fun z => h (hi.mpr z)) H locs ls hP hD hS hl)
theorem g_icmp_ne (X : gX p s m args c D tys A cc nL own Ts) {x y : Int32} {off : Int} {P : Prop} (pc' tgt : Nat) (hd : decode cc pc = .ok (.if_icmp .ne off, 3)) (hn : pc + 3 = pc') (ht : (pc : Int) + off = (tgt : Int)) (hi : x = y ↔ P) (kt : ¬ P → G p l e R s m args below meth c Q D A nL kc ks ws lv tgt st) (kf : P → G p l e R s m args below meth c Q D A nL kc ks ws lv pc' st) : G p l e R s m args below meth c Q D A nL kc ks ws lv pc (.int y :: .int x :: st) := by
  subst hn
  exact fun H locs ls hP hD hS hl => lv_icmp_ne X.1 X.2.1 hd ht (fun h => kt (fun z => h (hi.mpr z)) H locs ls hP hD hS hl) (fun h => kf (hi.mp h) H locs ls hP hD hS hl)
theorem g_if_ne (X : gX p s m args c D tys A cc nL own Ts) {x : Int32} {off : Int} {P : Prop} (pc' tgt : Nat) (hd : decode cc pc = .ok (.ifCond .ne off, 3)) (hn : pc + 3 = pc') (ht : (pc : Int) + off = (tgt : Int)) (hi : x = 0 ↔ P) (kt : ¬ P → G p l e R s m args below meth c Q D A nL kc ks ws lv tgt st) (kf : P → G p l e R s m args below meth c Q D A nL kc ks ws lv pc' st) : G p l e R s m args below meth c Q D A nL kc ks ws lv pc (.int x :: st) := by
  subst hn
  exact fun H locs ls hP hD hS hl => lv_if_ne X.1 X.2.1 hd ht (fun h => kt (fun z => h (hi.mpr z)) H locs ls hP hD hS hl) (fun h => kf (hi.mp h) H locs ls hP hD hS hl)
theorem g_icmp_lt (X : gX p s m args c D tys A cc nL own Ts) {x y : Int32} {off : Int} {P : Prop} (pc' tgt : Nat) (hd : decode cc pc = .ok (.if_icmp .lt off, 3)) (hn : pc + 3 = pc') (ht : (pc : Int) + off = (tgt : Int)) (hi : x < y ↔ P) (kt : P → G p l e R s m args below meth c Q D A nL kc ks ws lv tgt st) (kf : ¬ P → G p l e R s m args below meth c Q D A nL kc ks ws lv pc' st) : G p l e R s m args below meth c Q D A nL kc ks ws lv pc (.int y :: .int x :: st) := by
  subst hn
  exact fun H locs ls hP hD hS hl => lv_icmp_lt X.1 X.2.1 hd ht (fun h => kt (hi.mp h) H locs ls hP hD hS hl) (fun h => kf (fun z => h (hi.mpr z)) H locs ls hP hD hS hl)
theorem g_if_lt (X : gX p s m args c D tys A cc nL own Ts) {x : Int32} {off : Int} {P : Prop} (pc' tgt : Nat) (hd : decode cc pc = .ok (.ifCond .lt off, 3)) (hn : pc + 3 = pc') (ht : (pc : Int) + off = (tgt : Int)) (hi : x < 0 ↔ P) (kt : P → G p l e R s m args below meth c Q D A nL kc ks ws lv tgt st) (kf : ¬ P → G p l e R s m args below meth c Q D A nL kc ks ws lv pc' st) : G p l e R s m args below meth c Q D A nL kc ks ws lv pc (.int x :: st) := by
  subst hn
  exact fun H locs ls hP hD hS hl => lv_if_lt X.1 X.2.1 hd ht (fun h => kt (hi.mp h) H locs ls hP hD hS hl) (fun h => kf (fun z => h (hi.mpr z)) H locs ls hP hD hS hl)
theorem g_icmp_ge (X : gX p s m args c D tys A cc nL own Ts) {x y : Int32} {off : Int} {P : Prop} (pc' tgt : Nat) (hd : decode cc pc = .ok (.if_icmp .ge off, 3)) (hn : pc + 3 = pc') (ht : (pc : Int) + off = (tgt : Int)) (hi : y ≤ x ↔ P) (kt : P → G p l e R s m args below meth c Q D A nL kc ks ws lv tgt st) (kf : ¬ P → G p l e R s m args below meth c Q D A nL kc ks ws lv pc' st) : G p l e R s m args below meth c Q D A nL kc ks ws lv pc (.int y :: .int x :: st) := by
  subst hn
  exact fun H locs ls hP hD hS hl => lv_icmp_ge X.1 X.2.1 hd ht (fun h => kt (hi.mp h) H locs ls hP hD hS hl) (fun h => kf (fun z => h (hi.mpr z)) H locs ls hP hD hS hl)
theorem g_if_ge (X : gX p s m args c D tys A cc nL own Ts) {x : Int32} {off : Int} {P : Prop} (pc' tgt : Nat) (hd : decode cc pc = .ok (.ifCond .ge off, 3)) (hn : pc + 3 = pc') (ht : (pc : Int) + off = (tgt : Int)) (hi : 0 ≤ x ↔ P) (kt : P → G p l e R s m args below meth c Q D A nL kc ks ws lv tgt st) (kf : ¬ P → G p l e R s m args below meth c Q D A nL kc ks ws lv pc' st) : G p l e R s m args below meth c Q D A nL kc ks ws lv pc (.int x :: st) := by
  subst hn
  exact fun H locs ls hP hD hS hl => lv_if_ge X.1 X.2.1 hd ht (fun h => kt (hi.mp h) H locs ls hP hD hS hl) (fun h => kf (fun z => h (hi.mpr z)) H locs ls hP hD hS hl)
theorem g_icmp_gt (X : gX p s m args c D tys A cc nL own Ts) {x y : Int32} {off : Int} {P : Prop} (pc' tgt : Nat) (hd : decode cc pc = .ok (.if_icmp .gt off, 3)) (hn : pc + 3 = pc') (ht : (pc : Int) + off = (tgt : Int)) (hi : y < x ↔ P) (kt : P → G p l e R s m args below meth c Q D A nL kc ks ws lv tgt st) (kf : ¬ P → G p l e R s m args below meth c Q D A nL kc ks ws lv pc' st) : G p l e R s m args below meth c Q D A nL kc ks ws lv pc (.int y :: .int x :: st) := by
  subst hn
  exact fun H locs ls hP hD hS hl => lv_icmp_gt X.1 X.2.1 hd ht (fun h => kt (hi.mp h) H locs ls hP hD hS hl) (fun h => kf (fun z => h (hi.mpr z)) H locs ls hP hD hS hl)
theorem g_if_gt (X : gX p s m args c D tys A cc nL own Ts) {x : Int32} {off : Int} {P : Prop} (pc' tgt : Nat) (hd : decode cc pc = .ok (.ifCond .gt off, 3)) (hn : pc + 3 = pc') (ht : (pc : Int) + off = (tgt : Int)) (hi : 0 < x ↔ P) (kt : P → G p l e R s m args below meth c Q D A nL kc ks ws lv tgt st) (kf : ¬ P → G p l e R s m args below meth c Q D A nL kc ks ws lv pc' st) : G p l e R s m args below meth c Q D A nL kc ks ws lv pc (.int x :: st) := by
  subst hn
  exact fun H locs ls hP hD hS hl => lv_if_gt X.1 X.2.1 hd ht (fun h => kt (hi.mp h) H locs ls hP hD hS hl) (fun h => kf (fun z => h (hi.mpr z)) H locs ls hP hD hS hl)
theorem g_icmp_le (X : gX p s m args c D tys A cc nL own Ts) {x y : Int32} {off : Int} {P : Prop} (pc' tgt : Nat) (hd : decode cc pc = .ok (.if_icmp .le off, 3)) (hn : pc + 3 = pc') (ht : (pc : Int) + off = (tgt : Int)) (hi : x ≤ y ↔ P) (kt : P → G p l e R s m args below meth c Q D A nL kc ks ws lv tgt st) (kf : ¬ P → G p l e R s m args below meth c Q D A nL kc ks ws lv pc' st) : G p l e R s m args below meth c Q D A nL kc ks ws lv pc (.int y :: .int x :: st) := by
  subst hn
  exact fun H locs ls hP hD hS hl => lv_icmp_le X.1 X.2.1 hd ht (fun h => kt (hi.mp h) H locs ls hP hD hS hl) (fun h => kf (fun z => h (hi.mpr z)) H locs ls hP hD hS hl)
theorem g_if_le (X : gX p s m args c D tys A cc nL own Ts) {x : Int32} {off : Int} {P : Prop} (pc' tgt : Nat) (hd : decode cc pc = .ok (.ifCond .le off, 3)) (hn : pc + 3 = pc') (ht : (pc : Int) + off = (tgt : Int)) (hi : x ≤ 0 ↔ P) (kt : P → G p l e R s m args below meth c Q D A nL kc ks ws lv tgt st) (kf : ¬ P → G p l e R s m args below meth c Q D A nL kc ks ws lv pc' st) : G p l e R s m args below meth c Q D A nL kc ks ws lv pc (.int x :: st) := by
  subst hn
  exact fun H locs ls hP hD hS hl => lv_if_le X.1 X.2.1 hd ht (fun h => kt (hi.mp h) H locs ls hP hD hS hl) (fun h => kf (fun z => h (hi.mpr z)) H locs ls hP hD hS hl)
/-- switches -/
theorem g_tableIn (X : gX p s m args c D tys A cc nL own Ts) {dflt lo hi : Int} {offs : Array Int} {len : Nat} {x : Int32} {off : Int} (tgt : Nat) (hd : decode cc pc = .ok (.tableswitch dflt lo hi offs, len)) (z : Int) (hz : x.toInt = z) (h1 : ¬ z < lo) (h2 : ¬ hi < z) (ho : offs[(z - lo).toNat]? = some off) (ht : (pc : Int) + off = (tgt : Int)) (k : G p l e R s m args below meth c Q D A nL kc ks ws lv tgt st) : G p l e R s m args below meth c Q D A nL kc ks ws lv pc (.int x :: st) := by
  subst hz
  exact fun H locs ls hP hD hS hl => lv_tableIn X.1 X.2.1 hd h1 h2 ho ht (k H locs ls hP hD hS hl)
theorem g_tableOut (X : gX p s m args c D tys A cc nL own Ts) {dflt lo hi : Int} {offs : Array Int} {len : Nat} {x : Int32} (tgt : Nat) (hd : decode cc pc = .ok (.tableswitch dflt lo hi offs, len)) (h : x.toInt < lo ∨ hi < x.toInt) (ht : (pc : Int) + dflt = (tgt : Int)) (k : G p l e R s m args below meth c Q D A nL kc ks ws lv tgt st) : G p l e R s m args below meth c Q D A nL kc ks ws lv pc (.int x :: st) :=
  fun H locs ls hP hD hS hl => lv_tableOut X.1 X.2.1 hd h ht (k H locs ls hP hD hS hl)
/-- fields -/
theorem g_get (X : gX p s m args c D tys A cc nL own Ts) {C : String} {T : u_T} {N ci index a : Nat} (hin : ∀ w ∈ u_ws C T N, w ∈ Ts) (q0 : Nat) (k0 pc' : Nat) {fs : List Value} (he : ws[q0]? = some (a, .inr (ci, fs))) (hc : vwCl[ci]? = some (C, T, N)) (hk : k0 < N) (hl0 : Cond.fieldLink own index (T k0).1 (T k0).2.1 (T k0).2.2.1 ∈ Ts) {v : Value} (hv : fs[k0]? = some v) (hd : decode cc pc = .ok (.getfield index, 3)) (hn : pc + 3 = pc') (k : G p l e R s m args below meth c Q D A nL kc ks ws lv pc' (v :: st)) : G p l e R s m args below meth c Q D A nL kc ks ws lv pc (.ref a :: st) := by
  subst hn
  exact fun H locs ls hP hD hS hl => va_get (D := D) X.1 X.2.1 X.hts hin X.2.2.2.1 X.K hP q0 he hc k0 hk (X.hts _ hl0) (fun _ h => h) hv hd (k H locs ls hP hD hS hl)
theorem g_put (X : gX p s m args c D tys A cc nL own Ts) {C : String} {T : u_T} {N ci index a : Nat} (hin : ∀ w ∈ u_ws C T N, w ∈ Ts) (ty0 : Nat → FieldType) (hty : ∀ k, k < N → parseFieldDescriptor (T k).2.2.1 = some (ty0 k)) (hnm : ∀ a, a < N → ∀ b, b < N → a ≠ b → (T a).2.1 ≠ (T b).2.1) (q0 : Nat) (k0 pc' : Nat) {fs : List Value} (he : ws[q0]? = some (a, .inr (ci, fs))) (hc : vwCl[ci]? = some (C, T, N)) (hk : k0 < N) (hl0 : Cond.fieldLink own index (T k0).1 (T k0).2.1 (T k0).2.2.1 ∈ Ts) (hfin : (T k0).2.2.2 = false) {ty : FieldType} {v : Value} (hpd : parseFieldDescriptor (T k0).2.2.1 = some ty) (hnv : narrow ty v = v) (hfit : fits ty v = true) (hlen : k0 < fs.length) (hd : decode cc pc = .ok (.putfield index, 3)) (hn : pc + 3 = pc') (hw : ws.set q0 (a, .inr (ci, fs.set k0 v)) = ws') (k : G p l e R s m args below meth c Q D A nL kc ks ws' lv pc' st) : G p l e R s m args below meth c Q D A nL kc ks ws lv pc (v :: .ref a :: st) := by
  subst hn
  subst hw
  exact fun H locs ls hP hD hS hl => va_put (D := D) X.1 X.2.1 X.hts hin ty0 hty hnm X.2.2.2.1 X.K hP hD hS q0 he hc k0 hk (X.hts _ hl0) (fun _ h => h) hfin hpd hnv hfit hlen hd (fun H locs hP hD hS => k H locs ls hP hD hS hl)
theorem g_putF (X : gX p s m args c D tys A cc nL own Ts) (hin2 : meth.name = "<init>") {C : String} {T : u_T} {N ci index a : Nat} (hin : ∀ w ∈ u_ws C T N, w ∈ Ts) (ty0 : Nat → FieldType) (hty : ∀ k, k < N → parseFieldDescriptor (T k).2.2.1 = some (ty0 k)) (hnm : ∀ a, a < N → ∀ b, b < N → a ≠ b → (T a).2.1 ≠ (T b).2.1) (q0 : Nat) (k0 pc' : Nat) {fs : List Value} (he : ws[q0]? = some (a, .inr (ci, fs))) (hc : vwCl[ci]? = some (C, T, N)) (hk : k0 < N) (hl0 : Cond.fieldLink own index (T k0).1 (T k0).2.1 (T k0).2.2.1 ∈ Ts) (hfin : (T k0).2.2.2 = true) (hdecl : (T k0).1 = own) {ty : FieldType} {v : Value} (hpd : parseFieldDescriptor (T k0).2.2.1 = some ty) (hnv : narrow ty v = v) (hfit : fits ty v = true) (hlen : k0 < fs.length) (hd : decode cc pc = .ok (.putfield index, 3)) (hn : pc + 3 = pc') (hw : ws.set q0 (a, .inr (ci, fs.set k0 v)) = ws') (k : G p l e R s m args below meth c Q D A nL kc ks ws' lv pc' st) : G p l e R s m args below meth c Q D A nL kc ks ws lv pc (v :: .ref a :: st) := by
  subst hn
  subst hw
  exact fun H locs ls hP hD hS hl => va_putF (D := D) X.1 X.2.1 X.hts hin ty0 hty hnm X.2.2.2.1 X.K hP hD hS q0 he hc k0 hk (X.hts _ hl0) (fun _ h => h) hfin hin2 hdecl hpd hnv hfit hlen hd (fun H locs hP hD hS => k H locs ls hP hD hS hl)
/-- arrays: the index is a number -/
theorem nIc {n : Nat} (h : n < 2 ^ 31) : (nI n).toNatClampNeg = n := nI_clamp h
theorem g_iald (X : gX p s m args c D tys A cc nL own Ts) {a n : Nat} {cA : ClassId} {f : Nat → Int32} (q0 t0 : Nat) (j : Nat) (v : Int32) (pc' : Nat) (ha : ws[q0]? = some (a, .inl (cA, n, .inl f))) (ht : tys[t0]? = some (cA, .int)) (hj : j < n) (hn31 : n < 2 ^ 31) (hv : f j = v) (hd : decode cc pc = .ok (.iaload, 1)) (hn : pc + 1 = pc') (k : G p l e R s m args below meth c Q D A nL kc ks ws lv pc' (.int v :: st)) : G p l e R s m args below meth c Q D A nL kc ks ws lv pc (.int (nI j) :: .ref a :: st) := by
  subst hn
  subst hv
  have hc : (nI j).toNatClampNeg = j := nI_clamp (Nat.lt_trans hj hn31)
  exact fun H locs ls hP hD hS hl => va_iald (D := D) X.1 X.2.1 X.K hP q0 t0 ha ht (vp_in_nI hj hn31) hd (by rw [hc]; exact k H locs ls hP hD hS hl)
theorem g_zald (X : gX p s m args c D tys A cc nL own Ts) {a n : Nat} {cA : ClassId} {f : Nat → Int32} (q0 t0 : Nat) (j : Nat) (v : Int32) (pc' : Nat) (ha : ws[q0]? = some (a, .inl (cA, n, .inl f))) (ht : tys[t0]? = some (cA, .boolean)) (hj : j < n) (hn31 : n < 2 ^ 31) (hv : f j = v) (hd : decode cc pc = .ok (.baload, 1)) (hn : pc + 1 = pc') (k : G p l e R s m args below meth c Q D A nL kc ks ws lv pc' (.int v :: st)) : G p l e R s m args below meth c Q D A nL kc ks ws lv pc (.int (nI j) :: .ref a :: st) := by
  subst hn
  subst hv
  have hc : (nI j).toNatClampNeg = j := nI_clamp (Nat.lt_trans hj hn31)
  exact fun H locs ls hP hD hS hl => va_zald (D := D) X.1 X.2.1 X.K hP q0 t0 ha ht (vp_in_nI hj hn31) hd (by rw [hc]; exact k H locs ls hP hD hS hl)
theorem g_lald (X : gX p s m args c D tys A cc nL own Ts) {a n : Nat} {cA : ClassId} {f : Nat → Int64} (q0 t0 : Nat) (j : Nat) (v : Int64) (pc' : Nat) (ha : ws[q0]? = some (a, .inl (cA, n, .inr (.inl f)))) (ht : tys[t0]? = some (cA, .long)) (hj : j < n) (hn31 : n < 2 ^ 31) (hv : f j = v) (hd : decode cc pc = .ok (.laload, 1)) (hn : pc + 1 = pc') (k : G p l e R s m args below meth c Q D A nL kc ks ws lv pc' (.long v :: st)) : G p l e R s m args below meth c Q D A nL kc ks ws lv pc (.int (nI j) :: .ref a :: st) := by
  subst hn
  subst hv
  have hc : (nI j).toNatClampNeg = j := nI_clamp (Nat.lt_trans hj hn31)
  exact fun H locs ls hP hD hS hl => va_lald (D := D) X.1 X.2.1 X.K hP q0 t0 ha ht (vp_in_nI hj hn31) hd (by rw [hc]; exact k H locs ls hP hD hS hl)
theorem g_iast (X : gX p s m args c D tys A cc nL own Ts) {a n : Nat} {cA : ClassId} {f : Nat → Int32} (q0 t0 : Nat) (j : Nat) (f' : Nat → Int32) {x : Int32} (pc' : Nat) (ha : ws[q0]? = some (a, .inl (cA, n, .inl f))) (ht : tys[t0]? = some (cA, .int)) (hj : j < n) (hn31 : n < 2 ^ 31) (hf : upd f j x = f') (hd : decode cc pc = .ok (.iastore, 1)) (hn : pc + 1 = pc') (hw : ws.set q0 (a, .inl (cA, n, .inl f')) = ws') (k : G p l e R s m args below meth c Q D A nL kc ks ws' lv pc' st) : G p l e R s m args below meth c Q D A nL kc ks ws lv pc (.int x :: .int (nI j) :: .ref a :: st) := by
  subst hn
  subst hf
  subst hw
  have hc : (nI j).toNatClampNeg = j := nI_clamp (Nat.lt_trans hj hn31)
  exact fun H locs ls hP hD hS hl => va_iast (D := D) X.1 X.2.1 X.K hP hD hS q0 t0 ha ht (vp_in_nI hj hn31) hd (by rw [hc]; exact fun H locs hP hD hS => k H locs ls hP hD hS hl)
theorem g_zast (X : gX p s m args c D tys A cc nL own Ts) {a n : Nat} {cA : ClassId} {f : Nat → Int32} (q0 t0 : Nat) (j : Nat) (f' : Nat → Int32) {x : Int32} (pc' : Nat) (ha : ws[q0]? = some (a, .inl (cA, n, .inl f))) (ht : tys[t0]? = some (cA, .boolean)) (hj : j < n) (hn31 : n < 2 ^ 31) (hf : upd f j (vp_nar .boolean x) = f') (hd : decode cc pc = .ok (.bastore, 1)) (hn : pc + 1 = pc') (hw : ws.set q0 (a, .inl (cA, n, .inl f')) = ws') (k : G p l e R s m args below meth c Q D A nL kc ks ws' lv pc' st) : G p l e R s m args below meth c Q D A nL kc ks ws lv pc (.int x :: .int (nI j) :: .ref a :: st) := by
  subst hn
  subst hf
  subst hw
  have hc : (nI j).toNatClampNeg = j := nI_clamp (Nat.lt_trans hj hn31)
  exact fun H locs ls hP hD hS hl => va_zast (D := D) X.1 X.2.1 X.K hP hD hS q0 t0 ha ht (vp_in_nI hj hn31) hd (by rw [hc]; exact fun H locs hP hD hS => k H locs ls hP hD hS hl)
theorem g_last (X : gX p s m args c D tys A cc nL own Ts) {a n : Nat} {cA : ClassId} {f : Nat → Int64} (q0 t0 : Nat) (j : Nat) (f' : Nat → Int64) {x : Int64} (pc' : Nat) (ha : ws[q0]? = some (a, .inl (cA, n, .inr (.inl f)))) (ht : tys[t0]? = some (cA, .long)) (hj : j < n) (hn31 : n < 2 ^ 31) (hf : vp_updL f j x = f') (hd : decode cc pc = .ok (.lastore, 1)) (hn : pc + 1 = pc') (hw : ws.set q0 (a, .inl (cA, n, .inr (.inl f'))) = ws') (k : G p l e R s m args below meth c Q D A nL kc ks ws' lv pc' st) : G p l e R s m args below meth c Q D A nL kc ks ws lv pc (.long x :: .int (nI j) :: .ref a :: st) := by
  subst hn
  subst hf
  subst hw
  have hc : (nI j).toNatClampNeg = j := nI_clamp (Nat.lt_trans hj hn31)
  exact fun H locs ls hP hD hS hl => va_last (D := D) X.1 X.2.1 X.K hP hD hS q0 t0 ha ht (vp_in_nI hj hn31) hd (by rw [hc]; exact fun H locs hP hD hS => k H locs ls hP hD hS hl)
/-- Math.max, Math.min -/
theorem g_max (X : gX p s m args c D tys A cc nL own Ts) {index : Nat} {x y : Int32} (z : Int32) (pc' : Nat) (h1 : Cond.methodLink own index Lib.Math.max.name ∈ Ts) (h2 : Cond.static Lib.Math.max.name ∈ Ts) (h3 : Cond.initialized "java/lang/Math" ∈ Ts) (h4 : Cond.code Lib.Math.max.name Lib.Math.max.code 2 (some .int) ∈ Ts) (hR : 1 ≤ R.frames) (hL : (st.map fun v => v.category).sum + 13 ≤ R.locals) (hkc : kc ≤ R.cells) (hks : ks ≤ R.slots) (hz : (if x < y then y else x) = z) (hd : decode cc pc = .ok (.invokestatic index, 3)) (hn : pc + 3 = pc') (k : G p l e R s m args below meth c Q D A nL kc ks ws lv pc' (.int z :: st)) : G p l e R s m args below meth c Q D A nL kc ks ws lv pc (.int y :: .int x :: st) := by
  subst hn
  subst hz
  exact fun H locs ls hP hD hS hl => va_mmax X.1 X.2.1 (X.2.2.1.trans hl.1.symm) X.2.2.2.1 (X.hts _ h1) (X.hts _ h2) (X.hts _ h3) (X.hts _ h4) hR hL hkc hks hd (k H locs ls hP hD hS hl)
theorem g_min (X : gX p s m args c D tys A cc nL own Ts) {index : Nat} {x y : Int32} (z : Int32) (pc' : Nat) (h1 : Cond.methodLink own index Lib.Math.min.name ∈ Ts) (h2 : Cond.static Lib.Math.min.name ∈ Ts) (h3 : Cond.initialized "java/lang/Math" ∈ Ts) (h4 : Cond.code Lib.Math.min.name Lib.Math.min.code 2 (some .int) ∈ Ts) (hR : 1 ≤ R.frames) (hL : (st.map fun v => v.category).sum + 13 ≤ R.locals) (hkc : kc ≤ R.cells) (hks : ks ≤ R.slots) (hz : (if y < x then y else x) = z) (hd : decode cc pc = .ok (.invokestatic index, 3)) (hn : pc + 3 = pc') (k : G p l e R s m args below meth c Q D A nL kc ks ws lv pc' (.int z :: st)) : G p l e R s m args below meth c Q D A nL kc ks ws lv pc (.int y :: .int x :: st) := by
  subst hn
  subst hz
  exact fun H locs ls hP hD hS hl => va_mmin X.1 X.2.1 (X.2.2.1.trans hl.1.symm) X.2.2.2.1 (X.hts _ h1) (X.hts _ h2) (X.hts _ h3) (X.hts _ h4) hR hL hkc hks hd (k H locs ls hP hD hS hl)
/-- a part of the cells, in any order -/
theorem g_ws (is : List Nat) (hn : va_nd is = true) (h : is.map (fun i => ws[i]?) = ws'.map some) (k : G p l e R s m args below meth c Q D A nL kc ks ws' lv pc st) : G p l e R s m args below meth c Q D A nL kc ks ws lv pc st :=
  fun H locs ls hP hD hS hl => k H locs ls (hP.sub is (fm_map is ws' h)) (hD.sub is hn h) hS hl
/-- the contents of an array count as far as it goes -/
theorem arrV_congr (cA : ClassId) (n : Nat) (f g : Nat → Value) (h : ∀ j, j < n → f j = g j) : arrV cA n f = arrV cA n g := by
  have h1 : (fun j : Fin n => f j.val) = (fun j : Fin n => g j.val) := funext fun j => h j.val j.isLt
  simp only [arrV, h1]
theorem g_arr {a n : Nat} {cA : ClassId} {f : Nat → Int32} (q0 : Nat) (g : Nat → Int32) (ha : ws[q0]? = some (a, .inl (cA, n, .inl f))) (hfg : ∀ j, j < n → f j = g j) (hw : ws.set q0 (a, .inl (cA, n, .inl g)) = ws') (k : G p l e R s m args below meth c Q D A nL kc ks ws' lv pc st) : G p l e R s m args below meth c Q D A nL kc ks ws lv pc st := by
  subst hw
  refine fun H locs ls hP hD hS hl => k H locs ls (hP.set hD ha ?_ (fun _ _ => rfl)) (hD.set ha) hS hl
  have h1 : H[a]? = some (vp_cell cA (n, .inl f)) := hP q0 _ ha
  show H[a]? = some (vp_cell cA (n, .inl g))
  rw [h1, vp_cell_i, vp_cell_i, arrV_congr cA n _ _ (fun j hj => by rw [hfg j hj])]
theorem g_w {kc' ks' : Nat} (h1 : kc ≤ kc') (h2 : ks ≤ ks') (k : G p l e R s m args below meth c Q D A nL kc' ks' ws lv pc st) : G p l e R s m args below meth c Q D A nL kc ks ws lv pc st :=
  fun H locs ls hP hD hS hl => W.widen h1 h2 (k H locs ls hP hD hS hl)
end GL
end
section
/-! CONTRACTS: what a method answers, and which cells it leaves; calls in G -/
abbrev gT (cI cZ cJ : ClassId) : List (ClassId × FieldType) := [(cI, .int), (cZ, .boolean), (cJ, .array .int)]
/-- the world u, in the state t -/
def gB (D : va_G) (tys : List (ClassId × FieldType)) (A : Nat → Prop) (u : va_W) (t : State) : Prop := va_P D vwCl u t.heap ∧ va_K D vwCl tys t ∧ va_D A u
def gPc (D : va_G) (tys : List (ClassId × FieldType)) (ws : va_W) (av : List Value) (sz : Nat) : Array Value → State → Prop := va_Pc av (fun U => U.heap.size = sz ∧ va_P D vwCl ws U.heap ∧ va_K D vwCl tys U ∧ va_D (fun _ => True) ws)
def MI (l : Launch) (y : MethodName) (wds : List Cond) (rm : Room) (D : va_G) (tys : List (ClassId × FieldType)) (ws : va_W) (av : List Value) (post : Int32 → va_W → Prop) : Prop :=
  ∀ sz : Nat, Met l y wds rm (gPc D tys ws av sz) (va_Qi post (gB D tys (va_A ws sz)) (va_A ws sz)) rm.cells rm.slots (va_A ws sz)
def MV (l : Launch) (y : MethodName) (wds : List Cond) (rm : Room) (D : va_G) (tys : List (ClassId × FieldType)) (ws : va_W) (av : List Value) (post : va_W → Prop) : Prop :=
  ∀ sz : Nat, Met l y wds rm (gPc D tys ws av sz) (va_Qv post (gB D tys (va_A ws sz)) (va_A ws sz)) rm.cells rm.slots (va_A ws sz)
def ML (l : Launch) (y : MethodName) (wds : List Cond) (rm : Room) (D : va_G) (tys : List (ClassId × FieldType)) (ws : va_W) (av : List Value) (post : Int64 → va_W → Prop) : Prop :=
  ∀ sz : Nat, Met l y wds rm (gPc D tys ws av sz) (va_Ql post (gB D tys (va_A ws sz)) (va_A ws sz)) rm.cells rm.slots (va_A ws sz)
def MDb (l : Launch) (y : MethodName) (wds : List Cond) (rm : Room) (D : va_G) (tys : List (ClassId × FieldType)) (ws : va_W) (av : List Value) (post : UInt64 → va_W → Prop) : Prop :=
  ∀ sz : Nat, Met l y wds rm (gPc D tys ws av sz) (va_Qd post (gB D tys (va_A ws sz)) (va_A ws sz)) rm.cells rm.slots (va_A ws sz)
theorem gPc_blind (D : va_G) (tys : List (ClassId × FieldType)) (ws : va_W) (av : List Value) (sz : Nat) : FrameBlind (gPc D tys ws av sz) :=
  fun a U g mk q => by
    obtain ⟨q0, q1, qP, qK, qD⟩ := q
    exact ⟨q0, q1, qP, va_K.moved (u := U) (U := U.calling g mk a) (Vm.Alike.refl U.vm) qK, qD⟩
section GM
variable {l : Launch} {D : va_G} {tys : List (ClassId × FieldType)}
/-- a method's proof: the walk of its body from the entry, over any Q that its returns reach -/
theorem MI_of {y : MethodName} {wds wds' : List Cond} {rm : Room} {cc : ByteArray} {nL : Nat} {ty : FieldType} {ws : va_W} {av : List Value} {post : Int32 → va_W → Prop} (lv0 : List (Nat × Value)) (hy : plainName y.cls = true) (hw : wds = Cond.code y cc nL (some ty) :: wds') (hlen : (lg_sl av).length ≤ nL) (hlv : lv_args 0 av = lv0)
    (body : ∀ (p : Program) (e : Env) (s : State) (m : MethodId) (args : Array Value) (below : List Frame) (meth : Method) (c : Code) (A : Nat → Prop) (Q : State → Prop), gX p s m args c D tys A cc nL y.cls wds →
      (∀ (u : va_W) (lv : List (Nat × Value)) (pc : Nat) (r : Int32), decode cc pc = .ok (.ireturn, 1) → narrow ty (.int r) = .int r → post r u → G p l e rm s m args below meth c Q D A nL rm.cells rm.slots u lv pc [.int r]) →
      G p l e rm s m args below meth c Q D A nL 0 0 ws lv0 0 []) : MI l y wds rm D tys ws av post := by
  intro sz
  refine Met.ofW (cc := cc) (maxL := nL) (ret := some ty) hy hw ?_
  intro p e s m args below meth c s₁ B hml hv
  obtain ⟨rfl, hsz, hP, hK, hD0⟩ := hv
  have hlocks := B.notSynchronized
  subst hsz
  have hl := lv_entry av (n := nL) hlen
  rw [lg_entry_eq]
  rw [hlv] at hl
  refine body p e s m _ below meth c (va_A ws s.heap.size) _ ⟨B.exec, B.bytes, hml, findClass_of_methodNamed B.named, atoms_spec (ws := wds) B.pre, hK, fun q h => Or.inr h⟩ ?_ _ _ _ hP hD0.self va_S.rf hl
  intro u lv pc r hd hnr hp H locs ls hP hD hS hl
  exact W.zret B.exec B.bytes B.returns hnr (fun t ht hW => ⟨⟨r, u, rfl, hp, by rw [ht]; exact hP, va_K.moved hW.alike hK, hD⟩, hS.F ht⟩) hS.2.2 hd hlocks
theorem MV_of {y : MethodName} {wds wds' : List Cond} {rm : Room} {cc : ByteArray} {nL : Nat} {ws : va_W} {av : List Value} {post : va_W → Prop} (lv0 : List (Nat × Value)) (hy : plainName y.cls = true) (hw : wds = Cond.code y cc nL none :: wds') (hlen : (lg_sl av).length ≤ nL) (hlv : lv_args 0 av = lv0)
    (body : ∀ (p : Program) (e : Env) (s : State) (m : MethodId) (args : Array Value) (below : List Frame) (meth : Method) (c : Code) (A : Nat → Prop) (Q : State → Prop), gX p s m args c D tys A cc nL y.cls wds →
      (∀ (u : va_W) (lv : List (Nat × Value)) (pc : Nat), decode cc pc = .ok (.return_, 1) → post u → G p l e rm s m args below meth c Q D A nL rm.cells rm.slots u lv pc []) →
      G p l e rm s m args below meth c Q D A nL 0 0 ws lv0 0 []) : MV l y wds rm D tys ws av post := by
  intro sz
  refine Met.ofW (cc := cc) (maxL := nL) (ret := none) hy hw ?_
  intro p e s m args below meth c s₁ B hml hv
  obtain ⟨rfl, hsz, hP, hK, hD0⟩ := hv
  have hlocks := B.notSynchronized
  subst hsz
  have hl := lv_entry av (n := nL) hlen
  rw [lg_entry_eq]
  rw [hlv] at hl
  refine body p e s m _ below meth c (va_A ws s.heap.size) _ ⟨B.exec, B.bytes, hml, findClass_of_methodNamed B.named, atoms_spec (ws := wds) B.pre, hK, fun q h => Or.inr h⟩ ?_ _ _ _ hP hD0.self va_S.rf hl
  intro u lv pc hd hp H locs ls hP hD hS hl
  exact W.vret B.exec B.bytes B.returns (fun t ht hW => ⟨⟨u, rfl, hp, by rw [ht]; exact hP, va_K.moved hW.alike hK, hD⟩, hS.F ht⟩) hS.2.2 hd hlocks
theorem ML_of {y : MethodName} {wds wds' : List Cond} {rm : Room} {cc : ByteArray} {nL : Nat} {ws : va_W} {av : List Value} {post : Int64 → va_W → Prop} (lv0 : List (Nat × Value)) (hy : plainName y.cls = true) (hw : wds = Cond.code y cc nL (some .long) :: wds') (hlen : (lg_sl av).length ≤ nL) (hlv : lv_args 0 av = lv0)
    (body : ∀ (p : Program) (e : Env) (s : State) (m : MethodId) (args : Array Value) (below : List Frame) (meth : Method) (c : Code) (A : Nat → Prop) (Q : State → Prop), gX p s m args c D tys A cc nL y.cls wds →
      (∀ (u : va_W) (lv : List (Nat × Value)) (pc : Nat) (r : Int64), decode cc pc = .ok (.lreturn, 1) → post r u → G p l e rm s m args below meth c Q D A nL rm.cells rm.slots u lv pc [.long r]) →
      G p l e rm s m args below meth c Q D A nL 0 0 ws lv0 0 []) : ML l y wds rm D tys ws av post := by
  intro sz
  refine Met.ofW (cc := cc) (maxL := nL) (ret := some .long) hy hw ?_
  intro p e s m args below meth c s₁ B hml hv
  obtain ⟨rfl, hsz, hP, hK, hD0⟩ := hv
  have hlocks := B.notSynchronized
  subst hsz
  have hl := lv_entry av (n := nL) hlen
  rw [lg_entry_eq]
  rw [hlv] at hl
  refine body p e s m _ below meth c (va_A ws s.heap.size) _ ⟨B.exec, B.bytes, hml, findClass_of_methodNamed B.named, atoms_spec (ws := wds) B.pre, hK, fun q h => Or.inr h⟩ ?_ _ _ _ hP hD0.self va_S.rf hl
  intro u lv pc r hd hp H locs ls hP hD hS hl
  exact W.lret B.exec B.bytes B.returns (fun t ht hW => ⟨⟨r, u, rfl, hp, by rw [ht]; exact hP, va_K.moved hW.alike hK, hD⟩, hS.F ht⟩) hS.2.2 hd hlocks
theorem MDb_of {y : MethodName} {wds wds' : List Cond} {rm : Room} {cc : ByteArray} {nL : Nat} {ws : va_W} {av : List Value} {post : UInt64 → va_W → Prop} (lv0 : List (Nat × Value)) (hy : plainName y.cls = true) (hw : wds = Cond.code y cc nL (some .double) :: wds') (hlen : (lg_sl av).length ≤ nL) (hlv : lv_args 0 av = lv0)
    (body : ∀ (p : Program) (e : Env) (s : State) (m : MethodId) (args : Array Value) (below : List Frame) (meth : Method) (c : Code) (A : Nat → Prop) (Q : State → Prop), gX p s m args c D tys A cc nL y.cls wds →
      (∀ (u : va_W) (lv : List (Nat × Value)) (pc : Nat) (r : UInt64), decode cc pc = .ok (.dreturn, 1) → post r u → G p l e rm s m args below meth c Q D A nL rm.cells rm.slots u lv pc [.double r]) →
      G p l e rm s m args below meth c Q D A nL 0 0 ws lv0 0 []) : MDb l y wds rm D tys ws av post := by
  intro sz
  refine Met.ofW (cc := cc) (maxL := nL) (ret := some .double) hy hw ?_
  intro p e s m args below meth c s₁ B hml hv
  obtain ⟨rfl, hsz, hP, hK, hD0⟩ := hv
  have hlocks := B.notSynchronized
  subst hsz
  have hl := lv_entry av (n := nL) hlen
  rw [lg_entry_eq]
  rw [hlv] at hl
  refine body p e s m _ below meth c (va_A ws s.heap.size) _ ⟨B.exec, B.bytes, hml, findClass_of_methodNamed B.named, atoms_spec (ws := wds) B.pre, hK, fun q h => Or.inr h⟩ ?_ _ _ _ hP hD0.self va_S.rf hl
  intro u lv pc r hd hp H locs ls hP hD hS hl
  exact W.dret B.exec B.bytes B.returns (fun t ht hW => ⟨⟨r, u, rfl, hp, by rw [ht]; exact hP, va_K.moved hW.alike hK, hD⟩, hS.F ht⟩) hS.2.2 hd hlocks
end GM
/-- the callee's cells, put back at their places -/
def putB : va_W → List Nat → va_W → va_W
  | ws, i :: is, q :: qs => putB (ws.set i q) is qs
  | ws, _, _ => ws
theorem putB_len : ∀ (is : List Nat) (ws wc : va_W), (putB ws is wc).length = ws.length
  | [], ws, wc => by cases wc <;> rfl
  | i :: is, ws, [] => rfl
  | i :: is, ws, q :: qs => by
    show (putB (ws.set i q) is qs).length = _
    rw [putB_len, List.length_set]
/-- a place that isn't the callee's stays; each of the callee's places holds a cell of its -/
theorem putB_at : ∀ (is : List Nat) (ws wc : va_W) (k : Nat) (q : Nat × va_E), (putB ws is wc)[k]? = some q → (ws[k]? = some q ∧ (k ∉ is ∨ wc.length < is.length)) ∨ q ∈ wc
  | [], ws, wc, k, q, h => by
    have h1 : putB ws [] wc = ws := by cases wc <;> rfl
    rw [h1] at h
    exact Or.inl ⟨h, Or.inl List.not_mem_nil⟩
  | i :: is, ws, [], k, q, h => Or.inl ⟨h, Or.inr (Nat.succ_pos _)⟩
  | i :: is, ws, q0 :: qs, k, q, h => by
    have h1 : (putB (ws.set i q0) is qs)[k]? = some q := h
    rcases putB_at is (ws.set i q0) qs k q h1 with ⟨h2, h3⟩ | h2
    · by_cases hk : k = i
      · subst hk
        have hl : k < ws.length := by
          have := (List.getElem?_eq_some_iff.mp h2).1
          rwa [List.length_set] at this
        rw [List.getElem?_set_self hl] at h2
        cases h2
        exact Or.inr List.mem_cons_self
      · rw [List.getElem?_set_ne (Ne.symm hk)] at h2
        refine Or.inl ⟨h2, ?_⟩
        rcases h3 with h3 | h3
        · exact Or.inl (fun z => (List.mem_cons.mp z).elim hk h3)
        · exact Or.inr (Nat.succ_lt_succ h3)
    · exact Or.inr (List.mem_cons_of_mem _ h2)
theorem putB_adr : ∀ (is : List Nat) (ws wc wc0 : va_W), is.map (fun i => ws[i]?) = wc0.map some → wc.map Prod.fst = wc0.map Prod.fst → va_nd is = true → (putB ws is wc).map Prod.fst = ws.map Prod.fst
  | [], ws, wc, wc0, _, _, _ => by cases wc <;> rfl
  | i :: is, ws, [], wc0, _, _, _ => rfl
  | i :: is, ws, q0 :: qs, [], h, _, _ => by cases h
  | i :: is, ws, q0 :: qs, q1 :: wc0, h, ha, hn => by
    simp only [List.map_cons, List.cons.injEq] at h ha
    have hl := (List.getElem?_eq_some_iff.mp h.1).1
    have hn1 : i ∉ is ∧ va_nd is = true := by
      simpa [va_nd] using hn
    have hs : (ws.set i q0).map Prod.fst = ws.map Prod.fst := by
      apply List.ext_getElem?
      intro k
      rw [List.getElem?_map, List.getElem?_map]
      by_cases hk : k = i
      · subst hk
        rw [List.getElem?_set_self hl, h.1]
        exact congrArg some ha.1
      · rw [List.getElem?_set_ne (Ne.symm hk)]
    have hm : is.map (fun j => (ws.set i q0)[j]?) = wc0.map some := by
      rw [← h.2]
      apply List.map_congr_left
      intro j hj
      rw [List.getElem?_set_ne (fun z => hn1.1 (by rw [z]; exact hj))]
    show (putB (ws.set i q0) is qs).map Prod.fst = _
    rw [putB_adr is (ws.set i q0) qs wc0 hm ha.2 hn1.2, hs]
theorem va_D.adr {A : Nat → Prop} {ws ws' : va_W} (h : va_D A ws) (ha : ws'.map Prod.fst = ws.map Prod.fst) : va_D A ws' := by
  have key : ∀ (k : Nat) (q : Nat × va_E), ws'[k]? = some q → ∃ q0, ws[k]? = some q0 ∧ q0.1 = q.1 := by
    intro k q hk
    have h1 : (ws'.map Prod.fst)[k]? = some q.1 := by rw [List.getElem?_map, hk]; rfl
    rw [ha, List.getElem?_map] at h1
    cases h2 : ws[k]? with
    | none => rw [h2] at h1; cases h1
    | some q0 => rw [h2] at h1; exact ⟨q0, rfl, Option.some.inj h1⟩
  refine ⟨fun i j x y hi hj hxy => ?_, fun k q hk => ?_⟩
  · obtain ⟨x0, h1, h2⟩ := key i x hi
    obtain ⟨y0, h3, h4⟩ := key j y hj
    exact h.1 i j x0 y0 h1 h3 (h2.trans (hxy.trans h4.symm))
  · obtain ⟨q0, h1, h2⟩ := key k q hk
    rw [← h2]
    exact h.2 k q0 h1
/-- behind a call: the callee's cells at their places, the others as they were -/
theorem putB_join {A0 : Nat → Prop} {D : va_G} {cl : List vw_C} {ws wc wc' : va_W} {H H1 : Heap} (hP : va_P D cl ws H) (hD : va_D A0 ws) (isC : List Nat) (hC : isC.map (fun i => ws[i]?) = wc.map some) (hn : va_nd isC = true) (ha : wc'.map Prod.fst = wc.map Prod.fst)
    (hk : ∀ q : Nat, q < H.size → ¬ va_A wc H.size q → H1[q]? = H[q]?) (hP1 : va_P D cl wc' H1) : va_P D cl (putB ws isC wc') H1 ∧ va_D A0 (putB ws isC wc') := by
  have hlen : wc'.length = isC.length := by
    have h1 := congrArg List.length ha
    have h2 := congrArg List.length hC
    simp only [List.length_map] at h1 h2
    omega
  refine ⟨fun k q hq => ?_, hD.adr (putB_adr isC ws wc' wc hC ha hn)⟩
  rcases putB_at isC ws wc' k q hq with ⟨h1, h2⟩ | h1
  · have hni : k ∉ isC := h2.elim id (fun z => absurd z (by omega))
    have hl := (hP k q h1).lt
    refine (hP k q h1).kept (hk q.1 hl ?_)
    rintro (⟨k2, e, h3⟩ | h3)
    · have h4 : (isC.map (fun i => ws[i]?))[k2]? = some (some (q.1, e)) := by rw [hC, List.getElem?_map, h3]; rfl
      rw [List.getElem?_map] at h4
      cases h5 : isC[k2]? with
      | none => rw [h5] at h4; cases h4
      | some j =>
        rw [h5] at h4
        have h6 : ws[j]? = some (q.1, e) := Option.some.inj h4
        have := hD.1 k j q (q.1, e) h1 h6 rfl
        subst this
        exact hni (List.mem_of_getElem? h5)
    · omega
  · obtain ⟨j, hj⟩ := List.getElem?_of_mem h1
    exact hP1 j q hj
section GC
variable {p : Program} {l : Launch} {e : Env} {R : Room} {s : State} {m : MethodId} {args : Array Value} {below : List Frame} {meth : Method} {c : Code} {Q : State → Prop}
variable {D : va_G} {tys : List (ClassId × FieldType)} {A : Nat → Prop} {cc : ByteArray} {nL kc ks : Nat} {own : String} {Ts : List Cond}
variable {ws ws' : va_W} {lv lv' : List (Nat × Value)} {pc : Nat} {st rest : List Value}
variable {y : MethodName} {wds ws9 : List Cond} {rm : Room} {bytes : ByteArray} {maxL n index : Nat} {ret : Option FieldType} {C : String} {b : Nat} {av : List Value} {wc wc' : va_W}
theorem gPreV (hK : va_K D vwCl tys s) {H : Heap} (hP : va_P D vwCl wc H) (hD : va_D (fun _ => True) wc) {ci : Nat} {T : u_T} {N q0 : Nat} {fs : List Value} (hc : vwCl[ci]? = some (C, T, N)) (he : wc[q0]? = some (b, .inr (ci, fs))) : PreV s H C b (gPc D tys wc (.ref b :: av) H.size) av :=
  ⟨gPc_blind _ _ _ _ _, va_recv hK hP hc he, fun U hU hW => ⟨rfl, by rw [hU], by rw [hU]; exact hP, va_K.moved hW.alike hK, hD⟩⟩
theorem gPreS (hK : va_K D vwCl tys s) {H : Heap} (hP : va_P D vwCl wc H) (hD : va_D (fun _ => True) wc) : PreS s H (gPc D tys wc av H.size) av :=
  ⟨gPc_blind _ _ _ _ _, fun U hU hW => ⟨rfl, by rw [hU], by rw [hU]; exact hP, va_K.moved hW.alike hK, hD⟩⟩
/-- a virtual call that answers an int: the answer and the cells are told -/
theorem g_callVi (X : gX p s m args c D tys A cc nL own Ts) {r0 : Int32} (hM : MI l y wds rm D tys wc (.ref b :: av) (fun r u => r = r0 ∧ u = wc')) (pc' : Nat) (isC : List Nat) (hG : GoodIn Ts (wsV own index C y wds)) (hwd : wds = Cond.code y bytes maxL ret :: ws9)
    (hdy : y.cls = C ∧ y.cls ≠ "java/lang/invoke/MethodHandle" ∧ y.cls ≠ "java/lang/invoke/VarHandle" ∧ (parseMethodDescriptor y.desc).map (fun d => d.parameters.length) = some n) (hnn : av.length = n) (hR : rm.frames + 1 ≤ R.frames ∧ 8 + (maxL + 11) + rm.locals ≤ R.locals) {ci : Nat} {T : u_T} {N q0 : Nat} {fs : List Value} (hc : vwCl[ci]? = some (C, T, N)) (he : wc[q0]? = some (b, .inr (ci, fs)))
    (hst : st = av.reverse ++ .ref b :: rest) (hrest : (rest.map fun v => v.category).sum ≤ 8) (hC : isC.map (fun i => ws[i]?) = wc.map some) (hn : va_nd isC = true) (ha : wc'.map Prod.fst = wc.map Prod.fst) (hws : putB ws isC wc' = ws')
    (hd : decode cc pc = .ok (.invokevirtual index, 3)) (hpc : pc + 3 = pc') (hf : kc + rm.cells ≤ R.cells ∧ ks + rm.slots ≤ R.slots) (k : G p l e R s m args below meth c Q D A nL (kc + rm.cells) (ks + rm.slots) ws' lv pc' (.int r0 :: rest)) : G p l e R s m args below meth c Q D A nL kc ks ws lv pc st := by
  subst hnn
  subst hpc
  subst hst
  subst hws
  intro H locs ls hP hD hS hl
  have hPc : va_P D vwCl wc H := (va_P.sub hP isC (fm_map isC wc hC))
  have hDc : va_D (fun _ => True) wc := (va_D.sub hD isC hn hC).weaken (fun _ _ _ _ => trivial)
  have hFc := va_free (wc := wc) hD hS X.hA isC hC
  refine va_calli (va_runV (As := av) (rest := rest) X.fix (hM H.size) (cwV av.length X.hts hG hwd rfl rfl hdy hR) (gPreV X.K hPc hDc hc he) rfl rfl hl.1 rfl (lv_room hrest) hd hf) hS (fun q _ h => hFc q h) hFc (fun r u t H1 locs1 ht hvm hw hB hz1 hk1 hS => ?_)
  obtain ⟨rfl, rfl⟩ := hw
  obtain ⟨hP1, hK1, hD1⟩ := hB
  rw [ht] at hP1
  obtain ⟨hP2, hD2⟩ := putB_join hP hD isC hC hn ha hk1 hP1
  exact k H1 locs1 ls hP2 hD2 hS hl
theorem g_callSi (X : gX p s m args c D tys A cc nL own Ts) {r0 : Int32} (hM : MI l y wds rm D tys wc av (fun r u => r = r0 ∧ u = wc')) (pc' : Nat) (isC : List Nat) (hG : GoodIn Ts (va_wsS own index y wds)) (hwd : wds = Cond.code y bytes maxL ret :: ws9)
    (hdy : y.cls ≠ "java/lang/invoke/MethodHandle" ∧ y.cls ≠ "java/lang/invoke/VarHandle" ∧ (parseMethodDescriptor y.desc).map (fun d => d.parameters.length) = some n) (hnn : av.length = n) (hR : rm.frames + 1 ≤ R.frames ∧ 8 + (maxL + 11) + rm.locals ≤ R.locals)
    (hst : st = av.reverse ++ rest) (hrest : (rest.map fun v => v.category).sum ≤ 8) (hC : isC.map (fun i => ws[i]?) = wc.map some) (hn : va_nd isC = true) (ha : wc'.map Prod.fst = wc.map Prod.fst) (hws : putB ws isC wc' = ws')
    (hd : decode cc pc = .ok (.invokestatic index, 3)) (hpc : pc + 3 = pc') (hf : kc + rm.cells ≤ R.cells ∧ ks + rm.slots ≤ R.slots) (k : G p l e R s m args below meth c Q D A nL (kc + rm.cells) (ks + rm.slots) ws' lv pc' (.int r0 :: rest)) : G p l e R s m args below meth c Q D A nL kc ks ws lv pc st := by
  subst hnn
  subst hpc
  subst hst
  subst hws
  intro H locs ls hP hD hS hl
  have hPc : va_P D vwCl wc H := (va_P.sub hP isC (fm_map isC wc hC))
  have hDc : va_D (fun _ => True) wc := (va_D.sub hD isC hn hC).weaken (fun _ _ _ _ => trivial)
  have hFc := va_free (wc := wc) hD hS X.hA isC hC
  refine va_calli (va_runS (As := av) (rest := rest) X.fix (hM H.size) (va_cwS av.length X.hts hG hwd rfl rfl hdy hR) (gPreS X.K hPc hDc) rfl rfl hl.1 rfl (lv_room hrest) hd hf) hS (fun q _ h => hFc q h) hFc (fun r u t H1 locs1 ht hvm hw hB hz1 hk1 hS => ?_)
  obtain ⟨rfl, rfl⟩ := hw
  obtain ⟨hP1, hK1, hD1⟩ := hB
  rw [ht] at hP1
  obtain ⟨hP2, hD2⟩ := putB_join hP hD isC hC hn ha hk1 hP1
  exact k H1 locs1 ls hP2 hD2 hS hl
theorem g_callVl (X : gX p s m args c D tys A cc nL own Ts) {r0 : Int64} (hM : ML l y wds rm D tys wc (.ref b :: av) (fun r u => r = r0 ∧ u = wc')) (pc' : Nat) (isC : List Nat) (hG : GoodIn Ts (wsV own index C y wds)) (hwd : wds = Cond.code y bytes maxL ret :: ws9)
    (hdy : y.cls = C ∧ y.cls ≠ "java/lang/invoke/MethodHandle" ∧ y.cls ≠ "java/lang/invoke/VarHandle" ∧ (parseMethodDescriptor y.desc).map (fun d => d.parameters.length) = some n) (hnn : av.length = n) (hR : rm.frames + 1 ≤ R.frames ∧ 8 + (maxL + 11) + rm.locals ≤ R.locals) {ci : Nat} {T : u_T} {N q0 : Nat} {fs : List Value} (hc : vwCl[ci]? = some (C, T, N)) (he : wc[q0]? = some (b, .inr (ci, fs)))
    (hst : st = av.reverse ++ .ref b :: rest) (hrest : (rest.map fun v => v.category).sum ≤ 8) (hC : isC.map (fun i => ws[i]?) = wc.map some) (hn : va_nd isC = true) (ha : wc'.map Prod.fst = wc.map Prod.fst) (hws : putB ws isC wc' = ws')
    (hd : decode cc pc = .ok (.invokevirtual index, 3)) (hpc : pc + 3 = pc') (hf : kc + rm.cells ≤ R.cells ∧ ks + rm.slots ≤ R.slots) (k : G p l e R s m args below meth c Q D A nL (kc + rm.cells) (ks + rm.slots) ws' lv pc' (.long r0 :: rest)) : G p l e R s m args below meth c Q D A nL kc ks ws lv pc st := by
  subst hnn
  subst hpc
  subst hst
  subst hws
  intro H locs ls hP hD hS hl
  have hPc : va_P D vwCl wc H := (va_P.sub hP isC (fm_map isC wc hC))
  have hDc : va_D (fun _ => True) wc := (va_D.sub hD isC hn hC).weaken (fun _ _ _ _ => trivial)
  have hFc := va_free (wc := wc) hD hS X.hA isC hC
  refine va_calll (va_runV (As := av) (rest := rest) X.fix (hM H.size) (cwV av.length X.hts hG hwd rfl rfl hdy hR) (gPreV X.K hPc hDc hc he) rfl rfl hl.1 rfl (lv_room hrest) hd hf) hS (fun q _ h => hFc q h) hFc (fun r u t H1 locs1 ht hvm hw hB hz1 hk1 hS => ?_)
  obtain ⟨rfl, rfl⟩ := hw
  obtain ⟨hP1, hK1, hD1⟩ := hB
  rw [ht] at hP1
  obtain ⟨hP2, hD2⟩ := putB_join hP hD isC hC hn ha hk1 hP1
  exact k H1 locs1 ls hP2 hD2 hS hl
theorem g_callVd (X : gX p s m args c D tys A cc nL own Ts) {r0 : UInt64} (hM : MDb l y wds rm D tys wc (.ref b :: av) (fun r u => r = r0 ∧ u = wc')) (pc' : Nat) (isC : List Nat) (hG : GoodIn Ts (wsV own index C y wds)) (hwd : wds = Cond.code y bytes maxL ret :: ws9)
    (hdy : y.cls = C ∧ y.cls ≠ "java/lang/invoke/MethodHandle" ∧ y.cls ≠ "java/lang/invoke/VarHandle" ∧ (parseMethodDescriptor y.desc).map (fun d => d.parameters.length) = some n) (hnn : av.length = n) (hR : rm.frames + 1 ≤ R.frames ∧ 8 + (maxL + 11) + rm.locals ≤ R.locals) {ci : Nat} {T : u_T} {N q0 : Nat} {fs : List Value} (hc : vwCl[ci]? = some (C, T, N)) (he : wc[q0]? = some (b, .inr (ci, fs)))
    (hst : st = av.reverse ++ .ref b :: rest) (hrest : (rest.map fun v => v.category).sum ≤ 8) (hC : isC.map (fun i => ws[i]?) = wc.map some) (hn : va_nd isC = true) (ha : wc'.map Prod.fst = wc.map Prod.fst) (hws : putB ws isC wc' = ws')
    (hd : decode cc pc = .ok (.invokevirtual index, 3)) (hpc : pc + 3 = pc') (hf : kc + rm.cells ≤ R.cells ∧ ks + rm.slots ≤ R.slots) (k : G p l e R s m args below meth c Q D A nL (kc + rm.cells) (ks + rm.slots) ws' lv pc' (.double r0 :: rest)) : G p l e R s m args below meth c Q D A nL kc ks ws lv pc st := by
  subst hnn
  subst hpc
  subst hst
  subst hws
  intro H locs ls hP hD hS hl
  have hPc : va_P D vwCl wc H := (va_P.sub hP isC (fm_map isC wc hC))
  have hDc : va_D (fun _ => True) wc := (va_D.sub hD isC hn hC).weaken (fun _ _ _ _ => trivial)
  have hFc := va_free (wc := wc) hD hS X.hA isC hC
  refine va_calld (va_runV (As := av) (rest := rest) X.fix (hM H.size) (cwV av.length X.hts hG hwd rfl rfl hdy hR) (gPreV X.K hPc hDc hc he) rfl rfl hl.1 rfl (lv_room hrest) hd hf) hS (fun q _ h => hFc q h) hFc (fun r u t H1 locs1 ht hvm hw hB hz1 hk1 hS => ?_)
  obtain ⟨rfl, rfl⟩ := hw
  obtain ⟨hP1, hK1, hD1⟩ := hB
  rw [ht] at hP1
  obtain ⟨hP2, hD2⟩ := putB_join hP hD isC hC hn ha hk1 hP1
  exact k H1 locs1 ls hP2 hD2 hS hl
theorem g_callVv (X : gX p s m args c D tys A cc nL own Ts) (hM : MV l y wds rm D tys wc (.ref b :: av) (fun u => u = wc')) (pc' : Nat) (isC : List Nat) (hG : GoodIn Ts (wsV own index C y wds)) (hwd : wds = Cond.code y bytes maxL ret :: ws9)
    (hdy : y.cls = C ∧ y.cls ≠ "java/lang/invoke/MethodHandle" ∧ y.cls ≠ "java/lang/invoke/VarHandle" ∧ (parseMethodDescriptor y.desc).map (fun d => d.parameters.length) = some n) (hnn : av.length = n) (hR : rm.frames + 1 ≤ R.frames ∧ 8 + (maxL + 11) + rm.locals ≤ R.locals) {ci : Nat} {T : u_T} {N q0 : Nat} {fs : List Value} (hc : vwCl[ci]? = some (C, T, N)) (he : wc[q0]? = some (b, .inr (ci, fs)))
    (hst : st = av.reverse ++ .ref b :: rest) (hrest : (rest.map fun v => v.category).sum ≤ 8) (hC : isC.map (fun i => ws[i]?) = wc.map some) (hn : va_nd isC = true) (ha : wc'.map Prod.fst = wc.map Prod.fst) (hws : putB ws isC wc' = ws')
    (hd : decode cc pc = .ok (.invokevirtual index, 3)) (hpc : pc + 3 = pc') (hf : kc + rm.cells ≤ R.cells ∧ ks + rm.slots ≤ R.slots) (k : G p l e R s m args below meth c Q D A nL (kc + rm.cells) (ks + rm.slots) ws' lv pc' rest) : G p l e R s m args below meth c Q D A nL kc ks ws lv pc st := by
  subst hnn
  subst hpc
  subst hst
  subst hws
  intro H locs ls hP hD hS hl
  have hPc : va_P D vwCl wc H := (va_P.sub hP isC (fm_map isC wc hC))
  have hDc : va_D (fun _ => True) wc := (va_D.sub hD isC hn hC).weaken (fun _ _ _ _ => trivial)
  have hFc := va_free (wc := wc) hD hS X.hA isC hC
  refine va_callv (va_runV (As := av) (rest := rest) X.fix (hM H.size) (cwV av.length X.hts hG hwd rfl rfl hdy hR) (gPreV X.K hPc hDc hc he) rfl rfl hl.1 rfl (lv_room hrest) hd hf) hS (fun q _ h => hFc q h) hFc (fun u t H1 locs1 ht hvm hw hB hz1 hk1 hS => ?_)
  obtain rfl := hw
  obtain ⟨hP1, hK1, hD1⟩ := hB
  rw [ht] at hP1
  obtain ⟨hP2, hD2⟩ := putB_join hP hD isC hC hn ha hk1 hP1
  exact k H1 locs1 ls hP2 hD2 hS hl
end GC
end
section
set_option maxRecDepth 20000 in
theorem wsL_law0_r1_in : ∀ w ∈ wsL_law0_r1, w ∈ lw_tbl := fun w h => (goodIn_p wsL_law0_r1 [252, 255, 29, 32] (by decide +kernel) (by decide +kernel) w h).1
set_option maxRecDepth 20000 in
theorem wsL_law0_r2_in : ∀ w ∈ wsL_law0_r2, w ∈ lw_tbl := fun w h => (goodIn_p wsL_law0_r2 [37, 64, 81] (by decide +kernel) (by decide +kernel) w h).1
set_option maxRecDepth 20000 in
theorem wsL_law0_r3_in : ∀ w ∈ wsL_law0_r3, w ∈ lw_tbl := fun w h => (goodIn_p wsL_law0_r3 [87, 97] (by decide +kernel) (by decide +kernel) w h).1
set_option maxRecDepth 20000 in
theorem wsL_law0_r4_in : ∀ w ∈ wsL_law0_r4, w ∈ lw_tbl := fun w h => (goodIn_p wsL_law0_r4 [538, 543, 440] (by decide +kernel) (by decide +kernel) w h).1
set_option maxRecDepth 20000 in
theorem wsL_law0_r5_in : ∀ w ∈ wsL_law0_r5, w ∈ lw_tbl := fun w h => (goodIn_p wsL_law0_r5 [447, 444, 451, 457] rfl (by decide +kernel) w h).1
set_option maxRecDepth 20000 in
theorem wsL_law0_r6_in : ∀ w ∈ wsL_law0_r6, w ∈ lw_tbl := fun w h => (goodIn_p wsL_law0_r6 [479, 405, 484, 311, 300, 492] (by decide +kernel) (by decide +kernel) w h).1
set_option maxRecDepth 20000 in
theorem wsL_law0_r7_in : ∀ w ∈ wsL_law0_r7, w ∈ lw_tbl := fun w h => (goodIn_p wsL_law0_r7 [496, 502, 506, 511, 353, 304] (by decide +kernel) (by decide +kernel) w h).1
set_option maxRecDepth 20000 in
theorem wsL_law0_r8_in : ∀ w ∈ wsL_law0_r8, w ∈ lw_tbl := fun w h => (goodIn_p wsL_law0_r8 [518, 401, 524, 336, 529, 292] (by decide +kernel) (by decide +kernel) w h).1
set_option maxRecDepth 20000 in
theorem wsL_law0_r9_in : ∀ w ∈ wsL_law0_r9, w ∈ lw_tbl := fun w h => (goodIn_p wsL_law0_r9 [534, 389, 393, 397] (by decide +kernel) (by decide +kernel) w h).1
set_option maxRecDepth 20000 in
theorem wsL_law0_r10_in : ∀ w ∈ wsL_law0_r10, w ∈ lw_tbl := fun w h => (goodIn_p wsL_law0_r10 [166, 238, 242, 246, 249, 259] (by decide +kernel) (by decide +kernel) w h).1
set_option maxRecDepth 20000 in
theorem wsL_law0_r11_in : ∀ w ∈ wsL_law0_r11, w ∈ lw_tbl := fun w h => (goodIn_p wsL_law0_r11 [263, 267, 271, 275, 279, 284] (by decide +kernel) (by decide +kernel) w h).1
set_option maxRecDepth 20000 in
theorem wsL_law0_r12_in : ∀ w ∈ wsL_law0_r12, w ∈ lw_tbl := fun w h => (goodIn_p wsL_law0_r12 [288, 296, 362, 367, 371] (by decide +kernel) (by decide +kernel) w h).1
set_option maxRecDepth 20000 in
theorem wsL_law0_r13_in : ∀ w ∈ wsL_law0_r13, w ∈ lw_tbl := fun w h => (goodIn_p wsL_law0_r13 [375, 379, 349, 358, 308] (by decide +kernel) (by decide +kernel) w h).1
set_option maxRecDepth 20000 in
theorem wsL_law0_r14_in : ∀ w ∈ wsL_law0_r14, w ∈ lw_tbl := fun w h => (goodIn_p wsL_law0_r14 [384, 332, 341, 345, 409, 413] (by decide +kernel) (by decide +kernel) w h).1
set_option maxRecDepth 20000 in
theorem wsL_law0_r15_in : ∀ w ∈ wsL_law0_r15, w ∈ lw_tbl := fun w h => (goodIn_p wsL_law0_r15 [421, 427, 431, 436] (by decide +kernel) (by decide +kernel) w h).1
theorem wsX50_in : ∀ w ∈ wsX50, w ∈ lw_tbl := fun w h => (goodIn_p wsX50 [] (by decide +kernel) (by decide +kernel) w h).1
theorem wsX40_in : ∀ w ∈ wsX40, w ∈ lw_tbl := fun w h => (goodIn_p wsX40 [] (by decide +kernel) (by decide +kernel) w h).1
theorem wsX10_in : ∀ w ∈ wsX10, w ∈ lw_tbl := fun w h => (goodIn_p wsX10 [] (by decide +kernel) (by decide +kernel) w h).1
theorem wsX00_in : ∀ w ∈ wsX00, w ∈ lw_tbl := fun w h => (goodIn_p wsX00 [] (by decide +kernel) (by decide +kernel) w h).1
theorem wsX20_in : ∀ w ∈ wsX20, w ∈ lw_tbl := fun w h => (goodIn_p wsX20 [] (by decide +kernel) (by decide +kernel) w h).1
theorem wsX30_in : ∀ w ∈ wsX30, w ∈ lw_tbl := fun w h => (goodIn_p wsX30 [] (by decide +kernel) (by decide +kernel) w h).1
theorem wsX60_in : ∀ w ∈ wsX60, w ∈ lw_tbl := fun w h => (goodIn_p wsX60 [] (by decide +kernel) (by decide +kernel) w h).1
theorem wsL_app {a b : List Cond} (h1 : ∀ w ∈ a, w ∈ lw_tbl) (h2 : ∀ w ∈ b, w ∈ lw_tbl) : ∀ w ∈ a ++ b, w ∈ lw_tbl := fun w h => (List.mem_append.mp h).elim (h1 w) (h2 w)
theorem wsL_law_in0 : ∀ w ∈ wsL_law0, w ∈ lw_tbl := (wsL_app (wsL_app (wsL_app (wsL_app (wsL_app (wsL_app (wsL_app (wsL_app (wsL_app wsL_law0_r1_in (wsL_app wsL_law0_r2_in (wsL_app wsL_law0_r3_in (wsL_app wsL_law0_r4_in (wsL_app wsL_law0_r5_in (wsL_app wsL_law0_r6_in (wsL_app wsL_law0_r7_in (wsL_app wsL_law0_r8_in (wsL_app wsL_law0_r9_in (wsL_app wsL_law0_r10_in (wsL_app wsL_law0_r11_in (wsL_app wsL_law0_r12_in (wsL_app wsL_law0_r13_in (wsL_app wsL_law0_r14_in wsL_law0_r15_in)))))))))))))) wsX50_in) wsX40_in) wsX10_in) wsX00_in) wsX20_in) wsX30_in) wsX60_in) (fun _ h => absurd h List.not_mem_nil))
theorem wsL_law_x0 : ∀ w ∈ (vx_atS RX5 37 "java/lang/IllegalArgumentException" ["java/lang/RuntimeException", "java/lang/Exception"]).filter goodWord, w ∈ lw_tbl := by decide +kernel
theorem wsL_law_x1 : ∀ w ∈ (vx_atS RX5 44 "java/lang/IndexOutOfBoundsException" ["java/lang/RuntimeException", "java/lang/Exception"]).filter goodWord, w ∈ lw_tbl := by decide +kernel
theorem wsL_law_x2 : ∀ w ∈ (vx_atS RX5 53 "java/lang/IllegalStateException" ["java/lang/RuntimeException", "java/lang/Exception"]).filter goodWord, w ∈ lw_tbl := by decide +kernel
theorem wsL_law_in : ∀ w ∈ wsL_law, w ∈ lw_tbl := fun w h => (List.mem_append.mp h).elim (fun h => (List.mem_append.mp h).elim (fun h => (List.mem_append.mp h).elim (fun h => wsL_law_in0 w h) (fun h => wsL_law_x0 w h)) (fun h => wsL_law_x1 w h)) (fun h => wsL_law_x2 w h)
theorem inlX0 : ∀ w ∈ wsX00, w ∈ wsL_law := fun _ h => List.mem_append_left _ (List.mem_append_left _ (List.mem_append_left _ (List.mem_append_left _ (List.mem_append_left _ (List.mem_append_left _ (List.mem_append_left _ (List.mem_append_right _ h)))))))
theorem inX0 : ∀ w ∈ wsX00, w ∈ lw_tbl := fun w h => wsL_law_in w (inlX0 w h)
theorem inlX1 : ∀ w ∈ wsX10, w ∈ wsL_law := fun _ h => List.mem_append_left _ (List.mem_append_left _ (List.mem_append_left _ (List.mem_append_left _ (List.mem_append_left _ (List.mem_append_left _ (List.mem_append_left _ (List.mem_append_left _ (List.mem_append_right _ h))))))))
theorem inX1 : ∀ w ∈ wsX10, w ∈ lw_tbl := fun w h => wsL_law_in w (inlX1 w h)
theorem inlX2 : ∀ w ∈ wsX20, w ∈ wsL_law := fun _ h => List.mem_append_left _ (List.mem_append_left _ (List.mem_append_left _ (List.mem_append_left _ (List.mem_append_left _ (List.mem_append_left _ (List.mem_append_right _ h))))))
theorem inX2 : ∀ w ∈ wsX20, w ∈ lw_tbl := fun w h => wsL_law_in w (inlX2 w h)
theorem inlX3 : ∀ w ∈ wsX30, w ∈ wsL_law := fun _ h => List.mem_append_left _ (List.mem_append_left _ (List.mem_append_left _ (List.mem_append_left _ (List.mem_append_left _ (List.mem_append_right _ h)))))
theorem inX3 : ∀ w ∈ wsX30, w ∈ lw_tbl := fun w h => wsL_law_in w (inlX3 w h)
theorem inlX4 : ∀ w ∈ wsX40, w ∈ wsL_law := fun _ h => List.mem_append_left _ (List.mem_append_left _ (List.mem_append_left _ (List.mem_append_left _ (List.mem_append_left _ (List.mem_append_left _ (List.mem_append_left _ (List.mem_append_left _ (List.mem_append_left _ (List.mem_append_right _ h)))))))))
theorem inX4 : ∀ w ∈ wsX40, w ∈ lw_tbl := fun w h => wsL_law_in w (inlX4 w h)
theorem inlX5 : ∀ w ∈ wsX50, w ∈ wsL_law := fun _ h => List.mem_append_left _ (List.mem_append_left _ (List.mem_append_left _ (List.mem_append_left _ (List.mem_append_left _ (List.mem_append_left _ (List.mem_append_left _ (List.mem_append_left _ (List.mem_append_left _ (List.mem_append_left _ (List.mem_append_right _ h))))))))))
theorem inX5 : ∀ w ∈ wsX50, w ∈ lw_tbl := fun w h => wsL_law_in w (inlX5 w h)
theorem inlX6 : ∀ w ∈ wsX60, w ∈ wsL_law := fun _ h => List.mem_append_left _ (List.mem_append_left _ (List.mem_append_left _ (List.mem_append_left _ (List.mem_append_right _ h))))
theorem inX6 : ∀ w ∈ wsX60, w ∈ lw_tbl := fun w h => wsL_law_in w (inlX6 w h)
theorem inX7 : ∀ w ∈ wsX70, w ∈ lw_tbl := by decide +kernel
theorem inJ9 : ∀ w ∈ wsJ90, w ∈ lw_tbl := by decide +kernel
theorem inJ0 : ∀ w ∈ wsJ00, w ∈ lw_tbl := by decide +kernel
end
section
set_option maxRecDepth 20000 in
theorem ggX0_init_X2_init : GoodIn wsX0_init wsX2_init := goodIn_r _ [17, 18, 2, 3, 19, 20, 32] (by decide +kernel) (by decide +kernel)
set_option maxRecDepth 20000 in
theorem gX0_init_X2_init_n9 : GoodIn wsX0_init (wsX2_init) := ggX0_init_X2_init
set_option maxRecDepth 20000 in
theorem ggX0_init_X3_init : GoodIn wsX0_init wsX3_init := goodIn_r _ [22, 23, 2, 3, 24, 19, 25, 26, 27, 28, 29, 30, 31, 39, 40, 41, 42, 43, 44, 45] (by decide +kernel) (by decide +kernel)
set_option maxRecDepth 20000 in
theorem gX0_init_X3_init_n18 : GoodIn wsX0_init (wsX3_init) := ggX0_init_X3_init
theorem dX0_init_0 : decode cX0_init 0 = .ok (.aload_n 0, 1) := by decide +kernel
theorem dX0_init_1 : decode cX0_init 1 = .ok (.invokespecial 1, 3) := by decide +kernel
theorem dX0_init_4 : decode cX0_init 4 = .ok (.aload_n 0, 1) := by decide +kernel
theorem dX0_init_5 : decode cX0_init 5 = .ok (.new 7, 3) := by decide +kernel
theorem dX0_init_8 : decode cX0_init 8 = .ok (.dup, 1) := by decide +kernel
theorem dX0_init_9 : decode cX0_init 9 = .ok (.invokespecial 9, 3) := by decide +kernel
theorem dX0_init_12 : decode cX0_init 12 = .ok (.putfield 10, 3) := by decide +kernel
theorem dX0_init_15 : decode cX0_init 15 = .ok (.aload_n 0, 1) := by decide +kernel
theorem dX0_init_16 : decode cX0_init 16 = .ok (.new 16, 3) := by decide +kernel
theorem dX0_init_19 : decode cX0_init 19 = .ok (.dup, 1) := by decide +kernel
theorem dX0_init_20 : decode cX0_init 20 = .ok (.invokespecial 18, 3) := by decide +kernel
theorem dX0_init_23 : decode cX0_init 23 = .ok (.putfield 19, 3) := by decide +kernel
theorem dX0_init_26 : decode cX0_init 26 = .ok (.aload_n 0, 1) := by decide +kernel
theorem dX0_init_27 : decode cX0_init 27 = .ok (.iconst 0, 1) := by decide +kernel
theorem dX0_init_28 : decode cX0_init 28 = .ok (.putfield 23, 3) := by decide +kernel
theorem dX0_init_31 : decode cX0_init 31 = .ok (.aload_n 0, 1) := by decide +kernel
theorem dX0_init_32 : decode cX0_init 32 = .ok (.iconst 0, 1) := by decide +kernel
theorem dX0_init_33 : decode cX0_init 33 = .ok (.putfield 27, 3) := by decide +kernel
theorem dX0_init_36 : decode cX0_init 36 = .ok (.aload_n 0, 1) := by decide +kernel
theorem dX0_init_37 : decode cX0_init 37 = .ok (.iconst 0, 1) := by decide +kernel
theorem dX0_init_38 : decode cX0_init 38 = .ok (.putfield 30, 3) := by decide +kernel
theorem dX0_init_41 : decode cX0_init 41 = .ok (.aload_n 0, 1) := by decide +kernel
theorem dX0_init_42 : decode cX0_init 42 = .ok (.iconst 0, 1) := by decide +kernel
theorem dX0_init_43 : decode cX0_init 43 = .ok (.putfield 33, 3) := by decide +kernel
theorem dX0_init_46 : decode cX0_init 46 = .ok (.return_, 1) := by decide +kernel
set_option maxRecDepth 20000 in
theorem ggX0_goOn_X0_goOneDay : GoodIn wsX0_goOn wsX0_goOneDay := goodIn_r _ [5, 6, 7, 8, 9, 10, 11, 12, 13, 14, 15, 16, 17, 18, 19, 20, 21, 22, 23, 24, 25, 26, 27, 28, 29, 30, 31, 32, 33, 34, 35, 36, 37, 38, 39, 40, 41, 42, 43, 44, 45, 46, 47, 48, 49, 50, 51, 52, 53, 54, 55, 56, 57, 58, 59, 60, 61, 62, 63, 64, 65, 66, 67, 68, 69, 70, 71, 72, 73, 74, 75, 76, 77, 78, 79, 80, 81, 82, 83, 84, 85, 86, 87, 88, 89, 90, 91, 92, 93, 94, 95, 96, 97, 98, 99, 100, 101, 102, 103, 104, 105, 106, 107, 108, 109, 110, 111, 112, 113, 114, 115, 116, 117, 118] (by decide +kernel) (by decide +kernel)
set_option maxRecDepth 20000 in
theorem gX0_goOn_X0_goOneDay : GoodIn wsX0_goOn (wsV RX0 43 RX0 yX0_goOneDay wsX0_goOneDay) := goodIn_app (goodIn_of _ (by decide +kernel)) ggX0_goOn_X0_goOneDay
theorem dX0_goOn_0 : decode cX0_goOn 0 = .ok (.iconst 0, 1) := by decide +kernel
theorem dX0_goOn_1 : decode cX0_goOn 1 = .ok (.istore 4, 2) := by decide +kernel
theorem dX0_goOn_3 : decode cX0_goOn 3 = .ok (.iload 4, 2) := by decide +kernel
theorem dX0_goOn_5 : decode cX0_goOn 5 = .ok (.iload_n 1, 1) := by decide +kernel
theorem dX0_goOn_6 : decode cX0_goOn 6 = .ok (.if_icmp .ge 15, 3) := by decide +kernel
theorem dX0_goOn_9 : decode cX0_goOn 9 = .ok (.aload_n 0, 1) := by decide +kernel
theorem dX0_goOn_10 : decode cX0_goOn 10 = .ok (.aload_n 2, 1) := by decide +kernel
theorem dX0_goOn_11 : decode cX0_goOn 11 = .ok (.aload_n 3, 1) := by decide +kernel
theorem dX0_goOn_12 : decode cX0_goOn 12 = .ok (.invokevirtual 43, 3) := by decide +kernel
theorem dX0_goOn_15 : decode cX0_goOn 15 = .ok (.iinc 4 1, 3) := by decide +kernel
theorem dX0_goOn_18 : decode cX0_goOn 18 = .ok (.goto (-15), 3) := by decide +kernel
theorem dX0_goOn_21 : decode cX0_goOn 21 = .ok (.return_, 1) := by decide +kernel
set_option maxRecDepth 20000 in
theorem ggX0_goOneDay_X2_gather : GoodIn wsX0_goOneDay wsX2_gather := goodIn_r _ [11, 12, 13, 14, 15, 16, 17, 18, 10, 19, 20, 21, 22, 97] (by decide +kernel) (by decide +kernel)
set_option maxRecDepth 20000 in
theorem gX0_goOneDay_X2_gather : GoodIn wsX0_goOneDay (wsV RX0 47 RX2 yX2_gather wsX2_gather) := goodIn_app (goodIn_of _ (by decide +kernel)) ggX0_goOneDay_X2_gather
set_option maxRecDepth 20000 in
theorem ggX0_goOneDay_X1_areOn : GoodIn wsX0_goOneDay wsX1_areOn := goodIn_r _ [27, 28, 29, 30, 98, 99, 100] (by decide +kernel) (by decide +kernel)
set_option maxRecDepth 20000 in
theorem gX0_goOneDay_X1_areOn : GoodIn wsX0_goOneDay (wsV RX0 51 RX1 yX1_areOn wsX1_areOn) := goodIn_app (goodIn_of _ (by decide +kernel)) ggX0_goOneDay_X1_areOn
set_option maxRecDepth 20000 in
theorem ggX0_goOneDay_X4_allBring : GoodIn wsX0_goOneDay wsX4_allBring := goodIn_r _ [35, 36, 37, 38, 39, 34, 40, 41, 42, 21, 15, 22, 43, 44, 45, 46, 47, 48, 49, 50, 51, 52, 53, 54, 55, 56, 57, 10, 58, 12, 101, 102, 103, 104, 105, 106, 97] (by decide +kernel) (by decide +kernel)
set_option maxRecDepth 20000 in
theorem gX0_goOneDay_X4_allBring : GoodIn wsX0_goOneDay (wsV RX0 57 RX4 yX4_allBring wsX4_allBring) := goodIn_app (goodIn_of _ (by decide +kernel)) ggX0_goOneDay_X4_allBring
set_option maxRecDepth 20000 in
theorem ggX0_goOneDay_X3_work : GoodIn wsX0_goOneDay wsX3_work := goodIn_r _ [63, 64, 65, 66, 67, 62, 68, 69, 70, 71, 72, 73, 74, 75, 10, 76, 12, 13, 14, 15, 16, 77, 78, 79, 80, 81, 82, 83, 84, 85, 86, 87, 88, 89, 90, 107, 108, 109, 110, 111, 112, 113, 97] (by decide +kernel) (by decide +kernel)
set_option maxRecDepth 20000 in
theorem gX0_goOneDay_X3_work : GoodIn wsX0_goOneDay (wsV RX0 63 RX3 yX3_work wsX3_work) := goodIn_app (goodIn_of _ (by decide +kernel)) ggX0_goOneDay_X3_work
theorem dX0_goOneDay_0 : decode cX0_goOneDay 0 = .ok (.aload_n 0, 1) := by decide +kernel
theorem dX0_goOneDay_1 : decode cX0_goOneDay 1 = .ok (.getfield 10, 3) := by decide +kernel
theorem dX0_goOneDay_4 : decode cX0_goOneDay 4 = .ok (.aload_n 0, 1) := by decide +kernel
theorem dX0_goOneDay_5 : decode cX0_goOneDay 5 = .ok (.getfield 23, 3) := by decide +kernel
theorem dX0_goOneDay_8 : decode cX0_goOneDay 8 = .ok (.invokevirtual 47, 3) := by decide +kernel
theorem dX0_goOneDay_11 : decode cX0_goOneDay 11 = .ok (.aload_n 2, 1) := by decide +kernel
theorem dX0_goOneDay_12 : decode cX0_goOneDay 12 = .ok (.aload_n 0, 1) := by decide +kernel
theorem dX0_goOneDay_13 : decode cX0_goOneDay 13 = .ok (.getfield 27, 3) := by decide +kernel
theorem dX0_goOneDay_16 : decode cX0_goOneDay 16 = .ok (.invokevirtual 51, 3) := by decide +kernel
theorem dX0_goOneDay_19 : decode cX0_goOneDay 19 = .ok (.ifCond .eq 33, 3) := by decide +kernel
theorem dX0_goOneDay_22 : decode cX0_goOneDay 22 = .ok (.aload_n 0, 1) := by decide +kernel
theorem dX0_goOneDay_23 : decode cX0_goOneDay 23 = .ok (.dup, 1) := by decide +kernel
theorem dX0_goOneDay_24 : decode cX0_goOneDay 24 = .ok (.getfield 30, 3) := by decide +kernel
theorem dX0_goOneDay_27 : decode cX0_goOneDay 27 = .ok (.aload_n 1, 1) := by decide +kernel
theorem dX0_goOneDay_28 : decode cX0_goOneDay 28 = .ok (.aload_n 0, 1) := by decide +kernel
theorem dX0_goOneDay_29 : decode cX0_goOneDay 29 = .ok (.getfield 10, 3) := by decide +kernel
theorem dX0_goOneDay_32 : decode cX0_goOneDay 32 = .ok (.invokevirtual 57, 3) := by decide +kernel
theorem dX0_goOneDay_35 : decode cX0_goOneDay 35 = .ok (.iadd, 1) := by decide +kernel
theorem dX0_goOneDay_36 : decode cX0_goOneDay 36 = .ok (.putfield 30, 3) := by decide +kernel
theorem dX0_goOneDay_39 : decode cX0_goOneDay 39 = .ok (.aload_n 0, 1) := by decide +kernel
theorem dX0_goOneDay_40 : decode cX0_goOneDay 40 = .ok (.dup, 1) := by decide +kernel
theorem dX0_goOneDay_41 : decode cX0_goOneDay 41 = .ok (.getfield 33, 3) := by decide +kernel
theorem dX0_goOneDay_44 : decode cX0_goOneDay 44 = .ok (.iconst 1, 1) := by decide +kernel
theorem dX0_goOneDay_45 : decode cX0_goOneDay 45 = .ok (.iadd, 1) := by decide +kernel
theorem dX0_goOneDay_46 : decode cX0_goOneDay 46 = .ok (.putfield 33, 3) := by decide +kernel
theorem dX0_goOneDay_49 : decode cX0_goOneDay 49 = .ok (.goto 14, 3) := by decide +kernel
theorem dX0_goOneDay_52 : decode cX0_goOneDay 52 = .ok (.aload_n 0, 1) := by decide +kernel
theorem dX0_goOneDay_53 : decode cX0_goOneDay 53 = .ok (.getfield 19, 3) := by decide +kernel
theorem dX0_goOneDay_56 : decode cX0_goOneDay 56 = .ok (.aload_n 0, 1) := by decide +kernel
theorem dX0_goOneDay_57 : decode cX0_goOneDay 57 = .ok (.getfield 10, 3) := by decide +kernel
theorem dX0_goOneDay_60 : decode cX0_goOneDay 60 = .ok (.invokevirtual 63, 3) := by decide +kernel
theorem dX0_goOneDay_63 : decode cX0_goOneDay 63 = .ok (.aload_n 0, 1) := by decide +kernel
theorem dX0_goOneDay_64 : decode cX0_goOneDay 64 = .ok (.dup, 1) := by decide +kernel
theorem dX0_goOneDay_65 : decode cX0_goOneDay 65 = .ok (.getfield 27, 3) := by decide +kernel
theorem dX0_goOneDay_68 : decode cX0_goOneDay 68 = .ok (.iconst 1, 1) := by decide +kernel
theorem dX0_goOneDay_69 : decode cX0_goOneDay 69 = .ok (.iadd, 1) := by decide +kernel
theorem dX0_goOneDay_70 : decode cX0_goOneDay 70 = .ok (.putfield 27, 3) := by decide +kernel
theorem dX0_goOneDay_73 : decode cX0_goOneDay 73 = .ok (.return_, 1) := by decide +kernel
theorem dX1_init_0 : decode cX1_init 0 = .ok (.aload_n 0, 1) := by decide +kernel
theorem dX1_init_1 : decode cX1_init 1 = .ok (.invokespecial 3, 3) := by decide +kernel
theorem dX1_init_4 : decode cX1_init 4 = .ok (.aload_n 0, 1) := by decide +kernel
theorem dX1_init_5 : decode cX1_init 5 = .ok (.iconst 0, 1) := by decide +kernel
theorem dX1_init_6 : decode cX1_init 6 = .ok (.putfield 9, 3) := by decide +kernel
theorem dX1_init_9 : decode cX1_init 9 = .ok (.aload_n 0, 1) := by decide +kernel
theorem dX1_init_10 : decode cX1_init 10 = .ok (.iconst 4, 1) := by decide +kernel
theorem dX1_init_11 : decode cX1_init 11 = .ok (.newarray .int, 2) := by decide +kernel
theorem dX1_init_13 : decode cX1_init 13 = .ok (.putfield 15, 3) := by decide +kernel
theorem dX1_init_16 : decode cX1_init 16 = .ok (.aload_n 0, 1) := by decide +kernel
theorem dX1_init_17 : decode cX1_init 17 = .ok (.iconst 4, 1) := by decide +kernel
theorem dX1_init_18 : decode cX1_init 18 = .ok (.newarray .int, 2) := by decide +kernel
theorem dX1_init_20 : decode cX1_init 20 = .ok (.putfield 19, 3) := by decide +kernel
theorem dX1_init_23 : decode cX1_init 23 = .ok (.return_, 1) := by decide +kernel
theorem dX1_put_0 : decode cX1_put 0 = .ok (.aload_n 0, 1) := by decide +kernel
theorem dX1_put_1 : decode cX1_put 1 = .ok (.getfield 15, 3) := by decide +kernel
theorem dX1_put_4 : decode cX1_put 4 = .ok (.aload_n 0, 1) := by decide +kernel
theorem dX1_put_5 : decode cX1_put 5 = .ok (.getfield 9, 3) := by decide +kernel
theorem dX1_put_8 : decode cX1_put 8 = .ok (.iload_n 1, 1) := by decide +kernel
theorem dX1_put_9 : decode cX1_put 9 = .ok (.iastore, 1) := by decide +kernel
theorem dX1_put_10 : decode cX1_put 10 = .ok (.aload_n 0, 1) := by decide +kernel
theorem dX1_put_11 : decode cX1_put 11 = .ok (.getfield 19, 3) := by decide +kernel
theorem dX1_put_14 : decode cX1_put 14 = .ok (.aload_n 0, 1) := by decide +kernel
theorem dX1_put_15 : decode cX1_put 15 = .ok (.getfield 9, 3) := by decide +kernel
theorem dX1_put_18 : decode cX1_put 18 = .ok (.iload_n 2, 1) := by decide +kernel
theorem dX1_put_19 : decode cX1_put 19 = .ok (.iastore, 1) := by decide +kernel
theorem dX1_put_20 : decode cX1_put 20 = .ok (.aload_n 0, 1) := by decide +kernel
theorem dX1_put_21 : decode cX1_put 21 = .ok (.dup, 1) := by decide +kernel
theorem dX1_put_22 : decode cX1_put 22 = .ok (.getfield 9, 3) := by decide +kernel
theorem dX1_put_25 : decode cX1_put 25 = .ok (.iconst 1, 1) := by decide +kernel
theorem dX1_put_26 : decode cX1_put 26 = .ok (.iadd, 1) := by decide +kernel
theorem dX1_put_27 : decode cX1_put 27 = .ok (.putfield 9, 3) := by decide +kernel
theorem dX1_put_30 : decode cX1_put 30 = .ok (.aload_n 0, 1) := by decide +kernel
theorem dX1_put_31 : decode cX1_put 31 = .ok (.getfield 9, 3) := by decide +kernel
theorem dX1_put_34 : decode cX1_put 34 = .ok (.iconst 1, 1) := by decide +kernel
theorem dX1_put_35 : decode cX1_put 35 = .ok (.isub, 1) := by decide +kernel
theorem dX1_put_36 : decode cX1_put 36 = .ok (.ireturn, 1) := by decide +kernel
theorem dX1_areOn_0 : decode cX1_areOn 0 = .ok (.iconst 0, 1) := by decide +kernel
theorem dX1_areOn_1 : decode cX1_areOn 1 = .ok (.istore_n 2, 1) := by decide +kernel
theorem dX1_areOn_2 : decode cX1_areOn 2 = .ok (.iload_n 2, 1) := by decide +kernel
theorem dX1_areOn_3 : decode cX1_areOn 3 = .ok (.aload_n 0, 1) := by decide +kernel
theorem dX1_areOn_4 : decode cX1_areOn 4 = .ok (.getfield 9, 3) := by decide +kernel
theorem dX1_areOn_7 : decode cX1_areOn 7 = .ok (.if_icmp .ge 35, 3) := by decide +kernel
theorem dX1_areOn_10 : decode cX1_areOn 10 = .ok (.aload_n 0, 1) := by decide +kernel
theorem dX1_areOn_11 : decode cX1_areOn 11 = .ok (.getfield 15, 3) := by decide +kernel
theorem dX1_areOn_14 : decode cX1_areOn 14 = .ok (.iload_n 2, 1) := by decide +kernel
theorem dX1_areOn_15 : decode cX1_areOn 15 = .ok (.iaload, 1) := by decide +kernel
theorem dX1_areOn_16 : decode cX1_areOn 16 = .ok (.istore_n 3, 1) := by decide +kernel
theorem dX1_areOn_17 : decode cX1_areOn 17 = .ok (.iload_n 3, 1) := by decide +kernel
theorem dX1_areOn_18 : decode cX1_areOn 18 = .ok (.iconst 2, 1) := by decide +kernel
theorem dX1_areOn_19 : decode cX1_areOn 19 = .ok (.if_icmp .lt 17, 3) := by decide +kernel
theorem dX1_areOn_22 : decode cX1_areOn 22 = .ok (.iload_n 1, 1) := by decide +kernel
theorem dX1_areOn_23 : decode cX1_areOn 23 = .ok (.iload_n 3, 1) := by decide +kernel
theorem dX1_areOn_24 : decode cX1_areOn 24 = .ok (.irem, 1) := by decide +kernel
theorem dX1_areOn_25 : decode cX1_areOn 25 = .ok (.aload_n 0, 1) := by decide +kernel
theorem dX1_areOn_26 : decode cX1_areOn 26 = .ok (.getfield 19, 3) := by decide +kernel
theorem dX1_areOn_29 : decode cX1_areOn 29 = .ok (.iload_n 2, 1) := by decide +kernel
theorem dX1_areOn_30 : decode cX1_areOn 30 = .ok (.iaload, 1) := by decide +kernel
theorem dX1_areOn_31 : decode cX1_areOn 31 = .ok (.if_icmp .ne 5, 3) := by decide +kernel
theorem dX1_areOn_34 : decode cX1_areOn 34 = .ok (.iconst 1, 1) := by decide +kernel
theorem dX1_areOn_35 : decode cX1_areOn 35 = .ok (.ireturn, 1) := by decide +kernel
theorem dX1_areOn_36 : decode cX1_areOn 36 = .ok (.iinc 2 1, 3) := by decide +kernel
theorem dX1_areOn_39 : decode cX1_areOn 39 = .ok (.goto (-37), 3) := by decide +kernel
theorem dX1_areOn_42 : decode cX1_areOn 42 = .ok (.iconst 0, 1) := by decide +kernel
theorem dX1_areOn_43 : decode cX1_areOn 43 = .ok (.ireturn, 1) := by decide +kernel
set_option maxRecDepth 20000 in
theorem ggX1_daysUntil_X1_areOn : GoodIn wsX1_daysUntil wsX1_areOn := goodIn_r _ [5, 6, 7, 8, 9, 10, 11] (by decide +kernel) (by decide +kernel)
set_option maxRecDepth 20000 in
theorem gX1_daysUntil_X1_areOn : GoodIn wsX1_daysUntil (wsV RX1 22 RX1 yX1_areOn wsX1_areOn) := goodIn_app (goodIn_of _ (by decide +kernel)) ggX1_daysUntil_X1_areOn
theorem dX1_daysUntil_0 : decode cX1_daysUntil 0 = .ok (.iconst 0, 1) := by decide +kernel
theorem dX1_daysUntil_1 : decode cX1_daysUntil 1 = .ok (.istore_n 2, 1) := by decide +kernel
theorem dX1_daysUntil_2 : decode cX1_daysUntil 2 = .ok (.iload_n 2, 1) := by decide +kernel
theorem dX1_daysUntil_3 : decode cX1_daysUntil 3 = .ok (.bipush 60, 2) := by decide +kernel
theorem dX1_daysUntil_5 : decode cX1_daysUntil 5 = .ok (.if_icmp .gt 21, 3) := by decide +kernel
theorem dX1_daysUntil_8 : decode cX1_daysUntil 8 = .ok (.aload_n 0, 1) := by decide +kernel
theorem dX1_daysUntil_9 : decode cX1_daysUntil 9 = .ok (.iload_n 1, 1) := by decide +kernel
theorem dX1_daysUntil_10 : decode cX1_daysUntil 10 = .ok (.iload_n 2, 1) := by decide +kernel
theorem dX1_daysUntil_11 : decode cX1_daysUntil 11 = .ok (.iadd, 1) := by decide +kernel
theorem dX1_daysUntil_12 : decode cX1_daysUntil 12 = .ok (.invokevirtual 22, 3) := by decide +kernel
theorem dX1_daysUntil_15 : decode cX1_daysUntil 15 = .ok (.ifCond .eq 5, 3) := by decide +kernel
theorem dX1_daysUntil_18 : decode cX1_daysUntil 18 = .ok (.iload_n 2, 1) := by decide +kernel
theorem dX1_daysUntil_19 : decode cX1_daysUntil 19 = .ok (.ireturn, 1) := by decide +kernel
theorem dX1_daysUntil_20 : decode cX1_daysUntil 20 = .ok (.iinc 2 1, 3) := by decide +kernel
theorem dX1_daysUntil_23 : decode cX1_daysUntil 23 = .ok (.goto (-21), 3) := by decide +kernel
theorem dX1_daysUntil_26 : decode cX1_daysUntil 26 = .ok (.iconst (-1), 1) := by decide +kernel
theorem dX1_daysUntil_27 : decode cX1_daysUntil 27 = .ok (.ireturn, 1) := by decide +kernel
theorem dX2_init_0 : decode cX2_init 0 = .ok (.aload_n 0, 1) := by decide +kernel
theorem dX2_init_1 : decode cX2_init 1 = .ok (.invokespecial 3, 3) := by decide +kernel
theorem dX2_init_4 : decode cX2_init 4 = .ok (.aload_n 0, 1) := by decide +kernel
theorem dX2_init_5 : decode cX2_init 5 = .ok (.bipush 96, 2) := by decide +kernel
theorem dX2_init_7 : decode cX2_init 7 = .ok (.newarray .int, 2) := by decide +kernel
theorem dX2_init_9 : decode cX2_init 9 = .ok (.putfield 9, 3) := by decide +kernel
theorem dX2_init_12 : decode cX2_init 12 = .ok (.return_, 1) := by decide +kernel
theorem dX2_at_0 : decode cX2_at 0 = .ok (.aload_n 0, 1) := by decide +kernel
theorem dX2_at_1 : decode cX2_at 1 = .ok (.getfield 9, 3) := by decide +kernel
theorem dX2_at_4 : decode cX2_at 4 = .ok (.iload_n 1, 1) := by decide +kernel
theorem dX2_at_5 : decode cX2_at 5 = .ok (.bipush 8, 2) := by decide +kernel
theorem dX2_at_7 : decode cX2_at 7 = .ok (.imul, 1) := by decide +kernel
theorem dX2_at_8 : decode cX2_at 8 = .ok (.iload_n 2, 1) := by decide +kernel
theorem dX2_at_9 : decode cX2_at 9 = .ok (.iadd, 1) := by decide +kernel
theorem dX2_at_10 : decode cX2_at 10 = .ok (.iaload, 1) := by decide +kernel
theorem dX2_at_11 : decode cX2_at 11 = .ok (.ireturn, 1) := by decide +kernel
set_option maxRecDepth 20000 in
theorem ggX2_gather_X2_broughtTo : GoodIn wsX2_gather wsX2_broughtTo := goodIn_r _ [9, 10, 11, 4, 12] (by decide +kernel) (by decide +kernel)
set_option maxRecDepth 20000 in
theorem gX2_gather_X2_broughtTo : GoodIn wsX2_gather (va_wsS RX2 21 yX2_broughtTo wsX2_broughtTo) := goodIn_app (goodIn_of _ (by decide +kernel)) ggX2_gather_X2_broughtTo
theorem dX2_gather_0 : decode cX2_gather 0 = .ok (.iconst 0, 1) := by decide +kernel
theorem dX2_gather_1 : decode cX2_gather 1 = .ok (.istore_n 2, 1) := by decide +kernel
theorem dX2_gather_2 : decode cX2_gather 2 = .ok (.iload_n 2, 1) := by decide +kernel
theorem dX2_gather_3 : decode cX2_gather 3 = .ok (.bipush 12, 2) := by decide +kernel
theorem dX2_gather_5 : decode cX2_gather 5 = .ok (.if_icmp .ge 63, 3) := by decide +kernel
theorem dX2_gather_8 : decode cX2_gather 8 = .ok (.iconst 1, 1) := by decide +kernel
theorem dX2_gather_9 : decode cX2_gather 9 = .ok (.iload_n 2, 1) := by decide +kernel
theorem dX2_gather_10 : decode cX2_gather 10 = .ok (.iload_n 1, 1) := by decide +kernel
theorem dX2_gather_11 : decode cX2_gather 11 = .ok (.invokestatic 21, 3) := by decide +kernel
theorem dX2_gather_14 : decode cX2_gather 14 = .ok (.iadd, 1) := by decide +kernel
theorem dX2_gather_15 : decode cX2_gather 15 = .ok (.istore_n 3, 1) := by decide +kernel
theorem dX2_gather_16 : decode cX2_gather 16 = .ok (.iconst 0, 1) := by decide +kernel
theorem dX2_gather_17 : decode cX2_gather 17 = .ok (.istore 4, 2) := by decide +kernel
theorem dX2_gather_19 : decode cX2_gather 19 = .ok (.iload 4, 2) := by decide +kernel
theorem dX2_gather_21 : decode cX2_gather 21 = .ok (.bipush 8, 2) := by decide +kernel
theorem dX2_gather_23 : decode cX2_gather 23 = .ok (.if_icmp .ge 39, 3) := by decide +kernel
theorem dX2_gather_26 : decode cX2_gather 26 = .ok (.iload_n 2, 1) := by decide +kernel
theorem dX2_gather_27 : decode cX2_gather 27 = .ok (.bipush 8, 2) := by decide +kernel
theorem dX2_gather_29 : decode cX2_gather 29 = .ok (.imul, 1) := by decide +kernel
theorem dX2_gather_30 : decode cX2_gather 30 = .ok (.iload 4, 2) := by decide +kernel
theorem dX2_gather_32 : decode cX2_gather 32 = .ok (.iadd, 1) := by decide +kernel
theorem dX2_gather_33 : decode cX2_gather 33 = .ok (.istore 5, 2) := by decide +kernel
theorem dX2_gather_35 : decode cX2_gather 35 = .ok (.aload_n 0, 1) := by decide +kernel
theorem dX2_gather_36 : decode cX2_gather 36 = .ok (.getfield 9, 3) := by decide +kernel
theorem dX2_gather_39 : decode cX2_gather 39 = .ok (.iload 5, 2) := by decide +kernel
theorem dX2_gather_41 : decode cX2_gather 41 = .ok (.bipush 20, 2) := by decide +kernel
theorem dX2_gather_43 : decode cX2_gather 43 = .ok (.aload_n 0, 1) := by decide +kernel
theorem dX2_gather_44 : decode cX2_gather 44 = .ok (.getfield 9, 3) := by decide +kernel
theorem dX2_gather_47 : decode cX2_gather 47 = .ok (.iload 5, 2) := by decide +kernel
theorem dX2_gather_49 : decode cX2_gather 49 = .ok (.iaload, 1) := by decide +kernel
theorem dX2_gather_50 : decode cX2_gather 50 = .ok (.iload_n 3, 1) := by decide +kernel
theorem dX2_gather_51 : decode cX2_gather 51 = .ok (.iadd, 1) := by decide +kernel
theorem dX2_gather_52 : decode cX2_gather 52 = .ok (.invokestatic 25, 3) := by decide +kernel
theorem dX2_gather_55 : decode cX2_gather 55 = .ok (.iastore, 1) := by decide +kernel
theorem dX2_gather_56 : decode cX2_gather 56 = .ok (.iinc 4 1, 3) := by decide +kernel
theorem dX2_gather_59 : decode cX2_gather 59 = .ok (.goto (-40), 3) := by decide +kernel
theorem dX2_gather_62 : decode cX2_gather 62 = .ok (.iinc 2 1, 3) := by decide +kernel
theorem dX2_gather_65 : decode cX2_gather 65 = .ok (.goto (-63), 3) := by decide +kernel
theorem dX2_gather_68 : decode cX2_gather 68 = .ok (.return_, 1) := by decide +kernel
theorem dX2_broughtTo_0 : decode cX2_broughtTo 0 = .ok (.iload_n 1, 1) := by decide +kernel
theorem dX2_broughtTo_1 : decode cX2_broughtTo 1 = .ok (.ifCond .lt 11, 3) := by decide +kernel
theorem dX2_broughtTo_4 : decode cX2_broughtTo 4 = .ok (.iload_n 1, 1) := by decide +kernel
theorem dX2_broughtTo_5 : decode cX2_broughtTo 5 = .ok (.iload_n 0, 1) := by decide +kernel
theorem dX2_broughtTo_6 : decode cX2_broughtTo 6 = .ok (.iconst 2, 1) := by decide +kernel
theorem dX2_broughtTo_7 : decode cX2_broughtTo 7 = .ok (.idiv, 1) := by decide +kernel
theorem dX2_broughtTo_8 : decode cX2_broughtTo 8 = .ok (.isub, 1) := by decide +kernel
theorem dX2_broughtTo_9 : decode cX2_broughtTo 9 = .ok (.goto 12, 3) := by decide +kernel
theorem dX2_broughtTo_12 : decode cX2_broughtTo 12 = .ok (.iload_n 1, 1) := by decide +kernel
theorem dX2_broughtTo_13 : decode cX2_broughtTo 13 = .ok (.ineg, 1) := by decide +kernel
theorem dX2_broughtTo_14 : decode cX2_broughtTo 14 = .ok (.bipush 11, 2) := by decide +kernel
theorem dX2_broughtTo_16 : decode cX2_broughtTo 16 = .ok (.iload_n 0, 1) := by decide +kernel
theorem dX2_broughtTo_17 : decode cX2_broughtTo 17 = .ok (.isub, 1) := by decide +kernel
theorem dX2_broughtTo_18 : decode cX2_broughtTo 18 = .ok (.iconst 2, 1) := by decide +kernel
theorem dX2_broughtTo_19 : decode cX2_broughtTo 19 = .ok (.idiv, 1) := by decide +kernel
theorem dX2_broughtTo_20 : decode cX2_broughtTo 20 = .ok (.isub, 1) := by decide +kernel
theorem dX2_broughtTo_21 : decode cX2_broughtTo 21 = .ok (.istore_n 2, 1) := by decide +kernel
theorem dX2_broughtTo_22 : decode cX2_broughtTo 22 = .ok (.iconst 0, 1) := by decide +kernel
theorem dX2_broughtTo_23 : decode cX2_broughtTo 23 = .ok (.iload_n 2, 1) := by decide +kernel
theorem dX2_broughtTo_24 : decode cX2_broughtTo 24 = .ok (.invokestatic 30, 3) := by decide +kernel
theorem dX2_broughtTo_27 : decode cX2_broughtTo 27 = .ok (.ireturn, 1) := by decide +kernel
theorem dX2_takeOff_0 : decode cX2_takeOff 0 = .ok (.iload_n 1, 1) := by decide +kernel
theorem dX2_takeOff_1 : decode cX2_takeOff 1 = .ok (.bipush 8, 2) := by decide +kernel
theorem dX2_takeOff_3 : decode cX2_takeOff 3 = .ok (.imul, 1) := by decide +kernel
theorem dX2_takeOff_4 : decode cX2_takeOff 4 = .ok (.iload_n 2, 1) := by decide +kernel
theorem dX2_takeOff_5 : decode cX2_takeOff 5 = .ok (.iadd, 1) := by decide +kernel
theorem dX2_takeOff_6 : decode cX2_takeOff 6 = .ok (.istore 4, 2) := by decide +kernel
theorem dX2_takeOff_8 : decode cX2_takeOff 8 = .ok (.iload_n 3, 1) := by decide +kernel
theorem dX2_takeOff_9 : decode cX2_takeOff 9 = .ok (.aload_n 0, 1) := by decide +kernel
theorem dX2_takeOff_10 : decode cX2_takeOff 10 = .ok (.getfield 9, 3) := by decide +kernel
theorem dX2_takeOff_13 : decode cX2_takeOff 13 = .ok (.iload 4, 2) := by decide +kernel
theorem dX2_takeOff_15 : decode cX2_takeOff 15 = .ok (.iaload, 1) := by decide +kernel
theorem dX2_takeOff_16 : decode cX2_takeOff 16 = .ok (.invokestatic 25, 3) := by decide +kernel
theorem dX2_takeOff_19 : decode cX2_takeOff 19 = .ok (.istore 5, 2) := by decide +kernel
theorem dX2_takeOff_21 : decode cX2_takeOff 21 = .ok (.aload_n 0, 1) := by decide +kernel
theorem dX2_takeOff_22 : decode cX2_takeOff 22 = .ok (.getfield 9, 3) := by decide +kernel
theorem dX2_takeOff_25 : decode cX2_takeOff 25 = .ok (.iload 4, 2) := by decide +kernel
theorem dX2_takeOff_27 : decode cX2_takeOff 27 = .ok (.dup2, 1) := by decide +kernel
theorem dX2_takeOff_28 : decode cX2_takeOff 28 = .ok (.iaload, 1) := by decide +kernel
theorem dX2_takeOff_29 : decode cX2_takeOff 29 = .ok (.iload 5, 2) := by decide +kernel
theorem dX2_takeOff_31 : decode cX2_takeOff 31 = .ok (.isub, 1) := by decide +kernel
theorem dX2_takeOff_32 : decode cX2_takeOff 32 = .ok (.iastore, 1) := by decide +kernel
theorem dX2_takeOff_33 : decode cX2_takeOff 33 = .ok (.iload 5, 2) := by decide +kernel
theorem dX2_takeOff_35 : decode cX2_takeOff 35 = .ok (.ireturn, 1) := by decide +kernel
theorem dX2_total_0 : decode cX2_total 0 = .ok (.iconst 0, 1) := by decide +kernel
theorem dX2_total_1 : decode cX2_total 1 = .ok (.istore_n 1, 1) := by decide +kernel
theorem dX2_total_2 : decode cX2_total 2 = .ok (.iconst 0, 1) := by decide +kernel
theorem dX2_total_3 : decode cX2_total 3 = .ok (.istore_n 2, 1) := by decide +kernel
theorem dX2_total_4 : decode cX2_total 4 = .ok (.iload_n 2, 1) := by decide +kernel
theorem dX2_total_5 : decode cX2_total 5 = .ok (.bipush 96, 2) := by decide +kernel
theorem dX2_total_7 : decode cX2_total 7 = .ok (.if_icmp .ge 18, 3) := by decide +kernel
theorem dX2_total_10 : decode cX2_total 10 = .ok (.iload_n 1, 1) := by decide +kernel
theorem dX2_total_11 : decode cX2_total 11 = .ok (.aload_n 0, 1) := by decide +kernel
theorem dX2_total_12 : decode cX2_total 12 = .ok (.getfield 9, 3) := by decide +kernel
theorem dX2_total_15 : decode cX2_total 15 = .ok (.iload_n 2, 1) := by decide +kernel
theorem dX2_total_16 : decode cX2_total 16 = .ok (.iaload, 1) := by decide +kernel
theorem dX2_total_17 : decode cX2_total 17 = .ok (.iadd, 1) := by decide +kernel
theorem dX2_total_18 : decode cX2_total 18 = .ok (.istore_n 1, 1) := by decide +kernel
theorem dX2_total_19 : decode cX2_total 19 = .ok (.iinc 2 1, 3) := by decide +kernel
theorem dX2_total_22 : decode cX2_total 22 = .ok (.goto (-18), 3) := by decide +kernel
theorem dX2_total_25 : decode cX2_total 25 = .ok (.iload_n 1, 1) := by decide +kernel
theorem dX2_total_26 : decode cX2_total 26 = .ok (.ireturn, 1) := by decide +kernel
theorem dX2_cleanPanes_0 : decode cX2_cleanPanes 0 = .ok (.iconst 0, 1) := by decide +kernel
theorem dX2_cleanPanes_1 : decode cX2_cleanPanes 1 = .ok (.istore_n 1, 1) := by decide +kernel
theorem dX2_cleanPanes_2 : decode cX2_cleanPanes 2 = .ok (.iconst 0, 1) := by decide +kernel
theorem dX2_cleanPanes_3 : decode cX2_cleanPanes 3 = .ok (.istore_n 2, 1) := by decide +kernel
theorem dX2_cleanPanes_4 : decode cX2_cleanPanes 4 = .ok (.iload_n 2, 1) := by decide +kernel
theorem dX2_cleanPanes_5 : decode cX2_cleanPanes 5 = .ok (.bipush 96, 2) := by decide +kernel
theorem dX2_cleanPanes_7 : decode cX2_cleanPanes 7 = .ok (.if_icmp .ge 21, 3) := by decide +kernel
theorem dX2_cleanPanes_10 : decode cX2_cleanPanes 10 = .ok (.aload_n 0, 1) := by decide +kernel
theorem dX2_cleanPanes_11 : decode cX2_cleanPanes 11 = .ok (.getfield 9, 3) := by decide +kernel
theorem dX2_cleanPanes_14 : decode cX2_cleanPanes 14 = .ok (.iload_n 2, 1) := by decide +kernel
theorem dX2_cleanPanes_15 : decode cX2_cleanPanes 15 = .ok (.iaload, 1) := by decide +kernel
theorem dX2_cleanPanes_16 : decode cX2_cleanPanes 16 = .ok (.ifCond .ne 6, 3) := by decide +kernel
theorem dX2_cleanPanes_19 : decode cX2_cleanPanes 19 = .ok (.iinc 1 1, 3) := by decide +kernel
theorem dX2_cleanPanes_22 : decode cX2_cleanPanes 22 = .ok (.iinc 2 1, 3) := by decide +kernel
theorem dX2_cleanPanes_25 : decode cX2_cleanPanes 25 = .ok (.goto (-21), 3) := by decide +kernel
theorem dX2_cleanPanes_28 : decode cX2_cleanPanes 28 = .ok (.iload_n 1, 1) := by decide +kernel
theorem dX2_cleanPanes_29 : decode cX2_cleanPanes 29 = .ok (.ireturn, 1) := by decide +kernel
theorem dX3_init_0 : decode cX3_init 0 = .ok (.aload_n 0, 1) := by decide +kernel
theorem dX3_init_1 : decode cX3_init 1 = .ok (.invokespecial 3, 3) := by decide +kernel
theorem dX3_init_4 : decode cX3_init 4 = .ok (.aload_n 0, 1) := by decide +kernel
theorem dX3_init_5 : decode cX3_init 5 = .ok (.iconst 0, 1) := by decide +kernel
theorem dX3_init_6 : decode cX3_init 6 = .ok (.putfield 9, 3) := by decide +kernel
theorem dX3_init_9 : decode cX3_init 9 = .ok (.aload_n 0, 1) := by decide +kernel
theorem dX3_init_10 : decode cX3_init 10 = .ok (.bipush 6, 2) := by decide +kernel
theorem dX3_init_12 : decode cX3_init 12 = .ok (.newarray .int, 2) := by decide +kernel
theorem dX3_init_14 : decode cX3_init 14 = .ok (.putfield 15, 3) := by decide +kernel
theorem dX3_init_17 : decode cX3_init 17 = .ok (.aload_n 0, 1) := by decide +kernel
theorem dX3_init_18 : decode cX3_init 18 = .ok (.bipush 6, 2) := by decide +kernel
theorem dX3_init_20 : decode cX3_init 20 = .ok (.newarray .int, 2) := by decide +kernel
theorem dX3_init_22 : decode cX3_init 22 = .ok (.putfield 19, 3) := by decide +kernel
theorem dX3_init_25 : decode cX3_init 25 = .ok (.aload_n 0, 1) := by decide +kernel
theorem dX3_init_26 : decode cX3_init 26 = .ok (.bipush 6, 2) := by decide +kernel
theorem dX3_init_28 : decode cX3_init 28 = .ok (.newarray .int, 2) := by decide +kernel
theorem dX3_init_30 : decode cX3_init 30 = .ok (.putfield 22, 3) := by decide +kernel
theorem dX3_init_33 : decode cX3_init 33 = .ok (.aload_n 0, 1) := by decide +kernel
theorem dX3_init_34 : decode cX3_init 34 = .ok (.bipush 6, 2) := by decide +kernel
theorem dX3_init_36 : decode cX3_init 36 = .ok (.newarray .boolean, 2) := by decide +kernel
theorem dX3_init_38 : decode cX3_init 38 = .ok (.putfield 25, 3) := by decide +kernel
theorem dX3_init_41 : decode cX3_init 41 = .ok (.aload_n 0, 1) := by decide +kernel
theorem dX3_init_42 : decode cX3_init 42 = .ok (.bipush 6, 2) := by decide +kernel
theorem dX3_init_44 : decode cX3_init 44 = .ok (.newarray .int, 2) := by decide +kernel
theorem dX3_init_46 : decode cX3_init 46 = .ok (.putfield 29, 3) := by decide +kernel
theorem dX3_init_49 : decode cX3_init 49 = .ok (.aload_n 0, 1) := by decide +kernel
theorem dX3_init_50 : decode cX3_init 50 = .ok (.bipush 6, 2) := by decide +kernel
theorem dX3_init_52 : decode cX3_init 52 = .ok (.newarray .int, 2) := by decide +kernel
theorem dX3_init_54 : decode cX3_init 54 = .ok (.putfield 32, 3) := by decide +kernel
theorem dX3_init_57 : decode cX3_init 57 = .ok (.return_, 1) := by decide +kernel
theorem dX3_put_0 : decode cX3_put 0 = .ok (.aload_n 0, 1) := by decide +kernel
theorem dX3_put_1 : decode cX3_put 1 = .ok (.getfield 15, 3) := by decide +kernel
theorem dX3_put_4 : decode cX3_put 4 = .ok (.aload_n 0, 1) := by decide +kernel
theorem dX3_put_5 : decode cX3_put 5 = .ok (.getfield 9, 3) := by decide +kernel
theorem dX3_put_8 : decode cX3_put 8 = .ok (.iload_n 1, 1) := by decide +kernel
theorem dX3_put_9 : decode cX3_put 9 = .ok (.iastore, 1) := by decide +kernel
theorem dX3_put_10 : decode cX3_put 10 = .ok (.aload_n 0, 1) := by decide +kernel
theorem dX3_put_11 : decode cX3_put 11 = .ok (.getfield 22, 3) := by decide +kernel
theorem dX3_put_14 : decode cX3_put 14 = .ok (.aload_n 0, 1) := by decide +kernel
theorem dX3_put_15 : decode cX3_put 15 = .ok (.getfield 9, 3) := by decide +kernel
theorem dX3_put_18 : decode cX3_put 18 = .ok (.iload_n 2, 1) := by decide +kernel
theorem dX3_put_19 : decode cX3_put 19 = .ok (.iastore, 1) := by decide +kernel
theorem dX3_put_20 : decode cX3_put 20 = .ok (.aload_n 0, 1) := by decide +kernel
theorem dX3_put_21 : decode cX3_put 21 = .ok (.getfield 25, 3) := by decide +kernel
theorem dX3_put_24 : decode cX3_put 24 = .ok (.aload_n 0, 1) := by decide +kernel
theorem dX3_put_25 : decode cX3_put 25 = .ok (.getfield 9, 3) := by decide +kernel
theorem dX3_put_28 : decode cX3_put 28 = .ok (.iload_n 3, 1) := by decide +kernel
theorem dX3_put_29 : decode cX3_put 29 = .ok (.bastore, 1) := by decide +kernel
theorem dX3_put_30 : decode cX3_put 30 = .ok (.aload_n 0, 1) := by decide +kernel
theorem dX3_put_31 : decode cX3_put 31 = .ok (.dup, 1) := by decide +kernel
theorem dX3_put_32 : decode cX3_put 32 = .ok (.getfield 9, 3) := by decide +kernel
theorem dX3_put_35 : decode cX3_put 35 = .ok (.iconst 1, 1) := by decide +kernel
theorem dX3_put_36 : decode cX3_put 36 = .ok (.iadd, 1) := by decide +kernel
theorem dX3_put_37 : decode cX3_put 37 = .ok (.putfield 9, 3) := by decide +kernel
theorem dX3_put_40 : decode cX3_put 40 = .ok (.aload_n 0, 1) := by decide +kernel
theorem dX3_put_41 : decode cX3_put 41 = .ok (.getfield 9, 3) := by decide +kernel
theorem dX3_put_44 : decode cX3_put 44 = .ok (.iconst 1, 1) := by decide +kernel
theorem dX3_put_45 : decode cX3_put 45 = .ok (.isub, 1) := by decide +kernel
theorem dX3_put_46 : decode cX3_put 46 = .ok (.ireturn, 1) := by decide +kernel
theorem dX3_number_0 : decode cX3_number 0 = .ok (.iload_n 2, 1) := by decide +kernel
theorem dX3_number_1 : decode cX3_number 1 = .ok (.tableswitch 78 0 4 #[35, 42, 49, 56, 71], 35) := by decide +kernel
theorem dX3_number_36 : decode cX3_number 36 = .ok (.aload_n 0, 1) := by decide +kernel
theorem dX3_number_37 : decode cX3_number 37 = .ok (.getfield 15, 3) := by decide +kernel
theorem dX3_number_40 : decode cX3_number 40 = .ok (.iload_n 1, 1) := by decide +kernel
theorem dX3_number_41 : decode cX3_number 41 = .ok (.iaload, 1) := by decide +kernel
theorem dX3_number_42 : decode cX3_number 42 = .ok (.ireturn, 1) := by decide +kernel
theorem dX3_number_43 : decode cX3_number 43 = .ok (.aload_n 0, 1) := by decide +kernel
theorem dX3_number_44 : decode cX3_number 44 = .ok (.getfield 19, 3) := by decide +kernel
theorem dX3_number_47 : decode cX3_number 47 = .ok (.iload_n 1, 1) := by decide +kernel
theorem dX3_number_48 : decode cX3_number 48 = .ok (.iaload, 1) := by decide +kernel
theorem dX3_number_49 : decode cX3_number 49 = .ok (.ireturn, 1) := by decide +kernel
theorem dX3_number_50 : decode cX3_number 50 = .ok (.aload_n 0, 1) := by decide +kernel
theorem dX3_number_51 : decode cX3_number 51 = .ok (.getfield 22, 3) := by decide +kernel
theorem dX3_number_54 : decode cX3_number 54 = .ok (.iload_n 1, 1) := by decide +kernel
theorem dX3_number_55 : decode cX3_number 55 = .ok (.iaload, 1) := by decide +kernel
theorem dX3_number_56 : decode cX3_number 56 = .ok (.ireturn, 1) := by decide +kernel
theorem dX3_number_57 : decode cX3_number 57 = .ok (.aload_n 0, 1) := by decide +kernel
theorem dX3_number_58 : decode cX3_number 58 = .ok (.getfield 25, 3) := by decide +kernel
theorem dX3_number_61 : decode cX3_number 61 = .ok (.iload_n 1, 1) := by decide +kernel
theorem dX3_number_62 : decode cX3_number 62 = .ok (.baload, 1) := by decide +kernel
theorem dX3_number_63 : decode cX3_number 63 = .ok (.ifCond .eq 7, 3) := by decide +kernel
theorem dX3_number_66 : decode cX3_number 66 = .ok (.iconst 0, 1) := by decide +kernel
theorem dX3_number_67 : decode cX3_number 67 = .ok (.goto 4, 3) := by decide +kernel
theorem dX3_number_70 : decode cX3_number 70 = .ok (.iconst 1, 1) := by decide +kernel
theorem dX3_number_71 : decode cX3_number 71 = .ok (.ireturn, 1) := by decide +kernel
theorem dX3_number_72 : decode cX3_number 72 = .ok (.aload_n 0, 1) := by decide +kernel
theorem dX3_number_73 : decode cX3_number 73 = .ok (.getfield 29, 3) := by decide +kernel
theorem dX3_number_76 : decode cX3_number 76 = .ok (.iload_n 1, 1) := by decide +kernel
theorem dX3_number_77 : decode cX3_number 77 = .ok (.iaload, 1) := by decide +kernel
theorem dX3_number_78 : decode cX3_number 78 = .ok (.ireturn, 1) := by decide +kernel
theorem dX3_number_79 : decode cX3_number 79 = .ok (.aload_n 0, 1) := by decide +kernel
theorem dX3_number_80 : decode cX3_number 80 = .ok (.getfield 32, 3) := by decide +kernel
theorem dX3_number_83 : decode cX3_number 83 = .ok (.iload_n 1, 1) := by decide +kernel
theorem dX3_number_84 : decode cX3_number 84 = .ok (.iaload, 1) := by decide +kernel
theorem dX3_number_85 : decode cX3_number 85 = .ok (.ireturn, 1) := by decide +kernel
theorem dX3_allCleaned_0 : decode cX3_allCleaned 0 = .ok (.iconst 0, 1) := by decide +kernel
theorem dX3_allCleaned_1 : decode cX3_allCleaned 1 = .ok (.istore_n 1, 1) := by decide +kernel
theorem dX3_allCleaned_2 : decode cX3_allCleaned 2 = .ok (.iconst 0, 1) := by decide +kernel
theorem dX3_allCleaned_3 : decode cX3_allCleaned 3 = .ok (.istore_n 2, 1) := by decide +kernel
theorem dX3_allCleaned_4 : decode cX3_allCleaned 4 = .ok (.iload_n 2, 1) := by decide +kernel
theorem dX3_allCleaned_5 : decode cX3_allCleaned 5 = .ok (.aload_n 0, 1) := by decide +kernel
theorem dX3_allCleaned_6 : decode cX3_allCleaned 6 = .ok (.getfield 9, 3) := by decide +kernel
theorem dX3_allCleaned_9 : decode cX3_allCleaned 9 = .ok (.if_icmp .ge 18, 3) := by decide +kernel
theorem dX3_allCleaned_12 : decode cX3_allCleaned 12 = .ok (.iload_n 1, 1) := by decide +kernel
theorem dX3_allCleaned_13 : decode cX3_allCleaned 13 = .ok (.aload_n 0, 1) := by decide +kernel
theorem dX3_allCleaned_14 : decode cX3_allCleaned 14 = .ok (.getfield 29, 3) := by decide +kernel
theorem dX3_allCleaned_17 : decode cX3_allCleaned 17 = .ok (.iload_n 2, 1) := by decide +kernel
theorem dX3_allCleaned_18 : decode cX3_allCleaned 18 = .ok (.iaload, 1) := by decide +kernel
theorem dX3_allCleaned_19 : decode cX3_allCleaned 19 = .ok (.iadd, 1) := by decide +kernel
theorem dX3_allCleaned_20 : decode cX3_allCleaned 20 = .ok (.istore_n 1, 1) := by decide +kernel
theorem dX3_allCleaned_21 : decode cX3_allCleaned 21 = .ok (.iinc 2 1, 3) := by decide +kernel
theorem dX3_allCleaned_24 : decode cX3_allCleaned 24 = .ok (.goto (-20), 3) := by decide +kernel
theorem dX3_allCleaned_27 : decode cX3_allCleaned 27 = .ok (.iload_n 1, 1) := by decide +kernel
theorem dX3_allCleaned_28 : decode cX3_allCleaned 28 = .ok (.ireturn, 1) := by decide +kernel
theorem dX3_hangAt_0 : decode cX3_hangAt 0 = .ok (.iconst 0, 1) := by decide +kernel
theorem dX3_hangAt_1 : decode cX3_hangAt 1 = .ok (.istore_n 2, 1) := by decide +kernel
theorem dX3_hangAt_2 : decode cX3_hangAt 2 = .ok (.iload_n 2, 1) := by decide +kernel
theorem dX3_hangAt_3 : decode cX3_hangAt 3 = .ok (.aload_n 0, 1) := by decide +kernel
theorem dX3_hangAt_4 : decode cX3_hangAt 4 = .ok (.getfield 9, 3) := by decide +kernel
theorem dX3_hangAt_7 : decode cX3_hangAt 7 = .ok (.if_icmp .ge 21, 3) := by decide +kernel
theorem dX3_hangAt_10 : decode cX3_hangAt 10 = .ok (.aload_n 0, 1) := by decide +kernel
theorem dX3_hangAt_11 : decode cX3_hangAt 11 = .ok (.getfield 15, 3) := by decide +kernel
theorem dX3_hangAt_14 : decode cX3_hangAt 14 = .ok (.iload_n 2, 1) := by decide +kernel
theorem dX3_hangAt_15 : decode cX3_hangAt 15 = .ok (.iaload, 1) := by decide +kernel
theorem dX3_hangAt_16 : decode cX3_hangAt 16 = .ok (.iload_n 1, 1) := by decide +kernel
theorem dX3_hangAt_17 : decode cX3_hangAt 17 = .ok (.if_icmp .ne 5, 3) := by decide +kernel
theorem dX3_hangAt_20 : decode cX3_hangAt 20 = .ok (.iconst 1, 1) := by decide +kernel
theorem dX3_hangAt_21 : decode cX3_hangAt 21 = .ok (.ireturn, 1) := by decide +kernel
theorem dX3_hangAt_22 : decode cX3_hangAt 22 = .ok (.iinc 2 1, 3) := by decide +kernel
theorem dX3_hangAt_25 : decode cX3_hangAt 25 = .ok (.goto (-23), 3) := by decide +kernel
theorem dX3_hangAt_28 : decode cX3_hangAt 28 = .ok (.iconst 0, 1) := by decide +kernel
theorem dX3_hangAt_29 : decode cX3_hangAt 29 = .ok (.ireturn, 1) := by decide +kernel
theorem dX3_rehang_0 : decode cX3_rehang 0 = .ok (.aload_n 0, 1) := by decide +kernel
theorem dX3_rehang_1 : decode cX3_rehang 1 = .ok (.getfield 15, 3) := by decide +kernel
theorem dX3_rehang_4 : decode cX3_rehang 4 = .ok (.iload_n 1, 1) := by decide +kernel
theorem dX3_rehang_5 : decode cX3_rehang 5 = .ok (.iload_n 2, 1) := by decide +kernel
theorem dX3_rehang_6 : decode cX3_rehang 6 = .ok (.iastore, 1) := by decide +kernel
theorem dX3_rehang_7 : decode cX3_rehang 7 = .ok (.aload_n 0, 1) := by decide +kernel
theorem dX3_rehang_8 : decode cX3_rehang 8 = .ok (.getfield 19, 3) := by decide +kernel
theorem dX3_rehang_11 : decode cX3_rehang 11 = .ok (.iload_n 1, 1) := by decide +kernel
theorem dX3_rehang_12 : decode cX3_rehang 12 = .ok (.iconst 0, 1) := by decide +kernel
theorem dX3_rehang_13 : decode cX3_rehang 13 = .ok (.iastore, 1) := by decide +kernel
theorem dX3_rehang_14 : decode cX3_rehang 14 = .ok (.aload_n 0, 1) := by decide +kernel
theorem dX3_rehang_15 : decode cX3_rehang 15 = .ok (.getfield 32, 3) := by decide +kernel
theorem dX3_rehang_18 : decode cX3_rehang 18 = .ok (.iload_n 1, 1) := by decide +kernel
theorem dX3_rehang_19 : decode cX3_rehang 19 = .ok (.dup2, 1) := by decide +kernel
theorem dX3_rehang_20 : decode cX3_rehang 20 = .ok (.iaload, 1) := by decide +kernel
theorem dX3_rehang_21 : decode cX3_rehang 21 = .ok (.iconst 1, 1) := by decide +kernel
theorem dX3_rehang_22 : decode cX3_rehang 22 = .ok (.iadd, 1) := by decide +kernel
theorem dX3_rehang_23 : decode cX3_rehang 23 = .ok (.iastore, 1) := by decide +kernel
theorem dX3_rehang_24 : decode cX3_rehang 24 = .ok (.return_, 1) := by decide +kernel
set_option maxRecDepth 20000 in
theorem ggX3_work_X3_workOnOne : GoodIn wsX3_work wsX3_workOnOne := goodIn_r _ [6, 7, 8, 9, 10, 11, 12, 13, 14, 15, 16, 17, 18, 19, 20, 21, 22, 23, 5, 24, 25, 26, 27, 28, 29, 1, 30, 31, 32, 33, 34, 35, 36, 37, 38, 39, 40, 41, 42] (by decide +kernel) (by decide +kernel)
set_option maxRecDepth 20000 in
theorem gX3_work_X3_workOnOne : GoodIn wsX3_work (wsV RX3 35 RX3 yX3_workOnOne wsX3_workOnOne) := goodIn_app (goodIn_of _ (by decide +kernel)) ggX3_work_X3_workOnOne
theorem dX3_work_0 : decode cX3_work 0 = .ok (.iconst 0, 1) := by decide +kernel
theorem dX3_work_1 : decode cX3_work 1 = .ok (.istore_n 2, 1) := by decide +kernel
theorem dX3_work_2 : decode cX3_work 2 = .ok (.iload_n 2, 1) := by decide +kernel
theorem dX3_work_3 : decode cX3_work 3 = .ok (.aload_n 0, 1) := by decide +kernel
theorem dX3_work_4 : decode cX3_work 4 = .ok (.getfield 9, 3) := by decide +kernel
theorem dX3_work_7 : decode cX3_work 7 = .ok (.if_icmp .ge 15, 3) := by decide +kernel
theorem dX3_work_10 : decode cX3_work 10 = .ok (.aload_n 0, 1) := by decide +kernel
theorem dX3_work_11 : decode cX3_work 11 = .ok (.iload_n 2, 1) := by decide +kernel
theorem dX3_work_12 : decode cX3_work 12 = .ok (.aload_n 1, 1) := by decide +kernel
theorem dX3_work_13 : decode cX3_work 13 = .ok (.invokevirtual 35, 3) := by decide +kernel
theorem dX3_work_16 : decode cX3_work 16 = .ok (.iinc 2 1, 3) := by decide +kernel
theorem dX3_work_19 : decode cX3_work 19 = .ok (.goto (-17), 3) := by decide +kernel
theorem dX3_work_22 : decode cX3_work 22 = .ok (.return_, 1) := by decide +kernel
set_option maxRecDepth 20000 in
theorem ggX3_workOnOne_X2_takeOff : GoodIn wsX3_workOnOne wsX2_takeOff := goodIn_r _ [9, 10, 11, 12, 13, 14, 38] (by decide +kernel) (by decide +kernel)
set_option maxRecDepth 20000 in
theorem gX3_workOnOne_X2_takeOff : GoodIn wsX3_workOnOne (wsV RX3 39 RX2 yX2_takeOff wsX2_takeOff) := goodIn_app (goodIn_of _ (by decide +kernel)) ggX3_workOnOne_X2_takeOff
set_option maxRecDepth 20000 in
theorem ggX3_workOnOne_X3_nextFreeColumn : GoodIn wsX3_workOnOne wsX3_nextFreeColumn := goodIn_r _ [19, 20, 2, 21, 22, 23, 18, 24, 25, 31, 32, 33, 34, 35, 36, 37] (by decide +kernel) (by decide +kernel)
set_option maxRecDepth 20000 in
theorem gX3_workOnOne_X3_nextFreeColumn : GoodIn wsX3_workOnOne (wsV RX3 45 RX3 yX3_nextFreeColumn wsX3_nextFreeColumn) := goodIn_app (goodIn_of _ (by decide +kernel)) ggX3_workOnOne_X3_nextFreeColumn
set_option maxRecDepth 20000 in
theorem ggX3_workOnOne_X3_rehang : GoodIn wsX3_workOnOne wsX3_rehang := goodIn_r _ [29, 2, 3, 30, 31, 32, 33, 34, 35, 36, 37] (by decide +kernel) (by decide +kernel)
set_option maxRecDepth 20000 in
theorem gX3_workOnOne_X3_rehang : GoodIn wsX3_workOnOne (wsV RX3 49 RX3 yX3_rehang wsX3_rehang) := goodIn_app (goodIn_of _ (by decide +kernel)) ggX3_workOnOne_X3_rehang
theorem dX3_workOnOne_0 : decode cX3_workOnOne 0 = .ok (.aload_n 0, 1) := by decide +kernel
theorem dX3_workOnOne_1 : decode cX3_workOnOne 1 = .ok (.getfield 22, 3) := by decide +kernel
theorem dX3_workOnOne_4 : decode cX3_workOnOne 4 = .ok (.iload_n 1, 1) := by decide +kernel
theorem dX3_workOnOne_5 : decode cX3_workOnOne 5 = .ok (.iaload, 1) := by decide +kernel
theorem dX3_workOnOne_6 : decode cX3_workOnOne 6 = .ok (.istore_n 3, 1) := by decide +kernel
theorem dX3_workOnOne_7 : decode cX3_workOnOne 7 = .ok (.iconst 0, 1) := by decide +kernel
theorem dX3_workOnOne_8 : decode cX3_workOnOne 8 = .ok (.istore 4, 2) := by decide +kernel
theorem dX3_workOnOne_10 : decode cX3_workOnOne 10 = .ok (.iload 4, 2) := by decide +kernel
theorem dX3_workOnOne_12 : decode cX3_workOnOne 12 = .ok (.bipush 30, 2) := by decide +kernel
theorem dX3_workOnOne_14 : decode cX3_workOnOne 14 = .ok (.if_icmp .ge 98, 3) := by decide +kernel
theorem dX3_workOnOne_17 : decode cX3_workOnOne 17 = .ok (.aload_n 2, 1) := by decide +kernel
theorem dX3_workOnOne_18 : decode cX3_workOnOne 18 = .ok (.aload_n 0, 1) := by decide +kernel
theorem dX3_workOnOne_19 : decode cX3_workOnOne 19 = .ok (.getfield 15, 3) := by decide +kernel
theorem dX3_workOnOne_22 : decode cX3_workOnOne 22 = .ok (.iload_n 1, 1) := by decide +kernel
theorem dX3_workOnOne_23 : decode cX3_workOnOne 23 = .ok (.iaload, 1) := by decide +kernel
theorem dX3_workOnOne_24 : decode cX3_workOnOne 24 = .ok (.aload_n 0, 1) := by decide +kernel
theorem dX3_workOnOne_25 : decode cX3_workOnOne 25 = .ok (.getfield 19, 3) := by decide +kernel
theorem dX3_workOnOne_28 : decode cX3_workOnOne 28 = .ok (.iload_n 1, 1) := by decide +kernel
theorem dX3_workOnOne_29 : decode cX3_workOnOne 29 = .ok (.iaload, 1) := by decide +kernel
theorem dX3_workOnOne_30 : decode cX3_workOnOne 30 = .ok (.iload_n 3, 1) := by decide +kernel
theorem dX3_workOnOne_31 : decode cX3_workOnOne 31 = .ok (.invokevirtual 39, 3) := by decide +kernel
theorem dX3_workOnOne_34 : decode cX3_workOnOne 34 = .ok (.istore 5, 2) := by decide +kernel
theorem dX3_workOnOne_36 : decode cX3_workOnOne 36 = .ok (.aload_n 0, 1) := by decide +kernel
theorem dX3_workOnOne_37 : decode cX3_workOnOne 37 = .ok (.getfield 29, 3) := by decide +kernel
theorem dX3_workOnOne_40 : decode cX3_workOnOne 40 = .ok (.iload_n 1, 1) := by decide +kernel
theorem dX3_workOnOne_41 : decode cX3_workOnOne 41 = .ok (.dup2, 1) := by decide +kernel
theorem dX3_workOnOne_42 : decode cX3_workOnOne 42 = .ok (.iaload, 1) := by decide +kernel
theorem dX3_workOnOne_43 : decode cX3_workOnOne 43 = .ok (.iload 5, 2) := by decide +kernel
theorem dX3_workOnOne_45 : decode cX3_workOnOne 45 = .ok (.iadd, 1) := by decide +kernel
theorem dX3_workOnOne_46 : decode cX3_workOnOne 46 = .ok (.iastore, 1) := by decide +kernel
theorem dX3_workOnOne_47 : decode cX3_workOnOne 47 = .ok (.iload_n 3, 1) := by decide +kernel
theorem dX3_workOnOne_48 : decode cX3_workOnOne 48 = .ok (.iload 5, 2) := by decide +kernel
theorem dX3_workOnOne_50 : decode cX3_workOnOne 50 = .ok (.isub, 1) := by decide +kernel
theorem dX3_workOnOne_51 : decode cX3_workOnOne 51 = .ok (.istore_n 3, 1) := by decide +kernel
theorem dX3_workOnOne_52 : decode cX3_workOnOne 52 = .ok (.iload_n 3, 1) := by decide +kernel
theorem dX3_workOnOne_53 : decode cX3_workOnOne 53 = .ok (.ifCond .ne 4, 3) := by decide +kernel
theorem dX3_workOnOne_56 : decode cX3_workOnOne 56 = .ok (.return_, 1) := by decide +kernel
theorem dX3_workOnOne_57 : decode cX3_workOnOne 57 = .ok (.aload_n 0, 1) := by decide +kernel
theorem dX3_workOnOne_58 : decode cX3_workOnOne 58 = .ok (.getfield 19, 3) := by decide +kernel
theorem dX3_workOnOne_61 : decode cX3_workOnOne 61 = .ok (.iload_n 1, 1) := by decide +kernel
theorem dX3_workOnOne_62 : decode cX3_workOnOne 62 = .ok (.iaload, 1) := by decide +kernel
theorem dX3_workOnOne_63 : decode cX3_workOnOne 63 = .ok (.bipush 7, 2) := by decide +kernel
theorem dX3_workOnOne_65 : decode cX3_workOnOne 65 = .ok (.if_icmp .ge 19, 3) := by decide +kernel
theorem dX3_workOnOne_68 : decode cX3_workOnOne 68 = .ok (.aload_n 0, 1) := by decide +kernel
theorem dX3_workOnOne_69 : decode cX3_workOnOne 69 = .ok (.getfield 19, 3) := by decide +kernel
theorem dX3_workOnOne_72 : decode cX3_workOnOne 72 = .ok (.iload_n 1, 1) := by decide +kernel
theorem dX3_workOnOne_73 : decode cX3_workOnOne 73 = .ok (.dup2, 1) := by decide +kernel
theorem dX3_workOnOne_74 : decode cX3_workOnOne 74 = .ok (.iaload, 1) := by decide +kernel
theorem dX3_workOnOne_75 : decode cX3_workOnOne 75 = .ok (.iconst 1, 1) := by decide +kernel
theorem dX3_workOnOne_76 : decode cX3_workOnOne 76 = .ok (.iadd, 1) := by decide +kernel
theorem dX3_workOnOne_77 : decode cX3_workOnOne 77 = .ok (.iastore, 1) := by decide +kernel
theorem dX3_workOnOne_78 : decode cX3_workOnOne 78 = .ok (.iinc 3 (-1), 3) := by decide +kernel
theorem dX3_workOnOne_81 : decode cX3_workOnOne 81 = .ok (.goto 25, 3) := by decide +kernel
theorem dX3_workOnOne_84 : decode cX3_workOnOne 84 = .ok (.iload_n 3, 1) := by decide +kernel
theorem dX3_workOnOne_85 : decode cX3_workOnOne 85 = .ok (.iconst 3, 1) := by decide +kernel
theorem dX3_workOnOne_86 : decode cX3_workOnOne 86 = .ok (.if_icmp .lt 19, 3) := by decide +kernel
theorem dX3_workOnOne_89 : decode cX3_workOnOne 89 = .ok (.aload_n 0, 1) := by decide +kernel
theorem dX3_workOnOne_90 : decode cX3_workOnOne 90 = .ok (.iload_n 1, 1) := by decide +kernel
theorem dX3_workOnOne_91 : decode cX3_workOnOne 91 = .ok (.aload_n 0, 1) := by decide +kernel
theorem dX3_workOnOne_92 : decode cX3_workOnOne 92 = .ok (.iload_n 1, 1) := by decide +kernel
theorem dX3_workOnOne_93 : decode cX3_workOnOne 93 = .ok (.invokevirtual 45, 3) := by decide +kernel
theorem dX3_workOnOne_96 : decode cX3_workOnOne 96 = .ok (.invokevirtual 49, 3) := by decide +kernel
theorem dX3_workOnOne_99 : decode cX3_workOnOne 99 = .ok (.iinc 3 (-3), 3) := by decide +kernel
theorem dX3_workOnOne_102 : decode cX3_workOnOne 102 = .ok (.goto 4, 3) := by decide +kernel
theorem dX3_workOnOne_105 : decode cX3_workOnOne 105 = .ok (.return_, 1) := by decide +kernel
theorem dX3_workOnOne_106 : decode cX3_workOnOne 106 = .ok (.iinc 4 1, 3) := by decide +kernel
theorem dX3_workOnOne_109 : decode cX3_workOnOne 109 = .ok (.goto (-99), 3) := by decide +kernel
theorem dX3_workOnOne_112 : decode cX3_workOnOne 112 = .ok (.return_, 1) := by decide +kernel
set_option maxRecDepth 20000 in
theorem ggX3_nextFreeColumn_X3_hangAt : GoodIn wsX3_nextFreeColumn wsX3_hangAt := goodIn_r _ [7, 8, 2, 9, 10, 11, 12, 13, 14, 15] (by decide +kernel) (by decide +kernel)
set_option maxRecDepth 20000 in
theorem gX3_nextFreeColumn_X3_hangAt : GoodIn wsX3_nextFreeColumn (wsV RX3 53 RX3 yX3_hangAt wsX3_hangAt) := goodIn_app (goodIn_of _ (by decide +kernel)) ggX3_nextFreeColumn_X3_hangAt
theorem dX3_nextFreeColumn_0 : decode cX3_nextFreeColumn 0 = .ok (.aload_n 0, 1) := by decide +kernel
theorem dX3_nextFreeColumn_1 : decode cX3_nextFreeColumn 1 = .ok (.getfield 25, 3) := by decide +kernel
theorem dX3_nextFreeColumn_4 : decode cX3_nextFreeColumn 4 = .ok (.iload_n 1, 1) := by decide +kernel
theorem dX3_nextFreeColumn_5 : decode cX3_nextFreeColumn 5 = .ok (.baload, 1) := by decide +kernel
theorem dX3_nextFreeColumn_6 : decode cX3_nextFreeColumn 6 = .ok (.ifCond .eq 7, 3) := by decide +kernel
theorem dX3_nextFreeColumn_9 : decode cX3_nextFreeColumn 9 = .ok (.iconst 1, 1) := by decide +kernel
theorem dX3_nextFreeColumn_10 : decode cX3_nextFreeColumn 10 = .ok (.goto 5, 3) := by decide +kernel
theorem dX3_nextFreeColumn_13 : decode cX3_nextFreeColumn 13 = .ok (.bipush 11, 2) := by decide +kernel
theorem dX3_nextFreeColumn_15 : decode cX3_nextFreeColumn 15 = .ok (.istore_n 2, 1) := by decide +kernel
theorem dX3_nextFreeColumn_16 : decode cX3_nextFreeColumn 16 = .ok (.aload_n 0, 1) := by decide +kernel
theorem dX3_nextFreeColumn_17 : decode cX3_nextFreeColumn 17 = .ok (.getfield 15, 3) := by decide +kernel
theorem dX3_nextFreeColumn_20 : decode cX3_nextFreeColumn 20 = .ok (.iload_n 1, 1) := by decide +kernel
theorem dX3_nextFreeColumn_21 : decode cX3_nextFreeColumn 21 = .ok (.iaload, 1) := by decide +kernel
theorem dX3_nextFreeColumn_22 : decode cX3_nextFreeColumn 22 = .ok (.istore_n 3, 1) := by decide +kernel
theorem dX3_nextFreeColumn_23 : decode cX3_nextFreeColumn 23 = .ok (.iconst 1, 1) := by decide +kernel
theorem dX3_nextFreeColumn_24 : decode cX3_nextFreeColumn 24 = .ok (.istore 4, 2) := by decide +kernel
theorem dX3_nextFreeColumn_26 : decode cX3_nextFreeColumn 26 = .ok (.iload 4, 2) := by decide +kernel
theorem dX3_nextFreeColumn_28 : decode cX3_nextFreeColumn 28 = .ok (.bipush 12, 2) := by decide +kernel
theorem dX3_nextFreeColumn_30 : decode cX3_nextFreeColumn 30 = .ok (.if_icmp .ge 26, 3) := by decide +kernel
theorem dX3_nextFreeColumn_33 : decode cX3_nextFreeColumn 33 = .ok (.iload_n 3, 1) := by decide +kernel
theorem dX3_nextFreeColumn_34 : decode cX3_nextFreeColumn 34 = .ok (.iload_n 2, 1) := by decide +kernel
theorem dX3_nextFreeColumn_35 : decode cX3_nextFreeColumn 35 = .ok (.iadd, 1) := by decide +kernel
theorem dX3_nextFreeColumn_36 : decode cX3_nextFreeColumn 36 = .ok (.bipush 12, 2) := by decide +kernel
theorem dX3_nextFreeColumn_38 : decode cX3_nextFreeColumn 38 = .ok (.irem, 1) := by decide +kernel
theorem dX3_nextFreeColumn_39 : decode cX3_nextFreeColumn 39 = .ok (.istore_n 3, 1) := by decide +kernel
theorem dX3_nextFreeColumn_40 : decode cX3_nextFreeColumn 40 = .ok (.aload_n 0, 1) := by decide +kernel
theorem dX3_nextFreeColumn_41 : decode cX3_nextFreeColumn 41 = .ok (.iload_n 3, 1) := by decide +kernel
theorem dX3_nextFreeColumn_42 : decode cX3_nextFreeColumn 42 = .ok (.invokevirtual 53, 3) := by decide +kernel
theorem dX3_nextFreeColumn_45 : decode cX3_nextFreeColumn 45 = .ok (.ifCond .ne 5, 3) := by decide +kernel
theorem dX3_nextFreeColumn_48 : decode cX3_nextFreeColumn 48 = .ok (.iload_n 3, 1) := by decide +kernel
theorem dX3_nextFreeColumn_49 : decode cX3_nextFreeColumn 49 = .ok (.ireturn, 1) := by decide +kernel
theorem dX3_nextFreeColumn_50 : decode cX3_nextFreeColumn 50 = .ok (.iinc 4 1, 3) := by decide +kernel
theorem dX3_nextFreeColumn_53 : decode cX3_nextFreeColumn 53 = .ok (.goto (-27), 3) := by decide +kernel
theorem dX3_nextFreeColumn_56 : decode cX3_nextFreeColumn 56 = .ok (.aload_n 0, 1) := by decide +kernel
theorem dX3_nextFreeColumn_57 : decode cX3_nextFreeColumn 57 = .ok (.getfield 15, 3) := by decide +kernel
theorem dX3_nextFreeColumn_60 : decode cX3_nextFreeColumn 60 = .ok (.iload_n 1, 1) := by decide +kernel
theorem dX3_nextFreeColumn_61 : decode cX3_nextFreeColumn 61 = .ok (.iaload, 1) := by decide +kernel
theorem dX3_nextFreeColumn_62 : decode cX3_nextFreeColumn 62 = .ok (.ireturn, 1) := by decide +kernel
theorem dX4_init_0 : decode cX4_init 0 = .ok (.aload_n 0, 1) := by decide +kernel
theorem dX4_init_1 : decode cX4_init 1 = .ok (.invokespecial 3, 3) := by decide +kernel
theorem dX4_init_4 : decode cX4_init 4 = .ok (.aload_n 0, 1) := by decide +kernel
theorem dX4_init_5 : decode cX4_init 5 = .ok (.iconst 0, 1) := by decide +kernel
theorem dX4_init_6 : decode cX4_init 6 = .ok (.putfield 9, 3) := by decide +kernel
theorem dX4_init_9 : decode cX4_init 9 = .ok (.aload_n 0, 1) := by decide +kernel
theorem dX4_init_10 : decode cX4_init 10 = .ok (.bipush 6, 2) := by decide +kernel
theorem dX4_init_12 : decode cX4_init 12 = .ok (.newarray .int, 2) := by decide +kernel
theorem dX4_init_14 : decode cX4_init 14 = .ok (.putfield 15, 3) := by decide +kernel
theorem dX4_init_17 : decode cX4_init 17 = .ok (.aload_n 0, 1) := by decide +kernel
theorem dX4_init_18 : decode cX4_init 18 = .ok (.bipush 6, 2) := by decide +kernel
theorem dX4_init_20 : decode cX4_init 20 = .ok (.newarray .int, 2) := by decide +kernel
theorem dX4_init_22 : decode cX4_init 22 = .ok (.putfield 19, 3) := by decide +kernel
theorem dX4_init_25 : decode cX4_init 25 = .ok (.aload_n 0, 1) := by decide +kernel
theorem dX4_init_26 : decode cX4_init 26 = .ok (.bipush 6, 2) := by decide +kernel
theorem dX4_init_28 : decode cX4_init 28 = .ok (.newarray .int, 2) := by decide +kernel
theorem dX4_init_30 : decode cX4_init 30 = .ok (.putfield 22, 3) := by decide +kernel
theorem dX4_init_33 : decode cX4_init 33 = .ok (.aload_n 0, 1) := by decide +kernel
theorem dX4_init_34 : decode cX4_init 34 = .ok (.bipush 6, 2) := by decide +kernel
theorem dX4_init_36 : decode cX4_init 36 = .ok (.newarray .int, 2) := by decide +kernel
theorem dX4_init_38 : decode cX4_init 38 = .ok (.putfield 25, 3) := by decide +kernel
theorem dX4_init_41 : decode cX4_init 41 = .ok (.aload_n 0, 1) := by decide +kernel
theorem dX4_init_42 : decode cX4_init 42 = .ok (.bipush 6, 2) := by decide +kernel
theorem dX4_init_44 : decode cX4_init 44 = .ok (.newarray .int, 2) := by decide +kernel
theorem dX4_init_46 : decode cX4_init 46 = .ok (.putfield 28, 3) := by decide +kernel
theorem dX4_init_49 : decode cX4_init 49 = .ok (.return_, 1) := by decide +kernel
theorem dX4_put_0 : decode cX4_put 0 = .ok (.aload_n 0, 1) := by decide +kernel
theorem dX4_put_1 : decode cX4_put 1 = .ok (.getfield 15, 3) := by decide +kernel
theorem dX4_put_4 : decode cX4_put 4 = .ok (.aload_n 0, 1) := by decide +kernel
theorem dX4_put_5 : decode cX4_put 5 = .ok (.getfield 9, 3) := by decide +kernel
theorem dX4_put_8 : decode cX4_put 8 = .ok (.iload_n 1, 1) := by decide +kernel
theorem dX4_put_9 : decode cX4_put 9 = .ok (.iastore, 1) := by decide +kernel
theorem dX4_put_10 : decode cX4_put 10 = .ok (.aload_n 0, 1) := by decide +kernel
theorem dX4_put_11 : decode cX4_put 11 = .ok (.getfield 19, 3) := by decide +kernel
theorem dX4_put_14 : decode cX4_put 14 = .ok (.aload_n 0, 1) := by decide +kernel
theorem dX4_put_15 : decode cX4_put 15 = .ok (.getfield 9, 3) := by decide +kernel
theorem dX4_put_18 : decode cX4_put 18 = .ok (.iload_n 2, 1) := by decide +kernel
theorem dX4_put_19 : decode cX4_put 19 = .ok (.iastore, 1) := by decide +kernel
theorem dX4_put_20 : decode cX4_put 20 = .ok (.aload_n 0, 1) := by decide +kernel
theorem dX4_put_21 : decode cX4_put 21 = .ok (.getfield 22, 3) := by decide +kernel
theorem dX4_put_24 : decode cX4_put 24 = .ok (.aload_n 0, 1) := by decide +kernel
theorem dX4_put_25 : decode cX4_put 25 = .ok (.getfield 9, 3) := by decide +kernel
theorem dX4_put_28 : decode cX4_put 28 = .ok (.iload_n 3, 1) := by decide +kernel
theorem dX4_put_29 : decode cX4_put 29 = .ok (.iastore, 1) := by decide +kernel
theorem dX4_put_30 : decode cX4_put 30 = .ok (.aload_n 0, 1) := by decide +kernel
theorem dX4_put_31 : decode cX4_put 31 = .ok (.getfield 25, 3) := by decide +kernel
theorem dX4_put_34 : decode cX4_put 34 = .ok (.aload_n 0, 1) := by decide +kernel
theorem dX4_put_35 : decode cX4_put 35 = .ok (.getfield 9, 3) := by decide +kernel
theorem dX4_put_38 : decode cX4_put 38 = .ok (.iload 4, 2) := by decide +kernel
theorem dX4_put_40 : decode cX4_put 40 = .ok (.iastore, 1) := by decide +kernel
theorem dX4_put_41 : decode cX4_put 41 = .ok (.aload_n 0, 1) := by decide +kernel
theorem dX4_put_42 : decode cX4_put 42 = .ok (.getfield 28, 3) := by decide +kernel
theorem dX4_put_45 : decode cX4_put 45 = .ok (.aload_n 0, 1) := by decide +kernel
theorem dX4_put_46 : decode cX4_put 46 = .ok (.getfield 9, 3) := by decide +kernel
theorem dX4_put_49 : decode cX4_put 49 = .ok (.iload 5, 2) := by decide +kernel
theorem dX4_put_51 : decode cX4_put 51 = .ok (.iastore, 1) := by decide +kernel
theorem dX4_put_52 : decode cX4_put 52 = .ok (.aload_n 0, 1) := by decide +kernel
theorem dX4_put_53 : decode cX4_put 53 = .ok (.dup, 1) := by decide +kernel
theorem dX4_put_54 : decode cX4_put 54 = .ok (.getfield 9, 3) := by decide +kernel
theorem dX4_put_57 : decode cX4_put 57 = .ok (.iconst 1, 1) := by decide +kernel
theorem dX4_put_58 : decode cX4_put 58 = .ok (.iadd, 1) := by decide +kernel
theorem dX4_put_59 : decode cX4_put 59 = .ok (.putfield 9, 3) := by decide +kernel
theorem dX4_put_62 : decode cX4_put 62 = .ok (.aload_n 0, 1) := by decide +kernel
theorem dX4_put_63 : decode cX4_put 63 = .ok (.getfield 9, 3) := by decide +kernel
theorem dX4_put_66 : decode cX4_put 66 = .ok (.iconst 1, 1) := by decide +kernel
theorem dX4_put_67 : decode cX4_put 67 = .ok (.isub, 1) := by decide +kernel
theorem dX4_put_68 : decode cX4_put 68 = .ok (.ireturn, 1) := by decide +kernel
set_option maxRecDepth 20000 in
theorem ggX4_number_X4_added : GoodIn wsX4_number wsX4_added := goodIn_r _ [10, 1, 3, 2, 4, 11, 12, 13, 14, 15, 16, 33, 34, 35, 36, 37, 38, 39] (by decide +kernel) (by decide +kernel)
set_option maxRecDepth 20000 in
theorem gX4_number_X4_added : GoodIn wsX4_number (wsV RX4 31 RX4 yX4_added wsX4_added) := goodIn_app (goodIn_of _ (by decide +kernel)) ggX4_number_X4_added
set_option maxRecDepth 20000 in
theorem ggX4_number_X4_darkest : GoodIn wsX4_number wsX4_darkest := goodIn_r _ [20, 1, 3, 2, 4, 21, 22, 23, 24, 11, 12, 13, 14, 15, 16, 33, 34, 35, 36, 37, 38, 39] (by decide +kernel) (by decide +kernel)
set_option maxRecDepth 20000 in
theorem gX4_number_X4_darkest : GoodIn wsX4_number (wsV RX4 35 RX4 yX4_darkest wsX4_darkest) := goodIn_app (goodIn_of _ (by decide +kernel)) ggX4_number_X4_darkest
set_option maxRecDepth 20000 in
theorem ggX4_number_X4_brings : GoodIn wsX4_number wsX4_brings := goodIn_r _ [28, 5, 21, 22, 23, 24, 29, 30, 31, 9, 32, 3, 4, 6, 7, 8, 10, 1, 2, 11, 12, 13, 14, 15, 16, 33, 34, 35, 36, 37, 38, 39] (by decide +kernel) (by decide +kernel)
set_option maxRecDepth 20000 in
theorem gX4_number_X4_brings : GoodIn wsX4_number (wsV RX4 38 RX4 yX4_brings wsX4_brings) := goodIn_app (goodIn_of _ (by decide +kernel)) ggX4_number_X4_brings
theorem dX4_number_0 : decode cX4_number 0 = .ok (.iload_n 2, 1) := by decide +kernel
theorem dX4_number_1 : decode cX4_number 1 = .ok (.tableswitch 92 0 6 #[43, 50, 57, 64, 71, 78, 85], 43) := by decide +kernel
theorem dX4_number_44 : decode cX4_number 44 = .ok (.aload_n 0, 1) := by decide +kernel
theorem dX4_number_45 : decode cX4_number 45 = .ok (.getfield 15, 3) := by decide +kernel
theorem dX4_number_48 : decode cX4_number 48 = .ok (.iload_n 1, 1) := by decide +kernel
theorem dX4_number_49 : decode cX4_number 49 = .ok (.iaload, 1) := by decide +kernel
theorem dX4_number_50 : decode cX4_number 50 = .ok (.ireturn, 1) := by decide +kernel
theorem dX4_number_51 : decode cX4_number 51 = .ok (.aload_n 0, 1) := by decide +kernel
theorem dX4_number_52 : decode cX4_number 52 = .ok (.getfield 19, 3) := by decide +kernel
theorem dX4_number_55 : decode cX4_number 55 = .ok (.iload_n 1, 1) := by decide +kernel
theorem dX4_number_56 : decode cX4_number 56 = .ok (.iaload, 1) := by decide +kernel
theorem dX4_number_57 : decode cX4_number 57 = .ok (.ireturn, 1) := by decide +kernel
theorem dX4_number_58 : decode cX4_number 58 = .ok (.aload_n 0, 1) := by decide +kernel
theorem dX4_number_59 : decode cX4_number 59 = .ok (.getfield 22, 3) := by decide +kernel
theorem dX4_number_62 : decode cX4_number 62 = .ok (.iload_n 1, 1) := by decide +kernel
theorem dX4_number_63 : decode cX4_number 63 = .ok (.iaload, 1) := by decide +kernel
theorem dX4_number_64 : decode cX4_number 64 = .ok (.ireturn, 1) := by decide +kernel
theorem dX4_number_65 : decode cX4_number 65 = .ok (.aload_n 0, 1) := by decide +kernel
theorem dX4_number_66 : decode cX4_number 66 = .ok (.getfield 25, 3) := by decide +kernel
theorem dX4_number_69 : decode cX4_number 69 = .ok (.iload_n 1, 1) := by decide +kernel
theorem dX4_number_70 : decode cX4_number 70 = .ok (.iaload, 1) := by decide +kernel
theorem dX4_number_71 : decode cX4_number 71 = .ok (.ireturn, 1) := by decide +kernel
theorem dX4_number_72 : decode cX4_number 72 = .ok (.aload_n 0, 1) := by decide +kernel
theorem dX4_number_73 : decode cX4_number 73 = .ok (.getfield 28, 3) := by decide +kernel
theorem dX4_number_76 : decode cX4_number 76 = .ok (.iload_n 1, 1) := by decide +kernel
theorem dX4_number_77 : decode cX4_number 77 = .ok (.iaload, 1) := by decide +kernel
theorem dX4_number_78 : decode cX4_number 78 = .ok (.ireturn, 1) := by decide +kernel
theorem dX4_number_79 : decode cX4_number 79 = .ok (.aload_n 0, 1) := by decide +kernel
theorem dX4_number_80 : decode cX4_number 80 = .ok (.iload_n 1, 1) := by decide +kernel
theorem dX4_number_81 : decode cX4_number 81 = .ok (.aload_n 3, 1) := by decide +kernel
theorem dX4_number_82 : decode cX4_number 82 = .ok (.invokevirtual 31, 3) := by decide +kernel
theorem dX4_number_85 : decode cX4_number 85 = .ok (.ireturn, 1) := by decide +kernel
theorem dX4_number_86 : decode cX4_number 86 = .ok (.aload_n 0, 1) := by decide +kernel
theorem dX4_number_87 : decode cX4_number 87 = .ok (.iload_n 1, 1) := by decide +kernel
theorem dX4_number_88 : decode cX4_number 88 = .ok (.aload_n 3, 1) := by decide +kernel
theorem dX4_number_89 : decode cX4_number 89 = .ok (.invokevirtual 35, 3) := by decide +kernel
theorem dX4_number_92 : decode cX4_number 92 = .ok (.ireturn, 1) := by decide +kernel
theorem dX4_number_93 : decode cX4_number 93 = .ok (.aload_n 0, 1) := by decide +kernel
theorem dX4_number_94 : decode cX4_number 94 = .ok (.iload_n 1, 1) := by decide +kernel
theorem dX4_number_95 : decode cX4_number 95 = .ok (.aload_n 3, 1) := by decide +kernel
theorem dX4_number_96 : decode cX4_number 96 = .ok (.invokevirtual 38, 3) := by decide +kernel
theorem dX4_number_99 : decode cX4_number 99 = .ok (.ireturn, 1) := by decide +kernel
theorem dX4_panes_0 : decode cX4_panes 0 = .ok (.aload_n 0, 1) := by decide +kernel
theorem dX4_panes_1 : decode cX4_panes 1 = .ok (.getfield 22, 3) := by decide +kernel
theorem dX4_panes_4 : decode cX4_panes 4 = .ok (.iload_n 1, 1) := by decide +kernel
theorem dX4_panes_5 : decode cX4_panes 5 = .ok (.iaload, 1) := by decide +kernel
theorem dX4_panes_6 : decode cX4_panes 6 = .ok (.aload_n 0, 1) := by decide +kernel
theorem dX4_panes_7 : decode cX4_panes 7 = .ok (.getfield 25, 3) := by decide +kernel
theorem dX4_panes_10 : decode cX4_panes 10 = .ok (.iload_n 1, 1) := by decide +kernel
theorem dX4_panes_11 : decode cX4_panes 11 = .ok (.iaload, 1) := by decide +kernel
theorem dX4_panes_12 : decode cX4_panes 12 = .ok (.imul, 1) := by decide +kernel
theorem dX4_panes_13 : decode cX4_panes 13 = .ok (.ireturn, 1) := by decide +kernel
set_option maxRecDepth 20000 in
theorem ggX4_added_X2_at : GoodIn wsX4_added wsX2_at := goodIn_r _ [9, 10, 17] (by decide +kernel) (by decide +kernel)
set_option maxRecDepth 20000 in
theorem gX4_added_X2_at : GoodIn wsX4_added (wsV RX4 41 RX2 yX2_at wsX2_at) := goodIn_app (goodIn_of _ (by decide +kernel)) ggX4_added_X2_at
theorem dX4_added_0 : decode cX4_added 0 = .ok (.iconst 0, 1) := by decide +kernel
theorem dX4_added_1 : decode cX4_added 1 = .ok (.istore_n 3, 1) := by decide +kernel
theorem dX4_added_2 : decode cX4_added 2 = .ok (.aload_n 0, 1) := by decide +kernel
theorem dX4_added_3 : decode cX4_added 3 = .ok (.getfield 15, 3) := by decide +kernel
theorem dX4_added_6 : decode cX4_added 6 = .ok (.iload_n 1, 1) := by decide +kernel
theorem dX4_added_7 : decode cX4_added 7 = .ok (.iaload, 1) := by decide +kernel
theorem dX4_added_8 : decode cX4_added 8 = .ok (.istore 4, 2) := by decide +kernel
theorem dX4_added_10 : decode cX4_added 10 = .ok (.iload 4, 2) := by decide +kernel
theorem dX4_added_12 : decode cX4_added 12 = .ok (.aload_n 0, 1) := by decide +kernel
theorem dX4_added_13 : decode cX4_added 13 = .ok (.getfield 15, 3) := by decide +kernel
theorem dX4_added_16 : decode cX4_added 16 = .ok (.iload_n 1, 1) := by decide +kernel
theorem dX4_added_17 : decode cX4_added 17 = .ok (.iaload, 1) := by decide +kernel
theorem dX4_added_18 : decode cX4_added 18 = .ok (.aload_n 0, 1) := by decide +kernel
theorem dX4_added_19 : decode cX4_added 19 = .ok (.getfield 22, 3) := by decide +kernel
theorem dX4_added_22 : decode cX4_added 22 = .ok (.iload_n 1, 1) := by decide +kernel
theorem dX4_added_23 : decode cX4_added 23 = .ok (.iaload, 1) := by decide +kernel
theorem dX4_added_24 : decode cX4_added 24 = .ok (.iadd, 1) := by decide +kernel
theorem dX4_added_25 : decode cX4_added 25 = .ok (.if_icmp .ge 52, 3) := by decide +kernel
theorem dX4_added_28 : decode cX4_added 28 = .ok (.aload_n 0, 1) := by decide +kernel
theorem dX4_added_29 : decode cX4_added 29 = .ok (.getfield 19, 3) := by decide +kernel
theorem dX4_added_32 : decode cX4_added 32 = .ok (.iload_n 1, 1) := by decide +kernel
theorem dX4_added_33 : decode cX4_added 33 = .ok (.iaload, 1) := by decide +kernel
theorem dX4_added_34 : decode cX4_added 34 = .ok (.istore 5, 2) := by decide +kernel
theorem dX4_added_36 : decode cX4_added 36 = .ok (.iload 5, 2) := by decide +kernel
theorem dX4_added_38 : decode cX4_added 38 = .ok (.aload_n 0, 1) := by decide +kernel
theorem dX4_added_39 : decode cX4_added 39 = .ok (.getfield 19, 3) := by decide +kernel
theorem dX4_added_42 : decode cX4_added 42 = .ok (.iload_n 1, 1) := by decide +kernel
theorem dX4_added_43 : decode cX4_added 43 = .ok (.iaload, 1) := by decide +kernel
theorem dX4_added_44 : decode cX4_added 44 = .ok (.aload_n 0, 1) := by decide +kernel
theorem dX4_added_45 : decode cX4_added 45 = .ok (.getfield 25, 3) := by decide +kernel
theorem dX4_added_48 : decode cX4_added 48 = .ok (.iload_n 1, 1) := by decide +kernel
theorem dX4_added_49 : decode cX4_added 49 = .ok (.iaload, 1) := by decide +kernel
theorem dX4_added_50 : decode cX4_added 50 = .ok (.iadd, 1) := by decide +kernel
theorem dX4_added_51 : decode cX4_added 51 = .ok (.if_icmp .ge 20, 3) := by decide +kernel
theorem dX4_added_54 : decode cX4_added 54 = .ok (.iload_n 3, 1) := by decide +kernel
theorem dX4_added_55 : decode cX4_added 55 = .ok (.aload_n 2, 1) := by decide +kernel
theorem dX4_added_56 : decode cX4_added 56 = .ok (.iload 4, 2) := by decide +kernel
theorem dX4_added_58 : decode cX4_added 58 = .ok (.iload 5, 2) := by decide +kernel
theorem dX4_added_60 : decode cX4_added 60 = .ok (.invokevirtual 41, 3) := by decide +kernel
theorem dX4_added_63 : decode cX4_added 63 = .ok (.iadd, 1) := by decide +kernel
theorem dX4_added_64 : decode cX4_added 64 = .ok (.istore_n 3, 1) := by decide +kernel
theorem dX4_added_65 : decode cX4_added 65 = .ok (.iinc 5 1, 3) := by decide +kernel
theorem dX4_added_68 : decode cX4_added 68 = .ok (.goto (-32), 3) := by decide +kernel
theorem dX4_added_71 : decode cX4_added 71 = .ok (.iinc 4 1, 3) := by decide +kernel
theorem dX4_added_74 : decode cX4_added 74 = .ok (.goto (-64), 3) := by decide +kernel
theorem dX4_added_77 : decode cX4_added 77 = .ok (.iload_n 3, 1) := by decide +kernel
theorem dX4_added_78 : decode cX4_added 78 = .ok (.ireturn, 1) := by decide +kernel
set_option maxRecDepth 20000 in
theorem ggX4_darkest_X2_at : GoodIn wsX4_darkest wsX2_at := goodIn_r _ [13, 14, 21] (by decide +kernel) (by decide +kernel)
set_option maxRecDepth 20000 in
theorem gX4_darkest_X2_at : GoodIn wsX4_darkest (wsV RX4 41 RX2 yX2_at wsX2_at) := goodIn_app (goodIn_of _ (by decide +kernel)) ggX4_darkest_X2_at
theorem dX4_darkest_0 : decode cX4_darkest 0 = .ok (.iconst 0, 1) := by decide +kernel
theorem dX4_darkest_1 : decode cX4_darkest 1 = .ok (.istore_n 3, 1) := by decide +kernel
theorem dX4_darkest_2 : decode cX4_darkest 2 = .ok (.aload_n 0, 1) := by decide +kernel
theorem dX4_darkest_3 : decode cX4_darkest 3 = .ok (.getfield 15, 3) := by decide +kernel
theorem dX4_darkest_6 : decode cX4_darkest 6 = .ok (.iload_n 1, 1) := by decide +kernel
theorem dX4_darkest_7 : decode cX4_darkest 7 = .ok (.iaload, 1) := by decide +kernel
theorem dX4_darkest_8 : decode cX4_darkest 8 = .ok (.istore 4, 2) := by decide +kernel
theorem dX4_darkest_10 : decode cX4_darkest 10 = .ok (.iload 4, 2) := by decide +kernel
theorem dX4_darkest_12 : decode cX4_darkest 12 = .ok (.aload_n 0, 1) := by decide +kernel
theorem dX4_darkest_13 : decode cX4_darkest 13 = .ok (.getfield 15, 3) := by decide +kernel
theorem dX4_darkest_16 : decode cX4_darkest 16 = .ok (.iload_n 1, 1) := by decide +kernel
theorem dX4_darkest_17 : decode cX4_darkest 17 = .ok (.iaload, 1) := by decide +kernel
theorem dX4_darkest_18 : decode cX4_darkest 18 = .ok (.aload_n 0, 1) := by decide +kernel
theorem dX4_darkest_19 : decode cX4_darkest 19 = .ok (.getfield 22, 3) := by decide +kernel
theorem dX4_darkest_22 : decode cX4_darkest 22 = .ok (.iload_n 1, 1) := by decide +kernel
theorem dX4_darkest_23 : decode cX4_darkest 23 = .ok (.iaload, 1) := by decide +kernel
theorem dX4_darkest_24 : decode cX4_darkest 24 = .ok (.iadd, 1) := by decide +kernel
theorem dX4_darkest_25 : decode cX4_darkest 25 = .ok (.if_icmp .ge 54, 3) := by decide +kernel
theorem dX4_darkest_28 : decode cX4_darkest 28 = .ok (.aload_n 0, 1) := by decide +kernel
theorem dX4_darkest_29 : decode cX4_darkest 29 = .ok (.getfield 19, 3) := by decide +kernel
theorem dX4_darkest_32 : decode cX4_darkest 32 = .ok (.iload_n 1, 1) := by decide +kernel
theorem dX4_darkest_33 : decode cX4_darkest 33 = .ok (.iaload, 1) := by decide +kernel
theorem dX4_darkest_34 : decode cX4_darkest 34 = .ok (.istore 5, 2) := by decide +kernel
theorem dX4_darkest_36 : decode cX4_darkest 36 = .ok (.iload 5, 2) := by decide +kernel
theorem dX4_darkest_38 : decode cX4_darkest 38 = .ok (.aload_n 0, 1) := by decide +kernel
theorem dX4_darkest_39 : decode cX4_darkest 39 = .ok (.getfield 19, 3) := by decide +kernel
theorem dX4_darkest_42 : decode cX4_darkest 42 = .ok (.iload_n 1, 1) := by decide +kernel
theorem dX4_darkest_43 : decode cX4_darkest 43 = .ok (.iaload, 1) := by decide +kernel
theorem dX4_darkest_44 : decode cX4_darkest 44 = .ok (.aload_n 0, 1) := by decide +kernel
theorem dX4_darkest_45 : decode cX4_darkest 45 = .ok (.getfield 25, 3) := by decide +kernel
theorem dX4_darkest_48 : decode cX4_darkest 48 = .ok (.iload_n 1, 1) := by decide +kernel
theorem dX4_darkest_49 : decode cX4_darkest 49 = .ok (.iaload, 1) := by decide +kernel
theorem dX4_darkest_50 : decode cX4_darkest 50 = .ok (.iadd, 1) := by decide +kernel
theorem dX4_darkest_51 : decode cX4_darkest 51 = .ok (.if_icmp .ge 22, 3) := by decide +kernel
theorem dX4_darkest_54 : decode cX4_darkest 54 = .ok (.iload_n 3, 1) := by decide +kernel
theorem dX4_darkest_55 : decode cX4_darkest 55 = .ok (.aload_n 2, 1) := by decide +kernel
theorem dX4_darkest_56 : decode cX4_darkest 56 = .ok (.iload 4, 2) := by decide +kernel
theorem dX4_darkest_58 : decode cX4_darkest 58 = .ok (.iload 5, 2) := by decide +kernel
theorem dX4_darkest_60 : decode cX4_darkest 60 = .ok (.invokevirtual 41, 3) := by decide +kernel
theorem dX4_darkest_63 : decode cX4_darkest 63 = .ok (.invokestatic 47, 3) := by decide +kernel
theorem dX4_darkest_66 : decode cX4_darkest 66 = .ok (.istore_n 3, 1) := by decide +kernel
theorem dX4_darkest_67 : decode cX4_darkest 67 = .ok (.iinc 5 1, 3) := by decide +kernel
theorem dX4_darkest_70 : decode cX4_darkest 70 = .ok (.goto (-34), 3) := by decide +kernel
theorem dX4_darkest_73 : decode cX4_darkest 73 = .ok (.iinc 4 1, 3) := by decide +kernel
theorem dX4_darkest_76 : decode cX4_darkest 76 = .ok (.goto (-66), 3) := by decide +kernel
theorem dX4_darkest_79 : decode cX4_darkest 79 = .ok (.iload_n 3, 1) := by decide +kernel
theorem dX4_darkest_80 : decode cX4_darkest 80 = .ok (.ireturn, 1) := by decide +kernel
set_option maxRecDepth 20000 in
theorem ggX4_brings_X4_panes : GoodIn wsX4_brings wsX4_panes := goodIn_r _ [10, 11, 12, 25, 26, 27, 28, 29, 30] (by decide +kernel) (by decide +kernel)
set_option maxRecDepth 20000 in
theorem gX4_brings_X4_panes : GoodIn wsX4_brings (wsV RX4 52 RX4 yX4_panes wsX4_panes) := goodIn_app (goodIn_of _ (by decide +kernel)) ggX4_brings_X4_panes
set_option maxRecDepth 20000 in
theorem ggX4_brings_X4_added : GoodIn wsX4_brings wsX4_added := goodIn_r _ [16, 17, 11, 18, 12, 19, 20, 21, 22, 23, 24, 25, 26, 27, 28, 29, 30, 31] (by decide +kernel) (by decide +kernel)
set_option maxRecDepth 20000 in
theorem gX4_brings_X4_added : GoodIn wsX4_brings (wsV RX4 31 RX4 yX4_added wsX4_added) := goodIn_app (goodIn_of _ (by decide +kernel)) ggX4_brings_X4_added
theorem dX4_brings_0 : decode cX4_brings 0 = .ok (.iconst 0, 1) := by decide +kernel
theorem dX4_brings_1 : decode cX4_brings 1 = .ok (.aload_n 0, 1) := by decide +kernel
theorem dX4_brings_2 : decode cX4_brings 2 = .ok (.getfield 28, 3) := by decide +kernel
theorem dX4_brings_5 : decode cX4_brings 5 = .ok (.iload_n 1, 1) := by decide +kernel
theorem dX4_brings_6 : decode cX4_brings 6 = .ok (.iaload, 1) := by decide +kernel
theorem dX4_brings_7 : decode cX4_brings 7 = .ok (.aload_n 0, 1) := by decide +kernel
theorem dX4_brings_8 : decode cX4_brings 8 = .ok (.iload_n 1, 1) := by decide +kernel
theorem dX4_brings_9 : decode cX4_brings 9 = .ok (.invokevirtual 52, 3) := by decide +kernel
theorem dX4_brings_12 : decode cX4_brings 12 = .ok (.imul, 1) := by decide +kernel
theorem dX4_brings_13 : decode cX4_brings 13 = .ok (.aload_n 0, 1) := by decide +kernel
theorem dX4_brings_14 : decode cX4_brings 14 = .ok (.iload_n 1, 1) := by decide +kernel
theorem dX4_brings_15 : decode cX4_brings 15 = .ok (.aload_n 2, 1) := by decide +kernel
theorem dX4_brings_16 : decode cX4_brings 16 = .ok (.invokevirtual 31, 3) := by decide +kernel
theorem dX4_brings_19 : decode cX4_brings 19 = .ok (.isub, 1) := by decide +kernel
theorem dX4_brings_20 : decode cX4_brings 20 = .ok (.invokestatic 47, 3) := by decide +kernel
theorem dX4_brings_23 : decode cX4_brings 23 = .ok (.ireturn, 1) := by decide +kernel
set_option maxRecDepth 20000 in
theorem ggX4_allBring_X4_brings : GoodIn wsX4_allBring wsX4_brings := goodIn_r _ [6, 7, 8, 9, 10, 11, 12, 13, 14, 5, 15, 16, 17, 18, 19, 20, 21, 22, 23, 24, 25, 26, 27, 28, 29, 30, 31, 32, 33, 34, 35, 36] (by decide +kernel) (by decide +kernel)
set_option maxRecDepth 20000 in
theorem gX4_allBring_X4_brings : GoodIn wsX4_allBring (wsV RX4 38 RX4 yX4_brings wsX4_brings) := goodIn_app (goodIn_of _ (by decide +kernel)) ggX4_allBring_X4_brings
theorem dX4_allBring_0 : decode cX4_allBring 0 = .ok (.iconst 0, 1) := by decide +kernel
theorem dX4_allBring_1 : decode cX4_allBring 1 = .ok (.istore_n 2, 1) := by decide +kernel
theorem dX4_allBring_2 : decode cX4_allBring 2 = .ok (.iconst 0, 1) := by decide +kernel
theorem dX4_allBring_3 : decode cX4_allBring 3 = .ok (.istore_n 3, 1) := by decide +kernel
theorem dX4_allBring_4 : decode cX4_allBring 4 = .ok (.iload_n 3, 1) := by decide +kernel
theorem dX4_allBring_5 : decode cX4_allBring 5 = .ok (.aload_n 0, 1) := by decide +kernel
theorem dX4_allBring_6 : decode cX4_allBring 6 = .ok (.getfield 9, 3) := by decide +kernel
theorem dX4_allBring_9 : decode cX4_allBring 9 = .ok (.if_icmp .ge 18, 3) := by decide +kernel
theorem dX4_allBring_12 : decode cX4_allBring 12 = .ok (.iload_n 2, 1) := by decide +kernel
theorem dX4_allBring_13 : decode cX4_allBring 13 = .ok (.aload_n 0, 1) := by decide +kernel
theorem dX4_allBring_14 : decode cX4_allBring 14 = .ok (.iload_n 3, 1) := by decide +kernel
theorem dX4_allBring_15 : decode cX4_allBring 15 = .ok (.aload_n 1, 1) := by decide +kernel
theorem dX4_allBring_16 : decode cX4_allBring 16 = .ok (.invokevirtual 38, 3) := by decide +kernel
theorem dX4_allBring_19 : decode cX4_allBring 19 = .ok (.iadd, 1) := by decide +kernel
theorem dX4_allBring_20 : decode cX4_allBring 20 = .ok (.istore_n 2, 1) := by decide +kernel
theorem dX4_allBring_21 : decode cX4_allBring 21 = .ok (.iinc 3 1, 3) := by decide +kernel
theorem dX4_allBring_24 : decode cX4_allBring 24 = .ok (.goto (-20), 3) := by decide +kernel
theorem dX4_allBring_27 : decode cX4_allBring 27 = .ok (.iload_n 2, 1) := by decide +kernel
theorem dX4_allBring_28 : decode cX4_allBring 28 = .ok (.ireturn, 1) := by decide +kernel
set_option maxRecDepth 20000 in
theorem ggX4_wipeOff_X2_takeOff : GoodIn wsX4_wipeOff wsX2_takeOff := goodIn_r _ [9, 10, 11, 12, 13, 14, 21] (by decide +kernel) (by decide +kernel)
set_option maxRecDepth 20000 in
theorem gX4_wipeOff_X2_takeOff : GoodIn wsX4_wipeOff (wsV RX4 56 RX2 yX2_takeOff wsX2_takeOff) := goodIn_app (goodIn_of _ (by decide +kernel)) ggX4_wipeOff_X2_takeOff
end
section
theorem dX4_wipeOff_0 : decode cX4_wipeOff 0 = .ok (.iconst 0, 1) := by decide +kernel
theorem dX4_wipeOff_1 : decode cX4_wipeOff 1 = .ok (.istore_n 3, 1) := by decide +kernel
theorem dX4_wipeOff_2 : decode cX4_wipeOff 2 = .ok (.aload_n 0, 1) := by decide +kernel
theorem dX4_wipeOff_3 : decode cX4_wipeOff 3 = .ok (.getfield 15, 3) := by decide +kernel
theorem dX4_wipeOff_6 : decode cX4_wipeOff 6 = .ok (.iload_n 1, 1) := by decide +kernel
theorem dX4_wipeOff_7 : decode cX4_wipeOff 7 = .ok (.iaload, 1) := by decide +kernel
theorem dX4_wipeOff_8 : decode cX4_wipeOff 8 = .ok (.istore 4, 2) := by decide +kernel
theorem dX4_wipeOff_10 : decode cX4_wipeOff 10 = .ok (.iload 4, 2) := by decide +kernel
theorem dX4_wipeOff_12 : decode cX4_wipeOff 12 = .ok (.aload_n 0, 1) := by decide +kernel
theorem dX4_wipeOff_13 : decode cX4_wipeOff 13 = .ok (.getfield 15, 3) := by decide +kernel
theorem dX4_wipeOff_16 : decode cX4_wipeOff 16 = .ok (.iload_n 1, 1) := by decide +kernel
theorem dX4_wipeOff_17 : decode cX4_wipeOff 17 = .ok (.iaload, 1) := by decide +kernel
theorem dX4_wipeOff_18 : decode cX4_wipeOff 18 = .ok (.aload_n 0, 1) := by decide +kernel
theorem dX4_wipeOff_19 : decode cX4_wipeOff 19 = .ok (.getfield 22, 3) := by decide +kernel
theorem dX4_wipeOff_22 : decode cX4_wipeOff 22 = .ok (.iload_n 1, 1) := by decide +kernel
theorem dX4_wipeOff_23 : decode cX4_wipeOff 23 = .ok (.iaload, 1) := by decide +kernel
theorem dX4_wipeOff_24 : decode cX4_wipeOff 24 = .ok (.iadd, 1) := by decide +kernel
theorem dX4_wipeOff_25 : decode cX4_wipeOff 25 = .ok (.if_icmp .ge 54, 3) := by decide +kernel
theorem dX4_wipeOff_28 : decode cX4_wipeOff 28 = .ok (.aload_n 0, 1) := by decide +kernel
theorem dX4_wipeOff_29 : decode cX4_wipeOff 29 = .ok (.getfield 19, 3) := by decide +kernel
theorem dX4_wipeOff_32 : decode cX4_wipeOff 32 = .ok (.iload_n 1, 1) := by decide +kernel
theorem dX4_wipeOff_33 : decode cX4_wipeOff 33 = .ok (.iaload, 1) := by decide +kernel
theorem dX4_wipeOff_34 : decode cX4_wipeOff 34 = .ok (.istore 5, 2) := by decide +kernel
theorem dX4_wipeOff_36 : decode cX4_wipeOff 36 = .ok (.iload 5, 2) := by decide +kernel
theorem dX4_wipeOff_38 : decode cX4_wipeOff 38 = .ok (.aload_n 0, 1) := by decide +kernel
theorem dX4_wipeOff_39 : decode cX4_wipeOff 39 = .ok (.getfield 19, 3) := by decide +kernel
theorem dX4_wipeOff_42 : decode cX4_wipeOff 42 = .ok (.iload_n 1, 1) := by decide +kernel
theorem dX4_wipeOff_43 : decode cX4_wipeOff 43 = .ok (.iaload, 1) := by decide +kernel
theorem dX4_wipeOff_44 : decode cX4_wipeOff 44 = .ok (.aload_n 0, 1) := by decide +kernel
theorem dX4_wipeOff_45 : decode cX4_wipeOff 45 = .ok (.getfield 25, 3) := by decide +kernel
theorem dX4_wipeOff_48 : decode cX4_wipeOff 48 = .ok (.iload_n 1, 1) := by decide +kernel
theorem dX4_wipeOff_49 : decode cX4_wipeOff 49 = .ok (.iaload, 1) := by decide +kernel
theorem dX4_wipeOff_50 : decode cX4_wipeOff 50 = .ok (.iadd, 1) := by decide +kernel
theorem dX4_wipeOff_51 : decode cX4_wipeOff 51 = .ok (.if_icmp .ge 22, 3) := by decide +kernel
theorem dX4_wipeOff_54 : decode cX4_wipeOff 54 = .ok (.iload_n 3, 1) := by decide +kernel
theorem dX4_wipeOff_55 : decode cX4_wipeOff 55 = .ok (.aload_n 2, 1) := by decide +kernel
theorem dX4_wipeOff_56 : decode cX4_wipeOff 56 = .ok (.iload 4, 2) := by decide +kernel
theorem dX4_wipeOff_58 : decode cX4_wipeOff 58 = .ok (.iload 5, 2) := by decide +kernel
theorem dX4_wipeOff_60 : decode cX4_wipeOff 60 = .ok (.bipush 20, 2) := by decide +kernel
theorem dX4_wipeOff_62 : decode cX4_wipeOff 62 = .ok (.invokevirtual 56, 3) := by decide +kernel
theorem dX4_wipeOff_65 : decode cX4_wipeOff 65 = .ok (.iadd, 1) := by decide +kernel
theorem dX4_wipeOff_66 : decode cX4_wipeOff 66 = .ok (.istore_n 3, 1) := by decide +kernel
theorem dX4_wipeOff_67 : decode cX4_wipeOff 67 = .ok (.iinc 5 1, 3) := by decide +kernel
theorem dX4_wipeOff_70 : decode cX4_wipeOff 70 = .ok (.goto (-34), 3) := by decide +kernel
theorem dX4_wipeOff_73 : decode cX4_wipeOff 73 = .ok (.iinc 4 1, 3) := by decide +kernel
theorem dX4_wipeOff_76 : decode cX4_wipeOff 76 = .ok (.goto (-66), 3) := by decide +kernel
theorem dX4_wipeOff_79 : decode cX4_wipeOff 79 = .ok (.iload_n 3, 1) := by decide +kernel
theorem dX4_wipeOff_80 : decode cX4_wipeOff 80 = .ok (.ireturn, 1) := by decide +kernel
set_option maxRecDepth 20000 in
theorem ggX5_init_X4_init : GoodIn wsX5_init wsX4_init := goodIn_r _ [18, 19, 2, 3, 20, 21, 22, 23, 24, 25, 26, 63, 64, 65, 66, 67, 68] (by decide +kernel) (by decide +kernel)
set_option maxRecDepth 20000 in
theorem gX5_init_X4_init_n11 : GoodIn wsX5_init (wsX4_init) := ggX5_init_X4_init
set_option maxRecDepth 20000 in
theorem ggX5_init_X1_init : GoodIn wsX5_init wsX1_init := goodIn_r _ [28, 29, 2, 3, 30, 21, 31, 32, 73, 74, 75] (by decide +kernel) (by decide +kernel)
set_option maxRecDepth 20000 in
theorem gX5_init_X1_init_n18 : GoodIn wsX5_init (wsX1_init) := ggX5_init_X1_init
set_option maxRecDepth 20000 in
theorem ggX5_init_X0_init : GoodIn wsX5_init wsX0_init := goodIn_r _ [34, 35, 2, 3, 36, 37, 38, 39, 40, 41, 42, 43, 44, 45, 46, 47, 48, 49, 50, 21, 51, 52, 53, 54, 55, 56, 57, 58, 59, 60, 61, 62, 82, 76, 77, 78, 79, 80, 81, 83, 84, 85, 86, 87, 88, 89] (by decide +kernel) (by decide +kernel)
set_option maxRecDepth 20000 in
theorem gX5_init_X0_init_n25 : GoodIn wsX5_init (wsX0_init) := ggX5_init_X0_init
theorem dX5_init_0 : decode cX5_init 0 = .ok (.aload_n 0, 1) := by decide +kernel
theorem dX5_init_1 : decode cX5_init 1 = .ok (.invokespecial 3, 3) := by decide +kernel
theorem dX5_init_4 : decode cX5_init 4 = .ok (.aload_n 0, 1) := by decide +kernel
theorem dX5_init_5 : decode cX5_init 5 = .ok (.new 9, 3) := by decide +kernel
theorem dX5_init_8 : decode cX5_init 8 = .ok (.dup, 1) := by decide +kernel
theorem dX5_init_9 : decode cX5_init 9 = .ok (.invokespecial 11, 3) := by decide +kernel
theorem dX5_init_12 : decode cX5_init 12 = .ok (.putfield 12, 3) := by decide +kernel
theorem dX5_init_15 : decode cX5_init 15 = .ok (.aload_n 0, 1) := by decide +kernel
theorem dX5_init_16 : decode cX5_init 16 = .ok (.new 16, 3) := by decide +kernel
theorem dX5_init_19 : decode cX5_init 19 = .ok (.dup, 1) := by decide +kernel
theorem dX5_init_20 : decode cX5_init 20 = .ok (.invokespecial 18, 3) := by decide +kernel
theorem dX5_init_23 : decode cX5_init 23 = .ok (.putfield 19, 3) := by decide +kernel
theorem dX5_init_26 : decode cX5_init 26 = .ok (.aload_n 0, 1) := by decide +kernel
theorem dX5_init_27 : decode cX5_init 27 = .ok (.new 23, 3) := by decide +kernel
theorem dX5_init_30 : decode cX5_init 30 = .ok (.dup, 1) := by decide +kernel
theorem dX5_init_31 : decode cX5_init 31 = .ok (.invokespecial 25, 3) := by decide +kernel
theorem dX5_init_34 : decode cX5_init 34 = .ok (.putfield 26, 3) := by decide +kernel
theorem dX5_init_37 : decode cX5_init 37 = .ok (.aload_n 0, 1) := by decide +kernel
theorem dX5_init_38 : decode cX5_init 38 = .ok (.new 23, 3) := by decide +kernel
theorem dX5_init_41 : decode cX5_init 41 = .ok (.dup, 1) := by decide +kernel
theorem dX5_init_42 : decode cX5_init 42 = .ok (.invokespecial 25, 3) := by decide +kernel
theorem dX5_init_45 : decode cX5_init 45 = .ok (.putfield 30, 3) := by decide +kernel
theorem dX5_init_48 : decode cX5_init 48 = .ok (.return_, 1) := by decide +kernel
set_option maxRecDepth 20000 in
theorem ggX5_window_X4_put : GoodIn wsX5_window wsX4_put := goodIn_r _ [12, 13, 14, 15, 16, 17, 18, 23, 24, 25, 26, 27, 28] (by decide +kernel) (by decide +kernel)
set_option maxRecDepth 20000 in
theorem gX5_window_X4_put : GoodIn wsX5_window (wsV RX5 54 RX4 yX4_put wsX4_put) := goodIn_app (goodIn_of _ (by decide +kernel)) ggX5_window_X4_put
theorem dX5_window_0 : decode cX5_window 0 = .ok (.iload_n 3, 1) := by decide +kernel
theorem dX5_window_1 : decode cX5_window 1 = .ok (.iconst 1, 1) := by decide +kernel
theorem dX5_window_2 : decode cX5_window 2 = .ok (.if_icmp .lt 35, 3) := by decide +kernel
theorem dX5_window_5 : decode cX5_window 5 = .ok (.iload_n 3, 1) := by decide +kernel
theorem dX5_window_6 : decode cX5_window 6 = .ok (.bipush 12, 2) := by decide +kernel
theorem dX5_window_8 : decode cX5_window 8 = .ok (.if_icmp .gt 29, 3) := by decide +kernel
theorem dX5_window_11 : decode cX5_window 11 = .ok (.iload 4, 2) := by decide +kernel
theorem dX5_window_13 : decode cX5_window 13 = .ok (.iconst 1, 1) := by decide +kernel
theorem dX5_window_14 : decode cX5_window 14 = .ok (.if_icmp .lt 23, 3) := by decide +kernel
theorem dX5_window_17 : decode cX5_window 17 = .ok (.iload 4, 2) := by decide +kernel
theorem dX5_window_19 : decode cX5_window 19 = .ok (.bipush 8, 2) := by decide +kernel
theorem dX5_window_21 : decode cX5_window 21 = .ok (.if_icmp .gt 16, 3) := by decide +kernel
theorem dX5_window_24 : decode cX5_window 24 = .ok (.iload 5, 2) := by decide +kernel
theorem dX5_window_26 : decode cX5_window 26 = .ok (.iconst 1, 1) := by decide +kernel
theorem dX5_window_27 : decode cX5_window 27 = .ok (.if_icmp .lt 10, 3) := by decide +kernel
theorem dX5_window_30 : decode cX5_window 30 = .ok (.iload 5, 2) := by decide +kernel
theorem dX5_window_32 : decode cX5_window 32 = .ok (.bipush 9, 2) := by decide +kernel
theorem dX5_window_34 : decode cX5_window 34 = .ok (.if_icmp .le 13, 3) := by decide +kernel
theorem dX5_window_37 : decode cX5_window 37 = .ok (.new 33, 3) := by decide +kernel
theorem dX5_window_40 : decode cX5_window 40 = .ok (.dup, 1) := by decide +kernel
theorem dX5_window_41 : decode cX5_window 41 = .ok (.ldc 35, 2) := by decide +kernel
theorem dX5_window_43 : decode cX5_window 43 = .ok (.invokespecial 37, 3) := by decide +kernel
theorem dX5_window_46 : decode cX5_window 46 = .ok (.athrow, 1) := by decide +kernel
theorem dX5_window_47 : decode cX5_window 47 = .ok (.iload_n 1, 1) := by decide +kernel
theorem dX5_window_48 : decode cX5_window 48 = .ok (.ifCond .lt 24, 3) := by decide +kernel
theorem dX5_window_51 : decode cX5_window 51 = .ok (.iload_n 1, 1) := by decide +kernel
theorem dX5_window_52 : decode cX5_window 52 = .ok (.bipush 12, 2) := by decide +kernel
theorem dX5_window_54 : decode cX5_window 54 = .ok (.iload_n 3, 1) := by decide +kernel
theorem dX5_window_55 : decode cX5_window 55 = .ok (.isub, 1) := by decide +kernel
theorem dX5_window_56 : decode cX5_window 56 = .ok (.if_icmp .gt 16, 3) := by decide +kernel
theorem dX5_window_59 : decode cX5_window 59 = .ok (.iload_n 2, 1) := by decide +kernel
theorem dX5_window_60 : decode cX5_window 60 = .ok (.ifCond .lt 12, 3) := by decide +kernel
theorem dX5_window_63 : decode cX5_window 63 = .ok (.iload_n 2, 1) := by decide +kernel
theorem dX5_window_64 : decode cX5_window 64 = .ok (.bipush 8, 2) := by decide +kernel
theorem dX5_window_66 : decode cX5_window 66 = .ok (.iload 4, 2) := by decide +kernel
theorem dX5_window_68 : decode cX5_window 68 = .ok (.isub, 1) := by decide +kernel
theorem dX5_window_69 : decode cX5_window 69 = .ok (.if_icmp .le 13, 3) := by decide +kernel
theorem dX5_window_72 : decode cX5_window 72 = .ok (.new 40, 3) := by decide +kernel
theorem dX5_window_75 : decode cX5_window 75 = .ok (.dup, 1) := by decide +kernel
theorem dX5_window_76 : decode cX5_window 76 = .ok (.ldc 42, 2) := by decide +kernel
theorem dX5_window_78 : decode cX5_window 78 = .ok (.invokespecial 44, 3) := by decide +kernel
theorem dX5_window_81 : decode cX5_window 81 = .ok (.athrow, 1) := by decide +kernel
theorem dX5_window_82 : decode cX5_window 82 = .ok (.aload_n 0, 1) := by decide +kernel
theorem dX5_window_83 : decode cX5_window 83 = .ok (.getfield 12, 3) := by decide +kernel
theorem dX5_window_86 : decode cX5_window 86 = .ok (.getfield 45, 3) := by decide +kernel
theorem dX5_window_89 : decode cX5_window 89 = .ok (.bipush 6, 2) := by decide +kernel
theorem dX5_window_91 : decode cX5_window 91 = .ok (.if_icmp .lt 13, 3) := by decide +kernel
theorem dX5_window_94 : decode cX5_window 94 = .ok (.new 49, 3) := by decide +kernel
theorem dX5_window_97 : decode cX5_window 97 = .ok (.dup, 1) := by decide +kernel
theorem dX5_window_98 : decode cX5_window 98 = .ok (.ldc 51, 2) := by decide +kernel
theorem dX5_window_100 : decode cX5_window 100 = .ok (.invokespecial 53, 3) := by decide +kernel
theorem dX5_window_103 : decode cX5_window 103 = .ok (.athrow, 1) := by decide +kernel
theorem dX5_window_104 : decode cX5_window 104 = .ok (.aload_n 0, 1) := by decide +kernel
theorem dX5_window_105 : decode cX5_window 105 = .ok (.getfield 12, 3) := by decide +kernel
theorem dX5_window_108 : decode cX5_window 108 = .ok (.iload_n 1, 1) := by decide +kernel
theorem dX5_window_109 : decode cX5_window 109 = .ok (.iload_n 2, 1) := by decide +kernel
theorem dX5_window_110 : decode cX5_window 110 = .ok (.iload_n 3, 1) := by decide +kernel
theorem dX5_window_111 : decode cX5_window 111 = .ok (.iload 4, 2) := by decide +kernel
theorem dX5_window_113 : decode cX5_window 113 = .ok (.iload 5, 2) := by decide +kernel
theorem dX5_window_115 : decode cX5_window 115 = .ok (.invokevirtual 54, 3) := by decide +kernel
theorem dX5_window_118 : decode cX5_window 118 = .ok (.ireturn, 1) := by decide +kernel
set_option maxRecDepth 20000 in
theorem ggX5_rope_X5_isColumn : GoodIn wsX5_rope wsX5_isColumn := goodIn_r _ [11] (by decide +kernel) (by decide +kernel)
set_option maxRecDepth 20000 in
theorem gX5_rope_X5_isColumn : GoodIn wsX5_rope (va_wsS RX5 58 yX5_isColumn wsX5_isColumn) := goodIn_app (goodIn_of _ (by decide +kernel)) ggX5_rope_X5_isColumn
set_option maxRecDepth 20000 in
theorem ggX5_rope_X3_hangAt : GoodIn wsX5_rope wsX3_hangAt := goodIn_r _ [16, 17, 18, 35, 36, 37, 38, 39, 40, 41] (by decide +kernel) (by decide +kernel)
set_option maxRecDepth 20000 in
theorem gX5_rope_X3_hangAt : GoodIn wsX5_rope (wsV RX5 73 RX3 yX3_hangAt wsX3_hangAt) := goodIn_app (goodIn_of _ (by decide +kernel)) ggX5_rope_X3_hangAt
set_option maxRecDepth 20000 in
theorem ggX5_rope_X3_put : GoodIn wsX5_rope wsX3_put := goodIn_r _ [22, 18, 17, 23, 24, 35, 36, 37, 38, 39, 40, 41] (by decide +kernel) (by decide +kernel)
set_option maxRecDepth 20000 in
theorem gX5_rope_X3_put : GoodIn wsX5_rope (wsV RX5 78 RX3 yX3_put wsX3_put) := goodIn_app (goodIn_of _ (by decide +kernel)) ggX5_rope_X3_put
theorem dX5_rope_0 : decode cX5_rope 0 = .ok (.iload_n 1, 1) := by decide +kernel
theorem dX5_rope_1 : decode cX5_rope 1 = .ok (.invokestatic 58, 3) := by decide +kernel
theorem dX5_rope_4 : decode cX5_rope 4 = .ok (.ifCond .ne 13, 3) := by decide +kernel
theorem dX5_rope_7 : decode cX5_rope 7 = .ok (.new 40, 3) := by decide +kernel
theorem dX5_rope_10 : decode cX5_rope 10 = .ok (.dup, 1) := by decide +kernel
theorem dX5_rope_11 : decode cX5_rope 11 = .ok (.ldc 62, 2) := by decide +kernel
theorem dX5_rope_13 : decode cX5_rope 13 = .ok (.invokespecial 44, 3) := by decide +kernel
theorem dX5_rope_16 : decode cX5_rope 16 = .ok (.athrow, 1) := by decide +kernel
theorem dX5_rope_17 : decode cX5_rope 17 = .ok (.iload_n 2, 1) := by decide +kernel
theorem dX5_rope_18 : decode cX5_rope 18 = .ok (.iconst 1, 1) := by decide +kernel
theorem dX5_rope_19 : decode cX5_rope 19 = .ok (.if_icmp .lt 9, 3) := by decide +kernel
theorem dX5_rope_22 : decode cX5_rope 22 = .ok (.iload_n 2, 1) := by decide +kernel
theorem dX5_rope_23 : decode cX5_rope 23 = .ok (.bipush 30, 2) := by decide +kernel
theorem dX5_rope_25 : decode cX5_rope 25 = .ok (.if_icmp .le 13, 3) := by decide +kernel
theorem dX5_rope_28 : decode cX5_rope 28 = .ok (.new 33, 3) := by decide +kernel
theorem dX5_rope_31 : decode cX5_rope 31 = .ok (.dup, 1) := by decide +kernel
theorem dX5_rope_32 : decode cX5_rope 32 = .ok (.ldc 64, 2) := by decide +kernel
theorem dX5_rope_34 : decode cX5_rope 34 = .ok (.invokespecial 37, 3) := by decide +kernel
theorem dX5_rope_37 : decode cX5_rope 37 = .ok (.athrow, 1) := by decide +kernel
theorem dX5_rope_38 : decode cX5_rope 38 = .ok (.aload_n 0, 1) := by decide +kernel
theorem dX5_rope_39 : decode cX5_rope 39 = .ok (.getfield 26, 3) := by decide +kernel
theorem dX5_rope_42 : decode cX5_rope 42 = .ok (.getfield 66, 3) := by decide +kernel
theorem dX5_rope_45 : decode cX5_rope 45 = .ok (.getfield 70, 3) := by decide +kernel
theorem dX5_rope_48 : decode cX5_rope 48 = .ok (.bipush 6, 2) := by decide +kernel
theorem dX5_rope_50 : decode cX5_rope 50 = .ok (.if_icmp .ge 17, 3) := by decide +kernel
theorem dX5_rope_53 : decode cX5_rope 53 = .ok (.aload_n 0, 1) := by decide +kernel
theorem dX5_rope_54 : decode cX5_rope 54 = .ok (.getfield 26, 3) := by decide +kernel
theorem dX5_rope_57 : decode cX5_rope 57 = .ok (.getfield 66, 3) := by decide +kernel
theorem dX5_rope_60 : decode cX5_rope 60 = .ok (.iload_n 1, 1) := by decide +kernel
theorem dX5_rope_61 : decode cX5_rope 61 = .ok (.invokevirtual 73, 3) := by decide +kernel
theorem dX5_rope_64 : decode cX5_rope 64 = .ok (.ifCond .eq 13, 3) := by decide +kernel
theorem dX5_rope_67 : decode cX5_rope 67 = .ok (.new 49, 3) := by decide +kernel
theorem dX5_rope_70 : decode cX5_rope 70 = .ok (.dup, 1) := by decide +kernel
theorem dX5_rope_71 : decode cX5_rope 71 = .ok (.ldc 76, 2) := by decide +kernel
theorem dX5_rope_73 : decode cX5_rope 73 = .ok (.invokespecial 53, 3) := by decide +kernel
theorem dX5_rope_76 : decode cX5_rope 76 = .ok (.athrow, 1) := by decide +kernel
theorem dX5_rope_77 : decode cX5_rope 77 = .ok (.aload_n 0, 1) := by decide +kernel
theorem dX5_rope_78 : decode cX5_rope 78 = .ok (.getfield 26, 3) := by decide +kernel
theorem dX5_rope_81 : decode cX5_rope 81 = .ok (.getfield 66, 3) := by decide +kernel
theorem dX5_rope_84 : decode cX5_rope 84 = .ok (.iload_n 1, 1) := by decide +kernel
theorem dX5_rope_85 : decode cX5_rope 85 = .ok (.iload_n 2, 1) := by decide +kernel
theorem dX5_rope_86 : decode cX5_rope 86 = .ok (.iload_n 3, 1) := by decide +kernel
theorem dX5_rope_87 : decode cX5_rope 87 = .ok (.invokevirtual 78, 3) := by decide +kernel
theorem dX5_rope_90 : decode cX5_rope 90 = .ok (.ireturn, 1) := by decide +kernel
set_option maxRecDepth 20000 in
theorem ggX5_feast_X1_put : GoodIn wsX5_feast wsX1_put := goodIn_r _ [10, 11, 12, 13, 18, 19, 20] (by decide +kernel) (by decide +kernel)
set_option maxRecDepth 20000 in
theorem gX5_feast_X1_put : GoodIn wsX5_feast (wsV RX5 86 RX1 yX1_put wsX1_put) := goodIn_app (goodIn_of _ (by decide +kernel)) ggX5_feast_X1_put
theorem dX5_feast_0 : decode cX5_feast 0 = .ok (.iload_n 1, 1) := by decide +kernel
theorem dX5_feast_1 : decode cX5_feast 1 = .ok (.iconst 2, 1) := by decide +kernel
theorem dX5_feast_2 : decode cX5_feast 2 = .ok (.if_icmp .lt 18, 3) := by decide +kernel
theorem dX5_feast_5 : decode cX5_feast 5 = .ok (.iload_n 1, 1) := by decide +kernel
theorem dX5_feast_6 : decode cX5_feast 6 = .ok (.bipush 30, 2) := by decide +kernel
theorem dX5_feast_8 : decode cX5_feast 8 = .ok (.if_icmp .gt 12, 3) := by decide +kernel
theorem dX5_feast_11 : decode cX5_feast 11 = .ok (.iload_n 2, 1) := by decide +kernel
theorem dX5_feast_12 : decode cX5_feast 12 = .ok (.ifCond .lt 8, 3) := by decide +kernel
theorem dX5_feast_15 : decode cX5_feast 15 = .ok (.iload_n 2, 1) := by decide +kernel
theorem dX5_feast_16 : decode cX5_feast 16 = .ok (.iload_n 1, 1) := by decide +kernel
theorem dX5_feast_17 : decode cX5_feast 17 = .ok (.if_icmp .lt 13, 3) := by decide +kernel
theorem dX5_feast_20 : decode cX5_feast 20 = .ok (.new 33, 3) := by decide +kernel
theorem dX5_feast_23 : decode cX5_feast 23 = .ok (.dup, 1) := by decide +kernel
theorem dX5_feast_24 : decode cX5_feast 24 = .ok (.ldc 81, 2) := by decide +kernel
theorem dX5_feast_26 : decode cX5_feast 26 = .ok (.invokespecial 37, 3) := by decide +kernel
theorem dX5_feast_29 : decode cX5_feast 29 = .ok (.athrow, 1) := by decide +kernel
theorem dX5_feast_30 : decode cX5_feast 30 = .ok (.aload_n 0, 1) := by decide +kernel
theorem dX5_feast_31 : decode cX5_feast 31 = .ok (.getfield 19, 3) := by decide +kernel
theorem dX5_feast_34 : decode cX5_feast 34 = .ok (.getfield 83, 3) := by decide +kernel
theorem dX5_feast_37 : decode cX5_feast 37 = .ok (.iconst 4, 1) := by decide +kernel
theorem dX5_feast_38 : decode cX5_feast 38 = .ok (.if_icmp .lt 13, 3) := by decide +kernel
theorem dX5_feast_41 : decode cX5_feast 41 = .ok (.new 49, 3) := by decide +kernel
theorem dX5_feast_44 : decode cX5_feast 44 = .ok (.dup, 1) := by decide +kernel
theorem dX5_feast_45 : decode cX5_feast 45 = .ok (.ldc 84, 2) := by decide +kernel
theorem dX5_feast_47 : decode cX5_feast 47 = .ok (.invokespecial 53, 3) := by decide +kernel
theorem dX5_feast_50 : decode cX5_feast 50 = .ok (.athrow, 1) := by decide +kernel
theorem dX5_feast_51 : decode cX5_feast 51 = .ok (.aload_n 0, 1) := by decide +kernel
theorem dX5_feast_52 : decode cX5_feast 52 = .ok (.getfield 19, 3) := by decide +kernel
theorem dX5_feast_55 : decode cX5_feast 55 = .ok (.iload_n 1, 1) := by decide +kernel
theorem dX5_feast_56 : decode cX5_feast 56 = .ok (.iload_n 2, 1) := by decide +kernel
theorem dX5_feast_57 : decode cX5_feast 57 = .ok (.invokevirtual 86, 3) := by decide +kernel
theorem dX5_feast_60 : decode cX5_feast 60 = .ok (.ireturn, 1) := by decide +kernel
theorem dX5_setWind_0 : decode cX5_setWind 0 = .ok (.iload_n 1, 1) := by decide +kernel
theorem dX5_setWind_1 : decode cX5_setWind 1 = .ok (.bipush (-5), 2) := by decide +kernel
theorem dX5_setWind_3 : decode cX5_setWind 3 = .ok (.if_icmp .lt 8, 3) := by decide +kernel
theorem dX5_setWind_6 : decode cX5_setWind 6 = .ok (.iload_n 1, 1) := by decide +kernel
theorem dX5_setWind_7 : decode cX5_setWind 7 = .ok (.iconst 5, 1) := by decide +kernel
theorem dX5_setWind_8 : decode cX5_setWind 8 = .ok (.if_icmp .le 13, 3) := by decide +kernel
theorem dX5_setWind_11 : decode cX5_setWind 11 = .ok (.new 33, 3) := by decide +kernel
theorem dX5_setWind_14 : decode cX5_setWind 14 = .ok (.dup, 1) := by decide +kernel
theorem dX5_setWind_15 : decode cX5_setWind 15 = .ok (.ldc 89, 2) := by decide +kernel
theorem dX5_setWind_17 : decode cX5_setWind 17 = .ok (.invokespecial 37, 3) := by decide +kernel
theorem dX5_setWind_20 : decode cX5_setWind 20 = .ok (.athrow, 1) := by decide +kernel
theorem dX5_setWind_21 : decode cX5_setWind 21 = .ok (.aload_n 0, 1) := by decide +kernel
theorem dX5_setWind_22 : decode cX5_setWind 22 = .ok (.getfield 26, 3) := by decide +kernel
theorem dX5_setWind_25 : decode cX5_setWind 25 = .ok (.getfield 91, 3) := by decide +kernel
theorem dX5_setWind_28 : decode cX5_setWind 28 = .ok (.istore_n 2, 1) := by decide +kernel
theorem dX5_setWind_29 : decode cX5_setWind 29 = .ok (.aload_n 0, 1) := by decide +kernel
theorem dX5_setWind_30 : decode cX5_setWind 30 = .ok (.getfield 26, 3) := by decide +kernel
theorem dX5_setWind_33 : decode cX5_setWind 33 = .ok (.iload_n 1, 1) := by decide +kernel
theorem dX5_setWind_34 : decode cX5_setWind 34 = .ok (.putfield 91, 3) := by decide +kernel
theorem dX5_setWind_37 : decode cX5_setWind 37 = .ok (.iload_n 2, 1) := by decide +kernel
theorem dX5_setWind_38 : decode cX5_setWind 38 = .ok (.ireturn, 1) := by decide +kernel
set_option maxRecDepth 20000 in
theorem ggX5_move_X5_isRope : GoodIn wsX5_move wsX5_isRope := goodIn_r _ [10, 5, 27, 28, 29, 30, 31, 32, 33, 34, 35, 36, 37, 38, 39, 40, 41, 42, 43] (by decide +kernel) (by decide +kernel)
set_option maxRecDepth 20000 in
theorem gX5_move_X5_isRope : GoodIn wsX5_move (wsV RX5 94 RX5 yX5_isRope wsX5_isRope) := goodIn_app (goodIn_of _ (by decide +kernel)) ggX5_move_X5_isRope
set_option maxRecDepth 20000 in
theorem ggX5_move_X5_isColumn : GoodIn wsX5_move wsX5_isColumn := goodIn_r _ [13] (by decide +kernel) (by decide +kernel)
set_option maxRecDepth 20000 in
theorem gX5_move_X5_isColumn : GoodIn wsX5_move (va_wsS RX5 58 yX5_isColumn wsX5_isColumn) := goodIn_app (goodIn_of _ (by decide +kernel)) ggX5_move_X5_isColumn
set_option maxRecDepth 20000 in
theorem ggX5_move_X3_hangAt : GoodIn wsX5_move wsX3_hangAt := goodIn_r _ [18, 19, 20, 37, 38, 39, 40, 41, 42, 43] (by decide +kernel) (by decide +kernel)
set_option maxRecDepth 20000 in
theorem gX5_move_X3_hangAt : GoodIn wsX5_move (wsV RX5 73 RX3 yX3_hangAt wsX3_hangAt) := goodIn_app (goodIn_of _ (by decide +kernel)) ggX5_move_X3_hangAt
set_option maxRecDepth 20000 in
theorem ggX5_move_X3_rehang : GoodIn wsX5_move wsX3_rehang := goodIn_r _ [24, 20, 25, 26, 37, 38, 39, 40, 41, 42, 43] (by decide +kernel) (by decide +kernel)
set_option maxRecDepth 20000 in
theorem gX5_move_X3_rehang : GoodIn wsX5_move (wsV RX5 105 RX3 yX3_rehang wsX3_rehang) := goodIn_app (goodIn_of _ (by decide +kernel)) ggX5_move_X3_rehang
theorem dX5_move_0 : decode cX5_move 0 = .ok (.aload_n 0, 1) := by decide +kernel
theorem dX5_move_1 : decode cX5_move 1 = .ok (.iload_n 1, 1) := by decide +kernel
theorem dX5_move_2 : decode cX5_move 2 = .ok (.invokevirtual 94, 3) := by decide +kernel
theorem dX5_move_5 : decode cX5_move 5 = .ok (.ifCond .eq 10, 3) := by decide +kernel
theorem dX5_move_8 : decode cX5_move 8 = .ok (.iload_n 2, 1) := by decide +kernel
theorem dX5_move_9 : decode cX5_move 9 = .ok (.invokestatic 58, 3) := by decide +kernel
theorem dX5_move_12 : decode cX5_move 12 = .ok (.ifCond .ne 13, 3) := by decide +kernel
theorem dX5_move_15 : decode cX5_move 15 = .ok (.new 40, 3) := by decide +kernel
theorem dX5_move_18 : decode cX5_move 18 = .ok (.dup, 1) := by decide +kernel
theorem dX5_move_19 : decode cX5_move 19 = .ok (.ldc 97, 2) := by decide +kernel
theorem dX5_move_21 : decode cX5_move 21 = .ok (.invokespecial 44, 3) := by decide +kernel
theorem dX5_move_24 : decode cX5_move 24 = .ok (.athrow, 1) := by decide +kernel
theorem dX5_move_25 : decode cX5_move 25 = .ok (.aload_n 0, 1) := by decide +kernel
theorem dX5_move_26 : decode cX5_move 26 = .ok (.getfield 26, 3) := by decide +kernel
theorem dX5_move_29 : decode cX5_move 29 = .ok (.getfield 66, 3) := by decide +kernel
theorem dX5_move_32 : decode cX5_move 32 = .ok (.iload_n 2, 1) := by decide +kernel
theorem dX5_move_33 : decode cX5_move 33 = .ok (.invokevirtual 73, 3) := by decide +kernel
theorem dX5_move_36 : decode cX5_move 36 = .ok (.ifCond .eq 13, 3) := by decide +kernel
theorem dX5_move_39 : decode cX5_move 39 = .ok (.new 49, 3) := by decide +kernel
theorem dX5_move_42 : decode cX5_move 42 = .ok (.dup, 1) := by decide +kernel
theorem dX5_move_43 : decode cX5_move 43 = .ok (.ldc 99, 2) := by decide +kernel
theorem dX5_move_45 : decode cX5_move 45 = .ok (.invokespecial 53, 3) := by decide +kernel
theorem dX5_move_48 : decode cX5_move 48 = .ok (.athrow, 1) := by decide +kernel
theorem dX5_move_49 : decode cX5_move 49 = .ok (.aload_n 0, 1) := by decide +kernel
theorem dX5_move_50 : decode cX5_move 50 = .ok (.getfield 26, 3) := by decide +kernel
theorem dX5_move_53 : decode cX5_move 53 = .ok (.getfield 66, 3) := by decide +kernel
theorem dX5_move_56 : decode cX5_move 56 = .ok (.getfield 101, 3) := by decide +kernel
theorem dX5_move_59 : decode cX5_move 59 = .ok (.iload_n 1, 1) := by decide +kernel
theorem dX5_move_60 : decode cX5_move 60 = .ok (.iaload, 1) := by decide +kernel
theorem dX5_move_61 : decode cX5_move 61 = .ok (.istore_n 3, 1) := by decide +kernel
theorem dX5_move_62 : decode cX5_move 62 = .ok (.aload_n 0, 1) := by decide +kernel
theorem dX5_move_63 : decode cX5_move 63 = .ok (.getfield 26, 3) := by decide +kernel
theorem dX5_move_66 : decode cX5_move 66 = .ok (.getfield 66, 3) := by decide +kernel
theorem dX5_move_69 : decode cX5_move 69 = .ok (.iload_n 1, 1) := by decide +kernel
theorem dX5_move_70 : decode cX5_move 70 = .ok (.iload_n 2, 1) := by decide +kernel
theorem dX5_move_71 : decode cX5_move 71 = .ok (.invokevirtual 105, 3) := by decide +kernel
theorem dX5_move_74 : decode cX5_move 74 = .ok (.iload_n 3, 1) := by decide +kernel
theorem dX5_move_75 : decode cX5_move 75 = .ok (.ireturn, 1) := by decide +kernel
set_option maxRecDepth 20000 in
theorem ggX5_turn_X5_isRope : GoodIn wsX5_turn wsX5_isRope := goodIn_r _ [8, 3, 9, 10, 11, 12, 13, 14, 15, 16, 17, 18, 19, 20, 21, 22, 23, 24, 25] (by decide +kernel) (by decide +kernel)
set_option maxRecDepth 20000 in
theorem gX5_turn_X5_isRope : GoodIn wsX5_turn (wsV RX5 94 RX5 yX5_isRope wsX5_isRope) := goodIn_app (goodIn_of _ (by decide +kernel)) ggX5_turn_X5_isRope
theorem dX5_turn_0 : decode cX5_turn 0 = .ok (.aload_n 0, 1) := by decide +kernel
theorem dX5_turn_1 : decode cX5_turn 1 = .ok (.iload_n 1, 1) := by decide +kernel
theorem dX5_turn_2 : decode cX5_turn 2 = .ok (.invokevirtual 94, 3) := by decide +kernel
theorem dX5_turn_5 : decode cX5_turn 5 = .ok (.ifCond .ne 13, 3) := by decide +kernel
theorem dX5_turn_8 : decode cX5_turn 8 = .ok (.new 40, 3) := by decide +kernel
theorem dX5_turn_11 : decode cX5_turn 11 = .ok (.dup, 1) := by decide +kernel
theorem dX5_turn_12 : decode cX5_turn 12 = .ok (.ldc 109, 2) := by decide +kernel
theorem dX5_turn_14 : decode cX5_turn 14 = .ok (.invokespecial 44, 3) := by decide +kernel
theorem dX5_turn_17 : decode cX5_turn 17 = .ok (.athrow, 1) := by decide +kernel
theorem dX5_turn_18 : decode cX5_turn 18 = .ok (.aload_n 0, 1) := by decide +kernel
theorem dX5_turn_19 : decode cX5_turn 19 = .ok (.getfield 26, 3) := by decide +kernel
theorem dX5_turn_22 : decode cX5_turn 22 = .ok (.getfield 66, 3) := by decide +kernel
theorem dX5_turn_25 : decode cX5_turn 25 = .ok (.getfield 111, 3) := by decide +kernel
theorem dX5_turn_28 : decode cX5_turn 28 = .ok (.iload_n 1, 1) := by decide +kernel
theorem dX5_turn_29 : decode cX5_turn 29 = .ok (.aload_n 0, 1) := by decide +kernel
theorem dX5_turn_30 : decode cX5_turn 30 = .ok (.getfield 26, 3) := by decide +kernel
theorem dX5_turn_33 : decode cX5_turn 33 = .ok (.getfield 66, 3) := by decide +kernel
theorem dX5_turn_36 : decode cX5_turn 36 = .ok (.getfield 111, 3) := by decide +kernel
theorem dX5_turn_39 : decode cX5_turn 39 = .ok (.iload_n 1, 1) := by decide +kernel
theorem dX5_turn_40 : decode cX5_turn 40 = .ok (.baload, 1) := by decide +kernel
theorem dX5_turn_41 : decode cX5_turn 41 = .ok (.ifCond .ne 7, 3) := by decide +kernel
theorem dX5_turn_44 : decode cX5_turn 44 = .ok (.iconst 1, 1) := by decide +kernel
theorem dX5_turn_45 : decode cX5_turn 45 = .ok (.goto 4, 3) := by decide +kernel
theorem dX5_turn_48 : decode cX5_turn 48 = .ok (.iconst 0, 1) := by decide +kernel
theorem dX5_turn_49 : decode cX5_turn 49 = .ok (.bastore, 1) := by decide +kernel
theorem dX5_turn_50 : decode cX5_turn 50 = .ok (.aload_n 0, 1) := by decide +kernel
theorem dX5_turn_51 : decode cX5_turn 51 = .ok (.getfield 26, 3) := by decide +kernel
theorem dX5_turn_54 : decode cX5_turn 54 = .ok (.getfield 66, 3) := by decide +kernel
theorem dX5_turn_57 : decode cX5_turn 57 = .ok (.getfield 111, 3) := by decide +kernel
theorem dX5_turn_60 : decode cX5_turn 60 = .ok (.iload_n 1, 1) := by decide +kernel
theorem dX5_turn_61 : decode cX5_turn 61 = .ok (.baload, 1) := by decide +kernel
theorem dX5_turn_62 : decode cX5_turn 62 = .ok (.ireturn, 1) := by decide +kernel
set_option maxRecDepth 20000 in
theorem ggX5_wipe_X5_isWindow : GoodIn wsX5_wipe wsX5_isWindow := goodIn_r _ [9, 3, 29, 30, 31, 32, 39, 40, 41, 42, 43, 44] (by decide +kernel) (by decide +kernel)
set_option maxRecDepth 20000 in
theorem gX5_wipe_X5_isWindow : GoodIn wsX5_wipe (wsV RX5 115 RX5 yX5_isWindow wsX5_isWindow) := goodIn_app (goodIn_of _ (by decide +kernel)) ggX5_wipe_X5_isWindow
set_option maxRecDepth 20000 in
theorem ggX5_wipe_X4_wipeOff : GoodIn wsX5_wipe wsX4_wipeOff := goodIn_r _ [14, 15, 16, 17, 18, 19, 20, 21, 22, 23, 24, 25, 26, 27, 28, 39, 40, 41, 42, 43, 44, 45] (by decide +kernel) (by decide +kernel)
set_option maxRecDepth 20000 in
theorem gX5_wipe_X4_wipeOff : GoodIn wsX5_wipe (wsV RX5 124 RX4 yX4_wipeOff wsX4_wipeOff) := goodIn_app (goodIn_of _ (by decide +kernel)) ggX5_wipe_X4_wipeOff
theorem dX5_wipe_0 : decode cX5_wipe 0 = .ok (.aload_n 0, 1) := by decide +kernel
theorem dX5_wipe_1 : decode cX5_wipe 1 = .ok (.iload_n 1, 1) := by decide +kernel
theorem dX5_wipe_2 : decode cX5_wipe 2 = .ok (.invokevirtual 115, 3) := by decide +kernel
theorem dX5_wipe_5 : decode cX5_wipe 5 = .ok (.ifCond .ne 13, 3) := by decide +kernel
theorem dX5_wipe_8 : decode cX5_wipe 8 = .ok (.new 40, 3) := by decide +kernel
theorem dX5_wipe_11 : decode cX5_wipe 11 = .ok (.dup, 1) := by decide +kernel
theorem dX5_wipe_12 : decode cX5_wipe 12 = .ok (.ldc 118, 2) := by decide +kernel
theorem dX5_wipe_14 : decode cX5_wipe 14 = .ok (.invokespecial 44, 3) := by decide +kernel
theorem dX5_wipe_17 : decode cX5_wipe 17 = .ok (.athrow, 1) := by decide +kernel
theorem dX5_wipe_18 : decode cX5_wipe 18 = .ok (.aload_n 0, 1) := by decide +kernel
theorem dX5_wipe_19 : decode cX5_wipe 19 = .ok (.getfield 12, 3) := by decide +kernel
theorem dX5_wipe_22 : decode cX5_wipe 22 = .ok (.iload_n 1, 1) := by decide +kernel
theorem dX5_wipe_23 : decode cX5_wipe 23 = .ok (.aload_n 0, 1) := by decide +kernel
theorem dX5_wipe_24 : decode cX5_wipe 24 = .ok (.getfield 26, 3) := by decide +kernel
theorem dX5_wipe_27 : decode cX5_wipe 27 = .ok (.getfield 120, 3) := by decide +kernel
theorem dX5_wipe_30 : decode cX5_wipe 30 = .ok (.invokevirtual 124, 3) := by decide +kernel
theorem dX5_wipe_33 : decode cX5_wipe 33 = .ok (.ireturn, 1) := by decide +kernel
set_option maxRecDepth 20000 in
theorem ggX5_pass_X0_goOn : GoodIn wsX5_pass wsX0_goOn := goodIn_r _ [10, 11, 12, 13, 9, 14, 15, 16, 17, 18, 19, 20, 21, 22, 23, 24, 25, 26, 27, 28, 29, 30, 31, 32, 33, 34, 35, 36, 37, 38, 39, 40, 41, 42, 43, 44, 45, 46, 47, 48, 49, 50, 51, 52, 53, 54, 55, 56, 57, 58, 59, 60, 61, 62, 63, 64, 65, 66, 67, 68, 69, 70, 71, 72, 73, 74, 75, 76, 77, 78, 79, 80, 81, 82, 83, 84, 85, 86, 87, 88, 89, 90, 91, 92, 93, 94, 95, 96, 97, 98, 99, 100, 101, 102, 103, 104, 109, 110, 111, 112, 113, 114, 115, 116, 117, 118, 119, 120, 121, 122, 123, 124, 125, 126, 127, 128, 129, 130, 131] (by decide +kernel) (by decide +kernel)
set_option maxRecDepth 20000 in
theorem gX5_pass_X0_goOn : GoodIn wsX5_pass (wsV RX5 133 RX0 yX0_goOn wsX0_goOn) := goodIn_app (goodIn_of _ (by decide +kernel)) ggX5_pass_X0_goOn
theorem dX5_pass_0 : decode cX5_pass 0 = .ok (.iload_n 1, 1) := by decide +kernel
theorem dX5_pass_1 : decode cX5_pass 1 = .ok (.iconst 1, 1) := by decide +kernel
theorem dX5_pass_2 : decode cX5_pass 2 = .ok (.if_icmp .lt 9, 3) := by decide +kernel
theorem dX5_pass_5 : decode cX5_pass 5 = .ok (.iload_n 1, 1) := by decide +kernel
theorem dX5_pass_6 : decode cX5_pass 6 = .ok (.bipush 40, 2) := by decide +kernel
theorem dX5_pass_8 : decode cX5_pass 8 = .ok (.if_icmp .le 13, 3) := by decide +kernel
theorem dX5_pass_11 : decode cX5_pass 11 = .ok (.new 33, 3) := by decide +kernel
theorem dX5_pass_14 : decode cX5_pass 14 = .ok (.dup, 1) := by decide +kernel
theorem dX5_pass_15 : decode cX5_pass 15 = .ok (.ldc 128, 2) := by decide +kernel
theorem dX5_pass_17 : decode cX5_pass 17 = .ok (.invokespecial 37, 3) := by decide +kernel
theorem dX5_pass_20 : decode cX5_pass 20 = .ok (.athrow, 1) := by decide +kernel
theorem dX5_pass_21 : decode cX5_pass 21 = .ok (.aload_n 0, 1) := by decide +kernel
theorem dX5_pass_22 : decode cX5_pass 22 = .ok (.getfield 26, 3) := by decide +kernel
theorem dX5_pass_25 : decode cX5_pass 25 = .ok (.getfield 130, 3) := by decide +kernel
theorem dX5_pass_28 : decode cX5_pass 28 = .ok (.istore_n 2, 1) := by decide +kernel
theorem dX5_pass_29 : decode cX5_pass 29 = .ok (.aload_n 0, 1) := by decide +kernel
theorem dX5_pass_30 : decode cX5_pass 30 = .ok (.getfield 26, 3) := by decide +kernel
theorem dX5_pass_33 : decode cX5_pass 33 = .ok (.iload_n 1, 1) := by decide +kernel
theorem dX5_pass_34 : decode cX5_pass 34 = .ok (.aload_n 0, 1) := by decide +kernel
theorem dX5_pass_35 : decode cX5_pass 35 = .ok (.getfield 12, 3) := by decide +kernel
theorem dX5_pass_38 : decode cX5_pass 38 = .ok (.aload_n 0, 1) := by decide +kernel
theorem dX5_pass_39 : decode cX5_pass 39 = .ok (.getfield 19, 3) := by decide +kernel
theorem dX5_pass_42 : decode cX5_pass 42 = .ok (.invokevirtual 133, 3) := by decide +kernel
theorem dX5_pass_45 : decode cX5_pass 45 = .ok (.aload_n 0, 1) := by decide +kernel
theorem dX5_pass_46 : decode cX5_pass 46 = .ok (.getfield 26, 3) := by decide +kernel
theorem dX5_pass_49 : decode cX5_pass 49 = .ok (.getfield 130, 3) := by decide +kernel
theorem dX5_pass_52 : decode cX5_pass 52 = .ok (.iload_n 2, 1) := by decide +kernel
theorem dX5_pass_53 : decode cX5_pass 53 = .ok (.isub, 1) := by decide +kernel
theorem dX5_pass_54 : decode cX5_pass 54 = .ok (.ireturn, 1) := by decide +kernel
set_option maxRecDepth 20000 in
theorem ggX5_soot_X5_isColumn : GoodIn wsX5_soot wsX5_isColumn := goodIn_r _ [7] (by decide +kernel) (by decide +kernel)
set_option maxRecDepth 20000 in
theorem gX5_soot_X5_isColumn : GoodIn wsX5_soot (va_wsS RX5 58 yX5_isColumn wsX5_isColumn) := goodIn_app (goodIn_of _ (by decide +kernel)) ggX5_soot_X5_isColumn
set_option maxRecDepth 20000 in
theorem ggX5_soot_X2_at : GoodIn wsX5_soot wsX2_at := goodIn_r _ [12, 13, 24] (by decide +kernel) (by decide +kernel)
set_option maxRecDepth 20000 in
theorem gX5_soot_X2_at : GoodIn wsX5_soot (wsV RX5 139 RX2 yX2_at wsX2_at) := goodIn_app (goodIn_of _ (by decide +kernel)) ggX5_soot_X2_at
theorem dX5_soot_0 : decode cX5_soot 0 = .ok (.iload_n 1, 1) := by decide +kernel
theorem dX5_soot_1 : decode cX5_soot 1 = .ok (.invokestatic 58, 3) := by decide +kernel
theorem dX5_soot_4 : decode cX5_soot 4 = .ok (.ifCond .eq 13, 3) := by decide +kernel
theorem dX5_soot_7 : decode cX5_soot 7 = .ok (.iload_n 2, 1) := by decide +kernel
theorem dX5_soot_8 : decode cX5_soot 8 = .ok (.ifCond .lt 9, 3) := by decide +kernel
theorem dX5_soot_11 : decode cX5_soot 11 = .ok (.iload_n 2, 1) := by decide +kernel
theorem dX5_soot_12 : decode cX5_soot 12 = .ok (.bipush 8, 2) := by decide +kernel
theorem dX5_soot_14 : decode cX5_soot 14 = .ok (.if_icmp .lt 13, 3) := by decide +kernel
theorem dX5_soot_17 : decode cX5_soot 17 = .ok (.new 40, 3) := by decide +kernel
theorem dX5_soot_20 : decode cX5_soot 20 = .ok (.dup, 1) := by decide +kernel
theorem dX5_soot_21 : decode cX5_soot 21 = .ok (.ldc 137, 2) := by decide +kernel
theorem dX5_soot_23 : decode cX5_soot 23 = .ok (.invokespecial 44, 3) := by decide +kernel
theorem dX5_soot_26 : decode cX5_soot 26 = .ok (.athrow, 1) := by decide +kernel
theorem dX5_soot_27 : decode cX5_soot 27 = .ok (.aload_n 0, 1) := by decide +kernel
theorem dX5_soot_28 : decode cX5_soot 28 = .ok (.getfield 26, 3) := by decide +kernel
theorem dX5_soot_31 : decode cX5_soot 31 = .ok (.getfield 120, 3) := by decide +kernel
theorem dX5_soot_34 : decode cX5_soot 34 = .ok (.iload_n 1, 1) := by decide +kernel
theorem dX5_soot_35 : decode cX5_soot 35 = .ok (.iload_n 2, 1) := by decide +kernel
theorem dX5_soot_36 : decode cX5_soot 36 = .ok (.invokevirtual 139, 3) := by decide +kernel
theorem dX5_soot_39 : decode cX5_soot 39 = .ok (.ireturn, 1) := by decide +kernel
set_option maxRecDepth 20000 in
theorem ggX5_about_X5_isWindow : GoodIn wsX5_about wsX5_isWindow := goodIn_r _ [9, 3, 46, 47, 48, 49, 56, 57, 58, 59, 60, 61] (by decide +kernel) (by decide +kernel)
set_option maxRecDepth 20000 in
theorem gX5_about_X5_isWindow : GoodIn wsX5_about (wsV RX5 115 RX5 yX5_isWindow wsX5_isWindow) := goodIn_app (goodIn_of _ (by decide +kernel)) ggX5_about_X5_isWindow
set_option maxRecDepth 20000 in
theorem ggX5_about_X4_number : GoodIn wsX5_about wsX4_number := goodIn_r _ [14, 15, 16, 17, 18, 19, 20, 21, 22, 13, 23, 24, 25, 26, 27, 28, 29, 30, 31, 32, 33, 34, 35, 36, 37, 38, 39, 40, 41, 42, 43, 44, 45, 56, 57, 58, 59, 60, 61, 62] (by decide +kernel) (by decide +kernel)
set_option maxRecDepth 20000 in
theorem gX5_about_X4_number : GoodIn wsX5_about (wsV RX5 146 RX4 yX4_number wsX4_number) := goodIn_app (goodIn_of _ (by decide +kernel)) ggX5_about_X4_number
theorem dX5_about_0 : decode cX5_about 0 = .ok (.aload_n 0, 1) := by decide +kernel
theorem dX5_about_1 : decode cX5_about 1 = .ok (.iload_n 1, 1) := by decide +kernel
theorem dX5_about_2 : decode cX5_about 2 = .ok (.invokevirtual 115, 3) := by decide +kernel
theorem dX5_about_5 : decode cX5_about 5 = .ok (.ifCond .eq 13, 3) := by decide +kernel
theorem dX5_about_8 : decode cX5_about 8 = .ok (.iload_n 2, 1) := by decide +kernel
theorem dX5_about_9 : decode cX5_about 9 = .ok (.ifCond .lt 9, 3) := by decide +kernel
theorem dX5_about_12 : decode cX5_about 12 = .ok (.iload_n 2, 1) := by decide +kernel
theorem dX5_about_13 : decode cX5_about 13 = .ok (.bipush 8, 2) := by decide +kernel
theorem dX5_about_15 : decode cX5_about 15 = .ok (.if_icmp .lt 13, 3) := by decide +kernel
theorem dX5_about_18 : decode cX5_about 18 = .ok (.new 40, 3) := by decide +kernel
theorem dX5_about_21 : decode cX5_about 21 = .ok (.dup, 1) := by decide +kernel
theorem dX5_about_22 : decode cX5_about 22 = .ok (.ldc 144, 2) := by decide +kernel
theorem dX5_about_24 : decode cX5_about 24 = .ok (.invokespecial 44, 3) := by decide +kernel
theorem dX5_about_27 : decode cX5_about 27 = .ok (.athrow, 1) := by decide +kernel
theorem dX5_about_28 : decode cX5_about 28 = .ok (.aload_n 0, 1) := by decide +kernel
theorem dX5_about_29 : decode cX5_about 29 = .ok (.getfield 12, 3) := by decide +kernel
theorem dX5_about_32 : decode cX5_about 32 = .ok (.iload_n 1, 1) := by decide +kernel
theorem dX5_about_33 : decode cX5_about 33 = .ok (.iload_n 2, 1) := by decide +kernel
theorem dX5_about_34 : decode cX5_about 34 = .ok (.aload_n 0, 1) := by decide +kernel
theorem dX5_about_35 : decode cX5_about 35 = .ok (.getfield 26, 3) := by decide +kernel
theorem dX5_about_38 : decode cX5_about 38 = .ok (.getfield 120, 3) := by decide +kernel
theorem dX5_about_41 : decode cX5_about 41 = .ok (.invokevirtual 146, 3) := by decide +kernel
theorem dX5_about_44 : decode cX5_about 44 = .ok (.ireturn, 1) := by decide +kernel
set_option maxRecDepth 20000 in
theorem ggX5_told_X5_isRope : GoodIn wsX5_told wsX5_isRope := goodIn_r _ [8, 3, 20, 21, 22, 23, 24, 25, 26, 27, 28, 29, 30, 31, 32, 33, 34, 35, 36] (by decide +kernel) (by decide +kernel)
set_option maxRecDepth 20000 in
theorem gX5_told_X5_isRope : GoodIn wsX5_told (wsV RX5 94 RX5 yX5_isRope wsX5_isRope) := goodIn_app (goodIn_of _ (by decide +kernel)) ggX5_told_X5_isRope
set_option maxRecDepth 20000 in
theorem ggX5_told_X3_number : GoodIn wsX5_told wsX3_number := goodIn_r _ [13, 14, 15, 16, 17, 18, 19, 30, 31, 32, 33, 34, 35, 36] (by decide +kernel) (by decide +kernel)
set_option maxRecDepth 20000 in
theorem gX5_told_X3_number : GoodIn wsX5_told (wsV RX5 152 RX3 yX3_number wsX3_number) := goodIn_app (goodIn_of _ (by decide +kernel)) ggX5_told_X3_number
theorem dX5_told_0 : decode cX5_told 0 = .ok (.aload_n 0, 1) := by decide +kernel
theorem dX5_told_1 : decode cX5_told 1 = .ok (.iload_n 1, 1) := by decide +kernel
theorem dX5_told_2 : decode cX5_told 2 = .ok (.invokevirtual 94, 3) := by decide +kernel
theorem dX5_told_5 : decode cX5_told 5 = .ok (.ifCond .eq 13, 3) := by decide +kernel
theorem dX5_told_8 : decode cX5_told 8 = .ok (.iload_n 2, 1) := by decide +kernel
theorem dX5_told_9 : decode cX5_told 9 = .ok (.ifCond .lt 9, 3) := by decide +kernel
theorem dX5_told_12 : decode cX5_told 12 = .ok (.iload_n 2, 1) := by decide +kernel
theorem dX5_told_13 : decode cX5_told 13 = .ok (.bipush 6, 2) := by decide +kernel
theorem dX5_told_15 : decode cX5_told 15 = .ok (.if_icmp .lt 13, 3) := by decide +kernel
theorem dX5_told_18 : decode cX5_told 18 = .ok (.new 40, 3) := by decide +kernel
theorem dX5_told_21 : decode cX5_told 21 = .ok (.dup, 1) := by decide +kernel
theorem dX5_told_22 : decode cX5_told 22 = .ok (.ldc 150, 2) := by decide +kernel
theorem dX5_told_24 : decode cX5_told 24 = .ok (.invokespecial 44, 3) := by decide +kernel
theorem dX5_told_27 : decode cX5_told 27 = .ok (.athrow, 1) := by decide +kernel
theorem dX5_told_28 : decode cX5_told 28 = .ok (.aload_n 0, 1) := by decide +kernel
theorem dX5_told_29 : decode cX5_told 29 = .ok (.getfield 26, 3) := by decide +kernel
theorem dX5_told_32 : decode cX5_told 32 = .ok (.getfield 66, 3) := by decide +kernel
theorem dX5_told_35 : decode cX5_told 35 = .ok (.iload_n 1, 1) := by decide +kernel
theorem dX5_told_36 : decode cX5_told 36 = .ok (.iload_n 2, 1) := by decide +kernel
theorem dX5_told_37 : decode cX5_told 37 = .ok (.invokevirtual 152, 3) := by decide +kernel
theorem dX5_told_40 : decode cX5_told 40 = .ok (.ireturn, 1) := by decide +kernel
set_option maxRecDepth 20000 in
theorem ggX5_count_X5_number : GoodIn wsX5_count wsX5_number := goodIn_r _ [7, 8, 9, 10, 11, 12, 13, 14, 15, 16, 17, 18, 19, 20, 21, 22, 23, 24, 25, 26, 27, 28, 29, 30, 31, 32, 33, 34, 35, 36, 37, 38, 39, 40, 41, 42, 43, 44, 45, 46, 47, 48, 49, 50, 51, 52, 53, 54, 55, 56, 57, 58, 59, 60, 61, 62, 63, 64, 65, 66, 67, 68, 69, 70, 71, 72, 73, 74, 75, 76, 77, 78, 79, 80, 81, 82, 83, 84, 85] (by decide +kernel) (by decide +kernel)
set_option maxRecDepth 20000 in
theorem gX5_count_X5_number : GoodIn wsX5_count (wsV RX5 156 RX5 yX5_number wsX5_number) := goodIn_app (goodIn_of _ (by decide +kernel)) ggX5_count_X5_number
theorem dX5_count_0 : decode cX5_count 0 = .ok (.iload_n 1, 1) := by decide +kernel
theorem dX5_count_1 : decode cX5_count 1 = .ok (.ifCond .lt 9, 3) := by decide +kernel
theorem dX5_count_4 : decode cX5_count 4 = .ok (.iload_n 1, 1) := by decide +kernel
theorem dX5_count_5 : decode cX5_count 5 = .ok (.bipush 11, 2) := by decide +kernel
theorem dX5_count_7 : decode cX5_count 7 = .ok (.if_icmp .lt 13, 3) := by decide +kernel
theorem dX5_count_10 : decode cX5_count 10 = .ok (.new 40, 3) := by decide +kernel
theorem dX5_count_13 : decode cX5_count 13 = .ok (.dup, 1) := by decide +kernel
theorem dX5_count_14 : decode cX5_count 14 = .ok (.ldc 154, 2) := by decide +kernel
theorem dX5_count_16 : decode cX5_count 16 = .ok (.invokespecial 44, 3) := by decide +kernel
theorem dX5_count_19 : decode cX5_count 19 = .ok (.athrow, 1) := by decide +kernel
theorem dX5_count_20 : decode cX5_count 20 = .ok (.aload_n 0, 1) := by decide +kernel
theorem dX5_count_21 : decode cX5_count 21 = .ok (.iload_n 1, 1) := by decide +kernel
theorem dX5_count_22 : decode cX5_count 22 = .ok (.invokevirtual 156, 3) := by decide +kernel
theorem dX5_count_25 : decode cX5_count 25 = .ok (.ireturn, 1) := by decide +kernel
set_option maxRecDepth 20000 in
theorem ggX5_isFeast_X1_areOn : GoodIn wsX5_isFeast wsX1_areOn := goodIn_r _ [9, 10, 11, 12, 23, 24, 25] (by decide +kernel) (by decide +kernel)
set_option maxRecDepth 20000 in
theorem gX5_isFeast_X1_areOn : GoodIn wsX5_isFeast (wsV RX5 162 RX1 yX1_areOn wsX1_areOn) := goodIn_app (goodIn_of _ (by decide +kernel)) ggX5_isFeast_X1_areOn
theorem dX5_isFeast_0 : decode cX5_isFeast 0 = .ok (.iload_n 1, 1) := by decide +kernel
theorem dX5_isFeast_1 : decode cX5_isFeast 1 = .ok (.ifCond .lt 9, 3) := by decide +kernel
theorem dX5_isFeast_4 : decode cX5_isFeast 4 = .ok (.iload_n 1, 1) := by decide +kernel
theorem dX5_isFeast_5 : decode cX5_isFeast 5 = .ok (.bipush 60, 2) := by decide +kernel
theorem dX5_isFeast_7 : decode cX5_isFeast 7 = .ok (.if_icmp .le 13, 3) := by decide +kernel
theorem dX5_isFeast_10 : decode cX5_isFeast 10 = .ok (.new 33, 3) := by decide +kernel
theorem dX5_isFeast_13 : decode cX5_isFeast 13 = .ok (.dup, 1) := by decide +kernel
theorem dX5_isFeast_14 : decode cX5_isFeast 14 = .ok (.ldc 128, 2) := by decide +kernel
theorem dX5_isFeast_16 : decode cX5_isFeast 16 = .ok (.invokespecial 37, 3) := by decide +kernel
theorem dX5_isFeast_19 : decode cX5_isFeast 19 = .ok (.athrow, 1) := by decide +kernel
theorem dX5_isFeast_20 : decode cX5_isFeast 20 = .ok (.aload_n 0, 1) := by decide +kernel
theorem dX5_isFeast_21 : decode cX5_isFeast 21 = .ok (.getfield 19, 3) := by decide +kernel
theorem dX5_isFeast_24 : decode cX5_isFeast 24 = .ok (.aload_n 0, 1) := by decide +kernel
theorem dX5_isFeast_25 : decode cX5_isFeast 25 = .ok (.getfield 26, 3) := by decide +kernel
theorem dX5_isFeast_28 : decode cX5_isFeast 28 = .ok (.getfield 159, 3) := by decide +kernel
theorem dX5_isFeast_31 : decode cX5_isFeast 31 = .ok (.iload_n 1, 1) := by decide +kernel
theorem dX5_isFeast_32 : decode cX5_isFeast 32 = .ok (.iadd, 1) := by decide +kernel
theorem dX5_isFeast_33 : decode cX5_isFeast 33 = .ok (.invokevirtual 162, 3) := by decide +kernel
theorem dX5_isFeast_36 : decode cX5_isFeast 36 = .ok (.ireturn, 1) := by decide +kernel
set_option maxRecDepth 20000 in
theorem ggX5_next_X1_daysUntil : GoodIn wsX5_next wsX1_daysUntil := goodIn_r _ [7, 8, 9, 10, 6, 11, 12, 13, 14, 25, 26, 27] (by decide +kernel) (by decide +kernel)
set_option maxRecDepth 20000 in
theorem gX5_next_X1_daysUntil : GoodIn wsX5_next (wsV RX5 165 RX1 yX1_daysUntil wsX1_daysUntil) := goodIn_app (goodIn_of _ (by decide +kernel)) ggX5_next_X1_daysUntil
theorem dX5_next_0 : decode cX5_next 0 = .ok (.aload_n 0, 1) := by decide +kernel
theorem dX5_next_1 : decode cX5_next 1 = .ok (.getfield 19, 3) := by decide +kernel
theorem dX5_next_4 : decode cX5_next 4 = .ok (.aload_n 0, 1) := by decide +kernel
theorem dX5_next_5 : decode cX5_next 5 = .ok (.getfield 26, 3) := by decide +kernel
theorem dX5_next_8 : decode cX5_next 8 = .ok (.getfield 159, 3) := by decide +kernel
theorem dX5_next_11 : decode cX5_next 11 = .ok (.invokevirtual 165, 3) := by decide +kernel
theorem dX5_next_14 : decode cX5_next 14 = .ok (.ireturn, 1) := by decide +kernel
set_option maxRecDepth 20000 in
theorem ggX5_mean_X2_total : GoodIn wsX5_mean wsX2_total := goodIn_r _ [7, 8, 19] (by decide +kernel) (by decide +kernel)
set_option maxRecDepth 20000 in
theorem gX5_mean_X2_total : GoodIn wsX5_mean (wsV RX5 172 RX2 yX2_total wsX2_total) := goodIn_app (goodIn_of _ (by decide +kernel)) ggX5_mean_X2_total
theorem dX5_mean_0 : decode cX5_mean 0 = .ok (.aload_n 0, 1) := by decide +kernel
theorem dX5_mean_1 : decode cX5_mean 1 = .ok (.getfield 26, 3) := by decide +kernel
theorem dX5_mean_4 : decode cX5_mean 4 = .ok (.getfield 120, 3) := by decide +kernel
theorem dX5_mean_7 : decode cX5_mean 7 = .ok (.invokevirtual 172, 3) := by decide +kernel
theorem dX5_mean_10 : decode cX5_mean 10 = .ok (.i2d, 1) := by decide +kernel
theorem dX5_mean_11 : decode cX5_mean 11 = .ok (.ldc2_w 193, 3) := by decide +kernel
theorem dX5_mean_14 : decode cX5_mean 14 = .ok (.ddiv, 1) := by decide +kernel
theorem dX5_mean_15 : decode cX5_mean 15 = .ok (.dreturn, 1) := by decide +kernel
theorem dX5_isColumn_0 : decode cX5_isColumn 0 = .ok (.iload_n 0, 1) := by decide +kernel
theorem dX5_isColumn_1 : decode cX5_isColumn 1 = .ok (.ifCond .lt 13, 3) := by decide +kernel
theorem dX5_isColumn_4 : decode cX5_isColumn 4 = .ok (.iload_n 0, 1) := by decide +kernel
theorem dX5_isColumn_5 : decode cX5_isColumn 5 = .ok (.bipush 12, 2) := by decide +kernel
theorem dX5_isColumn_7 : decode cX5_isColumn 7 = .ok (.if_icmp .ge 7, 3) := by decide +kernel
theorem dX5_isColumn_10 : decode cX5_isColumn 10 = .ok (.iconst 1, 1) := by decide +kernel
theorem dX5_isColumn_11 : decode cX5_isColumn 11 = .ok (.goto 4, 3) := by decide +kernel
theorem dX5_isColumn_14 : decode cX5_isColumn 14 = .ok (.iconst 0, 1) := by decide +kernel
theorem dX5_isColumn_15 : decode cX5_isColumn 15 = .ok (.ireturn, 1) := by decide +kernel
theorem dX5_isWindow_0 : decode cX5_isWindow 0 = .ok (.iload_n 1, 1) := by decide +kernel
theorem dX5_isWindow_1 : decode cX5_isWindow 1 = .ok (.ifCond .lt 18, 3) := by decide +kernel
theorem dX5_isWindow_4 : decode cX5_isWindow 4 = .ok (.iload_n 1, 1) := by decide +kernel
theorem dX5_isWindow_5 : decode cX5_isWindow 5 = .ok (.aload_n 0, 1) := by decide +kernel
theorem dX5_isWindow_6 : decode cX5_isWindow 6 = .ok (.getfield 12, 3) := by decide +kernel
theorem dX5_isWindow_9 : decode cX5_isWindow 9 = .ok (.getfield 45, 3) := by decide +kernel
theorem dX5_isWindow_12 : decode cX5_isWindow 12 = .ok (.if_icmp .ge 7, 3) := by decide +kernel
theorem dX5_isWindow_15 : decode cX5_isWindow 15 = .ok (.iconst 1, 1) := by decide +kernel
theorem dX5_isWindow_16 : decode cX5_isWindow 16 = .ok (.goto 4, 3) := by decide +kernel
theorem dX5_isWindow_19 : decode cX5_isWindow 19 = .ok (.iconst 0, 1) := by decide +kernel
theorem dX5_isWindow_20 : decode cX5_isWindow 20 = .ok (.ireturn, 1) := by decide +kernel
theorem dX5_isRope_0 : decode cX5_isRope 0 = .ok (.iload_n 1, 1) := by decide +kernel
theorem dX5_isRope_1 : decode cX5_isRope 1 = .ok (.ifCond .lt 21, 3) := by decide +kernel
theorem dX5_isRope_4 : decode cX5_isRope 4 = .ok (.iload_n 1, 1) := by decide +kernel
theorem dX5_isRope_5 : decode cX5_isRope 5 = .ok (.aload_n 0, 1) := by decide +kernel
theorem dX5_isRope_6 : decode cX5_isRope 6 = .ok (.getfield 26, 3) := by decide +kernel
theorem dX5_isRope_9 : decode cX5_isRope 9 = .ok (.getfield 66, 3) := by decide +kernel
theorem dX5_isRope_12 : decode cX5_isRope 12 = .ok (.getfield 70, 3) := by decide +kernel
theorem dX5_isRope_15 : decode cX5_isRope 15 = .ok (.if_icmp .ge 7, 3) := by decide +kernel
theorem dX5_isRope_18 : decode cX5_isRope 18 = .ok (.iconst 1, 1) := by decide +kernel
theorem dX5_isRope_19 : decode cX5_isRope 19 = .ok (.goto 4, 3) := by decide +kernel
theorem dX5_isRope_22 : decode cX5_isRope 22 = .ok (.iconst 0, 1) := by decide +kernel
theorem dX5_isRope_23 : decode cX5_isRope 23 = .ok (.ireturn, 1) := by decide +kernel
set_option maxRecDepth 20000 in
theorem ggX5_number_X2_total : GoodIn wsX5_number wsX2_total := goodIn_r _ [8, 9, 78] (by decide +kernel) (by decide +kernel)
set_option maxRecDepth 20000 in
theorem gX5_number_X2_total : GoodIn wsX5_number (wsV RX5 172 RX2 yX2_total wsX2_total) := goodIn_app (goodIn_of _ (by decide +kernel)) ggX5_number_X2_total
set_option maxRecDepth 20000 in
theorem ggX5_number_X2_cleanPanes : GoodIn wsX5_number wsX2_cleanPanes := goodIn_r _ [13, 9, 78] (by decide +kernel) (by decide +kernel)
set_option maxRecDepth 20000 in
theorem gX5_number_X2_cleanPanes : GoodIn wsX5_number (wsV RX5 199 RX2 yX2_cleanPanes wsX2_cleanPanes) := goodIn_app (goodIn_of _ (by decide +kernel)) ggX5_number_X2_cleanPanes
set_option maxRecDepth 20000 in
theorem ggX5_number_X3_allCleaned : GoodIn wsX5_number wsX3_allCleaned := goodIn_r _ [18, 19, 20, 68, 69, 70, 71, 72, 73, 74] (by decide +kernel) (by decide +kernel)
set_option maxRecDepth 20000 in
theorem gX5_number_X3_allCleaned : GoodIn wsX5_number (wsV RX5 176 RX3 yX3_allCleaned wsX3_allCleaned) := goodIn_app (goodIn_of _ (by decide +kernel)) ggX5_number_X3_allCleaned
set_option maxRecDepth 20000 in
theorem ggX5_number_X4_allBring : GoodIn wsX5_number wsX4_allBring := goodIn_r _ [25, 26, 27, 28, 29, 24, 30, 31, 32, 33, 34, 35, 36, 37, 38, 39, 40, 41, 42, 43, 44, 45, 46, 47, 48, 49, 50, 7, 51, 9, 62, 63, 64, 65, 66, 67, 78] (by decide +kernel) (by decide +kernel)
set_option maxRecDepth 20000 in
theorem gX5_number_X4_allBring : GoodIn wsX5_number (wsV RX5 205 RX4 yX4_allBring wsX4_allBring) := goodIn_app (goodIn_of _ (by decide +kernel)) ggX5_number_X4_allBring
theorem dX5_number_0 : decode cX5_number 0 = .ok (.iload_n 1, 1) := by decide +kernel
theorem dX5_number_1 : decode cX5_number 1 = .ok (.tableswitch 147 0 9 #[55, 63, 71, 82, 90, 98, 109, 120, 131, 139], 55) := by decide +kernel
theorem dX5_number_56 : decode cX5_number 56 = .ok (.aload_n 0, 1) := by decide +kernel
theorem dX5_number_57 : decode cX5_number 57 = .ok (.getfield 26, 3) := by decide +kernel
theorem dX5_number_60 : decode cX5_number 60 = .ok (.getfield 159, 3) := by decide +kernel
theorem dX5_number_63 : decode cX5_number 63 = .ok (.ireturn, 1) := by decide +kernel
theorem dX5_number_64 : decode cX5_number 64 = .ok (.aload_n 0, 1) := by decide +kernel
theorem dX5_number_65 : decode cX5_number 65 = .ok (.getfield 12, 3) := by decide +kernel
theorem dX5_number_68 : decode cX5_number 68 = .ok (.getfield 45, 3) := by decide +kernel
theorem dX5_number_71 : decode cX5_number 71 = .ok (.ireturn, 1) := by decide +kernel
theorem dX5_number_72 : decode cX5_number 72 = .ok (.aload_n 0, 1) := by decide +kernel
theorem dX5_number_73 : decode cX5_number 73 = .ok (.getfield 26, 3) := by decide +kernel
theorem dX5_number_76 : decode cX5_number 76 = .ok (.getfield 66, 3) := by decide +kernel
theorem dX5_number_79 : decode cX5_number 79 = .ok (.getfield 70, 3) := by decide +kernel
theorem dX5_number_82 : decode cX5_number 82 = .ok (.ireturn, 1) := by decide +kernel
theorem dX5_number_83 : decode cX5_number 83 = .ok (.aload_n 0, 1) := by decide +kernel
theorem dX5_number_84 : decode cX5_number 84 = .ok (.getfield 19, 3) := by decide +kernel
theorem dX5_number_87 : decode cX5_number 87 = .ok (.getfield 83, 3) := by decide +kernel
theorem dX5_number_90 : decode cX5_number 90 = .ok (.ireturn, 1) := by decide +kernel
theorem dX5_number_91 : decode cX5_number 91 = .ok (.aload_n 0, 1) := by decide +kernel
theorem dX5_number_92 : decode cX5_number 92 = .ok (.getfield 26, 3) := by decide +kernel
theorem dX5_number_95 : decode cX5_number 95 = .ok (.getfield 91, 3) := by decide +kernel
theorem dX5_number_98 : decode cX5_number 98 = .ok (.ireturn, 1) := by decide +kernel
theorem dX5_number_99 : decode cX5_number 99 = .ok (.aload_n 0, 1) := by decide +kernel
theorem dX5_number_100 : decode cX5_number 100 = .ok (.getfield 26, 3) := by decide +kernel
theorem dX5_number_103 : decode cX5_number 103 = .ok (.getfield 120, 3) := by decide +kernel
theorem dX5_number_106 : decode cX5_number 106 = .ok (.invokevirtual 172, 3) := by decide +kernel
theorem dX5_number_109 : decode cX5_number 109 = .ok (.ireturn, 1) := by decide +kernel
theorem dX5_number_110 : decode cX5_number 110 = .ok (.aload_n 0, 1) := by decide +kernel
theorem dX5_number_111 : decode cX5_number 111 = .ok (.getfield 26, 3) := by decide +kernel
theorem dX5_number_114 : decode cX5_number 114 = .ok (.getfield 120, 3) := by decide +kernel
theorem dX5_number_117 : decode cX5_number 117 = .ok (.invokevirtual 199, 3) := by decide +kernel
theorem dX5_number_120 : decode cX5_number 120 = .ok (.ireturn, 1) := by decide +kernel
theorem dX5_number_121 : decode cX5_number 121 = .ok (.aload_n 0, 1) := by decide +kernel
theorem dX5_number_122 : decode cX5_number 122 = .ok (.getfield 26, 3) := by decide +kernel
theorem dX5_number_125 : decode cX5_number 125 = .ok (.getfield 66, 3) := by decide +kernel
theorem dX5_number_128 : decode cX5_number 128 = .ok (.invokevirtual 176, 3) := by decide +kernel
theorem dX5_number_131 : decode cX5_number 131 = .ok (.ireturn, 1) := by decide +kernel
theorem dX5_number_132 : decode cX5_number 132 = .ok (.aload_n 0, 1) := by decide +kernel
theorem dX5_number_133 : decode cX5_number 133 = .ok (.getfield 26, 3) := by decide +kernel
theorem dX5_number_136 : decode cX5_number 136 = .ok (.getfield 130, 3) := by decide +kernel
theorem dX5_number_139 : decode cX5_number 139 = .ok (.ireturn, 1) := by decide +kernel
theorem dX5_number_140 : decode cX5_number 140 = .ok (.aload_n 0, 1) := by decide +kernel
theorem dX5_number_141 : decode cX5_number 141 = .ok (.getfield 26, 3) := by decide +kernel
theorem dX5_number_144 : decode cX5_number 144 = .ok (.getfield 202, 3) := by decide +kernel
theorem dX5_number_147 : decode cX5_number 147 = .ok (.ireturn, 1) := by decide +kernel
theorem dX5_number_148 : decode cX5_number 148 = .ok (.aload_n 0, 1) := by decide +kernel
theorem dX5_number_149 : decode cX5_number 149 = .ok (.getfield 12, 3) := by decide +kernel
theorem dX5_number_152 : decode cX5_number 152 = .ok (.aload_n 0, 1) := by decide +kernel
theorem dX5_number_153 : decode cX5_number 153 = .ok (.getfield 26, 3) := by decide +kernel
theorem dX5_number_156 : decode cX5_number 156 = .ok (.getfield 120, 3) := by decide +kernel
theorem dX5_number_159 : decode cX5_number 159 = .ok (.invokevirtual 205, 3) := by decide +kernel
theorem dX5_number_162 : decode cX5_number 162 = .ok (.ireturn, 1) := by decide +kernel
theorem dX6_init_0 : decode cX6_init 0 = .ok (.aload_n 0, 1) := by decide +kernel
theorem dX6_init_1 : decode cX6_init 1 = .ok (.invokespecial 1, 3) := by decide +kernel
theorem dX6_init_4 : decode cX6_init 4 = .ok (.aload_n 0, 1) := by decide +kernel
theorem dX6_init_5 : decode cX6_init 5 = .ok (.bipush 12, 2) := by decide +kernel
theorem dX6_init_7 : decode cX6_init 7 = .ok (.bipush 8, 2) := by decide +kernel
theorem dX6_init_9 : decode cX6_init 9 = .ok (.multianewarray 7 2, 4) := by decide +kernel
theorem dX6_init_13 : decode cX6_init 13 = .ok (.putfield 9, 3) := by decide +kernel
theorem dX6_init_16 : decode cX6_init 16 = .ok (.aload_n 0, 1) := by decide +kernel
theorem dX6_init_17 : decode cX6_init 17 = .ok (.iconst 0, 1) := by decide +kernel
theorem dX6_init_18 : decode cX6_init 18 = .ok (.anewarray 14, 3) := by decide +kernel
theorem dX6_init_21 : decode cX6_init 21 = .ok (.putfield 16, 3) := by decide +kernel
theorem dX6_init_24 : decode cX6_init 24 = .ok (.aload_n 0, 1) := by decide +kernel
theorem dX6_init_25 : decode cX6_init 25 = .ok (.iconst 0, 1) := by decide +kernel
theorem dX6_init_26 : decode cX6_init 26 = .ok (.anewarray 14, 3) := by decide +kernel
theorem dX6_init_29 : decode cX6_init 29 = .ok (.putfield 19, 3) := by decide +kernel
theorem dX6_init_32 : decode cX6_init 32 = .ok (.aload_n 0, 1) := by decide +kernel
theorem dX6_init_33 : decode cX6_init 33 = .ok (.iconst 0, 1) := by decide +kernel
theorem dX6_init_34 : decode cX6_init 34 = .ok (.anewarray 14, 3) := by decide +kernel
theorem dX6_init_37 : decode cX6_init 37 = .ok (.putfield 22, 3) := by decide +kernel
theorem dX6_init_40 : decode cX6_init 40 = .ok (.return_, 1) := by decide +kernel
theorem dX6_with_0 : decode cX6_with 0 = .ok (.aload_n 0, 1) := by decide +kernel
theorem dX6_with_1 : decode cX6_with 1 = .ok (.arraylength, 1) := by decide +kernel
theorem dX6_with_2 : decode cX6_with 2 = .ok (.iconst 1, 1) := by decide +kernel
theorem dX6_with_3 : decode cX6_with 3 = .ok (.iadd, 1) := by decide +kernel
theorem dX6_with_4 : decode cX6_with 4 = .ok (.anewarray 14, 3) := by decide +kernel
theorem dX6_with_7 : decode cX6_with 7 = .ok (.astore_n 2, 1) := by decide +kernel
theorem dX6_with_8 : decode cX6_with 8 = .ok (.iconst 0, 1) := by decide +kernel
theorem dX6_with_9 : decode cX6_with 9 = .ok (.istore_n 3, 1) := by decide +kernel
theorem dX6_with_10 : decode cX6_with 10 = .ok (.iload_n 3, 1) := by decide +kernel
theorem dX6_with_11 : decode cX6_with 11 = .ok (.aload_n 0, 1) := by decide +kernel
theorem dX6_with_12 : decode cX6_with 12 = .ok (.arraylength, 1) := by decide +kernel
theorem dX6_with_13 : decode cX6_with 13 = .ok (.if_icmp .ge 15, 3) := by decide +kernel
theorem dX6_with_16 : decode cX6_with 16 = .ok (.aload_n 2, 1) := by decide +kernel
theorem dX6_with_17 : decode cX6_with 17 = .ok (.iload_n 3, 1) := by decide +kernel
theorem dX6_with_18 : decode cX6_with 18 = .ok (.aload_n 0, 1) := by decide +kernel
theorem dX6_with_19 : decode cX6_with 19 = .ok (.iload_n 3, 1) := by decide +kernel
theorem dX6_with_20 : decode cX6_with 20 = .ok (.aaload, 1) := by decide +kernel
theorem dX6_with_21 : decode cX6_with 21 = .ok (.aastore, 1) := by decide +kernel
theorem dX6_with_22 : decode cX6_with 22 = .ok (.iinc 3 1, 3) := by decide +kernel
theorem dX6_with_25 : decode cX6_with 25 = .ok (.goto (-15), 3) := by decide +kernel
theorem dX6_with_28 : decode cX6_with 28 = .ok (.aload_n 2, 1) := by decide +kernel
theorem dX6_with_29 : decode cX6_with 29 = .ok (.aload_n 0, 1) := by decide +kernel
theorem dX6_with_30 : decode cX6_with 30 = .ok (.arraylength, 1) := by decide +kernel
theorem dX6_with_31 : decode cX6_with 31 = .ok (.aload_n 1, 1) := by decide +kernel
theorem dX6_with_32 : decode cX6_with 32 = .ok (.aastore, 1) := by decide +kernel
theorem dX6_with_33 : decode cX6_with 33 = .ok (.aload_n 2, 1) := by decide +kernel
theorem dX6_with_34 : decode cX6_with 34 = .ok (.areturn, 1) := by decide +kernel
theorem dX6_ropeAt_0 : decode cX6_ropeAt 0 = .ok (.iconst 0, 1) := by decide +kernel
theorem dX6_ropeAt_1 : decode cX6_ropeAt 1 = .ok (.istore_n 2, 1) := by decide +kernel
theorem dX6_ropeAt_2 : decode cX6_ropeAt 2 = .ok (.iload_n 2, 1) := by decide +kernel
theorem dX6_ropeAt_3 : decode cX6_ropeAt 3 = .ok (.aload_n 0, 1) := by decide +kernel
theorem dX6_ropeAt_4 : decode cX6_ropeAt 4 = .ok (.getfield 19, 3) := by decide +kernel
theorem dX6_ropeAt_7 : decode cX6_ropeAt 7 = .ok (.arraylength, 1) := by decide +kernel
theorem dX6_ropeAt_8 : decode cX6_ropeAt 8 = .ok (.if_icmp .ge 23, 3) := by decide +kernel
theorem dX6_ropeAt_11 : decode cX6_ropeAt 11 = .ok (.aload_n 0, 1) := by decide +kernel
theorem dX6_ropeAt_12 : decode cX6_ropeAt 12 = .ok (.getfield 19, 3) := by decide +kernel
theorem dX6_ropeAt_15 : decode cX6_ropeAt 15 = .ok (.iload_n 2, 1) := by decide +kernel
theorem dX6_ropeAt_16 : decode cX6_ropeAt 16 = .ok (.aaload, 1) := by decide +kernel
theorem dX6_ropeAt_17 : decode cX6_ropeAt 17 = .ok (.iconst 0, 1) := by decide +kernel
theorem dX6_ropeAt_18 : decode cX6_ropeAt 18 = .ok (.iaload, 1) := by decide +kernel
theorem dX6_ropeAt_19 : decode cX6_ropeAt 19 = .ok (.iload_n 1, 1) := by decide +kernel
theorem dX6_ropeAt_20 : decode cX6_ropeAt 20 = .ok (.if_icmp .ne 5, 3) := by decide +kernel
theorem dX6_ropeAt_23 : decode cX6_ropeAt 23 = .ok (.iload_n 2, 1) := by decide +kernel
theorem dX6_ropeAt_24 : decode cX6_ropeAt 24 = .ok (.ireturn, 1) := by decide +kernel
theorem dX6_ropeAt_25 : decode cX6_ropeAt 25 = .ok (.iinc 2 1, 3) := by decide +kernel
theorem dX6_ropeAt_28 : decode cX6_ropeAt 28 = .ok (.goto (-26), 3) := by decide +kernel
theorem dX6_ropeAt_31 : decode cX6_ropeAt 31 = .ok (.iconst (-1), 1) := by decide +kernel
theorem dX6_ropeAt_32 : decode cX6_ropeAt 32 = .ok (.ireturn, 1) := by decide +kernel
theorem dX6_isFeast_0 : decode cX6_isFeast 0 = .ok (.aload_n 0, 1) := by decide +kernel
theorem dX6_isFeast_1 : decode cX6_isFeast 1 = .ok (.getfield 22, 3) := by decide +kernel
theorem dX6_isFeast_4 : decode cX6_isFeast 4 = .ok (.astore_n 2, 1) := by decide +kernel
theorem dX6_isFeast_5 : decode cX6_isFeast 5 = .ok (.aload_n 2, 1) := by decide +kernel
theorem dX6_isFeast_6 : decode cX6_isFeast 6 = .ok (.arraylength, 1) := by decide +kernel
theorem dX6_isFeast_7 : decode cX6_isFeast 7 = .ok (.istore_n 3, 1) := by decide +kernel
theorem dX6_isFeast_8 : decode cX6_isFeast 8 = .ok (.iconst 0, 1) := by decide +kernel
theorem dX6_isFeast_9 : decode cX6_isFeast 9 = .ok (.istore 4, 2) := by decide +kernel
theorem dX6_isFeast_11 : decode cX6_isFeast 11 = .ok (.iload 4, 2) := by decide +kernel
theorem dX6_isFeast_13 : decode cX6_isFeast 13 = .ok (.iload_n 3, 1) := by decide +kernel
theorem dX6_isFeast_14 : decode cX6_isFeast 14 = .ok (.if_icmp .ge 31, 3) := by decide +kernel
theorem dX6_isFeast_17 : decode cX6_isFeast 17 = .ok (.aload_n 2, 1) := by decide +kernel
theorem dX6_isFeast_18 : decode cX6_isFeast 18 = .ok (.iload 4, 2) := by decide +kernel
theorem dX6_isFeast_20 : decode cX6_isFeast 20 = .ok (.aaload, 1) := by decide +kernel
theorem dX6_isFeast_21 : decode cX6_isFeast 21 = .ok (.astore 5, 2) := by decide +kernel
theorem dX6_isFeast_23 : decode cX6_isFeast 23 = .ok (.iload_n 1, 1) := by decide +kernel
theorem dX6_isFeast_24 : decode cX6_isFeast 24 = .ok (.aload 5, 2) := by decide +kernel
theorem dX6_isFeast_26 : decode cX6_isFeast 26 = .ok (.iconst 1, 1) := by decide +kernel
theorem dX6_isFeast_27 : decode cX6_isFeast 27 = .ok (.iaload, 1) := by decide +kernel
theorem dX6_isFeast_28 : decode cX6_isFeast 28 = .ok (.isub, 1) := by decide +kernel
theorem dX6_isFeast_29 : decode cX6_isFeast 29 = .ok (.aload 5, 2) := by decide +kernel
theorem dX6_isFeast_31 : decode cX6_isFeast 31 = .ok (.iconst 0, 1) := by decide +kernel
theorem dX6_isFeast_32 : decode cX6_isFeast 32 = .ok (.iaload, 1) := by decide +kernel
theorem dX6_isFeast_33 : decode cX6_isFeast 33 = .ok (.irem, 1) := by decide +kernel
theorem dX6_isFeast_34 : decode cX6_isFeast 34 = .ok (.ifCond .ne 5, 3) := by decide +kernel
theorem dX6_isFeast_37 : decode cX6_isFeast 37 = .ok (.iconst 1, 1) := by decide +kernel
theorem dX6_isFeast_38 : decode cX6_isFeast 38 = .ok (.ireturn, 1) := by decide +kernel
theorem dX6_isFeast_39 : decode cX6_isFeast 39 = .ok (.iinc 4 1, 3) := by decide +kernel
theorem dX6_isFeast_42 : decode cX6_isFeast 42 = .ok (.goto (-31), 3) := by decide +kernel
theorem dX6_isFeast_45 : decode cX6_isFeast 45 = .ok (.iconst 0, 1) := by decide +kernel
theorem dX6_isFeast_46 : decode cX6_isFeast 46 = .ok (.ireturn, 1) := by decide +kernel
theorem dX6_of_0 : decode cX6_of 0 = .ok (.iconst 3, 1) := by decide +kernel
theorem dX6_of_1 : decode cX6_of 1 = .ok (.newarray .int, 2) := by decide +kernel
theorem dX6_of_3 : decode cX6_of 3 = .ok (.astore_n 2, 1) := by decide +kernel
theorem dX6_of_4 : decode cX6_of 4 = .ok (.iconst 0, 1) := by decide +kernel
theorem dX6_of_5 : decode cX6_of 5 = .ok (.istore_n 3, 1) := by decide +kernel
theorem dX6_of_6 : decode cX6_of 6 = .ok (.iload_n 3, 1) := by decide +kernel
theorem dX6_of_7 : decode cX6_of 7 = .ok (.aload_n 1, 1) := by decide +kernel
theorem dX6_of_8 : decode cX6_of 8 = .ok (.iconst 2, 1) := by decide +kernel
theorem dX6_of_9 : decode cX6_of 9 = .ok (.iaload, 1) := by decide +kernel
theorem dX6_of_10 : decode cX6_of 10 = .ok (.if_icmp .ge 72, 3) := by decide +kernel
theorem dX6_of_13 : decode cX6_of 13 = .ok (.iconst 0, 1) := by decide +kernel
theorem dX6_of_14 : decode cX6_of 14 = .ok (.istore 4, 2) := by decide +kernel
theorem dX6_of_16 : decode cX6_of 16 = .ok (.iload 4, 2) := by decide +kernel
theorem dX6_of_18 : decode cX6_of 18 = .ok (.aload_n 1, 1) := by decide +kernel
theorem dX6_of_19 : decode cX6_of 19 = .ok (.iconst 3, 1) := by decide +kernel
theorem dX6_of_20 : decode cX6_of 20 = .ok (.iaload, 1) := by decide +kernel
theorem dX6_of_21 : decode cX6_of 21 = .ok (.if_icmp .ge 55, 3) := by decide +kernel
theorem dX6_of_24 : decode cX6_of 24 = .ok (.aload_n 0, 1) := by decide +kernel
theorem dX6_of_25 : decode cX6_of 25 = .ok (.getfield 9, 3) := by decide +kernel
theorem dX6_of_28 : decode cX6_of 28 = .ok (.aload_n 1, 1) := by decide +kernel
theorem dX6_of_29 : decode cX6_of 29 = .ok (.iconst 0, 1) := by decide +kernel
theorem dX6_of_30 : decode cX6_of 30 = .ok (.iaload, 1) := by decide +kernel
theorem dX6_of_31 : decode cX6_of 31 = .ok (.iload_n 3, 1) := by decide +kernel
theorem dX6_of_32 : decode cX6_of 32 = .ok (.iadd, 1) := by decide +kernel
theorem dX6_of_33 : decode cX6_of 33 = .ok (.aaload, 1) := by decide +kernel
theorem dX6_of_34 : decode cX6_of 34 = .ok (.aload_n 1, 1) := by decide +kernel
theorem dX6_of_35 : decode cX6_of 35 = .ok (.iconst 1, 1) := by decide +kernel
theorem dX6_of_36 : decode cX6_of 36 = .ok (.iaload, 1) := by decide +kernel
theorem dX6_of_37 : decode cX6_of 37 = .ok (.iload 4, 2) := by decide +kernel
theorem dX6_of_39 : decode cX6_of 39 = .ok (.iadd, 1) := by decide +kernel
theorem dX6_of_40 : decode cX6_of 40 = .ok (.iaload, 1) := by decide +kernel
theorem dX6_of_41 : decode cX6_of 41 = .ok (.istore 5, 2) := by decide +kernel
theorem dX6_of_43 : decode cX6_of 43 = .ok (.aload_n 2, 1) := by decide +kernel
theorem dX6_of_44 : decode cX6_of 44 = .ok (.iconst 0, 1) := by decide +kernel
theorem dX6_of_45 : decode cX6_of 45 = .ok (.dup2, 1) := by decide +kernel
theorem dX6_of_46 : decode cX6_of 46 = .ok (.iaload, 1) := by decide +kernel
theorem dX6_of_47 : decode cX6_of 47 = .ok (.iload 5, 2) := by decide +kernel
theorem dX6_of_49 : decode cX6_of 49 = .ok (.iadd, 1) := by decide +kernel
theorem dX6_of_50 : decode cX6_of 50 = .ok (.iastore, 1) := by decide +kernel
theorem dX6_of_51 : decode cX6_of 51 = .ok (.aload_n 2, 1) := by decide +kernel
theorem dX6_of_52 : decode cX6_of 52 = .ok (.iconst 1, 1) := by decide +kernel
theorem dX6_of_53 : decode cX6_of 53 = .ok (.iload 5, 2) := by decide +kernel
theorem dX6_of_55 : decode cX6_of 55 = .ok (.aload_n 2, 1) := by decide +kernel
theorem dX6_of_56 : decode cX6_of 56 = .ok (.iconst 1, 1) := by decide +kernel
theorem dX6_of_57 : decode cX6_of 57 = .ok (.iaload, 1) := by decide +kernel
theorem dX6_of_58 : decode cX6_of 58 = .ok (.if_icmp .le 8, 3) := by decide +kernel
theorem dX6_of_61 : decode cX6_of 61 = .ok (.iload 5, 2) := by decide +kernel
theorem dX6_of_63 : decode cX6_of 63 = .ok (.goto 6, 3) := by decide +kernel
theorem dX6_of_66 : decode cX6_of 66 = .ok (.aload_n 2, 1) := by decide +kernel
theorem dX6_of_67 : decode cX6_of 67 = .ok (.iconst 1, 1) := by decide +kernel
theorem dX6_of_68 : decode cX6_of 68 = .ok (.iaload, 1) := by decide +kernel
theorem dX6_of_69 : decode cX6_of 69 = .ok (.iastore, 1) := by decide +kernel
theorem dX6_of_70 : decode cX6_of 70 = .ok (.iinc 4 1, 3) := by decide +kernel
theorem dX6_of_73 : decode cX6_of 73 = .ok (.goto (-57), 3) := by decide +kernel
theorem dX6_of_76 : decode cX6_of 76 = .ok (.iinc 3 1, 3) := by decide +kernel
theorem dX6_of_79 : decode cX6_of 79 = .ok (.goto (-73), 3) := by decide +kernel
theorem dX6_of_82 : decode cX6_of 82 = .ok (.aload_n 2, 1) := by decide +kernel
theorem dX6_of_83 : decode cX6_of 83 = .ok (.iconst 2, 1) := by decide +kernel
theorem dX6_of_84 : decode cX6_of 84 = .ok (.aload_n 1, 1) := by decide +kernel
theorem dX6_of_85 : decode cX6_of 85 = .ok (.iconst 4, 1) := by decide +kernel
theorem dX6_of_86 : decode cX6_of 86 = .ok (.iaload, 1) := by decide +kernel
theorem dX6_of_87 : decode cX6_of 87 = .ok (.aload_n 1, 1) := by decide +kernel
theorem dX6_of_88 : decode cX6_of 88 = .ok (.iconst 2, 1) := by decide +kernel
theorem dX6_of_89 : decode cX6_of 89 = .ok (.iaload, 1) := by decide +kernel
theorem dX6_of_90 : decode cX6_of 90 = .ok (.imul, 1) := by decide +kernel
theorem dX6_of_91 : decode cX6_of 91 = .ok (.aload_n 1, 1) := by decide +kernel
theorem dX6_of_92 : decode cX6_of 92 = .ok (.iconst 3, 1) := by decide +kernel
theorem dX6_of_93 : decode cX6_of 93 = .ok (.iaload, 1) := by decide +kernel
theorem dX6_of_94 : decode cX6_of 94 = .ok (.imul, 1) := by decide +kernel
theorem dX6_of_95 : decode cX6_of 95 = .ok (.aload_n 2, 1) := by decide +kernel
theorem dX6_of_96 : decode cX6_of 96 = .ok (.iconst 0, 1) := by decide +kernel
theorem dX6_of_97 : decode cX6_of 97 = .ok (.iaload, 1) := by decide +kernel
theorem dX6_of_98 : decode cX6_of 98 = .ok (.if_icmp .le 21, 3) := by decide +kernel
theorem dX6_of_101 : decode cX6_of 101 = .ok (.aload_n 1, 1) := by decide +kernel
theorem dX6_of_102 : decode cX6_of 102 = .ok (.iconst 4, 1) := by decide +kernel
theorem dX6_of_103 : decode cX6_of 103 = .ok (.iaload, 1) := by decide +kernel
theorem dX6_of_104 : decode cX6_of 104 = .ok (.aload_n 1, 1) := by decide +kernel
theorem dX6_of_105 : decode cX6_of 105 = .ok (.iconst 2, 1) := by decide +kernel
theorem dX6_of_106 : decode cX6_of 106 = .ok (.iaload, 1) := by decide +kernel
theorem dX6_of_107 : decode cX6_of 107 = .ok (.imul, 1) := by decide +kernel
theorem dX6_of_108 : decode cX6_of 108 = .ok (.aload_n 1, 1) := by decide +kernel
theorem dX6_of_109 : decode cX6_of 109 = .ok (.iconst 3, 1) := by decide +kernel
theorem dX6_of_110 : decode cX6_of 110 = .ok (.iaload, 1) := by decide +kernel
theorem dX6_of_111 : decode cX6_of 111 = .ok (.imul, 1) := by decide +kernel
theorem dX6_of_112 : decode cX6_of 112 = .ok (.aload_n 2, 1) := by decide +kernel
theorem dX6_of_113 : decode cX6_of 113 = .ok (.iconst 0, 1) := by decide +kernel
theorem dX6_of_114 : decode cX6_of 114 = .ok (.iaload, 1) := by decide +kernel
theorem dX6_of_115 : decode cX6_of 115 = .ok (.isub, 1) := by decide +kernel
theorem dX6_of_116 : decode cX6_of 116 = .ok (.goto 4, 3) := by decide +kernel
theorem dX6_of_119 : decode cX6_of 119 = .ok (.iconst 0, 1) := by decide +kernel
theorem dX6_of_120 : decode cX6_of 120 = .ok (.iastore, 1) := by decide +kernel
theorem dX6_of_121 : decode cX6_of 121 = .ok (.aload_n 2, 1) := by decide +kernel
theorem dX6_of_122 : decode cX6_of 122 = .ok (.areturn, 1) := by decide +kernel
set_option maxRecDepth 20000 in
theorem ggX6_bring_X6_of : GoodIn wsX6_bring wsX6_of := goodIn_r _ [6, 7, 8, 9, 10, 11, 12, 13, 14, 15, 16] (by decide +kernel) (by decide +kernel)
set_option maxRecDepth 20000 in
theorem gX6_bring_X6_of : GoodIn wsX6_bring (wsV RX6 47 RX6 yX6_of wsX6_of) := goodIn_app (goodIn_of _ (by decide +kernel)) ggX6_bring_X6_of
theorem dX6_bring_0 : decode cX6_bring 0 = .ok (.iconst 0, 1) := by decide +kernel
theorem dX6_bring_1 : decode cX6_bring 1 = .ok (.istore_n 1, 1) := by decide +kernel
theorem dX6_bring_2 : decode cX6_bring 2 = .ok (.aload_n 0, 1) := by decide +kernel
theorem dX6_bring_3 : decode cX6_bring 3 = .ok (.getfield 16, 3) := by decide +kernel
theorem dX6_bring_6 : decode cX6_bring 6 = .ok (.astore_n 2, 1) := by decide +kernel
theorem dX6_bring_7 : decode cX6_bring 7 = .ok (.aload_n 2, 1) := by decide +kernel
theorem dX6_bring_8 : decode cX6_bring 8 = .ok (.arraylength, 1) := by decide +kernel
theorem dX6_bring_9 : decode cX6_bring 9 = .ok (.istore_n 3, 1) := by decide +kernel
theorem dX6_bring_10 : decode cX6_bring 10 = .ok (.iconst 0, 1) := by decide +kernel
theorem dX6_bring_11 : decode cX6_bring 11 = .ok (.istore 4, 2) := by decide +kernel
theorem dX6_bring_13 : decode cX6_bring 13 = .ok (.iload 4, 2) := by decide +kernel
theorem dX6_bring_15 : decode cX6_bring 15 = .ok (.iload_n 3, 1) := by decide +kernel
theorem dX6_bring_16 : decode cX6_bring 16 = .ok (.if_icmp .ge 26, 3) := by decide +kernel
theorem dX6_bring_19 : decode cX6_bring 19 = .ok (.aload_n 2, 1) := by decide +kernel
theorem dX6_bring_20 : decode cX6_bring 20 = .ok (.iload 4, 2) := by decide +kernel
theorem dX6_bring_22 : decode cX6_bring 22 = .ok (.aaload, 1) := by decide +kernel
theorem dX6_bring_23 : decode cX6_bring 23 = .ok (.astore 5, 2) := by decide +kernel
theorem dX6_bring_25 : decode cX6_bring 25 = .ok (.iload_n 1, 1) := by decide +kernel
theorem dX6_bring_26 : decode cX6_bring 26 = .ok (.aload_n 0, 1) := by decide +kernel
theorem dX6_bring_27 : decode cX6_bring 27 = .ok (.aload 5, 2) := by decide +kernel
theorem dX6_bring_29 : decode cX6_bring 29 = .ok (.invokevirtual 47, 3) := by decide +kernel
theorem dX6_bring_32 : decode cX6_bring 32 = .ok (.iconst 2, 1) := by decide +kernel
theorem dX6_bring_33 : decode cX6_bring 33 = .ok (.iaload, 1) := by decide +kernel
theorem dX6_bring_34 : decode cX6_bring 34 = .ok (.iadd, 1) := by decide +kernel
theorem dX6_bring_35 : decode cX6_bring 35 = .ok (.istore_n 1, 1) := by decide +kernel
theorem dX6_bring_36 : decode cX6_bring 36 = .ok (.iinc 4 1, 3) := by decide +kernel
theorem dX6_bring_39 : decode cX6_bring 39 = .ok (.goto (-26), 3) := by decide +kernel
theorem dX6_bring_42 : decode cX6_bring 42 = .ok (.iload_n 1, 1) := by decide +kernel
theorem dX6_bring_43 : decode cX6_bring 43 = .ok (.ireturn, 1) := by decide +kernel
set_option maxRecDepth 20000 in
theorem ggX6_pass_X6_isFeast : GoodIn wsX6_pass wsX6_isFeast := goodIn_r _ [11, 12, 27, 28, 29, 30, 31, 32, 33, 34] (by decide +kernel) (by decide +kernel)
set_option maxRecDepth 20000 in
theorem gX6_pass_X6_isFeast : GoodIn wsX6_pass (wsV RX6 51 RX6 yX6_isFeast wsX6_isFeast) := goodIn_app (goodIn_of _ (by decide +kernel)) ggX6_pass_X6_isFeast
set_option maxRecDepth 20000 in
theorem ggX6_pass_X6_bring : GoodIn wsX6_pass wsX6_bring := goodIn_r _ [16, 17, 18, 19, 20, 10, 21, 22, 2, 27, 28, 29, 30, 31, 32, 33, 34] (by decide +kernel) (by decide +kernel)
set_option maxRecDepth 20000 in
theorem gX6_pass_X6_bring : GoodIn wsX6_pass (wsV RX6 55 RX6 yX6_bring wsX6_bring) := goodIn_app (goodIn_of _ (by decide +kernel)) ggX6_pass_X6_bring
set_option maxRecDepth 20000 in
theorem ggX6_pass_X6_ropeAt : GoodIn wsX6_pass wsX6_ropeAt := goodIn_r _ [26, 6, 27, 28, 29, 30, 31, 32, 33, 34] (by decide +kernel) (by decide +kernel)
set_option maxRecDepth 20000 in
theorem gX6_pass_X6_ropeAt : GoodIn wsX6_pass (wsV RX6 59 RX6 yX6_ropeAt wsX6_ropeAt) := goodIn_app (goodIn_of _ (by decide +kernel)) ggX6_pass_X6_ropeAt
theorem dX6_pass_0 : decode cX6_pass 0 = .ok (.iconst 0, 1) := by decide +kernel
end
section
theorem dX6_pass_1 : decode cX6_pass 1 = .ok (.istore_n 1, 1) := by decide +kernel
theorem dX6_pass_2 : decode cX6_pass 2 = .ok (.iload_n 1, 1) := by decide +kernel
theorem dX6_pass_3 : decode cX6_pass 3 = .ok (.bipush 12, 2) := by decide +kernel
theorem dX6_pass_5 : decode cX6_pass 5 = .ok (.if_icmp .ge 113, 3) := by decide +kernel
theorem dX6_pass_8 : decode cX6_pass 8 = .ok (.aload_n 0, 1) := by decide +kernel
theorem dX6_pass_9 : decode cX6_pass 9 = .ok (.getfield 30, 3) := by decide +kernel
theorem dX6_pass_12 : decode cX6_pass 12 = .ok (.ifCond .ge 10, 3) := by decide +kernel
theorem dX6_pass_15 : decode cX6_pass 15 = .ok (.bipush 11, 2) := by decide +kernel
theorem dX6_pass_17 : decode cX6_pass 17 = .ok (.iload_n 1, 1) := by decide +kernel
theorem dX6_pass_18 : decode cX6_pass 18 = .ok (.isub, 1) := by decide +kernel
theorem dX6_pass_19 : decode cX6_pass 19 = .ok (.goto 4, 3) := by decide +kernel
theorem dX6_pass_22 : decode cX6_pass 22 = .ok (.iload_n 1, 1) := by decide +kernel
theorem dX6_pass_23 : decode cX6_pass 23 = .ok (.istore_n 2, 1) := by decide +kernel
theorem dX6_pass_24 : decode cX6_pass 24 = .ok (.aload_n 0, 1) := by decide +kernel
theorem dX6_pass_25 : decode cX6_pass 25 = .ok (.getfield 30, 3) := by decide +kernel
theorem dX6_pass_28 : decode cX6_pass 28 = .ok (.ifCond .ge 11, 3) := by decide +kernel
theorem dX6_pass_31 : decode cX6_pass 31 = .ok (.aload_n 0, 1) := by decide +kernel
theorem dX6_pass_32 : decode cX6_pass 32 = .ok (.getfield 30, 3) := by decide +kernel
theorem dX6_pass_35 : decode cX6_pass 35 = .ok (.ineg, 1) := by decide +kernel
theorem dX6_pass_36 : decode cX6_pass 36 = .ok (.goto 7, 3) := by decide +kernel
theorem dX6_pass_39 : decode cX6_pass 39 = .ok (.aload_n 0, 1) := by decide +kernel
theorem dX6_pass_40 : decode cX6_pass 40 = .ok (.getfield 30, 3) := by decide +kernel
theorem dX6_pass_43 : decode cX6_pass 43 = .ok (.iload_n 2, 1) := by decide +kernel
theorem dX6_pass_44 : decode cX6_pass 44 = .ok (.iconst 2, 1) := by decide +kernel
theorem dX6_pass_45 : decode cX6_pass 45 = .ok (.idiv, 1) := by decide +kernel
theorem dX6_pass_46 : decode cX6_pass 46 = .ok (.isub, 1) := by decide +kernel
theorem dX6_pass_47 : decode cX6_pass 47 = .ok (.istore_n 3, 1) := by decide +kernel
theorem dX6_pass_48 : decode cX6_pass 48 = .ok (.iconst 0, 1) := by decide +kernel
theorem dX6_pass_49 : decode cX6_pass 49 = .ok (.istore 4, 2) := by decide +kernel
theorem dX6_pass_51 : decode cX6_pass 51 = .ok (.iload 4, 2) := by decide +kernel
theorem dX6_pass_53 : decode cX6_pass 53 = .ok (.bipush 8, 2) := by decide +kernel
theorem dX6_pass_55 : decode cX6_pass 55 = .ok (.if_icmp .ge 57, 3) := by decide +kernel
theorem dX6_pass_58 : decode cX6_pass 58 = .ok (.aload_n 0, 1) := by decide +kernel
theorem dX6_pass_59 : decode cX6_pass 59 = .ok (.getfield 9, 3) := by decide +kernel
theorem dX6_pass_62 : decode cX6_pass 62 = .ok (.iload_n 1, 1) := by decide +kernel
theorem dX6_pass_63 : decode cX6_pass 63 = .ok (.aaload, 1) := by decide +kernel
theorem dX6_pass_64 : decode cX6_pass 64 = .ok (.iload 4, 2) := by decide +kernel
theorem dX6_pass_66 : decode cX6_pass 66 = .ok (.dup2, 1) := by decide +kernel
theorem dX6_pass_67 : decode cX6_pass 67 = .ok (.iaload, 1) := by decide +kernel
theorem dX6_pass_68 : decode cX6_pass 68 = .ok (.iconst 1, 1) := by decide +kernel
theorem dX6_pass_69 : decode cX6_pass 69 = .ok (.iload_n 3, 1) := by decide +kernel
theorem dX6_pass_70 : decode cX6_pass 70 = .ok (.ifCond .le 7, 3) := by decide +kernel
theorem dX6_pass_73 : decode cX6_pass 73 = .ok (.iload_n 3, 1) := by decide +kernel
theorem dX6_pass_74 : decode cX6_pass 74 = .ok (.goto 4, 3) := by decide +kernel
theorem dX6_pass_77 : decode cX6_pass 77 = .ok (.iconst 0, 1) := by decide +kernel
theorem dX6_pass_78 : decode cX6_pass 78 = .ok (.iadd, 1) := by decide +kernel
theorem dX6_pass_79 : decode cX6_pass 79 = .ok (.iadd, 1) := by decide +kernel
theorem dX6_pass_80 : decode cX6_pass 80 = .ok (.iastore, 1) := by decide +kernel
theorem dX6_pass_81 : decode cX6_pass 81 = .ok (.aload_n 0, 1) := by decide +kernel
theorem dX6_pass_82 : decode cX6_pass 82 = .ok (.getfield 9, 3) := by decide +kernel
theorem dX6_pass_85 : decode cX6_pass 85 = .ok (.iload_n 1, 1) := by decide +kernel
theorem dX6_pass_86 : decode cX6_pass 86 = .ok (.aaload, 1) := by decide +kernel
theorem dX6_pass_87 : decode cX6_pass 87 = .ok (.iload 4, 2) := by decide +kernel
theorem dX6_pass_89 : decode cX6_pass 89 = .ok (.iaload, 1) := by decide +kernel
theorem dX6_pass_90 : decode cX6_pass 90 = .ok (.bipush 20, 2) := by decide +kernel
theorem dX6_pass_92 : decode cX6_pass 92 = .ok (.if_icmp .le 14, 3) := by decide +kernel
theorem dX6_pass_95 : decode cX6_pass 95 = .ok (.aload_n 0, 1) := by decide +kernel
theorem dX6_pass_96 : decode cX6_pass 96 = .ok (.getfield 9, 3) := by decide +kernel
theorem dX6_pass_99 : decode cX6_pass 99 = .ok (.iload_n 1, 1) := by decide +kernel
theorem dX6_pass_100 : decode cX6_pass 100 = .ok (.aaload, 1) := by decide +kernel
theorem dX6_pass_101 : decode cX6_pass 101 = .ok (.iload 4, 2) := by decide +kernel
theorem dX6_pass_103 : decode cX6_pass 103 = .ok (.bipush 20, 2) := by decide +kernel
theorem dX6_pass_105 : decode cX6_pass 105 = .ok (.iastore, 1) := by decide +kernel
theorem dX6_pass_106 : decode cX6_pass 106 = .ok (.iinc 4 1, 3) := by decide +kernel
theorem dX6_pass_109 : decode cX6_pass 109 = .ok (.goto (-58), 3) := by decide +kernel
theorem dX6_pass_112 : decode cX6_pass 112 = .ok (.iinc 1 1, 3) := by decide +kernel
theorem dX6_pass_115 : decode cX6_pass 115 = .ok (.goto (-113), 3) := by decide +kernel
theorem dX6_pass_118 : decode cX6_pass 118 = .ok (.aload_n 0, 1) := by decide +kernel
theorem dX6_pass_119 : decode cX6_pass 119 = .ok (.aload_n 0, 1) := by decide +kernel
theorem dX6_pass_120 : decode cX6_pass 120 = .ok (.getfield 26, 3) := by decide +kernel
theorem dX6_pass_123 : decode cX6_pass 123 = .ok (.invokevirtual 51, 3) := by decide +kernel
theorem dX6_pass_126 : decode cX6_pass 126 = .ok (.ifCond .eq 29, 3) := by decide +kernel
theorem dX6_pass_129 : decode cX6_pass 129 = .ok (.aload_n 0, 1) := by decide +kernel
theorem dX6_pass_130 : decode cX6_pass 130 = .ok (.dup, 1) := by decide +kernel
theorem dX6_pass_131 : decode cX6_pass 131 = .ok (.getfield 33, 3) := by decide +kernel
theorem dX6_pass_134 : decode cX6_pass 134 = .ok (.aload_n 0, 1) := by decide +kernel
theorem dX6_pass_135 : decode cX6_pass 135 = .ok (.invokevirtual 55, 3) := by decide +kernel
theorem dX6_pass_138 : decode cX6_pass 138 = .ok (.iadd, 1) := by decide +kernel
theorem dX6_pass_139 : decode cX6_pass 139 = .ok (.putfield 33, 3) := by decide +kernel
theorem dX6_pass_142 : decode cX6_pass 142 = .ok (.aload_n 0, 1) := by decide +kernel
theorem dX6_pass_143 : decode cX6_pass 143 = .ok (.dup, 1) := by decide +kernel
theorem dX6_pass_144 : decode cX6_pass 144 = .ok (.getfield 36, 3) := by decide +kernel
theorem dX6_pass_147 : decode cX6_pass 147 = .ok (.iconst 1, 1) := by decide +kernel
theorem dX6_pass_148 : decode cX6_pass 148 = .ok (.iadd, 1) := by decide +kernel
theorem dX6_pass_149 : decode cX6_pass 149 = .ok (.putfield 36, 3) := by decide +kernel
theorem dX6_pass_152 : decode cX6_pass 152 = .ok (.goto 236, 3) := by decide +kernel
theorem dX6_pass_155 : decode cX6_pass 155 = .ok (.aload_n 0, 1) := by decide +kernel
theorem dX6_pass_156 : decode cX6_pass 156 = .ok (.getfield 19, 3) := by decide +kernel
theorem dX6_pass_159 : decode cX6_pass 159 = .ok (.astore_n 1, 1) := by decide +kernel
theorem dX6_pass_160 : decode cX6_pass 160 = .ok (.aload_n 1, 1) := by decide +kernel
theorem dX6_pass_161 : decode cX6_pass 161 = .ok (.arraylength, 1) := by decide +kernel
theorem dX6_pass_162 : decode cX6_pass 162 = .ok (.istore_n 2, 1) := by decide +kernel
theorem dX6_pass_163 : decode cX6_pass 163 = .ok (.iconst 0, 1) := by decide +kernel
theorem dX6_pass_164 : decode cX6_pass 164 = .ok (.istore_n 3, 1) := by decide +kernel
theorem dX6_pass_165 : decode cX6_pass 165 = .ok (.iload_n 3, 1) := by decide +kernel
theorem dX6_pass_166 : decode cX6_pass 166 = .ok (.iload_n 2, 1) := by decide +kernel
theorem dX6_pass_167 : decode cX6_pass 167 = .ok (.if_icmp .ge 221, 3) := by decide +kernel
theorem dX6_pass_170 : decode cX6_pass 170 = .ok (.aload_n 1, 1) := by decide +kernel
theorem dX6_pass_171 : decode cX6_pass 171 = .ok (.iload_n 3, 1) := by decide +kernel
theorem dX6_pass_172 : decode cX6_pass 172 = .ok (.aaload, 1) := by decide +kernel
theorem dX6_pass_173 : decode cX6_pass 173 = .ok (.astore 4, 2) := by decide +kernel
theorem dX6_pass_175 : decode cX6_pass 175 = .ok (.aload 4, 2) := by decide +kernel
theorem dX6_pass_177 : decode cX6_pass 177 = .ok (.iconst 2, 1) := by decide +kernel
theorem dX6_pass_178 : decode cX6_pass 178 = .ok (.iaload, 1) := by decide +kernel
theorem dX6_pass_179 : decode cX6_pass 179 = .ok (.istore 5, 2) := by decide +kernel
theorem dX6_pass_181 : decode cX6_pass 181 = .ok (.iconst 0, 1) := by decide +kernel
theorem dX6_pass_182 : decode cX6_pass 182 = .ok (.istore 6, 2) := by decide +kernel
theorem dX6_pass_184 : decode cX6_pass 184 = .ok (.iload 6, 2) := by decide +kernel
theorem dX6_pass_186 : decode cX6_pass 186 = .ok (.ifCond .ne 196, 3) := by decide +kernel
theorem dX6_pass_189 : decode cX6_pass 189 = .ok (.iload 5, 2) := by decide +kernel
theorem dX6_pass_191 : decode cX6_pass 191 = .ok (.ifCond .le 52, 3) := by decide +kernel
theorem dX6_pass_194 : decode cX6_pass 194 = .ok (.aload_n 0, 1) := by decide +kernel
theorem dX6_pass_195 : decode cX6_pass 195 = .ok (.getfield 9, 3) := by decide +kernel
theorem dX6_pass_198 : decode cX6_pass 198 = .ok (.aload 4, 2) := by decide +kernel
theorem dX6_pass_200 : decode cX6_pass 200 = .ok (.iconst 0, 1) := by decide +kernel
theorem dX6_pass_201 : decode cX6_pass 201 = .ok (.iaload, 1) := by decide +kernel
theorem dX6_pass_202 : decode cX6_pass 202 = .ok (.aaload, 1) := by decide +kernel
theorem dX6_pass_203 : decode cX6_pass 203 = .ok (.aload 4, 2) := by decide +kernel
theorem dX6_pass_205 : decode cX6_pass 205 = .ok (.iconst 1, 1) := by decide +kernel
theorem dX6_pass_206 : decode cX6_pass 206 = .ok (.iaload, 1) := by decide +kernel
theorem dX6_pass_207 : decode cX6_pass 207 = .ok (.iaload, 1) := by decide +kernel
theorem dX6_pass_208 : decode cX6_pass 208 = .ok (.ifCond .le 35, 3) := by decide +kernel
theorem dX6_pass_211 : decode cX6_pass 211 = .ok (.aload_n 0, 1) := by decide +kernel
theorem dX6_pass_212 : decode cX6_pass 212 = .ok (.getfield 9, 3) := by decide +kernel
theorem dX6_pass_215 : decode cX6_pass 215 = .ok (.aload 4, 2) := by decide +kernel
theorem dX6_pass_217 : decode cX6_pass 217 = .ok (.iconst 0, 1) := by decide +kernel
theorem dX6_pass_218 : decode cX6_pass 218 = .ok (.iaload, 1) := by decide +kernel
theorem dX6_pass_219 : decode cX6_pass 219 = .ok (.aaload, 1) := by decide +kernel
theorem dX6_pass_220 : decode cX6_pass 220 = .ok (.aload 4, 2) := by decide +kernel
theorem dX6_pass_222 : decode cX6_pass 222 = .ok (.iconst 1, 1) := by decide +kernel
theorem dX6_pass_223 : decode cX6_pass 223 = .ok (.iaload, 1) := by decide +kernel
theorem dX6_pass_224 : decode cX6_pass 224 = .ok (.dup2, 1) := by decide +kernel
theorem dX6_pass_225 : decode cX6_pass 225 = .ok (.iaload, 1) := by decide +kernel
theorem dX6_pass_226 : decode cX6_pass 226 = .ok (.iconst 1, 1) := by decide +kernel
theorem dX6_pass_227 : decode cX6_pass 227 = .ok (.isub, 1) := by decide +kernel
theorem dX6_pass_228 : decode cX6_pass 228 = .ok (.iastore, 1) := by decide +kernel
theorem dX6_pass_229 : decode cX6_pass 229 = .ok (.aload 4, 2) := by decide +kernel
theorem dX6_pass_231 : decode cX6_pass 231 = .ok (.iconst 4, 1) := by decide +kernel
theorem dX6_pass_232 : decode cX6_pass 232 = .ok (.dup2, 1) := by decide +kernel
theorem dX6_pass_233 : decode cX6_pass 233 = .ok (.iaload, 1) := by decide +kernel
theorem dX6_pass_234 : decode cX6_pass 234 = .ok (.iconst 1, 1) := by decide +kernel
theorem dX6_pass_235 : decode cX6_pass 235 = .ok (.iadd, 1) := by decide +kernel
theorem dX6_pass_236 : decode cX6_pass 236 = .ok (.iastore, 1) := by decide +kernel
theorem dX6_pass_237 : decode cX6_pass 237 = .ok (.iinc 5 (-1), 3) := by decide +kernel
theorem dX6_pass_240 : decode cX6_pass 240 = .ok (.goto (-51), 3) := by decide +kernel
theorem dX6_pass_243 : decode cX6_pass 243 = .ok (.aload 4, 2) := by decide +kernel
theorem dX6_pass_245 : decode cX6_pass 245 = .ok (.iconst 1, 1) := by decide +kernel
theorem dX6_pass_246 : decode cX6_pass 246 = .ok (.iaload, 1) := by decide +kernel
theorem dX6_pass_247 : decode cX6_pass 247 = .ok (.bipush 7, 2) := by decide +kernel
theorem dX6_pass_249 : decode cX6_pass 249 = .ok (.if_icmp .ge 7, 3) := by decide +kernel
theorem dX6_pass_252 : decode cX6_pass 252 = .ok (.iconst 1, 1) := by decide +kernel
theorem dX6_pass_253 : decode cX6_pass 253 = .ok (.goto 4, 3) := by decide +kernel
theorem dX6_pass_256 : decode cX6_pass 256 = .ok (.iconst 3, 1) := by decide +kernel
theorem dX6_pass_257 : decode cX6_pass 257 = .ok (.istore 7, 2) := by decide +kernel
theorem dX6_pass_259 : decode cX6_pass 259 = .ok (.iload 5, 2) := by decide +kernel
theorem dX6_pass_261 : decode cX6_pass 261 = .ok (.iload 7, 2) := by decide +kernel
theorem dX6_pass_263 : decode cX6_pass 263 = .ok (.if_icmp .ge 9, 3) := by decide +kernel
theorem dX6_pass_266 : decode cX6_pass 266 = .ok (.iconst 1, 1) := by decide +kernel
theorem dX6_pass_267 : decode cX6_pass 267 = .ok (.istore 6, 2) := by decide +kernel
theorem dX6_pass_269 : decode cX6_pass 269 = .ok (.goto 93, 3) := by decide +kernel
theorem dX6_pass_272 : decode cX6_pass 272 = .ok (.aload 4, 2) := by decide +kernel
theorem dX6_pass_274 : decode cX6_pass 274 = .ok (.iconst 1, 1) := by decide +kernel
theorem dX6_pass_275 : decode cX6_pass 275 = .ok (.iaload, 1) := by decide +kernel
theorem dX6_pass_276 : decode cX6_pass 276 = .ok (.bipush 7, 2) := by decide +kernel
theorem dX6_pass_278 : decode cX6_pass 278 = .ok (.if_icmp .ge 17, 3) := by decide +kernel
theorem dX6_pass_281 : decode cX6_pass 281 = .ok (.aload 4, 2) := by decide +kernel
theorem dX6_pass_283 : decode cX6_pass 283 = .ok (.iconst 1, 1) := by decide +kernel
theorem dX6_pass_284 : decode cX6_pass 284 = .ok (.dup2, 1) := by decide +kernel
theorem dX6_pass_285 : decode cX6_pass 285 = .ok (.iaload, 1) := by decide +kernel
theorem dX6_pass_286 : decode cX6_pass 286 = .ok (.iconst 1, 1) := by decide +kernel
theorem dX6_pass_287 : decode cX6_pass 287 = .ok (.iadd, 1) := by decide +kernel
theorem dX6_pass_288 : decode cX6_pass 288 = .ok (.iastore, 1) := by decide +kernel
theorem dX6_pass_289 : decode cX6_pass 289 = .ok (.iinc 5 (-1), 3) := by decide +kernel
theorem dX6_pass_292 : decode cX6_pass 292 = .ok (.goto 70, 3) := by decide +kernel
theorem dX6_pass_295 : decode cX6_pass 295 = .ok (.aload 4, 2) := by decide +kernel
theorem dX6_pass_297 : decode cX6_pass 297 = .ok (.iconst 0, 1) := by decide +kernel
theorem dX6_pass_298 : decode cX6_pass 298 = .ok (.iaload, 1) := by decide +kernel
theorem dX6_pass_299 : decode cX6_pass 299 = .ok (.istore 8, 2) := by decide +kernel
theorem dX6_pass_301 : decode cX6_pass 301 = .ok (.aload_n 0, 1) := by decide +kernel
theorem dX6_pass_302 : decode cX6_pass 302 = .ok (.iload 8, 2) := by decide +kernel
theorem dX6_pass_304 : decode cX6_pass 304 = .ok (.invokevirtual 59, 3) := by decide +kernel
theorem dX6_pass_307 : decode cX6_pass 307 = .ok (.ifCond .lt 33, 3) := by decide +kernel
theorem dX6_pass_310 : decode cX6_pass 310 = .ok (.aload 4, 2) := by decide +kernel
theorem dX6_pass_312 : decode cX6_pass 312 = .ok (.iconst 3, 1) := by decide +kernel
theorem dX6_pass_313 : decode cX6_pass 313 = .ok (.iaload, 1) := by decide +kernel
theorem dX6_pass_314 : decode cX6_pass 314 = .ok (.ifCond .ne 13, 3) := by decide +kernel
theorem dX6_pass_317 : decode cX6_pass 317 = .ok (.iload 8, 2) := by decide +kernel
theorem dX6_pass_319 : decode cX6_pass 319 = .ok (.iconst 1, 1) := by decide +kernel
theorem dX6_pass_320 : decode cX6_pass 320 = .ok (.iadd, 1) := by decide +kernel
theorem dX6_pass_321 : decode cX6_pass 321 = .ok (.bipush 12, 2) := by decide +kernel
theorem dX6_pass_323 : decode cX6_pass 323 = .ok (.irem, 1) := by decide +kernel
theorem dX6_pass_324 : decode cX6_pass 324 = .ok (.goto 11, 3) := by decide +kernel
theorem dX6_pass_327 : decode cX6_pass 327 = .ok (.iload 8, 2) := by decide +kernel
theorem dX6_pass_329 : decode cX6_pass 329 = .ok (.bipush 11, 2) := by decide +kernel
theorem dX6_pass_331 : decode cX6_pass 331 = .ok (.iadd, 1) := by decide +kernel
theorem dX6_pass_332 : decode cX6_pass 332 = .ok (.bipush 12, 2) := by decide +kernel
theorem dX6_pass_334 : decode cX6_pass 334 = .ok (.irem, 1) := by decide +kernel
theorem dX6_pass_335 : decode cX6_pass 335 = .ok (.istore 8, 2) := by decide +kernel
theorem dX6_pass_337 : decode cX6_pass 337 = .ok (.goto (-36), 3) := by decide +kernel
theorem dX6_pass_340 : decode cX6_pass 340 = .ok (.aload 4, 2) := by decide +kernel
theorem dX6_pass_342 : decode cX6_pass 342 = .ok (.iconst 0, 1) := by decide +kernel
theorem dX6_pass_343 : decode cX6_pass 343 = .ok (.iload 8, 2) := by decide +kernel
theorem dX6_pass_345 : decode cX6_pass 345 = .ok (.iastore, 1) := by decide +kernel
theorem dX6_pass_346 : decode cX6_pass 346 = .ok (.aload 4, 2) := by decide +kernel
theorem dX6_pass_348 : decode cX6_pass 348 = .ok (.iconst 1, 1) := by decide +kernel
theorem dX6_pass_349 : decode cX6_pass 349 = .ok (.iconst 0, 1) := by decide +kernel
theorem dX6_pass_350 : decode cX6_pass 350 = .ok (.iastore, 1) := by decide +kernel
theorem dX6_pass_351 : decode cX6_pass 351 = .ok (.aload 4, 2) := by decide +kernel
theorem dX6_pass_353 : decode cX6_pass 353 = .ok (.iconst 5, 1) := by decide +kernel
theorem dX6_pass_354 : decode cX6_pass 354 = .ok (.dup2, 1) := by decide +kernel
theorem dX6_pass_355 : decode cX6_pass 355 = .ok (.iaload, 1) := by decide +kernel
theorem dX6_pass_356 : decode cX6_pass 356 = .ok (.iconst 1, 1) := by decide +kernel
theorem dX6_pass_357 : decode cX6_pass 357 = .ok (.iadd, 1) := by decide +kernel
theorem dX6_pass_358 : decode cX6_pass 358 = .ok (.iastore, 1) := by decide +kernel
theorem dX6_pass_359 : decode cX6_pass 359 = .ok (.iinc 5 (-3), 3) := by decide +kernel
theorem dX6_pass_362 : decode cX6_pass 362 = .ok (.iload 6, 2) := by decide +kernel
theorem dX6_pass_364 : decode cX6_pass 364 = .ok (.ifCond .ne 8, 3) := by decide +kernel
theorem dX6_pass_367 : decode cX6_pass 367 = .ok (.iload 5, 2) := by decide +kernel
theorem dX6_pass_369 : decode cX6_pass 369 = .ok (.ifCond .ne 7, 3) := by decide +kernel
theorem dX6_pass_372 : decode cX6_pass 372 = .ok (.iconst 1, 1) := by decide +kernel
theorem dX6_pass_373 : decode cX6_pass 373 = .ok (.goto 4, 3) := by decide +kernel
theorem dX6_pass_376 : decode cX6_pass 376 = .ok (.iconst 0, 1) := by decide +kernel
theorem dX6_pass_377 : decode cX6_pass 377 = .ok (.istore 6, 2) := by decide +kernel
theorem dX6_pass_379 : decode cX6_pass 379 = .ok (.goto (-195), 3) := by decide +kernel
theorem dX6_pass_382 : decode cX6_pass 382 = .ok (.iinc 3 1, 3) := by decide +kernel
theorem dX6_pass_385 : decode cX6_pass 385 = .ok (.goto (-220), 3) := by decide +kernel
theorem dX6_pass_388 : decode cX6_pass 388 = .ok (.aload_n 0, 1) := by decide +kernel
theorem dX6_pass_389 : decode cX6_pass 389 = .ok (.dup, 1) := by decide +kernel
theorem dX6_pass_390 : decode cX6_pass 390 = .ok (.getfield 26, 3) := by decide +kernel
theorem dX6_pass_393 : decode cX6_pass 393 = .ok (.iconst 1, 1) := by decide +kernel
theorem dX6_pass_394 : decode cX6_pass 394 = .ok (.iadd, 1) := by decide +kernel
theorem dX6_pass_395 : decode cX6_pass 395 = .ok (.putfield 26, 3) := by decide +kernel
theorem dX6_pass_398 : decode cX6_pass 398 = .ok (.return_, 1) := by decide +kernel
set_option maxRecDepth 20000 in
theorem ggX6_behind_X6_pass : GoodIn wsX6_behind wsX6_pass := goodIn_r _ [5, 6, 7, 8, 9, 10, 11, 12, 13, 14, 4, 15, 16, 17, 18, 19, 20, 21, 22, 23, 24, 25, 26, 27, 28, 29, 30, 31, 32, 33, 34, 35, 36, 37, 38] (by decide +kernel) (by decide +kernel)
set_option maxRecDepth 20000 in
theorem gX6_behind_X6_pass : GoodIn wsX6_behind (wsV RX6 63 RX6 yX6_pass wsX6_pass) := goodIn_app (goodIn_of _ (by decide +kernel)) ggX6_behind_X6_pass
theorem dX6_behind_0 : decode cX6_behind 0 = .ok (.iconst 0, 1) := by decide +kernel
theorem dX6_behind_1 : decode cX6_behind 1 = .ok (.istore_n 2, 1) := by decide +kernel
theorem dX6_behind_2 : decode cX6_behind 2 = .ok (.iload_n 2, 1) := by decide +kernel
theorem dX6_behind_3 : decode cX6_behind 3 = .ok (.iload_n 1, 1) := by decide +kernel
theorem dX6_behind_4 : decode cX6_behind 4 = .ok (.if_icmp .ge 13, 3) := by decide +kernel
theorem dX6_behind_7 : decode cX6_behind 7 = .ok (.aload_n 0, 1) := by decide +kernel
theorem dX6_behind_8 : decode cX6_behind 8 = .ok (.invokevirtual 63, 3) := by decide +kernel
theorem dX6_behind_11 : decode cX6_behind 11 = .ok (.iinc 2 1, 3) := by decide +kernel
theorem dX6_behind_14 : decode cX6_behind 14 = .ok (.goto (-12), 3) := by decide +kernel
theorem dX6_behind_17 : decode cX6_behind 17 = .ok (.aload_n 0, 1) := by decide +kernel
theorem dX6_behind_18 : decode cX6_behind 18 = .ok (.areturn, 1) := by decide +kernel
set_option maxRecDepth 20000 in
theorem ggX6_next_X6_isFeast : GoodIn wsX6_next wsX6_isFeast := goodIn_r _ [6, 7, 8, 9, 10, 11, 12, 13, 14, 15] (by decide +kernel) (by decide +kernel)
set_option maxRecDepth 20000 in
theorem gX6_next_X6_isFeast : GoodIn wsX6_next (wsV RX6 51 RX6 yX6_isFeast wsX6_isFeast) := goodIn_app (goodIn_of _ (by decide +kernel)) ggX6_next_X6_isFeast
theorem dX6_next_0 : decode cX6_next 0 = .ok (.iconst 0, 1) := by decide +kernel
theorem dX6_next_1 : decode cX6_next 1 = .ok (.istore_n 1, 1) := by decide +kernel
theorem dX6_next_2 : decode cX6_next 2 = .ok (.iload_n 1, 1) := by decide +kernel
theorem dX6_next_3 : decode cX6_next 3 = .ok (.bipush 61, 2) := by decide +kernel
theorem dX6_next_5 : decode cX6_next 5 = .ok (.if_icmp .ge 22, 3) := by decide +kernel
theorem dX6_next_8 : decode cX6_next 8 = .ok (.aload_n 0, 1) := by decide +kernel
theorem dX6_next_9 : decode cX6_next 9 = .ok (.aload_n 0, 1) := by decide +kernel
theorem dX6_next_10 : decode cX6_next 10 = .ok (.getfield 26, 3) := by decide +kernel
theorem dX6_next_13 : decode cX6_next 13 = .ok (.iload_n 1, 1) := by decide +kernel
theorem dX6_next_14 : decode cX6_next 14 = .ok (.iadd, 1) := by decide +kernel
theorem dX6_next_15 : decode cX6_next 15 = .ok (.invokevirtual 51, 3) := by decide +kernel
theorem dX6_next_18 : decode cX6_next 18 = .ok (.ifCond .ne 9, 3) := by decide +kernel
theorem dX6_next_21 : decode cX6_next 21 = .ok (.iinc 1 1, 3) := by decide +kernel
theorem dX6_next_24 : decode cX6_next 24 = .ok (.goto (-22), 3) := by decide +kernel
theorem dX6_next_27 : decode cX6_next 27 = .ok (.iload_n 1, 1) := by decide +kernel
theorem dX6_next_28 : decode cX6_next 28 = .ok (.bipush 61, 2) := by decide +kernel
theorem dX6_next_30 : decode cX6_next 30 = .ok (.if_icmp .ne 7, 3) := by decide +kernel
theorem dX6_next_33 : decode cX6_next 33 = .ok (.iconst (-1), 1) := by decide +kernel
theorem dX6_next_34 : decode cX6_next 34 = .ok (.goto 4, 3) := by decide +kernel
theorem dX6_next_37 : decode cX6_next 37 = .ok (.iload_n 1, 1) := by decide +kernel
theorem dX6_next_38 : decode cX6_next 38 = .ok (.ireturn, 1) := by decide +kernel
theorem dX6_sums_0 : decode cX6_sums 0 = .ok (.iconst 3, 1) := by decide +kernel
theorem dX6_sums_1 : decode cX6_sums 1 = .ok (.newarray .int, 2) := by decide +kernel
theorem dX6_sums_3 : decode cX6_sums 3 = .ok (.astore_n 1, 1) := by decide +kernel
theorem dX6_sums_4 : decode cX6_sums 4 = .ok (.aload_n 0, 1) := by decide +kernel
theorem dX6_sums_5 : decode cX6_sums 5 = .ok (.getfield 9, 3) := by decide +kernel
theorem dX6_sums_8 : decode cX6_sums 8 = .ok (.astore_n 2, 1) := by decide +kernel
theorem dX6_sums_9 : decode cX6_sums 9 = .ok (.aload_n 2, 1) := by decide +kernel
theorem dX6_sums_10 : decode cX6_sums 10 = .ok (.arraylength, 1) := by decide +kernel
theorem dX6_sums_11 : decode cX6_sums 11 = .ok (.istore_n 3, 1) := by decide +kernel
theorem dX6_sums_12 : decode cX6_sums 12 = .ok (.iconst 0, 1) := by decide +kernel
theorem dX6_sums_13 : decode cX6_sums 13 = .ok (.istore 4, 2) := by decide +kernel
theorem dX6_sums_15 : decode cX6_sums 15 = .ok (.iload 4, 2) := by decide +kernel
theorem dX6_sums_17 : decode cX6_sums 17 = .ok (.iload_n 3, 1) := by decide +kernel
theorem dX6_sums_18 : decode cX6_sums 18 = .ok (.if_icmp .ge 71, 3) := by decide +kernel
theorem dX6_sums_21 : decode cX6_sums 21 = .ok (.aload_n 2, 1) := by decide +kernel
theorem dX6_sums_22 : decode cX6_sums 22 = .ok (.iload 4, 2) := by decide +kernel
theorem dX6_sums_24 : decode cX6_sums 24 = .ok (.aaload, 1) := by decide +kernel
theorem dX6_sums_25 : decode cX6_sums 25 = .ok (.astore 5, 2) := by decide +kernel
theorem dX6_sums_27 : decode cX6_sums 27 = .ok (.aload 5, 2) := by decide +kernel
theorem dX6_sums_29 : decode cX6_sums 29 = .ok (.astore 6, 2) := by decide +kernel
theorem dX6_sums_31 : decode cX6_sums 31 = .ok (.aload 6, 2) := by decide +kernel
theorem dX6_sums_33 : decode cX6_sums 33 = .ok (.arraylength, 1) := by decide +kernel
theorem dX6_sums_34 : decode cX6_sums 34 = .ok (.istore 7, 2) := by decide +kernel
theorem dX6_sums_36 : decode cX6_sums 36 = .ok (.iconst 0, 1) := by decide +kernel
theorem dX6_sums_37 : decode cX6_sums 37 = .ok (.istore 8, 2) := by decide +kernel
theorem dX6_sums_39 : decode cX6_sums 39 = .ok (.iload 8, 2) := by decide +kernel
theorem dX6_sums_41 : decode cX6_sums 41 = .ok (.iload 7, 2) := by decide +kernel
theorem dX6_sums_43 : decode cX6_sums 43 = .ok (.if_icmp .ge 40, 3) := by decide +kernel
theorem dX6_sums_46 : decode cX6_sums 46 = .ok (.aload 6, 2) := by decide +kernel
theorem dX6_sums_48 : decode cX6_sums 48 = .ok (.iload 8, 2) := by decide +kernel
theorem dX6_sums_50 : decode cX6_sums 50 = .ok (.iaload, 1) := by decide +kernel
theorem dX6_sums_51 : decode cX6_sums 51 = .ok (.istore 9, 2) := by decide +kernel
theorem dX6_sums_53 : decode cX6_sums 53 = .ok (.aload_n 1, 1) := by decide +kernel
theorem dX6_sums_54 : decode cX6_sums 54 = .ok (.iconst 0, 1) := by decide +kernel
theorem dX6_sums_55 : decode cX6_sums 55 = .ok (.dup2, 1) := by decide +kernel
theorem dX6_sums_56 : decode cX6_sums 56 = .ok (.iaload, 1) := by decide +kernel
theorem dX6_sums_57 : decode cX6_sums 57 = .ok (.iload 9, 2) := by decide +kernel
theorem dX6_sums_59 : decode cX6_sums 59 = .ok (.iadd, 1) := by decide +kernel
theorem dX6_sums_60 : decode cX6_sums 60 = .ok (.iastore, 1) := by decide +kernel
theorem dX6_sums_61 : decode cX6_sums 61 = .ok (.aload_n 1, 1) := by decide +kernel
theorem dX6_sums_62 : decode cX6_sums 62 = .ok (.iconst 1, 1) := by decide +kernel
theorem dX6_sums_63 : decode cX6_sums 63 = .ok (.dup2, 1) := by decide +kernel
theorem dX6_sums_64 : decode cX6_sums 64 = .ok (.iaload, 1) := by decide +kernel
theorem dX6_sums_65 : decode cX6_sums 65 = .ok (.iload 9, 2) := by decide +kernel
theorem dX6_sums_67 : decode cX6_sums 67 = .ok (.ifCond .ne 7, 3) := by decide +kernel
theorem dX6_sums_70 : decode cX6_sums 70 = .ok (.iconst 1, 1) := by decide +kernel
theorem dX6_sums_71 : decode cX6_sums 71 = .ok (.goto 4, 3) := by decide +kernel
theorem dX6_sums_74 : decode cX6_sums 74 = .ok (.iconst 0, 1) := by decide +kernel
theorem dX6_sums_75 : decode cX6_sums 75 = .ok (.iadd, 1) := by decide +kernel
theorem dX6_sums_76 : decode cX6_sums 76 = .ok (.iastore, 1) := by decide +kernel
theorem dX6_sums_77 : decode cX6_sums 77 = .ok (.iinc 8 1, 3) := by decide +kernel
theorem dX6_sums_80 : decode cX6_sums 80 = .ok (.goto (-41), 3) := by decide +kernel
theorem dX6_sums_83 : decode cX6_sums 83 = .ok (.iinc 4 1, 3) := by decide +kernel
theorem dX6_sums_86 : decode cX6_sums 86 = .ok (.goto (-71), 3) := by decide +kernel
theorem dX6_sums_89 : decode cX6_sums 89 = .ok (.aload_n 0, 1) := by decide +kernel
theorem dX6_sums_90 : decode cX6_sums 90 = .ok (.getfield 19, 3) := by decide +kernel
theorem dX6_sums_93 : decode cX6_sums 93 = .ok (.astore_n 2, 1) := by decide +kernel
theorem dX6_sums_94 : decode cX6_sums 94 = .ok (.aload_n 2, 1) := by decide +kernel
theorem dX6_sums_95 : decode cX6_sums 95 = .ok (.arraylength, 1) := by decide +kernel
theorem dX6_sums_96 : decode cX6_sums 96 = .ok (.istore_n 3, 1) := by decide +kernel
theorem dX6_sums_97 : decode cX6_sums 97 = .ok (.iconst 0, 1) := by decide +kernel
theorem dX6_sums_98 : decode cX6_sums 98 = .ok (.istore 4, 2) := by decide +kernel
theorem dX6_sums_100 : decode cX6_sums 100 = .ok (.iload 4, 2) := by decide +kernel
theorem dX6_sums_102 : decode cX6_sums 102 = .ok (.iload_n 3, 1) := by decide +kernel
theorem dX6_sums_103 : decode cX6_sums 103 = .ok (.if_icmp .ge 25, 3) := by decide +kernel
theorem dX6_sums_106 : decode cX6_sums 106 = .ok (.aload_n 2, 1) := by decide +kernel
theorem dX6_sums_107 : decode cX6_sums 107 = .ok (.iload 4, 2) := by decide +kernel
theorem dX6_sums_109 : decode cX6_sums 109 = .ok (.aaload, 1) := by decide +kernel
theorem dX6_sums_110 : decode cX6_sums 110 = .ok (.astore 5, 2) := by decide +kernel
theorem dX6_sums_112 : decode cX6_sums 112 = .ok (.aload_n 1, 1) := by decide +kernel
theorem dX6_sums_113 : decode cX6_sums 113 = .ok (.iconst 2, 1) := by decide +kernel
theorem dX6_sums_114 : decode cX6_sums 114 = .ok (.dup2, 1) := by decide +kernel
theorem dX6_sums_115 : decode cX6_sums 115 = .ok (.iaload, 1) := by decide +kernel
theorem dX6_sums_116 : decode cX6_sums 116 = .ok (.aload 5, 2) := by decide +kernel
theorem dX6_sums_118 : decode cX6_sums 118 = .ok (.iconst 4, 1) := by decide +kernel
theorem dX6_sums_119 : decode cX6_sums 119 = .ok (.iaload, 1) := by decide +kernel
theorem dX6_sums_120 : decode cX6_sums 120 = .ok (.iadd, 1) := by decide +kernel
theorem dX6_sums_121 : decode cX6_sums 121 = .ok (.iastore, 1) := by decide +kernel
theorem dX6_sums_122 : decode cX6_sums 122 = .ok (.iinc 4 1, 3) := by decide +kernel
theorem dX6_sums_125 : decode cX6_sums 125 = .ok (.goto (-25), 3) := by decide +kernel
theorem dX6_sums_128 : decode cX6_sums 128 = .ok (.aload_n 1, 1) := by decide +kernel
theorem dX6_sums_129 : decode cX6_sums 129 = .ok (.areturn, 1) := by decide +kernel
set_option maxRecDepth 20000 in
theorem ggX6_isSame_X6_sums : GoodIn wsX6_isSame wsX6_sums := goodIn_r _ [15, 1, 9, 4, 163, 164, 165, 166, 167, 168, 169, 170] (by decide +kernel) (by decide +kernel)
set_option maxRecDepth 20000 in
theorem gX6_isSame_X6_sums : GoodIn wsX6_isSame (wsV RX6 66 RX6 yX6_sums wsX6_sums) := goodIn_app (goodIn_of _ (by decide +kernel)) ggX6_isSame_X6_sums
set_option maxRecDepth 20000 in
theorem ggX6_isSame_X6_bring : GoodIn wsX6_isSame wsX6_bring := goodIn_r _ [19, 3, 20, 21, 22, 14, 23, 1, 9, 163, 164, 165, 166, 167, 168, 169, 170] (by decide +kernel) (by decide +kernel)
set_option maxRecDepth 20000 in
theorem gX6_isSame_X6_bring : GoodIn wsX6_isSame (wsV RX6 55 RX6 yX6_bring wsX6_bring) := goodIn_app (goodIn_of _ (by decide +kernel)) ggX6_isSame_X6_bring
set_option maxRecDepth 20000 in
theorem ggX6_isSame_X5_count : GoodIn wsX6_isSame wsX5_count := goodIn_ca (goodIn_r _ [28, 29, 30, 31, 32, 33, 27, 34, 35, 36, 37, 38, 39, 40, 41, 42, 43, 44, 45, 46, 47, 48, 49, 50, 51, 52, 53, 54, 55, 56, 57, 58, 59, 60, 61, 62, 63, 64, 65, 66, 67, 68, 69, 70, 71, 72, 73, 74, 75, 76, 77, 78, 79, 80, 81, 82, 83, 84, 85, 171, 172, 173, 174, 175, 176, 177, 178, 179, 180, 181, 182, 183, 184, 185, 186, 187, 188, 189, 190, 191, 192, 193, 194, 195, 196, 197] (by decide +kernel) (by decide +kernel)) (goodIn_sub (fun _ h => List.mem_cons_of_mem _ (List.mem_append_left _ (List.mem_append_right _ h))) (by decide +kernel))
set_option maxRecDepth 20000 in
theorem gX6_isSame_X5_count : GoodIn wsX6_isSame (wsV RX6 70 RX5 yX5_count wsX5_count) := goodIn_app (goodIn_of _ (by decide +kernel)) ggX6_isSame_X5_count
set_option maxRecDepth 20000 in
theorem ggX6_isSame_X5_soot : GoodIn wsX6_isSame wsX5_soot := goodIn_ca (goodIn_r _ [89, 29, 30, 35, 90, 91, 27, 92, 93, 83, 84, 41, 85, 43, 171, 172, 173, 174, 175, 176, 177, 178, 179, 180, 197] (by decide +kernel) (by decide +kernel)) (goodIn_sub (fun _ h => List.mem_cons_of_mem _ (List.mem_append_left _ (List.mem_append_right _ h))) (by decide +kernel))
set_option maxRecDepth 20000 in
theorem gX6_isSame_X5_soot : GoodIn wsX6_isSame (wsV RX6 75 RX5 yX5_soot wsX5_soot) := goodIn_app (goodIn_of _ (by decide +kernel)) ggX6_isSame_X5_soot
set_option maxRecDepth 20000 in
theorem ggX6_isSame_X6_of : GoodIn wsX6_isSame wsX6_of := goodIn_r _ [23, 1, 9, 163, 164, 165, 166, 167, 168, 169, 170] (by decide +kernel) (by decide +kernel)
set_option maxRecDepth 20000 in
theorem gX6_isSame_X6_of : GoodIn wsX6_isSame (wsV RX6 47 RX6 yX6_of wsX6_of) := goodIn_app (goodIn_of _ (by decide +kernel)) ggX6_isSame_X6_of
set_option maxRecDepth 20000 in
theorem ggX6_isSame_X5_about : GoodIn wsX6_isSame wsX5_about := goodIn_ca (goodIn_r _ [97, 29, 30, 36, 35, 98, 99, 100, 27, 101, 102, 103, 104, 58, 105, 80, 81, 74, 75, 65, 76, 77, 78, 79, 82, 83, 84, 41, 85, 43, 106, 107, 108, 109, 66, 67, 68, 69, 61, 62, 63, 64, 70, 71, 72, 73, 171, 172, 173, 174, 175, 176, 177, 178, 179, 180, 181, 182, 183, 184, 185, 186, 197] (by decide +kernel) (by decide +kernel)) (goodIn_sub (fun _ h => List.mem_cons_of_mem _ (List.mem_append_left _ (List.mem_append_right _ h))) (by decide +kernel))
set_option maxRecDepth 20000 in
theorem gX6_isSame_X5_about : GoodIn wsX6_isSame (wsV RX6 78 RX5 yX5_about wsX5_about) := goodIn_app (goodIn_of _ (by decide +kernel)) ggX6_isSame_X5_about
set_option maxRecDepth 20000 in
theorem ggX6_isSame_X5_told : GoodIn wsX6_isSame wsX5_told := goodIn_ca (goodIn_r _ [113, 29, 30, 35, 114, 115, 116, 27, 117, 118, 119, 120, 51, 121, 122, 123, 124, 125, 54, 126, 171, 172, 173, 174, 175, 176, 177, 178, 179, 180, 187, 188, 189, 190, 191, 192, 193] (by decide +kernel) (by decide +kernel)) (goodIn_sub (fun _ h => List.mem_cons_of_mem _ (List.mem_append_left _ (List.mem_append_right _ h))) (by decide +kernel))
set_option maxRecDepth 20000 in
theorem gX6_isSame_X5_told : GoodIn wsX6_isSame (wsV RX6 81 RX5 yX5_told wsX5_told) := goodIn_app (goodIn_of _ (by decide +kernel)) ggX6_isSame_X5_told
set_option maxRecDepth 20000 in
theorem ggX6_isSame_X5_mean : GoodIn wsX6_isSame wsX5_mean := goodIn_r _ [130, 35, 131, 38, 39, 40, 41, 42, 43, 171, 172, 173, 174, 175, 176, 177, 178, 179, 180, 197] (by decide +kernel) (by decide +kernel)
set_option maxRecDepth 20000 in
theorem gX6_isSame_X5_mean : GoodIn wsX6_isSame (wsV RX6 84 RX5 yX5_mean wsX5_mean) := goodIn_app (goodIn_of _ (by decide +kernel)) ggX6_isSame_X5_mean
set_option maxRecDepth 20000 in
theorem ggX6_isSame_X5_next : GoodIn wsX6_isSame wsX5_next := goodIn_r _ [135, 37, 35, 136, 137, 138, 139, 140, 141, 142, 143, 144, 145, 146, 147, 171, 172, 173, 174, 175, 176, 177, 178, 179, 180, 194, 195, 196] (by decide +kernel) (by decide +kernel)
set_option maxRecDepth 20000 in
theorem gX6_isSame_X5_next : GoodIn wsX6_isSame (wsV RX6 90 RX5 yX5_next wsX5_next) := goodIn_app (goodIn_of _ (by decide +kernel)) ggX6_isSame_X5_next
set_option maxRecDepth 20000 in
theorem ggX6_isSame_X6_next : GoodIn wsX6_isSame wsX6_next := goodIn_r _ [151, 2, 152, 153, 154, 14, 155, 5, 163, 164, 165, 166, 167, 168, 169, 170] (by decide +kernel) (by decide +kernel)
set_option maxRecDepth 20000 in
theorem gX6_isSame_X6_next : GoodIn wsX6_isSame (wsV RX6 93 RX6 yX6_next wsX6_next) := goodIn_app (goodIn_of _ (by decide +kernel)) ggX6_isSame_X6_next
set_option maxRecDepth 20000 in
theorem ggX6_isSame_X5_isFeast : GoodIn wsX6_isSame wsX5_isFeast := goodIn_ca (goodIn_r _ [159, 160, 161, 37, 35, 162, 142, 143, 139, 144, 145, 146, 147, 171, 172, 173, 174, 175, 176, 177, 178, 179, 180, 194, 195, 196] (by decide +kernel) (by decide +kernel)) (goodIn_sub (fun _ h => List.mem_cons_of_mem _ (List.mem_append_right _ h)) (by decide +kernel))
set_option maxRecDepth 20000 in
theorem gX6_isSame_X5_isFeast : GoodIn wsX6_isSame (wsV RX6 94 RX5 yX5_isFeast wsX5_isFeast) := goodIn_app (goodIn_of _ (by decide +kernel)) ggX6_isSame_X5_isFeast
set_option maxRecDepth 20000 in
theorem ggX6_isSame_X6_isFeast : GoodIn wsX6_isSame wsX6_isFeast := goodIn_r _ [155, 5, 163, 164, 165, 166, 167, 168, 169, 170] (by decide +kernel) (by decide +kernel)
set_option maxRecDepth 20000 in
theorem gX6_isSame_X6_isFeast : GoodIn wsX6_isSame (wsV RX6 51 RX6 yX6_isFeast wsX6_isFeast) := goodIn_app (goodIn_of _ (by decide +kernel)) ggX6_isSame_X6_isFeast
theorem dX6_isSame_0 : decode cX6_isSame 0 = .ok (.aload_n 0, 1) := by decide +kernel
theorem dX6_isSame_1 : decode cX6_isSame 1 = .ok (.invokevirtual 66, 3) := by decide +kernel
theorem dX6_isSame_4 : decode cX6_isSame 4 = .ok (.astore_n 2, 1) := by decide +kernel
theorem dX6_isSame_5 : decode cX6_isSame 5 = .ok (.bipush 11, 2) := by decide +kernel
theorem dX6_isSame_7 : decode cX6_isSame 7 = .ok (.newarray .int, 2) := by decide +kernel
theorem dX6_isSame_9 : decode cX6_isSame 9 = .ok (.dup, 1) := by decide +kernel
theorem dX6_isSame_10 : decode cX6_isSame 10 = .ok (.iconst 0, 1) := by decide +kernel
theorem dX6_isSame_11 : decode cX6_isSame 11 = .ok (.aload_n 0, 1) := by decide +kernel
theorem dX6_isSame_12 : decode cX6_isSame 12 = .ok (.getfield 26, 3) := by decide +kernel
theorem dX6_isSame_15 : decode cX6_isSame 15 = .ok (.iastore, 1) := by decide +kernel
theorem dX6_isSame_16 : decode cX6_isSame 16 = .ok (.dup, 1) := by decide +kernel
theorem dX6_isSame_17 : decode cX6_isSame 17 = .ok (.iconst 1, 1) := by decide +kernel
theorem dX6_isSame_18 : decode cX6_isSame 18 = .ok (.aload_n 0, 1) := by decide +kernel
theorem dX6_isSame_19 : decode cX6_isSame 19 = .ok (.getfield 16, 3) := by decide +kernel
theorem dX6_isSame_22 : decode cX6_isSame 22 = .ok (.arraylength, 1) := by decide +kernel
theorem dX6_isSame_23 : decode cX6_isSame 23 = .ok (.iastore, 1) := by decide +kernel
theorem dX6_isSame_24 : decode cX6_isSame 24 = .ok (.dup, 1) := by decide +kernel
theorem dX6_isSame_25 : decode cX6_isSame 25 = .ok (.iconst 2, 1) := by decide +kernel
theorem dX6_isSame_26 : decode cX6_isSame 26 = .ok (.aload_n 0, 1) := by decide +kernel
theorem dX6_isSame_27 : decode cX6_isSame 27 = .ok (.getfield 19, 3) := by decide +kernel
theorem dX6_isSame_30 : decode cX6_isSame 30 = .ok (.arraylength, 1) := by decide +kernel
theorem dX6_isSame_31 : decode cX6_isSame 31 = .ok (.iastore, 1) := by decide +kernel
theorem dX6_isSame_32 : decode cX6_isSame 32 = .ok (.dup, 1) := by decide +kernel
theorem dX6_isSame_33 : decode cX6_isSame 33 = .ok (.iconst 3, 1) := by decide +kernel
theorem dX6_isSame_34 : decode cX6_isSame 34 = .ok (.aload_n 0, 1) := by decide +kernel
theorem dX6_isSame_35 : decode cX6_isSame 35 = .ok (.getfield 22, 3) := by decide +kernel
theorem dX6_isSame_38 : decode cX6_isSame 38 = .ok (.arraylength, 1) := by decide +kernel
theorem dX6_isSame_39 : decode cX6_isSame 39 = .ok (.iastore, 1) := by decide +kernel
theorem dX6_isSame_40 : decode cX6_isSame 40 = .ok (.dup, 1) := by decide +kernel
theorem dX6_isSame_41 : decode cX6_isSame 41 = .ok (.iconst 4, 1) := by decide +kernel
theorem dX6_isSame_42 : decode cX6_isSame 42 = .ok (.aload_n 0, 1) := by decide +kernel
theorem dX6_isSame_43 : decode cX6_isSame 43 = .ok (.getfield 30, 3) := by decide +kernel
theorem dX6_isSame_46 : decode cX6_isSame 46 = .ok (.iastore, 1) := by decide +kernel
theorem dX6_isSame_47 : decode cX6_isSame 47 = .ok (.dup, 1) := by decide +kernel
theorem dX6_isSame_48 : decode cX6_isSame 48 = .ok (.iconst 5, 1) := by decide +kernel
theorem dX6_isSame_49 : decode cX6_isSame 49 = .ok (.aload_n 2, 1) := by decide +kernel
theorem dX6_isSame_50 : decode cX6_isSame 50 = .ok (.iconst 0, 1) := by decide +kernel
theorem dX6_isSame_51 : decode cX6_isSame 51 = .ok (.iaload, 1) := by decide +kernel
theorem dX6_isSame_52 : decode cX6_isSame 52 = .ok (.iastore, 1) := by decide +kernel
theorem dX6_isSame_53 : decode cX6_isSame 53 = .ok (.dup, 1) := by decide +kernel
theorem dX6_isSame_54 : decode cX6_isSame 54 = .ok (.bipush 6, 2) := by decide +kernel
theorem dX6_isSame_56 : decode cX6_isSame 56 = .ok (.aload_n 2, 1) := by decide +kernel
theorem dX6_isSame_57 : decode cX6_isSame 57 = .ok (.iconst 1, 1) := by decide +kernel
theorem dX6_isSame_58 : decode cX6_isSame 58 = .ok (.iaload, 1) := by decide +kernel
theorem dX6_isSame_59 : decode cX6_isSame 59 = .ok (.iastore, 1) := by decide +kernel
theorem dX6_isSame_60 : decode cX6_isSame 60 = .ok (.dup, 1) := by decide +kernel
theorem dX6_isSame_61 : decode cX6_isSame 61 = .ok (.bipush 7, 2) := by decide +kernel
theorem dX6_isSame_63 : decode cX6_isSame 63 = .ok (.aload_n 2, 1) := by decide +kernel
theorem dX6_isSame_64 : decode cX6_isSame 64 = .ok (.iconst 2, 1) := by decide +kernel
theorem dX6_isSame_65 : decode cX6_isSame 65 = .ok (.iaload, 1) := by decide +kernel
theorem dX6_isSame_66 : decode cX6_isSame 66 = .ok (.iastore, 1) := by decide +kernel
theorem dX6_isSame_67 : decode cX6_isSame 67 = .ok (.dup, 1) := by decide +kernel
theorem dX6_isSame_68 : decode cX6_isSame 68 = .ok (.bipush 8, 2) := by decide +kernel
theorem dX6_isSame_70 : decode cX6_isSame 70 = .ok (.aload_n 0, 1) := by decide +kernel
theorem dX6_isSame_71 : decode cX6_isSame 71 = .ok (.getfield 33, 3) := by decide +kernel
theorem dX6_isSame_74 : decode cX6_isSame 74 = .ok (.iastore, 1) := by decide +kernel
theorem dX6_isSame_75 : decode cX6_isSame 75 = .ok (.dup, 1) := by decide +kernel
theorem dX6_isSame_76 : decode cX6_isSame 76 = .ok (.bipush 9, 2) := by decide +kernel
theorem dX6_isSame_78 : decode cX6_isSame 78 = .ok (.aload_n 0, 1) := by decide +kernel
theorem dX6_isSame_79 : decode cX6_isSame 79 = .ok (.getfield 36, 3) := by decide +kernel
theorem dX6_isSame_82 : decode cX6_isSame 82 = .ok (.iastore, 1) := by decide +kernel
theorem dX6_isSame_83 : decode cX6_isSame 83 = .ok (.dup, 1) := by decide +kernel
theorem dX6_isSame_84 : decode cX6_isSame 84 = .ok (.bipush 10, 2) := by decide +kernel
theorem dX6_isSame_86 : decode cX6_isSame 86 = .ok (.aload_n 0, 1) := by decide +kernel
theorem dX6_isSame_87 : decode cX6_isSame 87 = .ok (.invokevirtual 55, 3) := by decide +kernel
theorem dX6_isSame_90 : decode cX6_isSame 90 = .ok (.iastore, 1) := by decide +kernel
theorem dX6_isSame_91 : decode cX6_isSame 91 = .ok (.astore_n 3, 1) := by decide +kernel
theorem dX6_isSame_92 : decode cX6_isSame 92 = .ok (.iconst 0, 1) := by decide +kernel
theorem dX6_isSame_93 : decode cX6_isSame 93 = .ok (.istore 4, 2) := by decide +kernel
theorem dX6_isSame_95 : decode cX6_isSame 95 = .ok (.iload 4, 2) := by decide +kernel
theorem dX6_isSame_97 : decode cX6_isSame 97 = .ok (.bipush 11, 2) := by decide +kernel
theorem dX6_isSame_99 : decode cX6_isSame 99 = .ok (.if_icmp .ge 24, 3) := by decide +kernel
theorem dX6_isSame_102 : decode cX6_isSame 102 = .ok (.aload_n 1, 1) := by decide +kernel
theorem dX6_isSame_103 : decode cX6_isSame 103 = .ok (.iload 4, 2) := by decide +kernel
theorem dX6_isSame_105 : decode cX6_isSame 105 = .ok (.invokevirtual 70, 3) := by decide +kernel
theorem dX6_isSame_108 : decode cX6_isSame 108 = .ok (.aload_n 3, 1) := by decide +kernel
theorem dX6_isSame_109 : decode cX6_isSame 109 = .ok (.iload 4, 2) := by decide +kernel
theorem dX6_isSame_111 : decode cX6_isSame 111 = .ok (.iaload, 1) := by decide +kernel
theorem dX6_isSame_112 : decode cX6_isSame 112 = .ok (.if_icmp .eq 5, 3) := by decide +kernel
theorem dX6_isSame_115 : decode cX6_isSame 115 = .ok (.iconst 0, 1) := by decide +kernel
theorem dX6_isSame_116 : decode cX6_isSame 116 = .ok (.ireturn, 1) := by decide +kernel
theorem dX6_isSame_117 : decode cX6_isSame 117 = .ok (.iinc 4 1, 3) := by decide +kernel
theorem dX6_isSame_120 : decode cX6_isSame 120 = .ok (.goto (-25), 3) := by decide +kernel
theorem dX6_isSame_123 : decode cX6_isSame 123 = .ok (.iconst 0, 1) := by decide +kernel
theorem dX6_isSame_124 : decode cX6_isSame 124 = .ok (.istore 4, 2) := by decide +kernel
theorem dX6_isSame_126 : decode cX6_isSame 126 = .ok (.iload 4, 2) := by decide +kernel
theorem dX6_isSame_128 : decode cX6_isSame 128 = .ok (.bipush 12, 2) := by decide +kernel
theorem dX6_isSame_130 : decode cX6_isSame 130 = .ok (.if_icmp .ge 48, 3) := by decide +kernel
theorem dX6_isSame_133 : decode cX6_isSame 133 = .ok (.iconst 0, 1) := by decide +kernel
theorem dX6_isSame_134 : decode cX6_isSame 134 = .ok (.istore 5, 2) := by decide +kernel
theorem dX6_isSame_136 : decode cX6_isSame 136 = .ok (.iload 5, 2) := by decide +kernel
theorem dX6_isSame_138 : decode cX6_isSame 138 = .ok (.bipush 8, 2) := by decide +kernel
theorem dX6_isSame_140 : decode cX6_isSame 140 = .ok (.if_icmp .ge 32, 3) := by decide +kernel
theorem dX6_isSame_143 : decode cX6_isSame 143 = .ok (.aload_n 1, 1) := by decide +kernel
theorem dX6_isSame_144 : decode cX6_isSame 144 = .ok (.iload 4, 2) := by decide +kernel
theorem dX6_isSame_146 : decode cX6_isSame 146 = .ok (.iload 5, 2) := by decide +kernel
theorem dX6_isSame_148 : decode cX6_isSame 148 = .ok (.invokevirtual 75, 3) := by decide +kernel
theorem dX6_isSame_151 : decode cX6_isSame 151 = .ok (.aload_n 0, 1) := by decide +kernel
theorem dX6_isSame_152 : decode cX6_isSame 152 = .ok (.getfield 9, 3) := by decide +kernel
theorem dX6_isSame_155 : decode cX6_isSame 155 = .ok (.iload 4, 2) := by decide +kernel
theorem dX6_isSame_157 : decode cX6_isSame 157 = .ok (.aaload, 1) := by decide +kernel
theorem dX6_isSame_158 : decode cX6_isSame 158 = .ok (.iload 5, 2) := by decide +kernel
theorem dX6_isSame_160 : decode cX6_isSame 160 = .ok (.iaload, 1) := by decide +kernel
theorem dX6_isSame_161 : decode cX6_isSame 161 = .ok (.if_icmp .eq 5, 3) := by decide +kernel
theorem dX6_isSame_164 : decode cX6_isSame 164 = .ok (.iconst 0, 1) := by decide +kernel
theorem dX6_isSame_165 : decode cX6_isSame 165 = .ok (.ireturn, 1) := by decide +kernel
theorem dX6_isSame_166 : decode cX6_isSame 166 = .ok (.iinc 5 1, 3) := by decide +kernel
theorem dX6_isSame_169 : decode cX6_isSame 169 = .ok (.goto (-33), 3) := by decide +kernel
theorem dX6_isSame_172 : decode cX6_isSame 172 = .ok (.iinc 4 1, 3) := by decide +kernel
theorem dX6_isSame_175 : decode cX6_isSame 175 = .ok (.goto (-49), 3) := by decide +kernel
theorem dX6_isSame_178 : decode cX6_isSame 178 = .ok (.iconst 0, 1) := by decide +kernel
theorem dX6_isSame_179 : decode cX6_isSame 179 = .ok (.istore 4, 2) := by decide +kernel
theorem dX6_isSame_181 : decode cX6_isSame 181 = .ok (.iload 4, 2) := by decide +kernel
theorem dX6_isSame_183 : decode cX6_isSame 183 = .ok (.aload_n 0, 1) := by decide +kernel
theorem dX6_isSame_184 : decode cX6_isSame 184 = .ok (.getfield 16, 3) := by decide +kernel
theorem dX6_isSame_187 : decode cX6_isSame 187 = .ok (.arraylength, 1) := by decide +kernel
theorem dX6_isSame_188 : decode cX6_isSame 188 = .ok (.if_icmp .ge 77, 3) := by decide +kernel
theorem dX6_isSame_191 : decode cX6_isSame 191 = .ok (.aload_n 0, 1) := by decide +kernel
theorem dX6_isSame_192 : decode cX6_isSame 192 = .ok (.aload_n 0, 1) := by decide +kernel
theorem dX6_isSame_193 : decode cX6_isSame 193 = .ok (.getfield 16, 3) := by decide +kernel
theorem dX6_isSame_196 : decode cX6_isSame 196 = .ok (.iload 4, 2) := by decide +kernel
theorem dX6_isSame_198 : decode cX6_isSame 198 = .ok (.aaload, 1) := by decide +kernel
theorem dX6_isSame_199 : decode cX6_isSame 199 = .ok (.invokevirtual 47, 3) := by decide +kernel
theorem dX6_isSame_202 : decode cX6_isSame 202 = .ok (.astore 5, 2) := by decide +kernel
theorem dX6_isSame_204 : decode cX6_isSame 204 = .ok (.iconst 0, 1) := by decide +kernel
theorem dX6_isSame_205 : decode cX6_isSame 205 = .ok (.istore 6, 2) := by decide +kernel
theorem dX6_isSame_207 : decode cX6_isSame 207 = .ok (.iload 6, 2) := by decide +kernel
theorem dX6_isSame_209 : decode cX6_isSame 209 = .ok (.bipush 8, 2) := by decide +kernel
theorem dX6_isSame_211 : decode cX6_isSame 211 = .ok (.if_icmp .ge 48, 3) := by decide +kernel
theorem dX6_isSame_214 : decode cX6_isSame 214 = .ok (.aload_n 1, 1) := by decide +kernel
theorem dX6_isSame_215 : decode cX6_isSame 215 = .ok (.iload 4, 2) := by decide +kernel
theorem dX6_isSame_217 : decode cX6_isSame 217 = .ok (.iload 6, 2) := by decide +kernel
theorem dX6_isSame_219 : decode cX6_isSame 219 = .ok (.invokevirtual 78, 3) := by decide +kernel
theorem dX6_isSame_222 : decode cX6_isSame 222 = .ok (.iload 6, 2) := by decide +kernel
theorem dX6_isSame_224 : decode cX6_isSame 224 = .ok (.iconst 5, 1) := by decide +kernel
theorem dX6_isSame_225 : decode cX6_isSame 225 = .ok (.if_icmp .ge 16, 3) := by decide +kernel
theorem dX6_isSame_228 : decode cX6_isSame 228 = .ok (.aload_n 0, 1) := by decide +kernel
theorem dX6_isSame_229 : decode cX6_isSame 229 = .ok (.getfield 16, 3) := by decide +kernel
theorem dX6_isSame_232 : decode cX6_isSame 232 = .ok (.iload 4, 2) := by decide +kernel
theorem dX6_isSame_234 : decode cX6_isSame 234 = .ok (.aaload, 1) := by decide +kernel
theorem dX6_isSame_235 : decode cX6_isSame 235 = .ok (.iload 6, 2) := by decide +kernel
theorem dX6_isSame_237 : decode cX6_isSame 237 = .ok (.iaload, 1) := by decide +kernel
theorem dX6_isSame_238 : decode cX6_isSame 238 = .ok (.goto 10, 3) := by decide +kernel
theorem dX6_isSame_241 : decode cX6_isSame 241 = .ok (.aload 5, 2) := by decide +kernel
theorem dX6_isSame_243 : decode cX6_isSame 243 = .ok (.iload 6, 2) := by decide +kernel
theorem dX6_isSame_245 : decode cX6_isSame 245 = .ok (.iconst 5, 1) := by decide +kernel
theorem dX6_isSame_246 : decode cX6_isSame 246 = .ok (.isub, 1) := by decide +kernel
theorem dX6_isSame_247 : decode cX6_isSame 247 = .ok (.iaload, 1) := by decide +kernel
theorem dX6_isSame_248 : decode cX6_isSame 248 = .ok (.if_icmp .eq 5, 3) := by decide +kernel
theorem dX6_isSame_251 : decode cX6_isSame 251 = .ok (.iconst 0, 1) := by decide +kernel
theorem dX6_isSame_252 : decode cX6_isSame 252 = .ok (.ireturn, 1) := by decide +kernel
theorem dX6_isSame_253 : decode cX6_isSame 253 = .ok (.iinc 6 1, 3) := by decide +kernel
theorem dX6_isSame_256 : decode cX6_isSame 256 = .ok (.goto (-49), 3) := by decide +kernel
theorem dX6_isSame_259 : decode cX6_isSame 259 = .ok (.iinc 4 1, 3) := by decide +kernel
theorem dX6_isSame_262 : decode cX6_isSame 262 = .ok (.goto (-81), 3) := by decide +kernel
theorem dX6_isSame_265 : decode cX6_isSame 265 = .ok (.iconst 0, 1) := by decide +kernel
theorem dX6_isSame_266 : decode cX6_isSame 266 = .ok (.istore 4, 2) := by decide +kernel
theorem dX6_isSame_268 : decode cX6_isSame 268 = .ok (.iload 4, 2) := by decide +kernel
theorem dX6_isSame_270 : decode cX6_isSame 270 = .ok (.aload_n 0, 1) := by decide +kernel
theorem dX6_isSame_271 : decode cX6_isSame 271 = .ok (.getfield 19, 3) := by decide +kernel
theorem dX6_isSame_274 : decode cX6_isSame 274 = .ok (.arraylength, 1) := by decide +kernel
theorem dX6_isSame_275 : decode cX6_isSame 275 = .ok (.if_icmp .ge 48, 3) := by decide +kernel
theorem dX6_isSame_278 : decode cX6_isSame 278 = .ok (.iconst 0, 1) := by decide +kernel
theorem dX6_isSame_279 : decode cX6_isSame 279 = .ok (.istore 5, 2) := by decide +kernel
theorem dX6_isSame_281 : decode cX6_isSame 281 = .ok (.iload 5, 2) := by decide +kernel
theorem dX6_isSame_283 : decode cX6_isSame 283 = .ok (.bipush 6, 2) := by decide +kernel
theorem dX6_isSame_285 : decode cX6_isSame 285 = .ok (.if_icmp .ge 32, 3) := by decide +kernel
theorem dX6_isSame_288 : decode cX6_isSame 288 = .ok (.aload_n 1, 1) := by decide +kernel
theorem dX6_isSame_289 : decode cX6_isSame 289 = .ok (.iload 4, 2) := by decide +kernel
theorem dX6_isSame_291 : decode cX6_isSame 291 = .ok (.iload 5, 2) := by decide +kernel
theorem dX6_isSame_293 : decode cX6_isSame 293 = .ok (.invokevirtual 81, 3) := by decide +kernel
theorem dX6_isSame_296 : decode cX6_isSame 296 = .ok (.aload_n 0, 1) := by decide +kernel
theorem dX6_isSame_297 : decode cX6_isSame 297 = .ok (.getfield 19, 3) := by decide +kernel
theorem dX6_isSame_300 : decode cX6_isSame 300 = .ok (.iload 4, 2) := by decide +kernel
theorem dX6_isSame_302 : decode cX6_isSame 302 = .ok (.aaload, 1) := by decide +kernel
theorem dX6_isSame_303 : decode cX6_isSame 303 = .ok (.iload 5, 2) := by decide +kernel
theorem dX6_isSame_305 : decode cX6_isSame 305 = .ok (.iaload, 1) := by decide +kernel
theorem dX6_isSame_306 : decode cX6_isSame 306 = .ok (.if_icmp .eq 5, 3) := by decide +kernel
theorem dX6_isSame_309 : decode cX6_isSame 309 = .ok (.iconst 0, 1) := by decide +kernel
theorem dX6_isSame_310 : decode cX6_isSame 310 = .ok (.ireturn, 1) := by decide +kernel
theorem dX6_isSame_311 : decode cX6_isSame 311 = .ok (.iinc 5 1, 3) := by decide +kernel
theorem dX6_isSame_314 : decode cX6_isSame 314 = .ok (.goto (-33), 3) := by decide +kernel
theorem dX6_isSame_317 : decode cX6_isSame 317 = .ok (.iinc 4 1, 3) := by decide +kernel
theorem dX6_isSame_320 : decode cX6_isSame 320 = .ok (.goto (-52), 3) := by decide +kernel
theorem dX6_isSame_323 : decode cX6_isSame 323 = .ok (.aload_n 1, 1) := by decide +kernel
theorem dX6_isSame_324 : decode cX6_isSame 324 = .ok (.invokevirtual 84, 3) := by decide +kernel
theorem dX6_isSame_327 : decode cX6_isSame 327 = .ok (.aload_n 2, 1) := by decide +kernel
theorem dX6_isSame_328 : decode cX6_isSame 328 = .ok (.iconst 0, 1) := by decide +kernel
theorem dX6_isSame_329 : decode cX6_isSame 329 = .ok (.iaload, 1) := by decide +kernel
theorem dX6_isSame_330 : decode cX6_isSame 330 = .ok (.i2d, 1) := by decide +kernel
theorem dX6_isSame_331 : decode cX6_isSame 331 = .ok (.ldc2_w 88, 3) := by decide +kernel
theorem dX6_isSame_334 : decode cX6_isSame 334 = .ok (.ddiv, 1) := by decide +kernel
theorem dX6_isSame_335 : decode cX6_isSame 335 = .ok (.dcmp .l, 1) := by decide +kernel
theorem dX6_isSame_336 : decode cX6_isSame 336 = .ok (.ifCond .ne 38, 3) := by decide +kernel
theorem dX6_isSame_339 : decode cX6_isSame 339 = .ok (.aload_n 1, 1) := by decide +kernel
theorem dX6_isSame_340 : decode cX6_isSame 340 = .ok (.invokevirtual 90, 3) := by decide +kernel
theorem dX6_isSame_343 : decode cX6_isSame 343 = .ok (.aload_n 0, 1) := by decide +kernel
theorem dX6_isSame_344 : decode cX6_isSame 344 = .ok (.invokevirtual 93, 3) := by decide +kernel
theorem dX6_isSame_347 : decode cX6_isSame 347 = .ok (.if_icmp .ne 27, 3) := by decide +kernel
theorem dX6_isSame_350 : decode cX6_isSame 350 = .ok (.aload_n 1, 1) := by decide +kernel
theorem dX6_isSame_351 : decode cX6_isSame 351 = .ok (.bipush 7, 2) := by decide +kernel
theorem dX6_isSame_353 : decode cX6_isSame 353 = .ok (.invokevirtual 94, 3) := by decide +kernel
theorem dX6_isSame_356 : decode cX6_isSame 356 = .ok (.aload_n 0, 1) := by decide +kernel
theorem dX6_isSame_357 : decode cX6_isSame 357 = .ok (.aload_n 0, 1) := by decide +kernel
theorem dX6_isSame_358 : decode cX6_isSame 358 = .ok (.getfield 26, 3) := by decide +kernel
theorem dX6_isSame_361 : decode cX6_isSame 361 = .ok (.bipush 7, 2) := by decide +kernel
theorem dX6_isSame_363 : decode cX6_isSame 363 = .ok (.iadd, 1) := by decide +kernel
theorem dX6_isSame_364 : decode cX6_isSame 364 = .ok (.invokevirtual 51, 3) := by decide +kernel
theorem dX6_isSame_367 : decode cX6_isSame 367 = .ok (.if_icmp .ne 7, 3) := by decide +kernel
theorem dX6_isSame_370 : decode cX6_isSame 370 = .ok (.iconst 1, 1) := by decide +kernel
theorem dX6_isSame_371 : decode cX6_isSame 371 = .ok (.goto 4, 3) := by decide +kernel
theorem dX6_isSame_374 : decode cX6_isSame 374 = .ok (.iconst 0, 1) := by decide +kernel
theorem dX6_isSame_375 : decode cX6_isSame 375 = .ok (.ireturn, 1) := by decide +kernel
theorem dJ9_max_7cf53_0 : decode cJ9_max_7cf53 0 = .ok (.iload_n 0, 1) := by decide +kernel
theorem dJ9_max_7cf53_1 : decode cJ9_max_7cf53 1 = .ok (.iload_n 1, 1) := by decide +kernel
theorem dJ9_max_7cf53_2 : decode cJ9_max_7cf53 2 = .ok (.if_icmp .lt 7, 3) := by decide +kernel
theorem dJ9_max_7cf53_5 : decode cJ9_max_7cf53 5 = .ok (.iload_n 0, 1) := by decide +kernel
theorem dJ9_max_7cf53_6 : decode cJ9_max_7cf53 6 = .ok (.goto 4, 3) := by decide +kernel
theorem dJ9_max_7cf53_9 : decode cJ9_max_7cf53 9 = .ok (.iload_n 1, 1) := by decide +kernel
theorem dJ9_max_7cf53_10 : decode cJ9_max_7cf53 10 = .ok (.ireturn, 1) := by decide +kernel
theorem dJ9_min_7cf53_0 : decode cJ9_min_7cf53 0 = .ok (.iload_n 0, 1) := by decide +kernel
theorem dJ9_min_7cf53_1 : decode cJ9_min_7cf53 1 = .ok (.iload_n 1, 1) := by decide +kernel
theorem dJ9_min_7cf53_2 : decode cJ9_min_7cf53 2 = .ok (.if_icmp .gt 7, 3) := by decide +kernel
theorem dJ9_min_7cf53_5 : decode cJ9_min_7cf53 5 = .ok (.iload_n 0, 1) := by decide +kernel
theorem dJ9_min_7cf53_6 : decode cJ9_min_7cf53 6 = .ok (.goto 4, 3) := by decide +kernel
theorem dJ9_min_7cf53_9 : decode cJ9_min_7cf53 9 = .ok (.iload_n 1, 1) := by decide +kernel
theorem dJ9_min_7cf53_10 : decode cJ9_min_7cf53 10 = .ok (.ireturn, 1) := by decide +kernel
theorem dL_below_0 : decode cL_below 0 = .ok (.iload_n 0, 1) := by decide +kernel
theorem dL_below_1 : decode cL_below 1 = .ok (.ldc 7, 2) := by decide +kernel
theorem dL_below_3 : decode cL_below 3 = .ok (.iand, 1) := by decide +kernel
theorem dL_below_4 : decode cL_below 4 = .ok (.iload_n 1, 1) := by decide +kernel
theorem dL_below_5 : decode cL_below 5 = .ok (.irem, 1) := by decide +kernel
theorem dL_below_6 : decode cL_below 6 = .ok (.ireturn, 1) := by decide +kernel
theorem dL_cell_0 : decode cL_cell 0 = .ok (.iload_n 1, 1) := by decide +kernel
theorem dL_cell_1 : decode cL_cell 1 = .ok (.aload_n 0, 1) := by decide +kernel
theorem dL_cell_2 : decode cL_cell 2 = .ok (.arraylength, 1) := by decide +kernel
theorem dL_cell_3 : decode cL_cell 3 = .ok (.if_icmp .ge 9, 3) := by decide +kernel
theorem dL_cell_6 : decode cL_cell 6 = .ok (.aload_n 0, 1) := by decide +kernel
theorem dL_cell_7 : decode cL_cell 7 = .ok (.iload_n 1, 1) := by decide +kernel
theorem dL_cell_8 : decode cL_cell 8 = .ok (.iaload, 1) := by decide +kernel
theorem dL_cell_9 : decode cL_cell 9 = .ok (.goto 9, 3) := by decide +kernel
theorem dL_cell_12 : decode cL_cell 12 = .ok (.ldc 8, 2) := by decide +kernel
theorem dL_cell_14 : decode cL_cell 14 = .ok (.iload_n 1, 1) := by decide +kernel
theorem dL_cell_15 : decode cL_cell 15 = .ok (.iconst 3, 1) := by decide +kernel
theorem dL_cell_16 : decode cL_cell 16 = .ok (.iadd, 1) := by decide +kernel
theorem dL_cell_17 : decode cL_cell 17 = .ok (.imul, 1) := by decide +kernel
theorem dL_cell_18 : decode cL_cell 18 = .ok (.ireturn, 1) := by decide +kernel
set_option maxRecDepth 20000 in
theorem ggL_act_L_below : GoodIn wsL_act wsL_below := goodIn_r _ [11, 12] (by decide +kernel) (by decide +kernel)
set_option maxRecDepth 20000 in
theorem gL_act_L_below : GoodIn wsL_act (va_wsS RL 9 yL_below wsL_below) := goodIn_app (goodIn_of _ (by decide +kernel)) ggL_act_L_below
set_option maxRecDepth 20000 in
theorem ggL_act_X6_with : GoodIn wsL_act wsX6_with := goodIn_r _ [16, 17] (by decide +kernel) (by decide +kernel)
set_option maxRecDepth 20000 in
theorem gL_act_X6_with : GoodIn wsL_act (va_wsS RL 21 yX6_with wsX6_with) := goodIn_app (goodIn_of _ (by decide +kernel)) ggL_act_X6_with
set_option maxRecDepth 20000 in
theorem ggL_act_X5_window : GoodIn wsL_act wsX5_window := goodIn_ca (goodIn_ca (goodIn_ca (goodIn_r _ [22, 23, 24, 25, 26, 27, 28, 29, 30, 31, 32, 33, 34, 35, 36, 37, 38, 39, 40, 231, 232, 233, 234, 235, 236, 237, 238, 239, 240] (by decide +kernel) (by decide +kernel)) (goodIn_sub (fun _ h => List.mem_cons_of_mem _ (List.mem_append_left _ (List.mem_append_left _ (List.mem_append_right _ h)))) (by decide +kernel))) (goodIn_sub (fun _ h => List.mem_cons_of_mem _ (List.mem_append_left _ (List.mem_append_right _ h))) (by decide +kernel))) (goodIn_sub (fun _ h => List.mem_cons_of_mem _ (List.mem_append_right _ h)) (by decide +kernel))
set_option maxRecDepth 20000 in
theorem gL_act_X5_window : GoodIn wsL_act (wsV RL 25 RX5 yX5_window wsX5_window) := goodIn_app (goodIn_of _ (by decide +kernel)) ggL_act_X5_window
set_option maxRecDepth 20000 in
theorem ggL_act_X6_ropeAt : GoodIn wsL_act wsX6_ropeAt := goodIn_r _ [44, 45, 223, 224, 225, 226, 227, 228, 229, 230] (by decide +kernel) (by decide +kernel)
set_option maxRecDepth 20000 in
theorem gL_act_X6_ropeAt : GoodIn wsL_act (wsV RL 34 RX6 yX6_ropeAt wsX6_ropeAt) := goodIn_app (goodIn_of _ (by decide +kernel)) ggL_act_X6_ropeAt
set_option maxRecDepth 20000 in
theorem ggL_act_X5_rope : GoodIn wsL_act wsX5_rope := goodIn_ca (goodIn_ca (goodIn_ca (goodIn_r _ [49, 25, 26, 23, 24, 27, 28, 50, 51, 52, 21, 53, 54, 55, 56, 57, 58, 59, 60, 61, 62, 63, 64, 65, 66, 231, 232, 233, 234, 241, 242, 243, 244, 245, 246, 247, 248, 249, 250, 251, 252, 253] (by decide +kernel) (by decide +kernel)) (goodIn_sub (fun _ h => List.mem_cons_of_mem _ (List.mem_append_left _ (List.mem_append_right _ h))) (by decide +kernel))) (goodIn_sub (fun _ h => List.mem_cons_of_mem _ (List.mem_append_left _ (List.mem_append_left _ (List.mem_append_right _ h)))) (by decide +kernel))) (goodIn_sub (fun _ h => List.mem_cons_of_mem _ (List.mem_append_right _ h)) (by decide +kernel))
set_option maxRecDepth 20000 in
theorem gL_act_X5_rope : GoodIn wsL_act (wsV RL 38 RX5 yX5_rope wsX5_rope) := goodIn_app (goodIn_of _ (by decide +kernel)) ggL_act_X5_rope
set_option maxRecDepth 20000 in
theorem ggL_act_X5_feast : GoodIn wsL_act wsX5_feast := goodIn_ca (goodIn_ca (goodIn_r _ [70, 23, 24, 27, 28, 71, 72, 73, 74, 75, 76, 77, 78, 79, 231, 232, 233, 234, 254, 255, 256] (by decide +kernel) (by decide +kernel)) (goodIn_sub (fun _ h => List.mem_cons_of_mem _ (List.mem_append_left _ (List.mem_append_left _ (List.mem_append_right _ h)))) (by decide +kernel))) (goodIn_sub (fun _ h => List.mem_cons_of_mem _ (List.mem_append_right _ h)) (by decide +kernel))
set_option maxRecDepth 20000 in
theorem gL_act_X5_feast : GoodIn wsL_act (wsV RL 45 RX5 yX5_feast wsX5_feast) := goodIn_app (goodIn_of _ (by decide +kernel)) ggL_act_X5_feast
set_option maxRecDepth 20000 in
theorem ggL_act_X5_setWind : GoodIn wsL_act wsX5_setWind := goodIn_ca (goodIn_r _ [83, 23, 24, 50, 231, 232, 233, 234, 241, 242, 243, 244, 245, 246] (by decide +kernel) (by decide +kernel)) (goodIn_sub (fun _ h => List.mem_cons_of_mem _ (List.mem_append_left _ (List.mem_append_left _ (List.mem_append_right _ h)))) (by decide +kernel))
set_option maxRecDepth 20000 in
theorem gL_act_X5_setWind : GoodIn wsL_act (wsV RL 52 RX5 yX5_setWind wsX5_setWind) := goodIn_app (goodIn_of _ (by decide +kernel)) ggL_act_X5_setWind
set_option maxRecDepth 20000 in
theorem ggL_act_X5_move : GoodIn wsL_act wsX5_move := goodIn_ca (goodIn_ca (goodIn_r _ [87, 25, 26, 27, 28, 50, 88, 89, 90, 21, 91, 51, 52, 53, 54, 55, 56, 57, 58, 59, 60, 92, 93, 94, 95, 96, 97, 231, 232, 233, 234, 241, 242, 243, 244, 245, 246, 247, 248, 249, 250, 251, 252, 253] (by decide +kernel) (by decide +kernel)) (goodIn_sub (fun _ h => List.mem_cons_of_mem _ (List.mem_append_left _ (List.mem_append_right _ h))) (by decide +kernel))) (goodIn_sub (fun _ h => List.mem_cons_of_mem _ (List.mem_append_right _ h)) (by decide +kernel))
set_option maxRecDepth 20000 in
theorem gL_act_X5_move : GoodIn wsL_act (wsV RL 55 RX5 yX5_move wsX5_move) := goodIn_app (goodIn_of _ (by decide +kernel)) ggL_act_X5_move
set_option maxRecDepth 20000 in
theorem ggL_act_X5_turn : GoodIn wsL_act wsX5_turn := goodIn_ca (goodIn_r _ [101, 25, 26, 50, 88, 89, 90, 21, 91, 231, 232, 233, 234, 241, 242, 243, 244, 245, 246, 247, 248, 249, 250, 251, 252, 253] (by decide +kernel) (by decide +kernel)) (goodIn_sub (fun _ h => List.mem_cons_of_mem _ (List.mem_append_left _ (List.mem_append_right _ h))) (by decide +kernel))
set_option maxRecDepth 20000 in
theorem gL_act_X5_turn : GoodIn wsL_act (wsV RL 58 RX5 yX5_turn wsX5_turn) := goodIn_app (goodIn_of _ (by decide +kernel)) ggL_act_X5_turn
set_option maxRecDepth 20000 in
theorem ggL_act_X6_of : GoodIn wsL_act wsX6_of := goodIn_r _ [105, 2, 106, 223, 224, 225, 226, 227, 228, 229, 230] (by decide +kernel) (by decide +kernel)
set_option maxRecDepth 20000 in
theorem gL_act_X6_of : GoodIn wsL_act (wsV RL 62 RX6 yX6_of wsX6_of) := goodIn_app (goodIn_of _ (by decide +kernel)) ggL_act_X6_of
set_option maxRecDepth 20000 in
theorem ggL_act_X5_wipe : GoodIn wsL_act wsX5_wipe := goodIn_ca (goodIn_r _ [110, 25, 26, 29, 50, 111, 112, 113, 21, 114, 115, 116, 117, 33, 118, 35, 38, 37, 39, 119, 120, 121, 122, 123, 124, 125, 126, 127, 128, 231, 232, 233, 234, 241, 242, 243, 244, 245, 246, 235, 236, 237, 238, 239, 240, 257] (by decide +kernel) (by decide +kernel)) (goodIn_sub (fun _ h => List.mem_cons_of_mem _ (List.mem_append_left _ (List.mem_append_right _ h))) (by decide +kernel))
set_option maxRecDepth 20000 in
theorem gL_act_X5_wipe : GoodIn wsL_act (wsV RL 69 RX5 yX5_wipe wsX5_wipe) := goodIn_app (goodIn_of _ (by decide +kernel)) ggL_act_X5_wipe
set_option maxRecDepth 20000 in
theorem ggL_act_X6_behind : GoodIn wsL_act wsX6_behind := goodIn_r _ [132, 133, 134, 135, 15, 136, 137, 106, 138, 139, 140, 45, 141, 142, 143, 144, 145, 146, 147, 148, 149, 150, 151, 103, 104, 105, 2, 152, 42, 43, 44, 223, 224, 225, 226, 227, 228, 229, 230] (by decide +kernel) (by decide +kernel)
set_option maxRecDepth 20000 in
theorem gL_act_X6_behind : GoodIn wsL_act (wsV RL 75 RX6 yX6_behind wsX6_behind) := goodIn_app (goodIn_of _ (by decide +kernel)) ggL_act_X6_behind
set_option maxRecDepth 20000 in
theorem ggL_act_X5_pass : GoodIn wsL_act wsX5_pass := goodIn_ca (goodIn_r _ [156, 23, 24, 50, 29, 71, 157, 158, 159, 160, 161, 162, 163, 164, 165, 166, 167, 168, 169, 170, 171, 172, 173, 174, 122, 175, 124, 125, 126, 127, 128, 176, 177, 178, 179, 180, 181, 182, 183, 184, 75, 185, 78, 77, 79, 186, 187, 188, 33, 189, 36, 190, 191, 192, 193, 40, 194, 195, 196, 197, 198, 38, 39, 199, 200, 201, 202, 35, 37, 203, 204, 205, 206, 207, 208, 209, 57, 210, 59, 211, 212, 213, 214, 65, 60, 96, 215, 216, 120, 121, 123, 217, 218, 219, 220, 66, 221, 55, 56, 58, 222, 93, 94, 95, 97, 231, 232, 233, 234, 241, 242, 243, 244, 245, 246, 257, 254, 255, 256, 235, 236, 237, 238, 239, 240, 247, 248, 249, 250, 251, 252, 253] (by decide +kernel) (by decide +kernel)) (goodIn_sub (fun _ h => List.mem_cons_of_mem _ (List.mem_append_left _ (List.mem_append_left _ (List.mem_append_right _ h)))) (by decide +kernel))
set_option maxRecDepth 20000 in
theorem gL_act_X5_pass : GoodIn wsL_act (wsV RL 79 RX5 yX5_pass wsX5_pass) := goodIn_app (goodIn_of _ (by decide +kernel)) ggL_act_X5_pass
theorem dL_act_0 : decode cL_act 0 = .ok (.iload_n 2, 1) := by decide +kernel
theorem dL_act_1 : decode cL_act 1 = .ok (.iconst 1, 1) := by decide +kernel
theorem dL_act_2 : decode cL_act 2 = .ok (.ishr, 1) := by decide +kernel
theorem dL_act_3 : decode cL_act 3 = .ok (.bipush 12, 2) := by decide +kernel
theorem dL_act_5 : decode cL_act 5 = .ok (.invokestatic 9, 3) := by decide +kernel
theorem dL_act_8 : decode cL_act 8 = .ok (.istore_n 3, 1) := by decide +kernel
theorem dL_act_9 : decode cL_act 9 = .ok (.iload_n 2, 1) := by decide +kernel
theorem dL_act_10 : decode cL_act 10 = .ok (.bipush 9, 2) := by decide +kernel
theorem dL_act_12 : decode cL_act 12 = .ok (.ishr, 1) := by decide +kernel
theorem dL_act_13 : decode cL_act 13 = .ok (.bipush 18, 2) := by decide +kernel
theorem dL_act_15 : decode cL_act 15 = .ok (.invokestatic 9, 3) := by decide +kernel
theorem dL_act_18 : decode cL_act 18 = .ok (.tableswitch 730 0 10 #[58, 58, 211, 211, 326, 409, 409, 448, 448, 535, 609], 58) := by decide +kernel
theorem dL_act_76 : decode cL_act 76 = .ok (.aload_n 1, 1) := by decide +kernel
theorem dL_act_77 : decode cL_act 77 = .ok (.getfield 15, 3) := by decide +kernel
theorem dL_act_80 : decode cL_act 80 = .ok (.arraylength, 1) := by decide +kernel
theorem dL_act_81 : decode cL_act 81 = .ok (.bipush 6, 2) := by decide +kernel
theorem dL_act_83 : decode cL_act 83 = .ok (.if_icmp .ne 5, 3) := by decide +kernel
theorem dL_act_86 : decode cL_act 86 = .ok (.iconst 1, 1) := by decide +kernel
theorem dL_act_87 : decode cL_act 87 = .ok (.ireturn, 1) := by decide +kernel
theorem dL_act_88 : decode cL_act 88 = .ok (.iconst 1, 1) := by decide +kernel
theorem dL_act_89 : decode cL_act 89 = .ok (.iload_n 2, 1) := by decide +kernel
theorem dL_act_90 : decode cL_act 90 = .ok (.iconst 3, 1) := by decide +kernel
theorem dL_act_91 : decode cL_act 91 = .ok (.ishr, 1) := by decide +kernel
theorem dL_act_92 : decode cL_act 92 = .ok (.iload_n 2, 1) := by decide +kernel
theorem dL_act_93 : decode cL_act 93 = .ok (.iconst 2, 1) := by decide +kernel
theorem dL_act_94 : decode cL_act 94 = .ok (.invokestatic 9, 3) := by decide +kernel
theorem dL_act_97 : decode cL_act 97 = .ok (.ifCond .ne 8, 3) := by decide +kernel
theorem dL_act_100 : decode cL_act 100 = .ok (.bipush 12, 2) := by decide +kernel
theorem dL_act_102 : decode cL_act 102 = .ok (.goto 4, 3) := by decide +kernel
theorem dL_act_105 : decode cL_act 105 = .ok (.iconst 4, 1) := by decide +kernel
theorem dL_act_106 : decode cL_act 106 = .ok (.invokestatic 9, 3) := by decide +kernel
theorem dL_act_109 : decode cL_act 109 = .ok (.iadd, 1) := by decide +kernel
theorem dL_act_110 : decode cL_act 110 = .ok (.istore 4, 2) := by decide +kernel
theorem dL_act_112 : decode cL_act 112 = .ok (.iconst 1, 1) := by decide +kernel
theorem dL_act_113 : decode cL_act 113 = .ok (.iload_n 2, 1) := by decide +kernel
theorem dL_act_114 : decode cL_act 114 = .ok (.iconst 4, 1) := by decide +kernel
theorem dL_act_115 : decode cL_act 115 = .ok (.ishr, 1) := by decide +kernel
theorem dL_act_116 : decode cL_act 116 = .ok (.bipush 8, 2) := by decide +kernel
theorem dL_act_118 : decode cL_act 118 = .ok (.invokestatic 9, 3) := by decide +kernel
theorem dL_act_121 : decode cL_act 121 = .ok (.iadd, 1) := by decide +kernel
theorem dL_act_122 : decode cL_act 122 = .ok (.istore 5, 2) := by decide +kernel
theorem dL_act_124 : decode cL_act 124 = .ok (.iconst 5, 1) := by decide +kernel
theorem dL_act_125 : decode cL_act 125 = .ok (.newarray .int, 2) := by decide +kernel
theorem dL_act_127 : decode cL_act 127 = .ok (.dup, 1) := by decide +kernel
theorem dL_act_128 : decode cL_act 128 = .ok (.iconst 0, 1) := by decide +kernel
theorem dL_act_129 : decode cL_act 129 = .ok (.iload_n 2, 1) := by decide +kernel
theorem dL_act_130 : decode cL_act 130 = .ok (.iconst 1, 1) := by decide +kernel
theorem dL_act_131 : decode cL_act 131 = .ok (.ishr, 1) := by decide +kernel
theorem dL_act_132 : decode cL_act 132 = .ok (.bipush 13, 2) := by decide +kernel
theorem dL_act_134 : decode cL_act 134 = .ok (.iload 4, 2) := by decide +kernel
theorem dL_act_136 : decode cL_act 136 = .ok (.isub, 1) := by decide +kernel
theorem dL_act_137 : decode cL_act 137 = .ok (.invokestatic 9, 3) := by decide +kernel
theorem dL_act_140 : decode cL_act 140 = .ok (.iastore, 1) := by decide +kernel
theorem dL_act_141 : decode cL_act 141 = .ok (.dup, 1) := by decide +kernel
theorem dL_act_142 : decode cL_act 142 = .ok (.iconst 1, 1) := by decide +kernel
theorem dL_act_143 : decode cL_act 143 = .ok (.iload_n 2, 1) := by decide +kernel
theorem dL_act_144 : decode cL_act 144 = .ok (.iconst 2, 1) := by decide +kernel
theorem dL_act_145 : decode cL_act 145 = .ok (.ishr, 1) := by decide +kernel
theorem dL_act_146 : decode cL_act 146 = .ok (.bipush 9, 2) := by decide +kernel
theorem dL_act_148 : decode cL_act 148 = .ok (.iload 5, 2) := by decide +kernel
theorem dL_act_150 : decode cL_act 150 = .ok (.isub, 1) := by decide +kernel
theorem dL_act_151 : decode cL_act 151 = .ok (.invokestatic 9, 3) := by decide +kernel
theorem dL_act_154 : decode cL_act 154 = .ok (.iastore, 1) := by decide +kernel
theorem dL_act_155 : decode cL_act 155 = .ok (.dup, 1) := by decide +kernel
theorem dL_act_156 : decode cL_act 156 = .ok (.iconst 2, 1) := by decide +kernel
theorem dL_act_157 : decode cL_act 157 = .ok (.iload 4, 2) := by decide +kernel
theorem dL_act_159 : decode cL_act 159 = .ok (.iastore, 1) := by decide +kernel
theorem dL_act_160 : decode cL_act 160 = .ok (.dup, 1) := by decide +kernel
theorem dL_act_161 : decode cL_act 161 = .ok (.iconst 3, 1) := by decide +kernel
theorem dL_act_162 : decode cL_act 162 = .ok (.iload 5, 2) := by decide +kernel
theorem dL_act_164 : decode cL_act 164 = .ok (.iastore, 1) := by decide +kernel
theorem dL_act_165 : decode cL_act 165 = .ok (.dup, 1) := by decide +kernel
theorem dL_act_166 : decode cL_act 166 = .ok (.iconst 4, 1) := by decide +kernel
theorem dL_act_167 : decode cL_act 167 = .ok (.iconst 1, 1) := by decide +kernel
theorem dL_act_168 : decode cL_act 168 = .ok (.iload_n 2, 1) := by decide +kernel
theorem dL_act_169 : decode cL_act 169 = .ok (.iconst 5, 1) := by decide +kernel
theorem dL_act_170 : decode cL_act 170 = .ok (.ishr, 1) := by decide +kernel
theorem dL_act_171 : decode cL_act 171 = .ok (.bipush 9, 2) := by decide +kernel
theorem dL_act_173 : decode cL_act 173 = .ok (.invokestatic 9, 3) := by decide +kernel
theorem dL_act_176 : decode cL_act 176 = .ok (.iadd, 1) := by decide +kernel
theorem dL_act_177 : decode cL_act 177 = .ok (.iastore, 1) := by decide +kernel
theorem dL_act_178 : decode cL_act 178 = .ok (.astore 6, 2) := by decide +kernel
theorem dL_act_180 : decode cL_act 180 = .ok (.aload_n 1, 1) := by decide +kernel
theorem dL_act_181 : decode cL_act 181 = .ok (.aload_n 1, 1) := by decide +kernel
theorem dL_act_182 : decode cL_act 182 = .ok (.getfield 15, 3) := by decide +kernel
theorem dL_act_185 : decode cL_act 185 = .ok (.aload 6, 2) := by decide +kernel
theorem dL_act_187 : decode cL_act 187 = .ok (.invokestatic 21, 3) := by decide +kernel
theorem dL_act_190 : decode cL_act 190 = .ok (.putfield 15, 3) := by decide +kernel
theorem dL_act_193 : decode cL_act 193 = .ok (.aload_n 0, 1) := by decide +kernel
theorem dL_act_194 : decode cL_act 194 = .ok (.aload 6, 2) := by decide +kernel
theorem dL_act_196 : decode cL_act 196 = .ok (.iconst 0, 1) := by decide +kernel
theorem dL_act_197 : decode cL_act 197 = .ok (.iaload, 1) := by decide +kernel
theorem dL_act_198 : decode cL_act 198 = .ok (.aload 6, 2) := by decide +kernel
theorem dL_act_200 : decode cL_act 200 = .ok (.iconst 1, 1) := by decide +kernel
theorem dL_act_201 : decode cL_act 201 = .ok (.iaload, 1) := by decide +kernel
theorem dL_act_202 : decode cL_act 202 = .ok (.iload 4, 2) := by decide +kernel
theorem dL_act_204 : decode cL_act 204 = .ok (.iload 5, 2) := by decide +kernel
theorem dL_act_206 : decode cL_act 206 = .ok (.aload 6, 2) := by decide +kernel
theorem dL_act_208 : decode cL_act 208 = .ok (.iconst 4, 1) := by decide +kernel
theorem dL_act_209 : decode cL_act 209 = .ok (.iaload, 1) := by decide +kernel
theorem dL_act_210 : decode cL_act 210 = .ok (.invokevirtual 25, 3) := by decide +kernel
theorem dL_act_213 : decode cL_act 213 = .ok (.aload_n 1, 1) := by decide +kernel
theorem dL_act_214 : decode cL_act 214 = .ok (.getfield 15, 3) := by decide +kernel
theorem dL_act_217 : decode cL_act 217 = .ok (.arraylength, 1) := by decide +kernel
theorem dL_act_218 : decode cL_act 218 = .ok (.iconst 1, 1) := by decide +kernel
theorem dL_act_219 : decode cL_act 219 = .ok (.isub, 1) := by decide +kernel
theorem dL_act_220 : decode cL_act 220 = .ok (.if_icmp .ne 7, 3) := by decide +kernel
theorem dL_act_223 : decode cL_act 223 = .ok (.iconst 1, 1) := by decide +kernel
theorem dL_act_224 : decode cL_act 224 = .ok (.goto 4, 3) := by decide +kernel
theorem dL_act_227 : decode cL_act 227 = .ok (.iconst 0, 1) := by decide +kernel
theorem dL_act_228 : decode cL_act 228 = .ok (.ireturn, 1) := by decide +kernel
theorem dL_act_229 : decode cL_act 229 = .ok (.aload_n 1, 1) := by decide +kernel
theorem dL_act_230 : decode cL_act 230 = .ok (.getfield 31, 3) := by decide +kernel
theorem dL_act_233 : decode cL_act 233 = .ok (.arraylength, 1) := by decide +kernel
theorem dL_act_234 : decode cL_act 234 = .ok (.bipush 6, 2) := by decide +kernel
theorem dL_act_236 : decode cL_act 236 = .ok (.if_icmp .eq 11, 3) := by decide +kernel
theorem dL_act_239 : decode cL_act 239 = .ok (.aload_n 1, 1) := by decide +kernel
theorem dL_act_240 : decode cL_act 240 = .ok (.iload_n 3, 1) := by decide +kernel
theorem dL_act_241 : decode cL_act 241 = .ok (.invokevirtual 34, 3) := by decide +kernel
theorem dL_act_244 : decode cL_act 244 = .ok (.ifCond .lt 5, 3) := by decide +kernel
theorem dL_act_247 : decode cL_act 247 = .ok (.iconst 1, 1) := by decide +kernel
theorem dL_act_248 : decode cL_act 248 = .ok (.ireturn, 1) := by decide +kernel
theorem dL_act_249 : decode cL_act 249 = .ok (.bipush 6, 2) := by decide +kernel
theorem dL_act_251 : decode cL_act 251 = .ok (.newarray .int, 2) := by decide +kernel
theorem dL_act_253 : decode cL_act 253 = .ok (.dup, 1) := by decide +kernel
theorem dL_act_254 : decode cL_act 254 = .ok (.iconst 0, 1) := by decide +kernel
theorem dL_act_255 : decode cL_act 255 = .ok (.iload_n 3, 1) := by decide +kernel
theorem dL_act_256 : decode cL_act 256 = .ok (.iastore, 1) := by decide +kernel
theorem dL_act_257 : decode cL_act 257 = .ok (.dup, 1) := by decide +kernel
theorem dL_act_258 : decode cL_act 258 = .ok (.iconst 1, 1) := by decide +kernel
theorem dL_act_259 : decode cL_act 259 = .ok (.iconst 0, 1) := by decide +kernel
theorem dL_act_260 : decode cL_act 260 = .ok (.iastore, 1) := by decide +kernel
theorem dL_act_261 : decode cL_act 261 = .ok (.dup, 1) := by decide +kernel
theorem dL_act_262 : decode cL_act 262 = .ok (.iconst 2, 1) := by decide +kernel
theorem dL_act_263 : decode cL_act 263 = .ok (.iconst 1, 1) := by decide +kernel
theorem dL_act_264 : decode cL_act 264 = .ok (.iload_n 2, 1) := by decide +kernel
theorem dL_act_265 : decode cL_act 265 = .ok (.iconst 3, 1) := by decide +kernel
theorem dL_act_266 : decode cL_act 266 = .ok (.ishr, 1) := by decide +kernel
theorem dL_act_267 : decode cL_act 267 = .ok (.bipush 30, 2) := by decide +kernel
theorem dL_act_269 : decode cL_act 269 = .ok (.invokestatic 9, 3) := by decide +kernel
theorem dL_act_272 : decode cL_act 272 = .ok (.iadd, 1) := by decide +kernel
theorem dL_act_273 : decode cL_act 273 = .ok (.iastore, 1) := by decide +kernel
theorem dL_act_274 : decode cL_act 274 = .ok (.dup, 1) := by decide +kernel
theorem dL_act_275 : decode cL_act 275 = .ok (.iconst 3, 1) := by decide +kernel
theorem dL_act_276 : decode cL_act 276 = .ok (.iload_n 2, 1) := by decide +kernel
theorem dL_act_277 : decode cL_act 277 = .ok (.iconst 2, 1) := by decide +kernel
theorem dL_act_278 : decode cL_act 278 = .ok (.ishr, 1) := by decide +kernel
theorem dL_act_279 : decode cL_act 279 = .ok (.iconst 2, 1) := by decide +kernel
theorem dL_act_280 : decode cL_act 280 = .ok (.invokestatic 9, 3) := by decide +kernel
theorem dL_act_283 : decode cL_act 283 = .ok (.iastore, 1) := by decide +kernel
theorem dL_act_284 : decode cL_act 284 = .ok (.dup, 1) := by decide +kernel
theorem dL_act_285 : decode cL_act 285 = .ok (.iconst 4, 1) := by decide +kernel
theorem dL_act_286 : decode cL_act 286 = .ok (.iconst 0, 1) := by decide +kernel
theorem dL_act_287 : decode cL_act 287 = .ok (.iastore, 1) := by decide +kernel
theorem dL_act_288 : decode cL_act 288 = .ok (.dup, 1) := by decide +kernel
theorem dL_act_289 : decode cL_act 289 = .ok (.iconst 5, 1) := by decide +kernel
theorem dL_act_290 : decode cL_act 290 = .ok (.iconst 0, 1) := by decide +kernel
theorem dL_act_291 : decode cL_act 291 = .ok (.iastore, 1) := by decide +kernel
theorem dL_act_292 : decode cL_act 292 = .ok (.astore 7, 2) := by decide +kernel
theorem dL_act_294 : decode cL_act 294 = .ok (.aload_n 1, 1) := by decide +kernel
theorem dL_act_295 : decode cL_act 295 = .ok (.aload_n 1, 1) := by decide +kernel
theorem dL_act_296 : decode cL_act 296 = .ok (.getfield 31, 3) := by decide +kernel
theorem dL_act_299 : decode cL_act 299 = .ok (.aload 7, 2) := by decide +kernel
theorem dL_act_301 : decode cL_act 301 = .ok (.invokestatic 21, 3) := by decide +kernel
theorem dL_act_304 : decode cL_act 304 = .ok (.putfield 31, 3) := by decide +kernel
theorem dL_act_307 : decode cL_act 307 = .ok (.aload_n 0, 1) := by decide +kernel
theorem dL_act_308 : decode cL_act 308 = .ok (.iload_n 3, 1) := by decide +kernel
theorem dL_act_309 : decode cL_act 309 = .ok (.aload 7, 2) := by decide +kernel
theorem dL_act_311 : decode cL_act 311 = .ok (.iconst 2, 1) := by decide +kernel
theorem dL_act_312 : decode cL_act 312 = .ok (.iaload, 1) := by decide +kernel
theorem dL_act_313 : decode cL_act 313 = .ok (.aload 7, 2) := by decide +kernel
theorem dL_act_315 : decode cL_act 315 = .ok (.iconst 3, 1) := by decide +kernel
theorem dL_act_316 : decode cL_act 316 = .ok (.iaload, 1) := by decide +kernel
theorem dL_act_317 : decode cL_act 317 = .ok (.ifCond .ne 7, 3) := by decide +kernel
theorem dL_act_320 : decode cL_act 320 = .ok (.iconst 1, 1) := by decide +kernel
theorem dL_act_321 : decode cL_act 321 = .ok (.goto 4, 3) := by decide +kernel
theorem dL_act_324 : decode cL_act 324 = .ok (.iconst 0, 1) := by decide +kernel
theorem dL_act_325 : decode cL_act 325 = .ok (.invokevirtual 38, 3) := by decide +kernel
theorem dL_act_328 : decode cL_act 328 = .ok (.aload_n 1, 1) := by decide +kernel
theorem dL_act_329 : decode cL_act 329 = .ok (.getfield 31, 3) := by decide +kernel
theorem dL_act_332 : decode cL_act 332 = .ok (.arraylength, 1) := by decide +kernel
theorem dL_act_333 : decode cL_act 333 = .ok (.iconst 1, 1) := by decide +kernel
theorem dL_act_334 : decode cL_act 334 = .ok (.isub, 1) := by decide +kernel
theorem dL_act_335 : decode cL_act 335 = .ok (.if_icmp .ne 7, 3) := by decide +kernel
theorem dL_act_338 : decode cL_act 338 = .ok (.iconst 1, 1) := by decide +kernel
theorem dL_act_339 : decode cL_act 339 = .ok (.goto 4, 3) := by decide +kernel
theorem dL_act_342 : decode cL_act 342 = .ok (.iconst 0, 1) := by decide +kernel
theorem dL_act_343 : decode cL_act 343 = .ok (.ireturn, 1) := by decide +kernel
theorem dL_act_344 : decode cL_act 344 = .ok (.aload_n 1, 1) := by decide +kernel
theorem dL_act_345 : decode cL_act 345 = .ok (.getfield 42, 3) := by decide +kernel
theorem dL_act_348 : decode cL_act 348 = .ok (.arraylength, 1) := by decide +kernel
theorem dL_act_349 : decode cL_act 349 = .ok (.iconst 4, 1) := by decide +kernel
theorem dL_act_350 : decode cL_act 350 = .ok (.if_icmp .ne 5, 3) := by decide +kernel
theorem dL_act_353 : decode cL_act 353 = .ok (.iconst 1, 1) := by decide +kernel
theorem dL_act_354 : decode cL_act 354 = .ok (.ireturn, 1) := by decide +kernel
theorem dL_act_355 : decode cL_act 355 = .ok (.iconst 2, 1) := by decide +kernel
theorem dL_act_356 : decode cL_act 356 = .ok (.iload_n 2, 1) := by decide +kernel
theorem dL_act_357 : decode cL_act 357 = .ok (.iconst 1, 1) := by decide +kernel
end
section
theorem dL_act_358 : decode cL_act 358 = .ok (.ishr, 1) := by decide +kernel
theorem dL_act_359 : decode cL_act 359 = .ok (.bipush 29, 2) := by decide +kernel
theorem dL_act_361 : decode cL_act 361 = .ok (.invokestatic 9, 3) := by decide +kernel
theorem dL_act_364 : decode cL_act 364 = .ok (.iadd, 1) := by decide +kernel
theorem dL_act_365 : decode cL_act 365 = .ok (.istore 8, 2) := by decide +kernel
theorem dL_act_367 : decode cL_act 367 = .ok (.aload_n 1, 1) := by decide +kernel
theorem dL_act_368 : decode cL_act 368 = .ok (.aload_n 1, 1) := by decide +kernel
theorem dL_act_369 : decode cL_act 369 = .ok (.getfield 42, 3) := by decide +kernel
theorem dL_act_372 : decode cL_act 372 = .ok (.iconst 2, 1) := by decide +kernel
theorem dL_act_373 : decode cL_act 373 = .ok (.newarray .int, 2) := by decide +kernel
theorem dL_act_375 : decode cL_act 375 = .ok (.dup, 1) := by decide +kernel
theorem dL_act_376 : decode cL_act 376 = .ok (.iconst 0, 1) := by decide +kernel
theorem dL_act_377 : decode cL_act 377 = .ok (.iload 8, 2) := by decide +kernel
theorem dL_act_379 : decode cL_act 379 = .ok (.iastore, 1) := by decide +kernel
theorem dL_act_380 : decode cL_act 380 = .ok (.dup, 1) := by decide +kernel
theorem dL_act_381 : decode cL_act 381 = .ok (.iconst 1, 1) := by decide +kernel
theorem dL_act_382 : decode cL_act 382 = .ok (.iload_n 2, 1) := by decide +kernel
theorem dL_act_383 : decode cL_act 383 = .ok (.iconst 4, 1) := by decide +kernel
theorem dL_act_384 : decode cL_act 384 = .ok (.ishr, 1) := by decide +kernel
theorem dL_act_385 : decode cL_act 385 = .ok (.iload 8, 2) := by decide +kernel
theorem dL_act_387 : decode cL_act 387 = .ok (.invokestatic 9, 3) := by decide +kernel
theorem dL_act_390 : decode cL_act 390 = .ok (.iastore, 1) := by decide +kernel
theorem dL_act_391 : decode cL_act 391 = .ok (.invokestatic 21, 3) := by decide +kernel
theorem dL_act_394 : decode cL_act 394 = .ok (.putfield 42, 3) := by decide +kernel
theorem dL_act_397 : decode cL_act 397 = .ok (.aload_n 0, 1) := by decide +kernel
theorem dL_act_398 : decode cL_act 398 = .ok (.iload 8, 2) := by decide +kernel
theorem dL_act_400 : decode cL_act 400 = .ok (.iload_n 2, 1) := by decide +kernel
theorem dL_act_401 : decode cL_act 401 = .ok (.iconst 4, 1) := by decide +kernel
theorem dL_act_402 : decode cL_act 402 = .ok (.ishr, 1) := by decide +kernel
theorem dL_act_403 : decode cL_act 403 = .ok (.iload 8, 2) := by decide +kernel
theorem dL_act_405 : decode cL_act 405 = .ok (.invokestatic 9, 3) := by decide +kernel
theorem dL_act_408 : decode cL_act 408 = .ok (.invokevirtual 45, 3) := by decide +kernel
theorem dL_act_411 : decode cL_act 411 = .ok (.aload_n 1, 1) := by decide +kernel
theorem dL_act_412 : decode cL_act 412 = .ok (.getfield 42, 3) := by decide +kernel
theorem dL_act_415 : decode cL_act 415 = .ok (.arraylength, 1) := by decide +kernel
theorem dL_act_416 : decode cL_act 416 = .ok (.iconst 1, 1) := by decide +kernel
theorem dL_act_417 : decode cL_act 417 = .ok (.isub, 1) := by decide +kernel
theorem dL_act_418 : decode cL_act 418 = .ok (.if_icmp .ne 7, 3) := by decide +kernel
theorem dL_act_421 : decode cL_act 421 = .ok (.iconst 1, 1) := by decide +kernel
theorem dL_act_422 : decode cL_act 422 = .ok (.goto 4, 3) := by decide +kernel
theorem dL_act_425 : decode cL_act 425 = .ok (.iconst 0, 1) := by decide +kernel
theorem dL_act_426 : decode cL_act 426 = .ok (.ireturn, 1) := by decide +kernel
theorem dL_act_427 : decode cL_act 427 = .ok (.aload_n 1, 1) := by decide +kernel
theorem dL_act_428 : decode cL_act 428 = .ok (.getfield 48, 3) := by decide +kernel
theorem dL_act_431 : decode cL_act 431 = .ok (.istore 9, 2) := by decide +kernel
theorem dL_act_433 : decode cL_act 433 = .ok (.aload_n 1, 1) := by decide +kernel
theorem dL_act_434 : decode cL_act 434 = .ok (.iload_n 2, 1) := by decide +kernel
theorem dL_act_435 : decode cL_act 435 = .ok (.iconst 2, 1) := by decide +kernel
theorem dL_act_436 : decode cL_act 436 = .ok (.ishr, 1) := by decide +kernel
theorem dL_act_437 : decode cL_act 437 = .ok (.bipush 11, 2) := by decide +kernel
theorem dL_act_439 : decode cL_act 439 = .ok (.invokestatic 9, 3) := by decide +kernel
theorem dL_act_442 : decode cL_act 442 = .ok (.iconst 5, 1) := by decide +kernel
theorem dL_act_443 : decode cL_act 443 = .ok (.isub, 1) := by decide +kernel
theorem dL_act_444 : decode cL_act 444 = .ok (.putfield 48, 3) := by decide +kernel
theorem dL_act_447 : decode cL_act 447 = .ok (.aload_n 0, 1) := by decide +kernel
theorem dL_act_448 : decode cL_act 448 = .ok (.aload_n 1, 1) := by decide +kernel
theorem dL_act_449 : decode cL_act 449 = .ok (.getfield 48, 3) := by decide +kernel
theorem dL_act_452 : decode cL_act 452 = .ok (.invokevirtual 52, 3) := by decide +kernel
theorem dL_act_455 : decode cL_act 455 = .ok (.iload 9, 2) := by decide +kernel
theorem dL_act_457 : decode cL_act 457 = .ok (.if_icmp .ne 7, 3) := by decide +kernel
theorem dL_act_460 : decode cL_act 460 = .ok (.iconst 1, 1) := by decide +kernel
theorem dL_act_461 : decode cL_act 461 = .ok (.goto 4, 3) := by decide +kernel
theorem dL_act_464 : decode cL_act 464 = .ok (.iconst 0, 1) := by decide +kernel
theorem dL_act_465 : decode cL_act 465 = .ok (.ireturn, 1) := by decide +kernel
theorem dL_act_466 : decode cL_act 466 = .ok (.aload_n 1, 1) := by decide +kernel
theorem dL_act_467 : decode cL_act 467 = .ok (.getfield 31, 3) := by decide +kernel
theorem dL_act_470 : decode cL_act 470 = .ok (.arraylength, 1) := by decide +kernel
theorem dL_act_471 : decode cL_act 471 = .ok (.ifCond .eq 11, 3) := by decide +kernel
theorem dL_act_474 : decode cL_act 474 = .ok (.aload_n 1, 1) := by decide +kernel
theorem dL_act_475 : decode cL_act 475 = .ok (.iload_n 3, 1) := by decide +kernel
theorem dL_act_476 : decode cL_act 476 = .ok (.invokevirtual 34, 3) := by decide +kernel
theorem dL_act_479 : decode cL_act 479 = .ok (.ifCond .lt 5, 3) := by decide +kernel
theorem dL_act_482 : decode cL_act 482 = .ok (.iconst 1, 1) := by decide +kernel
theorem dL_act_483 : decode cL_act 483 = .ok (.ireturn, 1) := by decide +kernel
theorem dL_act_484 : decode cL_act 484 = .ok (.aload_n 1, 1) := by decide +kernel
theorem dL_act_485 : decode cL_act 485 = .ok (.getfield 31, 3) := by decide +kernel
theorem dL_act_488 : decode cL_act 488 = .ok (.iload_n 2, 1) := by decide +kernel
theorem dL_act_489 : decode cL_act 489 = .ok (.iconst 4, 1) := by decide +kernel
theorem dL_act_490 : decode cL_act 490 = .ok (.ishr, 1) := by decide +kernel
theorem dL_act_491 : decode cL_act 491 = .ok (.aload_n 1, 1) := by decide +kernel
theorem dL_act_492 : decode cL_act 492 = .ok (.getfield 31, 3) := by decide +kernel
theorem dL_act_495 : decode cL_act 495 = .ok (.arraylength, 1) := by decide +kernel
theorem dL_act_496 : decode cL_act 496 = .ok (.invokestatic 9, 3) := by decide +kernel
theorem dL_act_499 : decode cL_act 499 = .ok (.aaload, 1) := by decide +kernel
theorem dL_act_500 : decode cL_act 500 = .ok (.astore 10, 2) := by decide +kernel
theorem dL_act_502 : decode cL_act 502 = .ok (.aload 10, 2) := by decide +kernel
theorem dL_act_504 : decode cL_act 504 = .ok (.iconst 0, 1) := by decide +kernel
theorem dL_act_505 : decode cL_act 505 = .ok (.iaload, 1) := by decide +kernel
theorem dL_act_506 : decode cL_act 506 = .ok (.istore 11, 2) := by decide +kernel
theorem dL_act_508 : decode cL_act 508 = .ok (.aload 10, 2) := by decide +kernel
theorem dL_act_510 : decode cL_act 510 = .ok (.iconst 0, 1) := by decide +kernel
theorem dL_act_511 : decode cL_act 511 = .ok (.iload_n 3, 1) := by decide +kernel
theorem dL_act_512 : decode cL_act 512 = .ok (.iastore, 1) := by decide +kernel
theorem dL_act_513 : decode cL_act 513 = .ok (.aload 10, 2) := by decide +kernel
theorem dL_act_515 : decode cL_act 515 = .ok (.iconst 1, 1) := by decide +kernel
theorem dL_act_516 : decode cL_act 516 = .ok (.iconst 0, 1) := by decide +kernel
theorem dL_act_517 : decode cL_act 517 = .ok (.iastore, 1) := by decide +kernel
theorem dL_act_518 : decode cL_act 518 = .ok (.aload 10, 2) := by decide +kernel
theorem dL_act_520 : decode cL_act 520 = .ok (.iconst 5, 1) := by decide +kernel
theorem dL_act_521 : decode cL_act 521 = .ok (.dup2, 1) := by decide +kernel
theorem dL_act_522 : decode cL_act 522 = .ok (.iaload, 1) := by decide +kernel
theorem dL_act_523 : decode cL_act 523 = .ok (.iconst 1, 1) := by decide +kernel
theorem dL_act_524 : decode cL_act 524 = .ok (.iadd, 1) := by decide +kernel
theorem dL_act_525 : decode cL_act 525 = .ok (.iastore, 1) := by decide +kernel
theorem dL_act_526 : decode cL_act 526 = .ok (.aload_n 0, 1) := by decide +kernel
theorem dL_act_527 : decode cL_act 527 = .ok (.iload_n 2, 1) := by decide +kernel
theorem dL_act_528 : decode cL_act 528 = .ok (.iconst 4, 1) := by decide +kernel
theorem dL_act_529 : decode cL_act 529 = .ok (.ishr, 1) := by decide +kernel
theorem dL_act_530 : decode cL_act 530 = .ok (.aload_n 1, 1) := by decide +kernel
theorem dL_act_531 : decode cL_act 531 = .ok (.getfield 31, 3) := by decide +kernel
theorem dL_act_534 : decode cL_act 534 = .ok (.arraylength, 1) := by decide +kernel
theorem dL_act_535 : decode cL_act 535 = .ok (.invokestatic 9, 3) := by decide +kernel
theorem dL_act_538 : decode cL_act 538 = .ok (.iload_n 3, 1) := by decide +kernel
theorem dL_act_539 : decode cL_act 539 = .ok (.invokevirtual 55, 3) := by decide +kernel
theorem dL_act_542 : decode cL_act 542 = .ok (.iload 11, 2) := by decide +kernel
theorem dL_act_544 : decode cL_act 544 = .ok (.if_icmp .ne 7, 3) := by decide +kernel
theorem dL_act_547 : decode cL_act 547 = .ok (.iconst 1, 1) := by decide +kernel
theorem dL_act_548 : decode cL_act 548 = .ok (.goto 4, 3) := by decide +kernel
theorem dL_act_551 : decode cL_act 551 = .ok (.iconst 0, 1) := by decide +kernel
theorem dL_act_552 : decode cL_act 552 = .ok (.ireturn, 1) := by decide +kernel
theorem dL_act_553 : decode cL_act 553 = .ok (.aload_n 1, 1) := by decide +kernel
theorem dL_act_554 : decode cL_act 554 = .ok (.getfield 31, 3) := by decide +kernel
theorem dL_act_557 : decode cL_act 557 = .ok (.arraylength, 1) := by decide +kernel
theorem dL_act_558 : decode cL_act 558 = .ok (.ifCond .ne 5, 3) := by decide +kernel
theorem dL_act_561 : decode cL_act 561 = .ok (.iconst 1, 1) := by decide +kernel
theorem dL_act_562 : decode cL_act 562 = .ok (.ireturn, 1) := by decide +kernel
theorem dL_act_563 : decode cL_act 563 = .ok (.aload_n 1, 1) := by decide +kernel
theorem dL_act_564 : decode cL_act 564 = .ok (.getfield 31, 3) := by decide +kernel
theorem dL_act_567 : decode cL_act 567 = .ok (.iload_n 2, 1) := by decide +kernel
theorem dL_act_568 : decode cL_act 568 = .ok (.iconst 4, 1) := by decide +kernel
theorem dL_act_569 : decode cL_act 569 = .ok (.ishr, 1) := by decide +kernel
theorem dL_act_570 : decode cL_act 570 = .ok (.aload_n 1, 1) := by decide +kernel
theorem dL_act_571 : decode cL_act 571 = .ok (.getfield 31, 3) := by decide +kernel
theorem dL_act_574 : decode cL_act 574 = .ok (.arraylength, 1) := by decide +kernel
theorem dL_act_575 : decode cL_act 575 = .ok (.invokestatic 9, 3) := by decide +kernel
theorem dL_act_578 : decode cL_act 578 = .ok (.aaload, 1) := by decide +kernel
theorem dL_act_579 : decode cL_act 579 = .ok (.astore 12, 2) := by decide +kernel
theorem dL_act_581 : decode cL_act 581 = .ok (.aload 12, 2) := by decide +kernel
theorem dL_act_583 : decode cL_act 583 = .ok (.iconst 3, 1) := by decide +kernel
theorem dL_act_584 : decode cL_act 584 = .ok (.iconst 1, 1) := by decide +kernel
theorem dL_act_585 : decode cL_act 585 = .ok (.aload 12, 2) := by decide +kernel
theorem dL_act_587 : decode cL_act 587 = .ok (.iconst 3, 1) := by decide +kernel
theorem dL_act_588 : decode cL_act 588 = .ok (.iaload, 1) := by decide +kernel
theorem dL_act_589 : decode cL_act 589 = .ok (.isub, 1) := by decide +kernel
theorem dL_act_590 : decode cL_act 590 = .ok (.iastore, 1) := by decide +kernel
theorem dL_act_591 : decode cL_act 591 = .ok (.aload_n 0, 1) := by decide +kernel
theorem dL_act_592 : decode cL_act 592 = .ok (.iload_n 2, 1) := by decide +kernel
theorem dL_act_593 : decode cL_act 593 = .ok (.iconst 4, 1) := by decide +kernel
theorem dL_act_594 : decode cL_act 594 = .ok (.ishr, 1) := by decide +kernel
theorem dL_act_595 : decode cL_act 595 = .ok (.aload_n 1, 1) := by decide +kernel
theorem dL_act_596 : decode cL_act 596 = .ok (.getfield 31, 3) := by decide +kernel
theorem dL_act_599 : decode cL_act 599 = .ok (.arraylength, 1) := by decide +kernel
theorem dL_act_600 : decode cL_act 600 = .ok (.invokestatic 9, 3) := by decide +kernel
theorem dL_act_603 : decode cL_act 603 = .ok (.invokevirtual 58, 3) := by decide +kernel
theorem dL_act_606 : decode cL_act 606 = .ok (.aload 12, 2) := by decide +kernel
theorem dL_act_608 : decode cL_act 608 = .ok (.iconst 3, 1) := by decide +kernel
theorem dL_act_609 : decode cL_act 609 = .ok (.iaload, 1) := by decide +kernel
theorem dL_act_610 : decode cL_act 610 = .ok (.ifCond .ne 7, 3) := by decide +kernel
theorem dL_act_613 : decode cL_act 613 = .ok (.iconst 1, 1) := by decide +kernel
theorem dL_act_614 : decode cL_act 614 = .ok (.goto 4, 3) := by decide +kernel
theorem dL_act_617 : decode cL_act 617 = .ok (.iconst 0, 1) := by decide +kernel
theorem dL_act_618 : decode cL_act 618 = .ok (.if_icmp .ne 7, 3) := by decide +kernel
theorem dL_act_621 : decode cL_act 621 = .ok (.iconst 1, 1) := by decide +kernel
theorem dL_act_622 : decode cL_act 622 = .ok (.goto 4, 3) := by decide +kernel
theorem dL_act_625 : decode cL_act 625 = .ok (.iconst 0, 1) := by decide +kernel
theorem dL_act_626 : decode cL_act 626 = .ok (.ireturn, 1) := by decide +kernel
theorem dL_act_627 : decode cL_act 627 = .ok (.aload_n 1, 1) := by decide +kernel
theorem dL_act_628 : decode cL_act 628 = .ok (.getfield 15, 3) := by decide +kernel
theorem dL_act_631 : decode cL_act 631 = .ok (.arraylength, 1) := by decide +kernel
theorem dL_act_632 : decode cL_act 632 = .ok (.ifCond .ne 5, 3) := by decide +kernel
theorem dL_act_635 : decode cL_act 635 = .ok (.iconst 1, 1) := by decide +kernel
theorem dL_act_636 : decode cL_act 636 = .ok (.ireturn, 1) := by decide +kernel
theorem dL_act_637 : decode cL_act 637 = .ok (.aload_n 1, 1) := by decide +kernel
theorem dL_act_638 : decode cL_act 638 = .ok (.getfield 15, 3) := by decide +kernel
theorem dL_act_641 : decode cL_act 641 = .ok (.iload_n 2, 1) := by decide +kernel
theorem dL_act_642 : decode cL_act 642 = .ok (.iconst 4, 1) := by decide +kernel
theorem dL_act_643 : decode cL_act 643 = .ok (.ishr, 1) := by decide +kernel
theorem dL_act_644 : decode cL_act 644 = .ok (.aload_n 1, 1) := by decide +kernel
theorem dL_act_645 : decode cL_act 645 = .ok (.getfield 15, 3) := by decide +kernel
theorem dL_act_648 : decode cL_act 648 = .ok (.arraylength, 1) := by decide +kernel
theorem dL_act_649 : decode cL_act 649 = .ok (.invokestatic 9, 3) := by decide +kernel
theorem dL_act_652 : decode cL_act 652 = .ok (.aaload, 1) := by decide +kernel
theorem dL_act_653 : decode cL_act 653 = .ok (.astore 13, 2) := by decide +kernel
theorem dL_act_655 : decode cL_act 655 = .ok (.aload_n 1, 1) := by decide +kernel
theorem dL_act_656 : decode cL_act 656 = .ok (.aload 13, 2) := by decide +kernel
theorem dL_act_658 : decode cL_act 658 = .ok (.invokevirtual 62, 3) := by decide +kernel
theorem dL_act_661 : decode cL_act 661 = .ok (.iconst 0, 1) := by decide +kernel
theorem dL_act_662 : decode cL_act 662 = .ok (.iaload, 1) := by decide +kernel
theorem dL_act_663 : decode cL_act 663 = .ok (.istore 14, 2) := by decide +kernel
theorem dL_act_665 : decode cL_act 665 = .ok (.iconst 0, 1) := by decide +kernel
theorem dL_act_666 : decode cL_act 666 = .ok (.istore 15, 2) := by decide +kernel
theorem dL_act_668 : decode cL_act 668 = .ok (.iload 15, 2) := by decide +kernel
theorem dL_act_670 : decode cL_act 670 = .ok (.aload 13, 2) := by decide +kernel
theorem dL_act_672 : decode cL_act 672 = .ok (.iconst 2, 1) := by decide +kernel
theorem dL_act_673 : decode cL_act 673 = .ok (.iaload, 1) := by decide +kernel
theorem dL_act_674 : decode cL_act 674 = .ok (.if_icmp .ge 48, 3) := by decide +kernel
theorem dL_act_677 : decode cL_act 677 = .ok (.iconst 0, 1) := by decide +kernel
theorem dL_act_678 : decode cL_act 678 = .ok (.istore 16, 2) := by decide +kernel
theorem dL_act_680 : decode cL_act 680 = .ok (.iload 16, 2) := by decide +kernel
theorem dL_act_682 : decode cL_act 682 = .ok (.aload 13, 2) := by decide +kernel
theorem dL_act_684 : decode cL_act 684 = .ok (.iconst 3, 1) := by decide +kernel
theorem dL_act_685 : decode cL_act 685 = .ok (.iaload, 1) := by decide +kernel
theorem dL_act_686 : decode cL_act 686 = .ok (.if_icmp .ge 30, 3) := by decide +kernel
theorem dL_act_689 : decode cL_act 689 = .ok (.aload_n 1, 1) := by decide +kernel
theorem dL_act_690 : decode cL_act 690 = .ok (.getfield 66, 3) := by decide +kernel
theorem dL_act_693 : decode cL_act 693 = .ok (.aload 13, 2) := by decide +kernel
theorem dL_act_695 : decode cL_act 695 = .ok (.iconst 0, 1) := by decide +kernel
theorem dL_act_696 : decode cL_act 696 = .ok (.iaload, 1) := by decide +kernel
theorem dL_act_697 : decode cL_act 697 = .ok (.iload 15, 2) := by decide +kernel
theorem dL_act_699 : decode cL_act 699 = .ok (.iadd, 1) := by decide +kernel
theorem dL_act_700 : decode cL_act 700 = .ok (.aaload, 1) := by decide +kernel
theorem dL_act_701 : decode cL_act 701 = .ok (.aload 13, 2) := by decide +kernel
theorem dL_act_703 : decode cL_act 703 = .ok (.iconst 1, 1) := by decide +kernel
theorem dL_act_704 : decode cL_act 704 = .ok (.iaload, 1) := by decide +kernel
theorem dL_act_705 : decode cL_act 705 = .ok (.iload 16, 2) := by decide +kernel
theorem dL_act_707 : decode cL_act 707 = .ok (.iadd, 1) := by decide +kernel
theorem dL_act_708 : decode cL_act 708 = .ok (.iconst 0, 1) := by decide +kernel
theorem dL_act_709 : decode cL_act 709 = .ok (.iastore, 1) := by decide +kernel
theorem dL_act_710 : decode cL_act 710 = .ok (.iinc 16 1, 3) := by decide +kernel
theorem dL_act_713 : decode cL_act 713 = .ok (.goto (-33), 3) := by decide +kernel
theorem dL_act_716 : decode cL_act 716 = .ok (.iinc 15 1, 3) := by decide +kernel
theorem dL_act_719 : decode cL_act 719 = .ok (.goto (-51), 3) := by decide +kernel
theorem dL_act_722 : decode cL_act 722 = .ok (.aload_n 0, 1) := by decide +kernel
theorem dL_act_723 : decode cL_act 723 = .ok (.iload_n 2, 1) := by decide +kernel
theorem dL_act_724 : decode cL_act 724 = .ok (.iconst 4, 1) := by decide +kernel
theorem dL_act_725 : decode cL_act 725 = .ok (.ishr, 1) := by decide +kernel
theorem dL_act_726 : decode cL_act 726 = .ok (.aload_n 1, 1) := by decide +kernel
theorem dL_act_727 : decode cL_act 727 = .ok (.getfield 15, 3) := by decide +kernel
theorem dL_act_730 : decode cL_act 730 = .ok (.arraylength, 1) := by decide +kernel
theorem dL_act_731 : decode cL_act 731 = .ok (.invokestatic 9, 3) := by decide +kernel
theorem dL_act_734 : decode cL_act 734 = .ok (.invokevirtual 69, 3) := by decide +kernel
theorem dL_act_737 : decode cL_act 737 = .ok (.iload 14, 2) := by decide +kernel
theorem dL_act_739 : decode cL_act 739 = .ok (.if_icmp .ne 7, 3) := by decide +kernel
theorem dL_act_742 : decode cL_act 742 = .ok (.iconst 1, 1) := by decide +kernel
theorem dL_act_743 : decode cL_act 743 = .ok (.goto 4, 3) := by decide +kernel
theorem dL_act_746 : decode cL_act 746 = .ok (.iconst 0, 1) := by decide +kernel
theorem dL_act_747 : decode cL_act 747 = .ok (.ireturn, 1) := by decide +kernel
theorem dL_act_748 : decode cL_act 748 = .ok (.iconst 1, 1) := by decide +kernel
theorem dL_act_749 : decode cL_act 749 = .ok (.iload_n 2, 1) := by decide +kernel
theorem dL_act_750 : decode cL_act 750 = .ok (.iconst 2, 1) := by decide +kernel
theorem dL_act_751 : decode cL_act 751 = .ok (.ishr, 1) := by decide +kernel
theorem dL_act_752 : decode cL_act 752 = .ok (.iconst 4, 1) := by decide +kernel
theorem dL_act_753 : decode cL_act 753 = .ok (.invokestatic 9, 3) := by decide +kernel
theorem dL_act_756 : decode cL_act 756 = .ok (.iadd, 1) := by decide +kernel
theorem dL_act_757 : decode cL_act 757 = .ok (.istore 15, 2) := by decide +kernel
theorem dL_act_759 : decode cL_act 759 = .ok (.aload_n 1, 1) := by decide +kernel
theorem dL_act_760 : decode cL_act 760 = .ok (.getfield 72, 3) := by decide +kernel
theorem dL_act_763 : decode cL_act 763 = .ok (.istore 16, 2) := by decide +kernel
theorem dL_act_765 : decode cL_act 765 = .ok (.aload_n 1, 1) := by decide +kernel
theorem dL_act_766 : decode cL_act 766 = .ok (.iload 15, 2) := by decide +kernel
theorem dL_act_768 : decode cL_act 768 = .ok (.invokevirtual 75, 3) := by decide +kernel
theorem dL_act_771 : decode cL_act 771 = .ok (.pop, 1) := by decide +kernel
theorem dL_act_772 : decode cL_act 772 = .ok (.aload_n 0, 1) := by decide +kernel
theorem dL_act_773 : decode cL_act 773 = .ok (.iload 15, 2) := by decide +kernel
theorem dL_act_775 : decode cL_act 775 = .ok (.invokevirtual 79, 3) := by decide +kernel
theorem dL_act_778 : decode cL_act 778 = .ok (.aload_n 1, 1) := by decide +kernel
theorem dL_act_779 : decode cL_act 779 = .ok (.getfield 72, 3) := by decide +kernel
theorem dL_act_782 : decode cL_act 782 = .ok (.iload 16, 2) := by decide +kernel
theorem dL_act_784 : decode cL_act 784 = .ok (.isub, 1) := by decide +kernel
theorem dL_act_785 : decode cL_act 785 = .ok (.if_icmp .ne 7, 3) := by decide +kernel
theorem dL_act_788 : decode cL_act 788 = .ok (.iconst 1, 1) := by decide +kernel
theorem dL_act_789 : decode cL_act 789 = .ok (.goto 4, 3) := by decide +kernel
theorem dL_act_792 : decode cL_act 792 = .ok (.iconst 0, 1) := by decide +kernel
theorem dL_act_793 : decode cL_act 793 = .ok (.ireturn, 1) := by decide +kernel
set_option maxRecDepth 20000 in
theorem ggL_build_X6_init : GoodIn wsL_build wsX6_init := goodIn_r _ [5, 6, 7, 8, 9, 10, 11, 12, 13, 14, 15, 238, 239, 240, 241, 242, 243, 244, 245] (by decide +kernel) (by decide +kernel)
set_option maxRecDepth 20000 in
theorem gL_build_X6_init_n82 : GoodIn wsL_build (wsX6_init) := ggL_build_X6_init
set_option maxRecDepth 20000 in
theorem ggL_build_L_cell : GoodIn wsL_build wsL_cell := goodIn_r _ [19, 20] (by decide +kernel) (by decide +kernel)
set_option maxRecDepth 20000 in
theorem gL_build_L_cell : GoodIn wsL_build (va_wsS RL 83 yL_cell wsL_cell) := goodIn_app (goodIn_of _ (by decide +kernel)) ggL_build_L_cell
set_option maxRecDepth 20000 in
theorem ggL_build_L_below : GoodIn wsL_build wsL_below := goodIn_r _ [23, 24] (by decide +kernel) (by decide +kernel)
set_option maxRecDepth 20000 in
theorem gL_build_L_below : GoodIn wsL_build (va_wsS RL 9 yL_below wsL_below) := goodIn_app (goodIn_of _ (by decide +kernel)) ggL_build_L_below
theorem dL_build_0 : decode cL_build 0 = .ok (.new 16, 3) := by decide +kernel
theorem dL_build_3 : decode cL_build 3 = .ok (.dup, 1) := by decide +kernel
theorem dL_build_4 : decode cL_build 4 = .ok (.invokespecial 82, 3) := by decide +kernel
theorem dL_build_7 : decode cL_build 7 = .ok (.astore_n 2, 1) := by decide +kernel
theorem dL_build_8 : decode cL_build 8 = .ok (.bipush 24, 2) := by decide +kernel
theorem dL_build_10 : decode cL_build 10 = .ok (.aload_n 1, 1) := by decide +kernel
theorem dL_build_11 : decode cL_build 11 = .ok (.iconst 0, 1) := by decide +kernel
theorem dL_build_12 : decode cL_build 12 = .ok (.invokestatic 83, 3) := by decide +kernel
theorem dL_build_15 : decode cL_build 15 = .ok (.bipush 40, 2) := by decide +kernel
theorem dL_build_17 : decode cL_build 17 = .ok (.invokestatic 9, 3) := by decide +kernel
theorem dL_build_20 : decode cL_build 20 = .ok (.iadd, 1) := by decide +kernel
theorem dL_build_21 : decode cL_build 21 = .ok (.istore_n 3, 1) := by decide +kernel
theorem dL_build_22 : decode cL_build 22 = .ok (.iconst 0, 1) := by decide +kernel
theorem dL_build_23 : decode cL_build 23 = .ok (.istore 4, 2) := by decide +kernel
theorem dL_build_25 : decode cL_build 25 = .ok (.iload 4, 2) := by decide +kernel
theorem dL_build_27 : decode cL_build 27 = .ok (.iload_n 3, 1) := by decide +kernel
theorem dL_build_28 : decode cL_build 28 = .ok (.if_icmp .ge 43, 3) := by decide +kernel
theorem dL_build_31 : decode cL_build 31 = .ok (.aload_n 0, 1) := by decide +kernel
theorem dL_build_32 : decode cL_build 32 = .ok (.aload_n 2, 1) := by decide +kernel
theorem dL_build_33 : decode cL_build 33 = .ok (.aload_n 1, 1) := by decide +kernel
theorem dL_build_34 : decode cL_build 34 = .ok (.iload 4, 2) := by decide +kernel
theorem dL_build_36 : decode cL_build 36 = .ok (.bipush 16, 2) := by decide +kernel
theorem dL_build_38 : decode cL_build 38 = .ok (.irem, 1) := by decide +kernel
theorem dL_build_39 : decode cL_build 39 = .ok (.invokestatic 83, 3) := by decide +kernel
theorem dL_build_42 : decode cL_build 42 = .ok (.iload 4, 2) := by decide +kernel
theorem dL_build_44 : decode cL_build 44 = .ok (.bipush 16, 2) := by decide +kernel
theorem dL_build_46 : decode cL_build 46 = .ok (.idiv, 1) := by decide +kernel
theorem dL_build_47 : decode cL_build 47 = .ok (.iconst 3, 1) := by decide +kernel
theorem dL_build_48 : decode cL_build 48 = .ok (.imul, 1) := by decide +kernel
theorem dL_build_49 : decode cL_build 49 = .ok (.ishr, 1) := by decide +kernel
theorem dL_build_50 : decode cL_build 50 = .ok (.sipush 491, 3) := by decide +kernel
theorem dL_build_53 : decode cL_build 53 = .ok (.iload 4, 2) := by decide +kernel
theorem dL_build_55 : decode cL_build 55 = .ok (.imul, 1) := by decide +kernel
theorem dL_build_56 : decode cL_build 56 = .ok (.iadd, 1) := by decide +kernel
theorem dL_build_57 : decode cL_build 57 = .ok (.invokestatic 87, 3) := by decide +kernel
theorem dL_build_60 : decode cL_build 60 = .ok (.ifCond .ne 5, 3) := by decide +kernel
theorem dL_build_63 : decode cL_build 63 = .ok (.aconst_null, 1) := by decide +kernel
theorem dL_build_64 : decode cL_build 64 = .ok (.areturn, 1) := by decide +kernel
theorem dL_build_65 : decode cL_build 65 = .ok (.iinc 4 1, 3) := by decide +kernel
theorem dL_build_68 : decode cL_build 68 = .ok (.goto (-43), 3) := by decide +kernel
theorem dL_build_71 : decode cL_build 71 = .ok (.aload_n 2, 1) := by decide +kernel
theorem dL_build_72 : decode cL_build 72 = .ok (.areturn, 1) := by decide +kernel
set_option maxRecDepth 20000 in
theorem ggL_law_X5_init : GoodIn wsL_law wsX5_init := goodIn_r _ [14, 15, 16, 17, 18, 19, 20, 21, 22, 23, 24, 25, 26, 27, 28, 29, 30, 31, 32, 33, 34, 3, 35, 36, 37, 38, 39, 40, 41, 42, 43, 44, 45, 46, 47, 48, 49, 50, 51, 52, 53, 54, 55, 56, 57, 58, 59, 60, 61, 62, 63, 64, 65, 66, 67, 68, 69, 70, 71, 11, 72, 73, 74, 363, 364, 365, 366, 367, 368, 359, 360, 361, 362, 369, 370, 371, 372, 373, 374, 375, 376, 377, 378, 379, 380, 381, 382, 383, 384, 385] (by decide +kernel) (by decide +kernel)
set_option maxRecDepth 20000 in
theorem gL_law_X5_init : GoodIn wsL_law (wsX5_init) := ggL_law_X5_init
set_option maxRecDepth 20000 in
theorem ggL_law_L_cell : GoodIn wsL_law wsL_cell := goodIn_r _ [93, 94] (by decide +kernel) (by decide +kernel)
set_option maxRecDepth 20000 in
theorem gL_law_L_cell : GoodIn wsL_law (va_wsS RL 83 yL_cell wsL_cell) := goodIn_app (goodIn_of _ (by decide +kernel)) ggL_law_L_cell
set_option maxRecDepth 20000 in
theorem ggL_law_X5_count : GoodIn wsL_law wsX5_count := goodIn_ca (goodIn_r _ [278, 117, 118, 279, 280, 281, 2, 282, 29, 21, 25, 283, 284, 285, 51, 286, 64, 287, 288, 289, 290, 291, 292, 293, 55, 294, 68, 73, 295, 240, 241, 20, 242, 34, 243, 244, 245, 246, 39, 247, 5, 6, 7, 248, 249, 250, 251, 37, 38, 252, 253, 254, 255, 35, 36, 256, 257, 258, 259, 359, 360, 361, 362, 372, 373, 374, 375, 376, 377, 363, 364, 365, 366, 367, 368, 379, 380, 381, 382, 383, 384, 385, 369, 370, 371, 378] (by decide +kernel) (by decide +kernel)) (goodIn_sub (fun _ h => List.mem_append_left _ (List.mem_append_right _ h)) (by decide +kernel))
set_option maxRecDepth 20000 in
theorem gL_law_X5_count : GoodIn wsL_law (wsV RL 96 RX5 yX5_count wsX5_count) := goodIn_app (goodIn_of _ (by decide +kernel)) ggL_law_X5_count
set_option maxRecDepth 20000 in
theorem ggL_law_X5_told : GoodIn wsL_law wsX5_told := goodIn_ca (goodIn_r _ [299, 117, 118, 29, 160, 161, 162, 2, 163, 300, 301, 302, 55, 303, 69, 70, 71, 72, 73, 74, 359, 360, 361, 362, 372, 373, 374, 375, 376, 377, 379, 380, 381, 382, 383, 384, 385] (by decide +kernel) (by decide +kernel)) (goodIn_sub (fun _ h => List.mem_append_left _ (List.mem_append_right _ h)) (by decide +kernel))
set_option maxRecDepth 20000 in
theorem gL_law_X5_told : GoodIn wsL_law (wsV RL 99 RX5 yX5_told wsX5_told) := goodIn_app (goodIn_of _ (by decide +kernel)) ggL_law_X5_told
set_option maxRecDepth 20000 in
theorem ggL_law_X5_soot : GoodIn wsL_law wsX5_soot := goodIn_ca (goodIn_r _ [307, 117, 118, 29, 133, 134, 2, 135, 308, 257, 258, 51, 259, 64, 359, 360, 361, 362, 372, 373, 374, 375, 376, 377, 378] (by decide +kernel) (by decide +kernel)) (goodIn_sub (fun _ h => List.mem_append_left _ (List.mem_append_right _ h)) (by decide +kernel))
set_option maxRecDepth 20000 in
theorem gL_law_X5_soot : GoodIn wsL_law (wsV RL 102 RX5 yX5_soot wsX5_soot) := goodIn_app (goodIn_of _ (by decide +kernel)) ggL_law_X5_soot
set_option maxRecDepth 20000 in
theorem ggL_law_X5_isFeast : GoodIn wsL_law wsX5_isFeast := goodIn_ca (goodIn_r _ [312, 115, 116, 25, 29, 313, 236, 237, 24, 238, 43, 44, 45, 359, 360, 361, 362, 372, 373, 374, 375, 376, 377, 369, 370, 371] (by decide +kernel) (by decide +kernel)) (goodIn_sub (fun _ h => List.mem_append_left _ (List.mem_append_left _ (List.mem_append_right _ h))) (by decide +kernel))
set_option maxRecDepth 20000 in
theorem gL_law_X5_isFeast : GoodIn wsL_law (wsV RL 104 RX5 yX5_isFeast wsX5_isFeast) := goodIn_app (goodIn_of _ (by decide +kernel)) ggL_law_X5_isFeast
set_option maxRecDepth 20000 in
theorem ggL_law_X5_pass : GoodIn wsL_law wsX5_pass := goodIn_ca (goodIn_r _ [218, 115, 116, 29, 21, 25, 219, 220, 221, 28, 222, 223, 224, 225, 226, 52, 57, 58, 59, 60, 56, 227, 228, 229, 51, 230, 64, 192, 9, 6, 10, 231, 232, 233, 234, 5, 7, 235, 236, 237, 24, 238, 43, 44, 45, 239, 240, 241, 20, 242, 34, 243, 244, 245, 246, 39, 247, 248, 249, 250, 251, 37, 38, 252, 253, 254, 255, 35, 36, 256, 257, 258, 259, 260, 261, 262, 55, 263, 68, 264, 265, 266, 267, 71, 69, 70, 73, 268, 189, 190, 191, 269, 270, 271, 272, 72, 273, 137, 138, 139, 274, 165, 166, 167, 74, 359, 360, 361, 362, 372, 373, 374, 375, 376, 377, 378, 369, 370, 371, 363, 364, 365, 366, 367, 368, 379, 380, 381, 382, 383, 384, 385] (by decide +kernel) (by decide +kernel)) (goodIn_sub (fun _ h => List.mem_append_left _ (List.mem_append_left _ (List.mem_append_right _ h))) (by decide +kernel))
set_option maxRecDepth 20000 in
theorem gL_law_X5_pass : GoodIn wsL_law (wsV RL 79 RX5 yX5_pass wsX5_pass) := goodIn_app (goodIn_of _ (by decide +kernel)) ggL_law_X5_pass
set_option maxRecDepth 20000 in
theorem ggL_law_X6_pass : GoodIn wsL_law wsX6_pass := goodIn_r _ [200, 201, 86, 202, 203, 204, 89, 205, 206, 207, 81, 208, 90, 209, 210, 211, 212, 88, 213, 173, 174, 175, 3, 214, 126, 127, 128, 386, 387, 388, 389, 390, 391, 392, 393] (by decide +kernel) (by decide +kernel)
set_option maxRecDepth 20000 in
theorem gL_law_X6_pass : GoodIn wsL_law (wsV RL 107 RX6 yX6_pass wsX6_pass) := goodIn_app (goodIn_of _ (by decide +kernel)) ggL_law_X6_pass
set_option maxRecDepth 20000 in
theorem ggL_law_X5_about : GoodIn wsL_law wsX5_about := goodIn_ca (goodIn_r _ [318, 117, 118, 21, 29, 180, 181, 182, 2, 183, 319, 320, 321, 20, 322, 35, 36, 37, 38, 39, 252, 253, 254, 255, 256, 257, 258, 51, 259, 64, 323, 324, 325, 326, 247, 5, 6, 7, 243, 244, 245, 246, 248, 249, 250, 251, 359, 360, 361, 362, 372, 373, 374, 375, 376, 377, 363, 364, 365, 366, 367, 368, 378] (by decide +kernel) (by decide +kernel)) (goodIn_sub (fun _ h => List.mem_append_left _ (List.mem_append_right _ h)) (by decide +kernel))
set_option maxRecDepth 20000 in
theorem gL_law_X5_about : GoodIn wsL_law (wsV RL 117 RX5 yX5_about wsX5_about) := goodIn_app (goodIn_of _ (by decide +kernel)) ggL_law_X5_about
theorem dL_law_0 : decode cL_law 0 = .ok (.new 26, 3) := by decide +kernel
theorem dL_law_3 : decode cL_law 3 = .ok (.dup, 1) := by decide +kernel
theorem dL_law_4 : decode cL_law 4 = .ok (.invokespecial 91, 3) := by decide +kernel
theorem dL_law_7 : decode cL_law 7 = .ok (.astore_n 1, 1) := by decide +kernel
theorem dL_law_8 : decode cL_law 8 = .ok (.aload_n 1, 1) := by decide +kernel
theorem dL_law_9 : decode cL_law 9 = .ok (.aload_n 0, 1) := by decide +kernel
theorem dL_law_10 : decode cL_law 10 = .ok (.invokestatic 92, 3) := by decide +kernel
theorem dL_law_13 : decode cL_law 13 = .ok (.astore_n 2, 1) := by decide +kernel
theorem dL_law_14 : decode cL_law 14 = .ok (.aload_n 2, 1) := by decide +kernel
theorem dL_law_15 : decode cL_law 15 = .ok (.ifnonnull 5, 3) := by decide +kernel
theorem dL_law_18 : decode cL_law 18 = .ok (.iconst 0, 1) := by decide +kernel
theorem dL_law_19 : decode cL_law 19 = .ok (.ireturn, 1) := by decide +kernel
theorem dL_law_20 : decode cL_law 20 = .ok (.iconst 0, 1) := by decide +kernel
theorem dL_law_21 : decode cL_law 21 = .ok (.istore_n 3, 1) := by decide +kernel
theorem dL_law_22 : decode cL_law 22 = .ok (.iload_n 3, 1) := by decide +kernel
theorem dL_law_23 : decode cL_law 23 = .ok (.bipush 24, 2) := by decide +kernel
theorem dL_law_25 : decode cL_law 25 = .ok (.if_icmp .ge 713, 3) := by decide +kernel
theorem dL_law_28 : decode cL_law 28 = .ok (.aload_n 0, 1) := by decide +kernel
theorem dL_law_29 : decode cL_law 29 = .ok (.iload_n 3, 1) := by decide +kernel
theorem dL_law_30 : decode cL_law 30 = .ok (.bipush 16, 2) := by decide +kernel
theorem dL_law_32 : decode cL_law 32 = .ok (.irem, 1) := by decide +kernel
theorem dL_law_33 : decode cL_law 33 = .ok (.invokestatic 83, 3) := by decide +kernel
theorem dL_law_36 : decode cL_law 36 = .ok (.iload_n 3, 1) := by decide +kernel
theorem dL_law_37 : decode cL_law 37 = .ok (.bipush 16, 2) := by decide +kernel
theorem dL_law_39 : decode cL_law 39 = .ok (.idiv, 1) := by decide +kernel
theorem dL_law_40 : decode cL_law 40 = .ok (.iconst 3, 1) := by decide +kernel
theorem dL_law_41 : decode cL_law 41 = .ok (.imul, 1) := by decide +kernel
theorem dL_law_42 : decode cL_law 42 = .ok (.ishr, 1) := by decide +kernel
theorem dL_law_43 : decode cL_law 43 = .ok (.sipush 491, 3) := by decide +kernel
theorem dL_law_46 : decode cL_law 46 = .ok (.iload_n 3, 1) := by decide +kernel
theorem dL_law_47 : decode cL_law 47 = .ok (.imul, 1) := by decide +kernel
theorem dL_law_48 : decode cL_law 48 = .ok (.iadd, 1) := by decide +kernel
theorem dL_law_49 : decode cL_law 49 = .ok (.istore 4, 2) := by decide +kernel
theorem dL_law_51 : decode cL_law 51 = .ok (.aload_n 1, 1) := by decide +kernel
theorem dL_law_52 : decode cL_law 52 = .ok (.aload_n 2, 1) := by decide +kernel
theorem dL_law_53 : decode cL_law 53 = .ok (.iload 4, 2) := by decide +kernel
theorem dL_law_55 : decode cL_law 55 = .ok (.invokestatic 87, 3) := by decide +kernel
theorem dL_law_58 : decode cL_law 58 = .ok (.ifCond .ne 5, 3) := by decide +kernel
theorem dL_law_61 : decode cL_law 61 = .ok (.iconst 0, 1) := by decide +kernel
theorem dL_law_62 : decode cL_law 62 = .ok (.ireturn, 1) := by decide +kernel
theorem dL_law_63 : decode cL_law 63 = .ok (.aload_n 1, 1) := by decide +kernel
theorem dL_law_64 : decode cL_law 64 = .ok (.iconst 2, 1) := by decide +kernel
theorem dL_law_65 : decode cL_law 65 = .ok (.invokevirtual 96, 3) := by decide +kernel
theorem dL_law_68 : decode cL_law 68 = .ok (.istore 5, 2) := by decide +kernel
theorem dL_law_70 : decode cL_law 70 = .ok (.iload 5, 2) := by decide +kernel
theorem dL_law_72 : decode cL_law 72 = .ok (.newarray .int, 2) := by decide +kernel
theorem dL_law_74 : decode cL_law 74 = .ok (.astore 6, 2) := by decide +kernel
theorem dL_law_76 : decode cL_law 76 = .ok (.iload 5, 2) := by decide +kernel
theorem dL_law_78 : decode cL_law 78 = .ok (.newarray .int, 2) := by decide +kernel
theorem dL_law_80 : decode cL_law 80 = .ok (.astore 7, 2) := by decide +kernel
theorem dL_law_82 : decode cL_law 82 = .ok (.iconst 0, 1) := by decide +kernel
theorem dL_law_83 : decode cL_law 83 = .ok (.istore 8, 2) := by decide +kernel
theorem dL_law_85 : decode cL_law 85 = .ok (.iload 8, 2) := by decide +kernel
theorem dL_law_87 : decode cL_law 87 = .ok (.iload 5, 2) := by decide +kernel
theorem dL_law_89 : decode cL_law 89 = .ok (.if_icmp .ge 33, 3) := by decide +kernel
theorem dL_law_92 : decode cL_law 92 = .ok (.aload 6, 2) := by decide +kernel
theorem dL_law_94 : decode cL_law 94 = .ok (.iload 8, 2) := by decide +kernel
theorem dL_law_96 : decode cL_law 96 = .ok (.aload_n 1, 1) := by decide +kernel
theorem dL_law_97 : decode cL_law 97 = .ok (.iload 8, 2) := by decide +kernel
theorem dL_law_99 : decode cL_law 99 = .ok (.iconst 4, 1) := by decide +kernel
theorem dL_law_100 : decode cL_law 100 = .ok (.invokevirtual 99, 3) := by decide +kernel
theorem dL_law_103 : decode cL_law 103 = .ok (.iastore, 1) := by decide +kernel
theorem dL_law_104 : decode cL_law 104 = .ok (.aload 7, 2) := by decide +kernel
theorem dL_law_106 : decode cL_law 106 = .ok (.iload 8, 2) := by decide +kernel
theorem dL_law_108 : decode cL_law 108 = .ok (.aload_n 1, 1) := by decide +kernel
theorem dL_law_109 : decode cL_law 109 = .ok (.iload 8, 2) := by decide +kernel
theorem dL_law_111 : decode cL_law 111 = .ok (.iconst 5, 1) := by decide +kernel
theorem dL_law_112 : decode cL_law 112 = .ok (.invokevirtual 99, 3) := by decide +kernel
theorem dL_law_115 : decode cL_law 115 = .ok (.iastore, 1) := by decide +kernel
theorem dL_law_116 : decode cL_law 116 = .ok (.iinc 8 1, 3) := by decide +kernel
theorem dL_law_119 : decode cL_law 119 = .ok (.goto (-34), 3) := by decide +kernel
theorem dL_law_122 : decode cL_law 122 = .ok (.bipush 96, 2) := by decide +kernel
theorem dL_law_124 : decode cL_law 124 = .ok (.newarray .int, 2) := by decide +kernel
theorem dL_law_126 : decode cL_law 126 = .ok (.astore 8, 2) := by decide +kernel
theorem dL_law_128 : decode cL_law 128 = .ok (.iconst 0, 1) := by decide +kernel
theorem dL_law_129 : decode cL_law 129 = .ok (.istore 9, 2) := by decide +kernel
theorem dL_law_131 : decode cL_law 131 = .ok (.iload 9, 2) := by decide +kernel
theorem dL_law_133 : decode cL_law 133 = .ok (.bipush 96, 2) := by decide +kernel
theorem dL_law_135 : decode cL_law 135 = .ok (.if_icmp .ge 28, 3) := by decide +kernel
theorem dL_law_138 : decode cL_law 138 = .ok (.aload 8, 2) := by decide +kernel
theorem dL_law_140 : decode cL_law 140 = .ok (.iload 9, 2) := by decide +kernel
theorem dL_law_142 : decode cL_law 142 = .ok (.aload_n 1, 1) := by decide +kernel
theorem dL_law_143 : decode cL_law 143 = .ok (.iload 9, 2) := by decide +kernel
theorem dL_law_145 : decode cL_law 145 = .ok (.bipush 8, 2) := by decide +kernel
theorem dL_law_147 : decode cL_law 147 = .ok (.idiv, 1) := by decide +kernel
theorem dL_law_148 : decode cL_law 148 = .ok (.iload 9, 2) := by decide +kernel
theorem dL_law_150 : decode cL_law 150 = .ok (.bipush 8, 2) := by decide +kernel
theorem dL_law_152 : decode cL_law 152 = .ok (.irem, 1) := by decide +kernel
theorem dL_law_153 : decode cL_law 153 = .ok (.invokevirtual 102, 3) := by decide +kernel
theorem dL_law_156 : decode cL_law 156 = .ok (.iastore, 1) := by decide +kernel
theorem dL_law_157 : decode cL_law 157 = .ok (.iinc 9 1, 3) := by decide +kernel
theorem dL_law_160 : decode cL_law 160 = .ok (.goto (-29), 3) := by decide +kernel
theorem dL_law_163 : decode cL_law 163 = .ok (.aload_n 1, 1) := by decide +kernel
theorem dL_law_164 : decode cL_law 164 = .ok (.bipush 8, 2) := by decide +kernel
theorem dL_law_166 : decode cL_law 166 = .ok (.invokevirtual 96, 3) := by decide +kernel
theorem dL_law_169 : decode cL_law 169 = .ok (.istore 9, 2) := by decide +kernel
theorem dL_law_171 : decode cL_law 171 = .ok (.aload_n 1, 1) := by decide +kernel
theorem dL_law_172 : decode cL_law 172 = .ok (.iconst 0, 1) := by decide +kernel
theorem dL_law_173 : decode cL_law 173 = .ok (.invokevirtual 104, 3) := by decide +kernel
theorem dL_law_176 : decode cL_law 176 = .ok (.istore 10, 2) := by decide +kernel
theorem dL_law_178 : decode cL_law 178 = .ok (.aload_n 1, 1) := by decide +kernel
theorem dL_law_179 : decode cL_law 179 = .ok (.iconst 1, 1) := by decide +kernel
theorem dL_law_180 : decode cL_law 180 = .ok (.invokevirtual 79, 3) := by decide +kernel
theorem dL_law_183 : decode cL_law 183 = .ok (.istore 11, 2) := by decide +kernel
theorem dL_law_185 : decode cL_law 185 = .ok (.aload_n 2, 1) := by decide +kernel
theorem dL_law_186 : decode cL_law 186 = .ok (.invokevirtual 107, 3) := by decide +kernel
theorem dL_law_189 : decode cL_law 189 = .ok (.aload_n 1, 1) := by decide +kernel
theorem dL_law_190 : decode cL_law 190 = .ok (.iconst 4, 1) := by decide +kernel
theorem dL_law_191 : decode cL_law 191 = .ok (.invokevirtual 96, 3) := by decide +kernel
theorem dL_law_194 : decode cL_law 194 = .ok (.istore 12, 2) := by decide +kernel
theorem dL_law_196 : decode cL_law 196 = .ok (.iconst 0, 1) := by decide +kernel
theorem dL_law_197 : decode cL_law 197 = .ok (.istore 13, 2) := by decide +kernel
theorem dL_law_199 : decode cL_law 199 = .ok (.iconst 0, 1) := by decide +kernel
theorem dL_law_200 : decode cL_law 200 = .ok (.istore 14, 2) := by decide +kernel
theorem dL_law_202 : decode cL_law 202 = .ok (.iconst 0, 1) := by decide +kernel
theorem dL_law_203 : decode cL_law 203 = .ok (.istore 15, 2) := by decide +kernel
theorem dL_law_205 : decode cL_law 205 = .ok (.iconst 0, 1) := by decide +kernel
theorem dL_law_206 : decode cL_law 206 = .ok (.istore 16, 2) := by decide +kernel
theorem dL_law_208 : decode cL_law 208 = .ok (.iload 16, 2) := by decide +kernel
theorem dL_law_210 : decode cL_law 210 = .ok (.bipush 96, 2) := by decide +kernel
theorem dL_law_212 : decode cL_law 212 = .ok (.if_icmp .ge 123, 3) := by decide +kernel
theorem dL_law_215 : decode cL_law 215 = .ok (.iload 12, 2) := by decide +kernel
theorem dL_law_217 : decode cL_law 217 = .ok (.ifCond .lt 16, 3) := by decide +kernel
theorem dL_law_220 : decode cL_law 220 = .ok (.iload 12, 2) := by decide +kernel
theorem dL_law_222 : decode cL_law 222 = .ok (.iload 16, 2) := by decide +kernel
theorem dL_law_224 : decode cL_law 224 = .ok (.bipush 8, 2) := by decide +kernel
theorem dL_law_226 : decode cL_law 226 = .ok (.idiv, 1) := by decide +kernel
theorem dL_law_227 : decode cL_law 227 = .ok (.iconst 2, 1) := by decide +kernel
theorem dL_law_228 : decode cL_law 228 = .ok (.idiv, 1) := by decide +kernel
theorem dL_law_229 : decode cL_law 229 = .ok (.isub, 1) := by decide +kernel
theorem dL_law_230 : decode cL_law 230 = .ok (.goto 17, 3) := by decide +kernel
theorem dL_law_233 : decode cL_law 233 = .ok (.iload 12, 2) := by decide +kernel
theorem dL_law_235 : decode cL_law 235 = .ok (.ineg, 1) := by decide +kernel
theorem dL_law_236 : decode cL_law 236 = .ok (.bipush 11, 2) := by decide +kernel
theorem dL_law_238 : decode cL_law 238 = .ok (.iload 16, 2) := by decide +kernel
theorem dL_law_240 : decode cL_law 240 = .ok (.bipush 8, 2) := by decide +kernel
theorem dL_law_242 : decode cL_law 242 = .ok (.idiv, 1) := by decide +kernel
theorem dL_law_243 : decode cL_law 243 = .ok (.isub, 1) := by decide +kernel
theorem dL_law_244 : decode cL_law 244 = .ok (.iconst 2, 1) := by decide +kernel
theorem dL_law_245 : decode cL_law 245 = .ok (.idiv, 1) := by decide +kernel
theorem dL_law_246 : decode cL_law 246 = .ok (.isub, 1) := by decide +kernel
theorem dL_law_247 : decode cL_law 247 = .ok (.istore 17, 2) := by decide +kernel
theorem dL_law_249 : decode cL_law 249 = .ok (.bipush 20, 2) := by decide +kernel
theorem dL_law_251 : decode cL_law 251 = .ok (.aload 8, 2) := by decide +kernel
theorem dL_law_253 : decode cL_law 253 = .ok (.iload 16, 2) := by decide +kernel
theorem dL_law_255 : decode cL_law 255 = .ok (.iaload, 1) := by decide +kernel
theorem dL_law_256 : decode cL_law 256 = .ok (.iconst 1, 1) := by decide +kernel
theorem dL_law_257 : decode cL_law 257 = .ok (.iadd, 1) := by decide +kernel
theorem dL_law_258 : decode cL_law 258 = .ok (.iconst 0, 1) := by decide +kernel
theorem dL_law_259 : decode cL_law 259 = .ok (.iload 17, 2) := by decide +kernel
theorem dL_law_261 : decode cL_law 261 = .ok (.invokestatic 109, 3) := by decide +kernel
theorem dL_law_264 : decode cL_law 264 = .ok (.iadd, 1) := by decide +kernel
theorem dL_law_265 : decode cL_law 265 = .ok (.invokestatic 114, 3) := by decide +kernel
theorem dL_law_268 : decode cL_law 268 = .ok (.istore 18, 2) := by decide +kernel
theorem dL_law_270 : decode cL_law 270 = .ok (.aload_n 1, 1) := by decide +kernel
theorem dL_law_271 : decode cL_law 271 = .ok (.iload 16, 2) := by decide +kernel
theorem dL_law_273 : decode cL_law 273 = .ok (.bipush 8, 2) := by decide +kernel
theorem dL_law_275 : decode cL_law 275 = .ok (.idiv, 1) := by decide +kernel
theorem dL_law_276 : decode cL_law 276 = .ok (.iload 16, 2) := by decide +kernel
theorem dL_law_278 : decode cL_law 278 = .ok (.bipush 8, 2) := by decide +kernel
theorem dL_law_280 : decode cL_law 280 = .ok (.irem, 1) := by decide +kernel
theorem dL_law_281 : decode cL_law 281 = .ok (.invokevirtual 102, 3) := by decide +kernel
theorem dL_law_284 : decode cL_law 284 = .ok (.istore 19, 2) := by decide +kernel
theorem dL_law_286 : decode cL_law 286 = .ok (.iload 19, 2) := by decide +kernel
theorem dL_law_288 : decode cL_law 288 = .ok (.ifCond .lt 10, 3) := by decide +kernel
theorem dL_law_291 : decode cL_law 291 = .ok (.iload 19, 2) := by decide +kernel
theorem dL_law_293 : decode cL_law 293 = .ok (.iload 18, 2) := by decide +kernel
theorem dL_law_295 : decode cL_law 295 = .ok (.if_icmp .le 5, 3) := by decide +kernel
theorem dL_law_298 : decode cL_law 298 = .ok (.iconst 0, 1) := by decide +kernel
theorem dL_law_299 : decode cL_law 299 = .ok (.ireturn, 1) := by decide +kernel
theorem dL_law_300 : decode cL_law 300 = .ok (.iload 13, 2) := by decide +kernel
theorem dL_law_302 : decode cL_law 302 = .ok (.iload 18, 2) := by decide +kernel
theorem dL_law_304 : decode cL_law 304 = .ok (.iadd, 1) := by decide +kernel
theorem dL_law_305 : decode cL_law 305 = .ok (.istore 13, 2) := by decide +kernel
theorem dL_law_307 : decode cL_law 307 = .ok (.iload 14, 2) := by decide +kernel
theorem dL_law_309 : decode cL_law 309 = .ok (.iload 19, 2) := by decide +kernel
theorem dL_law_311 : decode cL_law 311 = .ok (.iadd, 1) := by decide +kernel
theorem dL_law_312 : decode cL_law 312 = .ok (.istore 14, 2) := by decide +kernel
theorem dL_law_314 : decode cL_law 314 = .ok (.iload 15, 2) := by decide +kernel
theorem dL_law_316 : decode cL_law 316 = .ok (.iload 19, 2) := by decide +kernel
theorem dL_law_318 : decode cL_law 318 = .ok (.ifCond .ne 7, 3) := by decide +kernel
theorem dL_law_321 : decode cL_law 321 = .ok (.iconst 1, 1) := by decide +kernel
theorem dL_law_322 : decode cL_law 322 = .ok (.goto 4, 3) := by decide +kernel
theorem dL_law_325 : decode cL_law 325 = .ok (.iconst 0, 1) := by decide +kernel
theorem dL_law_326 : decode cL_law 326 = .ok (.iadd, 1) := by decide +kernel
theorem dL_law_327 : decode cL_law 327 = .ok (.istore 15, 2) := by decide +kernel
theorem dL_law_329 : decode cL_law 329 = .ok (.iinc 16 1, 3) := by decide +kernel
theorem dL_law_332 : decode cL_law 332 = .ok (.goto (-124), 3) := by decide +kernel
theorem dL_law_335 : decode cL_law 335 = .ok (.iconst 0, 1) := by decide +kernel
theorem dL_law_336 : decode cL_law 336 = .ok (.istore 16, 2) := by decide +kernel
theorem dL_law_338 : decode cL_law 338 = .ok (.iconst 0, 1) := by decide +kernel
theorem dL_law_339 : decode cL_law 339 = .ok (.istore 17, 2) := by decide +kernel
theorem dL_law_341 : decode cL_law 341 = .ok (.bipush 12, 2) := by decide +kernel
theorem dL_law_343 : decode cL_law 343 = .ok (.newarray .boolean, 2) := by decide +kernel
theorem dL_law_345 : decode cL_law 345 = .ok (.astore 18, 2) := by decide +kernel
theorem dL_law_347 : decode cL_law 347 = .ok (.iconst 0, 1) := by decide +kernel
theorem dL_law_348 : decode cL_law 348 = .ok (.istore 19, 2) := by decide +kernel
theorem dL_law_350 : decode cL_law 350 = .ok (.iload 19, 2) := by decide +kernel
theorem dL_law_352 : decode cL_law 352 = .ok (.iload 5, 2) := by decide +kernel
theorem dL_law_354 : decode cL_law 354 = .ok (.if_icmp .ge 186, 3) := by decide +kernel
theorem dL_law_357 : decode cL_law 357 = .ok (.aload_n 1, 1) := by decide +kernel
theorem dL_law_358 : decode cL_law 358 = .ok (.iload 19, 2) := by decide +kernel
theorem dL_law_360 : decode cL_law 360 = .ok (.iconst 4, 1) := by decide +kernel
theorem dL_law_361 : decode cL_law 361 = .ok (.invokevirtual 99, 3) := by decide +kernel
theorem dL_law_364 : decode cL_law 364 = .ok (.aload 6, 2) := by decide +kernel
theorem dL_law_366 : decode cL_law 366 = .ok (.iload 19, 2) := by decide +kernel
theorem dL_law_368 : decode cL_law 368 = .ok (.iaload, 1) := by decide +kernel
theorem dL_law_369 : decode cL_law 369 = .ok (.isub, 1) := by decide +kernel
theorem dL_law_370 : decode cL_law 370 = .ok (.istore 20, 2) := by decide +kernel
theorem dL_law_372 : decode cL_law 372 = .ok (.aload_n 1, 1) := by decide +kernel
theorem dL_law_373 : decode cL_law 373 = .ok (.iload 19, 2) := by decide +kernel
theorem dL_law_375 : decode cL_law 375 = .ok (.iconst 5, 1) := by decide +kernel
theorem dL_law_376 : decode cL_law 376 = .ok (.invokevirtual 99, 3) := by decide +kernel
theorem dL_law_379 : decode cL_law 379 = .ok (.aload 7, 2) := by decide +kernel
theorem dL_law_381 : decode cL_law 381 = .ok (.iload 19, 2) := by decide +kernel
theorem dL_law_383 : decode cL_law 383 = .ok (.iaload, 1) := by decide +kernel
theorem dL_law_384 : decode cL_law 384 = .ok (.isub, 1) := by decide +kernel
theorem dL_law_385 : decode cL_law 385 = .ok (.istore 21, 2) := by decide +kernel
theorem dL_law_387 : decode cL_law 387 = .ok (.iload 20, 2) := by decide +kernel
theorem dL_law_389 : decode cL_law 389 = .ok (.ifCond .lt 113, 3) := by decide +kernel
theorem dL_law_392 : decode cL_law 392 = .ok (.iload 20, 2) := by decide +kernel
theorem dL_law_394 : decode cL_law 394 = .ok (.iconst 3, 1) := by decide +kernel
theorem dL_law_395 : decode cL_law 395 = .ok (.iload 21, 2) := by decide +kernel
theorem dL_law_397 : decode cL_law 397 = .ok (.imul, 1) := by decide +kernel
theorem dL_law_398 : decode cL_law 398 = .ok (.iadd, 1) := by decide +kernel
theorem dL_law_399 : decode cL_law 399 = .ok (.aload_n 1, 1) := by decide +kernel
theorem dL_law_400 : decode cL_law 400 = .ok (.iload 19, 2) := by decide +kernel
theorem dL_law_402 : decode cL_law 402 = .ok (.iconst 2, 1) := by decide +kernel
theorem dL_law_403 : decode cL_law 403 = .ok (.invokevirtual 99, 3) := by decide +kernel
theorem dL_law_406 : decode cL_law 406 = .ok (.if_icmp .gt 96, 3) := by decide +kernel
theorem dL_law_409 : decode cL_law 409 = .ok (.iload 10, 2) := by decide +kernel
theorem dL_law_411 : decode cL_law 411 = .ok (.ifCond .eq 13, 3) := by decide +kernel
theorem dL_law_414 : decode cL_law 414 = .ok (.iload 20, 2) := by decide +kernel
theorem dL_law_416 : decode cL_law 416 = .ok (.ifCond .gt 86, 3) := by decide +kernel
theorem dL_law_419 : decode cL_law 419 = .ok (.iload 21, 2) := by decide +kernel
theorem dL_law_421 : decode cL_law 421 = .ok (.ifCond .gt 81, 3) := by decide +kernel
theorem dL_law_424 : decode cL_law 424 = .ok (.aload_n 1, 1) := by decide +kernel
theorem dL_law_425 : decode cL_law 425 = .ok (.iload 19, 2) := by decide +kernel
theorem dL_law_427 : decode cL_law 427 = .ok (.iconst 0, 1) := by decide +kernel
theorem dL_law_428 : decode cL_law 428 = .ok (.invokevirtual 99, 3) := by decide +kernel
theorem dL_law_431 : decode cL_law 431 = .ok (.ifCond .lt 71, 3) := by decide +kernel
theorem dL_law_434 : decode cL_law 434 = .ok (.aload_n 1, 1) := by decide +kernel
theorem dL_law_435 : decode cL_law 435 = .ok (.iload 19, 2) := by decide +kernel
theorem dL_law_437 : decode cL_law 437 = .ok (.iconst 0, 1) := by decide +kernel
theorem dL_law_438 : decode cL_law 438 = .ok (.invokevirtual 99, 3) := by decide +kernel
theorem dL_law_441 : decode cL_law 441 = .ok (.bipush 11, 2) := by decide +kernel
theorem dL_law_443 : decode cL_law 443 = .ok (.if_icmp .gt 59, 3) := by decide +kernel
theorem dL_law_446 : decode cL_law 446 = .ok (.aload 18, 2) := by decide +kernel
theorem dL_law_448 : decode cL_law 448 = .ok (.aload_n 1, 1) := by decide +kernel
theorem dL_law_449 : decode cL_law 449 = .ok (.iload 19, 2) := by decide +kernel
theorem dL_law_451 : decode cL_law 451 = .ok (.iconst 0, 1) := by decide +kernel
theorem dL_law_452 : decode cL_law 452 = .ok (.invokevirtual 99, 3) := by decide +kernel
theorem dL_law_455 : decode cL_law 455 = .ok (.baload, 1) := by decide +kernel
theorem dL_law_456 : decode cL_law 456 = .ok (.ifCond .ne 46, 3) := by decide +kernel
theorem dL_law_459 : decode cL_law 459 = .ok (.aload_n 1, 1) := by decide +kernel
theorem dL_law_460 : decode cL_law 460 = .ok (.iload 19, 2) := by decide +kernel
theorem dL_law_462 : decode cL_law 462 = .ok (.iconst 1, 1) := by decide +kernel
theorem dL_law_463 : decode cL_law 463 = .ok (.invokevirtual 99, 3) := by decide +kernel
theorem dL_law_466 : decode cL_law 466 = .ok (.ifCond .lt 36, 3) := by decide +kernel
theorem dL_law_469 : decode cL_law 469 = .ok (.aload_n 1, 1) := by decide +kernel
theorem dL_law_470 : decode cL_law 470 = .ok (.iload 19, 2) := by decide +kernel
theorem dL_law_472 : decode cL_law 472 = .ok (.iconst 1, 1) := by decide +kernel
theorem dL_law_473 : decode cL_law 473 = .ok (.invokevirtual 99, 3) := by decide +kernel
theorem dL_law_476 : decode cL_law 476 = .ok (.bipush 7, 2) := by decide +kernel
theorem dL_law_478 : decode cL_law 478 = .ok (.if_icmp .gt 24, 3) := by decide +kernel
theorem dL_law_481 : decode cL_law 481 = .ok (.aload_n 1, 1) := by decide +kernel
theorem dL_law_482 : decode cL_law 482 = .ok (.iload 19, 2) := by decide +kernel
theorem dL_law_484 : decode cL_law 484 = .ok (.iconst 3, 1) := by decide +kernel
theorem dL_law_485 : decode cL_law 485 = .ok (.invokevirtual 99, 3) := by decide +kernel
theorem dL_law_488 : decode cL_law 488 = .ok (.ifCond .lt 14, 3) := by decide +kernel
theorem dL_law_491 : decode cL_law 491 = .ok (.aload_n 1, 1) := by decide +kernel
theorem dL_law_492 : decode cL_law 492 = .ok (.iload 19, 2) := by decide +kernel
theorem dL_law_494 : decode cL_law 494 = .ok (.iconst 3, 1) := by decide +kernel
theorem dL_law_495 : decode cL_law 495 = .ok (.invokevirtual 99, 3) := by decide +kernel
theorem dL_law_498 : decode cL_law 498 = .ok (.iconst 1, 1) := by decide +kernel
theorem dL_law_499 : decode cL_law 499 = .ok (.if_icmp .le 5, 3) := by decide +kernel
theorem dL_law_502 : decode cL_law 502 = .ok (.iconst 0, 1) := by decide +kernel
theorem dL_law_503 : decode cL_law 503 = .ok (.ireturn, 1) := by decide +kernel
theorem dL_law_504 : decode cL_law 504 = .ok (.aload 18, 2) := by decide +kernel
theorem dL_law_506 : decode cL_law 506 = .ok (.aload_n 1, 1) := by decide +kernel
theorem dL_law_507 : decode cL_law 507 = .ok (.iload 19, 2) := by decide +kernel
theorem dL_law_509 : decode cL_law 509 = .ok (.iconst 0, 1) := by decide +kernel
theorem dL_law_510 : decode cL_law 510 = .ok (.invokevirtual 99, 3) := by decide +kernel
theorem dL_law_513 : decode cL_law 513 = .ok (.iconst 1, 1) := by decide +kernel
theorem dL_law_514 : decode cL_law 514 = .ok (.bastore, 1) := by decide +kernel
theorem dL_law_515 : decode cL_law 515 = .ok (.iload 16, 2) := by decide +kernel
theorem dL_law_517 : decode cL_law 517 = .ok (.iload 20, 2) := by decide +kernel
theorem dL_law_519 : decode cL_law 519 = .ok (.iadd, 1) := by decide +kernel
theorem dL_law_520 : decode cL_law 520 = .ok (.istore 16, 2) := by decide +kernel
theorem dL_law_522 : decode cL_law 522 = .ok (.iload 17, 2) := by decide +kernel
theorem dL_law_524 : decode cL_law 524 = .ok (.aload_n 1, 1) := by decide +kernel
theorem dL_law_525 : decode cL_law 525 = .ok (.iload 19, 2) := by decide +kernel
theorem dL_law_527 : decode cL_law 527 = .ok (.iconst 4, 1) := by decide +kernel
theorem dL_law_528 : decode cL_law 528 = .ok (.invokevirtual 99, 3) := by decide +kernel
theorem dL_law_531 : decode cL_law 531 = .ok (.iadd, 1) := by decide +kernel
theorem dL_law_532 : decode cL_law 532 = .ok (.istore 17, 2) := by decide +kernel
theorem dL_law_534 : decode cL_law 534 = .ok (.iinc 19 1, 3) := by decide +kernel
theorem dL_law_537 : decode cL_law 537 = .ok (.goto (-187), 3) := by decide +kernel
theorem dL_law_540 : decode cL_law 540 = .ok (.iload 13, 2) := by decide +kernel
theorem dL_law_542 : decode cL_law 542 = .ok (.iload 14, 2) := by decide +kernel
theorem dL_law_544 : decode cL_law 544 = .ok (.isub, 1) := by decide +kernel
theorem dL_law_545 : decode cL_law 545 = .ok (.iload 16, 2) := by decide +kernel
theorem dL_law_547 : decode cL_law 547 = .ok (.if_icmp .ne 35, 3) := by decide +kernel
theorem dL_law_550 : decode cL_law 550 = .ok (.iload 17, 2) := by decide +kernel
theorem dL_law_552 : decode cL_law 552 = .ok (.aload_n 1, 1) := by decide +kernel
theorem dL_law_553 : decode cL_law 553 = .ok (.bipush 7, 2) := by decide +kernel
theorem dL_law_555 : decode cL_law 555 = .ok (.invokevirtual 96, 3) := by decide +kernel
theorem dL_law_558 : decode cL_law 558 = .ok (.if_icmp .ne 24, 3) := by decide +kernel
theorem dL_law_561 : decode cL_law 561 = .ok (.iload 14, 2) := by decide +kernel
theorem dL_law_563 : decode cL_law 563 = .ok (.aload_n 1, 1) := by decide +kernel
theorem dL_law_564 : decode cL_law 564 = .ok (.iconst 5, 1) := by decide +kernel
theorem dL_law_565 : decode cL_law 565 = .ok (.invokevirtual 96, 3) := by decide +kernel
theorem dL_law_568 : decode cL_law 568 = .ok (.if_icmp .ne 14, 3) := by decide +kernel
theorem dL_law_571 : decode cL_law 571 = .ok (.iload 15, 2) := by decide +kernel
theorem dL_law_573 : decode cL_law 573 = .ok (.aload_n 1, 1) := by decide +kernel
theorem dL_law_574 : decode cL_law 574 = .ok (.bipush 6, 2) := by decide +kernel
theorem dL_law_576 : decode cL_law 576 = .ok (.invokevirtual 96, 3) := by decide +kernel
theorem dL_law_579 : decode cL_law 579 = .ok (.if_icmp .eq 5, 3) := by decide +kernel
theorem dL_law_582 : decode cL_law 582 = .ok (.iconst 0, 1) := by decide +kernel
theorem dL_law_583 : decode cL_law 583 = .ok (.ireturn, 1) := by decide +kernel
theorem dL_law_584 : decode cL_law 584 = .ok (.iconst 0, 1) := by decide +kernel
theorem dL_law_585 : decode cL_law 585 = .ok (.istore 19, 2) := by decide +kernel
theorem dL_law_587 : decode cL_law 587 = .ok (.iconst 0, 1) := by decide +kernel
theorem dL_law_588 : decode cL_law 588 = .ok (.istore 20, 2) := by decide +kernel
theorem dL_law_590 : decode cL_law 590 = .ok (.iload 20, 2) := by decide +kernel
theorem dL_law_592 : decode cL_law 592 = .ok (.aload_n 1, 1) := by decide +kernel
theorem dL_law_593 : decode cL_law 593 = .ok (.iconst 1, 1) := by decide +kernel
theorem dL_law_594 : decode cL_law 594 = .ok (.invokevirtual 96, 3) := by decide +kernel
theorem dL_law_597 : decode cL_law 597 = .ok (.if_icmp .ge 92, 3) := by decide +kernel
theorem dL_law_600 : decode cL_law 600 = .ok (.aload_n 1, 1) := by decide +kernel
theorem dL_law_601 : decode cL_law 601 = .ok (.iload 20, 2) := by decide +kernel
theorem dL_law_603 : decode cL_law 603 = .ok (.bipush 7, 2) := by decide +kernel
theorem dL_law_605 : decode cL_law 605 = .ok (.invokevirtual 117, 3) := by decide +kernel
theorem dL_law_608 : decode cL_law 608 = .ok (.istore 21, 2) := by decide +kernel
theorem dL_law_610 : decode cL_law 610 = .ok (.iload 21, 2) := by decide +kernel
theorem dL_law_612 : decode cL_law 612 = .ok (.ifCond .lt 62, 3) := by decide +kernel
theorem dL_law_615 : decode cL_law 615 = .ok (.iload 21, 2) := by decide +kernel
theorem dL_law_617 : decode cL_law 617 = .ok (.aload_n 1, 1) := by decide +kernel
theorem dL_law_618 : decode cL_law 618 = .ok (.iload 20, 2) := by decide +kernel
theorem dL_law_620 : decode cL_law 620 = .ok (.iconst 4, 1) := by decide +kernel
theorem dL_law_621 : decode cL_law 621 = .ok (.invokevirtual 117, 3) := by decide +kernel
theorem dL_law_624 : decode cL_law 624 = .ok (.aload_n 1, 1) := by decide +kernel
theorem dL_law_625 : decode cL_law 625 = .ok (.iload 20, 2) := by decide +kernel
theorem dL_law_627 : decode cL_law 627 = .ok (.iconst 2, 1) := by decide +kernel
theorem dL_law_628 : decode cL_law 628 = .ok (.invokevirtual 117, 3) := by decide +kernel
theorem dL_law_631 : decode cL_law 631 = .ok (.imul, 1) := by decide +kernel
theorem dL_law_632 : decode cL_law 632 = .ok (.aload_n 1, 1) := by decide +kernel
theorem dL_law_633 : decode cL_law 633 = .ok (.iload 20, 2) := by decide +kernel
theorem dL_law_635 : decode cL_law 635 = .ok (.iconst 3, 1) := by decide +kernel
theorem dL_law_636 : decode cL_law 636 = .ok (.invokevirtual 117, 3) := by decide +kernel
theorem dL_law_639 : decode cL_law 639 = .ok (.imul, 1) := by decide +kernel
theorem dL_law_640 : decode cL_law 640 = .ok (.if_icmp .gt 34, 3) := by decide +kernel
theorem dL_law_643 : decode cL_law 643 = .ok (.aload_n 1, 1) := by decide +kernel
theorem dL_law_644 : decode cL_law 644 = .ok (.iload 20, 2) := by decide +kernel
theorem dL_law_646 : decode cL_law 646 = .ok (.bipush 6, 2) := by decide +kernel
theorem dL_law_648 : decode cL_law 648 = .ok (.invokevirtual 117, 3) := by decide +kernel
theorem dL_law_651 : decode cL_law 651 = .ok (.aload_n 1, 1) := by decide +kernel
theorem dL_law_652 : decode cL_law 652 = .ok (.iload 20, 2) := by decide +kernel
theorem dL_law_654 : decode cL_law 654 = .ok (.iconst 5, 1) := by decide +kernel
theorem dL_law_655 : decode cL_law 655 = .ok (.invokevirtual 117, 3) := by decide +kernel
theorem dL_law_658 : decode cL_law 658 = .ok (.if_icmp .gt 16, 3) := by decide +kernel
theorem dL_law_661 : decode cL_law 661 = .ok (.aload_n 1, 1) := by decide +kernel
theorem dL_law_662 : decode cL_law 662 = .ok (.iload 20, 2) := by decide +kernel
theorem dL_law_664 : decode cL_law 664 = .ok (.bipush 6, 2) := by decide +kernel
theorem dL_law_666 : decode cL_law 666 = .ok (.invokevirtual 117, 3) := by decide +kernel
theorem dL_law_669 : decode cL_law 669 = .ok (.bipush 20, 2) := by decide +kernel
theorem dL_law_671 : decode cL_law 671 = .ok (.if_icmp .le 5, 3) := by decide +kernel
theorem dL_law_674 : decode cL_law 674 = .ok (.iconst 0, 1) := by decide +kernel
theorem dL_law_675 : decode cL_law 675 = .ok (.ireturn, 1) := by decide +kernel
theorem dL_law_676 : decode cL_law 676 = .ok (.iload 19, 2) := by decide +kernel
theorem dL_law_678 : decode cL_law 678 = .ok (.iload 21, 2) := by decide +kernel
theorem dL_law_680 : decode cL_law 680 = .ok (.iadd, 1) := by decide +kernel
theorem dL_law_681 : decode cL_law 681 = .ok (.istore 19, 2) := by decide +kernel
theorem dL_law_683 : decode cL_law 683 = .ok (.iinc 20 1, 3) := by decide +kernel
theorem dL_law_686 : decode cL_law 686 = .ok (.goto (-96), 3) := by decide +kernel
theorem dL_law_689 : decode cL_law 689 = .ok (.iload 19, 2) := by decide +kernel
theorem dL_law_691 : decode cL_law 691 = .ok (.aload_n 1, 1) := by decide +kernel
theorem dL_law_692 : decode cL_law 692 = .ok (.bipush 10, 2) := by decide +kernel
theorem dL_law_694 : decode cL_law 694 = .ok (.invokevirtual 96, 3) := by decide +kernel
theorem dL_law_697 : decode cL_law 697 = .ok (.if_icmp .ne 33, 3) := by decide +kernel
theorem dL_law_700 : decode cL_law 700 = .ok (.iload 11, 2) := by decide +kernel
theorem dL_law_702 : decode cL_law 702 = .ok (.iload 10, 2) := by decide +kernel
theorem dL_law_704 : decode cL_law 704 = .ok (.ifCond .eq 8, 3) := by decide +kernel
theorem dL_law_707 : decode cL_law 707 = .ok (.iload 19, 2) := by decide +kernel
theorem dL_law_709 : decode cL_law 709 = .ok (.goto 4, 3) := by decide +kernel
theorem dL_law_712 : decode cL_law 712 = .ok (.iconst 0, 1) := by decide +kernel
theorem dL_law_713 : decode cL_law 713 = .ok (.if_icmp .ne 17, 3) := by decide +kernel
theorem dL_law_716 : decode cL_law 716 = .ok (.aload_n 1, 1) := by decide +kernel
theorem dL_law_717 : decode cL_law 717 = .ok (.bipush 8, 2) := by decide +kernel
theorem dL_law_719 : decode cL_law 719 = .ok (.invokevirtual 96, 3) := by decide +kernel
theorem dL_law_722 : decode cL_law 722 = .ok (.iload 9, 2) := by decide +kernel
theorem dL_law_724 : decode cL_law 724 = .ok (.iload 11, 2) := by decide +kernel
theorem dL_law_726 : decode cL_law 726 = .ok (.iadd, 1) := by decide +kernel
theorem dL_law_727 : decode cL_law 727 = .ok (.if_icmp .eq 5, 3) := by decide +kernel
theorem dL_law_730 : decode cL_law 730 = .ok (.iconst 0, 1) := by decide +kernel
theorem dL_law_731 : decode cL_law 731 = .ok (.ireturn, 1) := by decide +kernel
theorem dL_law_732 : decode cL_law 732 = .ok (.iinc 3 1, 3) := by decide +kernel
theorem dL_law_735 : decode cL_law 735 = .ok (.goto (-713), 3) := by decide +kernel
theorem dL_law_738 : decode cL_law 738 = .ok (.aload_n 2, 1) := by decide +kernel
theorem dL_law_739 : decode cL_law 739 = .ok (.aload_n 1, 1) := by decide +kernel
theorem dL_law_740 : decode cL_law 740 = .ok (.invokevirtual 120, 3) := by decide +kernel
theorem dL_law_743 : decode cL_law 743 = .ok (.ireturn, 1) := by decide +kernel
end
section
set_option maxRecDepth 20000 in
theorem ggL_build_L_act : GoodIn wsL_build wsL_act := goodIn_ca (goodIn_ca (goodIn_ca (goodIn_r _ [27, 28, 10, 29, 30, 31, 32, 33, 21, 22, 18, 23, 24, 34, 35, 3, 36, 12, 37, 38, 39, 40, 41, 42, 43, 44, 45, 46, 47, 48, 49, 50, 51, 52, 53, 54, 55, 56, 57, 58, 59, 60, 61, 62, 63, 14, 64, 65, 66, 67, 68, 69, 70, 71, 72, 73, 74, 75, 76, 77, 78, 79, 80, 81, 82, 83, 84, 85, 86, 87, 88, 89, 90, 91, 92, 93, 94, 95, 96, 97, 98, 99, 100, 101, 102, 103, 104, 105, 106, 107, 108, 109, 110, 111, 112, 113, 114, 115, 116, 117, 118, 119, 120, 121, 122, 123, 11, 124, 125, 126, 127, 128, 129, 130, 131, 132, 133, 134, 135, 136, 137, 138, 139, 140, 141, 142, 143, 144, 145, 146, 147, 148, 149, 150, 151, 152, 153, 154, 155, 156, 157, 158, 159, 160, 161, 15, 162, 163, 164, 165, 13, 166, 167, 168, 169, 170, 171, 172, 173, 174, 175, 176, 177, 178, 179, 180, 181, 182, 183, 184, 185, 186, 187, 188, 189, 190, 191, 192, 193, 194, 195, 196, 197, 198, 199, 200, 201, 202, 203, 204, 205, 206, 207, 208, 209, 210, 211, 212, 213, 214, 215, 216, 217, 218, 219, 220, 221, 222, 223, 224, 225, 226, 227, 228, 229, 230, 231, 232, 233, 234, 235, 236, 237, 238, 239, 240, 241, 242, 243, 244, 245, 246, 247, 248, 249, 250, 251, 252, 253, 254, 255, 256, 257, 258, 259, 260, 261, 262, 263, 264, 265, 266, 267, 268, 269, 270, 271, 272] rfl (by decide +kernel)) (goodIn_sub (fun _ h => List.mem_cons_of_mem _ (List.mem_append_left _ (List.mem_append_left _ (List.mem_append_right _ h)))) (by decide +kernel))) (goodIn_sub (fun _ h => List.mem_cons_of_mem _ (List.mem_append_left _ (List.mem_append_right _ h))) (by decide +kernel))) (goodIn_sub (fun _ h => List.mem_cons_of_mem _ (List.mem_append_right _ h)) (by decide +kernel))
set_option maxRecDepth 20000 in
theorem ggL_law_L_build : GoodIn wsL_law wsL_build := goodIn_ca (goodIn_ca (goodIn_ca (goodIn_r _ [78, 79, 80, 81, 82, 83, 84, 16, 17, 85, 3, 86, 87, 88, 89, 90, 91, 92, 77, 93, 94, 95, 96, 97, 98, 99, 100, 101, 102, 103, 104, 105, 106, 107, 108, 109, 110, 111, 112, 113, 2, 114, 115, 116, 117, 118, 119, 120, 21, 121, 122, 123, 20, 124, 35, 34, 36, 37, 38, 39, 125, 126, 127, 128, 129, 130, 131, 132, 29, 133, 134, 135, 136, 137, 138, 55, 139, 68, 69, 140, 141, 142, 143, 71, 72, 144, 145, 146, 147, 25, 148, 149, 150, 24, 151, 44, 43, 45, 152, 153, 154, 155, 156, 157, 158, 159, 160, 161, 162, 163, 164, 165, 166, 167, 70, 74, 168, 169, 170, 171, 172, 173, 174, 175, 176, 177, 178, 179, 180, 181, 182, 183, 184, 185, 186, 187, 188, 189, 190, 51, 191, 64, 192, 9, 6, 10, 193, 194, 195, 196, 197, 198, 199, 200, 201, 202, 203, 204, 205, 206, 207, 208, 209, 210, 211, 212, 213, 214, 215, 216, 217, 218, 219, 220, 221, 28, 222, 223, 224, 225, 226, 52, 57, 58, 59, 60, 56, 227, 228, 229, 230, 231, 232, 233, 234, 5, 7, 235, 236, 237, 238, 239, 240, 241, 242, 243, 244, 245, 246, 247, 248, 249, 250, 251, 252, 253, 254, 255, 256, 257, 258, 259, 260, 261, 262, 263, 264, 265, 266, 267, 73, 268, 269, 270, 271, 272, 273, 274, 386, 387, 388, 389, 390, 391, 392, 393, 359, 360, 361, 362, 363, 364, 365, 366, 367, 368, 372, 373, 374, 375, 376, 377, 379, 380, 381, 382, 383, 384, 385, 369, 370, 371, 378] rfl (by decide +kernel)) (goodIn_sub (fun _ h => List.mem_append_left _ (List.mem_append_left _ (List.mem_append_right _ h))) (by decide +kernel))) (goodIn_sub (fun _ h => List.mem_append_left _ (List.mem_append_right _ h)) (by decide +kernel))) (goodIn_sub (fun _ h => List.mem_append_right _ h) (by decide +kernel))
set_option maxRecDepth 20000 in
theorem ggL_law_L_act : GoodIn wsL_law wsL_act := goodIn_ca (goodIn_ca (goodIn_ca (goodIn_r _ [101, 102, 3, 103, 104, 105, 106, 107, 95, 96, 77, 97, 98, 108, 109, 81, 110, 87, 111, 112, 113, 2, 114, 115, 116, 117, 118, 119, 120, 21, 121, 122, 123, 20, 124, 35, 34, 36, 37, 38, 39, 125, 126, 127, 128, 89, 129, 130, 131, 132, 29, 133, 134, 135, 136, 137, 138, 55, 139, 68, 69, 140, 141, 142, 143, 71, 72, 144, 145, 146, 147, 25, 148, 149, 150, 24, 151, 44, 43, 45, 152, 153, 154, 155, 156, 157, 158, 159, 160, 161, 162, 163, 164, 165, 166, 167, 70, 74, 168, 169, 170, 171, 172, 173, 174, 175, 86, 176, 177, 178, 179, 180, 181, 182, 183, 184, 185, 186, 187, 188, 189, 190, 51, 191, 64, 192, 9, 6, 10, 193, 194, 195, 196, 197, 198, 199, 200, 201, 202, 203, 204, 205, 206, 207, 208, 90, 209, 210, 211, 212, 88, 213, 214, 215, 216, 217, 218, 219, 220, 221, 28, 222, 223, 224, 225, 226, 52, 57, 58, 59, 60, 56, 227, 228, 229, 230, 231, 232, 233, 234, 5, 7, 235, 236, 237, 238, 239, 240, 241, 242, 243, 244, 245, 246, 247, 248, 249, 250, 251, 252, 253, 254, 255, 256, 257, 258, 259, 260, 261, 262, 263, 264, 265, 266, 267, 73, 268, 269, 270, 271, 272, 273, 274, 386, 387, 388, 389, 390, 391, 392, 393, 359, 360, 361, 362, 363, 364, 365, 366, 367, 368, 372, 373, 374, 375, 376, 377, 379, 380, 381, 382, 383, 384, 385, 369, 370, 371, 378] rfl (by decide +kernel)) (goodIn_sub (fun _ h => List.mem_append_left _ (List.mem_append_left _ (List.mem_append_right _ h))) (by decide +kernel))) (goodIn_sub (fun _ h => List.mem_append_left _ (List.mem_append_right _ h)) (by decide +kernel))) (goodIn_sub (fun _ h => List.mem_append_right _ h) (by decide +kernel))
set_option maxRecDepth 20000 in
theorem ggL_law_X6_isSame : GoodIn wsL_law wsX6_isSame := goodIn_ca (goodIn_ca (goodIn_r _ [330, 3, 202, 88, 89, 90, 201, 203, 204, 86, 331, 332, 333, 334, 81, 335, 209, 210, 211, 212, 213, 173, 174, 175, 336, 276, 277, 2, 278, 117, 118, 279, 280, 281, 282, 29, 21, 25, 283, 284, 285, 51, 286, 64, 287, 288, 289, 290, 291, 292, 293, 55, 294, 68, 73, 295, 240, 241, 20, 242, 34, 243, 244, 245, 246, 39, 247, 5, 6, 7, 248, 249, 250, 251, 37, 38, 252, 253, 254, 255, 35, 36, 256, 257, 258, 259, 337, 305, 306, 307, 133, 134, 135, 308, 338, 316, 317, 318, 180, 181, 182, 183, 319, 320, 321, 322, 323, 324, 325, 326, 339, 297, 298, 299, 160, 161, 162, 163, 300, 301, 302, 303, 69, 70, 71, 72, 74, 340, 341, 342, 343, 344, 345, 346, 347, 348, 349, 350, 351, 24, 352, 353, 236, 237, 238, 43, 44, 45, 354, 355, 356, 357, 205, 206, 207, 208, 358, 310, 311, 312, 115, 116, 313, 386, 387, 388, 389, 390, 391, 392, 393, 359, 360, 361, 362, 372, 373, 374, 375, 376, 377, 363, 364, 365, 366, 367, 368, 379, 380, 381, 382, 383, 384, 385, 369, 370, 371, 378] rfl (by decide +kernel)) (goodIn_sub (fun _ h => List.mem_append_left _ (List.mem_append_right _ h)) (by decide +kernel))) (goodIn_sub (fun _ h => List.mem_append_left _ (List.mem_append_left _ (List.mem_append_right _ h))) (by decide +kernel))
set_option maxRecDepth 20000 in
theorem gL_build_L_act : GoodIn wsL_build (va_wsS RL 87 yL_act wsL_act) := goodIn_app (goodIn_of _ (by decide +kernel)) ggL_build_L_act
set_option maxRecDepth 20000 in
theorem gL_law_L_build : GoodIn wsL_law (va_wsS RL 92 yL_build wsL_build) := goodIn_app (goodIn_of _ (by decide +kernel)) ggL_law_L_build
set_option maxRecDepth 20000 in
theorem gL_law_L_act : GoodIn wsL_law (va_wsS RL 87 yL_act wsL_act) := goodIn_app (goodIn_of _ (by decide +kernel)) ggL_law_L_act
set_option maxRecDepth 20000 in
theorem gL_law_X6_isSame : GoodIn wsL_law (wsV RL 120 RX6 yX6_isSame wsX6_isSame) := goodIn_app (goodIn_of _ (by decide +kernel)) ggL_law_X6_isSame
end
