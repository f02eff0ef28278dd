/-! WHAT A CALL LEAVES, read off in one pass: a mask over the cells -/
theorem putB_get : ∀ (is : List Nat) (ws wc : va_W), va_nd is = true → is.length = wc.length → (∀ k : Nat, k ∉ is → (putB ws is wc)[k]? = ws[k]?) ∧ ∀ j k : Nat, is[j]? = some k → k < ws.length → (putB ws is wc)[k]? = wc[j]?
  | [], ws, wc, _, _ => ⟨fun k _ => by cases wc <;> rfl, fun j k h => by simp at h⟩
  | i :: is, ws, [], _, hl => by simp at hl
  | i :: is, ws, q :: qs, hn, hl => by
    have hn1 : i ∉ is ∧ va_nd is = true := by simpa [va_nd] using hn
    obtain ⟨h1, h2⟩ := putB_get is (ws.set i q) qs hn1.2 (by simpa using hl)
    refine ⟨fun k hk => ?_, fun j k hj hkl => ?_⟩
    · have h3 := h1 k (fun z => hk (List.mem_cons_of_mem _ z))
      show (putB (ws.set i q) is qs)[k]? = _
      rw [h3, List.getElem?_set_ne (fun z => hk (by rw [← z]; exact List.mem_cons_self))]
    · cases j with
      | zero =>
        rw [List.getElem?_cons_zero] at hj
        cases hj
        show (putB (ws.set i q) is qs)[i]? = some q
        rw [h1 i hn1.1, List.getElem?_set_self hkl]
      | succ j =>
        rw [List.getElem?_cons_succ] at hj
        show (putB (ws.set i q) is qs)[k]? = qs[j]?
        exact h2 j k hj (by rw [List.length_set]; exact hkl)
theorem putB_id : ∀ {is : List Nat} {ws wc : va_W}, is.map (fun i => ws[i]?) = wc.map some → putB ws is wc = ws
  | [], ws, wc, _ => by cases wc <;> rfl
  | i :: is, ws, [], h => by cases h
  | i :: is, ws, q :: qs, h => by
    simp only [List.map_cons, List.cons.injEq] at h
    have hs : ws.set i q = ws := by
      apply List.ext_getElem?
      intro k
      by_cases hk : k = i
      · subst hk
        rw [List.getElem?_set_self (List.getElem?_eq_some_iff.mp h.1).1, h.1]
      · rw [List.getElem?_set_ne (Ne.symm hk)]
    show putB (ws.set i q) is qs = ws
    rw [hs]
    exact putB_id h.2
def mergeB : va_W → List (Option (Nat × va_E)) → va_W
  | a :: ws, m :: ms => m.getD a :: mergeB ws ms
  | ws, _ => ws
theorem mergeB_len : ∀ (ws : va_W) (ms : List (Option (Nat × va_E))), ms.length = ws.length → (mergeB ws ms).length = ws.length
  | [], [], _ => rfl
  | [], _ :: _, h => by simp at h
  | _ :: _, [], h => by simp at h
  | a :: ws, m :: ms, h => by
    show (mergeB ws ms).length + 1 = ws.length + 1
    rw [mergeB_len ws ms (by simpa using h)]
theorem mergeB_some : ∀ (ws : va_W) (ms : List (Option (Nat × va_E))) (k : Nat) (q : Nat × va_E), ms.length = ws.length → ms[k]? = some (some q) → (mergeB ws ms)[k]? = some q
  | [], [], k, q, _, h => by simp at h
  | [], _ :: _, _, _, h, _ => by simp at h
  | _ :: _, [], _, _, h, _ => by simp at h
  | a :: ws, m :: ms, 0, q, _, h => by
    rw [List.getElem?_cons_zero] at h
    cases h
    rfl
  | a :: ws, m :: ms, k + 1, q, hl, h => by
    rw [List.getElem?_cons_succ] at h
    show (mergeB ws ms)[k]? = some q
    exact mergeB_some ws ms k q (by simpa using hl) h
theorem mergeB_none : ∀ (ws : va_W) (ms : List (Option (Nat × va_E))) (k : Nat), ms.length = ws.length → (∀ q, ms[k]? ≠ some (some q)) → (mergeB ws ms)[k]? = ws[k]?
  | [], [], k, _, _ => rfl
  | [], _ :: _, _, h, _ => by simp at h
  | _ :: _, [], _, h, _ => by simp at h
  | a :: ws, m :: ms, 0, _, h => by
    cases m with
    | none => rfl
    | some q => exact absurd rfl (h q)
  | a :: ws, m :: ms, k + 1, hl, h => by
    show (mergeB ws ms)[k]? = ws[k]?
    exact mergeB_none ws ms k (by simpa using hl) (fun q z => h q (by rw [List.getElem?_cons_succ]; exact z))
theorem putB_mg {ws wc' : va_W} {isC : List Nat} (m : List (Option (Nat × va_E))) (bs : List Bool) (hl : m.length = ws.length) (hn : va_nd isC = true) (hlen : isC.length = wc'.length) (h1 : isC.map (fun i => m[i]?) = wc'.map (fun c => some (some c))) (hb : m.map Option.isSome = bs) (hc : (List.range bs.length).all (fun k => bs[k]? == some false || isC.contains k) = true) : putB ws isC wc' = mergeB ws m := by
  apply List.ext_getElem?
  intro k
  have hg := putB_get isC ws wc' hn hlen
  by_cases hk : k ∈ isC
  · obtain ⟨j, hj⟩ := List.getElem?_of_mem hk
    have e1 : (isC.map (fun i => m[i]?))[j]? = some (m[k]?) := by rw [List.getElem?_map, hj]; rfl
    rw [h1, List.getElem?_map] at e1
    cases hw : wc'[j]? with
    | none => rw [hw] at e1; cases e1
    | some q =>
      rw [hw] at e1
      have e2 : m[k]? = some (some q) := (Option.some.inj e1).symm
      have hkl : k < ws.length := by rw [← hl]; exact (List.getElem?_eq_some_iff.mp e2).1
      rw [hg.2 j k hj hkl, hw, mergeB_some ws m k q hl e2]
  · rw [hg.1 k hk, mergeB_none ws m k hl]
    intro q hq
    have e3 : bs[k]? = some true := by rw [← hb, List.getElem?_map, hq]; rfl
    have hkl : k < bs.length := (List.getElem?_eq_some_iff.mp e3).1
    have e4 := List.all_eq_true.mp hc k (List.mem_range.mpr hkl)
    rw [e3] at e4
    simp at e4
    exact hk e4
