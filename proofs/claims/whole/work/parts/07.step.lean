/-! ===== one instruction of the small machine is one of the machine ===== -/
def js_L (s0 b : Nat) (L : jv_L) (nL : Nat) (LS : Array Slot) (ls : List jv_V) : Prop := LS.size = nL ∧ lv_wf LS ∧ ls.length = nL ∧ ∀ (i : Nat) (a : jv_V), ls[i]? = some a → a ≠ jv_U → ((∃ x, a = jv_J x) → ls[i + 1]? = some jv_U) → ∃ v : Value, LS[i]? = some (.val v) ∧ jr_V s0 b L a v
def js_S (s0 b : Nat) (L : jv_L) : List Value → List jv_V → Prop
  | [], [] => True
  | v :: vs, a :: as => a ≠ jv_U ∧ jr_V s0 b L a v ∧ js_S s0 b L vs as
  | _, _ => False
def js_F (s0 : Nat) (s : State) (H : Heap) (locs : List Loc) : Prop := s.heap.size ≤ H.size ∧ (∀ q : Nat, q < s0 → H[q]? = s.heap[q]?) ∧ ∀ x ∈ locs, s0 ≤ x.base
def js_sz : jv_L → Nat
  | [] => 0
  | d :: t => d.2.1 + js_sz t
theorem js_sz_app (L N : jv_L) : js_sz (L ++ N) = js_sz L + js_sz N := by
  induction L with
  | nil => simp [js_sz]
  | cons d t ih => simp [js_sz, ih]; omega
theorem js_S.mono {s0 b : Nat} {L L' : jv_L} (h : jr_le L L') : ∀ {vs : List Value} {as : List jv_V}, js_S s0 b L vs as → js_S s0 b L' vs as
  | [], [], _ => trivial
  | v :: vs, a :: as, hv => ⟨hv.1, hv.2.1.mono h, js_S.mono h hv.2.2⟩
theorem js_L.mono {s0 b : Nat} {L L' : jv_L} (h : jr_le L L') {nL : Nat} {LS : Array Slot} {ls : List jv_V} (hl : js_L s0 b L nL LS ls) : js_L s0 b L' nL LS ls := by
  obtain ⟨h1, h2, h3, h4⟩ := hl
  refine ⟨h1, h2, h3, fun i a ha hu hj => ?_⟩
  obtain ⟨v, e1, e2⟩ := h4 i a ha hu hj
  exact ⟨v, e1, e2.mono h⟩
section
variable {s0 b : Nat} {L : jv_L} {nL : Nat} {LS : Array Slot} {ls : List jv_V}
theorem js_cat1 {a : jv_V} {v : Value} (hv : jr_V s0 b L a v) (hu : a ≠ jv_U) (hj : ∀ x, a ≠ jv_J x) : v.category = 1 := by
  rcases a with i | i | p | ⟨p, i⟩ | q | u
  · obtain ⟨w, rfl, -⟩ := hv; rfl
  · exact absurd rfl (hj i)
  · obtain ⟨-, rfl⟩ := hv; rfl
  · obtain ⟨_, _, -, -, -, rfl⟩ := hv; rfl
  · rcases hv with ⟨-, rfl⟩ | ⟨-, -, rfl⟩ <;> rfl
  · exact absurd rfl hu
theorem js_cat2 {x : Int} {v : Value} (hv : jr_V s0 b L (jv_J x) v) : v.category = 2 := by
  obtain ⟨w, rfl, -⟩ := hv; rfl
def js_lv (LS : Array Slot) : List (Nat × Value) := (List.range LS.size).filterMap (fun (i : Nat) => match (LS[i]? : Option Slot) with
  | some (Slot.val v) => some (i, v)
  | _ => none)
theorem js_lv_mem {i : Nat} {v : Value} : (i, v) ∈ js_lv LS ↔ LS[i]? = some (.val v) := by
  unfold js_lv
  rw [List.mem_filterMap]
  constructor
  · rintro ⟨j, hj, h⟩
    split at h
    · next w e =>
      cases h
      exact e
    · cases h
  · intro h
    refine ⟨i, List.mem_range.mpr (Array.getElem?_eq_some_iff.mp h).1, ?_⟩
    rw [h]
theorem js_lv_has (h1 : LS.size = nL) (h2 : lv_wf LS) : lv_has LS nL (js_lv LS) := ⟨h1, h2, fun q hq => js_lv_mem.mp hq⟩
theorem js_L.store1 (hl : js_L s0 b L nL LS ls) {i : Nat} (hi : i < nL) {a : jv_V} {v : Value} (hv : jr_V s0 b L a v) (hu : a ≠ jv_U) (hj : ∀ x, a ≠ jv_J x) : ∃ LS', storeLocals LS i v = some LS' ∧ js_L s0 b L nL LS' (jv_s1 ls i a) := by
  obtain ⟨h1, h2, h3, h4⟩ := hl
  obtain ⟨LS', e1, g1, g2, g3⟩ := lv_store1 (js_lv_has h1 h2) hi (js_cat1 hv hu hj)
  refine ⟨LS', e1, g1, g2, by simp [jv_s1, h3], fun j a' ha hu' hj' => ?_⟩
  by_cases e : j = i
  · subst e
    unfold jv_s1 at ha
    rw [List.getElem?_set_self (by omega)] at ha
    cases ha
    exact ⟨v, g3 (j, v) List.mem_cons_self, hv⟩
  · unfold jv_s1 at ha
    rw [List.getElem?_set_ne (Ne.symm e)] at ha
    have hj2 : (∃ x, a' = jv_J x) → ls[j + 1]? = some jv_U := by
      intro hx
      have := hj' hx
      unfold jv_s1 at this
      by_cases e2 : j + 1 = i
      · rw [e2, List.getElem?_set_self (by omega)] at this
        exact absurd (Option.some.inj this) hu
      · rw [List.getElem?_set_ne (Ne.symm e2)] at this
        exact this
    obtain ⟨w, w1, w2⟩ := h4 j a' ha hu' hj2
    refine ⟨w, g3 (j, w) (List.mem_cons_of_mem _ (List.mem_filter.mpr ⟨js_lv_mem.mpr w1, ?_⟩)), w2⟩
    by_cases e2 : j + 1 = i
    · have hnj : ∀ x, a' ≠ jv_J x := by
        intro x hx
        have := hj' ⟨x, hx⟩
        unfold jv_s1 at this
        rw [e2, List.getElem?_set_self (by omega)] at this
        exact absurd (Option.some.inj this) hu
      have := js_cat1 w2 hu' hnj
      simp [e, this]
    · simp [e, e2]
theorem js_L.store2 (hl : js_L s0 b L nL LS ls) {i : Nat} (hi : i + 1 < nL) {x : Int} {v : Value} (hv : jr_V s0 b L (jv_J x) v) : ∃ LS', storeLocals LS i v = some LS' ∧ js_L s0 b L nL LS' (jv_s2 ls i (jv_J x)) := by
  obtain ⟨h1, h2, h3, h4⟩ := hl
  obtain ⟨LS', e1, g1, g2, g3⟩ := lv_store2 (js_lv_has h1 h2) hi (js_cat2 hv)
  refine ⟨LS', e1, g1, g2, by simp [jv_s2, h3], fun j a' ha hu' hj' => ?_⟩
  unfold jv_s2 at ha
  by_cases e1' : j = i + 1
  · subst e1'
    rw [List.getElem?_set_self (by simp; omega)] at ha
    exact absurd (Option.some.inj ha).symm hu'
  · rw [List.getElem?_set_ne (Ne.symm e1')] at ha
    by_cases e : j = i
    · subst e
      rw [List.getElem?_set_self (by omega)] at ha
      cases ha
      exact ⟨v, g3 (j, v) List.mem_cons_self, hv⟩
    · rw [List.getElem?_set_ne (Ne.symm e)] at ha
      have hj2 : (∃ x, a' = jv_J x) → ls[j + 1]? = some jv_U ∧ j + 1 ≠ i := by
        intro hx
        have := hj' hx
        unfold jv_s2 at this
        rw [List.getElem?_set_ne (by omega)] at this
        by_cases e2 : j + 1 = i
        · rw [e2, List.getElem?_set_self (by omega)] at this
          cases this
        · rw [List.getElem?_set_ne (Ne.symm e2)] at this
          exact ⟨this, e2⟩
      obtain ⟨w, w1, w2⟩ := h4 j a' ha hu' (fun hx => (hj2 hx).1)
      refine ⟨w, g3 (j, w) (List.mem_cons_of_mem _ (List.mem_filter.mpr ⟨js_lv_mem.mpr w1, ?_⟩)), w2⟩
      by_cases e2 : j + 1 = i
      · have hnj : ∀ x, a' ≠ jv_J x := fun x hx => (hj2 ⟨x, hx⟩).2 e2
        have := js_cat1 w2 hu' hnj
        simp [e, e1', this]
      · simp [e, e1', e2]
end
