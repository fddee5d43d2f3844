/-! ===== pouring: what is ready, what has come ===== -/
theorem cr_wlk {A : jA} {y c : Nat} (h : (cr A y).testBit c = true) : ∃ x r, x < nd A ∧ wlk A x y (c :: r) := by
  have hb : ∀ i, (mk (fun c => dc (∃ x r, x < nd A ∧ wlk A x y (c :: r))) (ln A)).testBit i = true ↔ i < ln A ∧ ∃ x r, x < nd A ∧ wlk A x y (i :: r) := fun i => by
    rw [mk_bit, Bool.and_eq_true, decide_eq_true_iff, dc_t]
  have := cl_min (N := on A y) (m := ln A) (s := so A y) (T := mk (fun c => dc (∃ x r, x < nd A ∧ wlk A x y (c :: r))) (ln A)) (fun i hi => by
    rw [hb]
    obtain ⟨x, x1, x2⟩ := un_bit.mp hi
    exact ⟨bt_lt so_lt hi, x, [], x1, True.intro, x2⟩) (fun d _ hd i hi => by
    rw [hb] at hd ⊢
    obtain ⟨_, x, r, x1, x2⟩ := hd
    exact ⟨bt_lt (tk_ltl d y) hi, x, d :: r, x1, x2, hi⟩)
  exact ((hb c).mp (this c h)).2
theorem rdy_ne {A : jA} {y L : Nat} (hr : NR A y) (hL : sb L (cr A y)) {c : Nat} (hc : L.testBit c = true) (hall : ∀ c, L.testBit c = true → ∃ b, L.testBit b = true ∧ (tk A b y).testBit c = true) : False := by
  have chain : ∀ m c, L.testBit c = true → ∃ x r, x < nd A ∧ wlk A x y (c :: r) ∧ m ≤ r.length := by
    intro m
    induction m with
    | zero =>
      intro c hc
      obtain ⟨x, r, a, b⟩ := cr_wlk (hL c hc)
      exact ⟨x, r, a, b, Nat.zero_le _⟩
    | succ m ih =>
      intro c hc
      obtain ⟨b, b1, b2⟩ := hall c hc
      obtain ⟨x, r, x1, x2, x3⟩ := ih b b1
      exact ⟨x, b :: r, x1, ⟨x2, b2⟩, by rw [List.length_cons]; omega⟩
  obtain ⟨x, r, x1, x2, x3⟩ := chain (ln A) c hc
  have hl := nd_le _ (List.range (ln A)) (hr x _ x1 x2) (fun c hc => List.mem_range.mpr (bt_lt cr_lt (wlk_cr x1 _ x2 hc)))
  rw [List.length_range, List.length_cons] at hl
  omega
theorem Sf_out {A : jA} {y c : Nat} (h : (cr A y).testBit c = false) : Sf A y c = 0 := by
  unfold Sf
  rw [sgm_ext (h := fun _ => 0) _ (fun x hx => ?_)]
  · exact sgm_zero
  · rw [sgm_ext (h := fun _ => 0) _ (fun k _ => ?_)]
    · exact sgm_zero
    · apply Classical.byContradiction
      intro h0
      obtain ⟨r, r1, _⟩ := Wf_wlk k c h0
      rw [wlk_cr hx _ r1 (List.mem_cons_self ..)] at h
      cases h
/-- what has come into d when the lanes of L are left -/
noncomputable def PF (A : jA) (y L d : Nat) : Nat := S0 A y d + sgm (fun c => if (cr A y).testBit c = true ∧ L.testBit c = false ∧ (tk A c y).testBit d = true then Sf A y c / szw A c y else 0) (ln A)
theorem PF_all {A : jA} {y d : Nat} : PF A y (cr A y) d = S0 A y d := by
  unfold PF
  rw [sgm_ext (h := fun _ => 0) _ (fun c _ => if_neg (fun h => by rw [h.1] at h; cases h.2.1)), sgm_zero]
  rfl
theorem PF_full {A : jA} {y L d : Nat} (hw : wf A) (hr : NR A y) (h : ∀ b, L.testBit b = true → (tk A b y).testBit d = false) : PF A y L d = Sf A y d := by
  rw [Sf_rec hw hr d]
  unfold PF
  congr 1
  refine sgm_ext _ (fun c _ => ?_)
  show (if (cr A y).testBit c = true ∧ L.testBit c = false ∧ (tk A c y).testBit d = true then Sf A y c / szw A c y else 0) = (if (tk A c y).testBit d = true then Sf A y c / szw A c y else 0)
  by_cases hb : (tk A c y).testBit d = true
  · rw [if_pos hb]
    cases hcr : (cr A y).testBit c with
    | false => rw [if_neg (fun h => by cases h.1), Sf_out hcr, Nat.zero_div]
    | true =>
      cases hLc : L.testBit c with
      | false => rw [if_pos ⟨rfl, rfl, hb⟩]
      | true => rw [h c hLc] at hb; cases hb
  · rw [if_neg hb, if_neg (fun h => hb h.2.2)]
theorem PF_step {A : jA} {y L R d : Nat} (hL : sb L (cr A y)) (hR : sb R L) : PF A y L d + sgm (fun c => if R.testBit c = true ∧ (tk A c y).testBit d = true then Sf A y c / szw A c y else 0) (ln A) = PF A y (bd L R) d := by
  unfold PF
  rw [Nat.add_assoc, ← sgm_add]
  congr 1
  refine sgm_ext _ (fun c _ => ?_)
  show (if (cr A y).testBit c = true ∧ L.testBit c = false ∧ (tk A c y).testBit d = true then Sf A y c / szw A c y else 0) + (if R.testBit c = true ∧ (tk A c y).testBit d = true then Sf A y c / szw A c y else 0) = (if (cr A y).testBit c = true ∧ (bd L R).testBit c = false ∧ (tk A c y).testBit d = true then Sf A y c / szw A c y else 0)
  rw [bd_bit]
  have h1 := hL c
  have h2 := hR c
  cases e1 : (cr A y).testBit c <;> cases e2 : L.testBit c <;> cases e3 : R.testBit c <;> cases e4 : (tk A c y).testBit d <;> simp_all
theorem S0_le {A : jA} {y d : Nat} (hw : wf A) (hd : d < ln A) : S0 A y d ≤ 6 * NN A := Nat.le_trans (sgm_B _ (fun _ _ => Wf_le hd)) (Nat.mul_le_mul_right _ hw.1)
theorem Sf_le {A : jA} {y d : Nat} (hw : wf A) (hd : d < ln A) : Sf A y d ≤ 60 * NN A := by
  have h1 : Sf A y d ≤ nd A * (10 * NN A) := sgm_B _ (fun x _ => sgm_B _ (fun _ _ => Wf_le hd))
  have h2 : nd A * (10 * NN A) ≤ 6 * (10 * NN A) := Nat.mul_le_mul_right _ hw.1
  omega
theorem PF_le {A : jA} {y L d : Nat} (hw : wf A) (hr : NR A y) : PF A y L d ≤ Sf A y d := by
  rw [Sf_rec hw hr d]
  unfold PF
  refine Nat.add_le_add_left (sgm_le _ (fun c _ => ?_)) _
  show (if (cr A y).testBit c = true ∧ L.testBit c = false ∧ (tk A c y).testBit d = true then Sf A y c / szw A c y else 0) ≤ (if (tk A c y).testBit d = true then Sf A y c / szw A c y else 0)
  by_cases hb : (tk A c y).testBit d = true
  · rw [if_pos hb]
    split
    · exact Nat.le_refl _
    · exact Nat.zero_le _
  · rw [if_neg hb, if_neg (fun h => hb h.2.2)]
    exact Nat.le_refl _
