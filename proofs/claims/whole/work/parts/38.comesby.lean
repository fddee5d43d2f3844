/-! ===== the model's comesBy, allCome ===== -/
def anyB (p : Nat → Bool) : Nat → Bool
  | 0 => false
  | m + 1 => anyB p m || p m
theorem anyB_t {p : Nat → Bool} {m : Nat} : anyB p m = true ↔ ∃ d, d < m ∧ p d = true := by
  induction m with
  | zero => simp [anyB]
  | succ m ih =>
    unfold anyB
    rw [Bool.or_eq_true, ih]
    constructor
    · rintro (⟨d, h1, h2⟩ | h)
      · exact ⟨d, by omega, h2⟩
      · exact ⟨m, by omega, h⟩
    · rintro ⟨d, h1, h2⟩
      by_cases h : d = m
      · subst h; exact Or.inr h2
      · exact Or.inl ⟨d, by omega, h2⟩
theorem anyB_f {p : Nat → Bool} {m : Nat} : anyB p m = false ↔ ∀ d, d < m → p d = false := by
  rw [← Bool.not_eq_true, anyB_t]
  constructor
  · intro h d hd
    cases hp : p d with
    | false => rfl
    | true => exact absurd ⟨d, hd, hp⟩ h
  · rintro h ⟨d, h1, h2⟩
    rw [h d h1] at h2; cases h2
theorem jb_orb (a b : Bool) : jv_or (jb_b a) (jb_b b) = jb_b (a || b) := by cases a <;> cases b <;> decide
theorem jb_andb (a b : Bool) : jv_and (jb_b a) (jb_b b) = jb_b (a && b) := by cases a <;> cases b <;> decide
theorem any1 {a : Bool} {p : Nat → Bool} {c : Nat} {v : Int} (h : v = jb_b (a || anyB p c)) (hp : p c = true) : jv_or v 1 = jb_b (a || anyB p (c + 1)) := by
  rw [h]
  show jv_or _ (jb_b true) = jb_b (a || (anyB p c || p c))
  rw [jb_orb, hp, Bool.or_assoc]
theorem any0 {a : Bool} {p : Nat → Bool} {c : Nat} {v : Int} (h : v = jb_b (a || anyB p c)) (hp : p c = false) : jv_or v 0 = jb_b (a || anyB p (c + 1)) := by
  rw [h]
  show jv_or _ (jb_b false) = jb_b (a || (anyB p c || p c))
  rw [jb_orb, hp, Bool.or_assoc]
theorem anyn {a : Bool} {p : Nat → Bool} {c : Nat} {v : Int} (h : v = jb_b (a || anyB p c)) (hp : p c = false) : v = jb_b (a || anyB p (c + 1)) := by
  rw [h]
  show _ = jb_b (a || (anyB p c || p c))
  rw [hp, Bool.or_false]
/-- some lane of the set leads to y -/
def sm (A : jA) (s y : Nat) (d : Nat) : Bool := s.testBit d && decide (tt A d = y)
/-- some lane of the set is a dead end -/
def de (A : jA) (s y : Nat) (d : Nat) : Bool := s.testBit d && !decide (tt A d = y) && decide (tk A d y = 0)
noncomputable def cb (A : jA) (x y : Nat) : Int := if (false || anyB (sm A (rc A x y) y) (ln A)) = false then 0 else if (decide (rc A x y = 0) || anyB (de A (rc A x y) y) (ln A)) = true ∨ gf (kn (on A y)) (ln A) (rc A x y) ≠ 0 then 1 else 2
noncomputable def cbI (A : jA) (x y : Int) : Int := cb A x.toNat y.toNat
set_option maxRecDepth 100000 in
theorem sg_Y_comesBy_0 {A : jA} {n l : Nat} {g : jv_S} {Q : jv_V → jv_L → jv_S → Prop} {v1 v2 : Int} (h :
   ((136 = 136) ∧ (LLx (LL n l)) ∧ (MN A g ∧ (0 ≤ v1 ∧ v1 < nd A) ∧ 0 ≤ v2 ∧ v2 < nd A)) ∧
    ((rcI A v1 v2) = 0 →
     jv_At jv_T jv_ml kY_comesBy 24 [jv_P 136, jv_I v1, jv_I v2, jv_I (rcI A v1 v2), jv_I (0 : Int), jv_I (1 : Int), jv_I (0 : Int)] [] (LL n l) g Q) ∧
    (¬ (rcI A v1 v2) = 0 →
     jv_At jv_T jv_ml kY_comesBy 24 [jv_P 136, jv_I v1, jv_I v2, jv_I (rcI A v1 v2), jv_I (0 : Int), jv_I (0 : Int), jv_I (0 : Int)] [] (LL n l) g Q)) :
  jv_At jv_T jv_ml kY_comesBy 0 [jv_P 136, jv_I v1, jv_I v2, jv_U, jv_U, jv_U, jv_U] [] (LL n l) g Q :=
  jv_of_wp (gok7 (A := A)) (md := []) (stop := [24]) (tab := jt_Y_comesBy) rfl 400 _ _ _ _ _ h
set_option maxRecDepth 100000 in
theorem sg_Y_comesBy_24 {A : jA} {n l : Nat} {g : jv_S} {Q : jv_V → jv_L → jv_S → Prop} {v1 v2 v3 v4 v5 v6 : Int} (h :
   ((g 136 6) ≤ v6 →
     (v4 = 0 →
       Q (jv_I (0 : Int)) (LL n l) g) ∧
      (¬ v4 = 0 →
       (v5 = 0 →
         ((136 = 136) ∧ (LLx (LL n l)) ∧ (MN A g ∧ (0 ≤ v3 ∧ v3.toNat < 2 ^ ln A) ∧ 0 ≤ v2 ∧ v2 < nd A)) ∧
          ((grI A v3 v2) = 0 →
           Q (jv_I (2 : Int)) (LL n l) g) ∧
          (¬ (grI A v3 v2) = 0 →
           Q (jv_I (1 : Int)) (LL n l) g)) ∧
        (¬ v5 = 0 →
         Q (jv_I (1 : Int)) (LL n l) g))) ∧
    (¬ (g 136 6) ≤ v6 →
     ((0 ≤ v3 ∧ v3 < 2147483648 ∧ 0 ≤ v6 ∧ v6 < 31)) ∧
      ((hb v3 v6) = 0 →
       jv_r32 (v6 + (1 : Int)) ∧
        jv_At jv_T jv_ml kY_comesBy 24 [jv_P 136, jv_I v1, jv_I v2, jv_I v3, jv_I v4, jv_I v5, jv_I (v6 + (1 : Int))] [] (LL n l) g Q) ∧
      (¬ (hb v3 v6) = 0 →
       (0 ≤ v6 ∧ v6 < 10) ∧
        ((g 141 v6) = v2 →
         (0 ≤ v6 ∧ v6 < 10) ∧
          ((g 141 v6) = v2 →
           jv_r32 (v6 + (1 : Int)) ∧
            jv_At jv_T jv_ml kY_comesBy 24 [jv_P 136, jv_I v1, jv_I v2, jv_I v3, jv_I (jv_or v4 (1 : Int)), jv_I (jv_or v5 (0 : Int)), jv_I (v6 + (1 : Int))] [] (LL n l) g Q) ∧
          (¬ (g 141 v6) = v2 →
           ((136 = 136) ∧ (LLx (LL n l)) ∧ (MN A g ∧ (0 ≤ v2 ∧ v2 < nd A) ∧ 0 ≤ v6 ∧ (v6 < ln A ∨ (10 ≤ v6 ∧ v6 < 10 + nd A)))) ∧
            ((tkI A v6 v2) = 0 →
             jv_r32 (v6 + (1 : Int)) ∧
              jv_At jv_T jv_ml kY_comesBy 24 [jv_P 136, jv_I v1, jv_I v2, jv_I v3, jv_I (jv_or v4 (1 : Int)), jv_I (jv_or v5 (1 : Int)), jv_I (v6 + (1 : Int))] [] (LL n l) g Q) ∧
            (¬ (tkI A v6 v2) = 0 →
             jv_r32 (v6 + (1 : Int)) ∧
              jv_At jv_T jv_ml kY_comesBy 24 [jv_P 136, jv_I v1, jv_I v2, jv_I v3, jv_I (jv_or v4 (1 : Int)), jv_I (jv_or v5 (0 : Int)), jv_I (v6 + (1 : Int))] [] (LL n l) g Q))) ∧
        (¬ (g 141 v6) = v2 →
         (0 ≤ v6 ∧ v6 < 10) ∧
          ((g 141 v6) = v2 →
           jv_r32 (v6 + (1 : Int)) ∧
            jv_At jv_T jv_ml kY_comesBy 24 [jv_P 136, jv_I v1, jv_I v2, jv_I v3, jv_I (jv_or v4 (0 : Int)), jv_I (jv_or v5 (0 : Int)), jv_I (v6 + (1 : Int))] [] (LL n l) g Q) ∧
          (¬ (g 141 v6) = v2 →
           ((136 = 136) ∧ (LLx (LL n l)) ∧ (MN A g ∧ (0 ≤ v2 ∧ v2 < nd A) ∧ 0 ≤ v6 ∧ (v6 < ln A ∨ (10 ≤ v6 ∧ v6 < 10 + nd A)))) ∧
            ((tkI A v6 v2) = 0 →
             jv_r32 (v6 + (1 : Int)) ∧
              jv_At jv_T jv_ml kY_comesBy 24 [jv_P 136, jv_I v1, jv_I v2, jv_I v3, jv_I (jv_or v4 (0 : Int)), jv_I (jv_or v5 (1 : Int)), jv_I (v6 + (1 : Int))] [] (LL n l) g Q) ∧
            (¬ (tkI A v6 v2) = 0 →
             jv_r32 (v6 + (1 : Int)) ∧
              jv_At jv_T jv_ml kY_comesBy 24 [jv_P 136, jv_I v1, jv_I v2, jv_I v3, jv_I (jv_or v4 (0 : Int)), jv_I (jv_or v5 (0 : Int)), jv_I (v6 + (1 : Int))] [] (LL n l) g Q)))))) :
  jv_At jv_T jv_ml kY_comesBy 24 [jv_P 136, jv_I v1, jv_I v2, jv_I v3, jv_I v4, jv_I v5, jv_I v6] [] (LL n l) g Q :=
  jv_of_wp (gok7 (A := A)) (md := []) (stop := [24]) (tab := jt_Y_comesBy) rfl 400 _ _ _ _ _ h
theorem tr_Y_comesBy {A : jA} {n l : Nat} {g : jv_S} {Q : jv_V → jv_L → jv_S → Prop} (hM : MN A g) {x y : Nat} (hx : x < nd A) (hy : y < nd A) (hQ : Q (jv_I (cb A x y)) (LL n l) g) :
  jv_Ca jv_T jv_ml kY_comesBy [jv_P 136, jv_I x, jv_I y] (LL n l) g Q := by
  have hw := hM.1
  have w1 := hw.1
  have w2 := hw.2.1
  have f2 := hM.2.2.1
  have hlt := rc_lt (A := A) (x := x) (y := y)
  have hl := i31 hlt (by omega)
  have key : ∀ c, c ≤ ln A → ∀ v4 v5 : Int, v4 = jb_b (false || anyB (sm A (rc A x y) y) c) → v5 = jb_b (decide (rc A x y = 0) || anyB (de A (rc A x y) y) c) → jv_At jv_T jv_ml kY_comesBy 24 [jv_P 136, jv_I x, jv_I y, jv_I (rc A x y : Nat), jv_I v4, jv_I v5, jv_I c] [] (LL n l) g Q := by
    apply loop_up
    intro c hc ih v4 v5 h4 h5
    apply sg_Y_comesBy_24 (A := A)
    refine ⟨fun h => ?_, fun h => ?_⟩
    · have hcl : c = ln A := by omega
      subst hcl
      unfold cb at hQ
      refine ⟨fun h1 => ?_, fun h1 => ⟨fun h2 => ⟨⟨rfl, LLx_ok, hM, ⟨by omega, hlt⟩, by omega, by omega⟩, ⟨fun h3 => ?_, fun h3 => ?_⟩⟩, fun h2 => ?_⟩⟩
      · rw [h4, jb0] at h1
        rw [if_pos h1] at hQ
        exact hQ
      · rw [h4, jb0] at h1
        rw [h5, jb0] at h2
        unfold grI at h3
        rw [jp0] at h3
        rw [if_neg h1, if_neg (by rw [h2]; rintro (h | h); cases h; exact h3 h)] at hQ
        exact hQ
      · rw [h4, jb0] at h1
        unfold grI at h3
        rw [jp0] at h3
        have h3' : gf (kn (on A y)) (ln A) (rc A x y) ≠ 0 := Classical.not_not.mp h3
        rw [if_neg h1, if_pos (Or.inr h3')] at hQ
        exact hQ
      · rw [h4, jb0] at h1
        rw [h5, jbn] at h2
        rw [if_neg h1, if_pos (Or.inl h2)] at hQ
        exact hQ
    · have ft := (hM.2.2.2.2.1 c (by omega)).2.1
      cases hbit : (rc A x y).testBit c with
      | false =>
        have e0 := hb_f hbit
        have := ih (by omega) v4 v5 (anyn h4 (by simp [sm, hbit])) (anyn h5 (by simp [de, hbit]))
        rw [e0]
        repeat' (first | assumption | apply And.intro | intro _)
        all_goals (first | omega | exact LLx_ok | skip)
      | true =>
        have e0 := hb_t hbit
        have hz : tkI A (c : Int) (y : Int) = (tk A c y : Int) := tkI_c
        rw [e0, hz]
        by_cases hty : tt A c = y
        · have := ih (by omega) _ _ (any1 h4 (by simp [sm, hbit, hty])) (any0 h5 (by simp [de, hty]))
          repeat' (first | assumption | apply And.intro | intro _)
          all_goals (first | omega | exact LLx_ok | skip)
        · by_cases hk : tk A c y = 0
          · have := ih (by omega) _ _ (any0 h4 (by simp [sm, hty])) (any1 h5 (by simp [de, hbit, hty, hk]))
            repeat' (first | assumption | apply And.intro | intro _)
            all_goals (first | omega | exact LLx_ok | skip)
          · have := ih (by omega) _ _ (any0 h4 (by simp [sm, hty])) (any0 h5 (by simp [de, hk]))
            repeat' (first | assumption | apply And.intro | intro _)
            all_goals (first | omega | exact LLx_ok | skip)
  refine sg_Y_comesBy_0 (A := A) ⟨⟨rfl, LLx_ok, hM, ⟨by omega, by omega⟩, by omega, by omega⟩, fun h => ?_, fun h => ?_⟩
  · exact key 0 (by omega) 0 1 rfl (by rw [decide_eq_true (show rc A x y = 0 by have h' : ((rc A x y : Nat) : Int) = 0 := h; omega)]; rfl)
  · exact key 0 (by omega) 0 0 rfl (by rw [decide_eq_false (show ¬ rc A x y = 0 by intro h2; apply h; show ((rc A x y : Nat) : Int) = 0; omega)]; rfl)
noncomputable def pr_Y_comesBy (A : jA) : List jv_V → jv_L → jv_S → Prop := fun as L g => match as with
  | [.inr (.inr (.inl q0)), .inl x, .inl y] => (q0 = 136) ∧ (LLx L) ∧ (MN A g ∧ (0 ≤ x ∧ x < nd A) ∧ 0 ≤ y ∧ y < nd A)
  | _ => False
noncomputable def re_Y_comesBy (A : jA) : List jv_V → jv_S → jv_V := fun as g => match as with
  | [.inr (.inr (.inl q0)), .inl x, .inl y] => jv_I (cbI A x y)
  | _ => jv_U
theorem pu_Y_comesBy {A : jA} : jp_S kY_comesBy (pr_Y_comesBy A) (re_Y_comesBy A) := by
  intro as L g h
  unfold pr_Y_comesBy at h
  split at h
  · rename_i q0 x y
    obtain ⟨rfl, ⟨n, l, rfl⟩, h⟩ := h
    apply jp_of
    obtain ⟨hM, ⟨hx1, hx2⟩, hy1, hy2⟩ := h
    obtain ⟨x, rfl⟩ := Int.eq_ofNat_of_zero_le hx1
    obtain ⟨y, rfl⟩ := Int.eq_ofNat_of_zero_le hy1
    exact tr_Y_comesBy hM (by omega) (by omega) ⟨rfl, rfl, rfl⟩
  · exact h.elim
noncomputable def jG8 (A : jA) : jv_G := (kY_comesBy, pr_Y_comesBy A, re_Y_comesBy A) :: jG7 A
theorem gok8 {A : jA} : jv_GOk jv_T jv_ml (jG8 A) := jp_cons pu_Y_comesBy (gok7)
set_option maxRecDepth 100000 in
theorem sg_Y_allCome_0 {A : jA} {n l : Nat} {g : jv_S} {Q : jv_V → jv_L → jv_S → Prop} (h :
   jv_At jv_T jv_ml kY_allCome 2 [jv_P 136, jv_I (0 : Int), jv_U] [] (LL n l) g Q) :
  jv_At jv_T jv_ml kY_allCome 0 [jv_P 136, jv_U, jv_U] [] (LL n l) g Q :=
  jv_of_wp (gok8 (A := A)) (md := []) (stop := [2, 12]) (tab := jt_Y_allCome) rfl 400 _ _ _ _ _ h
set_option maxRecDepth 100000 in
theorem sg_Y_allCome_2 {A : jA} {n l : Nat} {g : jv_S} {Q : jv_V → jv_L → jv_S → Prop} {v1 : Int} {v2 : jv_V} (h :
   ((g 136 5) ≤ v1 →
     ((1 : Int) = 0 ∨ (1 : Int) = 1) ∧ Q (jv_I (1 : Int)) (LL n l) g) ∧
    (¬ (g 136 5) ≤ v1 →
     jv_At jv_T jv_ml kY_allCome 12 [jv_P 136, jv_I v1, jv_I (0 : Int)] [] (LL n l) g Q)) :
  jv_At jv_T jv_ml kY_allCome 2 [jv_P 136, jv_I v1, v2] [] (LL n l) g Q :=
  jv_of_wp (gok8 (A := A)) (md := []) (stop := [2, 12]) (tab := jt_Y_allCome) rfl 400 _ _ _ _ _ h
set_option maxRecDepth 100000 in
theorem sg_Y_allCome_12 {A : jA} {n l : Nat} {g : jv_S} {Q : jv_V → jv_L → jv_S → Prop} {v1 v2 : Int} (h :
   ((g 136 5) ≤ v2 →
     jv_r32 (v1 + (1 : Int)) ∧
      jv_At jv_T jv_ml kY_allCome 2 [jv_P 136, jv_I (v1 + (1 : Int)), jv_I v2] [] (LL n l) g Q) ∧
    (¬ (g 136 5) ≤ v2 →
     (v1 = v2 →
       jv_r32 (v2 + (1 : Int)) ∧
        jv_At jv_T jv_ml kY_allCome 12 [jv_P 136, jv_I v1, jv_I (v2 + (1 : Int))] [] (LL n l) g Q) ∧
      (¬ v1 = v2 →
       ((136 = 136) ∧ (LLx (LL n l)) ∧ (MN A g ∧ (0 ≤ v1 ∧ v1 < nd A) ∧ 0 ≤ v2 ∧ v2 < nd A)) ∧
        ((cbI A v1 v2) = (2 : Int) →
         jv_r32 (v2 + (1 : Int)) ∧
          jv_At jv_T jv_ml kY_allCome 12 [jv_P 136, jv_I v1, jv_I (v2 + (1 : Int))] [] (LL n l) g Q) ∧
        (¬ (cbI A v1 v2) = (2 : Int) →
         ((0 : Int) = 0 ∨ (0 : Int) = 1) ∧ Q (jv_I (0 : Int)) (LL n l) g)))) :
  jv_At jv_T jv_ml kY_allCome 12 [jv_P 136, jv_I v1, jv_I v2] [] (LL n l) g Q :=
  jv_of_wp (gok8 (A := A)) (md := []) (stop := [2, 12]) (tab := jt_Y_allCome) rfl 400 _ _ _ _ _ h
def aC (A : jA) : Prop := ∀ x y, x < nd A → y < nd A → x ≠ y → cb A x y = 2
noncomputable def aCb (A : jA) : Int := jb_b (dc (aC A))
theorem tr_Y_allCome {A : jA} {n l : Nat} {g : jv_S} {Q : jv_V → jv_L → jv_S → Prop} (hM : MN A g) (hQ : Q (jv_I (aCb A)) (LL n l) g) :
  jv_Ca jv_T jv_ml kY_allCome [jv_P 136] (LL n l) g Q := by
  have hw := hM.1
  have w1 := hw.1
  have f1 := hM.2.1
  have xs : ∀ x, x ≤ nd A → ∀ v : jv_V, (∀ a y, a < x → y < nd A → a ≠ y → cb A a y = 2) → jv_At jv_T jv_ml kY_allCome 2 [jv_P 136, jv_I x, v] [] (LL n l) g Q := by
    apply loop_up
    intro x hx ih v h1
    apply sg_Y_allCome_2 (A := A)
    refine ⟨fun h => ⟨Or.inr rfl, ?_⟩, fun h => ?_⟩
    · have : aC A := fun a y ha hy hn => h1 a y (by omega) hy hn
      unfold aCb at hQ
      rw [dc_t.mpr this] at hQ
      exact hQ
    · have ys : ∀ y, y ≤ nd A → (∀ b, b < y → x ≠ b → cb A x b = 2) → jv_At jv_T jv_ml kY_allCome 12 [jv_P 136, jv_I x, jv_I y] [] (LL n l) g Q := by
        apply loop_up
        intro y hy ihy h2
        apply sg_Y_allCome_12 (A := A)
        refine ⟨fun h => ⟨⟨by omega, by omega⟩, ih (by omega) _ (fun a b ha hb hn => ?_)⟩, fun h => ⟨fun h3 => ⟨⟨by omega, by omega⟩, ihy (by omega) (fun b hb hn => h2 b (by omega) hn)⟩, fun h3 => ?_⟩⟩
        · by_cases hax : a = x
          · subst hax
            exact h2 b (by omega) hn
          · exact h1 a b (by omega) hb hn
        · have hc : cbI A (x : Int) (y : Int) = cb A x y := rfl
          refine ⟨⟨rfl, LLx_ok, hM, ⟨by omega, by omega⟩, by omega, by omega⟩, fun h4 => ⟨⟨by omega, by omega⟩, ihy (by omega) (fun b hb hn => ?_)⟩, fun h4 => ⟨Or.inl rfl, ?_⟩⟩
          · by_cases hby : b = y
            · subst hby
              exact h4
            · exact h2 b (by omega) hn
          · have : ¬ aC A := fun h5 => h4 (h5 x y (by omega) (by omega) (by omega))
            unfold aCb at hQ
            rw [dc_f.mpr this] at hQ
            exact hQ
      exact ys 0 (by omega) (fun b hb _ => by omega)
  exact sg_Y_allCome_0 (A := A) (xs 0 (by omega) _ (fun a y ha _ _ => by omega))
noncomputable def pr_Y_allCome (A : jA) : List jv_V → jv_L → jv_S → Prop := fun as L g => match as with
  | [.inr (.inr (.inl q0))] => (q0 = 136) ∧ (LLx L) ∧ (MN A g)
  | _ => False
noncomputable def re_Y_allCome (A : jA) : List jv_V → jv_S → jv_V := fun as g => match as with
  | [.inr (.inr (.inl q0))] => jv_I (aCb A)
  | _ => jv_U
theorem pu_Y_allCome {A : jA} : jp_S kY_allCome (pr_Y_allCome A) (re_Y_allCome A) := by
  intro as L g h
  unfold pr_Y_allCome at h
  split at h
  · rename_i q0
    obtain ⟨rfl, ⟨n, l, rfl⟩, h⟩ := h
    apply jp_of
    exact tr_Y_allCome h ⟨rfl, rfl, rfl⟩
  · exact h.elim
noncomputable def jG9 (A : jA) : jv_G := (kY_allCome, pr_Y_allCome A, re_Y_allCome A) :: jG8 A
theorem gok9 {A : jA} : jv_GOk jv_T jv_ml (jG9 A) := jp_cons pu_Y_allCome (gok8)
