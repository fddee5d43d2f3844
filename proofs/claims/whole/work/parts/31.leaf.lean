/-! ===== pure calls: the leaves ===== -/
def LLx (L : jv_L) : Prop := ∃ n l : Nat, L = LL n l
theorem LLx_ok {n l : Nat} : LLx (LL n l) := ⟨n, l, rfl⟩
def jp_S (k : Nat) (pre : List jv_V → jv_L → jv_S → Prop) (res : List jv_V → jv_S → jv_V) : Prop := ∀ (as : List jv_V) (L : jv_L) (g : jv_S), pre as L g → ∃ n, jv_ex jv_T jv_ml n k 0 (jv_en (jv_ml k) as) [] L g = some (res as g, L, g)
theorem jp_of {k : Nat} {ls : List jv_V} {L : jv_L} {g : jv_S} {R : jv_V} (h : jv_At jv_T jv_ml k 0 ls [] L g (fun r L2 g2 => r = R ∧ L2 = L ∧ g2 = g)) : ∃ n, jv_ex jv_T jv_ml n k 0 ls [] L g = some (R, L, g) := by
  obtain ⟨n, r, L', g', h1, rfl, rfl, rfl⟩ := h
  exact ⟨n, h1⟩
theorem jp_nil : jv_GOk jv_T jv_ml [] := jg_nil
theorem jp_cons {k : Nat} {pre : List jv_V → jv_L → jv_S → Prop} {res : List jv_V → jv_S → jv_V} {G : jv_G} (h : jp_S k pre res) (hG : jv_GOk jv_T jv_ml G) : jv_GOk jv_T jv_ml ((k, pre, res) :: G) := by
  intro k' pre' res' h1
  unfold jv_gf1 at h1
  cases hk : Nat.beq k k' with
  | true =>
    rw [hk] at h1
    cases h1
    have := Nat.eq_of_beq_eq_true hk
    subst this
    exact h
  | false =>
    rw [hk] at h1
    exact hG k' pre' res' h1
/-- a call of a pure method -/
theorem jp_call {k : Nat} {pre : List jv_V → jv_L → jv_S → Prop} {res : List jv_V → jv_S → jv_V} (h : jp_S k pre res) {as : List jv_V} {L : jv_L} {g : jv_S} {Q : jv_V → jv_L → jv_S → Prop} (hp : pre as L g) (hQ : Q (res as g) L g) : jv_Ca jv_T jv_ml k as L g Q := by
  obtain ⟨n, hn⟩ := h as L g hp
  exact ⟨n, _, _, _, hn, hQ⟩
def hb (s k : Int) : Int := jb_b (s.toNat.testBit k.toNat)
theorem hb_nat (s k : Nat) : hb (s : Int) (k : Int) = jb_b (s.testBit k) := rfl
theorem jb0 {p : Bool} : jb_b p = 0 ↔ p = false := by cases p <;> simp [jb_b]
theorem jb1 {p : Bool} : jb_b p = 1 ↔ p = true := by cases p <;> simp [jb_b]
theorem jbn {p : Bool} : ¬ jb_b p = 0 ↔ p = true := by cases p <;> simp [jb_b]
theorem jb_bitI {s k : Int} (h1 : 0 ≤ s) (h2 : s < 2147483648) (h3 : 0 ≤ k) (h4 : k < 31) : jv_and (jv_shr s k) 1 = hb s k := by
  obtain ⟨a, rfl⟩ := Int.eq_ofNat_of_zero_le h1
  obtain ⟨b, rfl⟩ := Int.eq_ofNat_of_zero_le h3
  exact jb_bit (by omega) (by omega)
def jb_p (p : Prop) [Decidable p] : Int := jb_b (decide p)
theorem jp0 {p : Prop} [Decidable p] : jb_p p = 0 ↔ ¬ p := by unfold jb_p; rw [jb0]; simp
theorem jp1 {p : Prop} [Decidable p] : jb_p p = 1 ↔ p := by unfold jb_p; rw [jb1]; simp
theorem jp_t {p : Prop} [Decidable p] (h : p) : jb_p p = 1 := jp1.mpr h
theorem jp_f {p : Prop} [Decidable p] (h : ¬ p) : jb_p p = 0 := jp0.mpr h
theorem jp01 {p : Prop} [Decidable p] : jb_p p = 0 ∨ jb_p p = 1 := jb_b01 _
set_option maxRecDepth 100000 in
theorem sg_X_has_0 {L : jv_L} {g : jv_S} {Q : jv_V → jv_L → jv_S → Prop} {v0 v1 : Int} (h :
   ((jv_and (jv_shr v0 v1) (1 : Int)) = (1 : Int) →
     ((1 : Int) = 0 ∨ (1 : Int) = 1) ∧ Q (jv_I (1 : Int)) L g) ∧
    (¬ (jv_and (jv_shr v0 v1) (1 : Int)) = (1 : Int) →
     ((0 : Int) = 0 ∨ (0 : Int) = 1) ∧ Q (jv_I (0 : Int)) L g)) :
  jv_At jv_T jv_ml kX_has 0 [jv_I v0, jv_I v1] [] L g Q :=
  jv_of_wp jg_nil (md := []) (stop := []) (tab := jt_X_has) rfl 400 _ _ _ _ _ h
def pr_X_has : List jv_V → jv_L → jv_S → Prop := fun as L g => match as with
  | [.inl s, .inl k] => (0 ≤ s ∧ s < 2147483648 ∧ 0 ≤ k ∧ k < 31)
  | _ => False
def re_X_has : List jv_V → jv_S → jv_V := fun as g => match as with
  | [.inl s, .inl k] => jv_I (hb s k)
  | _ => jv_U
theorem pu_X_has : jp_S kX_has pr_X_has re_X_has := by
  intro as L g h
  unfold pr_X_has at h
  split at h
  · rename_i s k
    apply jp_of
    have e := jb_bitI (s := s) (k := k) (by omega) (by omega) (by omega) (by omega)
    apply sg_X_has_0
    rw [e]
    unfold hb
    refine ⟨fun h1 => ⟨Or.inr rfl, ?_, rfl, rfl⟩, fun h1 => ⟨Or.inl rfl, ?_, rfl, rfl⟩⟩
    · show jv_I 1 = jv_I (jb_b _)
      rw [h1]
    · show jv_I 0 = jv_I (jb_b _)
      rcases jb_b01 (s.toNat.testBit k.toNat) with h2 | h2
      · rw [h2]
      · exact absurd h2 h1
  · exact h.elim
set_option maxRecDepth 100000 in
theorem sg_Y_has_0 {L : jv_L} {g : jv_S} {Q : jv_V → jv_L → jv_S → Prop} {v0 v1 : Int} (h :
   ((jv_and (jv_shr v0 v1) (1 : Int)) = (1 : Int) →
     ((1 : Int) = 0 ∨ (1 : Int) = 1) ∧ Q (jv_I (1 : Int)) L g) ∧
    (¬ (jv_and (jv_shr v0 v1) (1 : Int)) = (1 : Int) →
     ((0 : Int) = 0 ∨ (0 : Int) = 1) ∧ Q (jv_I (0 : Int)) L g)) :
  jv_At jv_T jv_ml kY_has 0 [jv_I v0, jv_I v1] [] L g Q :=
  jv_of_wp jg_nil (md := []) (stop := []) (tab := jt_Y_has) rfl 400 _ _ _ _ _ h
def pr_Y_has : List jv_V → jv_L → jv_S → Prop := fun as L g => match as with
  | [.inl s, .inl k] => (0 ≤ s ∧ s < 2147483648 ∧ 0 ≤ k ∧ k < 31)
  | _ => False
def re_Y_has : List jv_V → jv_S → jv_V := fun as g => match as with
  | [.inl s, .inl k] => jv_I (hb s k)
  | _ => jv_U
theorem pu_Y_has : jp_S kY_has pr_Y_has re_Y_has := by
  intro as L g h
  unfold pr_Y_has at h
  split at h
  · rename_i s k
    apply jp_of
    have e := jb_bitI (s := s) (k := k) (by omega) (by omega) (by omega) (by omega)
    apply sg_Y_has_0
    rw [e]
    unfold hb
    refine ⟨fun h1 => ⟨Or.inr rfl, ?_, rfl, rfl⟩, fun h1 => ⟨Or.inl rfl, ?_, rfl, rfl⟩⟩
    · show jv_I 1 = jv_I (jb_b _)
      rw [h1]
    · show jv_I 0 = jv_I (jb_b _)
      rcases jb_b01 (s.toNat.testBit k.toNat) with h2 | h2
      · rw [h2]
      · exact absurd h2 h1
  · exact h.elim
set_option maxRecDepth 100000 in
theorem sg_Y_within_0 {L : jv_L} {g : jv_S} {Q : jv_V → jv_L → jv_S → Prop} {v0 v1 v2 : Int} (h :
   (v0 < v1 →
     ((0 : Int) = 0 ∨ (0 : Int) = 1) ∧ Q (jv_I (0 : Int)) L g) ∧
    (¬ v0 < v1 →
     (v2 < v0 →
       ((0 : Int) = 0 ∨ (0 : Int) = 1) ∧ Q (jv_I (0 : Int)) L g) ∧
      (¬ v2 < v0 →
       ((1 : Int) = 0 ∨ (1 : Int) = 1) ∧ Q (jv_I (1 : Int)) L g))) :
  jv_At jv_T jv_ml kY_within 0 [jv_I v0, jv_I v1, jv_I v2] [] L g Q :=
  jv_of_wp jg_nil (md := []) (stop := []) (tab := jt_Y_within) rfl 400 _ _ _ _ _ h
def pr_Y_within : List jv_V → jv_L → jv_S → Prop := fun as L g => match as with
  | [.inl v, .inl a, .inl b] => (True)
  | _ => False
def re_Y_within : List jv_V → jv_S → jv_V := fun as g => match as with
  | [.inl v, .inl a, .inl b] => jv_I (jb_p (a ≤ v ∧ v ≤ b))
  | _ => jv_U
theorem pu_Y_within : jp_S kY_within pr_Y_within re_Y_within := by
  intro as L g h
  unfold pr_Y_within at h
  split at h
  · rename_i v a b
    apply jp_of
    apply sg_Y_within_0
    refine ⟨fun h1 => ⟨Or.inl rfl, ?_, rfl, rfl⟩, fun h1 => ⟨fun h2 => ⟨Or.inl rfl, ?_, rfl, rfl⟩, fun h2 => ⟨Or.inr rfl, ?_, rfl, rfl⟩⟩⟩
    · exact congrArg jv_I (jp_f (by omega)).symm
    · exact congrArg jv_I (jp_f (by omega)).symm
    · exact congrArg jv_I (jp_t (by omega)).symm
  · exact h.elim
def jG1 : jv_G := (kX_has, pr_X_has, re_X_has) :: (kY_has, pr_Y_has, re_Y_has) :: (kY_within, pr_Y_within, re_Y_within) :: []
theorem gok1 : jv_GOk jv_T jv_ml jG1 := jp_cons pu_X_has (jp_cons pu_Y_has (jp_cons pu_Y_within (jg_nil)))
set_option maxRecDepth 100000 in
theorem sg_N_isLane_0 {n l : Nat} {g : jv_S} {Q : jv_V → jv_L → jv_S → Prop} {v1 : Int} (h :
   (v1 < 0 →
     ((0 : Int) = 0 ∨ (0 : Int) = 1) ∧ Q (jv_I (0 : Int)) (LL n l) g) ∧
    (¬ v1 < 0 →
     ((g 14 1) ≤ v1 →
       ((0 : Int) = 0 ∨ (0 : Int) = 1) ∧ Q (jv_I (0 : Int)) (LL n l) g) ∧
      (¬ (g 14 1) ≤ v1 →
       ((1 : Int) = 0 ∨ (1 : Int) = 1) ∧ Q (jv_I (1 : Int)) (LL n l) g))) :
  jv_At jv_T jv_ml kN_isLane 0 [jv_P 14, jv_I v1] [] (LL n l) g Q :=
  jv_of_wp jg_nil (md := []) (stop := []) (tab := jt_N_isLane) rfl 400 _ _ _ _ _ h
def pr_N_isLane : List jv_V → jv_L → jv_S → Prop := fun as L g => match as with
  | [.inr (.inr (.inl q0)), .inl c] => (q0 = 14) ∧ (LLx L) ∧ (True)
  | _ => False
def re_N_isLane : List jv_V → jv_S → jv_V := fun as g => match as with
  | [.inr (.inr (.inl q0)), .inl c] => jv_I (jb_p (0 ≤ c ∧ c < g 14 1))
  | _ => jv_U
theorem pu_N_isLane : jp_S kN_isLane pr_N_isLane re_N_isLane := by
  intro as L g h
  unfold pr_N_isLane at h
  split at h
  · rename_i q0 c
    obtain ⟨rfl, ⟨n, l, rfl⟩, h⟩ := h
    apply jp_of
    apply sg_N_isLane_0
    repeat' first | apply And.intro | intro _
    all_goals first | rfl | omega | exact Or.inl rfl | exact Or.inr rfl | exact congrArg jv_I (jp_f (by omega)).symm | exact congrArg jv_I (jp_t (by omega)).symm | exact LLx_ok | trivial
  · exact h.elim
set_option maxRecDepth 100000 in
theorem sg_N_isNode_0 {n l : Nat} {g : jv_S} {Q : jv_V → jv_L → jv_S → Prop} {v1 : Int} (h :
   (v1 < 0 →
     ((0 : Int) = 0 ∨ (0 : Int) = 1) ∧ Q (jv_I (0 : Int)) (LL n l) g) ∧
    (¬ v1 < 0 →
     ((g 14 0) ≤ v1 →
       ((0 : Int) = 0 ∨ (0 : Int) = 1) ∧ Q (jv_I (0 : Int)) (LL n l) g) ∧
      (¬ (g 14 0) ≤ v1 →
       ((1 : Int) = 0 ∨ (1 : Int) = 1) ∧ Q (jv_I (1 : Int)) (LL n l) g))) :
  jv_At jv_T jv_ml kN_isNode 0 [jv_P 14, jv_I v1] [] (LL n l) g Q :=
  jv_of_wp jg_nil (md := []) (stop := []) (tab := jt_N_isNode) rfl 400 _ _ _ _ _ h
def pr_N_isNode : List jv_V → jv_L → jv_S → Prop := fun as L g => match as with
  | [.inr (.inr (.inl q0)), .inl c] => (q0 = 14) ∧ (LLx L) ∧ (True)
  | _ => False
def re_N_isNode : List jv_V → jv_S → jv_V := fun as g => match as with
  | [.inr (.inr (.inl q0)), .inl c] => jv_I (jb_p (0 ≤ c ∧ c < g 14 0))
  | _ => jv_U
theorem pu_N_isNode : jp_S kN_isNode pr_N_isNode re_N_isNode := by
  intro as L g h
  unfold pr_N_isNode at h
  split at h
  · rename_i q0 c
    obtain ⟨rfl, ⟨n, l, rfl⟩, h⟩ := h
    apply jp_of
    apply sg_N_isNode_0
    repeat' first | apply And.intro | intro _
    all_goals first | rfl | omega | exact Or.inl rfl | exact Or.inr rfl | exact congrArg jv_I (jp_f (by omega)).symm | exact congrArg jv_I (jp_t (by omega)).symm | exact LLx_ok | trivial
  · exact h.elim
set_option maxRecDepth 100000 in
theorem sg_Y_isLane_0 {n l : Nat} {g : jv_S} {Q : jv_V → jv_L → jv_S → Prop} {v1 : Int} (h :
   (v1 < 0 →
     ((0 : Int) = 0 ∨ (0 : Int) = 1) ∧ Q (jv_I (0 : Int)) (LL n l) g) ∧
    (¬ v1 < 0 →
     ((g 136 6) ≤ v1 →
       ((0 : Int) = 0 ∨ (0 : Int) = 1) ∧ Q (jv_I (0 : Int)) (LL n l) g) ∧
      (¬ (g 136 6) ≤ v1 →
       ((1 : Int) = 0 ∨ (1 : Int) = 1) ∧ Q (jv_I (1 : Int)) (LL n l) g))) :
  jv_At jv_T jv_ml kY_isLane 0 [jv_P 136, jv_I v1] [] (LL n l) g Q :=
  jv_of_wp jg_nil (md := []) (stop := []) (tab := jt_Y_isLane) rfl 400 _ _ _ _ _ h
def pr_Y_isLane : List jv_V → jv_L → jv_S → Prop := fun as L g => match as with
  | [.inr (.inr (.inl q0)), .inl c] => (q0 = 136) ∧ (LLx L) ∧ (True)
  | _ => False
def re_Y_isLane : List jv_V → jv_S → jv_V := fun as g => match as with
  | [.inr (.inr (.inl q0)), .inl c] => jv_I (jb_p (0 ≤ c ∧ c < g 136 6))
  | _ => jv_U
theorem pu_Y_isLane : jp_S kY_isLane pr_Y_isLane re_Y_isLane := by
  intro as L g h
  unfold pr_Y_isLane at h
  split at h
  · rename_i q0 c
    obtain ⟨rfl, ⟨n, l, rfl⟩, h⟩ := h
    apply jp_of
    apply sg_Y_isLane_0
    repeat' first | apply And.intro | intro _
    all_goals first | rfl | omega | exact Or.inl rfl | exact Or.inr rfl | exact congrArg jv_I (jp_f (by omega)).symm | exact congrArg jv_I (jp_t (by omega)).symm | exact LLx_ok | trivial
  · exact h.elim
set_option maxRecDepth 100000 in
theorem sg_Y_isNode_0 {n l : Nat} {g : jv_S} {Q : jv_V → jv_L → jv_S → Prop} {v1 : Int} (h :
   (v1 < 0 →
     ((0 : Int) = 0 ∨ (0 : Int) = 1) ∧ Q (jv_I (0 : Int)) (LL n l) g) ∧
    (¬ v1 < 0 →
     ((g 136 5) ≤ v1 →
       ((0 : Int) = 0 ∨ (0 : Int) = 1) ∧ Q (jv_I (0 : Int)) (LL n l) g) ∧
      (¬ (g 136 5) ≤ v1 →
       ((1 : Int) = 0 ∨ (1 : Int) = 1) ∧ Q (jv_I (1 : Int)) (LL n l) g))) :
  jv_At jv_T jv_ml kY_isNode 0 [jv_P 136, jv_I v1] [] (LL n l) g Q :=
  jv_of_wp jg_nil (md := []) (stop := []) (tab := jt_Y_isNode) rfl 400 _ _ _ _ _ h
def pr_Y_isNode : List jv_V → jv_L → jv_S → Prop := fun as L g => match as with
  | [.inr (.inr (.inl q0)), .inl c] => (q0 = 136) ∧ (LLx L) ∧ (True)
  | _ => False
def re_Y_isNode : List jv_V → jv_S → jv_V := fun as g => match as with
  | [.inr (.inr (.inl q0)), .inl c] => jv_I (jb_p (0 ≤ c ∧ c < g 136 5))
  | _ => jv_U
theorem pu_Y_isNode : jp_S kY_isNode pr_Y_isNode re_Y_isNode := by
  intro as L g h
  unfold pr_Y_isNode at h
  split at h
  · rename_i q0 c
    obtain ⟨rfl, ⟨n, l, rfl⟩, h⟩ := h
    apply jp_of
    apply sg_Y_isNode_0
    repeat' first | apply And.intro | intro _
    all_goals first | rfl | omega | exact Or.inl rfl | exact Or.inr rfl | exact congrArg jv_I (jp_f (by omega)).symm | exact congrArg jv_I (jp_t (by omega)).symm | exact LLx_ok | trivial
  · exact h.elim
set_option maxRecDepth 100000 in
theorem sg_Y_isLoad_0 {n l : Nat} {g : jv_S} {Q : jv_V → jv_L → jv_S → Prop} {v1 : Int} (h :
   (v1 < 0 →
     ((0 : Int) = 0 ∨ (0 : Int) = 1) ∧ Q (jv_I (0 : Int)) (LL n l) g) ∧
    (¬ v1 < 0 →
     ((g 136 27) ≤ v1 →
       ((0 : Int) = 0 ∨ (0 : Int) = 1) ∧ Q (jv_I (0 : Int)) (LL n l) g) ∧
      (¬ (g 136 27) ≤ v1 →
       ((1 : Int) = 0 ∨ (1 : Int) = 1) ∧ Q (jv_I (1 : Int)) (LL n l) g))) :
  jv_At jv_T jv_ml kY_isLoad 0 [jv_P 136, jv_I v1] [] (LL n l) g Q :=
  jv_of_wp jg_nil (md := []) (stop := []) (tab := jt_Y_isLoad) rfl 400 _ _ _ _ _ h
def pr_Y_isLoad : List jv_V → jv_L → jv_S → Prop := fun as L g => match as with
  | [.inr (.inr (.inl q0)), .inl c] => (q0 = 136) ∧ (LLx L) ∧ (True)
  | _ => False
def re_Y_isLoad : List jv_V → jv_S → jv_V := fun as g => match as with
  | [.inr (.inr (.inl q0)), .inl c] => jv_I (jb_p (0 ≤ c ∧ c < g 136 27))
  | _ => jv_U
theorem pu_Y_isLoad : jp_S kY_isLoad pr_Y_isLoad re_Y_isLoad := by
  intro as L g h
  unfold pr_Y_isLoad at h
  split at h
  · rename_i q0 c
    obtain ⟨rfl, ⟨n, l, rfl⟩, h⟩ := h
    apply jp_of
    apply sg_Y_isLoad_0
    repeat' first | apply And.intro | intro _
    all_goals first | rfl | omega | exact Or.inl rfl | exact Or.inr rfl | exact congrArg jv_I (jp_f (by omega)).symm | exact congrArg jv_I (jp_t (by omega)).symm | exact LLx_ok | trivial
  · exact h.elim
set_option maxRecDepth 100000 in
theorem sg_Sh_isSheet_0 {n l : Nat} {g : jv_S} {Q : jv_V → jv_L → jv_S → Prop} {v1 : Int} (h :
   (v1 < 0 →
     ((0 : Int) = 0 ∨ (0 : Int) = 1) ∧ Q (jv_I (0 : Int)) (LL n l) g) ∧
    (¬ v1 < 0 →
     ((4 : Int) ≤ v1 →
       ((0 : Int) = 0 ∨ (0 : Int) = 1) ∧ Q (jv_I (0 : Int)) (LL n l) g) ∧
      (¬ (4 : Int) ≤ v1 →
       ((1 : Int) = 0 ∨ (1 : Int) = 1) ∧ Q (jv_I (1 : Int)) (LL n l) g))) :
  jv_At jv_T jv_ml kSh_isSheet 0 [jv_P 2, jv_I v1] [] (LL n l) g Q :=
  jv_of_wp jg_nil (md := []) (stop := []) (tab := jt_Sh_isSheet) rfl 400 _ _ _ _ _ h
def pr_Sh_isSheet : List jv_V → jv_L → jv_S → Prop := fun as L g => match as with
  | [.inr (.inr (.inl q0)), .inl k] => (q0 = 2) ∧ (LLx L) ∧ (True)
  | _ => False
def re_Sh_isSheet : List jv_V → jv_S → jv_V := fun as g => match as with
  | [.inr (.inr (.inl q0)), .inl k] => jv_I (jb_p (0 ≤ k ∧ k ≤ 3))
  | _ => jv_U
theorem pu_Sh_isSheet : jp_S kSh_isSheet pr_Sh_isSheet re_Sh_isSheet := by
  intro as L g h
  unfold pr_Sh_isSheet at h
  split at h
  · rename_i q0 k
    obtain ⟨rfl, ⟨n, l, rfl⟩, h⟩ := h
    apply jp_of
    apply sg_Sh_isSheet_0
    repeat' first | apply And.intro | intro _
    all_goals first | rfl | omega | exact Or.inl rfl | exact Or.inr rfl | exact congrArg jv_I (jp_f (by omega)).symm | exact congrArg jv_I (jp_t (by omega)).symm | exact LLx_ok | trivial
  · exact h.elim
set_option maxRecDepth 100000 in
theorem sg_Sh_isSort_0 {n l : Nat} {g : jv_S} {Q : jv_V → jv_L → jv_S → Prop} {v1 : Int} (h :
   (v1 < 0 →
     ((0 : Int) = 0 ∨ (0 : Int) = 1) ∧ Q (jv_I (0 : Int)) (LL n l) g) ∧
    (¬ v1 < 0 →
     ((2 : Int) < v1 →
       ((0 : Int) = 0 ∨ (0 : Int) = 1) ∧ Q (jv_I (0 : Int)) (LL n l) g) ∧
      (¬ (2 : Int) < v1 →
       ((1 : Int) = 0 ∨ (1 : Int) = 1) ∧ Q (jv_I (1 : Int)) (LL n l) g))) :
  jv_At jv_T jv_ml kSh_isSort 0 [jv_P 2, jv_I v1] [] (LL n l) g Q :=
  jv_of_wp jg_nil (md := []) (stop := []) (tab := jt_Sh_isSort) rfl 400 _ _ _ _ _ h
def pr_Sh_isSort : List jv_V → jv_L → jv_S → Prop := fun as L g => match as with
  | [.inr (.inr (.inl q0)), .inl k] => (q0 = 2) ∧ (LLx L) ∧ (True)
  | _ => False
def re_Sh_isSort : List jv_V → jv_S → jv_V := fun as g => match as with
  | [.inr (.inr (.inl q0)), .inl k] => jv_I (jb_p (0 ≤ k ∧ k ≤ 2))
  | _ => jv_U
theorem pu_Sh_isSort : jp_S kSh_isSort pr_Sh_isSort re_Sh_isSort := by
  intro as L g h
  unfold pr_Sh_isSort at h
  split at h
  · rename_i q0 k
    obtain ⟨rfl, ⟨n, l, rfl⟩, h⟩ := h
    apply jp_of
    apply sg_Sh_isSort_0
    repeat' first | apply And.intro | intro _
    all_goals first | rfl | omega | exact Or.inl rfl | exact Or.inr rfl | exact congrArg jv_I (jp_f (by omega)).symm | exact congrArg jv_I (jp_t (by omega)).symm | exact LLx_ok | trivial
  · exact h.elim
set_option maxRecDepth 100000 in
theorem sg_Sh_hasRow_0 {n l : Nat} {g : jv_S} {Q : jv_V → jv_L → jv_S → Prop} {v1 : Int} (h :
   (0 ≤ v1 ∧ v1 < 4) ∧
    ((g 9 v1) = (-1 : Int) →
     ((0 : Int) = 0 ∨ (0 : Int) = 1) ∧ Q (jv_I (0 : Int)) (LL n l) g) ∧
    (¬ (g 9 v1) = (-1 : Int) →
     ((1 : Int) = 0 ∨ (1 : Int) = 1) ∧ Q (jv_I (1 : Int)) (LL n l) g)) :
  jv_At jv_T jv_ml kSh_hasRow 0 [jv_P 2, jv_I v1] [] (LL n l) g Q :=
  jv_of_wp jg_nil (md := []) (stop := []) (tab := jt_Sh_hasRow) rfl 400 _ _ _ _ _ h
def pr_Sh_hasRow : List jv_V → jv_L → jv_S → Prop := fun as L g => match as with
  | [.inr (.inr (.inl q0)), .inl k] => (q0 = 2) ∧ (LLx L) ∧ (0 ≤ k ∧ k < 4)
  | _ => False
def re_Sh_hasRow : List jv_V → jv_S → jv_V := fun as g => match as with
  | [.inr (.inr (.inl q0)), .inl k] => jv_I (jb_p (¬ g 9 k = -1))
  | _ => jv_U
theorem pu_Sh_hasRow : jp_S kSh_hasRow pr_Sh_hasRow re_Sh_hasRow := by
  intro as L g h
  unfold pr_Sh_hasRow at h
  split at h
  · rename_i q0 k
    obtain ⟨rfl, ⟨n, l, rfl⟩, h⟩ := h
    apply jp_of
    apply sg_Sh_hasRow_0
    repeat' first | apply And.intro | intro _
    all_goals first | rfl | omega | exact Or.inl rfl | exact Or.inr rfl | exact congrArg jv_I (jp_f (by omega)).symm | exact congrArg jv_I (jp_t (by omega)).symm | exact LLx_ok | trivial
  · exact h.elim
set_option maxRecDepth 100000 in
theorem sg_Sh_hasCell_0 {n l : Nat} {g : jv_S} {Q : jv_V → jv_L → jv_S → Prop} {v1 v2 : Int} (h :
   (v2 < 0 →
     ((0 : Int) = 0 ∨ (0 : Int) = 1) ∧ Q (jv_I (0 : Int)) (LL n l) g) ∧
    (¬ v2 < 0 →
     (0 ≤ v1 ∧ v1 < 4) ∧
      ((g 9 v1) ≤ v2 →
       ((0 : Int) = 0 ∨ (0 : Int) = 1) ∧ Q (jv_I (0 : Int)) (LL n l) g) ∧
      (¬ (g 9 v1) ≤ v2 →
       ((1 : Int) = 0 ∨ (1 : Int) = 1) ∧ Q (jv_I (1 : Int)) (LL n l) g))) :
  jv_At jv_T jv_ml kSh_hasCell 0 [jv_P 2, jv_I v1, jv_I v2] [] (LL n l) g Q :=
  jv_of_wp jg_nil (md := []) (stop := []) (tab := jt_Sh_hasCell) rfl 400 _ _ _ _ _ h
def pr_Sh_hasCell : List jv_V → jv_L → jv_S → Prop := fun as L g => match as with
  | [.inr (.inr (.inl q0)), .inl k, .inl i] => (q0 = 2) ∧ (LLx L) ∧ (0 ≤ k ∧ k < 4)
  | _ => False
def re_Sh_hasCell : List jv_V → jv_S → jv_V := fun as g => match as with
  | [.inr (.inr (.inl q0)), .inl k, .inl i] => jv_I (jb_p (0 ≤ i ∧ i < g 9 k))
  | _ => jv_U
theorem pu_Sh_hasCell : jp_S kSh_hasCell pr_Sh_hasCell re_Sh_hasCell := by
  intro as L g h
  unfold pr_Sh_hasCell at h
  split at h
  · rename_i q0 k i
    obtain ⟨rfl, ⟨n, l, rfl⟩, h⟩ := h
    apply jp_of
    apply sg_Sh_hasCell_0
    repeat' first | apply And.intro | intro _
    all_goals first | rfl | omega | exact Or.inl rfl | exact Or.inr rfl | exact congrArg jv_I (jp_f (by omega)).symm | exact congrArg jv_I (jp_t (by omega)).symm | exact LLx_ok | trivial
  · exact h.elim
set_option maxRecDepth 100000 in
theorem sg_Sh_hasCells_0 {n l : Nat} {g : jv_S} {Q : jv_V → jv_L → jv_S → Prop} {v1 v2 v3 : Int} (h :
   (v3 < 0 →
     ((0 : Int) = 0 ∨ (0 : Int) = 1) ∧ Q (jv_I (0 : Int)) (LL n l) g) ∧
    (¬ v3 < 0 →
     (v2 < 0 →
       ((0 : Int) = 0 ∨ (0 : Int) = 1) ∧ Q (jv_I (0 : Int)) (LL n l) g) ∧
      (¬ v2 < 0 →
       (0 ≤ v1 ∧ v1 < 4) ∧
        ((g 9 v1) < v2 →
         ((0 : Int) = 0 ∨ (0 : Int) = 1) ∧ Q (jv_I (0 : Int)) (LL n l) g) ∧
        (¬ (g 9 v1) < v2 →
         (0 ≤ v1 ∧ v1 < 4) ∧
          jv_r32 ((g 9 v1) - v2) ∧
          (((g 9 v1) - v2) < v3 →
           ((0 : Int) = 0 ∨ (0 : Int) = 1) ∧ Q (jv_I (0 : Int)) (LL n l) g) ∧
          (¬ ((g 9 v1) - v2) < v3 →
           ((1 : Int) = 0 ∨ (1 : Int) = 1) ∧ Q (jv_I (1 : Int)) (LL n l) g))))) :
  jv_At jv_T jv_ml kSh_hasCells 0 [jv_P 2, jv_I v1, jv_I v2, jv_I v3] [] (LL n l) g Q :=
  jv_of_wp jg_nil (md := []) (stop := []) (tab := jt_Sh_hasCells) rfl 400 _ _ _ _ _ h
def pr_Sh_hasCells : List jv_V → jv_L → jv_S → Prop := fun as L g => match as with
  | [.inr (.inr (.inl q0)), .inl k, .inl i, .inl m] => (q0 = 2) ∧ (LLx L) ∧ (0 ≤ k ∧ k < 4 ∧ -1 ≤ g 9 k ∧ g 9 k ≤ 60)
  | _ => False
def re_Sh_hasCells : List jv_V → jv_S → jv_V := fun as g => match as with
  | [.inr (.inr (.inl q0)), .inl k, .inl i, .inl m] => jv_I (jb_p (0 ≤ m ∧ 0 ≤ i ∧ i ≤ g 9 k ∧ m ≤ g 9 k - i))
  | _ => jv_U
theorem pu_Sh_hasCells : jp_S kSh_hasCells pr_Sh_hasCells re_Sh_hasCells := by
  intro as L g h
  unfold pr_Sh_hasCells at h
  split at h
  · rename_i q0 k i m
    obtain ⟨rfl, ⟨n, l, rfl⟩, h⟩ := h
    apply jp_of
    apply sg_Sh_hasCells_0
    repeat' first | apply And.intro | intro _
    all_goals first | rfl | omega | exact Or.inl rfl | exact Or.inr rfl | exact congrArg jv_I (jp_f (by omega)).symm | exact congrArg jv_I (jp_t (by omega)).symm | exact LLx_ok | trivial
  · exact h.elim
set_option maxRecDepth 100000 in
theorem sg_X_isKind_0 {n l : Nat} {g : jv_S} {Q : jv_V → jv_L → jv_S → Prop} {v0 : Int} (h :
   (v0 < 0 →
     ((0 : Int) = 0 ∨ (0 : Int) = 1) ∧ Q (jv_I (0 : Int)) (LL n l) g) ∧
    (¬ v0 < 0 →
     ((2 : Int) < v0 →
       ((0 : Int) = 0 ∨ (0 : Int) = 1) ∧ Q (jv_I (0 : Int)) (LL n l) g) ∧
      (¬ (2 : Int) < v0 →
       ((1 : Int) = 0 ∨ (1 : Int) = 1) ∧ Q (jv_I (1 : Int)) (LL n l) g))) :
  jv_At jv_T jv_ml kX_isKind 0 [jv_I v0] [] (LL n l) g Q :=
  jv_of_wp jg_nil (md := []) (stop := []) (tab := jt_X_isKind) rfl 400 _ _ _ _ _ h
def pr_X_isKind : List jv_V → jv_L → jv_S → Prop := fun as L g => match as with
  | [.inl k] => (LLx L) ∧ (True)
  | _ => False
def re_X_isKind : List jv_V → jv_S → jv_V := fun as g => match as with
  | [.inl k] => jv_I (jb_p (0 ≤ k ∧ k ≤ 2))
  | _ => jv_U
theorem pu_X_isKind : jp_S kX_isKind pr_X_isKind re_X_isKind := by
  intro as L g h
  unfold pr_X_isKind at h
  split at h
  · rename_i k
    obtain ⟨⟨n, l, rfl⟩, h⟩ := h
    apply jp_of
    apply sg_X_isKind_0
    repeat' first | apply And.intro | intro _
    all_goals first | rfl | omega | exact Or.inl rfl | exact Or.inr rfl | exact congrArg jv_I (jp_f (by omega)).symm | exact congrArg jv_I (jp_t (by omega)).symm | exact LLx_ok | trivial
  · exact h.elim
set_option maxRecDepth 100000 in
theorem sg_Tr_hasRoom_0 {n l : Nat} {g : jv_S} {Q : jv_V → jv_L → jv_S → Prop} {v1 : Int} (h :
   (0 ≤ v1 ∧ v1 < 10) ∧
    (0 ≤ v1 ∧ v1 < 10) ∧
    ((g 17 v1) ≤ (g 100 v1) →
     ((0 : Int) = 0 ∨ (0 : Int) = 1) ∧ Q (jv_I (0 : Int)) (LL n l) g) ∧
    (¬ (g 17 v1) ≤ (g 100 v1) →
     ((1 : Int) = 0 ∨ (1 : Int) = 1) ∧ Q (jv_I (1 : Int)) (LL n l) g)) :
  jv_At jv_T jv_ml kTr_hasRoom 0 [jv_P 87, jv_I v1] [] (LL n l) g Q :=
  jv_of_wp jg_nil (md := []) (stop := []) (tab := jt_Tr_hasRoom) rfl 400 _ _ _ _ _ h
def pr_Tr_hasRoom : List jv_V → jv_L → jv_S → Prop := fun as L g => match as with
  | [.inr (.inr (.inl q0)), .inl c] => (q0 = 87) ∧ (LLx L) ∧ (0 ≤ c ∧ c < 10)
  | _ => False
def re_Tr_hasRoom : List jv_V → jv_S → jv_V := fun as g => match as with
  | [.inr (.inr (.inl q0)), .inl c] => jv_I (jb_p (g 100 c < g 17 c))
  | _ => jv_U
theorem pu_Tr_hasRoom : jp_S kTr_hasRoom pr_Tr_hasRoom re_Tr_hasRoom := by
  intro as L g h
  unfold pr_Tr_hasRoom at h
  split at h
  · rename_i q0 c
    obtain ⟨rfl, ⟨n, l, rfl⟩, h⟩ := h
    apply jp_of
    apply sg_Tr_hasRoom_0
    repeat' first | apply And.intro | intro _
    all_goals first | rfl | omega | exact Or.inl rfl | exact Or.inr rfl | exact congrArg jv_I (jp_f (by omega)).symm | exact congrArg jv_I (jp_t (by omega)).symm | exact LLx_ok | trivial
  · exact h.elim
def jG2 : jv_G := (kN_isLane, pr_N_isLane, re_N_isLane) :: (kN_isNode, pr_N_isNode, re_N_isNode) :: (kY_isLane, pr_Y_isLane, re_Y_isLane) :: (kY_isNode, pr_Y_isNode, re_Y_isNode) :: (kY_isLoad, pr_Y_isLoad, re_Y_isLoad) :: (kSh_isSheet, pr_Sh_isSheet, re_Sh_isSheet) :: (kSh_isSort, pr_Sh_isSort, re_Sh_isSort) :: (kSh_hasRow, pr_Sh_hasRow, re_Sh_hasRow) :: (kSh_hasCell, pr_Sh_hasCell, re_Sh_hasCell) :: (kSh_hasCells, pr_Sh_hasCells, re_Sh_hasCells) :: (kX_isKind, pr_X_isKind, re_X_isKind) :: (kTr_hasRoom, pr_Tr_hasRoom, re_Tr_hasRoom) :: jG1
theorem gok2 : jv_GOk jv_T jv_ml jG2 := jp_cons pu_N_isLane (jp_cons pu_N_isNode (jp_cons pu_Y_isLane (jp_cons pu_Y_isNode (jp_cons pu_Y_isLoad (jp_cons pu_Sh_isSheet (jp_cons pu_Sh_isSort (jp_cons pu_Sh_hasRow (jp_cons pu_Sh_hasCell (jp_cons pu_Sh_hasCells (jp_cons pu_X_isKind (jp_cons pu_Tr_hasRoom (gok1))))))))))))
set_option maxRecDepth 100000 in
theorem sg_N_areNodes_0 {n l : Nat} {g : jv_S} {Q : jv_V → jv_L → jv_S → Prop} {v1 v2 : Int} (h :
   ((14 = 14) ∧ (LLx (LL n l)) ∧ (True)) ∧
    ((jb_p (0 ≤ v1 ∧ v1 < g 14 0)) = 0 →
     ((0 : Int) = 0 ∨ (0 : Int) = 1) ∧ Q (jv_I (0 : Int)) (LL n l) g) ∧
    (¬ (jb_p (0 ≤ v1 ∧ v1 < g 14 0)) = 0 →
     ((14 = 14) ∧ (LLx (LL n l)) ∧ (True)) ∧
      ((jb_p (0 ≤ v2 ∧ v2 < g 14 0)) = 0 →
       ((0 : Int) = 0 ∨ (0 : Int) = 1) ∧ Q (jv_I (0 : Int)) (LL n l) g) ∧
      (¬ (jb_p (0 ≤ v2 ∧ v2 < g 14 0)) = 0 →
       ((1 : Int) = 0 ∨ (1 : Int) = 1) ∧ Q (jv_I (1 : Int)) (LL n l) g))) :
  jv_At jv_T jv_ml kN_areNodes 0 [jv_P 14, jv_I v1, jv_I v2] [] (LL n l) g Q :=
  jv_of_wp gok2 (md := []) (stop := []) (tab := jt_N_areNodes) rfl 400 _ _ _ _ _ h
def pr_N_areNodes : List jv_V → jv_L → jv_S → Prop := fun as L g => match as with
  | [.inr (.inr (.inl q0)), .inl c, .inl d] => (q0 = 14) ∧ (LLx L) ∧ (True)
  | _ => False
def re_N_areNodes : List jv_V → jv_S → jv_V := fun as g => match as with
  | [.inr (.inr (.inl q0)), .inl c, .inl d] => jv_I (jb_p ((0 ≤ c ∧ c < g 14 0) ∧ 0 ≤ d ∧ d < g 14 0))
  | _ => jv_U
theorem pu_N_areNodes : jp_S kN_areNodes pr_N_areNodes re_N_areNodes := by
  intro as L g h
  unfold pr_N_areNodes at h
  split at h
  · rename_i q0 c d
    obtain ⟨rfl, ⟨n, l, rfl⟩, h⟩ := h
    apply jp_of
    apply sg_N_areNodes_0
    simp only [jp0, jp1, jbn]
    repeat' first | apply And.intro | intro _
    all_goals first | rfl | omega | exact Or.inl rfl | exact Or.inr rfl | exact congrArg jv_I (jp_f (by omega)).symm | exact congrArg jv_I (jp_t (by omega)).symm | exact LLx_ok | trivial
  · exact h.elim
set_option maxRecDepth 100000 in
theorem sg_Y_isSheet_0 {n l : Nat} {g : jv_S} {Q : jv_V → jv_L → jv_S → Prop} {v0 : Int} (h :
   ((True)) ∧
    ((jb_p ((0 : Int) ≤ v0 ∧ v0 ≤ (3 : Int))) = 0 ∨ (jb_p ((0 : Int) ≤ v0 ∧ v0 ≤ (3 : Int))) = 1) ∧ Q (jv_I (jb_p ((0 : Int) ≤ v0 ∧ v0 ≤ (3 : Int)))) (LL n l) g) :
  jv_At jv_T jv_ml kY_isSheet 0 [jv_I v0] [] (LL n l) g Q :=
  jv_of_wp gok2 (md := []) (stop := []) (tab := jt_Y_isSheet) rfl 400 _ _ _ _ _ h
def pr_Y_isSheet : List jv_V → jv_L → jv_S → Prop := fun as L g => match as with
  | [.inl k] => (LLx L) ∧ (True)
  | _ => False
def re_Y_isSheet : List jv_V → jv_S → jv_V := fun as g => match as with
  | [.inl k] => jv_I (jb_p (0 ≤ k ∧ k ≤ 3))
  | _ => jv_U
theorem pu_Y_isSheet : jp_S kY_isSheet pr_Y_isSheet re_Y_isSheet := by
  intro as L g h
  unfold pr_Y_isSheet at h
  split at h
  · rename_i k
    obtain ⟨⟨n, l, rfl⟩, h⟩ := h
    apply jp_of
    apply sg_Y_isSheet_0
    simp only [jp0, jp1, jbn]
    repeat' first | apply And.intro | intro _
    all_goals first | rfl | omega | exact Or.inl rfl | exact Or.inr rfl | exact congrArg jv_I (jp_f (by omega)).symm | exact congrArg jv_I (jp_t (by omega)).symm | exact LLx_ok | trivial
  · exact h.elim
set_option maxRecDepth 100000 in
theorem sg_Y_isSort_0 {n l : Nat} {g : jv_S} {Q : jv_V → jv_L → jv_S → Prop} {v0 : Int} (h :
   ((True)) ∧
    ((jb_p ((0 : Int) ≤ v0 ∧ v0 ≤ (2 : Int))) = 0 ∨ (jb_p ((0 : Int) ≤ v0 ∧ v0 ≤ (2 : Int))) = 1) ∧ Q (jv_I (jb_p ((0 : Int) ≤ v0 ∧ v0 ≤ (2 : Int)))) (LL n l) g) :
  jv_At jv_T jv_ml kY_isSort 0 [jv_I v0] [] (LL n l) g Q :=
  jv_of_wp gok2 (md := []) (stop := []) (tab := jt_Y_isSort) rfl 400 _ _ _ _ _ h
def pr_Y_isSort : List jv_V → jv_L → jv_S → Prop := fun as L g => match as with
  | [.inl k] => (LLx L) ∧ (True)
  | _ => False
def re_Y_isSort : List jv_V → jv_S → jv_V := fun as g => match as with
  | [.inl k] => jv_I (jb_p (0 ≤ k ∧ k ≤ 2))
  | _ => jv_U
theorem pu_Y_isSort : jp_S kY_isSort pr_Y_isSort re_Y_isSort := by
  intro as L g h
  unfold pr_Y_isSort at h
  split at h
  · rename_i k
    obtain ⟨⟨n, l, rfl⟩, h⟩ := h
    apply jp_of
    apply sg_Y_isSort_0
    simp only [jp0, jp1, jbn]
    repeat' first | apply And.intro | intro _
    all_goals first | rfl | omega | exact Or.inl rfl | exact Or.inr rfl | exact congrArg jv_I (jp_f (by omega)).symm | exact congrArg jv_I (jp_t (by omega)).symm | exact LLx_ok | trivial
  · exact h.elim
set_option maxRecDepth 100000 in
theorem sg_Sh_isOfAnother_0 {n l : Nat} {g : jv_S} {Q : jv_V → jv_L → jv_S → Prop} {v1 v2 : Int} (h :
   ((2 = 2) ∧ (LLx (LL n l)) ∧ (0 ≤ v1 ∧ v1 < 4)) ∧
    ((jb_p (¬ g 9 v1 = -1)) = 0 →
     ((0 : Int) = 0 ∨ (0 : Int) = 1) ∧ Q (jv_I (0 : Int)) (LL n l) g) ∧
    (¬ (jb_p (¬ g 9 v1 = -1)) = 0 →
     (0 ≤ v1 ∧ v1 < 4) ∧
      ((g 8 v1) = v2 →
       ((0 : Int) = 0 ∨ (0 : Int) = 1) ∧ Q (jv_I (0 : Int)) (LL n l) g) ∧
      (¬ (g 8 v1) = v2 →
       ((1 : Int) = 0 ∨ (1 : Int) = 1) ∧ Q (jv_I (1 : Int)) (LL n l) g))) :
  jv_At jv_T jv_ml kSh_isOfAnother 0 [jv_P 2, jv_I v1, jv_I v2] [] (LL n l) g Q :=
  jv_of_wp gok2 (md := []) (stop := []) (tab := jt_Sh_isOfAnother) rfl 400 _ _ _ _ _ h
def pr_Sh_isOfAnother : List jv_V → jv_L → jv_S → Prop := fun as L g => match as with
  | [.inr (.inr (.inl q0)), .inl k, .inl t] => (q0 = 2) ∧ (LLx L) ∧ (0 ≤ k ∧ k < 4)
  | _ => False
def re_Sh_isOfAnother : List jv_V → jv_S → jv_V := fun as g => match as with
  | [.inr (.inr (.inl q0)), .inl k, .inl t] => jv_I (jb_p (¬ g 9 k = -1 ∧ ¬ g 8 k = t))
  | _ => jv_U
theorem pu_Sh_isOfAnother : jp_S kSh_isOfAnother pr_Sh_isOfAnother re_Sh_isOfAnother := by
  intro as L g h
  unfold pr_Sh_isOfAnother at h
  split at h
  · rename_i q0 k t
    obtain ⟨rfl, ⟨n, l, rfl⟩, h⟩ := h
    apply jp_of
    apply sg_Sh_isOfAnother_0
    simp only [jp0, jp1, jbn]
    repeat' first | apply And.intro | intro _
    all_goals first | rfl | omega | exact Or.inl rfl | exact Or.inr rfl | exact congrArg jv_I (jp_f (by omega)).symm | exact congrArg jv_I (jp_t (by omega)).symm | exact LLx_ok | trivial
  · exact h.elim
def jG3 : jv_G := (kN_areNodes, pr_N_areNodes, re_N_areNodes) :: (kY_isSheet, pr_Y_isSheet, re_Y_isSheet) :: (kY_isSort, pr_Y_isSort, re_Y_isSort) :: (kSh_isOfAnother, pr_Sh_isOfAnother, re_Sh_isOfAnother) :: jG2
theorem gok3 : jv_GOk jv_T jv_ml jG3 := jp_cons pu_N_areNodes (jp_cons pu_Y_isSheet (jp_cons pu_Y_isSort (jp_cons pu_Sh_isOfAnother (gok2))))
