/-! ===== pure calls: the leaves ===== -/
def LLx (L : jv_L) : Prop := ∃ n l : Nat, L = LL n l
theorem LLx_ok {n l : Nat} : LLx (LL n l) := ⟨n, l, rfl⟩
def jp_S (k : Nat) (pre : List jv_V → jv_L → jv_S → Prop) (res : List jv_V → jv_S → jv_V) : Prop := ∀ (as : List jv_V) (L : jv_L) (g : jv_S), pre as L g → ∃ n, jv_ex jv_T jv_ml n k 0 (jv_en (jv_ml k) as) [] L g = some (res as g, L, g)
theorem jp_of {k : Nat} {ls : List jv_V} {L : jv_L} {g : jv_S} {R : jv_V} (h : jv_At jv_T jv_ml k 0 ls [] L g (fun r L2 g2 => r = R ∧ L2 = L ∧ g2 = g)) : ∃ n, jv_ex jv_T jv_ml n k 0 ls [] L g = some (R, L, g) := by
  obtain ⟨n, r, L', g', h1, rfl, rfl, rfl⟩ := h
  exact ⟨n, h1⟩
theorem jp_nil : jv_GOk jv_T jv_ml [] := jg_nil
theorem jp_cons {k : Nat} {pre : List jv_V → jv_L → jv_S → Prop} {res : List jv_V → jv_S → jv_V} {G : jv_G} (h : jp_S k pre res) (hG : jv_GOk jv_T jv_ml G) : jv_GOk jv_T jv_ml ((k, pre, res) :: G) := by
  intro k' pre' res' h1
  unfold jv_gf1 at h1
  cases hk : Nat.beq k k' with
  | true =>
    rw [hk] at h1
    cases h1
    have := Nat.eq_of_beq_eq_true hk
    subst this
    exact h
  | false =>
    rw [hk] at h1
    exact hG k' pre' res' h1
/-- a call of a pure method -/
theorem jp_call {k : Nat} {pre : List jv_V → jv_L → jv_S → Prop} {res : List jv_V → jv_S → jv_V} (h : jp_S k pre res) {as : List jv_V} {L : jv_L} {g : jv_S} {Q : jv_V → jv_L → jv_S → Prop} (hp : pre as L g) (hQ : Q (res as g) L g) : jv_Ca jv_T jv_ml k as L g Q := by
  obtain ⟨n, hn⟩ := h as L g hp
  exact ⟨n, _, _, _, hn, hQ⟩
def hb (s k : Int) : Int := jb_b (s.toNat.testBit k.toNat)
theorem hb_nat (s k : Nat) : hb (s : Int) (k : Int) = jb_b (s.testBit k) := rfl
theorem jb0 {p : Bool} : jb_b p = 0 ↔ p = false := by cases p <;> simp [jb_b]
theorem jb1 {p : Bool} : jb_b p = 1 ↔ p = true := by cases p <;> simp [jb_b]
theorem jbn {p : Bool} : ¬ jb_b p = 0 ↔ p = true := by cases p <;> simp [jb_b]
theorem jb_bitI {s k : Int} (h1 : 0 ≤ s) (h2 : s < 2147483648) (h3 : 0 ≤ k) (h4 : k < 31) : jv_and (jv_shr s k) 1 = hb s k := by
  obtain ⟨a, rfl⟩ := Int.eq_ofNat_of_zero_le h1
  obtain ⟨b, rfl⟩ := Int.eq_ofNat_of_zero_le h3
  exact jb_bit (by omega) (by omega)
def jb_p (p : Prop) [Decidable p] : Int := jb_b (decide p)
theorem jp0 {p : Prop} [Decidable p] : jb_p p = 0 ↔ ¬ p := by unfold jb_p; rw [jb0]; simp
theorem jp1 {p : Prop} [Decidable p] : jb_p p = 1 ↔ p := by unfold jb_p; rw [jb1]; simp
theorem jp_t {p : Prop} [Decidable p] (h : p) : jb_p p = 1 := jp1.mpr h
theorem jp_f {p : Prop} [Decidable p] (h : ¬ p) : jb_p p = 0 := jp0.mpr h
theorem jp01 {p : Prop} [Decidable p] : jb_p p = 0 ∨ jb_p p = 1 := jb_b01 _
theorem sg_X_has_0 {L : jv_L} {g : jv_S} {Q : jv_V → jv_L → jv_S → Prop} {v0 v1 : Int} (h :
   ((jv_and (jv_shr v0 v1) (1 : Int)) = (1 : Int) →
     ((1 : Int) = 0 ∨ (1 : Int) = 1) ∧ Q (jv_I (1 : Int)) L g) ∧
    (¬ (jv_and (jv_shr v0 v1) (1 : Int)) = (1 : Int) →
     ((0 : Int) = 0 ∨ (0 : Int) = 1) ∧ Q (jv_I (0 : Int)) L g)) :
  jv_At jv_T jv_ml kX_has 0 [jv_I v0, jv_I v1] [] L g Q :=
  jv_of_wp jg_nil (md := []) (stop := []) (tab := jt_X_has) rfl 400 _ _ _ _ _ h
def pr_X_has : List jv_V → jv_L → jv_S → Prop := fun as L g => match as with
  | [.inl s, .inl k] => (0 ≤ s ∧ s < 2147483648 ∧ 0 ≤ k ∧ k < 31)
  | _ => False
def re_X_has : List jv_V → jv_S → jv_V := fun as g => match as with
  | [.inl s, .inl k] => jv_I (hb s k)
  | _ => jv_U
theorem pu_X_has : jp_S kX_has pr_X_has re_X_has := by
  intro as L g h
  unfold pr_X_has at h
  split at h
  · rename_i s k
    apply jp_of
    have e := jb_bitI (s := s) (k := k) (by omega) (by omega) (by omega) (by omega)
    apply sg_X_has_0
    rw [e]
    unfold hb
    refine ⟨fun h1 => ⟨Or.inr rfl, ?_, rfl, rfl⟩, fun h1 => ⟨Or.inl rfl, ?_, rfl, rfl⟩⟩
    · show jv_I 1 = jv_I (jb_b _)
      rw [h1]
    · show jv_I 0 = jv_I (jb_b _)
      rcases jb_b01 (s.toNat.testBit k.toNat) with h2 | h2
      · rw [h2]
      · exact absurd h2 h1
  · exact h.elim
theorem sg_Y_has_0 {L : jv_L} {g : jv_S} {Q : jv_V → jv_L → jv_S → Prop} {v0 v1 : Int} (h :
   ((jv_and (jv_shr v0 v1) (1 : Int)) = (1 : Int) →
     ((1 : Int) = 0 ∨ (1 : Int) = 1) ∧ Q (jv_I (1 : Int)) L g) ∧
    (¬ (jv_and (jv_shr v0 v1) (1 : Int)) = (1 : Int) →
     ((0 : Int) = 0 ∨ (0 : Int) = 1) ∧ Q (jv_I (0 : Int)) L g)) :
  jv_At jv_T jv_ml kY_has 0 [jv_I v0, jv_I v1] [] L g Q :=
  jv_of_wp jg_nil (md := []) (stop := []) (tab := jt_Y_has) rfl 400 _ _ _ _ _ h
def pr_Y_has : List jv_V → jv_L → jv_S → Prop := fun as L g => match as with
  | [.inl s, .inl k] => (0 ≤ s ∧ s < 2147483648 ∧ 0 ≤ k ∧ k < 31)
  | _ => False
def re_Y_has : List jv_V → jv_S → jv_V := fun as g => match as with
  | [.inl s, .inl k] => jv_I (hb s k)
  | _ => jv_U
theorem pu_Y_has : jp_S kY_has pr_Y_has re_Y_has := by
  intro as L g h
  unfold pr_Y_has at h
  split at h
  · rename_i s k
    apply jp_of
    have e := jb_bitI (s := s) (k := k) (by omega) (by omega) (by omega) (by omega)
    apply sg_Y_has_0
    rw [e]
    unfold hb
    refine ⟨fun h1 => ⟨Or.inr rfl, ?_, rfl, rfl⟩, fun h1 => ⟨Or.inl rfl, ?_, rfl, rfl⟩⟩
    · show jv_I 1 = jv_I (jb_b _)
      rw [h1]
    · show jv_I 0 = jv_I (jb_b _)
      rcases jb_b01 (s.toNat.testBit k.toNat) with h2 | h2
      · rw [h2]
      · exact absurd h2 h1
  · exact h.elim
theorem sg_Y_within_0 {L : jv_L} {g : jv_S} {Q : jv_V → jv_L → jv_S → Prop} {v0 v1 v2 : Int} (h :
   (v0 < v1 →
     ((0 : Int) = 0 ∨ (0 : Int) = 1) ∧ Q (jv_I (0 : Int)) L g) ∧
    (¬ v0 < v1 →
     (v2 < v0 →
       ((0 : Int) = 0 ∨ (0 : Int) = 1) ∧ Q (jv_I (0 : Int)) L g) ∧
      (¬ v2 < v0 →
       ((1 : Int) = 0 ∨ (1 : Int) = 1) ∧ Q (jv_I (1 : Int)) L g))) :
  jv_At jv_T jv_ml kY_within 0 [jv_I v0, jv_I v1, jv_I v2] [] L g Q :=
  jv_of_wp jg_nil (md := []) (stop := []) (tab := jt_Y_within) rfl 400 _ _ _ _ _ h
def pr_Y_within : List jv_V → jv_L → jv_S → Prop := fun as L g => match as with
  | [.inl v, .inl a, .inl b] => (True)
  | _ => False
def re_Y_within : List jv_V → jv_S → jv_V := fun as g => match as with
  | [.inl v, .inl a, .inl b] => jv_I (jb_p (a ≤ v ∧ v ≤ b))
  | _ => jv_U
theorem pu_Y_within : jp_S kY_within pr_Y_within re_Y_within := by
  intro as L g h
  unfold pr_Y_within at h
  split at h
  · rename_i v a b
    apply jp_of
    apply sg_Y_within_0
    refine ⟨fun h1 => ⟨Or.inl rfl, ?_, rfl, rfl⟩, fun h1 => ⟨fun h2 => ⟨Or.inl rfl, ?_, rfl, rfl⟩, fun h2 => ⟨Or.inr rfl, ?_, rfl, rfl⟩⟩⟩
    · exact congrArg jv_I (jp_f (by omega)).symm
    · exact congrArg jv_I (jp_f (by omega)).symm
    · exact congrArg jv_I (jp_t (by omega)).symm
  · exact h.elim
