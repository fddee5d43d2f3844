/-! ===== words of 32 bits; the lowest bit ===== -/
def wbt (w : Int) (j : Nat) : Bool := (Int32.ofInt w).toBitVec.getLsbD j
theorem sh32 {j : Nat} (h : j < 32) : (Int32.ofInt (jv_shl 1 (j : Int))).toBitVec = BitVec.ofNat 32 (2 ^ j) := by
  have : ∀ j : Fin 32, (Int32.ofInt (jv_shl 1 ((j.val : Nat) : Int))).toBitVec = BitVec.ofNat 32 (2 ^ j.val) := by decide +kernel
  exact this ⟨j, h⟩
theorem wbt_or {w : Int} {i j : Nat} (hi : i < 32) (hj : j < 32) : wbt (jv_or w (jv_shl 1 (j : Int))) i = (wbt w i || decide (j = i)) := by
  unfold wbt jv_or
  rw [Int32.ofInt_toInt, Int32.toBitVec_or, BitVec.getLsbD_or, sh32 hj, BitVec.getLsbD_ofNat, Nat.testBit_two_pow, decide_eq_true hi, Bool.true_and]
theorem wbt_and {w : Int} {j : Nat} (hj : j < 32) : jv_and w (jv_shl 1 (j : Int)) = 0 ↔ wbt w j = false := by
  unfold jv_and wbt
  have e : (Int32.ofInt w &&& Int32.ofInt (jv_shl 1 (j : Int))).toInt = 0 ↔ (Int32.ofInt w).toBitVec &&& BitVec.ofNat 32 (2 ^ j) = 0 := by
    rw [← sh32 hj, ← Int32.toBitVec_and]
    constructor
    · intro h
      have : (Int32.ofInt w &&& Int32.ofInt (jv_shl 1 (j : Int))) = 0 := Int32.toInt_inj.mp (by rw [h]; rfl)
      rw [this]
      rfl
    · intro h
      have : (Int32.ofInt w &&& Int32.ofInt (jv_shl 1 (j : Int))) = 0 := Int32.toBitVec_inj.mp (by rw [h]; rfl)
      rw [this]
      rfl
  rw [e]
  constructor
  · intro h
    have := congrArg (fun b => b.getLsbD j) h
    simp only [BitVec.getLsbD_and, BitVec.getLsbD_ofNat, Nat.testBit_two_pow, decide_eq_true hj, decide_true, Bool.and_true] at this
    rw [this]
    simp
  · intro h
    apply BitVec.eq_of_getLsbD_eq
    intro i hi
    rw [BitVec.getLsbD_and, BitVec.getLsbD_ofNat, Nat.testBit_two_pow]
    by_cases hij : j = i
    · subst hij; rw [h]; simp
    · simp [hij]
theorem shr5 {s : Nat} (h : s < 2147483648) : jv_shr (s : Int) 5 = ((s / 32 : Nat) : Int) := by
  have := jb_shr (a := s) (k := 5) h (by decide)
  rw [show ((5 : Nat) : Int) = 5 from rfl] at this
  rw [this, Nat.shiftRight_eq_div_pow]
theorem and31 {s : Nat} (h : s < 2147483648) : jv_and (s : Int) 31 = ((s % 32 : Nat) : Int) := by
  have := jb_and (a := s) (b := 31) h (by decide)
  rw [show ((31 : Nat) : Int) = 31 from rfl] at this
  rw [this, show (31 : Nat) = 2 ^ 5 - 1 from rfl, Nat.and_two_pow_sub_one_eq_mod]
theorem odd_part : ∀ u : Nat, 0 < u → ∃ k q, u = 2 ^ (k + 1) * q + 2 ^ k := by
  intro u
  induction u using Nat.strongRecOn with
  | ind u ih =>
    intro h
    by_cases hp : u % 2 = 1
    · exact ⟨0, u / 2, by simp; omega⟩
    · obtain ⟨k, q, hq⟩ := ih (u / 2) (by omega) (by omega)
      refine ⟨k + 1, q, ?_⟩
      have : u = 2 * (u / 2) := by omega
      rw [this, hq, Nat.mul_add, ← Nat.mul_assoc]
      congr 1
      · rw [Nat.pow_succ 2 (k + 1)]
        congr 1
        omega
      · rw [Nat.pow_succ]; omega
theorem low32 {w : Int} (hw : jv_r32 w) (h0 : w ≠ 0) : ∃ k : Nat, k < 32 ∧ wbt w k = true ∧ (∀ i, i < k → wbt w i = false) ∧ jv_and (jv_xor w (-1)) (jv_w32 (w - 1)) = ((2 ^ k - 1 : Nat) : Int) ∧ (∀ i, i < 32 → wbt (jv_and w (jv_w32 (w - 1))) i = (wbt w i && decide (k < i))) ∧ jv_r32 (jv_and w (jv_w32 (w - 1))) := by
  obtain ⟨x, hx⟩ : ∃ x : Int32, x = Int32.ofInt w := ⟨_, rfl⟩
  have hwx : w = x.toInt := by
    rw [hx]
    exact (jv_w32_eq hw).symm
  have hu0 : x.toBitVec.toNat ≠ 0 := by
    intro h
    apply h0
    rw [hwx]
    show x.toBitVec.toInt = 0
    rw [BitVec.eq_of_toNat_eq (x := x.toBitVec) (y := 0#32) (by rw [h]; rfl)]
    rfl
  obtain ⟨k, q, hu⟩ := odd_part x.toBitVec.toNat (by omega)
  have hlt := x.toBitVec.isLt
  have hpk := Nat.two_pow_pos k
  have hk : k < 32 := by
    apply Classical.byContradiction
    intro hk
    have : 2 ^ 32 ≤ 2 ^ k := Nat.pow_le_pow_right (by decide) (by omega)
    omega
  have hm1 : (Int32.ofInt (jv_w32 (w - 1))).toBitVec.toNat = 2 ^ (k + 1) * q + (2 ^ k - 1) := by
    have e1 : Int32.ofInt (jv_w32 (w - 1)) = x - 1 := by
      unfold jv_w32
      rw [Int32.ofInt_toInt, Int32.ofInt_sub, ← hx]
      rfl
    rw [e1, Int32.toBitVec_sub, BitVec.toNat_sub_of_le]
    · rw [hu]
      show _ - 1 = _
      omega
    · show (1 : Nat) ≤ x.toBitVec.toNat
      omega
  have bx : ∀ i, x.toBitVec.getLsbD i = if i < k + 1 then decide (k = i) else q.testBit (i - (k + 1)) := by
    intro i
    rw [← BitVec.testBit_toNat, hu, Nat.testBit_two_pow_mul_add q (Nat.pow_lt_pow_right (by decide) (by omega)) i, Nat.testBit_two_pow]
  have bm : ∀ i, (Int32.ofInt (jv_w32 (w - 1))).toBitVec.getLsbD i = if i < k + 1 then decide (i < k) else q.testBit (i - (k + 1)) := by
    intro i
    rw [← BitVec.testBit_toNat, hm1, Nat.testBit_two_pow_mul_add q (Nat.lt_of_lt_of_le (show 2 ^ k - 1 < 2 ^ k by omega) (Nat.pow_le_pow_right (by decide) (by omega))) i, Nat.testBit_two_pow_sub_one]
  refine ⟨k, hk, ?_, fun i hi => ?_, ?_, fun i hi => ?_, ?_⟩
  · unfold wbt; rw [← hx, bx, if_pos (by omega)]; simp
  · unfold wbt; rw [← hx, bx, if_pos (by omega)]; simp; omega
  · unfold jv_and
    refine jb_i ?_ ?_
    · have e2 : Int32.ofInt (jv_xor w (-1)) = ~~~ x := by
        unfold jv_xor
        rw [Int32.ofInt_toInt]
        apply Int32.toBitVec_inj.mp
        rw [Int32.toBitVec_xor, jb_m1, Int32.toBitVec_not, BitVec.xor_allOnes, ← hx]
      apply Nat.eq_of_testBit_eq
      intro i
      rw [e2, Int32.toBitVec_and, Int32.toBitVec_not, BitVec.testBit_toNat, BitVec.getLsbD_and, BitVec.getLsbD_not, bx, bm, Nat.testBit_two_pow_sub_one]
      by_cases hi : i < k + 1
      · rw [if_pos hi, if_pos hi]
        by_cases hik : i < k
        · simp [hik, show i < 32 by omega, show ¬ k = i by omega]
        · simp [hik]
      · rw [if_neg hi, if_neg hi, decide_eq_false (show ¬ i < k by omega)]
        cases q.testBit (i - (k + 1)) <;> simp
    · have : 2 ^ k ≤ 2 ^ 31 := Nat.pow_le_pow_right (by decide) (by omega)
      omega
  · unfold wbt jv_and
    rw [Int32.ofInt_toInt, Int32.toBitVec_and, BitVec.getLsbD_and, bm, ← hx, bx]
    by_cases hi2 : i < k + 1
    · rw [if_pos hi2, if_pos hi2, decide_eq_false (show ¬ k < i by omega), Bool.and_false]
      by_cases hik : i < k
      · simp [show ¬ k = i by omega]
      · simp [hik]
    · rw [if_neg hi2, if_neg hi2, decide_eq_true (show k < i by omega), Bool.and_true, Bool.and_self]
  · unfold jv_and jv_r32
    have h1 := Int32.le_toInt (Int32.ofInt w &&& Int32.ofInt (jv_w32 (w - 1)))
    have h2 := Int32.toInt_le (Int32.ofInt w &&& Int32.ofInt (jv_w32 (w - 1)))
    have e : Int32.maxValue.toInt = 2147483647 := by decide
    rw [e] at h2
    exact ⟨by simpa using h1, h2⟩
set_option maxRecDepth 100000 in
theorem sg_In_numberOfTrailingZeros_0 {A : jA} {n l : Nat} {g : jv_S} {Q : jv_V → jv_L → jv_S → Prop} {v0 : Int} (h :
   (0 < (jv_and (jv_xor v0 (-1 : Int)) (jv_w32 (v0 - (1 : Int)))) →
     ((jv_and (jv_xor v0 (-1 : Int)) (jv_w32 (v0 - (1 : Int)))) ≤ (65536 : Int) →
       ((jv_and (jv_xor v0 (-1 : Int)) (jv_w32 (v0 - (1 : Int)))) ≤ (256 : Int) →
         ((jv_and (jv_xor v0 (-1 : Int)) (jv_w32 (v0 - (1 : Int)))) ≤ (16 : Int) →
           ((jv_and (jv_xor v0 (-1 : Int)) (jv_w32 (v0 - (1 : Int)))) ≤ (4 : Int) →
             jv_r32 ((1 : Int) + (jv_ushr (jv_and (jv_xor v0 (-1 : Int)) (jv_w32 (v0 - (1 : Int)))) (1 : Int))) ∧
              Q (jv_I ((1 : Int) + (jv_ushr (jv_and (jv_xor v0 (-1 : Int)) (jv_w32 (v0 - (1 : Int)))) (1 : Int)))) (LL n l) g) ∧
            (¬ (jv_and (jv_xor v0 (-1 : Int)) (jv_w32 (v0 - (1 : Int)))) ≤ (4 : Int) →
             jv_r32 ((1 : Int) + (2 : Int)) ∧
              jv_r32 (((1 : Int) + (2 : Int)) + (jv_ushr (jv_ushr (jv_and (jv_xor v0 (-1 : Int)) (jv_w32 (v0 - (1 : Int)))) (2 : Int)) (1 : Int))) ∧
              Q (jv_I (((1 : Int) + (2 : Int)) + (jv_ushr (jv_ushr (jv_and (jv_xor v0 (-1 : Int)) (jv_w32 (v0 - (1 : Int)))) (2 : Int)) (1 : Int)))) (LL n l) g)) ∧
          (¬ (jv_and (jv_xor v0 (-1 : Int)) (jv_w32 (v0 - (1 : Int)))) ≤ (16 : Int) →
           jv_r32 ((1 : Int) + (4 : Int)) ∧
            ((jv_ushr (jv_and (jv_xor v0 (-1 : Int)) (jv_w32 (v0 - (1 : Int)))) (4 : Int)) ≤ (4 : Int) →
             jv_r32 (((1 : Int) + (4 : Int)) + (jv_ushr (jv_ushr (jv_and (jv_xor v0 (-1 : Int)) (jv_w32 (v0 - (1 : Int)))) (4 : Int)) (1 : Int))) ∧
              Q (jv_I (((1 : Int) + (4 : Int)) + (jv_ushr (jv_ushr (jv_and (jv_xor v0 (-1 : Int)) (jv_w32 (v0 - (1 : Int)))) (4 : Int)) (1 : Int)))) (LL n l) g) ∧
            (¬ (jv_ushr (jv_and (jv_xor v0 (-1 : Int)) (jv_w32 (v0 - (1 : Int)))) (4 : Int)) ≤ (4 : Int) →
             jv_r32 (((1 : Int) + (4 : Int)) + (2 : Int)) ∧
              jv_r32 ((((1 : Int) + (4 : Int)) + (2 : Int)) + (jv_ushr (jv_ushr (jv_ushr (jv_and (jv_xor v0 (-1 : Int)) (jv_w32 (v0 - (1 : Int)))) (4 : Int)) (2 : Int)) (1 : Int))) ∧
              Q (jv_I ((((1 : Int) + (4 : Int)) + (2 : Int)) + (jv_ushr (jv_ushr (jv_ushr (jv_and (jv_xor v0 (-1 : Int)) (jv_w32 (v0 - (1 : Int)))) (4 : Int)) (2 : Int)) (1 : Int)))) (LL n l) g))) ∧
        (¬ (jv_and (jv_xor v0 (-1 : Int)) (jv_w32 (v0 - (1 : Int)))) ≤ (256 : Int) →
         jv_r32 ((1 : Int) + (8 : Int)) ∧
          ((jv_ushr (jv_and (jv_xor v0 (-1 : Int)) (jv_w32 (v0 - (1 : Int)))) (8 : Int)) ≤ (16 : Int) →
           ((jv_ushr (jv_and (jv_xor v0 (-1 : Int)) (jv_w32 (v0 - (1 : Int)))) (8 : Int)) ≤ (4 : Int) →
             jv_r32 (((1 : Int) + (8 : Int)) + (jv_ushr (jv_ushr (jv_and (jv_xor v0 (-1 : Int)) (jv_w32 (v0 - (1 : Int)))) (8 : Int)) (1 : Int))) ∧
              Q (jv_I (((1 : Int) + (8 : Int)) + (jv_ushr (jv_ushr (jv_and (jv_xor v0 (-1 : Int)) (jv_w32 (v0 - (1 : Int)))) (8 : Int)) (1 : Int)))) (LL n l) g) ∧
            (¬ (jv_ushr (jv_and (jv_xor v0 (-1 : Int)) (jv_w32 (v0 - (1 : Int)))) (8 : Int)) ≤ (4 : Int) →
             jv_r32 (((1 : Int) + (8 : Int)) + (2 : Int)) ∧
              jv_r32 ((((1 : Int) + (8 : Int)) + (2 : Int)) + (jv_ushr (jv_ushr (jv_ushr (jv_and (jv_xor v0 (-1 : Int)) (jv_w32 (v0 - (1 : Int)))) (8 : Int)) (2 : Int)) (1 : Int))) ∧
              Q (jv_I ((((1 : Int) + (8 : Int)) + (2 : Int)) + (jv_ushr (jv_ushr (jv_ushr (jv_and (jv_xor v0 (-1 : Int)) (jv_w32 (v0 - (1 : Int)))) (8 : Int)) (2 : Int)) (1 : Int)))) (LL n l) g)) ∧
          (¬ (jv_ushr (jv_and (jv_xor v0 (-1 : Int)) (jv_w32 (v0 - (1 : Int)))) (8 : Int)) ≤ (16 : Int) →
           jv_r32 (((1 : Int) + (8 : Int)) + (4 : Int)) ∧
            ((jv_ushr (jv_ushr (jv_and (jv_xor v0 (-1 : Int)) (jv_w32 (v0 - (1 : Int)))) (8 : Int)) (4 : Int)) ≤ (4 : Int) →
             jv_r32 ((((1 : Int) + (8 : Int)) + (4 : Int)) + (jv_ushr (jv_ushr (jv_ushr (jv_and (jv_xor v0 (-1 : Int)) (jv_w32 (v0 - (1 : Int)))) (8 : Int)) (4 : Int)) (1 : Int))) ∧
              Q (jv_I ((((1 : Int) + (8 : Int)) + (4 : Int)) + (jv_ushr (jv_ushr (jv_ushr (jv_and (jv_xor v0 (-1 : Int)) (jv_w32 (v0 - (1 : Int)))) (8 : Int)) (4 : Int)) (1 : Int)))) (LL n l) g) ∧
            (¬ (jv_ushr (jv_ushr (jv_and (jv_xor v0 (-1 : Int)) (jv_w32 (v0 - (1 : Int)))) (8 : Int)) (4 : Int)) ≤ (4 : Int) →
             jv_r32 ((((1 : Int) + (8 : Int)) + (4 : Int)) + (2 : Int)) ∧
              jv_r32 (((((1 : Int) + (8 : Int)) + (4 : Int)) + (2 : Int)) + (jv_ushr (jv_ushr (jv_ushr (jv_ushr (jv_and (jv_xor v0 (-1 : Int)) (jv_w32 (v0 - (1 : Int)))) (8 : Int)) (4 : Int)) (2 : Int)) (1 : Int))) ∧
              Q (jv_I (((((1 : Int) + (8 : Int)) + (4 : Int)) + (2 : Int)) + (jv_ushr (jv_ushr (jv_ushr (jv_ushr (jv_and (jv_xor v0 (-1 : Int)) (jv_w32 (v0 - (1 : Int)))) (8 : Int)) (4 : Int)) (2 : Int)) (1 : Int)))) (LL n l) g)))) ∧
      (¬ (jv_and (jv_xor v0 (-1 : Int)) (jv_w32 (v0 - (1 : Int)))) ≤ (65536 : Int) →
       jv_r32 ((1 : Int) + (16 : Int)) ∧
        ((jv_ushr (jv_and (jv_xor v0 (-1 : Int)) (jv_w32 (v0 - (1 : Int)))) (16 : Int)) ≤ (256 : Int) →
         ((jv_ushr (jv_and (jv_xor v0 (-1 : Int)) (jv_w32 (v0 - (1 : Int)))) (16 : Int)) ≤ (16 : Int) →
           ((jv_ushr (jv_and (jv_xor v0 (-1 : Int)) (jv_w32 (v0 - (1 : Int)))) (16 : Int)) ≤ (4 : Int) →
             jv_r32 (((1 : Int) + (16 : Int)) + (jv_ushr (jv_ushr (jv_and (jv_xor v0 (-1 : Int)) (jv_w32 (v0 - (1 : Int)))) (16 : Int)) (1 : Int))) ∧
              Q (jv_I (((1 : Int) + (16 : Int)) + (jv_ushr (jv_ushr (jv_and (jv_xor v0 (-1 : Int)) (jv_w32 (v0 - (1 : Int)))) (16 : Int)) (1 : Int)))) (LL n l) g) ∧
            (¬ (jv_ushr (jv_and (jv_xor v0 (-1 : Int)) (jv_w32 (v0 - (1 : Int)))) (16 : Int)) ≤ (4 : Int) →
             jv_r32 (((1 : Int) + (16 : Int)) + (2 : Int)) ∧
              jv_r32 ((((1 : Int) + (16 : Int)) + (2 : Int)) + (jv_ushr (jv_ushr (jv_ushr (jv_and (jv_xor v0 (-1 : Int)) (jv_w32 (v0 - (1 : Int)))) (16 : Int)) (2 : Int)) (1 : Int))) ∧
              Q (jv_I ((((1 : Int) + (16 : Int)) + (2 : Int)) + (jv_ushr (jv_ushr (jv_ushr (jv_and (jv_xor v0 (-1 : Int)) (jv_w32 (v0 - (1 : Int)))) (16 : Int)) (2 : Int)) (1 : Int)))) (LL n l) g)) ∧
          (¬ (jv_ushr (jv_and (jv_xor v0 (-1 : Int)) (jv_w32 (v0 - (1 : Int)))) (16 : Int)) ≤ (16 : Int) →
           jv_r32 (((1 : Int) + (16 : Int)) + (4 : Int)) ∧
            ((jv_ushr (jv_ushr (jv_and (jv_xor v0 (-1 : Int)) (jv_w32 (v0 - (1 : Int)))) (16 : Int)) (4 : Int)) ≤ (4 : Int) →
             jv_r32 ((((1 : Int) + (16 : Int)) + (4 : Int)) + (jv_ushr (jv_ushr (jv_ushr (jv_and (jv_xor v0 (-1 : Int)) (jv_w32 (v0 - (1 : Int)))) (16 : Int)) (4 : Int)) (1 : Int))) ∧
              Q (jv_I ((((1 : Int) + (16 : Int)) + (4 : Int)) + (jv_ushr (jv_ushr (jv_ushr (jv_and (jv_xor v0 (-1 : Int)) (jv_w32 (v0 - (1 : Int)))) (16 : Int)) (4 : Int)) (1 : Int)))) (LL n l) g) ∧
            (¬ (jv_ushr (jv_ushr (jv_and (jv_xor v0 (-1 : Int)) (jv_w32 (v0 - (1 : Int)))) (16 : Int)) (4 : Int)) ≤ (4 : Int) →
             jv_r32 ((((1 : Int) + (16 : Int)) + (4 : Int)) + (2 : Int)) ∧
              jv_r32 (((((1 : Int) + (16 : Int)) + (4 : Int)) + (2 : Int)) + (jv_ushr (jv_ushr (jv_ushr (jv_ushr (jv_and (jv_xor v0 (-1 : Int)) (jv_w32 (v0 - (1 : Int)))) (16 : Int)) (4 : Int)) (2 : Int)) (1 : Int))) ∧
              Q (jv_I (((((1 : Int) + (16 : Int)) + (4 : Int)) + (2 : Int)) + (jv_ushr (jv_ushr (jv_ushr (jv_ushr (jv_and (jv_xor v0 (-1 : Int)) (jv_w32 (v0 - (1 : Int)))) (16 : Int)) (4 : Int)) (2 : Int)) (1 : Int)))) (LL n l) g))) ∧
        (¬ (jv_ushr (jv_and (jv_xor v0 (-1 : Int)) (jv_w32 (v0 - (1 : Int)))) (16 : Int)) ≤ (256 : Int) →
         jv_r32 (((1 : Int) + (16 : Int)) + (8 : Int)) ∧
          ((jv_ushr (jv_ushr (jv_and (jv_xor v0 (-1 : Int)) (jv_w32 (v0 - (1 : Int)))) (16 : Int)) (8 : Int)) ≤ (16 : Int) →
           ((jv_ushr (jv_ushr (jv_and (jv_xor v0 (-1 : Int)) (jv_w32 (v0 - (1 : Int)))) (16 : Int)) (8 : Int)) ≤ (4 : Int) →
             jv_r32 ((((1 : Int) + (16 : Int)) + (8 : Int)) + (jv_ushr (jv_ushr (jv_ushr (jv_and (jv_xor v0 (-1 : Int)) (jv_w32 (v0 - (1 : Int)))) (16 : Int)) (8 : Int)) (1 : Int))) ∧
              Q (jv_I ((((1 : Int) + (16 : Int)) + (8 : Int)) + (jv_ushr (jv_ushr (jv_ushr (jv_and (jv_xor v0 (-1 : Int)) (jv_w32 (v0 - (1 : Int)))) (16 : Int)) (8 : Int)) (1 : Int)))) (LL n l) g) ∧
            (¬ (jv_ushr (jv_ushr (jv_and (jv_xor v0 (-1 : Int)) (jv_w32 (v0 - (1 : Int)))) (16 : Int)) (8 : Int)) ≤ (4 : Int) →
             jv_r32 ((((1 : Int) + (16 : Int)) + (8 : Int)) + (2 : Int)) ∧
              jv_r32 (((((1 : Int) + (16 : Int)) + (8 : Int)) + (2 : Int)) + (jv_ushr (jv_ushr (jv_ushr (jv_ushr (jv_and (jv_xor v0 (-1 : Int)) (jv_w32 (v0 - (1 : Int)))) (16 : Int)) (8 : Int)) (2 : Int)) (1 : Int))) ∧
              Q (jv_I (((((1 : Int) + (16 : Int)) + (8 : Int)) + (2 : Int)) + (jv_ushr (jv_ushr (jv_ushr (jv_ushr (jv_and (jv_xor v0 (-1 : Int)) (jv_w32 (v0 - (1 : Int)))) (16 : Int)) (8 : Int)) (2 : Int)) (1 : Int)))) (LL n l) g)) ∧
          (¬ (jv_ushr (jv_ushr (jv_and (jv_xor v0 (-1 : Int)) (jv_w32 (v0 - (1 : Int)))) (16 : Int)) (8 : Int)) ≤ (16 : Int) →
           jv_r32 ((((1 : Int) + (16 : Int)) + (8 : Int)) + (4 : Int)) ∧
            ((jv_ushr (jv_ushr (jv_ushr (jv_and (jv_xor v0 (-1 : Int)) (jv_w32 (v0 - (1 : Int)))) (16 : Int)) (8 : Int)) (4 : Int)) ≤ (4 : Int) →
             jv_r32 (((((1 : Int) + (16 : Int)) + (8 : Int)) + (4 : Int)) + (jv_ushr (jv_ushr (jv_ushr (jv_ushr (jv_and (jv_xor v0 (-1 : Int)) (jv_w32 (v0 - (1 : Int)))) (16 : Int)) (8 : Int)) (4 : Int)) (1 : Int))) ∧
              Q (jv_I (((((1 : Int) + (16 : Int)) + (8 : Int)) + (4 : Int)) + (jv_ushr (jv_ushr (jv_ushr (jv_ushr (jv_and (jv_xor v0 (-1 : Int)) (jv_w32 (v0 - (1 : Int)))) (16 : Int)) (8 : Int)) (4 : Int)) (1 : Int)))) (LL n l) g) ∧
            (¬ (jv_ushr (jv_ushr (jv_ushr (jv_and (jv_xor v0 (-1 : Int)) (jv_w32 (v0 - (1 : Int)))) (16 : Int)) (8 : Int)) (4 : Int)) ≤ (4 : Int) →
             jv_r32 (((((1 : Int) + (16 : Int)) + (8 : Int)) + (4 : Int)) + (2 : Int)) ∧
              jv_r32 ((((((1 : Int) + (16 : Int)) + (8 : Int)) + (4 : Int)) + (2 : Int)) + (jv_ushr (jv_ushr (jv_ushr (jv_ushr (jv_ushr (jv_and (jv_xor v0 (-1 : Int)) (jv_w32 (v0 - (1 : Int)))) (16 : Int)) (8 : Int)) (4 : Int)) (2 : Int)) (1 : Int))) ∧
              Q (jv_I ((((((1 : Int) + (16 : Int)) + (8 : Int)) + (4 : Int)) + (2 : Int)) + (jv_ushr (jv_ushr (jv_ushr (jv_ushr (jv_ushr (jv_and (jv_xor v0 (-1 : Int)) (jv_w32 (v0 - (1 : Int)))) (16 : Int)) (8 : Int)) (4 : Int)) (2 : Int)) (1 : Int)))) (LL n l) g))))) ∧
    (¬ 0 < (jv_and (jv_xor v0 (-1 : Int)) (jv_w32 (v0 - (1 : Int)))) →
     Q (jv_I (jv_and (jv_and (jv_xor v0 (-1 : Int)) (jv_w32 (v0 - (1 : Int)))) (32 : Int))) (LL n l) g)) :
  jv_At jv_T jv_ml kIn_numberOfTrailingZeros 0 [jv_I v0, jv_U] [] (LL n l) g Q :=
  jv_of_wp (gok9 (A := A)) (md := [5]) (stop := []) (tab := jt_In_numberOfTrailingZeros) rfl 400 _ _ _ _ _ h
set_option maxRecDepth 100000 in
theorem tr_In_ntz {A : jA} {n l : Nat} {g : jv_S} {Q : jv_V → jv_L → jv_S → Prop} {w : Int} {k : Nat} (hk : k < 32) (hn : jv_and (jv_xor w (-1)) (jv_w32 (w - 1)) = ((2 ^ k - 1 : Nat) : Int)) (hQ : Q (jv_I (k : Int)) (LL n l) g) :
  jv_Ca jv_T jv_ml kIn_numberOfTrailingZeros [jv_I w] (LL n l) g Q := by
  apply sg_In_numberOfTrailingZeros_0 (A := A)
  rw [hn]
  have cases : k = 0 ∨ k = 1 ∨ k = 2 ∨ k = 3 ∨ k = 4 ∨ k = 5 ∨ k = 6 ∨ k = 7 ∨ k = 8 ∨ k = 9 ∨ k = 10 ∨ k = 11 ∨ k = 12 ∨ k = 13 ∨ k = 14 ∨ k = 15 ∨ k = 16 ∨ k = 17 ∨ k = 18 ∨ k = 19 ∨ k = 20 ∨ k = 21 ∨ k = 22 ∨ k = 23 ∨ k = 24 ∨ k = 25 ∨ k = 26 ∨ k = 27 ∨ k = 28 ∨ k = 29 ∨ k = 30 ∨ k = 31 := by omega
  rcases cases with rfl | rfl | rfl | rfl | rfl | rfl | rfl | rfl | rfl | rfl | rfl | rfl | rfl | rfl | rfl | rfl | rfl | rfl | rfl | rfl | rfl | rfl | rfl | rfl | rfl | rfl | rfl | rfl | rfl | rfl | rfl | rfl
  all_goals
    repeat' (first | apply And.intro | intro _)
    all_goals (first | exact hQ | decide | (rename_i hh; exact absurd hh (by decide)) | (rename_i hh _; exact absurd hh (by decide)) | (rename_i hh _ _; exact absurd hh (by decide)) | (rename_i hh _ _ _; exact absurd hh (by decide)) | (rename_i hh _ _ _ _; exact absurd hh (by decide)))
