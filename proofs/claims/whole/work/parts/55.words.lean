/-! ===== words of 32 bits ===== -/
def wbt (w : Int) (j : Nat) : Bool := (Int32.ofInt w).toBitVec.getLsbD j
theorem sh32 {j : Nat} (h : j < 32) : (Int32.ofInt (jv_shl 1 (j : Int))).toBitVec = BitVec.ofNat 32 (2 ^ j) := by
  have : ∀ j : Fin 32, (Int32.ofInt (jv_shl 1 ((j.val : Nat) : Int))).toBitVec = BitVec.ofNat 32 (2 ^ j.val) := by decide +kernel
  exact this ⟨j, h⟩
theorem wbt_or {w : Int} {i j : Nat} (hi : i < 32) (hj : j < 32) : wbt (jv_or w (jv_shl 1 (j : Int))) i = (wbt w i || decide (j = i)) := by
  unfold wbt jv_or
  rw [Int32.ofInt_toInt, Int32.toBitVec_or, BitVec.getLsbD_or, sh32 hj, BitVec.getLsbD_ofNat, Nat.testBit_two_pow, decide_eq_true hi, Bool.true_and]
theorem wbt_and {w : Int} {j : Nat} (hj : j < 32) : jv_and w (jv_shl 1 (j : Int)) = 0 ↔ wbt w j = false := by
  unfold jv_and wbt
  have e : (Int32.ofInt w &&& Int32.ofInt (jv_shl 1 (j : Int))).toInt = 0 ↔ (Int32.ofInt w).toBitVec &&& BitVec.ofNat 32 (2 ^ j) = 0 := by
    rw [← sh32 hj, ← Int32.toBitVec_and]
    constructor
    · intro h
      have : (Int32.ofInt w &&& Int32.ofInt (jv_shl 1 (j : Int))) = 0 := Int32.toInt_inj.mp (by rw [h]; rfl)
      rw [this]
      rfl
    · intro h
      have : (Int32.ofInt w &&& Int32.ofInt (jv_shl 1 (j : Int))) = 0 := Int32.toBitVec_inj.mp (by rw [h]; rfl)
      rw [this]
      rfl
  rw [e]
  constructor
  · intro h
    have := congrArg (fun b => b.getLsbD j) h
    simp only [BitVec.getLsbD_and, BitVec.getLsbD_ofNat, Nat.testBit_two_pow, decide_eq_true hj, decide_true, Bool.and_true] at this
    rw [this]
    simp
  · intro h
    apply BitVec.eq_of_getLsbD_eq
    intro i hi
    rw [BitVec.getLsbD_and, BitVec.getLsbD_ofNat, Nat.testBit_two_pow]
    by_cases hij : j = i
    · subst hij; rw [h]; simp
    · simp [hij]
theorem shr5 {s : Nat} (h : s < 2147483648) : jv_shr (s : Int) 5 = ((s / 32 : Nat) : Int) := by
  have := jb_shr (a := s) (k := 5) h (by decide)
  rw [show ((5 : Nat) : Int) = 5 from rfl] at this
  rw [this, Nat.shiftRight_eq_div_pow]
theorem and31 {s : Nat} (h : s < 2147483648) : jv_and (s : Int) 31 = ((s % 32 : Nat) : Int) := by
  have := jb_and (a := s) (b := 31) h (by decide)
  rw [show ((31 : Nat) : Int) = 31 from rfl] at this
  rw [this, show (31 : Nat) = 2 ^ 5 - 1 from rfl, Nat.and_two_pow_sub_one_eq_mod]
/-- a bit of a word, by the shift that keeps the sign -/
theorem bit32 {w : Int} {j : Nat} (hj : j < 32) : jv_and (jv_shr w (j : Int)) 1 = jb_b (wbt w j) := by
  have hs : ∀ j : Fin 32, (Int32.ofInt ((j.val : Nat) : Int) &&& 31).toBitVec.smod 32 = BitVec.ofNat 32 j.val := by decide +kernel
  have hj2 := hs ⟨j, hj⟩
  dsimp only at hj2
  have e1 : (Int32.ofInt (jv_shr w (j : Int))).toBitVec = (Int32.ofInt w).toBitVec.sshiftRight j := by
    unfold jv_shr
    rw [Int32.ofInt_toInt, Int32.toBitVec_shiftRight, hj2]
    show (Int32.ofInt w).toBitVec.sshiftRight (BitVec.ofNat 32 j).toNat = _
    rw [BitVec.toNat_ofNat, Nat.mod_eq_of_lt (by omega)]
  unfold jv_and
  have e2 : (Int32.ofInt (jv_shr w (j : Int)) &&& Int32.ofInt 1).toBitVec.toNat = (if wbt w j then 1 else 0) := by
    apply Nat.eq_of_testBit_eq
    intro i
    rw [Int32.toBitVec_and, BitVec.testBit_toNat, BitVec.getLsbD_and, e1, show (Int32.ofInt 1).toBitVec = 1#32 from rfl]
    by_cases hi : i = 0
    · subst hi
      rw [BitVec.getLsbD_sshiftRight]
      unfold wbt
      cases hb : (Int32.ofInt w).toBitVec.getLsbD j <;> simp [hj, hb]
    · have h1 : (1#32).getLsbD i = false := by
        simp [BitVec.getLsbD_one, hi]
      rw [h1, Bool.and_false]
      cases wbt w j
      · simp
      · show _ = Nat.testBit (2 ^ 0) i
        rw [Nat.testBit_two_pow, decide_eq_false (fun h => hi h.symm)]
  have := jb_i (x := Int32.ofInt (jv_shr w (j : Int)) &&& Int32.ofInt 1) e2 (by cases wbt w j <;> decide)
  rw [this]
  cases wbt w j <;> rfl
theorem tr_X_has32 {n l : Nat} {g : jv_S} {Q : jv_V → jv_L → jv_S → Prop} {w : Int} {j : Nat} (hj : j < 32) (h1 : wbt w j = true → Q (jv_I 1) (LL n l) g) (h0 : wbt w j = false → Q (jv_I 0) (LL n l) g) :
  jv_Ca jv_T jv_ml kX_has [jv_I w, jv_I (j : Int)] (LL n l) g Q := by
  apply sg_X_has_0
  rw [bit32 hj]
  refine ⟨fun h => ⟨Or.inr rfl, h1 (jb1.mp h)⟩, fun h => ⟨Or.inl rfl, h0 ?_⟩⟩
  cases hb : wbt w j
  · rfl
  · exact absurd (jb1.mpr hb) h
