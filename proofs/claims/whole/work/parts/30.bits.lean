/-! ===== bits: the machine's words over natural numbers ===== -/
/-- what of a isn't in b -/
def bd (a b : Nat) : Nat := a ^^^ (a &&& b)
theorem bd_bit (a b i : Nat) : (bd a b).testBit i = (a.testBit i && !b.testBit i) := by
  unfold bd
  rw [Nat.testBit_xor, Nat.testBit_and]
  cases a.testBit i <;> cases b.testBit i <;> rfl
theorem jb_v (a : Nat) : (Int32.ofInt (a : Int)).toBitVec = BitVec.ofNat 32 a := by
  show BitVec.ofInt 32 (a : Int) = _
  rw [BitVec.ofInt_natCast]
theorem jb_i {x : Int32} {a : Nat} (h : x.toBitVec.toNat = a) (ha : a < 2147483648) : x.toInt = (a : Int) := by
  show x.toBitVec.toInt = _
  rw [BitVec.toInt_eq_toNat_cond, h]
  rw [if_pos (by omega)]
theorem jb_n (a : Nat) (h : a < 4294967296) : (BitVec.ofNat 32 a).toNat = a := by
  rw [BitVec.toNat_ofNat]
  exact Nat.mod_eq_of_lt h
theorem jb_and {a b : Nat} (ha : a < 2147483648) (hb : b < 2147483648) : jv_and (a : Int) (b : Int) = ((a &&& b : Nat) : Int) := by
  unfold jv_and
  refine jb_i ?_ (Nat.lt_of_le_of_lt Nat.and_le_left ha)
  rw [Int32.toBitVec_and, jb_v, jb_v, BitVec.toNat_and, jb_n a (by omega), jb_n b (by omega)]
theorem jb_or {a b : Nat} (ha : a < 2147483648) (hb : b < 2147483648) : jv_or (a : Int) (b : Int) = ((a ||| b : Nat) : Int) := by
  unfold jv_or
  refine jb_i ?_ (Nat.or_lt_two_pow (n := 31) ha hb)
  rw [Int32.toBitVec_or, jb_v, jb_v, BitVec.toNat_or, jb_n a (by omega), jb_n b (by omega)]
theorem jb_m1 : (Int32.ofInt (-1)).toBitVec = BitVec.allOnes 32 := by decide
theorem jb_not (b : Nat) : Int32.ofInt (jv_xor (b : Int) (-1)) = ~~~ Int32.ofInt (b : Int) := by
  unfold jv_xor
  rw [Int32.ofInt_toInt]
  apply Int32.toBitVec_inj.mp
  rw [Int32.toBitVec_xor, jb_m1, Int32.toBitVec_not, BitVec.xor_allOnes]
theorem jb_andn {a b : Nat} (ha : a < 2147483648) (hb : b < 2147483648) : jv_and (a : Int) (jv_xor (b : Int) (-1)) = ((bd a b : Nat) : Int) := by
  unfold jv_and
  rw [jb_not]
  have hlt : bd a b < 2147483648 := Nat.xor_lt_two_pow (n := 31) ha (Nat.lt_of_le_of_lt Nat.and_le_left ha)
  refine jb_i ?_ hlt
  apply Nat.eq_of_testBit_eq
  intro i
  rw [Int32.toBitVec_and, Int32.toBitVec_not, jb_v, jb_v, BitVec.testBit_toNat, BitVec.getLsbD_and, BitVec.getLsbD_not, bd_bit]
  rw [BitVec.getLsbD_ofNat, BitVec.getLsbD_ofNat]
  by_cases hi : i < 32
  · simp [hi]
  · have h0 : a.testBit i = false := Nat.testBit_lt_two_pow (Nat.lt_of_lt_of_le ha (Nat.le_trans (by decide : 2147483648 ≤ 2 ^ 31) (Nat.pow_le_pow_right (by decide) (by omega))))
    simp [hi, h0]
theorem jb_shl1 {k : Nat} (h : k < 31) : jv_shl 1 (k : Int) = ((2 ^ k : Nat) : Int) := by
  have : ∀ k : Fin 31, jv_shl 1 ((k.val : Nat) : Int) = ((2 ^ k.val : Nat) : Int) := by decide +kernel
  exact this ⟨k, h⟩
theorem jb_shr {a k : Nat} (ha : a < 2147483648) (hk : k < 31) : jv_shr (a : Int) (k : Int) = ((a >>> k : Nat) : Int) := by
  unfold jv_shr
  have hs : ∀ k : Fin 31, Int32.ofInt ((k.val : Nat) : Int) &&& 31 = nI k.val ∧ (nI k.val).toBitVec.smod 32 = BitVec.ofNat 32 k.val := by decide +kernel
  obtain ⟨h1, h2⟩ := hs ⟨k, hk⟩
  dsimp only at h1 h2
  rw [h1]
  have h3 := pk_shrN (n := a) ha (nI k) k (by rw [h2, jb_n k (by omega)])
  have h4 : Int32.ofInt (a : Int) = nI a := by
    apply Int32.toBitVec_inj.mp
    rw [jb_v]
    rfl
  rw [h4, h3, nI_toInt (Nat.lt_of_le_of_lt (Nat.div_le_self _ _) ha), Nat.shiftRight_eq_div_pow]
/-- the bit k of a, as the machine answers it -/
def jb_b (p : Bool) : Int := if p then 1 else 0
theorem jb_b01 (p : Bool) : jb_b p = 0 ∨ jb_b p = 1 := by cases p <;> simp [jb_b]
theorem jb_bit {a k : Nat} (ha : a < 2147483648) (hk : k < 31) : jv_and (jv_shr (a : Int) (k : Int)) 1 = jb_b (a.testBit k) := by
  rw [jb_shr ha hk]
  have := jb_and (a := a >>> k) (b := 1) (Nat.lt_of_le_of_lt (by rw [Nat.shiftRight_eq_div_pow]; exact Nat.div_le_self _ _) ha) (by decide)
  rw [show ((1 : Nat) : Int) = 1 from rfl] at this
  rw [this, Nat.and_one_is_mod]
  rw [Nat.testBit_eq_decide_div_mod_eq, Nat.shiftRight_eq_div_pow]
  unfold jb_b
  rcases Nat.mod_two_eq_zero_or_one (a / 2 ^ k) with h | h <;> simp [h]
