/-! ===== counts of bits, fills, changes of the ways ===== -/
/-- how many bits of s stand below m -/
def pcr (s : Nat) : Nat → Nat
  | 0 => 0
  | m + 1 => pcr s m + (if s.testBit m then 1 else 0)
def pc (s : Nat) : Nat := pcr s 30
theorem pcr_le (s m : Nat) : pcr s m ≤ m := by
  induction m with
  | zero => exact Nat.le_refl _
  | succ m ih =>
    unfold pcr
    split <;> omega
set_option maxRecDepth 100000 in
theorem sg_In_bitCount_0 {L : jv_L} {g : jv_S} {Q : jv_V → jv_L → jv_S → Prop} {v0 : Int} (h :
   Q (jv_I (jv_and (jv_w32 ((jv_w32 ((jv_and (jv_w32 ((jv_w32 ((jv_and (jv_w32 (v0 - (jv_and (jv_ushr v0 (1 : Int)) (1431655765 : Int)))) (858993459 : Int)) + (jv_and (jv_ushr (jv_w32 (v0 - (jv_and (jv_ushr v0 (1 : Int)) (1431655765 : Int)))) (2 : Int)) (858993459 : Int)))) + (jv_ushr (jv_w32 ((jv_and (jv_w32 (v0 - (jv_and (jv_ushr v0 (1 : Int)) (1431655765 : Int)))) (858993459 : Int)) + (jv_and (jv_ushr (jv_w32 (v0 - (jv_and (jv_ushr v0 (1 : Int)) (1431655765 : Int)))) (2 : Int)) (858993459 : Int)))) (4 : Int)))) (252645135 : Int)) + (jv_ushr (jv_and (jv_w32 ((jv_w32 ((jv_and (jv_w32 (v0 - (jv_and (jv_ushr v0 (1 : Int)) (1431655765 : Int)))) (858993459 : Int)) + (jv_and (jv_ushr (jv_w32 (v0 - (jv_and (jv_ushr v0 (1 : Int)) (1431655765 : Int)))) (2 : Int)) (858993459 : Int)))) + (jv_ushr (jv_w32 ((jv_and (jv_w32 (v0 - (jv_and (jv_ushr v0 (1 : Int)) (1431655765 : Int)))) (858993459 : Int)) + (jv_and (jv_ushr (jv_w32 (v0 - (jv_and (jv_ushr v0 (1 : Int)) (1431655765 : Int)))) (2 : Int)) (858993459 : Int)))) (4 : Int)))) (252645135 : Int)) (8 : Int)))) + (jv_ushr (jv_w32 ((jv_and (jv_w32 ((jv_w32 ((jv_and (jv_w32 (v0 - (jv_and (jv_ushr v0 (1 : Int)) (1431655765 : Int)))) (858993459 : Int)) + (jv_and (jv_ushr (jv_w32 (v0 - (jv_and (jv_ushr v0 (1 : Int)) (1431655765 : Int)))) (2 : Int)) (858993459 : Int)))) + (jv_ushr (jv_w32 ((jv_and (jv_w32 (v0 - (jv_and (jv_ushr v0 (1 : Int)) (1431655765 : Int)))) (858993459 : Int)) + (jv_and (jv_ushr (jv_w32 (v0 - (jv_and (jv_ushr v0 (1 : Int)) (1431655765 : Int)))) (2 : Int)) (858993459 : Int)))) (4 : Int)))) (252645135 : Int)) + (jv_ushr (jv_and (jv_w32 ((jv_w32 ((jv_and (jv_w32 (v0 - (jv_and (jv_ushr v0 (1 : Int)) (1431655765 : Int)))) (858993459 : Int)) + (jv_and (jv_ushr (jv_w32 (v0 - (jv_and (jv_ushr v0 (1 : Int)) (1431655765 : Int)))) (2 : Int)) (858993459 : Int)))) + (jv_ushr (jv_w32 ((jv_and (jv_w32 (v0 - (jv_and (jv_ushr v0 (1 : Int)) (1431655765 : Int)))) (858993459 : Int)) + (jv_and (jv_ushr (jv_w32 (v0 - (jv_and (jv_ushr v0 (1 : Int)) (1431655765 : Int)))) (2 : Int)) (858993459 : Int)))) (4 : Int)))) (252645135 : Int)) (8 : Int)))) (16 : Int)))) (63 : Int))) L g) :
  jv_At jv_T jv_ml kIn_bitCount 0 [jv_I v0] [] L g Q :=
  jv_of_wp jg_nil (md := [8, 22, 28, 39, 46]) (stop := []) (tab := jt_In_bitCount) rfl 400 _ _ _ _ _ h
set_option maxRecDepth 100000 in
theorem bc_eq {s : Nat} (h : s < 1024) : ((jv_and (jv_w32 ((jv_w32 ((jv_and (jv_w32 ((jv_w32 ((jv_and (jv_w32 ((s : Int) - (jv_and (jv_ushr (s : Int) (1 : Int)) (1431655765 : Int)))) (858993459 : Int)) + (jv_and (jv_ushr (jv_w32 ((s : Int) - (jv_and (jv_ushr (s : Int) (1 : Int)) (1431655765 : Int)))) (2 : Int)) (858993459 : Int)))) + (jv_ushr (jv_w32 ((jv_and (jv_w32 ((s : Int) - (jv_and (jv_ushr (s : Int) (1 : Int)) (1431655765 : Int)))) (858993459 : Int)) + (jv_and (jv_ushr (jv_w32 ((s : Int) - (jv_and (jv_ushr (s : Int) (1 : Int)) (1431655765 : Int)))) (2 : Int)) (858993459 : Int)))) (4 : Int)))) (252645135 : Int)) + (jv_ushr (jv_and (jv_w32 ((jv_w32 ((jv_and (jv_w32 ((s : Int) - (jv_and (jv_ushr (s : Int) (1 : Int)) (1431655765 : Int)))) (858993459 : Int)) + (jv_and (jv_ushr (jv_w32 ((s : Int) - (jv_and (jv_ushr (s : Int) (1 : Int)) (1431655765 : Int)))) (2 : Int)) (858993459 : Int)))) + (jv_ushr (jv_w32 ((jv_and (jv_w32 ((s : Int) - (jv_and (jv_ushr (s : Int) (1 : Int)) (1431655765 : Int)))) (858993459 : Int)) + (jv_and (jv_ushr (jv_w32 ((s : Int) - (jv_and (jv_ushr (s : Int) (1 : Int)) (1431655765 : Int)))) (2 : Int)) (858993459 : Int)))) (4 : Int)))) (252645135 : Int)) (8 : Int)))) + (jv_ushr (jv_w32 ((jv_and (jv_w32 ((jv_w32 ((jv_and (jv_w32 ((s : Int) - (jv_and (jv_ushr (s : Int) (1 : Int)) (1431655765 : Int)))) (858993459 : Int)) + (jv_and (jv_ushr (jv_w32 ((s : Int) - (jv_and (jv_ushr (s : Int) (1 : Int)) (1431655765 : Int)))) (2 : Int)) (858993459 : Int)))) + (jv_ushr (jv_w32 ((jv_and (jv_w32 ((s : Int) - (jv_and (jv_ushr (s : Int) (1 : Int)) (1431655765 : Int)))) (858993459 : Int)) + (jv_and (jv_ushr (jv_w32 ((s : Int) - (jv_and (jv_ushr (s : Int) (1 : Int)) (1431655765 : Int)))) (2 : Int)) (858993459 : Int)))) (4 : Int)))) (252645135 : Int)) + (jv_ushr (jv_and (jv_w32 ((jv_w32 ((jv_and (jv_w32 ((s : Int) - (jv_and (jv_ushr (s : Int) (1 : Int)) (1431655765 : Int)))) (858993459 : Int)) + (jv_and (jv_ushr (jv_w32 ((s : Int) - (jv_and (jv_ushr (s : Int) (1 : Int)) (1431655765 : Int)))) (2 : Int)) (858993459 : Int)))) + (jv_ushr (jv_w32 ((jv_and (jv_w32 ((s : Int) - (jv_and (jv_ushr (s : Int) (1 : Int)) (1431655765 : Int)))) (858993459 : Int)) + (jv_and (jv_ushr (jv_w32 ((s : Int) - (jv_and (jv_ushr (s : Int) (1 : Int)) (1431655765 : Int)))) (2 : Int)) (858993459 : Int)))) (4 : Int)))) (252645135 : Int)) (8 : Int)))) (16 : Int)))) (63 : Int)) : Int) = (pc s : Int) := by
  have : ∀ s : Fin 1024, ((jv_and (jv_w32 ((jv_w32 ((jv_and (jv_w32 ((jv_w32 ((jv_and (jv_w32 (((s.val : Nat) : Int) - (jv_and (jv_ushr ((s.val : Nat) : Int) (1 : Int)) (1431655765 : Int)))) (858993459 : Int)) + (jv_and (jv_ushr (jv_w32 (((s.val : Nat) : Int) - (jv_and (jv_ushr ((s.val : Nat) : Int) (1 : Int)) (1431655765 : Int)))) (2 : Int)) (858993459 : Int)))) + (jv_ushr (jv_w32 ((jv_and (jv_w32 (((s.val : Nat) : Int) - (jv_and (jv_ushr ((s.val : Nat) : Int) (1 : Int)) (1431655765 : Int)))) (858993459 : Int)) + (jv_and (jv_ushr (jv_w32 (((s.val : Nat) : Int) - (jv_and (jv_ushr ((s.val : Nat) : Int) (1 : Int)) (1431655765 : Int)))) (2 : Int)) (858993459 : Int)))) (4 : Int)))) (252645135 : Int)) + (jv_ushr (jv_and (jv_w32 ((jv_w32 ((jv_and (jv_w32 (((s.val : Nat) : Int) - (jv_and (jv_ushr ((s.val : Nat) : Int) (1 : Int)) (1431655765 : Int)))) (858993459 : Int)) + (jv_and (jv_ushr (jv_w32 (((s.val : Nat) : Int) - (jv_and (jv_ushr ((s.val : Nat) : Int) (1 : Int)) (1431655765 : Int)))) (2 : Int)) (858993459 : Int)))) + (jv_ushr (jv_w32 ((jv_and (jv_w32 (((s.val : Nat) : Int) - (jv_and (jv_ushr ((s.val : Nat) : Int) (1 : Int)) (1431655765 : Int)))) (858993459 : Int)) + (jv_and (jv_ushr (jv_w32 (((s.val : Nat) : Int) - (jv_and (jv_ushr ((s.val : Nat) : Int) (1 : Int)) (1431655765 : Int)))) (2 : Int)) (858993459 : Int)))) (4 : Int)))) (252645135 : Int)) (8 : Int)))) + (jv_ushr (jv_w32 ((jv_and (jv_w32 ((jv_w32 ((jv_and (jv_w32 (((s.val : Nat) : Int) - (jv_and (jv_ushr ((s.val : Nat) : Int) (1 : Int)) (1431655765 : Int)))) (858993459 : Int)) + (jv_and (jv_ushr (jv_w32 (((s.val : Nat) : Int) - (jv_and (jv_ushr ((s.val : Nat) : Int) (1 : Int)) (1431655765 : Int)))) (2 : Int)) (858993459 : Int)))) + (jv_ushr (jv_w32 ((jv_and (jv_w32 (((s.val : Nat) : Int) - (jv_and (jv_ushr ((s.val : Nat) : Int) (1 : Int)) (1431655765 : Int)))) (858993459 : Int)) + (jv_and (jv_ushr (jv_w32 (((s.val : Nat) : Int) - (jv_and (jv_ushr ((s.val : Nat) : Int) (1 : Int)) (1431655765 : Int)))) (2 : Int)) (858993459 : Int)))) (4 : Int)))) (252645135 : Int)) + (jv_ushr (jv_and (jv_w32 ((jv_w32 ((jv_and (jv_w32 (((s.val : Nat) : Int) - (jv_and (jv_ushr ((s.val : Nat) : Int) (1 : Int)) (1431655765 : Int)))) (858993459 : Int)) + (jv_and (jv_ushr (jv_w32 (((s.val : Nat) : Int) - (jv_and (jv_ushr ((s.val : Nat) : Int) (1 : Int)) (1431655765 : Int)))) (2 : Int)) (858993459 : Int)))) + (jv_ushr (jv_w32 ((jv_and (jv_w32 (((s.val : Nat) : Int) - (jv_and (jv_ushr ((s.val : Nat) : Int) (1 : Int)) (1431655765 : Int)))) (858993459 : Int)) + (jv_and (jv_ushr (jv_w32 (((s.val : Nat) : Int) - (jv_and (jv_ushr ((s.val : Nat) : Int) (1 : Int)) (1431655765 : Int)))) (2 : Int)) (858993459 : Int)))) (4 : Int)))) (252645135 : Int)) (8 : Int)))) (16 : Int)))) (63 : Int)) : Int) = (pc s.val : Int) := by decide +kernel
  exact this ⟨s, h⟩
def pr_In_bitCount : List jv_V → jv_L → jv_S → Prop := fun as L g => match as with
  | [.inl s] => (0 ≤ s ∧ s < 1024)
  | _ => False
def re_In_bitCount : List jv_V → jv_S → jv_V := fun as g => match as with
  | [.inl s] => jv_I ((pc s.toNat : Int))
  | _ => jv_U
theorem pu_In_bitCount : jp_S kIn_bitCount pr_In_bitCount re_In_bitCount := by
  intro as L g h
  unfold pr_In_bitCount at h
  split at h
  · rename_i s
    apply jp_of
    obtain ⟨h1, h2⟩ := h
    obtain ⟨s, rfl⟩ := Int.eq_ofNat_of_zero_le h1
    apply sg_In_bitCount_0
    exact ⟨congrArg jv_I (bc_eq (by omega)), rfl, rfl⟩
  · exact h.elim
set_option maxRecDepth 100000 in
theorem sg_In_lowestOneBit_0 {L : jv_L} {g : jv_S} {Q : jv_V → jv_L → jv_S → Prop} {v0 : Int} (h :
   jv_r32 (- v0) ∧
    Q (jv_I (jv_and v0 (- v0))) L g) :
  jv_At jv_T jv_ml kIn_lowestOneBit 0 [jv_I v0] [] L g Q :=
  jv_of_wp jg_nil (md := []) (stop := []) (tab := jt_In_lowestOneBit) rfl 400 _ _ _ _ _ h
def pr_In_lowestOneBit : List jv_V → jv_L → jv_S → Prop := fun as L g => match as with
  | [.inl s] => (0 ≤ s ∧ s < 1024)
  | _ => False
def re_In_lowestOneBit : List jv_V → jv_S → jv_V := fun as g => match as with
  | [.inl s] => jv_I ((low s.toNat : Int))
  | _ => jv_U
theorem pu_In_lowestOneBit : jp_S kIn_lowestOneBit pr_In_lowestOneBit re_In_lowestOneBit := by
  intro as L g h
  unfold pr_In_lowestOneBit at h
  split at h
  · rename_i s
    apply jp_of
    obtain ⟨h1, h2⟩ := h
    obtain ⟨s, rfl⟩ := Int.eq_ofNat_of_zero_le h1
    apply sg_In_lowestOneBit_0
    exact ⟨⟨by omega, by omega⟩, congrArg jv_I (low_eq (by omega)), rfl, rfl⟩
  · exact h.elim
set_option maxRecDepth 100000 in
theorem sg_Y_bitsOf_0 {L : jv_L} {g : jv_S} {Q : jv_V → jv_L → jv_S → Prop} {v0 : Int} (h :
   jv_At jv_T jv_ml kY_bitsOf 4 [jv_I v0, jv_I (0 : Int), jv_I (0 : Int)] [] L g Q) :
  jv_At jv_T jv_ml kY_bitsOf 0 [jv_I v0, jv_U, jv_U] [] L g Q :=
  jv_of_wp jg_nil (md := []) (stop := [4]) (tab := jt_Y_bitsOf) rfl 400 _ _ _ _ _ h
set_option maxRecDepth 100000 in
theorem sg_Y_bitsOf_4 {L : jv_L} {g : jv_S} {Q : jv_V → jv_L → jv_S → Prop} {v0 v1 v2 : Int} (h :
   ((30 : Int) ≤ v2 →
     Q (jv_I v1) L g) ∧
    (¬ (30 : Int) ≤ v2 →
     jv_r32 (v1 + (jv_and (jv_shr v0 v2) (1 : Int))) ∧
      jv_r32 (v2 + (1 : Int)) ∧
      jv_At jv_T jv_ml kY_bitsOf 4 [jv_I v0, jv_I (v1 + (jv_and (jv_shr v0 v2) (1 : Int))), jv_I (v2 + (1 : Int))] [] L g Q)) :
  jv_At jv_T jv_ml kY_bitsOf 4 [jv_I v0, jv_I v1, jv_I v2] [] L g Q :=
  jv_of_wp jg_nil (md := []) (stop := [4]) (tab := jt_Y_bitsOf) rfl 400 _ _ _ _ _ h
def pr_Y_bitsOf : List jv_V → jv_L → jv_S → Prop := fun as L g => match as with
  | [.inl s] => (0 ≤ s ∧ s < 2147483648)
  | _ => False
def re_Y_bitsOf : List jv_V → jv_S → jv_V := fun as g => match as with
  | [.inl s] => jv_I ((pc s.toNat : Int))
  | _ => jv_U
theorem pu_Y_bitsOf : jp_S kY_bitsOf pr_Y_bitsOf re_Y_bitsOf := by
  intro as L g h
  unfold pr_Y_bitsOf at h
  split at h
  · rename_i s
    apply jp_of
    obtain ⟨h1, h2⟩ := h
    obtain ⟨s, rfl⟩ := Int.eq_ofNat_of_zero_le h1
    have key : ∀ k, k ≤ 30 → jv_At jv_T jv_ml kY_bitsOf 4 [jv_I (s : Int), jv_I (pcr s k : Int), jv_I (k : Int)] [] L g (fun r L2 g2 => r = jv_I (pc s : Int) ∧ L2 = L ∧ g2 = g) := by
      apply loop_up
      intro k hk ih
      have hp := pcr_le s k
      apply sg_Y_bitsOf_4
      refine ⟨fun h => ?_, fun h => ?_⟩
      · have : k = 30 := by omega
        subst this
        exact ⟨rfl, rfl, rfl⟩
      · have e : (pcr s k : Int) + jv_and (jv_shr (s : Int) (k : Int)) 1 = (pcr s (k + 1) : Int) := by
          rw [jb_bit (by omega) (by omega)]
          show _ = ((pcr s k + (if s.testBit k then 1 else 0) : Nat) : Int)
          unfold jb_b
          cases s.testBit k <;> simp
        have hp' := pcr_le s (k + 1)
        rw [e]
        exact ⟨⟨by omega, by omega⟩, ⟨by omega, by omega⟩, ih (by omega)⟩
    exact sg_Y_bitsOf_0 (key 0 (by omega))
  · exact h.elim
def jG6 (A : jA) : jv_G := (kIn_bitCount, pr_In_bitCount, re_In_bitCount) :: (kIn_lowestOneBit, pr_In_lowestOneBit, re_In_lowestOneBit) :: (kY_bitsOf, pr_Y_bitsOf, re_Y_bitsOf) :: jG5 A
theorem gok6 {A : jA} : jv_GOk jv_T jv_ml (jG6 A) := jp_cons pu_In_bitCount (jp_cons pu_In_lowestOneBit (jp_cons pu_Y_bitsOf gok5))
set_option maxRecDepth 100000 in
theorem sg_Ar_fill_41_0 {n l : Nat} {g : jv_S} {Q : jv_V → jv_L → jv_S → Prop} {v1 : Int} (h :
   jv_At jv_T jv_ml kAr_fill 5 [jv_P 41, jv_I v1, jv_I (0 : Int), jv_I (10 : Int)] [] (LL n l) g Q) :
  jv_At jv_T jv_ml kAr_fill 0 [jv_P 41, jv_I v1, jv_U, jv_U] [] (LL n l) g Q :=
  jv_of_wp jg_nil (md := []) (stop := [5]) (tab := jt_Ar_fill) rfl 400 _ _ _ _ _ h
set_option maxRecDepth 100000 in
theorem sg_Ar_fill_41_5 {n l : Nat} {g : jv_S} {Q : jv_V → jv_L → jv_S → Prop} {v1 v2 v3 : Int} (h :
   (v3 ≤ v2 →
     Q jv_U (LL n l) g) ∧
    (¬ v3 ≤ v2 →
     (0 ≤ v2 ∧ v2 < 10) ∧ 
      jv_r32 (v2 + (1 : Int)) ∧
      jv_At jv_T jv_ml kAr_fill 5 [jv_P 41, jv_I v1, jv_I (v2 + (1 : Int)), jv_I v3] [] (LL n l) (jv_up g 41 v2 v1) Q)) :
  jv_At jv_T jv_ml kAr_fill 5 [jv_P 41, jv_I v1, jv_I v2, jv_I v3] [] (LL n l) g Q :=
  jv_of_wp jg_nil (md := []) (stop := [5]) (tab := jt_Ar_fill) rfl 400 _ _ _ _ _ h
theorem tr_Ar_fill_41 {n l : Nat} {g : jv_S} {Q : jv_V → jv_L → jv_S → Prop} {v : Int} (hQ : ∀ g' : jv_S, (∀ i : Int, 0 ≤ i → i < 10 → g' 41 i = v) → (∀ q i, ¬ (q = 41 ∧ 0 ≤ i ∧ i < 10) → g' q i = g q i) → Q jv_U (LL n l) g') : jv_Ca jv_T jv_ml kAr_fill [jv_P 41, jv_I v] (LL n l) g Q := by
  have key : ∀ k : Nat, k ≤ 10 → ∀ g' : jv_S, (∀ i : Int, 0 ≤ i → i < k → g' 41 i = v) → (∀ q i, ¬ (q = 41 ∧ 0 ≤ i ∧ i < 10) → g' q i = g q i) → jv_At jv_T jv_ml kAr_fill 5 [jv_P 41, jv_I v, jv_I (k : Int), jv_I (10 : Int)] [] (LL n l) g' Q := by
    apply loop_up
    intro k hk ih g' h1 h2
    apply sg_Ar_fill_41_5
    refine ⟨fun h => hQ g' (fun i h3 h4 => h1 i h3 (by omega)) h2, fun h => ⟨⟨by omega, by omega⟩, ⟨by omega, by omega⟩, ih (by omega) _ (fun i h3 h4 => ?_) (fun q i hq => ?_)⟩⟩
    · by_cases hik : i = k
      · rw [up_eq rfl hik]
      · rw [up_ne (by omega)]
        exact h1 i h3 (by omega)
    · rw [up_ne (by omega)]
      exact h2 q i hq
  exact sg_Ar_fill_41_0 (key 0 (by omega) g (fun i h1 h2 => by omega) (fun q i _ => rfl))
set_option maxRecDepth 100000 in
theorem sg_Ar_fill_62_0 {n l : Nat} {g : jv_S} {Q : jv_V → jv_L → jv_S → Prop} {v1 : Int} (h :
   jv_At jv_T jv_ml kAr_fill 5 [jv_P 62, jv_I v1, jv_I (0 : Int), jv_I (10 : Int)] [] (LL n l) g Q) :
  jv_At jv_T jv_ml kAr_fill 0 [jv_P 62, jv_I v1, jv_U, jv_U] [] (LL n l) g Q :=
  jv_of_wp jg_nil (md := []) (stop := [5]) (tab := jt_Ar_fill) rfl 400 _ _ _ _ _ h
set_option maxRecDepth 100000 in
theorem sg_Ar_fill_62_5 {n l : Nat} {g : jv_S} {Q : jv_V → jv_L → jv_S → Prop} {v1 v2 v3 : Int} (h :
   (v3 ≤ v2 →
     Q jv_U (LL n l) g) ∧
    (¬ v3 ≤ v2 →
     (0 ≤ v2 ∧ v2 < 10) ∧ 
      jv_r32 (v2 + (1 : Int)) ∧
      jv_At jv_T jv_ml kAr_fill 5 [jv_P 62, jv_I v1, jv_I (v2 + (1 : Int)), jv_I v3] [] (LL n l) (jv_up g 62 v2 v1) Q)) :
  jv_At jv_T jv_ml kAr_fill 5 [jv_P 62, jv_I v1, jv_I v2, jv_I v3] [] (LL n l) g Q :=
  jv_of_wp jg_nil (md := []) (stop := [5]) (tab := jt_Ar_fill) rfl 400 _ _ _ _ _ h
theorem tr_Ar_fill_62 {n l : Nat} {g : jv_S} {Q : jv_V → jv_L → jv_S → Prop} {v : Int} (hQ : ∀ g' : jv_S, (∀ i : Int, 0 ≤ i → i < 10 → g' 62 i = v) → (∀ q i, ¬ (q = 62 ∧ 0 ≤ i ∧ i < 10) → g' q i = g q i) → Q jv_U (LL n l) g') : jv_Ca jv_T jv_ml kAr_fill [jv_P 62, jv_I v] (LL n l) g Q := by
  have key : ∀ k : Nat, k ≤ 10 → ∀ g' : jv_S, (∀ i : Int, 0 ≤ i → i < k → g' 62 i = v) → (∀ q i, ¬ (q = 62 ∧ 0 ≤ i ∧ i < 10) → g' q i = g q i) → jv_At jv_T jv_ml kAr_fill 5 [jv_P 62, jv_I v, jv_I (k : Int), jv_I (10 : Int)] [] (LL n l) g' Q := by
    apply loop_up
    intro k hk ih g' h1 h2
    apply sg_Ar_fill_62_5
    refine ⟨fun h => hQ g' (fun i h3 h4 => h1 i h3 (by omega)) h2, fun h => ⟨⟨by omega, by omega⟩, ⟨by omega, by omega⟩, ih (by omega) _ (fun i h3 h4 => ?_) (fun q i hq => ?_)⟩⟩
    · by_cases hik : i = k
      · rw [up_eq rfl hik]
      · rw [up_ne (by omega)]
        exact h1 i h3 (by omega)
    · rw [up_ne (by omega)]
      exact h2 q i hq
  exact sg_Ar_fill_62_0 (key 0 (by omega) g (fun i h1 h2 => by omega) (fun q i _ => rfl))
set_option maxRecDepth 100000 in
theorem sg_Ar_fill_126_0 {n l : Nat} {g : jv_S} {Q : jv_V → jv_L → jv_S → Prop} {v1 : Int} (h :
   jv_At jv_T jv_ml kAr_fill 5 [jv_P 126, jv_I v1, jv_I (0 : Int), jv_I (10 : Int)] [] (LL n l) g Q) :
  jv_At jv_T jv_ml kAr_fill 0 [jv_P 126, jv_I v1, jv_U, jv_U] [] (LL n l) g Q :=
  jv_of_wp jg_nil (md := []) (stop := [5]) (tab := jt_Ar_fill) rfl 400 _ _ _ _ _ h
set_option maxRecDepth 100000 in
theorem sg_Ar_fill_126_5 {n l : Nat} {g : jv_S} {Q : jv_V → jv_L → jv_S → Prop} {v1 v2 v3 : Int} (h :
   (v3 ≤ v2 →
     Q jv_U (LL n l) g) ∧
    (¬ v3 ≤ v2 →
     (0 ≤ v2 ∧ v2 < 10) ∧ 
      jv_r32 (v2 + (1 : Int)) ∧
      jv_At jv_T jv_ml kAr_fill 5 [jv_P 126, jv_I v1, jv_I (v2 + (1 : Int)), jv_I v3] [] (LL n l) (jv_up g 126 v2 v1) Q)) :
  jv_At jv_T jv_ml kAr_fill 5 [jv_P 126, jv_I v1, jv_I v2, jv_I v3] [] (LL n l) g Q :=
  jv_of_wp jg_nil (md := []) (stop := [5]) (tab := jt_Ar_fill) rfl 400 _ _ _ _ _ h
theorem tr_Ar_fill_126 {n l : Nat} {g : jv_S} {Q : jv_V → jv_L → jv_S → Prop} {v : Int} (hQ : ∀ g' : jv_S, (∀ i : Int, 0 ≤ i → i < 10 → g' 126 i = v) → (∀ q i, ¬ (q = 126 ∧ 0 ≤ i ∧ i < 10) → g' q i = g q i) → Q jv_U (LL n l) g') : jv_Ca jv_T jv_ml kAr_fill [jv_P 126, jv_I v] (LL n l) g Q := by
  have key : ∀ k : Nat, k ≤ 10 → ∀ g' : jv_S, (∀ i : Int, 0 ≤ i → i < k → g' 126 i = v) → (∀ q i, ¬ (q = 126 ∧ 0 ≤ i ∧ i < 10) → g' q i = g q i) → jv_At jv_T jv_ml kAr_fill 5 [jv_P 126, jv_I v, jv_I (k : Int), jv_I (10 : Int)] [] (LL n l) g' Q := by
    apply loop_up
    intro k hk ih g' h1 h2
    apply sg_Ar_fill_126_5
    refine ⟨fun h => hQ g' (fun i h3 h4 => h1 i h3 (by omega)) h2, fun h => ⟨⟨by omega, by omega⟩, ⟨by omega, by omega⟩, ih (by omega) _ (fun i h3 h4 => ?_) (fun q i hq => ?_)⟩⟩
    · by_cases hik : i = k
      · rw [up_eq rfl hik]
      · rw [up_ne (by omega)]
        exact h1 i h3 (by omega)
    · rw [up_ne (by omega)]
      exact h2 q i hq
  exact sg_Ar_fill_126_0 (key 0 (by omega) g (fun i h1 h2 => by omega) (fun q i _ => rfl))
set_option maxRecDepth 100000 in
theorem sg_Ar_fill_66_0 {n l : Nat} {g : jv_S} {Q : jv_V → jv_L → jv_S → Prop} {v1 : Int} (h :
   jv_At jv_T jv_ml kAr_fill 5 [jv_P 66, jv_I v1, jv_I (0 : Int), jv_I (10 : Int)] [] (LL n l) g Q) :
  jv_At jv_T jv_ml kAr_fill 0 [jv_P 66, jv_I v1, jv_U, jv_U] [] (LL n l) g Q :=
  jv_of_wp jg_nil (md := []) (stop := [5]) (tab := jt_Ar_fill) rfl 400 _ _ _ _ _ h
set_option maxRecDepth 100000 in
theorem sg_Ar_fill_66_5 {n l : Nat} {g : jv_S} {Q : jv_V → jv_L → jv_S → Prop} {v1 v2 v3 : Int} (h :
   (v3 ≤ v2 →
     Q jv_U (LL n l) g) ∧
    (¬ v3 ≤ v2 →
     (0 ≤ v2 ∧ v2 < 10) ∧ 
      jv_r32 (v2 + (1 : Int)) ∧
      jv_At jv_T jv_ml kAr_fill 5 [jv_P 66, jv_I v1, jv_I (v2 + (1 : Int)), jv_I v3] [] (LL n l) (jv_up g 66 v2 v1) Q)) :
  jv_At jv_T jv_ml kAr_fill 5 [jv_P 66, jv_I v1, jv_I v2, jv_I v3] [] (LL n l) g Q :=
  jv_of_wp jg_nil (md := []) (stop := [5]) (tab := jt_Ar_fill) rfl 400 _ _ _ _ _ h
theorem tr_Ar_fill_66 {n l : Nat} {g : jv_S} {Q : jv_V → jv_L → jv_S → Prop} {v : Int} (hQ : ∀ g' : jv_S, (∀ i : Int, 0 ≤ i → i < 10 → g' 66 i = v) → (∀ q i, ¬ (q = 66 ∧ 0 ≤ i ∧ i < 10) → g' q i = g q i) → Q jv_U (LL n l) g') : jv_Ca jv_T jv_ml kAr_fill [jv_P 66, jv_I v] (LL n l) g Q := by
  have key : ∀ k : Nat, k ≤ 10 → ∀ g' : jv_S, (∀ i : Int, 0 ≤ i → i < k → g' 66 i = v) → (∀ q i, ¬ (q = 66 ∧ 0 ≤ i ∧ i < 10) → g' q i = g q i) → jv_At jv_T jv_ml kAr_fill 5 [jv_P 66, jv_I v, jv_I (k : Int), jv_I (10 : Int)] [] (LL n l) g' Q := by
    apply loop_up
    intro k hk ih g' h1 h2
    apply sg_Ar_fill_66_5
    refine ⟨fun h => hQ g' (fun i h3 h4 => h1 i h3 (by omega)) h2, fun h => ⟨⟨by omega, by omega⟩, ⟨by omega, by omega⟩, ih (by omega) _ (fun i h3 h4 => ?_) (fun q i hq => ?_)⟩⟩
    · by_cases hik : i = k
      · rw [up_eq rfl hik]
      · rw [up_ne (by omega)]
        exact h1 i h3 (by omega)
    · rw [up_ne (by omega)]
      exact h2 q i hq
  exact sg_Ar_fill_66_0 (key 0 (by omega) g (fun i h1 h2 => by omega) (fun q i _ => rfl))
set_option maxRecDepth 100000 in
theorem sg_Ar_fill_64_0 {n l : Nat} {g : jv_S} {Q : jv_V → jv_L → jv_S → Prop} {v1 : Int} (h :
   jv_At jv_T jv_ml kAr_fill 5 [jv_P 64, jv_I v1, jv_I (0 : Int), jv_I (10 : Int)] [] (LL n l) g Q) :
  jv_At jv_T jv_ml kAr_fill 0 [jv_P 64, jv_I v1, jv_U, jv_U] [] (LL n l) g Q :=
  jv_of_wp jg_nil (md := []) (stop := [5]) (tab := jt_Ar_fill) rfl 400 _ _ _ _ _ h
set_option maxRecDepth 100000 in
theorem sg_Ar_fill_64_5 {n l : Nat} {g : jv_S} {Q : jv_V → jv_L → jv_S → Prop} {v1 v2 v3 : Int} (h :
   (v3 ≤ v2 →
     Q jv_U (LL n l) g) ∧
    (¬ v3 ≤ v2 →
     (0 ≤ v2 ∧ v2 < 10) ∧ 
      jv_r32 (v2 + (1 : Int)) ∧
      jv_At jv_T jv_ml kAr_fill 5 [jv_P 64, jv_I v1, jv_I (v2 + (1 : Int)), jv_I v3] [] (LL n l) (jv_up g 64 v2 v1) Q)) :
  jv_At jv_T jv_ml kAr_fill 5 [jv_P 64, jv_I v1, jv_I v2, jv_I v3] [] (LL n l) g Q :=
  jv_of_wp jg_nil (md := []) (stop := [5]) (tab := jt_Ar_fill) rfl 400 _ _ _ _ _ h
theorem tr_Ar_fill_64 {n l : Nat} {g : jv_S} {Q : jv_V → jv_L → jv_S → Prop} {v : Int} (hQ : ∀ g' : jv_S, (∀ i : Int, 0 ≤ i → i < 10 → g' 64 i = v) → (∀ q i, ¬ (q = 64 ∧ 0 ≤ i ∧ i < 10) → g' q i = g q i) → Q jv_U (LL n l) g') : jv_Ca jv_T jv_ml kAr_fill [jv_P 64, jv_I v] (LL n l) g Q := by
  have key : ∀ k : Nat, k ≤ 10 → ∀ g' : jv_S, (∀ i : Int, 0 ≤ i → i < k → g' 64 i = v) → (∀ q i, ¬ (q = 64 ∧ 0 ≤ i ∧ i < 10) → g' q i = g q i) → jv_At jv_T jv_ml kAr_fill 5 [jv_P 64, jv_I v, jv_I (k : Int), jv_I (10 : Int)] [] (LL n l) g' Q := by
    apply loop_up
    intro k hk ih g' h1 h2
    apply sg_Ar_fill_64_5
    refine ⟨fun h => hQ g' (fun i h3 h4 => h1 i h3 (by omega)) h2, fun h => ⟨⟨by omega, by omega⟩, ⟨by omega, by omega⟩, ih (by omega) _ (fun i h3 h4 => ?_) (fun q i hq => ?_)⟩⟩
    · by_cases hik : i = k
      · rw [up_eq rfl hik]
      · rw [up_ne (by omega)]
        exact h1 i h3 (by omega)
    · rw [up_ne (by omega)]
      exact h2 q i hq
  exact sg_Ar_fill_64_0 (key 0 (by omega) g (fun i h1 h2 => by omega) (fun q i _ => rfl))
set_option maxRecDepth 100000 in
theorem sg_Ar_fill_81_0 {n l : Nat} {g : jv_S} {Q : jv_V → jv_L → jv_S → Prop} {v1 : Int} (h :
   jv_At jv_T jv_ml kAr_fill 5 [jv_P 81, jv_I v1, jv_I (0 : Int), jv_I (489 : Int)] [] (LL n l) g Q) :
  jv_At jv_T jv_ml kAr_fill 0 [jv_P 81, jv_I v1, jv_U, jv_U] [] (LL n l) g Q :=
  jv_of_wp jg_nil (md := []) (stop := [5]) (tab := jt_Ar_fill) rfl 400 _ _ _ _ _ h
set_option maxRecDepth 100000 in
theorem sg_Ar_fill_81_5 {n l : Nat} {g : jv_S} {Q : jv_V → jv_L → jv_S → Prop} {v1 v2 v3 : Int} (h :
   (v3 ≤ v2 →
     Q jv_U (LL n l) g) ∧
    (¬ v3 ≤ v2 →
     (0 ≤ v2 ∧ v2 < 489) ∧ 
      jv_r32 (v2 + (1 : Int)) ∧
      jv_At jv_T jv_ml kAr_fill 5 [jv_P 81, jv_I v1, jv_I (v2 + (1 : Int)), jv_I v3] [] (LL n l) (jv_up g 81 v2 v1) Q)) :
  jv_At jv_T jv_ml kAr_fill 5 [jv_P 81, jv_I v1, jv_I v2, jv_I v3] [] (LL n l) g Q :=
  jv_of_wp jg_nil (md := []) (stop := [5]) (tab := jt_Ar_fill) rfl 400 _ _ _ _ _ h
theorem tr_Ar_fill_81 {n l : Nat} {g : jv_S} {Q : jv_V → jv_L → jv_S → Prop} {v : Int} (hQ : ∀ g' : jv_S, (∀ i : Int, 0 ≤ i → i < 489 → g' 81 i = v) → (∀ q i, ¬ (q = 81 ∧ 0 ≤ i ∧ i < 489) → g' q i = g q i) → Q jv_U (LL n l) g') : jv_Ca jv_T jv_ml kAr_fill [jv_P 81, jv_I v] (LL n l) g Q := by
  have key : ∀ k : Nat, k ≤ 489 → ∀ g' : jv_S, (∀ i : Int, 0 ≤ i → i < k → g' 81 i = v) → (∀ q i, ¬ (q = 81 ∧ 0 ≤ i ∧ i < 489) → g' q i = g q i) → jv_At jv_T jv_ml kAr_fill 5 [jv_P 81, jv_I v, jv_I (k : Int), jv_I (489 : Int)] [] (LL n l) g' Q := by
    apply loop_up
    intro k hk ih g' h1 h2
    apply sg_Ar_fill_81_5
    refine ⟨fun h => hQ g' (fun i h3 h4 => h1 i h3 (by omega)) h2, fun h => ⟨⟨by omega, by omega⟩, ⟨by omega, by omega⟩, ih (by omega) _ (fun i h3 h4 => ?_) (fun q i hq => ?_)⟩⟩
    · by_cases hik : i = k
      · rw [up_eq rfl hik]
      · rw [up_ne (by omega)]
        exact h1 i h3 (by omega)
    · rw [up_ne (by omega)]
      exact h2 q i hq
  exact sg_Ar_fill_81_0 (key 0 (by omega) g (fun i h1 h2 => by omega) (fun q i _ => rfl))
set_option maxRecDepth 100000 in
theorem sg_Ar_fill_83_0 {n l : Nat} {g : jv_S} {Q : jv_V → jv_L → jv_S → Prop} {v1 : Int} (h :
   jv_At jv_T jv_ml kAr_fill 5 [jv_P 83, jv_I v1, jv_I (0 : Int), jv_I (489 : Int)] [] (LL n l) g Q) :
  jv_At jv_T jv_ml kAr_fill 0 [jv_P 83, jv_I v1, jv_U, jv_U] [] (LL n l) g Q :=
  jv_of_wp jg_nil (md := []) (stop := [5]) (tab := jt_Ar_fill) rfl 400 _ _ _ _ _ h
set_option maxRecDepth 100000 in
theorem sg_Ar_fill_83_5 {n l : Nat} {g : jv_S} {Q : jv_V → jv_L → jv_S → Prop} {v1 v2 v3 : Int} (h :
   (v3 ≤ v2 →
     Q jv_U (LL n l) g) ∧
    (¬ v3 ≤ v2 →
     (0 ≤ v2 ∧ v2 < 489) ∧ 
      jv_r32 (v2 + (1 : Int)) ∧
      jv_At jv_T jv_ml kAr_fill 5 [jv_P 83, jv_I v1, jv_I (v2 + (1 : Int)), jv_I v3] [] (LL n l) (jv_up g 83 v2 v1) Q)) :
  jv_At jv_T jv_ml kAr_fill 5 [jv_P 83, jv_I v1, jv_I v2, jv_I v3] [] (LL n l) g Q :=
  jv_of_wp jg_nil (md := []) (stop := [5]) (tab := jt_Ar_fill) rfl 400 _ _ _ _ _ h
theorem tr_Ar_fill_83 {n l : Nat} {g : jv_S} {Q : jv_V → jv_L → jv_S → Prop} {v : Int} (hQ : ∀ g' : jv_S, (∀ i : Int, 0 ≤ i → i < 489 → g' 83 i = v) → (∀ q i, ¬ (q = 83 ∧ 0 ≤ i ∧ i < 489) → g' q i = g q i) → Q jv_U (LL n l) g') : jv_Ca jv_T jv_ml kAr_fill [jv_P 83, jv_I v] (LL n l) g Q := by
  have key : ∀ k : Nat, k ≤ 489 → ∀ g' : jv_S, (∀ i : Int, 0 ≤ i → i < k → g' 83 i = v) → (∀ q i, ¬ (q = 83 ∧ 0 ≤ i ∧ i < 489) → g' q i = g q i) → jv_At jv_T jv_ml kAr_fill 5 [jv_P 83, jv_I v, jv_I (k : Int), jv_I (489 : Int)] [] (LL n l) g' Q := by
    apply loop_up
    intro k hk ih g' h1 h2
    apply sg_Ar_fill_83_5
    refine ⟨fun h => hQ g' (fun i h3 h4 => h1 i h3 (by omega)) h2, fun h => ⟨⟨by omega, by omega⟩, ⟨by omega, by omega⟩, ih (by omega) _ (fun i h3 h4 => ?_) (fun q i hq => ?_)⟩⟩
    · by_cases hik : i = k
      · rw [up_eq rfl hik]
      · rw [up_ne (by omega)]
        exact h1 i h3 (by omega)
    · rw [up_ne (by omega)]
      exact h2 q i hq
  exact sg_Ar_fill_83_0 (key 0 (by omega) g (fun i h1 h2 => by omega) (fun q i _ => rfl))
set_option maxRecDepth 100000 in
theorem sg_Ar_fill_100_0 {n l : Nat} {g : jv_S} {Q : jv_V → jv_L → jv_S → Prop} {v1 : Int} (h :
   jv_At jv_T jv_ml kAr_fill 5 [jv_P 100, jv_I v1, jv_I (0 : Int), jv_I (10 : Int)] [] (LL n l) g Q) :
  jv_At jv_T jv_ml kAr_fill 0 [jv_P 100, jv_I v1, jv_U, jv_U] [] (LL n l) g Q :=
  jv_of_wp jg_nil (md := []) (stop := [5]) (tab := jt_Ar_fill) rfl 400 _ _ _ _ _ h
set_option maxRecDepth 100000 in
theorem sg_Ar_fill_100_5 {n l : Nat} {g : jv_S} {Q : jv_V → jv_L → jv_S → Prop} {v1 v2 v3 : Int} (h :
   (v3 ≤ v2 →
     Q jv_U (LL n l) g) ∧
    (¬ v3 ≤ v2 →
     (0 ≤ v2 ∧ v2 < 10) ∧ 
      jv_r32 (v2 + (1 : Int)) ∧
      jv_At jv_T jv_ml kAr_fill 5 [jv_P 100, jv_I v1, jv_I (v2 + (1 : Int)), jv_I v3] [] (LL n l) (jv_up g 100 v2 v1) Q)) :
  jv_At jv_T jv_ml kAr_fill 5 [jv_P 100, jv_I v1, jv_I v2, jv_I v3] [] (LL n l) g Q :=
  jv_of_wp jg_nil (md := []) (stop := [5]) (tab := jt_Ar_fill) rfl 400 _ _ _ _ _ h
theorem tr_Ar_fill_100 {n l : Nat} {g : jv_S} {Q : jv_V → jv_L → jv_S → Prop} {v : Int} (hQ : ∀ g' : jv_S, (∀ i : Int, 0 ≤ i → i < 10 → g' 100 i = v) → (∀ q i, ¬ (q = 100 ∧ 0 ≤ i ∧ i < 10) → g' q i = g q i) → Q jv_U (LL n l) g') : jv_Ca jv_T jv_ml kAr_fill [jv_P 100, jv_I v] (LL n l) g Q := by
  have key : ∀ k : Nat, k ≤ 10 → ∀ g' : jv_S, (∀ i : Int, 0 ≤ i → i < k → g' 100 i = v) → (∀ q i, ¬ (q = 100 ∧ 0 ≤ i ∧ i < 10) → g' q i = g q i) → jv_At jv_T jv_ml kAr_fill 5 [jv_P 100, jv_I v, jv_I (k : Int), jv_I (10 : Int)] [] (LL n l) g' Q := by
    apply loop_up
    intro k hk ih g' h1 h2
    apply sg_Ar_fill_100_5
    refine ⟨fun h => hQ g' (fun i h3 h4 => h1 i h3 (by omega)) h2, fun h => ⟨⟨by omega, by omega⟩, ⟨by omega, by omega⟩, ih (by omega) _ (fun i h3 h4 => ?_) (fun q i hq => ?_)⟩⟩
    · by_cases hik : i = k
      · rw [up_eq rfl hik]
      · rw [up_ne (by omega)]
        exact h1 i h3 (by omega)
    · rw [up_ne (by omega)]
      exact h2 q i hq
  exact sg_Ar_fill_100_0 (key 0 (by omega) g (fun i h1 h2 => by omega) (fun q i _ => rfl))
