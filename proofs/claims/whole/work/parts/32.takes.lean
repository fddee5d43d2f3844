/-! ===== sets as bits; the abstract state; takes ===== -/
def mk (p : Nat → Bool) : Nat → Nat
  | 0 => 0
  | m + 1 => mk p m ||| (if p m then 2 ^ m else 0)
theorem mk_bit (p : Nat → Bool) (m i : Nat) : (mk p m).testBit i = (decide (i < m) && p i) := by
  induction m with
  | zero => simp [mk]
  | succ m ih =>
    unfold mk
    rw [Nat.testBit_or, ih]
    by_cases hp : p m = true
    · rw [if_pos hp, Nat.testBit_two_pow]
      by_cases h1 : m = i
      · subst h1
        simp [hp]
      · by_cases h2 : i < m
        · simp [h1, h2, show i < m + 1 by omega]
        · simp [h1, h2, show ¬ i < m + 1 by omega]
    · rw [if_neg hp]
      by_cases h1 : m = i
      · subst h1
        simp [hp]
      · by_cases h2 : i < m
        · simp [h2, show i < m + 1 by omega]
        · simp [h2, show ¬ i < m + 1 by omega]
theorem mk_lt (p : Nat → Bool) (m : Nat) : mk p m < 2 ^ m := by
  induction m with
  | zero => simp [mk]
  | succ m ih =>
    unfold mk
    have h1 : mk p m < 2 ^ (m + 1) := Nat.lt_of_lt_of_le ih (Nat.pow_le_pow_right (by decide) (by omega))
    refine Nat.or_lt_two_pow h1 ?_
    by_cases hp : p m = true
    · rw [if_pos hp]
      exact Nat.pow_lt_pow_right (by decide) (by omega)
    · rw [if_neg hp]
      exact Nat.two_pow_pos _
theorem pw10 {m : Nat} (h : m ≤ 10) : 2 ^ m ≤ 1024 := Nat.pow_le_pow_right (n := 2) (by decide) h
theorem mk_lt10 (p : Nat → Bool) {m : Nat} (h : m ≤ 10) : mk p m < 1024 := Nat.lt_of_lt_of_le (mk_lt p m) (pw10 h)
theorem mk_zero {p : Nat → Bool} {m : Nat} : mk p m = 0 ↔ ∀ i, i < m → p i = false := by
  constructor
  · intro h i hi
    have := mk_bit p m i
    rw [h] at this
    simpa [hi] using this.symm
  · intro h
    apply Nat.eq_of_testBit_eq
    intro i
    rw [mk_bit]
    by_cases hi : i < m
    · simp [h i hi]
    · simp [hi]
theorem mk_ext {p q : Nat → Bool} {m : Nat} (h : ∀ i, i < m → p i = q i) : mk p m = mk q m := by
  apply Nat.eq_of_testBit_eq
  intro i
  rw [mk_bit, mk_bit]
  by_cases hi : i < m
  · simp [h i hi]
  · simp [hi]
/-- a set below 2^m is what its bits make -/
theorem mk_self {s m : Nat} (h : s < 2 ^ m) : mk (fun i => s.testBit i) m = s := by
  apply Nat.eq_of_testBit_eq
  intro i
  rw [mk_bit]
  by_cases hi : i < m
  · simp [hi]
  · have : s.testBit i = false := Nat.testBit_lt_two_pow (Nat.lt_of_lt_of_le h (Nat.pow_le_pow_right (by decide) (by omega)))
    simp [hi, this]
theorem loop_up {P : Nat → Prop} {m : Nat} (h : ∀ d, d ≤ m → (d < m → P (d + 1)) → P d) : ∀ d, d ≤ m → P d := by
  have : ∀ k d, d + k = m → P d := by
    intro k
    induction k with
    | zero => intro d hd; exact h d (by omega) (fun h => by omega)
    | succ k ih => intro d hd; exact h d (by omega) (fun h => ih (d + 1) (by omega))
  intro d hd
  exact this (m - d) d (by omega)
/-- nodes 0 0, lanes 0 1, rule 0 2; from 1, to 2, room 3, barred 4; far -/
abbrev jA : Type := (Nat → Nat → Nat) × (Nat → Nat → Int)
def nd (A : jA) : Nat := A.1 0 0
def ln (A : jA) : Nat := A.1 0 1
def ru (A : jA) : Nat := A.1 0 2
def fr (A : jA) (c : Nat) : Nat := A.1 1 c
def tt (A : jA) (c : Nat) : Nat := A.1 2 c
def rm (A : jA) (c : Nat) : Nat := A.1 3 c
def ba (A : jA) (c : Nat) : Nat := A.1 4 c
def fa (A : jA) (x y : Nat) : Int := A.2 x y
def wf (A : jA) : Prop := nd A ≤ 6 ∧ ln A ≤ 10 ∧ ru A ≤ 2 ∧ (∀ c, c < ln A → fr A c < nd A ∧ tt A c < nd A ∧ fr A c ≠ tt A c ∧ 1 ≤ rm A c ∧ rm A c ≤ 2 ∧ ba A c < 1024) ∧ ∀ x y, x < nd A → y < nd A → -9 ≤ fa A x y ∧ fa A x y ≤ 5
/-- the model's store holds A -/
def MN (A : jA) (g : jv_S) : Prop := wf A ∧ g 136 5 = nd A ∧ g 136 6 = ln A ∧ g 136 12 = ru A ∧ (∀ c : Nat, c < ln A → g 140 c = fr A c ∧ g 141 c = tt A c ∧ g 142 c = rm A c ∧ g 143 c = ba A c) ∧ ∀ x y : Nat, x < nd A → y < nd A → g 144 (6 * (x : Int) + y) = fa A x y
def tx (A : jA) (p : Nat) : Nat := if p < 10 then tt A p else p - 10
/-- may be taken, but for the rule of the first -/
def tb (A : jA) (p y d : Nat) : Bool := decide (tx A p ≠ y) && decide (fr A d = tx A p) && !(decide (p < 10) && (ba A p).testBit d) && decide (fa A (tt A d) y ≠ -9) && (decide (2 ≤ ru A) || decide (fa A (tt A d) y + 1 = fa A (tx A p) y))
def tq (A : jA) (p y d : Nat) : Bool := tb A p y d && (decide (ru A ≠ 1) || decide (mk (tb A p y) d = 0))
/-- what takes answers -/
def tk (A : jA) (p y : Nat) : Nat := mk (tq A p y) (ln A)
def tkI (A : jA) (p y : Int) : Int := (tk A p.toNat y.toNat : Int)
theorem tkI_c {A : jA} {c y : Nat} : tkI A (c : Int) (y : Int) = (tk A c y : Int) := rfl
theorem tkI_x {A : jA} {x y : Nat} : tkI A (10 + (x : Int)) (y : Int) = (tk A (10 + x) y : Int) := rfl
theorem tk_lt {A : jA} (h : wf A) (p y : Nat) : tk A p y < 1024 := mk_lt10 _ h.2.1
theorem tk_ltl {A : jA} (p y : Nat) : tk A p y < 2 ^ ln A := mk_lt _ _
theorem mk_or {p : Nat → Bool} {d : Nat} (hd : d ≤ 30) : ∀ {s : Int}, s = (mk p d : Int) → p d = true → jv_or s (jv_shl 1 (d : Int)) = (mk p (d + 1) : Int) := by
  intro s hs hp
  have h1 : mk p d < 2147483648 := Nat.lt_of_lt_of_le (mk_lt p d) (Nat.le_trans (Nat.pow_le_pow_right (n := 2) (by decide) hd) (by decide))
  have h2 : 2 ^ d < 2147483648 := Nat.lt_of_le_of_lt (Nat.pow_le_pow_right (n := 2) (by decide) hd) (by decide)
  rw [hs, jb_shl1 (by omega), jb_or h1 h2]
  unfold mk
  rw [if_pos hp]
  cases d <;> rfl
theorem mk_no {p : Nat → Bool} {d : Nat} {s : Int} (hs : s = (mk p d : Int)) (hp : p d = false) : s = (mk p (d + 1) : Int) := by
  rw [hs]
  conv => rhs; unfold mk
  rw [hp]
  simp
/-- with the rule of the first: something is taken before d just where something may be -/
theorem tq_first {A : jA} {p y : Nat} (h1 : ru A = 1) (d : Nat) : mk (tq A p y) d = 0 ↔ mk (tb A p y) d = 0 := by
  rw [mk_zero, mk_zero]
  constructor
  · intro h
    have : ∀ m, m ≤ d → ∀ i, i < m → tb A p y i = false := by
      intro m
      induction m with
      | zero => intro _ i hi; omega
      | succ m ih =>
        intro hm i hi
        have ih' := ih (by omega)
        by_cases h2 : i < m
        · exact ih' i h2
        · have h3 : i = m := by omega
          subst h3
          have h4 := h i (by omega)
          unfold tq at h4
          have h5 := mk_zero.mpr ih'
          cases h6 : tb A p y i
          · rfl
          · rw [h6, h5] at h4
            simp at h4
    exact this d (Nat.le_refl _)
  · intro h i hi
    unfold tq
    rw [h i hi]
    rfl
set_option maxRecDepth 100000 in
theorem sg_Y_takes_0 {n l : Nat} {g : jv_S} {Q : jv_V → jv_L → jv_S → Prop} {v1 v2 : Int} (h :
   ((10 : Int) ≤ v1 →
     jv_r32 (v1 - (10 : Int)) ∧
      ((v1 - (10 : Int)) = v2 →
       Q (jv_I (0 : Int)) (LL n l) g) ∧
      (¬ (v1 - (10 : Int)) = v2 →
       jv_At jv_T jv_ml kY_takes 33 [jv_P 136, jv_I v1, jv_I v2, jv_I (v1 - (10 : Int)), jv_I (0 : Int), jv_I (0 : Int), jv_U] [] (LL n l) g Q)) ∧
    (¬ (10 : Int) ≤ v1 →
     (0 ≤ v1 ∧ v1 < 10) ∧
      ((g 141 v1) = v2 →
       Q (jv_I (0 : Int)) (LL n l) g) ∧
      (¬ (g 141 v1) = v2 →
       jv_At jv_T jv_ml kY_takes 33 [jv_P 136, jv_I v1, jv_I v2, jv_I (g 141 v1), jv_I (0 : Int), jv_I (0 : Int), jv_U] [] (LL n l) g Q))) :
  jv_At jv_T jv_ml kY_takes 0 [jv_P 136, jv_I v1, jv_I v2, jv_U, jv_U, jv_U, jv_U] [] (LL n l) g Q :=
  jv_of_wp gok3 (md := []) (stop := [33]) (tab := jt_Y_takes) rfl 400 _ _ _ _ _ h
set_option maxRecDepth 100000 in
theorem sg_Y_takes_33 {n l : Nat} {g : jv_S} {Q : jv_V → jv_L → jv_S → Prop} {v1 v2 v3 v4 v5 : Int} {v6 : jv_V} (h :
   ((g 136 6) ≤ v5 →
     Q (jv_I v4) (LL n l) g) ∧
    (¬ (g 136 6) ≤ v5 →
     (0 ≤ v5 ∧ v5 < 10) ∧
      ((g 140 v5) = v3 →
       ((10 : Int) ≤ v1 →
         (0 ≤ v5 ∧ v5 < 10) ∧
          jv_r32 ((6 : Int) * (g 141 v5)) ∧
          jv_r32 (((6 : Int) * (g 141 v5)) + v2) ∧
          (0 ≤ (((6 : Int) * (g 141 v5)) + v2) ∧ (((6 : Int) * (g 141 v5)) + v2) < 36) ∧
          ((g 144 (((6 : Int) * (g 141 v5)) + v2)) = (-9 : Int) →
           jv_r32 (v5 + (1 : Int)) ∧
            jv_At jv_T jv_ml kY_takes 33 [jv_P 136, jv_I v1, jv_I v2, jv_I v3, jv_I v4, jv_I (v5 + (1 : Int)), jv_I (g 144 (((6 : Int) * (g 141 v5)) + v2))] [] (LL n l) g Q) ∧
          (¬ (g 144 (((6 : Int) * (g 141 v5)) + v2)) = (-9 : Int) →
           ((2 : Int) ≤ (g 136 12) →
             ((g 136 12) = (1 : Int) →
               (v4 = 0 →
                 jv_r32 (v5 + (1 : Int)) ∧
                  jv_At jv_T jv_ml kY_takes 33 [jv_P 136, jv_I v1, jv_I v2, jv_I v3, jv_I (jv_or v4 (jv_shl (1 : Int) v5)), jv_I (v5 + (1 : Int)), jv_I (g 144 (((6 : Int) * (g 141 v5)) + v2))] [] (LL n l) g Q) ∧
                (¬ v4 = 0 →
                 jv_r32 (v5 + (1 : Int)) ∧
                  jv_At jv_T jv_ml kY_takes 33 [jv_P 136, jv_I v1, jv_I v2, jv_I v3, jv_I v4, jv_I (v5 + (1 : Int)), jv_I (g 144 (((6 : Int) * (g 141 v5)) + v2))] [] (LL n l) g Q)) ∧
              (¬ (g 136 12) = (1 : Int) →
               jv_r32 (v5 + (1 : Int)) ∧
                jv_At jv_T jv_ml kY_takes 33 [jv_P 136, jv_I v1, jv_I v2, jv_I v3, jv_I (jv_or v4 (jv_shl (1 : Int) v5)), jv_I (v5 + (1 : Int)), jv_I (g 144 (((6 : Int) * (g 141 v5)) + v2))] [] (LL n l) g Q)) ∧
            (¬ (2 : Int) ≤ (g 136 12) →
             jv_r32 ((g 144 (((6 : Int) * (g 141 v5)) + v2)) + (1 : Int)) ∧
              jv_r32 ((6 : Int) * v3) ∧
              jv_r32 (((6 : Int) * v3) + v2) ∧
              (0 ≤ (((6 : Int) * v3) + v2) ∧ (((6 : Int) * v3) + v2) < 36) ∧
              (((g 144 (((6 : Int) * (g 141 v5)) + v2)) + (1 : Int)) = (g 144 (((6 : Int) * v3) + v2)) →
               ((g 136 12) = (1 : Int) →
                 (v4 = 0 →
                   jv_r32 (v5 + (1 : Int)) ∧
                    jv_At jv_T jv_ml kY_takes 33 [jv_P 136, jv_I v1, jv_I v2, jv_I v3, jv_I (jv_or v4 (jv_shl (1 : Int) v5)), jv_I (v5 + (1 : Int)), jv_I (g 144 (((6 : Int) * (g 141 v5)) + v2))] [] (LL n l) g Q) ∧
                  (¬ v4 = 0 →
                   jv_r32 (v5 + (1 : Int)) ∧
                    jv_At jv_T jv_ml kY_takes 33 [jv_P 136, jv_I v1, jv_I v2, jv_I v3, jv_I v4, jv_I (v5 + (1 : Int)), jv_I (g 144 (((6 : Int) * (g 141 v5)) + v2))] [] (LL n l) g Q)) ∧
                (¬ (g 136 12) = (1 : Int) →
                 jv_r32 (v5 + (1 : Int)) ∧
                  jv_At jv_T jv_ml kY_takes 33 [jv_P 136, jv_I v1, jv_I v2, jv_I v3, jv_I (jv_or v4 (jv_shl (1 : Int) v5)), jv_I (v5 + (1 : Int)), jv_I (g 144 (((6 : Int) * (g 141 v5)) + v2))] [] (LL n l) g Q)) ∧
              (¬ ((g 144 (((6 : Int) * (g 141 v5)) + v2)) + (1 : Int)) = (g 144 (((6 : Int) * v3) + v2)) →
               jv_r32 (v5 + (1 : Int)) ∧
                jv_At jv_T jv_ml kY_takes 33 [jv_P 136, jv_I v1, jv_I v2, jv_I v3, jv_I v4, jv_I (v5 + (1 : Int)), jv_I (g 144 (((6 : Int) * (g 141 v5)) + v2))] [] (LL n l) g Q)))) ∧
        (¬ (10 : Int) ≤ v1 →
         (0 ≤ v1 ∧ v1 < 10) ∧
          ((0 ≤ (g 143 v1) ∧ (g 143 v1) < 2147483648 ∧ 0 ≤ v5 ∧ v5 < 31)) ∧
          ((hb (g 143 v1) v5) = 0 →
           (0 ≤ v5 ∧ v5 < 10) ∧
            jv_r32 ((6 : Int) * (g 141 v5)) ∧
            jv_r32 (((6 : Int) * (g 141 v5)) + v2) ∧
            (0 ≤ (((6 : Int) * (g 141 v5)) + v2) ∧ (((6 : Int) * (g 141 v5)) + v2) < 36) ∧
            ((g 144 (((6 : Int) * (g 141 v5)) + v2)) = (-9 : Int) →
             jv_r32 (v5 + (1 : Int)) ∧
              jv_At jv_T jv_ml kY_takes 33 [jv_P 136, jv_I v1, jv_I v2, jv_I v3, jv_I v4, jv_I (v5 + (1 : Int)), jv_I (g 144 (((6 : Int) * (g 141 v5)) + v2))] [] (LL n l) g Q) ∧
            (¬ (g 144 (((6 : Int) * (g 141 v5)) + v2)) = (-9 : Int) →
             ((2 : Int) ≤ (g 136 12) →
               ((g 136 12) = (1 : Int) →
                 (v4 = 0 →
                   jv_r32 (v5 + (1 : Int)) ∧
                    jv_At jv_T jv_ml kY_takes 33 [jv_P 136, jv_I v1, jv_I v2, jv_I v3, jv_I (jv_or v4 (jv_shl (1 : Int) v5)), jv_I (v5 + (1 : Int)), jv_I (g 144 (((6 : Int) * (g 141 v5)) + v2))] [] (LL n l) g Q) ∧
                  (¬ v4 = 0 →
                   jv_r32 (v5 + (1 : Int)) ∧
                    jv_At jv_T jv_ml kY_takes 33 [jv_P 136, jv_I v1, jv_I v2, jv_I v3, jv_I v4, jv_I (v5 + (1 : Int)), jv_I (g 144 (((6 : Int) * (g 141 v5)) + v2))] [] (LL n l) g Q)) ∧
                (¬ (g 136 12) = (1 : Int) →
                 jv_r32 (v5 + (1 : Int)) ∧
                  jv_At jv_T jv_ml kY_takes 33 [jv_P 136, jv_I v1, jv_I v2, jv_I v3, jv_I (jv_or v4 (jv_shl (1 : Int) v5)), jv_I (v5 + (1 : Int)), jv_I (g 144 (((6 : Int) * (g 141 v5)) + v2))] [] (LL n l) g Q)) ∧
              (¬ (2 : Int) ≤ (g 136 12) →
               jv_r32 ((g 144 (((6 : Int) * (g 141 v5)) + v2)) + (1 : Int)) ∧
                jv_r32 ((6 : Int) * v3) ∧
                jv_r32 (((6 : Int) * v3) + v2) ∧
                (0 ≤ (((6 : Int) * v3) + v2) ∧ (((6 : Int) * v3) + v2) < 36) ∧
                (((g 144 (((6 : Int) * (g 141 v5)) + v2)) + (1 : Int)) = (g 144 (((6 : Int) * v3) + v2)) →
                 ((g 136 12) = (1 : Int) →
                   (v4 = 0 →
                     jv_r32 (v5 + (1 : Int)) ∧
                      jv_At jv_T jv_ml kY_takes 33 [jv_P 136, jv_I v1, jv_I v2, jv_I v3, jv_I (jv_or v4 (jv_shl (1 : Int) v5)), jv_I (v5 + (1 : Int)), jv_I (g 144 (((6 : Int) * (g 141 v5)) + v2))] [] (LL n l) g Q) ∧
                    (¬ v4 = 0 →
                     jv_r32 (v5 + (1 : Int)) ∧
                      jv_At jv_T jv_ml kY_takes 33 [jv_P 136, jv_I v1, jv_I v2, jv_I v3, jv_I v4, jv_I (v5 + (1 : Int)), jv_I (g 144 (((6 : Int) * (g 141 v5)) + v2))] [] (LL n l) g Q)) ∧
                  (¬ (g 136 12) = (1 : Int) →
                   jv_r32 (v5 + (1 : Int)) ∧
                    jv_At jv_T jv_ml kY_takes 33 [jv_P 136, jv_I v1, jv_I v2, jv_I v3, jv_I (jv_or v4 (jv_shl (1 : Int) v5)), jv_I (v5 + (1 : Int)), jv_I (g 144 (((6 : Int) * (g 141 v5)) + v2))] [] (LL n l) g Q)) ∧
                (¬ ((g 144 (((6 : Int) * (g 141 v5)) + v2)) + (1 : Int)) = (g 144 (((6 : Int) * v3) + v2)) →
                 jv_r32 (v5 + (1 : Int)) ∧
                  jv_At jv_T jv_ml kY_takes 33 [jv_P 136, jv_I v1, jv_I v2, jv_I v3, jv_I v4, jv_I (v5 + (1 : Int)), jv_I (g 144 (((6 : Int) * (g 141 v5)) + v2))] [] (LL n l) g Q)))) ∧
          (¬ (hb (g 143 v1) v5) = 0 →
           jv_r32 (v5 + (1 : Int)) ∧
            jv_At jv_T jv_ml kY_takes 33 [jv_P 136, jv_I v1, jv_I v2, jv_I v3, jv_I v4, jv_I (v5 + (1 : Int)), v6] [] (LL n l) g Q))) ∧
      (¬ (g 140 v5) = v3 →
       jv_r32 (v5 + (1 : Int)) ∧
        jv_At jv_T jv_ml kY_takes 33 [jv_P 136, jv_I v1, jv_I v2, jv_I v3, jv_I v4, jv_I (v5 + (1 : Int)), v6] [] (LL n l) g Q))) :
  jv_At jv_T jv_ml kY_takes 33 [jv_P 136, jv_I v1, jv_I v2, jv_I v3, jv_I v4, jv_I v5, v6] [] (LL n l) g Q :=
  jv_of_wp gok3 (md := []) (stop := [33]) (tab := jt_Y_takes) rfl 400 _ _ _ _ _ h
theorem lp_Y_takes {A : jA} {n l : Nat} {g : jv_S} {Q : jv_V → jv_L → jv_S → Prop} (hM : MN A g) {p x y : Nat} (hy : y < nd A) (hp : p < ln A ∨ (10 ≤ p ∧ p < 10 + nd A)) (hx : x = tx A p) (hxy : x ≠ y) (hQ : Q (jv_I (tk A p y)) (LL n l) g) :
  ∀ d, d ≤ ln A → ∀ (s : Int) (v : jv_V), s = (mk (tq A p y) d : Int) → jv_At jv_T jv_ml kY_takes 33 [jv_P 136, jv_I p, jv_I y, jv_I x, jv_I s, jv_I d, v] [] (LL n l) g Q := by
  obtain ⟨⟨w1, w2, w3, w4, w5⟩, m1, m2, m3, m4, m5⟩ := hM
  have hx6 : x < nd A := by
    rw [hx]
    unfold tx
    by_cases h : p < 10
    · rw [if_pos h]
      exact (w4 p (by omega)).2.1
    · rw [if_neg h]
      omega
  apply loop_up
  intro d hd ih s v hs
  apply sg_Y_takes_33
  rw [m2]
  refine ⟨fun h => ?_, fun h => ?_⟩
  · have : d = ln A := by omega
    subst this
    rw [hs]
    exact hQ
  · have hdl : d < ln A := by omega
    obtain ⟨f1, f2, f3, f4, f5, f6⟩ := w4 d hdl
    obtain ⟨e1, e2, e3, e4⟩ := m4 d hdl
    rw [e1, e2, m3, m5 _ _ f2 hy, m5 _ _ hx6 hy]
    have r1 := w5 _ _ f2 hy
    have hs0 : s = 0 ↔ mk (tq A p y) d = 0 := by rw [hs]; omega
    have e5 : ¬ (10 : Int) ≤ p → g 143 p = ba A p ∧ (ba A p : Int) < 1024 := fun h => ⟨(m4 p (by omega)).2.2.2, by have := (w4 p (by omega)).2.2.2.2.2; omega⟩
    have eT : ∀ v' : jv_V, fr A d = x ∧ (10 ≤ p ∨ hb (g 143 p) d = 0) ∧ ¬ fa A (tt A d) y = -9 ∧ (2 ≤ ru A ∨ fa A (tt A d) y + 1 = fa A x y) ∧ (ru A = 1 → s = 0) → jv_At jv_T jv_ml kY_takes 33 [jv_P 136, jv_I p, jv_I y, jv_I x, jv_I (jv_or s (jv_shl 1 (d : Int))), jv_I ((d : Int) + 1), v'] [] (LL n l) g Q := by
      intro v' ⟨a1, a2, a3, a4, a5⟩
      refine ih hdl _ v' (mk_or (by omega) hs ?_)
      have hbr : (decide (p < 10) && (ba A p).testBit d) = false := by
        rcases a2 with a2 | a2
        · simp [show ¬ p < 10 by omega]
        · by_cases h10 : p < 10
          · rw [(e5 (by omega)).1, hb_nat, jb0] at a2
            simp [a2]
          · simp [h10]
      have htb : tb A p y d = true := by
        unfold tb
        rw [← hx]
        rcases a4 with a4 | a4 <;> simp [hxy, a1, hbr, a3, a4]
      unfold tq
      rw [htb]
      by_cases h2 : ru A = 1
      · have h3 := (tq_first h2 d).mp (hs0.mp (a5 h2))
        simp [h3]
      · simp [h2]
    have eF : ∀ v' : jv_V, ¬ fr A d = x ∨ (p < 10 ∧ ¬ hb (g 143 p) d = 0) ∨ fa A (tt A d) y = -9 ∨ (ru A < 2 ∧ ¬ fa A (tt A d) y + 1 = fa A x y) ∨ (ru A = 1 ∧ ¬ s = 0) → jv_At jv_T jv_ml kY_takes 33 [jv_P 136, jv_I p, jv_I y, jv_I x, jv_I s, jv_I ((d : Int) + 1), v'] [] (LL n l) g Q := by
      intro v' hF
      refine ih hdl _ v' (mk_no hs ?_)
      unfold tq
      rcases hF with a1 | ⟨a1, a2⟩ | a1 | ⟨a1, a2⟩ | ⟨a1, a2⟩
      · have : tb A p y d = false := by unfold tb; rw [← hx]; simp [a1]
        rw [this]; rfl
      · rw [(e5 (by omega)).1, hb_nat, jbn] at a2
        have : tb A p y d = false := by unfold tb; simp [a1, a2]
        rw [this]; rfl
      · have : tb A p y d = false := by unfold tb; simp [a1]
        rw [this]; rfl
      · have : tb A p y d = false := by unfold tb; rw [← hx]; simp [show ¬ 2 ≤ ru A by omega, a2]
        rw [this]; rfl
      · have h3 : ¬ mk (tb A p y) d = 0 := fun h => a2 (hs0.mpr ((tq_first a1 d).mpr h))
        simp [a1, h3]
    repeat' first | apply And.intro | intro _
    all_goals first | omega | exact eT _ (by omega) | exact eF _ (by omega)
def pr_Y_takes (A : jA) : List jv_V → jv_L → jv_S → Prop := fun as L g => match as with
  | [.inr (.inr (.inl q0)), .inl p, .inl y] => (q0 = 136) ∧ (LLx L) ∧ (MN A g ∧ (0 ≤ y ∧ y < nd A) ∧ 0 ≤ p ∧ (p < ln A ∨ (10 ≤ p ∧ p < 10 + nd A)))
  | _ => False
def re_Y_takes (A : jA) : List jv_V → jv_S → jv_V := fun as g => match as with
  | [.inr (.inr (.inl q0)), .inl p, .inl y] => jv_I (tkI A p y)
  | _ => jv_U
theorem pu_Y_takes {A : jA} : jp_S kY_takes (pr_Y_takes A) (re_Y_takes A) := by
  intro as L g h
  unfold pr_Y_takes at h
  split at h
  · rename_i q0 p y
    obtain ⟨rfl, ⟨n, l, rfl⟩, h⟩ := h
    apply jp_of
    obtain ⟨hM, ⟨hy0, hy⟩, hp0, hp⟩ := h
    obtain ⟨p, rfl⟩ := Int.eq_ofNat_of_zero_le hp0
    obtain ⟨y, rfl⟩ := Int.eq_ofNat_of_zero_le hy0
    have hM' := hM
    obtain ⟨⟨w1, w2, w3, w4, w5⟩, m1, m2, m3, m4, m5⟩ := hM
    have e5 : ¬ (10 : Int) ≤ p → g 141 p = tt A p ∧ (tt A p : Int) = (tx A p : Int) ∧ p < 10 := fun h => ⟨(m4 p (by omega)).2.1, by unfold tx; rw [if_pos (by omega)], by omega⟩
    have e6 : (10 : Int) ≤ p → (p : Int) - 10 = (tx A p : Int) := fun h => by unfold tx; rw [if_neg (by omega)]; omega
    have z : tx A p = y → tk A p y = 0 := by
      intro h
      unfold tk
      rw [mk_zero]
      intro i _
      unfold tq tb
      simp [h]
    apply sg_Y_takes_0
    refine ⟨fun h => ⟨⟨by omega, by omega⟩, ?_⟩, fun h => ⟨⟨by omega, by omega⟩, ?_⟩⟩
    · rw [e6 h]
      refine ⟨fun h1 => ⟨?_, rfl, rfl⟩, fun h1 => ?_⟩
      · show jv_I 0 = jv_I (tkI A p y)
        rw [tkI_c, z (by omega)]
        rfl
      · exact lp_Y_takes hM' (by omega) (by omega) rfl (by omega) ⟨rfl, rfl, rfl⟩ 0 (by omega) 0 _ rfl
    · rw [(e5 h).1, (e5 h).2.1]
      refine ⟨fun h1 => ⟨?_, rfl, rfl⟩, fun h1 => ?_⟩
      · show jv_I 0 = jv_I (tkI A p y)
        rw [tkI_c, z (by omega)]
        rfl
      · exact lp_Y_takes hM' (by omega) (by omega) rfl (by omega) ⟨rfl, rfl, rfl⟩ 0 (by omega) 0 _ rfl
  · exact h.elim
def jG4 (A : jA) : jv_G := (kY_takes, pr_Y_takes A, re_Y_takes A) :: jG3
theorem gok4 {A : jA} : jv_GOk jv_T jv_ml (jG4 A) := jp_cons pu_Y_takes gok3
