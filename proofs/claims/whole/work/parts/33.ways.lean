/-! ===== the class's net and ways ===== -/
def ld (A : jA) (x y d : Nat) : Bool := decide (fr A d = x) && decide (x ≠ y) && decide (fa A (tt A d) y ≠ -9)
def nr (A : jA) (x y d : Nat) : Bool := ld A x y d && decide (fa A (tt A d) y = fa A x y - 1)
def rb (A : jA) (x y w d : Nat) : Bool := (if ru A = 2 then ld A x y d else nr A x y d) && !w.testBit d
def rq (A : jA) (x y w d : Nat) : Bool := rb A x y w d && (decide (ru A ≠ 1) || decide (mk (rb A x y w) d = 0))
def rl (A : jA) (x y w : Nat) : Nat := mk (rq A x y w) (ln A)
def rlI (A : jA) (x y w : Int) : Int := (rl A x.toNat y.toNat w.toNat : Int)
theorem rlI_n {A : jA} {x y w : Nat} : rlI A (x : Int) (y : Int) (w : Int) = (rl A x y w : Int) := rfl
theorem tb_rb {A : jA} (h : ru A ≤ 2) (p y d : Nat) : tb A p y d = rb A (tx A p) y (if p < 10 then ba A p else 0) d := by
  have e1 : (decide (2 ≤ ru A) || decide (fa A (tt A d) y + 1 = fa A (tx A p) y)) = (if ru A = 2 then true else decide (fa A (tt A d) y = fa A (tx A p) y - 1)) := by
    by_cases h2 : ru A = 2
    · simp [h2]
    · have h3 : ¬ 2 ≤ ru A := by omega
      simp only [h2, h3, decide_false, Bool.false_or, if_false]
      by_cases h4 : fa A (tt A d) y + 1 = fa A (tx A p) y
      · simp [h4, show fa A (tt A d) y = fa A (tx A p) y - 1 by omega]
      · simp [h4, show ¬ fa A (tt A d) y = fa A (tx A p) y - 1 by omega]
  have e2 : (decide (p < 10) && (ba A p).testBit d) = (if p < 10 then ba A p else 0).testBit d := by
    by_cases h2 : p < 10
    · simp [h2]
    · simp [h2]
  unfold tb rb nr ld
  rw [e1, e2]
  by_cases h2 : ru A = 2
  · rw [if_pos h2, if_pos h2]
    cases decide (tx A p ≠ y) <;> cases decide (fr A d = tx A p) <;> cases decide (fa A (tt A d) y ≠ -9) <;> cases (if p < 10 then ba A p else 0).testBit d <;> rfl
  · rw [if_neg h2, if_neg h2]
    cases decide (tx A p ≠ y) <;> cases decide (fr A d = tx A p) <;> cases decide (fa A (tt A d) y ≠ -9) <;> cases (if p < 10 then ba A p else 0).testBit d <;> cases decide (fa A (tt A d) y = fa A (tx A p) y - 1) <;> rfl
theorem tk_rl {A : jA} (h : ru A ≤ 2) (p y : Nat) : tk A p y = rl A (tx A p) y (if p < 10 then ba A p else 0) := by
  have e : tb A p y = rb A (tx A p) y (if p < 10 then ba A p else 0) := funext (tb_rb h p y)
  unfold tk rl
  apply mk_ext
  intro i _
  unfold tq rq
  rw [e]
/-- the class's net holds A -/
def CN (A : jA) (g : jv_S) : Prop := wf A ∧ g 14 0 = nd A ∧ g 14 1 = ln A ∧ (∀ c : Nat, c < ln A → g 15 c = fr A c ∧ g 16 c = tt A c ∧ g 17 c = rm A c) ∧ (∀ x y : Nat, x < nd A → y < nd A → g 18 ((x : Int) * 6 + y) = fa A x y ∧ g 25 ((x : Int) * 6 + y) = mk (nr A x y) (ln A) ∧ g 32 ((x : Int) * 6 + y) = mk (ld A x y) (ln A)) ∧ ∀ y : Nat, y < nd A → g 39 y = mk (fun d => decide (tt A d = y)) (ln A)
def low (s : Nat) : Nat := mk (fun d => s.testBit d && decide (mk (fun i => s.testBit i) d = 0)) 10
theorem low_eq {s : Nat} (h : s < 1024) : jv_and (s : Int) (- (s : Int)) = (low s : Int) := by
  have : ∀ s : Fin 1024, jv_and ((s.val : Nat) : Int) (- ((s.val : Nat) : Int)) = ((low s.val : Nat) : Int) := by decide +kernel
  exact this ⟨s, h⟩
theorem low_mk (p : Nat → Bool) {m : Nat} (hm : m ≤ 10) : low (mk p m) = mk (fun d => p d && decide (mk p d = 0)) m := by
  apply Nat.eq_of_testBit_eq
  intro i
  unfold low
  rw [mk_bit, mk_bit, mk_bit]
  by_cases hi : i < m
  · have e : mk (fun j => (mk p m).testBit j) i = mk p i := by
      apply mk_ext
      intro j hj
      rw [mk_bit]
      simp [show j < m by omega]
    rw [e]
    simp [hi, show i < 10 by omega]
  · simp [hi]
theorem bd_mk {p : Nat → Bool} {m w : Nat} : bd (mk p m) w = mk (fun d => p d && !w.testBit d) m := by
  apply Nat.eq_of_testBit_eq
  intro i
  rw [bd_bit, mk_bit, mk_bit]
  cases decide (i < m) <;> simp
theorem rl_2 {A : jA} (h : ru A = 2) (x y w : Nat) : rl A x y w = bd (mk (ld A x y) (ln A)) w := by
  rw [bd_mk]
  unfold rl
  apply mk_ext
  intro i _
  unfold rq rb
  rw [if_pos h]
  simp [h]
theorem rl_0 {A : jA} (h : ru A = 0) (x y w : Nat) : rl A x y w = bd (mk (nr A x y) (ln A)) w := by
  rw [bd_mk]
  unfold rl
  apply mk_ext
  intro i _
  unfold rq rb
  rw [if_neg (by omega)]
  simp [h]
theorem rl_1 {A : jA} (h : ru A = 1) (hl : ln A ≤ 10) (x y w : Nat) : rl A x y w = low (bd (mk (nr A x y) (ln A)) w) := by
  rw [bd_mk, low_mk _ hl]
  have e : rb A x y w = fun d => nr A x y d && !w.testBit d := by
    funext d
    unfold rb
    rw [if_neg (by omega)]
  unfold rl
  apply mk_ext
  intro i _
  unfold rq
  rw [e]
  simp [h]
set_option maxRecDepth 100000 in
theorem sg_Wy_ruled_0 {n l : Nat} {g : jv_S} {Q : jv_V → jv_L → jv_S → Prop} {v1 v2 v3 : Int} (h :
   ((g 40 4) = (2 : Int) →
     (0 ≤ v1 ∧ v1 < 6) ∧
      (0 ≤ v2 ∧ v2 < 6) ∧
      ((g 40 4) = (1 : Int) →
       jv_r32 (- (jv_and (g 32 (v1 * 6 + v2)) (jv_xor v3 (-1 : Int)))) ∧
        Q (jv_I (jv_and (jv_and (g 32 (v1 * 6 + v2)) (jv_xor v3 (-1 : Int))) (- (jv_and (g 32 (v1 * 6 + v2)) (jv_xor v3 (-1 : Int)))))) (LL n l) g) ∧
      (¬ (g 40 4) = (1 : Int) →
       Q (jv_I (jv_and (g 32 (v1 * 6 + v2)) (jv_xor v3 (-1 : Int)))) (LL n l) g)) ∧
    (¬ (g 40 4) = (2 : Int) →
     (0 ≤ v1 ∧ v1 < 6) ∧
      (0 ≤ v2 ∧ v2 < 6) ∧
      ((g 40 4) = (1 : Int) →
       jv_r32 (- (jv_and (g 25 (v1 * 6 + v2)) (jv_xor v3 (-1 : Int)))) ∧
        Q (jv_I (jv_and (jv_and (g 25 (v1 * 6 + v2)) (jv_xor v3 (-1 : Int))) (- (jv_and (g 25 (v1 * 6 + v2)) (jv_xor v3 (-1 : Int)))))) (LL n l) g) ∧
      (¬ (g 40 4) = (1 : Int) →
       Q (jv_I (jv_and (g 25 (v1 * 6 + v2)) (jv_xor v3 (-1 : Int)))) (LL n l) g))) :
  jv_At jv_T jv_ml kWy_ruled 0 [jv_P 40, jv_I v1, jv_I v2, jv_I v3, jv_U] [] (LL n l) g Q :=
  jv_of_wp gok3 (md := []) (stop := []) (tab := jt_Wy_ruled) rfl 400 _ _ _ _ _ h
set_option maxRecDepth 100000 in
theorem sg_Wy_ruled2_0 {n l : Nat} {g : jv_S} {Q : jv_V → jv_L → jv_S → Prop} {v1 v2 v3 : Int} (h :
   ((g 104 4) = (2 : Int) →
     (0 ≤ v1 ∧ v1 < 6) ∧
      (0 ≤ v2 ∧ v2 < 6) ∧
      ((g 104 4) = (1 : Int) →
       jv_r32 (- (jv_and (g 32 (v1 * 6 + v2)) (jv_xor v3 (-1 : Int)))) ∧
        Q (jv_I (jv_and (jv_and (g 32 (v1 * 6 + v2)) (jv_xor v3 (-1 : Int))) (- (jv_and (g 32 (v1 * 6 + v2)) (jv_xor v3 (-1 : Int)))))) (LL n l) g) ∧
      (¬ (g 104 4) = (1 : Int) →
       Q (jv_I (jv_and (g 32 (v1 * 6 + v2)) (jv_xor v3 (-1 : Int)))) (LL n l) g)) ∧
    (¬ (g 104 4) = (2 : Int) →
     (0 ≤ v1 ∧ v1 < 6) ∧
      (0 ≤ v2 ∧ v2 < 6) ∧
      ((g 104 4) = (1 : Int) →
       jv_r32 (- (jv_and (g 25 (v1 * 6 + v2)) (jv_xor v3 (-1 : Int)))) ∧
        Q (jv_I (jv_and (jv_and (g 25 (v1 * 6 + v2)) (jv_xor v3 (-1 : Int))) (- (jv_and (g 25 (v1 * 6 + v2)) (jv_xor v3 (-1 : Int)))))) (LL n l) g) ∧
      (¬ (g 104 4) = (1 : Int) →
       Q (jv_I (jv_and (g 25 (v1 * 6 + v2)) (jv_xor v3 (-1 : Int)))) (LL n l) g))) :
  jv_At jv_T jv_ml kWy_ruled 0 [jv_P 104, jv_I v1, jv_I v2, jv_I v3, jv_U] [] (LL n l) g Q :=
  jv_of_wp gok3 (md := []) (stop := []) (tab := jt_Wy_ruled) rfl 400 _ _ _ _ _ h
def pr_Wy_ruled (A : jA) : List jv_V → jv_L → jv_S → Prop := fun as L g => match as with
  | [.inr (.inr (.inl q0)), .inl x, .inl y, .inl w] => (q0 = 40 ∨ q0 = 104) ∧ (LLx L) ∧ (CN A g ∧ g q0 4 = ru A ∧ (0 ≤ x ∧ x < nd A) ∧ (0 ≤ y ∧ y < nd A) ∧ 0 ≤ w ∧ w < 1024)
  | _ => False
def re_Wy_ruled (A : jA) : List jv_V → jv_S → jv_V := fun as g => match as with
  | [.inr (.inr (.inl q0)), .inl x, .inl y, .inl w] => jv_I (rlI A x y w)
  | _ => jv_U
theorem pu_Wy_ruled {A : jA} : jp_S kWy_ruled (pr_Wy_ruled A) (re_Wy_ruled A) := by
  intro as L g h
  unfold pr_Wy_ruled at h
  split at h
  · rename_i q0 x y w
    obtain ⟨hq0, ⟨n, l, rfl⟩, h⟩ := h
    apply jp_of
    obtain ⟨⟨hw, c1, c2, c3, c4, c5⟩, hr, ⟨hx0, hx⟩, ⟨hy0, hy⟩, hw0, hw1⟩ := h
    obtain ⟨x, rfl⟩ := Int.eq_ofNat_of_zero_le hx0
    obtain ⟨y, rfl⟩ := Int.eq_ofNat_of_zero_le hy0
    obtain ⟨w, rfl⟩ := Int.eq_ofNat_of_zero_le hw0
    obtain ⟨-, n1, n2⟩ := c4 x y (by omega) (by omega)
    have l1 := mk_lt10 (nr A x y) hw.2.1
    have l2 := mk_lt10 (ld A x y) hw.2.1
    have l3 := hw.1
    have l4 := hw.2.2.1
    have hbd : bd (mk (nr A x y) (ln A)) w < 1024 := by rw [bd_mk]; exact mk_lt10 _ hw.2.1
    rcases hq0 with rfl | rfl
    · apply sg_Wy_ruled_0
      rw [hr, n1, n2]
      refine ⟨fun h1 => ⟨⟨by omega, by omega⟩, ⟨by omega, by omega⟩, fun h2 => by omega, fun h2 => ⟨?_, rfl, rfl⟩⟩, fun h1 => ⟨⟨by omega, by omega⟩, ⟨by omega, by omega⟩, fun h2 => ?_, fun h2 => ⟨?_, rfl, rfl⟩⟩⟩
      · rw [jb_andn (by omega) (by omega), ← rl_2 (by omega)]
        rfl
      · rw [jb_andn (by omega) (by omega)]
        refine ⟨⟨by omega, by omega⟩, ?_, rfl, rfl⟩
        rw [low_eq hbd, ← rl_1 (by omega) hw.2.1]
        rfl
      · rw [jb_andn (by omega) (by omega), ← rl_0 (by omega)]
        rfl
    · apply sg_Wy_ruled2_0
      rw [hr, n1, n2]
      refine ⟨fun h1 => ⟨⟨by omega, by omega⟩, ⟨by omega, by omega⟩, fun h2 => by omega, fun h2 => ⟨?_, rfl, rfl⟩⟩, fun h1 => ⟨⟨by omega, by omega⟩, ⟨by omega, by omega⟩, fun h2 => ?_, fun h2 => ⟨?_, rfl, rfl⟩⟩⟩
      · rw [jb_andn (by omega) (by omega), ← rl_2 (by omega)]
        rfl
      · rw [jb_andn (by omega) (by omega)]
        refine ⟨⟨by omega, by omega⟩, ?_, rfl, rfl⟩
        rw [low_eq hbd, ← rl_1 (by omega) hw.2.1]
        rfl
      · rw [jb_andn (by omega) (by omega), ← rl_0 (by omega)]
        rfl
  · exact h.elim
def jG5 (A : jA) : jv_G := (kWy_ruled, pr_Wy_ruled A, re_Wy_ruled A) :: jG4 A
theorem gok5 {A : jA} : jv_GOk jv_T jv_ml (jG5 A) := jp_cons pu_Wy_ruled gok4
