/-! ===== frozen ===== -/
theorem low_bit {s d : Nat} (hd : d < 10) : (low s).testBit d = true ↔ s.testBit d = true ∧ ∀ i, i < d → s.testBit i = false := by
  unfold low
  rw [mk_bit, decide_eq_true hd, Bool.true_and, Bool.and_eq_true, decide_eq_true_iff, mk_zero]
/-- the lanes that hold the first one of c -/
def hS (A : jA) (B : jB) (c : Nat) : Nat := if B 1 (B 9 (2 * c)).toNat = 2 then low (tk A c (B 3 (B 9 (2 * c)).toNat).toNat) else tk A c (B 3 (B 9 (2 * c)).toNat).toNat
def hld (A : jA) (B : jB) (c T : Nat) : Prop := (tt A c : Int) ≠ B 3 (B 9 (2 * c)).toNat ∧ ∀ d, d < ln A → (hS A B c).testBit d = true → ¬ B 8 d < rm A d ∧ T.testBit (B 9 (2 * d)).toNat = true
def fN (A : jA) (B : jB) (i T : Nat) : Prop := ∃ c k : Nat, c < ln A ∧ (k : Int) < B 8 c ∧ B 9 (2 * c + k) = i ∧ (k = 0 → hld A B c T) ∧ (k ≠ 0 → T.testBit (B 9 (2 * c)).toNat = true)
theorem hld_mon {A : jA} {B : jB} {c S T : Nat} (h : sb S T) (h1 : hld A B c S) : hld A B c T := ⟨h1.1, fun d a b => ⟨(h1.2 d a b).1, h _ (h1.2 d a b).2⟩⟩
theorem fN_mon (A : jA) (B : jB) : mon (fN A B) := fun _ _ _ h ⟨c, k, h1, h2, h3, h4, h5⟩ => ⟨c, k, h1, h2, h3, fun h6 => hld_mon h (h4 h6), fun h6 => h _ (h5 h6)⟩
theorem fN_0 {A : jA} {B : jB} (hw : wf A) (hB : BW A B) {c i T : Nat} (hc : c < ln A) (hs : 1 ≤ B 8 c) (hi : B 9 (2 * c) = i) : fN A B i T ↔ hld A B c T := by
  constructor
  · rintro ⟨c', k, h1, h2, h3, h4, h5⟩
    have a := (hB.2.2.1 c' k h1 h2).2.2
    have b := (hB.2.2.1 c 0 hc (by omega)).2.2
    rw [Nat.add_zero, hi] at b
    rw [h3] at a
    have hcc : c' = c := by omega
    subst hcc
    by_cases hk : k = 0
    · exact h4 hk
    · exfalso
      have q1 := (hB.2.1 c' h1).2
      have q2 := (hw.2.2.2.1 c' h1).2.2.2.2.1
      have hk1 : k = 1 := by omega
      subst hk1
      exact hB.2.2.2.1 c' h1 (by omega) (by rw [hi, h3])
  · intro h
    exact ⟨c, 0, hc, by omega, hi, fun _ => h, fun h => absurd rfl h⟩
theorem fN_1 {A : jA} {B : jB} (hB : BW A B) {c i T : Nat} (hc : c < ln A) (hs : B 8 c = 2) (hi : B 9 (2 * c + 1) = i) : fN A B i T ↔ T.testBit (B 9 (2 * c)).toNat = true := by
  constructor
  · rintro ⟨c', k, h1, h2, h3, h4, h5⟩
    have a := (hB.2.2.1 c' k h1 h2).2.2
    have b := (hB.2.2.1 c 1 hc (by omega)).2.2
    rw [hi] at b
    rw [h3] at a
    have hcc : c' = c := by omega
    subst hcc
    by_cases hk : k = 0
    · exfalso
      subst hk
      exact hB.2.2.2.1 c' h1 hs (by rw [hi]; exact h3)
    · exact h5 hk
  · intro h
    exact ⟨c, 1, hc, by omega, hi, fun h => by omega, fun _ => h⟩
def fz0 (B : jB) : Nat := mk (fun i => decide (B 4 i ≠ -9)) (B 0 0).toNat
noncomputable def FZ (A : jA) (B : jB) : Nat := gf (fN A B) 30 (fz0 B)
theorem fz0_lt {A : jA} {B : jB} (hB : BW A B) : fz0 B < 2 ^ 30 := Nat.lt_of_lt_of_le (mk_lt _ _) (Nat.pow_le_pow_right (by decide) (by have := hB.1; omega))
/-- the loads of the lanes below c -/
def inl (B : jB) (m i : Nat) : Prop := ∃ c k : Nat, c < m ∧ (k : Int) < B 8 c ∧ B 9 (2 * c + k) = i
theorem fz0_bit {A : jA} {B : jB} (hB : BW A B) {i : Nat} : (fz0 B).testBit i = true ↔ inl B (ln A) i := by
  have h0 := hB.1
  unfold fz0
  rw [mk_bit, Bool.and_eq_true, decide_eq_true_iff, decide_eq_true_iff]
  constructor
  · rintro ⟨h1, h2⟩
    rcases (hB.2.2.2.2 i (by omega)).2.2.2.1 with h3 | ⟨c, k, a, b, _, d⟩
    · exact absurd h3 h2
    · exact ⟨c, k, a, b, d⟩
  · rintro ⟨c, k, a, b, d⟩
    obtain ⟨x1, x2, x3⟩ := hB.2.2.1 c k a b
    rw [d] at x2 x3
    rw [Int.toNat_natCast] at x3
    exact ⟨by omega, by omega⟩
set_option maxRecDepth 100000 in
theorem sg_Tr_isHeld_0 {A : jA} {n l : Nat} {g : jv_S} {Q : jv_V → jv_L → jv_S → Prop} {v1 v2 : Int} (h :
   (0 < v1 ∧ (LL n l)[(v1 - 1).toNat]? = some (11, 8, [])) ∧
    (0 ≤ (g 1000 (8 * v1 + 4)) ∧ (g 1000 (8 * v1 + 4)) < 10) ∧
    (0 < v1 ∧ (LL n l)[(v1 - 1).toNat]? = some (11, 8, [])) ∧
    ((g 16 (g 1000 (8 * v1 + 4))) = (g 1000 (8 * v1 + 3)) →
     ((0 : Int) = 0 ∨ (0 : Int) = 1) ∧ Q (jv_I (0 : Int)) (LL n l) g) ∧
    (¬ (g 16 (g 1000 (8 * v1 + 4))) = (g 1000 (8 * v1 + 3)) →
     (0 < v1 ∧ (LL n l)[(v1 - 1).toNat]? = some (11, 8, [])) ∧
      (0 ≤ (g 1000 (8 * v1 + 4)) ∧ (g 1000 (8 * v1 + 4)) < 10) ∧
      (0 < v1 ∧ (LL n l)[(v1 - 1).toNat]? = some (11, 8, [])) ∧
      (0 ≤ (g 1000 (8 * v1 + 3)) ∧ (g 1000 (8 * v1 + 3)) < 6) ∧
      (0 < v1 ∧ (LL n l)[(v1 - 1).toNat]? = some (11, 8, [])) ∧
      ((g 1000 (8 * v1 + 1)) = (2 : Int) →
       ((0 ≤ (g 49 ((g 1000 (8 * v1 + 4)) * 6 + (g 1000 (8 * v1 + 3)))) ∧ (g 49 ((g 1000 (8 * v1 + 4)) * 6 + (g 1000 (8 * v1 + 3)))) < 1024)) ∧
        jv_At jv_T jv_ml kTr_isHeld 55 [jv_P 87, jv_D v1, jv_I v2, jv_I (low (g 49 ((g 1000 (8 * v1 + 4)) * 6 + (g 1000 (8 * v1 + 3)))).toNat : Int), jv_I (0 : Int)] [] (LL n l) g Q) ∧
      (¬ (g 1000 (8 * v1 + 1)) = (2 : Int) →
       jv_At jv_T jv_ml kTr_isHeld 55 [jv_P 87, jv_D v1, jv_I v2, jv_I (g 49 ((g 1000 (8 * v1 + 4)) * 6 + (g 1000 (8 * v1 + 3)))), jv_I (0 : Int)] [] (LL n l) g Q))) :
  jv_At jv_T jv_ml kTr_isHeld 0 [jv_P 87, jv_D v1, jv_I v2, jv_U, jv_U] [] (LL n l) g Q :=
  jv_of_wp (gok9 (A := A)) (md := []) (stop := [55]) (tab := jt_Tr_isHeld) rfl 400 _ _ _ _ _ h
set_option maxRecDepth 100000 in
theorem sg_Tr_isHeld_55 {A : jA} {n l : Nat} {g : jv_S} {Q : jv_V → jv_L → jv_S → Prop} {v1 v2 v3 v4 : Int} (h :
   ((g 14 1) ≤ v4 →
     ((1 : Int) = 0 ∨ (1 : Int) = 1) ∧ Q (jv_I (1 : Int)) (LL n l) g) ∧
    (¬ (g 14 1) ≤ v4 →
     ((0 ≤ v3 ∧ v3 < 2147483648 ∧ 0 ≤ v4 ∧ v4 < 31)) ∧
      ((hb v3 v4) = 0 →
       jv_r32 (v4 + (1 : Int)) ∧
        jv_At jv_T jv_ml kTr_isHeld 55 [jv_P 87, jv_D v1, jv_I v2, jv_I v3, jv_I (v4 + (1 : Int))] [] (LL n l) g Q) ∧
      (¬ (hb v3 v4) = 0 →
       ((87 = 87) ∧ (LLx (LL n l)) ∧ (0 ≤ v4 ∧ v4 < 10)) ∧
        ((jb_p (g 100 v4 < g 17 v4)) = 0 →
         (0 ≤ v4 ∧ v4 < 10) ∧
          (0 ≤ (0 : Int) ∧ (0 : Int) < 2) ∧
          ((0 ≤ v2 ∧ v2 < 2147483648 ∧ 0 ≤ (g 89 (v4 * 2 + (0 : Int))) ∧ (g 89 (v4 * 2 + (0 : Int))) < 31)) ∧
          ((hb v2 (g 89 (v4 * 2 + (0 : Int)))) = 0 →
           ((0 : Int) = 0 ∨ (0 : Int) = 1) ∧ Q (jv_I (0 : Int)) (LL n l) g) ∧
          (¬ (hb v2 (g 89 (v4 * 2 + (0 : Int)))) = 0 →
           jv_r32 (v4 + (1 : Int)) ∧
            jv_At jv_T jv_ml kTr_isHeld 55 [jv_P 87, jv_D v1, jv_I v2, jv_I v3, jv_I (v4 + (1 : Int))] [] (LL n l) g Q)) ∧
        (¬ (jb_p (g 100 v4 < g 17 v4)) = 0 →
         ((0 : Int) = 0 ∨ (0 : Int) = 1) ∧ Q (jv_I (0 : Int)) (LL n l) g)))) :
  jv_At jv_T jv_ml kTr_isHeld 55 [jv_P 87, jv_D v1, jv_I v2, jv_I v3, jv_I v4] [] (LL n l) g Q :=
  jv_of_wp (gok9 (A := A)) (md := []) (stop := [55]) (tab := jt_Tr_isHeld) rfl 400 _ _ _ _ _ h
theorem tr_Tr_isHeld {A : jA} {B : jB} {n l : Nat} {g : jv_S} {Q : jv_V → jv_L → jv_S → Prop} {rb : Int} {c i T : Nat} (hN : CN A g) (hW : CW 40 A g) (hB' : BW A B) (hT : TC A B rb l g) (hc : c < ln A) (hs : 1 ≤ B 8 c) (hi : B 9 (2 * c) = i) (hTl : T < 2 ^ 30)
  (hQ : Q (jv_I (jb_b (dc (hld A B c T)))) (LL n l) g) :
  jv_Ca jv_T jv_ml kTr_isHeld [jv_P 87, jv_D (rb + i), jv_I T] (LL n l) g Q := by
  have hw := hN.1
  have w1 := hw.1
  have w2 := hw.2.1
  have hp2 := pw10 w2
  have f2 := hN.2.2.1
  obtain ⟨b1, b2, b3, b4, b5⟩ := id hB'
  obtain ⟨t1, t2, t3, t4, t5⟩ := id hT
  have hrm : ∀ c, c < ln A → rm A c ≤ 2 := fun c hc => (hw.2.2.2.1 c hc).2.2.2.2.1
  have hrm1 : ∀ c, c < ln A → 1 ≤ rm A c := fun c hc => (hw.2.2.2.1 c hc).2.2.2.1
  have hi3 := b3 c 0 hc (by omega)
  rw [Nat.add_zero, hi, Int.toNat_natCast] at hi3
  obtain ⟨i1, i2, i3⟩ := hi3
  obtain ⟨a1, a2, a3, a4, a5, a6⟩ := b5 i i2
  obtain ⟨r1, r2, r3, r4, r5, r6, r7, r8, r9, r10⟩ := t5 i i2
  have gq := LL_get (n := n) (l := l) (q := rb + i) (by omega) (by omega)
  have f16 : g 16 c = tt A c := (hN.2.2.2.1 c hc).2.1
  obtain ⟨y, hy⟩ := Int.eq_ofNat_of_zero_le a3.1
  have f49 : g 49 ((c : Int) * 6 + y) = tk A c y := hW.2.2.2 c y hc (by omega)
  have hSe : hS A B c = if B 1 i = 2 then low (tk A c y) else tk A c y := by unfold hS; rw [hi, Int.toNat_natCast, hy, Int.toNat_natCast]
  have t31 := i31 hTl (by omega)
  have tkl := tk_lt hw c y
  have lowl : low (tk A c y) < 1024 := mk_lt10 _ (by decide)
  have hSl : hS A B c < 1024 := by rw [hSe]; split <;> omega
  have main : ∀ d, d ≤ ln A → (tt A c : Int) ≠ B 3 i → (∀ e, e < d → (hS A B c).testBit e = true → ¬ B 8 e < rm A e ∧ T.testBit (B 9 (2 * e)).toNat = true) → jv_At jv_T jv_ml kTr_isHeld 55 [jv_P 87, jv_D (rb + i), jv_I T, jv_I (hS A B c : Nat), jv_I d] [] (LL n l) g Q := by
    apply loop_up
    intro d hd ih h0 h1
    apply sg_Tr_isHeld_55 (A := A)
    refine ⟨fun h => ⟨Or.inr rfl, ?_⟩, fun h => ?_⟩
    · rw [dc_t.mpr ⟨by rw [hi, Int.toNat_natCast]; exact h0, fun e he => h1 e (by omega)⟩] at hQ
      exact hQ
    · have hd' : d < ln A := by omega
      have f8 := t2 d hd'
      have f17 := (hN.2.2.2.1 d hd').2.2
      have nx : ((hS A B c).testBit d = true → ¬ B 8 d < rm A d ∧ T.testBit (B 9 (2 * d)).toNat = true) → jv_At jv_T jv_ml kTr_isHeld 55 [jv_P 87, jv_D (rb + i), jv_I T, jv_I (hS A B c : Nat), jv_I (d + 1)] [] (LL n l) g Q := fun hx => ih hd' h0 (fun e he hb => by
        by_cases hed : e = d
        · subst hed; exact hx hb
        · exact h1 e (by omega) hb)
      have bad : (hS A B c).testBit d = true → ¬ (¬ B 8 d < rm A d ∧ T.testBit (B 9 (2 * d)).toNat = true) → Q (jv_I 0) (LL n l) g := fun hb hx => by
        rw [dc_f.mpr (fun h2 => hx (h2.2 d hd' hb))] at hQ
        exact hQ
      rw [f8, f17]
      cases hbit : (hS A B c).testBit d with
      | false =>
        have e0 := hb_f hbit
        have := nx (fun h => by rw [h] at hbit; cases hbit)
        rw [e0]
        repeat' (first | (with_reducible assumption) | apply And.intro | intro _)
        all_goals (first | omega | exact LLx_ok | assumption | skip)
      | true =>
        have e0 := hb_t hbit
        rw [e0, jp0]
        by_cases hr : B 8 d < rm A d
        · have := bad hbit (fun h => h.1 hr)
          repeat' (first | (with_reducible assumption) | apply And.intro | intro _)
          all_goals (first | omega | exact LLx_ok | assumption | skip)
        · have u1 := hrm1 d hd'
          obtain ⟨x1, x2, x3⟩ := b3 d 0 hd' (by omega)
          have f9 : g 89 ((d : Int) * 2 + 0) = B 9 (2 * d) := t3 d 0 hd' (by omega)
          rw [Nat.add_zero] at x1 x2
          obtain ⟨j, hj⟩ := Int.eq_ofNat_of_zero_le x1
          rw [f9, hj]
          rw [hj] at x2
          cases hb2 : T.testBit j with
          | false =>
            have e2 := hb_f hb2
            have := bad hbit (fun h => by have := h.2; rw [hj, Int.toNat_natCast, hb2] at this; cases this)
            rw [e2]
            repeat' (first | (with_reducible assumption) | apply And.intro | intro _)
            all_goals (first | omega | exact LLx_ok | assumption | skip)
          | true =>
            have e2 := hb_t hb2
            have := nx (fun _ => ⟨hr, by rw [hj, Int.toNat_natCast]; exact hb2⟩)
            rw [e2]
            repeat' (first | (with_reducible assumption) | apply And.intro | intro _)
            all_goals (first | omega | exact LLx_ok | assumption | skip)
  apply sg_Tr_isHeld_0 (A := A)
  rw [r6, i3, f16, r5, r3, hy, f49, Int.toNat_natCast]
  refine ⟨gq, ⟨by omega, by omega⟩, gq, fun h => ⟨Or.inl rfl, ?_⟩, fun h => ⟨gq, ⟨by omega, by omega⟩, gq, ⟨by omega, by omega⟩, gq, fun h2 => ⟨⟨by omega, by omega⟩, ?_⟩, fun h2 => ?_⟩⟩
  · rw [dc_f.mpr (fun h2 => h2.1 (by rw [hi, Int.toNat_natCast, hy]; exact h))] at hQ
    exact hQ
  · have := main 0 (by omega) (by rw [hy]; exact h) (fun e he => by omega)
    rw [hSe, if_pos h2] at this
    exact this
  · have := main 0 (by omega) (by rw [hy]; exact h) (fun e he => by omega)
    rw [hSe, if_neg h2] at this
    exact this
theorem bd2 {t a b : Nat} : (bd (bd t (2 ^ a)) (2 ^ b)) = bd t (2 ^ a ||| 2 ^ b) := by
  apply Nat.eq_of_testBit_eq
  intro i
  rw [bd_bit, bd_bit, bd_bit, Nat.testBit_or]
  cases t.testBit i <;> cases (2 ^ a).testBit i <;> cases (2 ^ b).testBit i <;> rfl
set_option maxRecDepth 100000 in
theorem sg_Tr_thaw_0 {A : jA} {n l : Nat} {g : jv_S} {Q : jv_V → jv_L → jv_S → Prop} {v1 v2 : Int} (h :
   jv_Ca jv_T jv_ml kTr_standsIn [jv_P 87, jv_I v1, jv_I (0 : Int)] (LL n l) g (fun r L2 g2 => jv_At jv_T jv_ml kTr_thaw 7 [jv_P 87, jv_I v1, jv_I v2, jv_U, jv_U, jv_U] (jv_pu r [jv_P 87]) L2 g2 Q)) :
  jv_At jv_T jv_ml kTr_thaw 0 [jv_P 87, jv_I v1, jv_I v2, jv_U, jv_U, jv_U] [] (LL n l) g Q :=
  jv_of_wp (gok9 (A := A)) (md := []) (stop := [43]) (tab := jt_Tr_thaw) rfl 400 _ _ _ _ _ h
set_option maxRecDepth 100000 in
theorem sg_Tr_thaw_7 {A : jA} {n l : Nat} {g : jv_S} {Q : jv_V → jv_L → jv_S → Prop} {v1 v2 s1 : Int} {v3 v4 v5 : jv_V} (h :
   jv_Ca jv_T jv_ml kTr_numbered [jv_P 87, jv_I s1] (LL n l) g (fun r L2 g2 => jv_At jv_T jv_ml kTr_thaw 10 [jv_P 87, jv_I v1, jv_I v2, v3, v4, v5] (jv_pu r []) L2 g2 Q)) :
  jv_At jv_T jv_ml kTr_thaw 7 [jv_P 87, jv_I v1, jv_I v2, v3, v4, v5] [jv_I s1, jv_P 87] (LL n l) g Q :=
  jv_of_wp (gok9 (A := A)) (md := []) (stop := [43]) (tab := jt_Tr_thaw) rfl 400 _ _ _ _ _ h
set_option maxRecDepth 100000 in
theorem sg_Tr_thaw_10 {A : jA} {n l : Nat} {g : jv_S} {Q : jv_V → jv_L → jv_S → Prop} {v1 v2 s0 : Int} {v3 v4 v5 : jv_V} (h :
   (s0 = 0 →
     Q (jv_I v2) (LL n l) g) ∧
    (¬ s0 = 0 →
     (0 < s0 ∧ (LL n l)[(s0 - 1).toNat]? = some (11, 8, [])) ∧
      ((0 ≤ v2 ∧ v2 < 2147483648 ∧ 0 ≤ (g 1000 (8 * s0 + 0)) ∧ (g 1000 (8 * s0 + 0)) < 31)) ∧
      ((hb v2 (g 1000 (8 * s0 + 0))) = 0 →
       jv_At jv_T jv_ml kTr_thaw 43 [jv_P 87, jv_I v1, jv_I v2, jv_D s0, jv_I v2, jv_I (0 : Int)] [] (LL n l) g Q) ∧
      (¬ (hb v2 (g 1000 (8 * s0 + 0))) = 0 →
       jv_Ca jv_T jv_ml kTr_isHeld [jv_P 87, jv_D s0, jv_I v2] (LL n l) g (fun r L2 g2 => jv_At jv_T jv_ml kTr_thaw 32 [jv_P 87, jv_I v1, jv_I v2, jv_D s0, v4, v5] (jv_pu r []) L2 g2 Q)))) :
  jv_At jv_T jv_ml kTr_thaw 10 [jv_P 87, jv_I v1, jv_I v2, v3, v4, v5] [jv_D s0] (LL n l) g Q :=
  jv_of_wp (gok9 (A := A)) (md := []) (stop := [43]) (tab := jt_Tr_thaw) rfl 400 _ _ _ _ _ h
set_option maxRecDepth 100000 in
theorem sg_Tr_thaw_32 {A : jA} {n l : Nat} {g : jv_S} {Q : jv_V → jv_L → jv_S → Prop} {v1 v2 v3 s0 : Int} {v4 v5 : jv_V} (h :
   (s0 = 0 →
     jv_At jv_T jv_ml kTr_thaw 43 [jv_P 87, jv_I v1, jv_I v2, jv_D v3, jv_I v2, jv_I (0 : Int)] [] (LL n l) g Q) ∧
    (¬ s0 = 0 →
     Q (jv_I v2) (LL n l) g)) :
  jv_At jv_T jv_ml kTr_thaw 32 [jv_P 87, jv_I v1, jv_I v2, jv_D v3, v4, v5] [jv_I s0] (LL n l) g Q :=
  jv_of_wp (gok9 (A := A)) (md := []) (stop := [43]) (tab := jt_Tr_thaw) rfl 400 _ _ _ _ _ h
set_option maxRecDepth 100000 in
theorem sg_Tr_thaw_43 {A : jA} {n l : Nat} {g : jv_S} {Q : jv_V → jv_L → jv_S → Prop} {v1 v2 v3 v4 v5 : Int} (h :
   (0 ≤ v1 ∧ v1 < 10) ∧
    ((g 100 v1) ≤ v5 →
     Q (jv_I v4) (LL n l) g) ∧
    (¬ (g 100 v1) ≤ v5 →
     (0 ≤ v1 ∧ v1 < 10) ∧
      (0 ≤ v5 ∧ v5 < 2) ∧
      jv_r32 (v5 + (1 : Int)) ∧
      jv_At jv_T jv_ml kTr_thaw 43 [jv_P 87, jv_I v1, jv_I v2, jv_D v3, jv_I (jv_and v4 (jv_xor (jv_shl (1 : Int) (g 89 (v1 * 2 + v5))) (-1 : Int))), jv_I (v5 + (1 : Int))] [] (LL n l) g Q)) :
  jv_At jv_T jv_ml kTr_thaw 43 [jv_P 87, jv_I v1, jv_I v2, jv_D v3, jv_I v4, jv_I v5] [] (LL n l) g Q :=
  jv_of_wp (gok9 (A := A)) (md := []) (stop := [43]) (tab := jt_Tr_thaw) rfl 400 _ _ _ _ _ h
/-- a step down: nothing that must stay is taken, what is not taken has what it needs in this lane -/
def thS (A : jA) (B : jB) (c t u : Nat) : Prop := sb u t ∧ (∀ s, GI (fN A B) s t → GI (fN A B) s u) ∧ (u = t → ∀ k : Nat, (k : Int) < B 8 c → t.testBit (B 9 (2 * c + k)).toNat = true → fN A B (B 9 (2 * c + k)).toNat t)
theorem tr_Tr_thaw {A : jA} {B : jB} {n l : Nat} {g : jv_S} {Q : jv_V → jv_L → jv_S → Prop} {rb : Int} {c T : Nat} (hN : CN A g) (hW : CW 40 A g) (hB' : BW A B) (hT : TC A B rb l g) (hc : c < ln A) (hTl : T < 2 ^ 30)
  (hQ : ∀ u : Nat, thS A B c T u → Q (jv_I u) (LL n l) g) :
  jv_Ca jv_T jv_ml kTr_thaw [jv_P 87, jv_I c, jv_I T] (LL n l) g Q := by
  have hw := hN.1
  have w2 := hw.2.1
  obtain ⟨b1, b2, b3, b4, b5⟩ := id hB'
  obtain ⟨t1, t2, t3, t4, t5⟩ := id hT
  have q2 := (hw.2.2.2.1 c hc).2.2.2.2.1
  have q1 := b2 c hc
  have f8 := t2 c hc
  have t31 := i31 hTl (by omega)
  apply sg_Tr_thaw_0 (A := A)
  apply sg_Tr_standsIn_0 (A := A)
  rw [f8]
  refine ⟨fun h => by omega, fun _ => ⟨⟨by omega, by omega⟩, fun h => ?_, fun h => ⟨⟨by omega, by omega⟩, ⟨by omega, by omega⟩, ?_⟩⟩⟩
  · apply sg_Tr_thaw_7 (A := A)
    apply sg_Tr_numbered_0 (A := A)
    refine ⟨fun _ => ?_, fun h => by omega⟩
    apply sg_Tr_thaw_10 (A := A)
    exact ⟨fun _ => hQ T ⟨sb_refl _, fun s h => h, fun _ k hk => by omega⟩, fun h => absurd rfl h⟩
  · have hp9 : g 89 ((c : Int) * 2 + 0) = B 9 (2 * c) := t3 c 0 hc (by omega)
    obtain ⟨x1, x2, x3⟩ := b3 c 0 hc (by omega)
    rw [Nat.add_zero] at x1 x2 x3
    obtain ⟨i, hi⟩ := Int.eq_ofNat_of_zero_le x1
    rw [hi] at x2
    rw [hp9, hi]
    obtain ⟨r1, r2, r3, r4, r5, r6, r7, r8, r9, r10⟩ := t5 i x2
    have gq := LL_get (n := n) (l := l) (q := rb + i) (by omega) (by omega)
    have hf0 := fun T => fN_0 (T := T) hw hB' hc (by omega) hi
    apply sg_Tr_thaw_7 (A := A)
    apply sg_Tr_numbered_0 (A := A)
    rw [t1.1, r1]
    refine ⟨fun h => by omega, fun _ => ⟨fun h => by omega, fun _ => ⟨⟨by omega, by omega⟩, ?_⟩⟩⟩
    apply sg_Tr_thaw_10 (A := A)
    rw [r2]
    -- all of the lane are taken off
    have off : ¬ (T.testBit i = true ∧ hld A B c T) → ∀ v2 : jv_V, jv_At jv_T jv_ml kTr_thaw 43 [jv_P 87, jv_I c, jv_I T, jv_D (rb + i), jv_I T, jv_I 0] [] (LL n l) g Q := by
      intro hno _
      have hni : ∀ s U, GI (fN A B) s T → gfP (fN A B) s U → U.testBit i = false := by
        intro s U hG hU
        cases hb : U.testBit i with
        | false => rfl
        | true =>
          have hUT := hG.2 U hU
          exact absurd ⟨hUT i hb, hld_mon hUT ((hf0 U).mp (hU.2 i hb))⟩ hno
      by_cases hs1 : B 8 c = 1
      · apply sg_Tr_thaw_43 (A := A)
        rw [f8, show g 89 ((c : Int) * 2 + 0) = i by rw [hp9, hi]]
        refine ⟨⟨by omega, by omega⟩, fun h => by omega, fun _ => ⟨⟨by omega, by omega⟩, ⟨by omega, by omega⟩, ⟨by omega, by omega⟩, ?_⟩⟩
        rw [jb_clr hTl (by omega) (by omega)]
        apply sg_Tr_thaw_43 (A := A)
        rw [f8]
        refine ⟨⟨by omega, by omega⟩, fun _ => hQ _ ⟨bd_sb, fun s hG => ⟨sb_trans bd_sb hG.1, fun U hU j hj => ?_⟩, fun he k hk hb => ?_⟩, fun h => by omega⟩
        · rw [bd1_bit, hG.2 U hU j hj]
          by_cases hij : i = j
          · subst hij; rw [hni s U hG hU] at hj; cases hj
          · simp [hij]
        · have hk0 : k = 0 := by omega
          subst hk0
          rw [Nat.add_zero, hi, Int.toNat_natCast] at hb ⊢
          have : (bd T (2 ^ i)).testBit i = true := by rw [he]; exact hb
          rw [bd1_bit] at this
          simp at this
      · have hs2 : B 8 c = 2 := by omega
        have hp9' : g 89 ((c : Int) * 2 + (0 + 1)) = B 9 (2 * c + 1) := t3 c 1 hc (by omega)
        obtain ⟨y1, y2, y3⟩ := b3 c 1 hc (by omega)
        obtain ⟨j, hj⟩ := Int.eq_ofNat_of_zero_le y1
        rw [hj] at y2
        have hf1 := fun T => fN_1 (T := T) hB' hc hs2 hj
        have hnj : ∀ s U, GI (fN A B) s T → gfP (fN A B) s U → U.testBit j = false := by
          intro s U hG hU
          cases hb : U.testBit j with
          | false => rfl
          | true =>
            have := (hf1 U).mp (hU.2 j hb)
            rw [hi, Int.toNat_natCast, hni s U hG hU] at this
            cases this
        apply sg_Tr_thaw_43 (A := A)
        rw [f8, show g 89 ((c : Int) * 2 + 0) = i by rw [hp9, hi]]
        refine ⟨⟨by omega, by omega⟩, fun h => by omega, fun _ => ⟨⟨by omega, by omega⟩, ⟨by omega, by omega⟩, ⟨by omega, by omega⟩, ?_⟩⟩
        rw [jb_clr hTl (by omega) (by omega)]
        apply sg_Tr_thaw_43 (A := A)
        rw [f8, hp9', hj]
        refine ⟨⟨by omega, by omega⟩, fun h => by omega, fun _ => ⟨⟨by omega, by omega⟩, ⟨by omega, by omega⟩, ⟨by omega, by omega⟩, ?_⟩⟩
        rw [jb_clr (bd_lt hTl) (by omega) (by omega)]
        apply sg_Tr_thaw_43 (A := A)
        rw [f8]
        refine ⟨⟨by omega, by omega⟩, fun _ => hQ _ ⟨sb_trans bd_sb bd_sb, fun s hG => ⟨sb_trans (sb_trans bd_sb bd_sb) hG.1, fun U hU e he => ?_⟩, fun he k hk hb => ?_⟩, fun h => by omega⟩
        · rw [bd1_bit, bd1_bit, hG.2 U hU e he]
          by_cases hie : i = e
          · subst hie; rw [hni s U hG hU] at he; cases he
          · by_cases hje : j = e
            · subst hje; rw [hnj s U hG hU] at he; cases he
            · simp [hie, hje]
        · have hke : (B 9 (2 * c + k)).toNat = i ∨ (B 9 (2 * c + k)).toNat = j := by
            by_cases hk0 : k = 0
            · subst hk0; rw [Nat.add_zero, hi]; exact Or.inl (Int.toNat_natCast _)
            · have : k = 1 := by omega
              subst this
              rw [hj]; exact Or.inr (Int.toNat_natCast _)
          rw [← he] at hb
          rw [bd1_bit, bd1_bit] at hb
          rcases hke with hke | hke <;> rw [hke] at hb <;> simp at hb
    refine ⟨fun h => by omega, fun _ => ⟨gq, ⟨by omega, by omega, by omega, by omega⟩, fun h => ?_, fun h => ?_⟩⟩
    · refine off (fun h2 => ?_) jv_U
      rw [hb_t h2.1] at h
      omega
    · refine tr_Tr_isHeld hN hW hB' hT hc (by omega) hi hTl ?_
      apply sg_Tr_thaw_32 (A := A)
      rw [jb0]
      refine ⟨fun h2 => off (fun h3 => dc_f.mp h2 h3.2) jv_U, fun h2 => hQ T ⟨sb_refl _, fun s h => h, fun _ k hk hb => ?_⟩⟩
      have hh : hld A B c T := Classical.byContradiction (fun h3 => h2 (dc_f.mpr h3))
      have hti : T.testBit i = true := by
        cases hb' : T.testBit i with
        | true => rfl
        | false => exact absurd (hb_f hb') h
      by_cases hk0 : k = 0
      · subst hk0
        rw [Nat.add_zero, hi, Int.toNat_natCast]
        exact (hf0 T).mpr hh
      · have hk1 : k = 1 := by omega
        subst hk1
        obtain ⟨y1, y2, y3⟩ := b3 c 1 hc hk
        obtain ⟨j, hj⟩ := Int.eq_ofNat_of_zero_le y1
        rw [hj, Int.toNat_natCast]
        exact (fN_1 hB' hc (by omega) hj).mpr (by rw [hi, Int.toNat_natCast]; exact hti)
set_option maxRecDepth 100000 in
theorem sg_Tr_frozenSet_0 {A : jA} {n l : Nat} {g : jv_S} {Q : jv_V → jv_L → jv_S → Prop} (h :
   jv_At jv_T jv_ml kTr_frozenSet 4 [jv_P 87, jv_I (0 : Int), jv_I (0 : Int), jv_U, jv_U] [] (LL n l) g Q) :
  jv_At jv_T jv_ml kTr_frozenSet 0 [jv_P 87, jv_U, jv_U, jv_U, jv_U] [] (LL n l) g Q :=
  jv_of_wp (gok9 (A := A)) (md := []) (stop := [4, 17, 54, 65]) (tab := jt_Tr_frozenSet) rfl 400 _ _ _ _ _ h
set_option maxRecDepth 100000 in
theorem sg_Tr_frozenSet_4 {A : jA} {n l : Nat} {g : jv_S} {Q : jv_V → jv_L → jv_S → Prop} {v1 v2 : Int} {v3 v4 : jv_V} (h :
   ((g 14 1) ≤ v2 →
     jv_At jv_T jv_ml kTr_frozenSet 54 [jv_P 87, jv_I v1, jv_I (0 : Int), v3, v4] [] (LL n l) g Q) ∧
    (¬ (g 14 1) ≤ v2 →
     jv_At jv_T jv_ml kTr_frozenSet 17 [jv_P 87, jv_I v1, jv_I v2, jv_I (0 : Int), v4] [] (LL n l) g Q)) :
  jv_At jv_T jv_ml kTr_frozenSet 4 [jv_P 87, jv_I v1, jv_I v2, v3, v4] [] (LL n l) g Q :=
  jv_of_wp (gok9 (A := A)) (md := []) (stop := [4, 17, 54, 65]) (tab := jt_Tr_frozenSet) rfl 400 _ _ _ _ _ h
set_option maxRecDepth 100000 in
theorem sg_Tr_frozenSet_17 {A : jA} {n l : Nat} {g : jv_S} {Q : jv_V → jv_L → jv_S → Prop} {v1 v2 v3 : Int} {v4 : jv_V} (h :
   (0 ≤ v2 ∧ v2 < 10) ∧
    ((g 100 v2) ≤ v3 →
     jv_r32 (v2 + (1 : Int)) ∧
      jv_At jv_T jv_ml kTr_frozenSet 4 [jv_P 87, jv_I v1, jv_I (v2 + (1 : Int)), jv_I v3, v4] [] (LL n l) g Q) ∧
    (¬ (g 100 v2) ≤ v3 →
     (0 ≤ v2 ∧ v2 < 10) ∧
      (0 ≤ v3 ∧ v3 < 2) ∧
      jv_r32 (v3 + (1 : Int)) ∧
      jv_At jv_T jv_ml kTr_frozenSet 17 [jv_P 87, jv_I (jv_or v1 (jv_shl (1 : Int) (g 89 (v2 * 2 + v3)))), jv_I v2, jv_I (v3 + (1 : Int)), v4] [] (LL n l) g Q)) :
  jv_At jv_T jv_ml kTr_frozenSet 17 [jv_P 87, jv_I v1, jv_I v2, jv_I v3, v4] [] (LL n l) g Q :=
  jv_of_wp (gok9 (A := A)) (md := []) (stop := [4, 17, 54, 65]) (tab := jt_Tr_frozenSet) rfl 400 _ _ _ _ _ h
set_option maxRecDepth 100000 in
theorem sg_Tr_frozenSet_54 {A : jA} {n l : Nat} {g : jv_S} {Q : jv_V → jv_L → jv_S → Prop} {v1 v2 : Int} {v3 v4 : jv_V} (h :
   ((30 : Int) < v2 →
     Q (jv_I v1) (LL n l) g) ∧
    (¬ (30 : Int) < v2 →
     jv_At jv_T jv_ml kTr_frozenSet 65 [jv_P 87, jv_I v1, jv_I v2, jv_I v1, jv_I (0 : Int)] [] (LL n l) g Q)) :
  jv_At jv_T jv_ml kTr_frozenSet 54 [jv_P 87, jv_I v1, jv_I v2, v3, v4] [] (LL n l) g Q :=
  jv_of_wp (gok9 (A := A)) (md := []) (stop := [4, 17, 54, 65]) (tab := jt_Tr_frozenSet) rfl 400 _ _ _ _ _ h
set_option maxRecDepth 100000 in
theorem sg_Tr_frozenSet_65 {A : jA} {n l : Nat} {g : jv_S} {Q : jv_V → jv_L → jv_S → Prop} {v1 v2 v3 v4 : Int} (h :
   ((g 14 1) ≤ v4 →
     (v1 = v3 →
       Q (jv_I v1) (LL n l) g) ∧
      (¬ v1 = v3 →
       jv_r32 (v2 + (1 : Int)) ∧
        jv_At jv_T jv_ml kTr_frozenSet 54 [jv_P 87, jv_I v1, jv_I (v2 + (1 : Int)), jv_I v3, jv_I v4] [] (LL n l) g Q)) ∧
    (¬ (g 14 1) ≤ v4 →
     jv_Ca jv_T jv_ml kTr_thaw [jv_P 87, jv_I v4, jv_I v1] (LL n l) g (fun r L2 g2 => jv_At jv_T jv_ml kTr_frozenSet 84 [jv_P 87, jv_I v1, jv_I v2, jv_I v3, jv_I v4] (jv_pu r []) L2 g2 Q))) :
  jv_At jv_T jv_ml kTr_frozenSet 65 [jv_P 87, jv_I v1, jv_I v2, jv_I v3, jv_I v4] [] (LL n l) g Q :=
  jv_of_wp (gok9 (A := A)) (md := []) (stop := [4, 17, 54, 65]) (tab := jt_Tr_frozenSet) rfl 400 _ _ _ _ _ h
set_option maxRecDepth 100000 in
theorem sg_Tr_frozenSet_84 {A : jA} {n l : Nat} {g : jv_S} {Q : jv_V → jv_L → jv_S → Prop} {v1 v2 v3 v4 s0 : Int} (h :
   jv_r32 (v4 + (1 : Int)) ∧
    jv_At jv_T jv_ml kTr_frozenSet 65 [jv_P 87, jv_I s0, jv_I v2, jv_I v3, jv_I (v4 + (1 : Int))] [] (LL n l) g Q) :
  jv_At jv_T jv_ml kTr_frozenSet 84 [jv_P 87, jv_I v1, jv_I v2, jv_I v3, jv_I v4] [jv_I s0] (LL n l) g Q :=
  jv_of_wp (gok9 (A := A)) (md := []) (stop := [4, 17, 54, 65]) (tab := jt_Tr_frozenSet) rfl 400 _ _ _ _ _ h
theorem or1_bit {s k i : Nat} : (s ||| 2 ^ k).testBit i = true ↔ s.testBit i = true ∨ k = i := by
  rw [Nat.testBit_or, Nat.testBit_two_pow, Bool.or_eq_true, decide_eq_true_iff]
theorem tr_Tr_frozenSet {A : jA} {B : jB} {n l : Nat} {g : jv_S} {Q : jv_V → jv_L → jv_S → Prop} {rb : Int} (hN : CN A g) (hW : CW 40 A g) (hB' : BW A B) (hT : TC A B rb l g)
  (hQ : Q (jv_I (FZ A B : Nat)) (LL n l) g) :
  jv_Ca jv_T jv_ml kTr_frozenSet [jv_P 87] (LL n l) g Q := by
  have hw := hN.1
  have w2 := hw.2.1
  have f2 := hN.2.2.1
  obtain ⟨b1, b2, b3, b4, b5⟩ := id hB'
  obtain ⟨t1, t2, t3, t4, t5⟩ := id hT
  have hrm : ∀ c, c < ln A → rm A c ≤ 2 := fun c hc => (hw.2.2.2.1 c hc).2.2.2.2.1
  have rounds : ∀ r, r ≤ 30 → ∀ (s : Nat) (v w : jv_V), pcr s 30 + r ≤ 30 → s < 2 ^ 30 → GI (fN A B) (fz0 B) s → jv_At jv_T jv_ml kTr_frozenSet 54 [jv_P 87, jv_I s, jv_I r, v, w] [] (LL n l) g Q := by
    apply loop_up
    intro r hr ih s v w hk h1 h2
    apply sg_Tr_frozenSet_54 (A := A)
    refine ⟨fun h => by omega, fun _ => ?_⟩
    have inner : ∀ c, c ≤ ln A → ∀ u : Nat, sb u s → GI (fN A B) (fz0 B) u → (u = s → ∀ d k : Nat, d < c → (k : Int) < B 8 d → s.testBit (B 9 (2 * d + k)).toNat = true → fN A B (B 9 (2 * d + k)).toNat s) → jv_At jv_T jv_ml kTr_frozenSet 65 [jv_P 87, jv_I u, jv_I r, jv_I s, jv_I c] [] (LL n l) g Q := by
      apply loop_up
      intro c hc ihc u u1 u2 u3
      apply sg_Tr_frozenSet_65 (A := A)
      refine ⟨fun h => ⟨fun h3 => ?_, fun h3 => ⟨⟨by omega, by omega⟩, ?_⟩⟩, fun h => ?_⟩
      · have he : u = s := by omega
        have : s = FZ A B := by
          refine gf_eq h1 ⟨h2.1, fun i hi => ?_⟩ h2.2
          obtain ⟨d, k, d1, d2, d3⟩ := (fz0_bit hB').mp (h2.1 i hi)
          have hx := u3 he d k (by omega) d2 (by rw [d3, Int.toNat_natCast]; exact hi)
          rw [d3, Int.toNat_natCast] at hx
          exact hx
        rw [he, this]
        exact hQ
      · have hne : u ≠ s := by omega
        have hp := pcr_lt u1 h1 hne
        exact ih (by omega) u _ _ (by omega) (sb_lt u1 h1) u2
      · refine tr_Tr_thaw hN hW hB' hT (c := c) (by omega) (sb_lt u1 h1) (fun x hx => ?_)
        apply sg_Tr_frozenSet_84 (A := A)
        refine ⟨⟨by omega, by omega⟩, ihc (by omega) x (sb_trans hx.1 u1) (hx.2.1 _ u2) (fun he d k hd hk hb => ?_)⟩
        have hus : u = s := sb_anti u1 (by rw [← he]; exact hx.1)
        by_cases hdc : d = c
        · subst hdc
          have := hx.2.2 (by rw [he, hus]) k hk (by rw [hus]; exact hb)
          rw [hus] at this
          exact this
        · exact u3 hus d k (by omega) hk hb
    exact inner 0 (by omega) s (sb_refl _) h2 (fun _ d k hd => by omega)
  have start : ∀ c, c ≤ ln A → ∀ (s : Nat) (v w : jv_V), s < 2 ^ 30 → (∀ i, s.testBit i = true ↔ inl B c i) → jv_At jv_T jv_ml kTr_frozenSet 4 [jv_P 87, jv_I s, jv_I c, v, w] [] (LL n l) g Q := by
    apply loop_up
    intro c hc ih s v w h1 h2
    apply sg_Tr_frozenSet_4 (A := A)
    refine ⟨fun h => ?_, fun h => ?_⟩
    · have hcl : c = ln A := by omega
      subst hcl
      have he : s = fz0 B := by
        apply sb_anti
        · exact fun i hi => (fz0_bit hB').mpr ((h2 i).mp hi)
        · exact fun i hi => (h2 i).mpr ((fz0_bit hB').mp hi)
      rw [he]
      exact rounds 0 (by omega) _ _ _ (by have := pcr_le (fz0 B) 30; omega) (fz0_lt hB') GI_0
    · have hc' : c < ln A := by omega
      have q1 := b2 c hc'
      have q2 := hrm c hc'
      have f8 := t2 c hc'
      have inner : ∀ (e k : Nat), (k : Int) + e = B 8 c → ∀ s : Nat, s < 2 ^ 30 → (∀ i, s.testBit i = true ↔ inl B c i ∨ ∃ j : Nat, j < k ∧ B 9 (2 * c + j) = i) → jv_At jv_T jv_ml kTr_frozenSet 17 [jv_P 87, jv_I s, jv_I c, jv_I k, w] [] (LL n l) g Q := by
        intro e
        induction e with
        | zero =>
          intro k hk s h1 h2
          apply sg_Tr_frozenSet_17 (A := A)
          rw [f8]
          refine ⟨⟨by omega, by omega⟩, fun _ => ⟨⟨by omega, by omega⟩, ih hc' s _ _ h1 (fun i => ?_)⟩, fun h => by omega⟩
          rw [h2 i]
          constructor
          · rintro (⟨d, j, x1, x2, x3⟩ | ⟨j, x1, x2⟩)
            · exact ⟨d, j, by omega, x2, x3⟩
            · exact ⟨c, j, by omega, by omega, x2⟩
          · rintro ⟨d, j, x1, x2, x3⟩
            by_cases hdc : d = c
            · subst hdc; exact Or.inr ⟨j, by omega, x3⟩
            · exact Or.inl ⟨d, j, by omega, x2, x3⟩
        | succ e ihe =>
          intro k hk s h1 h2
          apply sg_Tr_frozenSet_17 (A := A)
          have f9 := t3 c k hc' (by omega)
          obtain ⟨x1, x2, x3⟩ := b3 c k hc' (by omega)
          obtain ⟨i0, hi0⟩ := Int.eq_ofNat_of_zero_le x1
          rw [hi0] at x2 f9
          rw [f8, f9]
          refine ⟨⟨by omega, by omega⟩, fun h => by omega, fun _ => ⟨⟨by omega, by omega⟩, ⟨by omega, by omega⟩, ⟨by omega, by omega⟩, ?_⟩⟩
          have p30 : 2 ^ i0 < 2 ^ 30 := Nat.pow_lt_pow_right (by decide) (by omega)
          rw [jb_shl1 (by omega), jb_or (i31 h1 (by omega)) (i31 p30 (by omega))]
          refine ihe (k + 1) (by omega) _ (Nat.or_lt_two_pow h1 p30) (fun i => ?_)
          rw [or1_bit, h2 i]
          constructor
          · rintro ((h | ⟨j, y1, y2⟩) | h)
            · exact Or.inl h
            · exact Or.inr ⟨j, by omega, y2⟩
            · exact Or.inr ⟨k, by omega, by rw [hi0, h]⟩
          · rintro (h | ⟨j, y1, y2⟩)
            · exact Or.inl (Or.inl h)
            · by_cases hjk : j = k
              · subst hjk; rw [hi0] at y2; exact Or.inr (by omega)
              · exact Or.inl (Or.inr ⟨j, by omega, y2⟩)
      exact inner (B 8 c).toNat 0 (by omega) s h1 (fun i => by rw [h2 i]; exact ⟨fun h => Or.inl h, fun h => h.elim (fun h => h) (fun ⟨j, hj, _⟩ => by omega)⟩)
  exact sg_Tr_frozenSet_0 (A := A) (start 0 (by omega) 0 _ _ (by decide) (fun i => ⟨fun h => (by rw [Nat.zero_testBit] at h; cases h), fun ⟨d, j, hd, _⟩ => by omega⟩))
set_option maxRecDepth 100000 in
theorem sg_Y_isHeld_0 {A : jA} {n l : Nat} {g : jv_S} {Q : jv_V → jv_L → jv_S → Prop} {v1 v2 : Int} (h :
   jv_r32 ((2 : Int) * v1) ∧
    (0 ≤ ((2 : Int) * v1) ∧ ((2 : Int) * v1) < 20) ∧
    (0 ≤ v1 ∧ v1 < 10) ∧
    (0 ≤ (g 163 ((2 : Int) * v1)) ∧ (g 163 ((2 : Int) * v1)) < 30) ∧
    ((g 141 v1) = (g 157 (g 163 ((2 : Int) * v1))) →
     ((0 : Int) = 0 ∨ (0 : Int) = 1) ∧ Q (jv_I (0 : Int)) (LL n l) g) ∧
    (¬ (g 141 v1) = (g 157 (g 163 ((2 : Int) * v1))) →
     (0 ≤ (g 163 ((2 : Int) * v1)) ∧ (g 163 ((2 : Int) * v1)) < 30) ∧
      ((136 = 136) ∧ (LLx (LL n l)) ∧ (MN A g ∧ (0 ≤ (g 157 (g 163 ((2 : Int) * v1))) ∧ (g 157 (g 163 ((2 : Int) * v1))) < nd A) ∧ 0 ≤ v1 ∧ (v1 < ln A ∨ (10 ≤ v1 ∧ v1 < 10 + nd A)))) ∧
      jv_At jv_T jv_ml kY_isHeld 42 [jv_P 136, jv_I v1, jv_I v2, jv_I (g 163 ((2 : Int) * v1)), jv_I (tkI A v1 (g 157 (g 163 ((2 : Int) * v1)))), jv_I (0 : Int)] [] (LL n l) g Q)) :
  jv_At jv_T jv_ml kY_isHeld 0 [jv_P 136, jv_I v1, jv_I v2, jv_U, jv_U, jv_U] [] (LL n l) g Q :=
  jv_of_wp (gok9 (A := A)) (md := []) (stop := [42]) (tab := jt_Y_isHeld) rfl 400 _ _ _ _ _ h
set_option maxRecDepth 100000 in
theorem sg_Y_isHeld_42 {A : jA} {n l : Nat} {g : jv_S} {Q : jv_V → jv_L → jv_S → Prop} {v1 v2 v3 v4 v5 : Int} (h :
   ((g 136 6) ≤ v5 →
     ((1 : Int) = 0 ∨ (1 : Int) = 1) ∧ Q (jv_I (1 : Int)) (LL n l) g) ∧
    (¬ (g 136 6) ≤ v5 →
     ((0 ≤ v4 ∧ v4 < 2147483648 ∧ 0 ≤ v5 ∧ v5 < 31)) ∧
      ((hb v4 v5) = 0 →
       jv_r32 (v5 + (1 : Int)) ∧
        jv_At jv_T jv_ml kY_isHeld 42 [jv_P 136, jv_I v1, jv_I v2, jv_I v3, jv_I v4, jv_I (v5 + (1 : Int))] [] (LL n l) g Q) ∧
      (¬ (hb v4 v5) = 0 →
       (0 ≤ v5 ∧ v5 < 10) ∧
        (0 ≤ v5 ∧ v5 < 10) ∧
        ((g 162 v5) < (g 142 v5) →
         ((0 : Int) = 0 ∨ (0 : Int) = 1) ∧ Q (jv_I (0 : Int)) (LL n l) g) ∧
        (¬ (g 162 v5) < (g 142 v5) →
         jv_r32 ((2 : Int) * v5) ∧
          (0 ≤ ((2 : Int) * v5) ∧ ((2 : Int) * v5) < 20) ∧
          ((0 ≤ v2 ∧ v2 < 2147483648 ∧ 0 ≤ (g 163 ((2 : Int) * v5)) ∧ (g 163 ((2 : Int) * v5)) < 31)) ∧
          ((hb v2 (g 163 ((2 : Int) * v5))) = 0 →
           ((0 : Int) = 0 ∨ (0 : Int) = 1) ∧ Q (jv_I (0 : Int)) (LL n l) g) ∧
          (¬ (hb v2 (g 163 ((2 : Int) * v5))) = 0 →
           (0 ≤ v3 ∧ v3 < 30) ∧
            ((g 155 v3) = (2 : Int) →
             ((1 : Int) = 0 ∨ (1 : Int) = 1) ∧ Q (jv_I (1 : Int)) (LL n l) g) ∧
            (¬ (g 155 v3) = (2 : Int) →
             jv_r32 (v5 + (1 : Int)) ∧
              jv_At jv_T jv_ml kY_isHeld 42 [jv_P 136, jv_I v1, jv_I v2, jv_I v3, jv_I v4, jv_I (v5 + (1 : Int))] [] (LL n l) g Q)))))) :
  jv_At jv_T jv_ml kY_isHeld 42 [jv_P 136, jv_I v1, jv_I v2, jv_I v3, jv_I v4, jv_I v5] [] (LL n l) g Q :=
  jv_of_wp (gok9 (A := A)) (md := []) (stop := [42]) (tab := jt_Y_isHeld) rfl 400 _ _ _ _ _ h
theorem tr_Y_isHeld {A : jA} {B : jB} {n l : Nat} {g : jv_S} {Q : jv_V → jv_L → jv_S → Prop} {c i T : Nat} (hM : MN A g) (hB' : BW A B) (hT : TMr A B g) (hc : c < ln A) (hs : 1 ≤ B 8 c) (hi : B 9 (2 * c) = i) (hTl : T < 2 ^ 30)
  (hQ : Q (jv_I (jb_b (dc (hld A B c T)))) (LL n l) g) :
  jv_Ca jv_T jv_ml kY_isHeld [jv_P 136, jv_I c, jv_I T] (LL n l) g Q := by
  have hw := hM.1
  have w1 := hw.1
  have w2 := hw.2.1
  have f2 := hM.2.2.1
  obtain ⟨b1, b2, b3, b4, b5⟩ := id hB'
  obtain ⟨t1, t2, t3, t5⟩ := id hT
  have hrm1 : ∀ c, c < ln A → 1 ≤ rm A c := fun c hc => (hw.2.2.2.1 c hc).2.2.2.1
  have hi3 := b3 c 0 hc (by omega)
  rw [Nat.add_zero, hi, Int.toNat_natCast] at hi3
  obtain ⟨i1, i2, i3⟩ := hi3
  obtain ⟨a1, a2, a3, a4, a5, a6⟩ := b5 i i2
  obtain ⟨r3, r4, r5, r6, r7, r8⟩ := t5 i i2
  have f16 : g 141 c = tt A c := (hM.2.2.2.2.1 c hc).2.1
  obtain ⟨y, hy⟩ := Int.eq_ofNat_of_zero_le a3.1
  have f9 : g 163 (2 * (c : Int)) = i := by
    have := t3 c 0 hc (by omega)
    rw [Nat.add_zero, hi] at this
    rw [← this]
    congr 1
  have hSe : hS A B c = if B 1 i = 2 then low (tk A c y) else tk A c y := by unfold hS; rw [hi, Int.toNat_natCast, hy, Int.toNat_natCast]
  have t31 := i31 hTl (by omega)
  have tk31 := i31 (tk_ltl (A := A) c y) (by omega)
  have main : ∀ d, d ≤ ln A → (tt A c : Int) ≠ B 3 i → (∀ e, e < d → (tk A c y).testBit e = true → B 1 i ≠ 2 ∧ ¬ B 8 e < rm A e ∧ T.testBit (B 9 (2 * e)).toNat = true) → jv_At jv_T jv_ml kY_isHeld 42 [jv_P 136, jv_I c, jv_I T, jv_I i, jv_I (tk A c y : Nat), jv_I d] [] (LL n l) g Q := by
    apply loop_up
    intro d hd ih h0 h1
    apply sg_Y_isHeld_42 (A := A)
    refine ⟨fun h => ⟨Or.inr rfl, ?_⟩, fun h => ?_⟩
    · have hx : hld A B c T := by
        refine ⟨by rw [hi, Int.toNat_natCast]; exact h0, fun e he hb => ?_⟩
        rw [hSe] at hb
        by_cases hk : B 1 i = 2
        · rw [if_pos hk, low_bit (by omega)] at hb
          exact absurd hk (h1 e (by omega) hb.1).1
        · rw [if_neg hk] at hb
          exact (h1 e (by omega) hb).2
      rw [dc_t.mpr hx] at hQ
      exact hQ
    · have hd' : d < ln A := by omega
      have f8 := t2 d hd'
      have f17 := (hM.2.2.2.2.1 d hd').2.2.1
      have nx : ((tk A c y).testBit d = true → B 1 i ≠ 2 ∧ ¬ B 8 d < rm A d ∧ T.testBit (B 9 (2 * d)).toNat = true) → jv_At jv_T jv_ml kY_isHeld 42 [jv_P 136, jv_I c, jv_I T, jv_I i, jv_I (tk A c y : Nat), jv_I (d + 1)] [] (LL n l) g Q := fun hx => ih hd' h0 (fun e he hb => by
        by_cases hed : e = d
        · subst hed; exact hx hb
        · exact h1 e (by omega) hb)
      have inS : (tk A c y).testBit d = true → (hS A B c).testBit d = true := by
        intro hb
        rw [hSe]
        by_cases hk : B 1 i = 2
        · rw [if_pos hk, low_bit (by omega)]
          refine ⟨hb, fun e he => ?_⟩
          cases hbe : (tk A c y).testBit e with
          | false => rfl
          | true => exact absurd hk (h1 e he hbe).1
        · rw [if_neg hk]; exact hb
      have bad : (tk A c y).testBit d = true → ¬ (¬ B 8 d < rm A d ∧ T.testBit (B 9 (2 * d)).toNat = true) → Q (jv_I 0) (LL n l) g := fun hb hx => by
        rw [dc_f.mpr (fun h2 => hx (h2.2 d hd' (inS hb)))] at hQ
        exact hQ
      rw [f8, f17, r3]
      cases hbit : (tk A c y).testBit d with
      | false =>
        have e0 := hb_f hbit
        have := nx (fun h => by rw [h] at hbit; cases hbit)
        rw [e0]
        repeat' (first | (with_reducible assumption) | apply And.intro | intro _)
        all_goals (first | omega | exact LLx_ok | assumption | skip)
      | true =>
        have e0 := hb_t hbit
        rw [e0]
        by_cases hr : B 8 d < rm A d
        · have := bad hbit (fun h => h.1 hr)
          repeat' (first | (with_reducible assumption) | apply And.intro | intro _)
          all_goals (first | omega | exact LLx_ok | assumption | skip)
        · have u1 := hrm1 d hd'
          obtain ⟨x1, x2, x3⟩ := b3 d 0 hd' (by omega)
          have f9' : g 163 (2 * (d : Int)) = B 9 (2 * d) := by
            have := t3 d 0 hd' (by omega)
            rw [Nat.add_zero] at this
            rw [← this]
            congr 1
          rw [Nat.add_zero] at x1 x2
          obtain ⟨j, hj⟩ := Int.eq_ofNat_of_zero_le x1
          rw [f9', hj]
          rw [hj] at x2
          cases hb2 : T.testBit j with
          | false =>
            have e2 := hb_f hb2
            have := bad hbit (fun h => by have := h.2; rw [hj, Int.toNat_natCast, hb2] at this; cases this)
            rw [e2]
            repeat' (first | (with_reducible assumption) | apply And.intro | intro _)
            all_goals (first | omega | exact LLx_ok | assumption | skip)
          | true =>
            have e2 := hb_t hb2
            rw [e2]
            by_cases hk : B 1 i = 2
            · have hx : hld A B c T := by
                refine ⟨by rw [hi, Int.toNat_natCast]; exact h0, fun e he hb => ?_⟩
                rw [hSe, if_pos hk, low_bit (by omega)] at hb
                have hed : e = d := by
                  rcases Nat.lt_trichotomy e d with h3 | h3 | h3
                  · exact absurd hk (h1 e h3 hb.1).1
                  · exact h3
                  · rw [hb.2 d h3] at hbit; cases hbit
                subst hed
                exact ⟨hr, by rw [hj, Int.toNat_natCast]; exact hb2⟩
              rw [dc_t.mpr hx] at hQ
              have hQ' : Q (jv_I 1) (LL n l) g := hQ
              repeat' (first | (with_reducible assumption) | apply And.intro | intro _)
              all_goals (first | omega | exact LLx_ok | assumption | skip)
            · have := nx (fun _ => ⟨hk, hr, by rw [hj, Int.toNat_natCast]; exact hb2⟩)
              repeat' (first | (with_reducible assumption) | apply And.intro | intro _)
              all_goals (first | omega | exact LLx_ok | assumption | skip)
  apply sg_Y_isHeld_0 (A := A)
  rw [f9, f16, r5, hy, tkI_c]
  refine ⟨⟨by omega, by omega⟩, ⟨by omega, by omega⟩, ⟨by omega, by omega⟩, ⟨by omega, by omega⟩, fun h => ⟨Or.inl rfl, ?_⟩, fun h => ⟨⟨by omega, by omega⟩, ⟨rfl, LLx_ok, hM, ⟨by omega, by omega⟩, by omega, by omega⟩, main 0 (by omega) (by rw [hy]; exact h) (fun e he => by omega)⟩⟩
  rw [dc_f.mpr (fun h2 => h2.1 (by rw [hi, Int.toNat_natCast, hy]; exact h))] at hQ
  exact hQ
set_option maxRecDepth 100000 in
theorem sg_Y_frozen_0 {A : jA} {n l : Nat} {g : jv_S} {Q : jv_V → jv_L → jv_S → Prop} (h :
   jv_At jv_T jv_ml kY_frozen 4 [jv_P 136, jv_I (0 : Int), jv_I (0 : Int), jv_U, jv_U, jv_U, jv_U] [] (LL n l) g Q) :
  jv_At jv_T jv_ml kY_frozen 0 [jv_P 136, jv_U, jv_U, jv_U, jv_U, jv_U, jv_U] [] (LL n l) g Q :=
  jv_of_wp (gok9 (A := A)) (md := []) (stop := [4, 41, 49, 60]) (tab := jt_Y_frozen) rfl 400 _ _ _ _ _ h
set_option maxRecDepth 100000 in
theorem sg_Y_frozen_4 {A : jA} {n l : Nat} {g : jv_S} {Q : jv_V → jv_L → jv_S → Prop} {v1 v2 : Int} {v3 v4 v5 v6 : jv_V} (h :
   ((g 136 27) ≤ v2 →
     jv_At jv_T jv_ml kY_frozen 41 [jv_P 136, jv_I v1, jv_I (1 : Int), v3, v4, v5, v6] [] (LL n l) g Q) ∧
    (¬ (g 136 27) ≤ v2 →
     (0 ≤ v2 ∧ v2 < 30) ∧
      ((g 158 v2) = (-9 : Int) →
       jv_r32 (v2 + (1 : Int)) ∧
        jv_At jv_T jv_ml kY_frozen 4 [jv_P 136, jv_I (jv_or v1 (0 : Int)), jv_I (v2 + (1 : Int)), v3, v4, v5, v6] [] (LL n l) g Q) ∧
      (¬ (g 158 v2) = (-9 : Int) →
       jv_r32 (v2 + (1 : Int)) ∧
        jv_At jv_T jv_ml kY_frozen 4 [jv_P 136, jv_I (jv_or v1 (jv_shl (1 : Int) v2)), jv_I (v2 + (1 : Int)), v3, v4, v5, v6] [] (LL n l) g Q))) :
  jv_At jv_T jv_ml kY_frozen 4 [jv_P 136, jv_I v1, jv_I v2, v3, v4, v5, v6] [] (LL n l) g Q :=
  jv_of_wp (gok9 (A := A)) (md := []) (stop := [4, 41, 49, 60]) (tab := jt_Y_frozen) rfl 400 _ _ _ _ _ h
set_option maxRecDepth 100000 in
theorem sg_Y_frozen_41 {A : jA} {n l : Nat} {g : jv_S} {Q : jv_V → jv_L → jv_S → Prop} {v1 v2 : Int} {v3 v4 v5 v6 : jv_V} (h :
   (v2 = 0 →
     Q (jv_I v1) (LL n l) g) ∧
    (¬ v2 = 0 →
     jv_At jv_T jv_ml kY_frozen 49 [jv_P 136, jv_I v1, jv_I (0 : Int), jv_I (0 : Int), v4, v5, v6] [] (LL n l) g Q)) :
  jv_At jv_T jv_ml kY_frozen 41 [jv_P 136, jv_I v1, jv_I v2, v3, v4, v5, v6] [] (LL n l) g Q :=
  jv_of_wp (gok9 (A := A)) (md := []) (stop := [4, 41, 49, 60]) (tab := jt_Y_frozen) rfl 400 _ _ _ _ _ h
set_option maxRecDepth 100000 in
theorem sg_Y_frozen_49 {A : jA} {n l : Nat} {g : jv_S} {Q : jv_V → jv_L → jv_S → Prop} {v1 v2 v3 : Int} {v4 v5 v6 : jv_V} (h :
   ((g 136 6) ≤ v3 →
     jv_At jv_T jv_ml kY_frozen 41 [jv_P 136, jv_I v1, jv_I v2, jv_I v3, v4, v5, v6] [] (LL n l) g Q) ∧
    (¬ (g 136 6) ≤ v3 →
     jv_At jv_T jv_ml kY_frozen 60 [jv_P 136, jv_I v1, jv_I v2, jv_I v3, jv_I (0 : Int), v5, v6] [] (LL n l) g Q)) :
  jv_At jv_T jv_ml kY_frozen 49 [jv_P 136, jv_I v1, jv_I v2, jv_I v3, v4, v5, v6] [] (LL n l) g Q :=
  jv_of_wp (gok9 (A := A)) (md := []) (stop := [4, 41, 49, 60]) (tab := jt_Y_frozen) rfl 400 _ _ _ _ _ h
set_option maxRecDepth 100000 in
theorem sg_Y_frozen_60 {A : jA} {n l : Nat} {g : jv_S} {Q : jv_V → jv_L → jv_S → Prop} {v1 v2 v3 v4 : Int} {v5 v6 : jv_V} (h :
   (0 ≤ v3 ∧ v3 < 10) ∧
    ((g 162 v3) ≤ v4 →
     jv_r32 (v3 + (1 : Int)) ∧
      jv_At jv_T jv_ml kY_frozen 49 [jv_P 136, jv_I v1, jv_I v2, jv_I (v3 + (1 : Int)), jv_I v4, v5, v6] [] (LL n l) g Q) ∧
    (¬ (g 162 v3) ≤ v4 →
     jv_r32 ((2 : Int) * v3) ∧
      jv_r32 (((2 : Int) * v3) + v4) ∧
      (0 ≤ (((2 : Int) * v3) + v4) ∧ (((2 : Int) * v3) + v4) < 20) ∧
      (v4 = 0 →
       jv_Ca jv_T jv_ml kY_isHeld [jv_P 136, jv_I v3, jv_I v1] (LL n l) g (fun r L2 g2 => jv_At jv_T jv_ml kY_frozen 95 [jv_P 136, jv_I v1, jv_I v2, jv_I v3, jv_I v4, jv_I (g 163 (((2 : Int) * v3) + v4)), v6] (jv_pu r []) L2 g2 Q)) ∧
      (¬ v4 = 0 →
       jv_r32 ((2 : Int) * v3) ∧
        (0 ≤ ((2 : Int) * v3) ∧ ((2 : Int) * v3) < 20) ∧
        ((0 ≤ v1 ∧ v1 < 2147483648 ∧ 0 ≤ (g 163 ((2 : Int) * v3)) ∧ (g 163 ((2 : Int) * v3)) < 31)) ∧
        ((0 ≤ v1 ∧ v1 < 2147483648 ∧ 0 ≤ (g 163 (((2 : Int) * v3) + v4)) ∧ (g 163 (((2 : Int) * v3) + v4)) < 31)) ∧
        ((hb v1 (g 163 (((2 : Int) * v3) + v4))) = 0 →
         jv_r32 (v4 + (1 : Int)) ∧
          jv_At jv_T jv_ml kY_frozen 60 [jv_P 136, jv_I v1, jv_I v2, jv_I v3, jv_I (v4 + (1 : Int)), jv_I (g 163 (((2 : Int) * v3) + v4)), jv_I (hb v1 (g 163 ((2 : Int) * v3)))] [] (LL n l) g Q) ∧
        (¬ (hb v1 (g 163 (((2 : Int) * v3) + v4))) = 0 →
         ((hb v1 (g 163 ((2 : Int) * v3))) = 0 →
           jv_r32 (v4 + (1 : Int)) ∧
            jv_At jv_T jv_ml kY_frozen 60 [jv_P 136, jv_I (jv_and v1 (jv_xor (jv_shl (1 : Int) (g 163 (((2 : Int) * v3) + v4))) (-1 : Int))), jv_I (1 : Int), jv_I v3, jv_I (v4 + (1 : Int)), jv_I (g 163 (((2 : Int) * v3) + v4)), jv_I (hb v1 (g 163 ((2 : Int) * v3)))] [] (LL n l) g Q) ∧
          (¬ (hb v1 (g 163 ((2 : Int) * v3))) = 0 →
           jv_r32 (v4 + (1 : Int)) ∧
            jv_At jv_T jv_ml kY_frozen 60 [jv_P 136, jv_I v1, jv_I v2, jv_I v3, jv_I (v4 + (1 : Int)), jv_I (g 163 (((2 : Int) * v3) + v4)), jv_I (hb v1 (g 163 ((2 : Int) * v3)))] [] (LL n l) g Q))))) :
  jv_At jv_T jv_ml kY_frozen 60 [jv_P 136, jv_I v1, jv_I v2, jv_I v3, jv_I v4, v5, v6] [] (LL n l) g Q :=
  jv_of_wp (gok9 (A := A)) (md := []) (stop := [4, 41, 49, 60]) (tab := jt_Y_frozen) rfl 400 _ _ _ _ _ h
set_option maxRecDepth 100000 in
theorem sg_Y_frozen_95 {A : jA} {n l : Nat} {g : jv_S} {Q : jv_V → jv_L → jv_S → Prop} {v1 v2 v3 v4 v5 s0 : Int} {v6 : jv_V} (h :
   ((0 ≤ v1 ∧ v1 < 2147483648 ∧ 0 ≤ v5 ∧ v5 < 31)) ∧
    ((hb v1 v5) = 0 →
     jv_r32 (v4 + (1 : Int)) ∧
      jv_At jv_T jv_ml kY_frozen 60 [jv_P 136, jv_I v1, jv_I v2, jv_I v3, jv_I (v4 + (1 : Int)), jv_I v5, jv_I s0] [] (LL n l) g Q) ∧
    (¬ (hb v1 v5) = 0 →
     (s0 = 0 →
       jv_r32 (v4 + (1 : Int)) ∧
        jv_At jv_T jv_ml kY_frozen 60 [jv_P 136, jv_I (jv_and v1 (jv_xor (jv_shl (1 : Int) v5) (-1 : Int))), jv_I (1 : Int), jv_I v3, jv_I (v4 + (1 : Int)), jv_I v5, jv_I s0] [] (LL n l) g Q) ∧
      (¬ s0 = 0 →
       jv_r32 (v4 + (1 : Int)) ∧
        jv_At jv_T jv_ml kY_frozen 60 [jv_P 136, jv_I v1, jv_I v2, jv_I v3, jv_I (v4 + (1 : Int)), jv_I v5, jv_I s0] [] (LL n l) g Q))) :
  jv_At jv_T jv_ml kY_frozen 95 [jv_P 136, jv_I v1, jv_I v2, jv_I v3, jv_I v4, jv_I v5, v6] [jv_I s0] (LL n l) g Q :=
  jv_of_wp (gok9 (A := A)) (md := []) (stop := [4, 41, 49, 60]) (tab := jt_Y_frozen) rfl 400 _ _ _ _ _ h
theorem tr_Y_frozen {A : jA} {B : jB} {n l : Nat} {g : jv_S} {Q : jv_V → jv_L → jv_S → Prop} (hM : MN A g) (hB' : BW A B) (hT : TMr A B g)
  (hQ : Q (jv_I (FZ A B : Nat)) (LL n l) g) :
  jv_Ca jv_T jv_ml kY_frozen [jv_P 136] (LL n l) g Q := by
  have hw := hM.1
  have w2 := hw.2.1
  have f2 := hM.2.2.1
  obtain ⟨b1, b2, b3, b4, b5⟩ := id hB'
  obtain ⟨t1, t2, t3, t5⟩ := id hT
  have hrm : ∀ c, c < ln A → rm A c ≤ 2 := fun c hc => (hw.2.2.2.1 c hc).2.2.2.2.1
  have hc162 : ∀ c : Nat, c < ln A → g 163 (2 * (c : Int)) = g 163 (2 * (c : Int) + (0 : Nat)) := fun c _ => congrArg (g 163) (by omega)
  have exit : ∀ (s : Nat) (v w x y : jv_V), s = FZ A B → jv_At jv_T jv_ml kY_frozen 41 [jv_P 136, jv_I s, jv_I 0, v, w, x, y] [] (LL n l) g Q := by
    intro s v w x y h
    apply sg_Y_frozen_41 (A := A)
    exact ⟨fun _ => by rw [h]; exact hQ, fun h => absurd rfl h⟩
  have rounds : ∀ (q s : Nat) (v w x y : jv_V), pcr s 30 = q → s < 2 ^ 30 → GI (fN A B) (fz0 B) s → jv_At jv_T jv_ml kY_frozen 41 [jv_P 136, jv_I s, jv_I 1, v, w, x, y] [] (LL n l) g Q := by
    intro q
    induction q using Nat.strongRecOn with
    | ind q ih =>
      intro s v w x y hq h1 h2
      apply sg_Y_frozen_41 (A := A)
      refine ⟨fun h => by omega, fun _ => ?_⟩
      -- u: the set now; what is known of the lanes before c
      have inner : ∀ c, c ≤ ln A → ∀ (u : Nat) (mo : Int) (w x y : jv_V), sb u s → GI (fN A B) (fz0 B) u → (mo = if u = s then 0 else 1) → (u = s → ∀ d k : Nat, d < c → (k : Int) < B 8 d → s.testBit (B 9 (2 * d + k)).toNat = true → fN A B (B 9 (2 * d + k)).toNat s) → jv_At jv_T jv_ml kY_frozen 49 [jv_P 136, jv_I u, jv_I mo, jv_I c, w, x, y] [] (LL n l) g Q := by
        apply loop_up
        intro c hc ihc u mo w x y u1 u2 hmo u3
        apply sg_Y_frozen_49 (A := A)
        refine ⟨fun h => ?_, fun h => ?_⟩
        · by_cases he : u = s
          · rw [if_pos he] at hmo
            have : s = FZ A B := by
              refine gf_eq h1 ⟨h2.1, fun i hi => ?_⟩ h2.2
              obtain ⟨d, k, d1, d2, d3⟩ := (fz0_bit hB').mp (h2.1 i hi)
              have hx := u3 he d k (by omega) d2 (by rw [d3, Int.toNat_natCast]; exact hi)
              rw [d3, Int.toNat_natCast] at hx
              exact hx
            rw [hmo, he]
            exact exit s _ _ _ _ this
          · rw [if_neg he] at hmo
            rw [hmo]
            exact ih _ (by have := pcr_lt u1 h1 he; omega) u _ _ _ _ rfl (sb_lt u1 h1) u2
        · have hc' : c < ln A := by omega
          have q1 := b2 c hc'
          have q2 := hrm c hc'
          have f8 := t2 c hc'
          have ks : ∀ (e k : Nat), (k : Int) + e = B 8 c → ∀ (u : Nat) (mo : Int) (x y : jv_V), sb u s → GI (fN A B) (fz0 B) u → (mo = if u = s then 0 else 1) → (u = s → ∀ d j : Nat, (d < c ∧ (j : Int) < B 8 d) ∨ (d = c ∧ j < k) → s.testBit (B 9 (2 * d + j)).toNat = true → fN A B (B 9 (2 * d + j)).toNat s) → jv_At jv_T jv_ml kY_frozen 60 [jv_P 136, jv_I u, jv_I mo, jv_I c, jv_I k, x, y] [] (LL n l) g Q := by
            intro e
            induction e with
            | zero =>
              intro k hk u mo x y u1 u2 hmo u3
              apply sg_Y_frozen_60 (A := A)
              rw [f8]
              exact ⟨⟨by omega, by omega⟩, fun _ => ⟨⟨by omega, by omega⟩, ihc hc' u mo _ _ _ u1 u2 hmo (fun he d j hd hj => u3 he d j (by rcases (show d < c ∨ d = c by omega) with h4 | h4; exact Or.inl ⟨h4, hj⟩; subst h4; exact Or.inr ⟨rfl, by omega⟩))⟩, fun h => by omega⟩
            | succ e ihe =>
              intro k hk u mo x y u1 u2 hmo u3
              have hul := sb_lt u1 h1
              have u31 := i31 hul (by omega)
              obtain ⟨x1, x2, x3⟩ := b3 c k hc' (by omega)
              obtain ⟨j, hj⟩ := Int.eq_ofNat_of_zero_le x1
              obtain ⟨y1, y2, y3⟩ := b3 c 0 hc' (by omega)
              rw [Nat.add_zero] at y1 y2
              obtain ⟨i, hi⟩ := Int.eq_ofNat_of_zero_le y1
              have f9 : g 163 (2 * (c : Int) + k) = j := by rw [t3 c k hc' (by omega), hj]
              have f90 : g 163 (2 * (c : Int)) = i := by
                rw [hc162 c hc', t3 c 0 hc' (by omega)]
                exact hi
              rw [hj] at x2
              rw [hi] at y2
              -- the load j stays, or goes
              have stay : (u.testBit j = true → fN A B j u) → ∀ x y : jv_V, jv_At jv_T jv_ml kY_frozen 60 [jv_P 136, jv_I u, jv_I mo, jv_I c, jv_I (k + 1), x, y] [] (LL n l) g Q := fun hx x y => ihe (k + 1) (by omega) u mo x y u1 u2 hmo (fun he d j' hd hb => by
                by_cases hdk : d = c ∧ j' = k
                · obtain ⟨rfl, rfl⟩ := hdk
                  rw [hj, Int.toNat_natCast] at hb ⊢
                  rw [he] at hx
                  exact hx hb
                · exact u3 he d j' (by omega) hb)
              have goes : u.testBit j = true → ¬ fN A B j u → ∀ x y : jv_V, jv_At jv_T jv_ml kY_frozen 60 [jv_P 136, jv_I (bd u (2 ^ j) : Nat), jv_I 1, jv_I c, jv_I (k + 1), x, y] [] (LL n l) g Q := fun hb hx x y => by
                have hne : bd u (2 ^ j) ≠ s := fun he => by
                  have := u1 j hb
                  rw [← he, bd1_bit] at this
                  simp at this
                have hr : rmv (fN A B) j u = bd u (2 ^ j) := by unfold rmv; rw [hb, dc_f.mpr hx]; rfl
                refine ihe (k + 1) (by omega) _ 1 x y (sb_trans bd_sb u1) ?_ (by rw [if_neg hne]) (fun he => absurd he hne)
                rw [← hr]
                exact rmv_GI (fN_mon A B) u2
              apply sg_Y_frozen_60 (A := A)
              rw [f8, f9, f90]
              refine ⟨⟨by omega, by omega⟩, fun h => by omega, fun _ => ⟨⟨by omega, by omega⟩, ⟨by omega, by omega⟩, ⟨by omega, by omega⟩, fun hk0 => ?_, fun hk0 => ⟨⟨by omega, by omega⟩, ⟨by omega, by omega⟩, ⟨by omega, by omega, by omega, by omega⟩, ⟨by omega, by omega, by omega, by omega⟩, fun h3 => ⟨⟨by omega, by omega⟩, stay (fun hb => by rw [hb_t hb] at h3; omega) _ _⟩, fun h3 => ⟨fun h4 => ⟨⟨by omega, by omega⟩, ?_⟩, fun h4 => ⟨⟨by omega, by omega⟩, stay (fun _ => ?_) _ _⟩⟩⟩⟩⟩
              · have hk0' : k = 0 := by omega
                subst hk0'
                have hij : i = j := by rw [Nat.add_zero, hi] at hj; omega
                subst hij
                have hf0 := fN_0 (T := u) hw hB' hc' (by omega) hi
                refine tr_Y_isHeld hM hB' hT hc' (by omega) hi hul ?_
                apply sg_Y_frozen_95 (A := A)
                rw [jb0]
                refine ⟨⟨by omega, by omega, by omega, by omega⟩, fun h3 => ⟨⟨by omega, by omega⟩, stay (fun hb => by rw [hb_t hb] at h3; omega) _ _⟩, fun h3 => ⟨fun h4 => ⟨⟨by omega, by omega⟩, ?_⟩, fun h4 => ⟨⟨by omega, by omega⟩, stay (fun _ => hf0.mpr (Classical.byContradiction (fun h5 => h4 (dc_f.mpr h5)))) _ _⟩⟩⟩
                have hb : u.testBit i = true := by
                  cases hb' : u.testBit i with
                  | true => rfl
                  | false => exact absurd (hb_f hb') h3
                rw [jb_clr hul (by omega) (by omega)]
                exact goes hb (fun h5 => dc_f.mp h4 (hf0.mp h5)) _ _
              · have hk1 : k = 1 := by omega
                subst hk1
                have hf1 := fN_1 (T := u) hB' hc' (by omega) hj
                rw [hi, Int.toNat_natCast] at hf1
                have hb : u.testBit j = true := by
                  cases hb' : u.testBit j with
                  | true => rfl
                  | false => exact absurd (hb_f hb') h3
                rw [jb_clr hul (by omega) (by omega)]
                exact goes hb (fun h5 => by rw [hb_t (hf1.mp h5)] at h4; omega) _ _
              · have hk1 : k = 1 := by omega
                subst hk1
                have hf1 := fN_1 (T := u) hB' hc' (by omega) hj
                rw [hi, Int.toNat_natCast] at hf1
                refine hf1.mpr ?_
                cases hb' : u.testBit i with
                | true => rfl
                | false => exact absurd (hb_f hb') h4
          exact ks (B 8 c).toNat 0 (by omega) u mo _ _ u1 u2 hmo (fun he d j hd => u3 he d j (by omega) (by omega))
      exact inner 0 (by omega) s 0 _ _ _ (sb_refl _) h2 (by rw [if_pos rfl]) (fun _ d k hd => by omega)
  obtain ⟨cn, hcn⟩ := Int.eq_ofNat_of_zero_le b1.1
  have start : ∀ i, i ≤ cn → ∀ (s : Int) (v w x y : jv_V), s = (mk (fun i => decide (B 4 i ≠ -9)) i : Nat) → jv_At jv_T jv_ml kY_frozen 4 [jv_P 136, jv_I s, jv_I i, v, w, x, y] [] (LL n l) g Q := by
    apply loop_up
    intro i hi ih s v w x y hs
    apply sg_Y_frozen_4 (A := A)
    rw [t1.1, hcn]
    refine ⟨fun h => ?_, fun h => ?_⟩
    · have hic : i = cn := by omega
      subst hic
      rw [hs, show mk (fun i => decide (B 4 i ≠ -9)) i = fz0 B by unfold fz0; rw [hcn, Int.toNat_natCast]]
      exact rounds _ _ _ _ _ _ rfl (fz0_lt hB') GI_0
    · have f158 := (t5 i (by omega)).2.2.2.1
      rw [f158]
      refine ⟨⟨by omega, by omega⟩, fun h2 => ⟨⟨by omega, by omega⟩, ih (by omega) _ _ _ _ _ ?_⟩, fun h2 => ⟨⟨by omega, by omega⟩, ih (by omega) _ _ _ _ _ (mk_or (by omega) hs (decide_eq_true h2))⟩⟩
      have hl : mk (fun i => decide (B 4 i ≠ -9)) i < 2147483648 := i31 (mk_lt (fun i => decide (B 4 i ≠ -9)) i) (by omega)
      rw [hs, show (0 : Int) = ((0 : Nat) : Int) from rfl, jb_or hl (by decide), Nat.or_zero]
      exact mk_no (p := fun i => decide (B 4 i ≠ -9)) rfl (decide_eq_false (fun h3 => h3 h2))
  exact sg_Y_frozen_0 (A := A) (start 0 (by omega) 0 _ _ _ _ rfl)
