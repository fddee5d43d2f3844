/-! ===== loads: the class's ticks, sending ===== -/
theorem gof_0 {A : jA} {B : jB} {c : Nat} : (∀ b, (gof A B c).1 0 b = B 0 b) ∧ ((gof A B c).2 = false → (gof A B c).1 = B) ∧ ((gof A B c).2 = true → ∀ b, (gof A B c).1 10 b = if b = c then 1 else B 10 b) := by
  unfold gof
  split
  · exact ⟨fun b => rfl, fun h => (by cases h), fun _ b => rfl⟩
  · split
    · exact ⟨fun b => rfl, fun _ => rfl, fun h => by cases h⟩
    · exact ⟨fun b => rfl, fun h => (by cases h), fun _ b => rfl⟩
/-- its turn in a pass -/
def itn (B : jB) (h : Int) (i : Nat) : Prop := ((0 < B 1 i ∧ h = 1) ∨ (¬ 0 < B 1 i ∧ h = 0)) ∧ B 7 i = 0
noncomputable def stp (A : jA) (h : Int) (B : jB) (c : Nat) : jB := if B 8 c = 0 ∨ B 10 c = 1 then B else if dc (itn B h (B 9 (2 * c)).toNat) = true then (gof A B c).1 else B
noncomputable def pas (A : jA) (h : Int) (B : jB) : Nat → jB
  | 0 => B
  | c + 1 => stp A h (pas A h B c) c
theorem stp_0 {A : jA} {h : Int} {B : jB} {c : Nat} : ∀ b, stp A h B c 0 b = B 0 b := by
  intro b
  unfold stp
  split
  · rfl
  · split
    · exact gof_0.1 b
    · rfl
theorem pas_0 {A : jA} {h : Int} {B : jB} : ∀ c b, pas A h B c 0 b = B 0 b := by
  intro c
  induction c with
  | zero => intro b; rfl
  | succ c ih => intro b; show stp A h (pas A h B c) c 0 b = _; rw [stp_0, ih]
def mvd (A : jA) (B : jB) : Nat := mk (fun c => decide (B 10 c = 1)) (ln A)
theorem mvd_lt {A : jA} {B : jB} : mvd A B < 2 ^ ln A := mk_lt _ _
theorem mvd_set {A : jA} {B B' : jB} {c : Nat} (hc : c < ln A) (h : ∀ b, B' 10 b = if b = c then 1 else B 10 b) : mvd A B' = mvd A B ||| 2 ^ c := by
  apply Nat.eq_of_testBit_eq
  intro i
  unfold mvd
  rw [Nat.testBit_or, mk_bit, mk_bit, Nat.testBit_two_pow, h i]
  by_cases hi : i = c
  · subst hi; simp [hc]
  · rw [if_neg hi, decide_eq_false (show ¬ c = i from fun h => hi h.symm)]; simp
theorem mvd_bit {A : jA} {B : jB} {c : Nat} (hc : c < ln A) : (mvd A B).testBit c = decide (B 10 c = 1) := by
  unfold mvd
  rw [mk_bit, decide_eq_true hc, Bool.true_and]
set_option maxRecDepth 100000 in
theorem sg_Tr_standsIn_0 {A : jA} {n l : Nat} {g : jv_S} {Q : jv_V → jv_L → jv_S → Prop} {v1 v2 : Int} (h :
   (v2 < 0 →
     Q (jv_I (-2 : Int)) (LL n l) g) ∧
    (¬ v2 < 0 →
     (0 ≤ v1 ∧ v1 < 10) ∧
      ((g 100 v1) ≤ v2 →
       Q (jv_I (-2 : Int)) (LL n l) g) ∧
      (¬ (g 100 v1) ≤ v2 →
       (0 ≤ v1 ∧ v1 < 10) ∧
        (0 ≤ v2 ∧ v2 < 2) ∧
        Q (jv_I (g 89 (v1 * 2 + v2))) (LL n l) g))) :
  jv_At jv_T jv_ml kTr_standsIn 0 [jv_P 87, jv_I v1, jv_I v2] [] (LL n l) g Q :=
  jv_of_wp (gok9 (A := A)) (md := []) (stop := []) (tab := jt_Tr_standsIn) rfl 400 _ _ _ _ _ h
set_option maxRecDepth 100000 in
theorem sg_Tr_numbered_0 {A : jA} {n l : Nat} {g : jv_S} {Q : jv_V → jv_L → jv_S → Prop} {v1 : Int} (h :
   (v1 < 0 →
     Q (jv_D (0 : Int)) (LL n l) g) ∧
    (¬ v1 < 0 →
     ((g 87 5) ≤ v1 →
       Q (jv_D (0 : Int)) (LL n l) g) ∧
      (¬ (g 87 5) ≤ v1 →
       (0 ≤ v1 ∧ v1 < 30) ∧
        Q (jv_D (g 88 v1)) (LL n l) g))) :
  jv_At jv_T jv_ml kTr_numbered 0 [jv_P 87, jv_I v1] [] (LL n l) g Q :=
  jv_of_wp (gok9 (A := A)) (md := []) (stop := []) (tab := jt_Tr_numbered) rfl 400 _ _ _ _ _ h
set_option maxRecDepth 100000 in
theorem sg_Tr_moveFirsts_0 {A : jA} {n l : Nat} {g : jv_S} {Q : jv_V → jv_L → jv_S → Prop} {v1 v2 : Int} (h :
   jv_At jv_T jv_ml kTr_moveFirsts 5 [jv_P 87, jv_I v1, jv_I v2, jv_I v2, jv_I (0 : Int), jv_U, jv_U] [] (LL n l) g Q) :
  jv_At jv_T jv_ml kTr_moveFirsts 0 [jv_P 87, jv_I v1, jv_I v2, jv_U, jv_U, jv_U, jv_U] [] (LL n l) g Q :=
  jv_of_wp (gok9 (A := A)) (md := []) (stop := [5]) (tab := jt_Tr_moveFirsts) rfl 400 _ _ _ _ _ h
set_option maxRecDepth 100000 in
theorem sg_Tr_moveFirsts_5 {A : jA} {n l : Nat} {g : jv_S} {Q : jv_V → jv_L → jv_S → Prop} {v1 v2 v3 v4 : Int} {v5 v6 : jv_V} (h :
   ((g 14 1) ≤ v4 →
     Q (jv_I v3) (LL n l) g) ∧
    (¬ (g 14 1) ≤ v4 →
     jv_Ca jv_T jv_ml kTr_standsIn [jv_P 87, jv_I v4, jv_I (0 : Int)] (LL n l) g (fun r L2 g2 => jv_At jv_T jv_ml kTr_moveFirsts 25 [jv_P 87, jv_I v1, jv_I v2, jv_I v3, jv_I v4, v5, v6] (jv_pu r [jv_P 87]) L2 g2 Q))) :
  jv_At jv_T jv_ml kTr_moveFirsts 5 [jv_P 87, jv_I v1, jv_I v2, jv_I v3, jv_I v4, v5, v6] [] (LL n l) g Q :=
  jv_of_wp (gok9 (A := A)) (md := []) (stop := [5]) (tab := jt_Tr_moveFirsts) rfl 400 _ _ _ _ _ h
set_option maxRecDepth 100000 in
theorem sg_Tr_moveFirsts_25 {A : jA} {n l : Nat} {g : jv_S} {Q : jv_V → jv_L → jv_S → Prop} {v1 v2 v3 v4 s1 : Int} {v5 v6 : jv_V} (h :
   jv_Ca jv_T jv_ml kTr_numbered [jv_P 87, jv_I s1] (LL n l) g (fun r L2 g2 => jv_At jv_T jv_ml kTr_moveFirsts 28 [jv_P 87, jv_I v1, jv_I v2, jv_I v3, jv_I v4, v5, v6] (jv_pu r []) L2 g2 Q)) :
  jv_At jv_T jv_ml kTr_moveFirsts 25 [jv_P 87, jv_I v1, jv_I v2, jv_I v3, jv_I v4, v5, v6] [jv_I s1, jv_P 87] (LL n l) g Q :=
  jv_of_wp (gok9 (A := A)) (md := []) (stop := [5]) (tab := jt_Tr_moveFirsts) rfl 400 _ _ _ _ _ h
set_option maxRecDepth 100000 in
theorem sg_Tr_moveFirsts_28 {A : jA} {n l : Nat} {g : jv_S} {Q : jv_V → jv_L → jv_S → Prop} {v1 v2 v3 v4 s0 : Int} {v5 v6 : jv_V} (h :
   (s0 = 0 →
     jv_r32 (v4 + (1 : Int)) ∧
      jv_At jv_T jv_ml kTr_moveFirsts 5 [jv_P 87, jv_I v1, jv_I v2, jv_I v3, jv_I (v4 + (1 : Int)), jv_D s0, v6] [] (LL n l) g Q) ∧
    (¬ s0 = 0 →
     ((0 ≤ v3 ∧ v3 < 2147483648 ∧ 0 ≤ v4 ∧ v4 < 31)) ∧
      ((hb v3 v4) = 0 →
       (0 < s0 ∧ (LL n l)[(s0 - 1).toNat]? = some (11, 8, [])) ∧
        ((g 1000 (8 * s0 + 7)) = (g 87 6) →
         jv_r32 (v4 + (1 : Int)) ∧
          jv_At jv_T jv_ml kTr_moveFirsts 5 [jv_P 87, jv_I v1, jv_I v2, jv_I v3, jv_I (v4 + (1 : Int)), jv_D s0, v6] [] (LL n l) g Q) ∧
        (¬ (g 1000 (8 * s0 + 7)) = (g 87 6) →
         (0 < s0 ∧ (LL n l)[(s0 - 1).toNat]? = some (11, 8, [])) ∧
          ((g 1000 (8 * s0 + 1)) < (1 : Int) →
           (v1 = (0 : Int) →
             ((1 : Int) = 0 →
               jv_r32 (v4 + (1 : Int)) ∧
                jv_At jv_T jv_ml kTr_moveFirsts 5 [jv_P 87, jv_I v1, jv_I v2, jv_I v3, jv_I (v4 + (1 : Int)), jv_D s0, jv_I (1 : Int)] [] (LL n l) g Q) ∧
              (¬ (1 : Int) = 0 →
               jv_Ca jv_T jv_ml kTr_moves [jv_P 87, jv_D s0] (LL n l) g (fun r L2 g2 => jv_At jv_T jv_ml kTr_moveFirsts 95 [jv_P 87, jv_I v1, jv_I v2, jv_I v3, jv_I v4, jv_D s0, jv_I (1 : Int)] (jv_pu r []) L2 g2 Q))) ∧
            (¬ v1 = (0 : Int) →
             ((0 : Int) = 0 →
               jv_r32 (v4 + (1 : Int)) ∧
                jv_At jv_T jv_ml kTr_moveFirsts 5 [jv_P 87, jv_I v1, jv_I v2, jv_I v3, jv_I (v4 + (1 : Int)), jv_D s0, jv_I (0 : Int)] [] (LL n l) g Q) ∧
              (¬ (0 : Int) = 0 →
               jv_Ca jv_T jv_ml kTr_moves [jv_P 87, jv_D s0] (LL n l) g (fun r L2 g2 => jv_At jv_T jv_ml kTr_moveFirsts 95 [jv_P 87, jv_I v1, jv_I v2, jv_I v3, jv_I v4, jv_D s0, jv_I (0 : Int)] (jv_pu r []) L2 g2 Q)))) ∧
          (¬ (g 1000 (8 * s0 + 1)) < (1 : Int) →
           (v1 = (1 : Int) →
             ((1 : Int) = 0 →
               jv_r32 (v4 + (1 : Int)) ∧
                jv_At jv_T jv_ml kTr_moveFirsts 5 [jv_P 87, jv_I v1, jv_I v2, jv_I v3, jv_I (v4 + (1 : Int)), jv_D s0, jv_I (1 : Int)] [] (LL n l) g Q) ∧
              (¬ (1 : Int) = 0 →
               jv_Ca jv_T jv_ml kTr_moves [jv_P 87, jv_D s0] (LL n l) g (fun r L2 g2 => jv_At jv_T jv_ml kTr_moveFirsts 95 [jv_P 87, jv_I v1, jv_I v2, jv_I v3, jv_I v4, jv_D s0, jv_I (1 : Int)] (jv_pu r []) L2 g2 Q))) ∧
            (¬ v1 = (1 : Int) →
             ((0 : Int) = 0 →
               jv_r32 (v4 + (1 : Int)) ∧
                jv_At jv_T jv_ml kTr_moveFirsts 5 [jv_P 87, jv_I v1, jv_I v2, jv_I v3, jv_I (v4 + (1 : Int)), jv_D s0, jv_I (0 : Int)] [] (LL n l) g Q) ∧
              (¬ (0 : Int) = 0 →
               jv_Ca jv_T jv_ml kTr_moves [jv_P 87, jv_D s0] (LL n l) g (fun r L2 g2 => jv_At jv_T jv_ml kTr_moveFirsts 95 [jv_P 87, jv_I v1, jv_I v2, jv_I v3, jv_I v4, jv_D s0, jv_I (0 : Int)] (jv_pu r []) L2 g2 Q)))))) ∧
      (¬ (hb v3 v4) = 0 →
       jv_r32 (v4 + (1 : Int)) ∧
        jv_At jv_T jv_ml kTr_moveFirsts 5 [jv_P 87, jv_I v1, jv_I v2, jv_I v3, jv_I (v4 + (1 : Int)), jv_D s0, v6] [] (LL n l) g Q))) :
  jv_At jv_T jv_ml kTr_moveFirsts 28 [jv_P 87, jv_I v1, jv_I v2, jv_I v3, jv_I v4, v5, v6] [jv_D s0] (LL n l) g Q :=
  jv_of_wp (gok9 (A := A)) (md := []) (stop := [5]) (tab := jt_Tr_moveFirsts) rfl 400 _ _ _ _ _ h
set_option maxRecDepth 100000 in
theorem sg_Tr_moveFirsts_95 {A : jA} {n l : Nat} {g : jv_S} {Q : jv_V → jv_L → jv_S → Prop} {v1 v2 v3 v4 v5 v6 s0 : Int} (h :
   (s0 = 0 →
     jv_r32 (v4 + (1 : Int)) ∧
      jv_At jv_T jv_ml kTr_moveFirsts 5 [jv_P 87, jv_I v1, jv_I v2, jv_I v3, jv_I (v4 + (1 : Int)), jv_D v5, jv_I v6] [] (LL n l) g Q) ∧
    (¬ s0 = 0 →
     jv_r32 (v4 + (1 : Int)) ∧
      jv_At jv_T jv_ml kTr_moveFirsts 5 [jv_P 87, jv_I v1, jv_I v2, jv_I (jv_or v3 (jv_shl (1 : Int) v4)), jv_I (v4 + (1 : Int)), jv_D v5, jv_I v6] [] (LL n l) g Q)) :
  jv_At jv_T jv_ml kTr_moveFirsts 95 [jv_P 87, jv_I v1, jv_I v2, jv_I v3, jv_I v4, jv_D v5, jv_I v6] [jv_I s0] (LL n l) g Q :=
  jv_of_wp (gok9 (A := A)) (md := []) (stop := [5]) (tab := jt_Tr_moveFirsts) rfl 400 _ _ _ _ _ h
theorem tr_Tr_moveFirsts {A : jA} {B : jB} {n l : Nat} {g : jv_S} {Q : jv_V → jv_L → jv_S → Prop} {rb : Int} {h : Int} (hh : h = 0 ∨ h = 1) (hN : CN A g) (hW : CW 40 A g) (hB' : BW A B) (hT : TC A B rb l g) (hti : B 0 1 ≤ 1000000)
  (hQ : ∀ g' : jv_S, BW A (pas A h B (ln A)) → TC A (pas A h B (ln A)) rb l g' → (∀ (p : Nat) (i : Int), ¬ (p = 89 ∨ p = 100 ∨ p = 1000) → g' p i = g p i) → Q (jv_I (mvd A (pas A h B (ln A)) : Nat)) (LL n l) g') :
  jv_Ca jv_T jv_ml kTr_moveFirsts [jv_P 87, jv_I h, jv_I (mvd A B : Nat)] (LL n l) g Q := by
  have hw := hN.1
  have w2 := hw.2.1
  have hrm : ∀ c, c < ln A → rm A c ≤ 2 := fun c hc => (hw.2.2.2.1 c hc).2.2.2.2.1
  have main : ∀ c, c ≤ ln A → ∀ (g' : jv_S) (v w : jv_V), BW A (pas A h B c) → TC A (pas A h B c) rb l g' → (∀ (p : Nat) (i : Int), ¬ (p = 89 ∨ p = 100 ∨ p = 1000) → g' p i = g p i) → jv_At jv_T jv_ml kTr_moveFirsts 5 [jv_P 87, jv_I h, jv_I (mvd A B : Nat), jv_I (mvd A (pas A h B c) : Nat), jv_I c, v, w] [] (LL n l) (g') Q := by
    apply loop_up
    intro c hc ih g' v w hb ht hf
    have hN' : CN A g' := CN_fr hN (fun p i a b => hf _ _ (by omega))
    have hW' : CW 40 A g' := CW_fr hW (hf _ _ (by omega)) (fun i => hf _ _ (by omega)) (fun i => hf _ _ (by omega)) (fun i => hf _ _ (by omega))
    have f2 := hN'.2.2.1
    apply sg_Tr_moveFirsts_5 (A := A)
    refine ⟨fun h1 => ?_, fun h1 => ?_⟩
    · have hcl : c = ln A := by omega
      subst hcl
      exact hQ g' hb ht hf
    · have hc' : c < ln A := by omega
      have ih' := fun g1 v w b1 t1 f1 => ih hc' g1 v w b1 t1 f1
      obtain ⟨B0, hB0⟩ : ∃ B0, B0 = pas A h B c := ⟨_, rfl⟩
      have hps : pas A h B (c + 1) = stp A h (pas A h B c) c := rfl
      rw [hps, ← hB0] at ih'
      rw [← hB0] at hb ht ⊢
      have htk : B0 0 1 = B 0 1 := by rw [hB0]; exact pas_0 c 1
      obtain ⟨b1, b2, b3, b4, b5⟩ := id hb
      obtain ⟨t1, t2, t3, t4, t5⟩ := id ht
      have f8 := t2 c hc'
      have q1 := b2 c hc'
      have q2 := hrm c hc'
      have m31 := i31 (mvd_lt (A := A) (B := B0)) (by omega)
      apply sg_Tr_standsIn_0 (A := A)
      rw [f8]
      refine ⟨fun h2 => by omega, fun _ => ⟨⟨by omega, by omega⟩, fun h2 => ?_, fun h2 => ⟨⟨by omega, by omega⟩, ⟨by omega, by omega⟩, ?_⟩⟩⟩
      · have e : stp A h B0 c = B0 := by unfold stp; rw [if_pos (Or.inl (by omega))]
        rw [e] at ih'
        apply sg_Tr_moveFirsts_25 (A := A)
        apply sg_Tr_numbered_0 (A := A)
        refine ⟨fun _ => ?_, fun h3 => by omega⟩
        apply sg_Tr_moveFirsts_28 (A := A)
        exact ⟨fun _ => ⟨⟨by omega, by omega⟩, ih' g' _ _ hb ht hf⟩, fun h3 => absurd rfl h3⟩
      · have hp9 := t3 c 0 hc' (by omega)
        have hp9' : g' 89 ((c : Int) * 2 + 0) = B0 9 (2 * c + 0) := hp9
        obtain ⟨x1, x2, x3⟩ := b3 c 0 hc' (by omega)
        rw [Nat.add_zero] at x1 x2 x3 hp9'
        rw [hp9']
        obtain ⟨i, hi⟩ := Int.eq_ofNat_of_zero_le x1
        rw [hi] at x2 x3
        rw [Int.toNat_natCast] at x3
        obtain ⟨r1, r2, r3, r4, r5, r6, r7, r8, r9, r10⟩ := t5 i x2
        have gq := LL_get (n := n) (l := l) (q := rb + i) (by omega) (by omega)
        rw [hi]
        apply sg_Tr_moveFirsts_25 (A := A)
        apply sg_Tr_numbered_0 (A := A)
        rw [t1.1, r1]
        refine ⟨fun h3 => by omega, fun _ => ⟨fun h3 => by omega, fun _ => ⟨⟨by omega, by omega⟩, ?_⟩⟩⟩
        apply sg_Tr_moveFirsts_28 (A := A)
        rw [r3, t1.2]
        have r10' := r10 (by omega)
        have skip : (B0 10 c = 1 ∨ ¬ itn B0 h i) → ∀ v w : jv_V, jv_At jv_T jv_ml kTr_moveFirsts 5 [jv_P 87, jv_I h, jv_I (mvd A B : Nat), jv_I (mvd A B0 : Nat), jv_I (c + 1), v, w] [] (LL n l) (g') Q := by
          intro hs v w
          have e : stp A h B0 c = B0 := by
            unfold stp
            by_cases h10 : B0 8 c = 0 ∨ B0 10 c = 1
            · rw [if_pos h10]
            · rw [if_neg h10, hi, Int.toNat_natCast]
              rcases hs with hs | hs
              · exact absurd (Or.inr hs) h10
              · rw [dc_f.mpr hs]; rfl
          rw [e] at ih'
          exact ih' g' v w hb ht hf
        have mv : B0 10 c ≠ 1 → itn B0 h i → ∀ w : jv_V, ∀ x : Int, jv_Ca jv_T jv_ml kTr_moves [jv_P 87, jv_D (rb + i)] (LL n l) g' (fun r L2 g2 => jv_At jv_T jv_ml kTr_moveFirsts 95 [jv_P 87, jv_I h, jv_I (mvd A B : Nat), jv_I (mvd A B0 : Nat), jv_I (c : Int), jv_D (rb + i), jv_I x] (jv_pu r []) L2 g2 Q) := by
          intro h10 hit w x
          have e : stp A h B0 c = (gof A B0 c).1 := by
            unfold stp
            rw [if_neg (fun h3 => h3.elim (fun h4 => by omega) h10), hi, Int.toNat_natCast, dc_t.mpr hit]
            rfl
          rw [e] at ih'
          refine tr_Tr_moves hN' hW' hb ht (by omega) hc' (by omega) hi hit.2 (fun g1 k1 k2 k3 => ?_)
          apply sg_Tr_moveFirsts_95 (A := A)
          rw [jb0]
          have hf1 : ∀ (p : Nat) (i : Int), ¬ (p = 89 ∨ p = 100 ∨ p = 1000) → g1 p i = g p i := fun p i hp => by rw [k3 _ _ hp]; exact hf p i hp
          refine ⟨fun h3 => ⟨⟨by omega, by omega⟩, ?_⟩, fun h3 => ⟨⟨by omega, by omega⟩, ?_⟩⟩
          · have := ih' g1 (jv_D (rb + i)) (jv_I x) k1 k2 hf1
            rw [gof_0.2.1 h3] at this
            exact this
          · have h3' : (gof A B0 c).2 = true := by simpa using h3
            have hm := mvd_set (A := A) hc' (gof_0.2.2 h3')
            have := ih' g1 (jv_D (rb + i)) (jv_I x) k1 k2 hf1
            rw [hm] at this
            rw [jb_shl1 (by omega), jb_or m31 (Nat.lt_of_le_of_lt (Nat.pow_le_pow_right (n := 2) (by decide) (show c ≤ 30 by omega)) (by decide))]
            exact this
        have hbm := mvd_bit (A := A) (B := B0) hc'
        refine ⟨fun h3 => by omega, fun _ => ⟨⟨by omega, by omega, by omega, by omega⟩, fun h3 => ?_, fun h3 => ⟨⟨by omega, by omega⟩, skip (Or.inl ?_) _ _⟩⟩⟩
        · have h10 : B0 10 c ≠ 1 := by
            intro h10
            rw [decide_eq_true h10] at hbm
            rw [hb_t hbm] at h3
            omega
          refine ⟨gq, fun h4 => ⟨⟨by omega, by omega⟩, skip (Or.inr (fun hx => by have := hx.2; have := r10'.mp h4; omega)) _ _⟩, fun h4 => ⟨gq, fun h5 => ⟨fun h6 => ⟨fun h7 => by omega, fun _ => mv h10 ?_ w _⟩, fun h6 => ⟨fun _ => ⟨⟨by omega, by omega⟩, skip (Or.inr (fun hx => by rcases hx.1 with hx | hx <;> omega)) _ _⟩, fun h7 => absurd rfl h7⟩⟩, fun h5 => ⟨fun h6 => ⟨fun h7 => by omega, fun _ => mv h10 ?_ w _⟩, fun h6 => ⟨fun _ => ⟨⟨by omega, by omega⟩, skip (Or.inr (fun hx => by rcases hx.1 with hx | hx <;> omega)) _ _⟩, fun h7 => absurd rfl h7⟩⟩⟩⟩
          · have h7 := (b5 i x2).2.2.2.2.2
            exact ⟨Or.inr ⟨by omega, h6⟩, by
              by_cases h8 : B0 7 i = 1
              · exact absurd (r10'.mpr h8) h4
              · omega⟩
          · have h7 := (b5 i x2).2.2.2.2.2
            exact ⟨Or.inl ⟨by omega, h6⟩, by
              by_cases h8 : B0 7 i = 1
              · exact absurd (r10'.mpr h8) h4
              · omega⟩
        · cases hd : decide (B0 10 c = 1) with
          | true => exact of_decide_eq_true hd
          | false => rw [hd] at hbm; exact absurd (hb_f hbm) h3
  exact sg_Tr_moveFirsts_0 (A := A) (main 0 (by omega) g _ _ hB' hT (fun _ _ _ => rfl))
noncomputable def tkP (A : jA) (B : jB) : jB := pas A 0 (pas A 1 B (ln A)) (ln A)
noncomputable def tkB (A : jA) (B : jB) : jB := nB (tkP A B)
noncomputable def tkc (A : jA) (B : jB) : Nat := pc (mvd A (tkP A B))
def rst (B : jB) : Prop := (∀ i, B 7 i = 0) ∧ ∀ c, B 10 c = 0
theorem tkB_rst {A : jA} {B : jB} : rst (tkB A B) := ⟨fun _ => rfl, fun _ => rfl⟩
theorem tkB_0 {A : jA} {B : jB} : tkB A B 0 0 = B 0 0 ∧ tkB A B 0 1 = B 0 1 + 1 := by
  constructor
  · show tkP A B 0 0 = _
    unfold tkP
    rw [pas_0, pas_0]
  · show tkP A B 0 1 + 1 = _
    unfold tkP
    rw [pas_0, pas_0]
theorem pc_le {s m : Nat} (h : s < 2 ^ m) (hm : m ≤ 30) : pc s ≤ m := by
  unfold pc
  rw [pcr_hi h hm]
  exact pcr_le s m
theorem mvd_rst {A : jA} {B : jB} (h : rst B) : mvd A B = 0 := by
  unfold mvd
  rw [mk_zero]
  intro i _
  rw [h.2 i]
  rfl
set_option maxRecDepth 100000 in
theorem sg_Tr_tickOnce_0 {A : jA} {n l : Nat} {g : jv_S} {Q : jv_V → jv_L → jv_S → Prop} (h :
   jv_Ca jv_T jv_ml kTr_moveFirsts [jv_P 87, jv_I (1 : Int), jv_I (0 : Int)] (LL n l) g (fun r L2 g2 => jv_At jv_T jv_ml kTr_tickOnce 6 [jv_P 87, jv_U] (jv_pu r []) L2 g2 Q)) :
  jv_At jv_T jv_ml kTr_tickOnce 0 [jv_P 87, jv_U] [] (LL n l) g Q :=
  jv_of_wp (gok9 (A := A)) (md := []) (stop := []) (tab := jt_Tr_tickOnce) rfl 400 _ _ _ _ _ h
set_option maxRecDepth 100000 in
theorem sg_Tr_tickOnce_6 {A : jA} {n l : Nat} {g : jv_S} {Q : jv_V → jv_L → jv_S → Prop} {s0 : Int} {v1 : jv_V} (h :
   jv_Ca jv_T jv_ml kTr_moveFirsts [jv_P 87, jv_I (0 : Int), jv_I s0] (LL n l) g (fun r L2 g2 => jv_At jv_T jv_ml kTr_tickOnce 13 [jv_P 87, jv_I s0] (jv_pu r []) L2 g2 Q)) :
  jv_At jv_T jv_ml kTr_tickOnce 6 [jv_P 87, v1] [jv_I s0] (LL n l) g Q :=
  jv_of_wp (gok9 (A := A)) (md := []) (stop := []) (tab := jt_Tr_tickOnce) rfl 400 _ _ _ _ _ h
set_option maxRecDepth 100000 in
theorem sg_Tr_tickOnce_13 {A : jA} {n l : Nat} {g : jv_S} {Q : jv_V → jv_L → jv_S → Prop} {v1 s0 : Int} (h :
   jv_r32 ((g 87 6) + (1 : Int)) ∧
    ((0 ≤ s0 ∧ s0 < 1024)) ∧
    Q (jv_I (pc s0.toNat : Int)) (LL n l) (jv_up g 87 6 ((g 87 6) + (1 : Int)))) :
  jv_At jv_T jv_ml kTr_tickOnce 13 [jv_P 87, jv_I v1] [jv_I s0] (LL n l) g Q :=
  jv_of_wp (gok9 (A := A)) (md := []) (stop := []) (tab := jt_Tr_tickOnce) rfl 400 _ _ _ _ _ h
theorem tr_Tr_tickOnce {A : jA} {B : jB} {n l : Nat} {g : jv_S} {Q : jv_V → jv_L → jv_S → Prop} {rb : Int} (hN : CN A g) (hW : CW 40 A g) (hB' : BW A B) (hT : TC A B rb l g) (hR : rst B) (hti : B 0 1 ≤ 1000000)
  (hQ : ∀ g' : jv_S, BW A (tkB A B) → TC A (tkB A B) rb l g' → (∀ (p : Nat) (i : Int), ¬ (p = 87 ∨ p = 89 ∨ p = 100 ∨ p = 1000) → g' p i = g p i) → Q (jv_I (tkc A B : Nat)) (LL n l) g') :
  jv_Ca jv_T jv_ml kTr_tickOnce [jv_P 87] (LL n l) g Q := by
  have w2 := hN.1.2.1
  have hp2 := pw10 w2
  apply sg_Tr_tickOnce_0 (A := A)
  have h0 := tr_Tr_moveFirsts (n := n) (h := 1) (Q := fun r L2 g2 => jv_At jv_T jv_ml kTr_tickOnce 6 [jv_P 87, jv_U] (jv_pu r []) L2 g2 Q) (Or.inr rfl) hN hW hB' hT hti (fun g1 a1 a2 a3 => ?_)
  · rw [mvd_rst hR] at h0
    exact h0
  · apply sg_Tr_tickOnce_6 (A := A)
    have hti' : pas A 1 B (ln A) 0 1 ≤ 1000000 := by rw [pas_0]; exact hti
    refine tr_Tr_moveFirsts (h := 0) (Or.inl rfl) (CN_fr hN (fun p i a b => a3 _ _ (by omega))) (CW_fr hW (a3 _ _ (by omega)) (fun i => a3 _ _ (by omega)) (fun i => a3 _ _ (by omega)) (fun i => a3 _ _ (by omega))) a1 a2 hti' (fun g2 b1 b2 b3 => ?_)
    apply sg_Tr_tickOnce_13 (A := A)
    have hml := mvd_lt (A := A) (B := tkP A B)
    have e0 : tkP A B 0 1 = B 0 1 := by unfold tkP; rw [pas_0, pas_0]
    have b1 : BW A (tkP A B) := b1
    have b2 : TC A (tkP A B) rb l g2 := b2
    have hb0 := b1.1
    rw [b2.1.2, show pas A 0 (pas A 1 B (ln A)) (ln A) = tkP A B from rfl, Int.toNat_natCast]
    refine ⟨⟨by omega, by omega⟩, ⟨by omega, by omega⟩, hQ _ (BW_n b1) ?_ (fun p i hp => by rw [up_ne (by omega), b3 _ _ (by omega), a3 _ _ (by omega)])⟩
    obtain ⟨t1, t2, t3, t4, t5⟩ := b2
    refine ⟨?_, fun c hc => ?_, fun c k hc hk => ?_, t4, fun i hi => ?_⟩
    · rw [up_ne (by omega), up_eq rfl rfl]
      exact ⟨t1.1, rfl⟩
    · rw [up_ne (by omega)]; exact t2 c hc
    · rw [up_ne (by omega)]; exact t3 c k hc hk
    · have q : ∀ (j v : Int), jv_up g2 87 6 v 1000 j = g2 1000 j := fun j v => up_ne (by omega)
      have q88 : ∀ (j v : Int), jv_up g2 87 6 v 88 j = g2 88 j := fun j v => up_ne (by omega)
      rw [q, q, q, q, q, q, q, q, q88]
      obtain ⟨r1, r2, r3, r4, r5, r6, r7, r8, r9, r10⟩ := t5 i hi
      refine ⟨r1, r2, r3, r4, r5, r6, r7, r8, ?_, fun _ => ?_⟩
      · show _ ≤ tkP A B 0 1 + 1
        omega
      · show _ = tkP A B 0 1 + 1 ↔ (0 : Int) = 1
        omega
/-- n ticks: the state and the moves -/
noncomputable def tkN (A : jA) (B : jB) : Nat → jB × Nat
  | 0 => (B, 0)
  | k + 1 => (tkB A (tkN A B k).1, (tkN A B k).2 + tkc A (tkN A B k).1)
theorem tkN_0 {A : jA} {B : jB} : ∀ k, (tkN A B k).1 0 0 = B 0 0 ∧ (tkN A B k).1 0 1 = B 0 1 + k := by
  intro k
  induction k with
  | zero => exact ⟨rfl, by show B 0 1 = _; omega⟩
  | succ k ih =>
    obtain ⟨h1, h2⟩ := tkB_0 (A := A) (B := (tkN A B k).1)
    exact ⟨by show tkB A (tkN A B k).1 0 0 = _; rw [h1, ih.1], by show tkB A (tkN A B k).1 0 1 = _; rw [h2, ih.2]; omega⟩
theorem tkN_rst {A : jA} {B : jB} (h : rst B) : ∀ k, rst (tkN A B k).1 := by
  intro k
  cases k with
  | zero => exact h
  | succ k => exact tkB_rst
theorem tkN_2 {A : jA} {B : jB} (hw : wf A) : ∀ k, (tkN A B k).2 ≤ 10 * k := by
  intro k
  induction k with
  | zero => exact Nat.le_refl _
  | succ k ih =>
    have h1 : tkc A (tkN A B k).1 ≤ ln A := pc_le mvd_lt (by have := hw.2.1; omega)
    have := hw.2.1
    show (tkN A B k).2 + tkc A (tkN A B k).1 ≤ _
    omega
set_option maxRecDepth 100000 in
theorem sg_X_ticks_0 {A : jA} {n l : Nat} {g : jv_S} {Q : jv_V → jv_L → jv_S → Prop} {v1 : Int} (h :
   (v1 < 0 →
     Q (jv_I (-2 : Int)) (LL n l) g) ∧
    (¬ v1 < 0 →
     (v1 ≤ (50 : Int) →
       ((g 14 1) = 0 →
         Q (jv_I (-3 : Int)) (LL n l) g) ∧
        (¬ (g 14 1) = 0 →
         jv_At jv_T jv_ml kX_ticks 30 [jv_P 1, jv_I v1, jv_I (0 : Int), jv_I (0 : Int)] [] (LL n l) g Q)) ∧
      (¬ v1 ≤ (50 : Int) →
       Q (jv_I (-2 : Int)) (LL n l) g))) :
  jv_At jv_T jv_ml kX_ticks 0 [jv_P 1, jv_I v1, jv_U, jv_U] [] (LL n l) g Q :=
  jv_of_wp (gok9 (A := A)) (md := []) (stop := [30]) (tab := jt_X_ticks) rfl 400 _ _ _ _ _ h
set_option maxRecDepth 100000 in
theorem sg_X_ticks_30 {A : jA} {n l : Nat} {g : jv_S} {Q : jv_V → jv_L → jv_S → Prop} {v1 v2 v3 : Int} (h :
   (v1 ≤ v3 →
     Q (jv_I v2) (LL n l) g) ∧
    (¬ v1 ≤ v3 →
     jv_Ca jv_T jv_ml kTr_tickOnce [jv_P 87] (LL n l) g (fun r L2 g2 => jv_At jv_T jv_ml kX_ticks 43 [jv_P 1, jv_I v1, jv_I v2, jv_I v3] (jv_pu r [jv_I v2]) L2 g2 Q))) :
  jv_At jv_T jv_ml kX_ticks 30 [jv_P 1, jv_I v1, jv_I v2, jv_I v3] [] (LL n l) g Q :=
  jv_of_wp (gok9 (A := A)) (md := []) (stop := [30]) (tab := jt_X_ticks) rfl 400 _ _ _ _ _ h
set_option maxRecDepth 100000 in
theorem sg_X_ticks_43 {A : jA} {n l : Nat} {g : jv_S} {Q : jv_V → jv_L → jv_S → Prop} {v1 v2 v3 s0 s1 : Int} (h :
   jv_r32 (s0 + s1) ∧
    jv_r32 (v3 + (1 : Int)) ∧
    jv_At jv_T jv_ml kX_ticks 30 [jv_P 1, jv_I v1, jv_I (s0 + s1), jv_I (v3 + (1 : Int))] [] (LL n l) g Q) :
  jv_At jv_T jv_ml kX_ticks 43 [jv_P 1, jv_I v1, jv_I v2, jv_I v3] [jv_I s1, jv_I s0] (LL n l) g Q :=
  jv_of_wp (gok9 (A := A)) (md := []) (stop := [30]) (tab := jt_X_ticks) rfl 400 _ _ _ _ _ h
theorem tr_X_ticks {A : jA} {B : jB} {n l : Nat} {g : jv_S} {Q : jv_V → jv_L → jv_S → Prop} {rb : Int} {m : Int} (hN : CN A g) (hW : CW 40 A g) (hB' : BW A B) (hT : TC A B rb l g) (hR : rst B) (hti : B 0 1 ≤ 900000)
  (hQ : ∀ (g' : jv_S) (k : Nat), (k : Int) = (if 0 ≤ m ∧ m ≤ 50 ∧ ln A ≠ 0 then m else 0) → BW A (tkN A B k).1 → TC A (tkN A B k).1 rb l g' → (∀ (p : Nat) (i : Int), ¬ (p = 87 ∨ p = 89 ∨ p = 100 ∨ p = 1000) → g' p i = g p i) → Q (jv_I (if ¬ (0 ≤ m ∧ m ≤ 50) then -2 else if ln A = 0 then -3 else ((tkN A B k).2 : Nat))) (LL n l) g') :
  jv_Ca jv_T jv_ml kX_ticks [jv_P 1, jv_I m] (LL n l) g Q := by
  have hw := hN.1
  have f2 := hN.2.2.1
  apply sg_X_ticks_0 (A := A)
  rw [f2]
  refine ⟨fun h => ?_, fun h => ⟨fun h1 => ⟨fun h2 => ?_, fun h2 => ?_⟩, fun h1 => ?_⟩⟩
  · have := hQ g 0 (by rw [if_neg (by omega)]; rfl) hB' hT (fun _ _ _ => rfl)
    rw [if_pos (by omega)] at this
    exact this
  · have := hQ g 0 (by rw [if_neg (by omega)]; rfl) hB' hT (fun _ _ _ => rfl)
    rw [if_neg (by omega), if_pos (by omega)] at this
    exact this
  · obtain ⟨m, rfl⟩ := Int.eq_ofNat_of_zero_le (show 0 ≤ m by omega)
    have main : ∀ k, k ≤ m → ∀ (g' : jv_S), BW A (tkN A B k).1 → TC A (tkN A B k).1 rb l g' → (∀ (p : Nat) (i : Int), ¬ (p = 87 ∨ p = 89 ∨ p = 100 ∨ p = 1000) → g' p i = g p i) → jv_At jv_T jv_ml kX_ticks 30 [jv_P 1, jv_I m, jv_I ((tkN A B k).2 : Nat), jv_I k] [] (LL n l) (g') Q := by
      apply loop_up
      intro k hk ih g' b1 b2 hf
      apply sg_X_ticks_30 (A := A)
      refine ⟨fun h3 => ?_, fun h3 => ?_⟩
      · have hkm : k = m := by omega
        subst hkm
        have := hQ g' k (by rw [if_pos (by omega)]) b1 b2 hf
        rw [if_neg (by omega), if_neg (by omega)] at this
        exact this
      · have ht := (tkN_0 (A := A) (B := B) k).2
        refine tr_Tr_tickOnce (CN_fr hN (fun p i a b => hf _ _ (by omega))) (CW_fr hW (hf _ _ (by omega)) (fun i => hf _ _ (by omega)) (fun i => hf _ _ (by omega)) (fun i => hf _ _ (by omega))) b1 b2 (tkN_rst hR k) (by omega) (fun g1 c1 c2 c3 => ?_)
        apply sg_X_ticks_43 (A := A)
        have hs := tkN_2 (A := A) (B := B) hw (k + 1)
        have hs : (tkN A B k).2 + tkc A (tkN A B k).1 ≤ 10 * (k + 1) := hs
        exact ⟨⟨by omega, by omega⟩, ⟨by omega, by omega⟩, ih (by omega) g1 c1 c2 (fun p i hp => by rw [c3 _ _ hp]; exact hf p i hp)⟩
    exact main 0 (by omega) g hB' hT (fun _ _ _ => rfl)
  · have := hQ g 0 (by rw [if_neg (by omega)]; rfl) hB' hT (fun _ _ _ => rfl)
    rw [if_pos (by omega)] at this
    exact this
/-- what send answers, what comes of it, whether a load is made -/
noncomputable def snd' (A : jA) (B : jB) (kd x y : Int) : Int × jB × Nat := if ¬ ((0 ≤ x ∧ x < nd A) ∧ 0 ≤ y ∧ y < nd A) then (-1, B, 0) else if ¬ (0 ≤ kd ∧ kd ≤ 2) ∨ x = y then (-2, B, 0) else if chs A B kd (tk A (10 + x.toNat) y.toNat) = -9 then (-3, B, 0) else if ¬ B 0 0 < 30 then (-4, B, 0) else (B 0 0, sB B kd x y (chs A B kd (tk A (10 + x.toNat) y.toNat)).toNat, 1)
set_option maxRecDepth 100000 in
theorem sg_Ld_init_0 {A : jA} {n l : Nat} {g : jv_S} {Q : jv_V → jv_L → jv_S → Prop} {v0 v1 v2 v3 v4 : Int} (h :
   (0 < v0 ∧ (LL n l)[(v0 - 1).toNat]? = some (11, 8, [])) ∧
    (0 < v0 ∧ (LL n l)[(v0 - 1).toNat]? = some (11, 8, [])) ∧
    (0 < v0 ∧ (LL n l)[(v0 - 1).toNat]? = some (11, 8, [])) ∧
    (0 < v0 ∧ (LL n l)[(v0 - 1).toNat]? = some (11, 8, [])) ∧
    (0 < v0 ∧ (LL n l)[(v0 - 1).toNat]? = some (11, 8, [])) ∧
    (0 < v0 ∧ (LL n l)[(v0 - 1).toNat]? = some (11, 8, [])) ∧
    (0 < v0 ∧ (LL n l)[(v0 - 1).toNat]? = some (11, 8, [])) ∧
    (0 < v0 ∧ (LL n l)[(v0 - 1).toNat]? = some (11, 8, [])) ∧
    Q jv_U (LL n l) (jv_up (jv_up (jv_up (jv_up (jv_up (jv_up (jv_up g 1000 (8 * v0 + 4) (-9 : Int)) 1000 (8 * v0 + 6) (-9 : Int)) 1000 (8 * v0 + 7) (-9 : Int)) 1000 (8 * v0 + 0) v1) 1000 (8 * v0 + 1) v2) 1000 (8 * v0 + 2) v3) 1000 (8 * v0 + 3) v4)) :
  jv_At jv_T jv_ml kLd_init 0 [jv_D v0, jv_I v1, jv_I v2, jv_I v3, jv_I v4] [] (LL n l) g Q :=
  jv_of_wp (gok9 (A := A)) (md := []) (stop := []) (tab := jt_Ld_init) rfl 400 _ _ _ _ _ h
set_option maxRecDepth 100000 in
theorem sg_Tr_setOut_0 {A : jA} {n l : Nat} {g : jv_S} {Q : jv_V → jv_L → jv_S → Prop} {v1 v2 v3 v4 : Int} (h :
   (LL n l).length < 999 ∧
    (0 < (Int.ofNat (LL n l).length + 1) ∧ ((LL n l) ++ [(11, 8, [])])[((Int.ofNat (LL n l).length + 1) - 1).toNat]? = some (11, 8, [])) ∧
    jv_Ca jv_T jv_ml kLd_init [jv_D (Int.ofNat (LL n l).length + 1), jv_I ((jv_cll g (Int.ofNat (LL n l).length + 1)) 87 5), jv_I v1, jv_I v2, jv_I v3] ((LL n l) ++ [(11, 8, [])]) (jv_cll g (Int.ofNat (LL n l).length + 1)) (fun r L2 g2 => jv_At jv_T jv_ml kTr_setOut 14 [jv_P 87, jv_I v1, jv_I v2, jv_I v3, jv_I v4, jv_U] (jv_pu r [jv_D (Int.ofNat (LL n l).length + 1)]) L2 g2 Q)) :
  jv_At jv_T jv_ml kTr_setOut 0 [jv_P 87, jv_I v1, jv_I v2, jv_I v3, jv_I v4, jv_U] [] (LL n l) g Q :=
  jv_of_wp (gok9 (A := A)) (md := []) (stop := []) (tab := jt_Tr_setOut) rfl 400 _ _ _ _ _ h
set_option maxRecDepth 100000 in
theorem sg_Tr_setOut_14 {A : jA} {n l : Nat} {g : jv_S} {Q : jv_V → jv_L → jv_S → Prop} {v1 v2 v3 v4 s0 : Int} {v5 : jv_V} (h :
   (0 ≤ (g 87 5) ∧ (g 87 5) < 30) ∧ (0 < s0 ∧ (LL n l)[(s0 - 1).toNat]? = some (11, 8, [])) ∧ 
    jv_r32 ((g 87 5) + (1 : Int)) ∧
    jv_Ca jv_T jv_ml kTr_enter [jv_P 87, jv_D s0, jv_I v4] (LL n l) (jv_up (jv_up g 88 (g 87 5) s0) 87 5 ((g 87 5) + (1 : Int))) (fun r L2 g2 => jv_At jv_T jv_ml kTr_setOut 45 [jv_P 87, jv_I v1, jv_I v2, jv_I v3, jv_I v4, jv_D s0] (jv_pu r []) L2 g2 Q)) :
  jv_At jv_T jv_ml kTr_setOut 14 [jv_P 87, jv_I v1, jv_I v2, jv_I v3, jv_I v4, v5] [jv_D s0] (LL n l) g Q :=
  jv_of_wp (gok9 (A := A)) (md := []) (stop := []) (tab := jt_Tr_setOut) rfl 400 _ _ _ _ _ h
set_option maxRecDepth 100000 in
theorem sg_Tr_setOut_45 {A : jA} {n l : Nat} {g : jv_S} {Q : jv_V → jv_L → jv_S → Prop} {v1 v2 v3 v4 v5 : Int} (h :
   (0 < v5 ∧ (LL n l)[(v5 - 1).toNat]? = some (11, 8, [])) ∧
    Q (jv_I (g 1000 (8 * v5 + 0))) (LL n l) g) :
  jv_At jv_T jv_ml kTr_setOut 45 [jv_P 87, jv_I v1, jv_I v2, jv_I v3, jv_I v4, jv_D v5] [] (LL n l) g Q :=
  jv_of_wp (gok9 (A := A)) (md := []) (stop := []) (tab := jt_Tr_setOut) rfl 400 _ _ _ _ _ h
set_option maxRecDepth 100000 in
theorem sg_X_send_0 {A : jA} {n l : Nat} {g : jv_S} {Q : jv_V → jv_L → jv_S → Prop} {v1 v2 v3 : Int} (h :
   ((14 = 14) ∧ (LLx (LL n l)) ∧ (True)) ∧
    ((jb_p ((0 ≤ v2 ∧ v2 < g 14 0) ∧ 0 ≤ v3 ∧ v3 < g 14 0)) = 0 →
     Q (jv_I (-1 : Int)) (LL n l) g) ∧
    (¬ (jb_p ((0 ≤ v2 ∧ v2 < g 14 0) ∧ 0 ≤ v3 ∧ v3 < g 14 0)) = 0 →
     ((LLx (LL n l)) ∧ (True)) ∧
      ((jb_p (0 ≤ v1 ∧ v1 ≤ 2)) = 0 →
       Q (jv_I (-2 : Int)) (LL n l) g) ∧
      (¬ (jb_p (0 ≤ v1 ∧ v1 ≤ 2)) = 0 →
       (v2 = v3 →
         Q (jv_I (-2 : Int)) (LL n l) g) ∧
        (¬ v2 = v3 →
         (0 ≤ v2 ∧ v2 < 6) ∧
          (0 ≤ v3 ∧ v3 < 6) ∧
          jv_Ca jv_T jv_ml kTr_choose [jv_P 87, jv_I v1, jv_I (g 42 (v2 * 6 + v3))] (LL n l) g (fun r L2 g2 => jv_At jv_T jv_ml kX_send 48 [jv_P 1, jv_I v1, jv_I v2, jv_I v3, jv_U] (jv_pu r []) L2 g2 Q))))) :
  jv_At jv_T jv_ml kX_send 0 [jv_P 1, jv_I v1, jv_I v2, jv_I v3, jv_U] [] (LL n l) g Q :=
  jv_of_wp (gok9 (A := A)) (md := []) (stop := []) (tab := jt_X_send) rfl 400 _ _ _ _ _ h
set_option maxRecDepth 100000 in
theorem sg_X_send_48 {A : jA} {n l : Nat} {g : jv_S} {Q : jv_V → jv_L → jv_S → Prop} {v1 v2 v3 s0 : Int} {v4 : jv_V} (h :
   (s0 = (-9 : Int) →
     Q (jv_I (-3 : Int)) (LL n l) g) ∧
    (¬ s0 = (-9 : Int) →
     ((g 87 5) < (30 : Int) →
       jv_Ca jv_T jv_ml kTr_setOut [jv_P 87, jv_I v1, jv_I v2, jv_I v3, jv_I s0] (LL n l) g (fun r L2 g2 => jv_At jv_T jv_ml kX_send 87 [jv_P 1, jv_I v1, jv_I v2, jv_I v3, jv_I s0] (jv_pu r []) L2 g2 Q)) ∧
      (¬ (g 87 5) < (30 : Int) →
       Q (jv_I (-4 : Int)) (LL n l) g))) :
  jv_At jv_T jv_ml kX_send 48 [jv_P 1, jv_I v1, jv_I v2, jv_I v3, v4] [jv_I s0] (LL n l) g Q :=
  jv_of_wp (gok9 (A := A)) (md := []) (stop := []) (tab := jt_X_send) rfl 400 _ _ _ _ _ h
set_option maxRecDepth 100000 in
theorem sg_X_send_87 {A : jA} {n l : Nat} {g : jv_S} {Q : jv_V → jv_L → jv_S → Prop} {v1 v2 v3 v4 s0 : Int} (h :
   Q (jv_I s0) (LL n l) g) :
  jv_At jv_T jv_ml kX_send 87 [jv_P 1, jv_I v1, jv_I v2, jv_I v3, jv_I v4] [jv_I s0] (LL n l) g Q :=
  jv_of_wp (gok9 (A := A)) (md := []) (stop := []) (tab := jt_X_send) rfl 400 _ _ _ _ _ h
theorem tr_X_send {A : jA} {B : jB} {n l : Nat} {g : jv_S} {Q : jv_V → jv_L → jv_S → Prop} {rb : Int} {kd x y : Int} (hN : CN A g) (hW : CW 40 A g) (hB' : BW A B) (hT : TC A B rb l g) (hrb : rb + B 0 0 = 174 + l) (hl : l ≤ 500)
  (hQ : ∀ (g' : jv_S), BW A (snd' A B kd x y).2.1 → TC A (snd' A B kd x y).2.1 rb (l + (snd' A B kd x y).2.2) g' → rb + (snd' A B kd x y).2.1 0 0 = 174 + (l + (snd' A B kd x y).2.2 : Nat) → (∀ (p : Nat) (i : Int), ¬ (p = 87 ∨ p = 88 ∨ p = 89 ∨ p = 100 ∨ p = 1000) → g' p i = g p i) → Q (jv_I (snd' A B kd x y).1) (LL n (l + (snd' A B kd x y).2.2)) g') :
  jv_Ca jv_T jv_ml kX_send [jv_P 1, jv_I kd, jv_I x, jv_I y] (LL n l) g Q := by
  have hw := hN.1
  have w1 := hw.1
  have w2 := hw.2.1
  have f1 := hN.2.1
  obtain ⟨b1, b2, b3, b4, b5⟩ := id hB'
  obtain ⟨t1, t2, t3, t4, t5⟩ := id hT
  have hrm : ∀ c, c < ln A → rm A c ≤ 2 := fun c hc => (hw.2.2.2.1 c hc).2.2.2.2.1
  unfold snd' at hQ
  apply sg_X_send_0 (A := A)
  rw [jp0, jp0, f1]
  refine ⟨⟨rfl, LLx_ok, trivial⟩, fun h => ?_, fun h => ⟨⟨LLx_ok, trivial⟩, fun h2 => ?_, fun h2 => ⟨fun h3 => ?_, fun h3 => ?_⟩⟩⟩
  · rw [if_pos h] at hQ
    exact hQ g hB' hT hrb (fun _ _ _ => rfl)
  · rw [if_neg h, if_pos (Or.inl h2)] at hQ
    exact hQ g hB' hT hrb (fun _ _ _ => rfl)
  · rw [if_neg h, if_pos (Or.inr h3)] at hQ
    exact hQ g hB' hT hrb (fun _ _ _ => rfl)
  · rw [if_neg h, if_neg (by omega)] at hQ
    obtain ⟨x, rfl⟩ := Int.eq_ofNat_of_zero_le (show 0 ≤ x by omega)
    obtain ⟨y, rfl⟩ := Int.eq_ofNat_of_zero_le (show 0 ≤ y by omega)
    rw [Int.toNat_natCast, Int.toNat_natCast] at hQ
    have fw : g 42 ((x : Int) * 6 + y) = tk A (10 + x) y := hW.2.2.1 x y (by omega) (by omega)
    rw [fw]
    refine ⟨⟨by omega, by omega⟩, ⟨by omega, by omega⟩, tr_Tr_choose hN t2 (tk_ltl _ _) ?_⟩
    apply sg_X_send_48 (A := A)
    rw [t1.1]
    rcases chf_ok (A := A) (B := B) (kd := kd) (s := tk A (10 + x) y) (m := ln A) (ln A) (Nat.le_refl _) with h9 | ⟨d, d1, d2, d3, d4⟩
    · have h9 : chs A B kd (tk A (10 + x) y) = -9 := h9
      rw [h9] at hQ ⊢
      rw [if_pos rfl] at hQ
      exact ⟨fun _ => hQ g hB' hT hrb (fun _ _ _ => rfl), fun h => absurd rfl h⟩
    · have d2 : chs A B kd (tk A (10 + x) y) = (d : Int) := d2
      rw [d2] at hQ ⊢
      rw [if_neg (by omega), Int.toNat_natCast] at hQ
      refine ⟨fun h => by omega, fun _ => ⟨fun h4 => ?_, fun h4 => ?_⟩⟩
      · rw [if_neg (by omega)] at hQ
        have u2 := hrm d d1
        have u1 := b2 d d1
        obtain ⟨cn, hcn⟩ := Int.eq_ofNat_of_zero_le b1.1
        apply sg_Tr_setOut_0 (A := A)
        rw [LL_succ, LL_len, show Int.ofNat (173 + l) + 1 = rb + cn by rw [← hcn, hrb]; show ((173 + l : Nat) : Int) + 1 = _; omega]
        have gq := LL_get (n := n) (l := l + 1) (q := rb + cn) (by omega) (by omega)
        have c5 : jv_cll g (rb + cn) 87 5 = cn := by
          show (if 87 = 1000 ∧ _ then _ else g 87 5) = _
          rw [if_neg (fun h => by omega), t1.1, hcn]
        rw [c5]
        refine ⟨by omega, gq, ?_⟩
        apply sg_Ld_init_0 (A := A)
        refine ⟨gq, gq, gq, gq, gq, gq, gq, gq, ?_⟩
        obtain ⟨G, hG⟩ : ∃ G, G = jv_up (jv_up (jv_up (jv_up (jv_up (jv_up (jv_up (jv_cll g (rb + cn)) 1000 (8 * (rb + cn) + 4) (-9)) 1000 (8 * (rb + cn) + 6) (-9)) 1000 (8 * (rb + cn) + 7) (-9)) 1000 (8 * (rb + cn) + 0) cn) 1000 (8 * (rb + cn) + 1) kd) 1000 (8 * (rb + cn) + 2) x) 1000 (8 * (rb + cn) + 3) y := ⟨_, rfl⟩
        rw [← hG]
        have G0 : G 1000 (8 * (rb + cn) + 0) = cn := by rw [hG, up_ne (by omega), up_ne (by omega), up_ne (by omega), up_eq rfl rfl]
        have G1 : G 1000 (8 * (rb + cn) + 1) = kd := by rw [hG, up_ne (by omega), up_ne (by omega), up_eq rfl rfl]
        have G2 : G 1000 (8 * (rb + cn) + 2) = x := by rw [hG, up_ne (by omega), up_eq rfl rfl]
        have G3 : G 1000 (8 * (rb + cn) + 3) = y := by rw [hG, up_eq rfl rfl]
        have G5 : G 1000 (8 * (rb + cn) + 5) = 0 := by
          rw [hG, up_ne (by omega), up_ne (by omega), up_ne (by omega), up_ne (by omega), up_ne (by omega), up_ne (by omega), up_ne (by omega)]
          exact if_pos ⟨rfl, by omega, by omega⟩
        have G6 : G 1000 (8 * (rb + cn) + 6) = -9 := by rw [hG, up_ne (by omega), up_ne (by omega), up_ne (by omega), up_ne (by omega), up_ne (by omega), up_eq rfl rfl]
        have G7 : G 1000 (8 * (rb + cn) + 7) = -9 := by rw [hG, up_ne (by omega), up_ne (by omega), up_ne (by omega), up_ne (by omega), up_eq rfl rfl]
        have Gf : ∀ (p : Nat) (j : Int), ¬ (p = 1000 ∧ 8 * (rb + cn) ≤ j) → G p j = g p j := by
          intro p j hp
          rw [hG, up_ne (by omega), up_ne (by omega), up_ne (by omega), up_ne (by omega), up_ne (by omega), up_ne (by omega), up_ne (by omega)]
          exact if_neg (fun h => hp ⟨h.1, h.2.1⟩)
        apply sg_Tr_setOut_14 (A := A)
        have e87 : G 87 5 = cn := by rw [Gf _ _ (by omega), t1.1, hcn]
        rw [e87]
        refine ⟨⟨by omega, by omega⟩, gq, ⟨by omega, by omega⟩, ?_⟩
        have g8 : jv_up (jv_up G 88 cn (rb + cn)) 87 5 ((cn : Int) + 1) 100 d = B 8 d := by rw [up_ne (by omega), up_ne (by omega), Gf _ _ (by omega)]; exact t2 d d1
        have g0 : jv_up (jv_up G 88 cn (rb + cn)) 87 5 ((cn : Int) + 1) 1000 (8 * (rb + cn) + 0) = cn := by rw [up_ne (by omega), up_ne (by omega)]; exact G0
        have g5 : jv_up (jv_up (jv_up (jv_up (jv_up G 88 cn (rb + cn)) 87 5 ((cn : Int) + 1)) 89 ((d : Int) * 2 + B 8 d) cn) 100 d (B 8 d + 1)) 1000 (8 * (rb + cn) + 4) d 1000 (8 * (rb + cn) + 5) = 0 := by rw [up_ne (by omega), up_ne (by omega), up_ne (by omega), up_ne (by omega), up_ne (by omega)]; exact G5
        apply sg_Tr_enter_0 (A := A)
        rw [g8, g0, g5]
        refine ⟨⟨by omega, by omega⟩, ⟨by omega, by omega⟩, gq, ⟨by omega, by omega⟩, ⟨by omega, by omega⟩, ⟨by omega, by omega⟩, ⟨by omega, by omega⟩, gq, gq, ⟨by omega, by omega⟩, gq, ?_⟩
        apply sg_Tr_setOut_45 (A := A)
        obtain ⟨H, hH⟩ : ∃ H, H = jv_up (jv_up (jv_up (jv_up (jv_up (jv_up G 88 cn (rb + cn)) 87 5 ((cn : Int) + 1)) 89 ((d : Int) * 2 + B 8 d) cn) 100 d (B 8 d + 1)) 1000 (8 * (rb + cn) + 4) d) 1000 (8 * (rb + cn) + 5) (0 + 1) := ⟨_, rfl⟩
        rw [← hH]
        have H1 : ∀ (j : Int), j ≠ 8 * (rb + cn) + 4 → j ≠ 8 * (rb + cn) + 5 → H 1000 j = G 1000 j := fun j a b => by rw [hH, up_ne (by omega), up_ne (by omega), up_ne (by omega), up_ne (by omega), up_ne (by omega), up_ne (by omega)]
        rw [H1 _ (by omega) (by omega), G0]
        refine ⟨gq, ?_⟩
        apply sg_X_send_87 (A := A)
        have hk : 0 ≤ kd ∧ kd ≤ 2 := by omega
        have res := hQ H (BW_s hw hB' d1 d4 hk (by omega) (by omega) (by omega)) ⟨?_, fun c' hc' => ?_, fun c' k hc' hk => ?_, ⟨t4.1, ?_⟩, fun e he => ?_⟩ ?_ (fun p j hp => ?_)
        · rw [hcn] at res
          exact res
        · show H 87 5 = B 0 0 + 1 ∧ H 87 6 = B 0 1
          rw [hH, up_ne (by omega), up_ne (by omega), up_ne (by omega), up_ne (by omega), up_eq rfl rfl, up_ne (by omega), up_ne (by omega), up_ne (by omega), up_ne (by omega), up_ne (by omega), up_ne (by omega), Gf _ _ (by omega)]
          exact ⟨by omega, t1.2⟩
        · show H 100 c' = if c' = d then B 8 c' + 1 else B 8 c'
          rw [hH, up_ne (by omega), up_ne (by omega)]
          by_cases hcd : c' = d
          · subst hcd; rw [if_pos rfl, up_eq rfl rfl]
          · rw [if_neg hcd, up_ne (by omega), up_ne (by omega), up_ne (by omega), up_ne (by omega), Gf _ _ (by omega)]
            exact t2 c' hc'
        · have hk : (k : Int) < (if c' = d then B 8 c' + 1 else B 8 c') := hk
          have q1 := b2 c' hc'
          have q2 := hrm c' hc'
          show H 89 ((c' : Int) * 2 + k) = if 2 * c' + k = 2 * d + (B 8 d).toNat then B 0 0 else B 9 (2 * c' + k)
          rw [hH, up_ne (by omega), up_ne (by omega), up_ne (by omega)]
          by_cases hcd : c' = d
          · subst hcd
            rw [if_pos rfl] at hk
            by_cases hkt : (k : Int) = B 8 c'
            · rw [if_pos (by omega), up_eq rfl (by omega)]; exact hcn.symm
            · rw [if_neg (by omega), up_ne (by omega), up_ne (by omega), up_ne (by omega), Gf _ _ (by omega)]
              exact t3 c' k hc' (by omega)
          · rw [if_neg hcd] at hk
            rw [if_neg (by omega), up_ne (by omega), up_ne (by omega), up_ne (by omega), Gf _ _ (by omega)]
            exact t3 c' k hc' hk
        · show rb + (B 0 0 + 1) ≤ 174 + ((l + 1 : Nat) : Int)
          omega
        · have he : (e : Int) < B 0 0 + 1 := he
          show H 88 e = rb + e ∧ _ ∧ _ = (if e = (B 0 0).toNat then kd else B 1 e) ∧ _ = (if e = (B 0 0).toNat then (x : Int) else B 2 e) ∧ _ = (if e = (B 0 0).toNat then (y : Int) else B 3 e) ∧ _ = (if e = (B 0 0).toNat then (d : Int) else B 4 e) ∧ _ = (if e = (B 0 0).toNat then 1 else B 5 e) ∧ _ = (if e = (B 0 0).toNat then -9 else B 6 e) ∧ _ ≤ B 0 1 ∧ ((if e = (B 0 0).toNat then (d : Int) else B 4 e) ≠ -9 → (_ = B 0 1 ↔ (if e = (B 0 0).toNat then 0 else B 7 e) = 1))
          by_cases hec : e = (B 0 0).toNat
          · have hec' : e = cn := by omega
            subst hec'
            simp only [if_pos hec]
            have H4 : H 1000 (8 * (rb + e) + 4) = d := by rw [hH, up_ne (by omega), up_eq rfl rfl]
            have H5 : H 1000 (8 * (rb + e) + 5) = 1 := by rw [hH, up_eq rfl rfl]; rfl
            rw [H1 (8 * (rb + e) + 0) (by omega) (by omega), H1 (8 * (rb + e) + 1) (by omega) (by omega), H1 (8 * (rb + e) + 2) (by omega) (by omega), H1 (8 * (rb + e) + 3) (by omega) (by omega), H1 (8 * (rb + e) + 6) (by omega) (by omega), H1 (8 * (rb + e) + 7) (by omega) (by omega), H4, H5]
            refine ⟨by rw [hH, up_ne (by omega), up_ne (by omega), up_ne (by omega), up_ne (by omega), up_ne (by omega), up_eq rfl rfl], G0, G1, G2, G3, rfl, rfl, G6, by omega, fun _ => by omega⟩
          · simp only [if_neg hec]
            have he' : (e : Int) < B 0 0 := by omega
            have q : ∀ j : Int, 0 ≤ j → j < 8 → H 1000 (8 * (rb + e) + j) = g 1000 (8 * (rb + e) + j) := fun j a b => by rw [H1 _ (by omega) (by omega), Gf _ _ (by omega)]
            rw [q 0 (by omega) (by omega), q 1 (by omega) (by omega), q 2 (by omega) (by omega), q 3 (by omega) (by omega), q 4 (by omega) (by omega), q 5 (by omega) (by omega), q 6 (by omega) (by omega), q 7 (by omega) (by omega), hH, up_ne (by omega), up_ne (by omega), up_ne (by omega), up_ne (by omega), up_ne (by omega), up_ne (by omega), Gf _ _ (by omega)]
            exact t5 e he'
        · show rb + (B 0 0 + 1) = 174 + ((l + 1 : Nat) : Int)
          omega
        · rw [hH, up_ne (by omega), up_ne (by omega), up_ne (by omega), up_ne (by omega), up_ne (by omega), up_ne (by omega), Gf _ _ (by omega)]
      · rw [if_pos (by omega)] at hQ
        exact hQ g hB' hT hrb (fun _ _ _ => rfl)
