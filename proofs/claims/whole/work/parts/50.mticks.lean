/-! ===== loads: the model ===== -/
def TMr (A : jA) (B : jB) (g : jv_S) : Prop := (g 136 27 = B 0 0 ∧ g 136 38 = B 0 1) ∧ (∀ c : Nat, c < ln A → g 162 c = B 8 c) ∧ (∀ c k : Nat, c < ln A → (k : Int) < B 8 c → g 163 (2 * (c : Int) + k) = B 9 (2 * c + k)) ∧ ∀ i : Nat, (i : Int) < B 0 0 → g 155 i = B 1 i ∧ g 156 i = B 2 i ∧ g 157 i = B 3 i ∧ g 158 i = B 4 i ∧ g 159 i = B 5 i ∧ g 160 i = B 6 i
def TMm (A : jA) (B : jB) (g : jv_S) : Prop := (∀ i : Nat, (i : Int) < B 0 0 → g 161 i = B 7 i) ∧ ∀ c : Nat, c < ln A → g 164 c = B 10 c
theorem TMr_fr {A : jA} {B : jB} {g g' : jv_S} (h : TMr A B g) (hf : ∀ (p : Nat) (i : Int), ((155 ≤ p ∧ p ≤ 160) ∨ p = 162 ∨ p = 163 ∨ (p = 136 ∧ (i = 27 ∨ i = 38))) → g' p i = g p i) : TMr A B g' := by
  obtain ⟨h1, h2, h3, h4⟩ := h
  refine ⟨by rw [hf _ _ (by omega), hf _ _ (by omega)]; exact h1, fun c hc => by rw [hf _ _ (by omega)]; exact h2 c hc, fun c k hc hk => by rw [hf _ _ (by omega)]; exact h3 c k hc hk, fun i hi => ?_⟩
  rw [hf 155 _ (by omega), hf 156 _ (by omega), hf 157 _ (by omega), hf 158 _ (by omega), hf 159 _ (by omega), hf 160 _ (by omega)]
  exact h4 i hi
set_option maxRecDepth 100000 in
theorem sg_Y_laneFor_0 {A : jA} {n l : Nat} {g : jv_S} {Q : jv_V → jv_L → jv_S → Prop} {v1 v2 : Int} (h :
   jv_At jv_T jv_ml kY_laneFor 2 [jv_P 136, jv_I v1, jv_I v2, jv_I (0 : Int)] [] (LL n l) g Q) :
  jv_At jv_T jv_ml kY_laneFor 0 [jv_P 136, jv_I v1, jv_I v2, jv_U] [] (LL n l) g Q :=
  jv_of_wp (gok9 (A := A)) (md := []) (stop := [2]) (tab := jt_Y_laneFor) rfl 400 _ _ _ _ _ h
set_option maxRecDepth 100000 in
theorem sg_Y_laneFor_2 {A : jA} {n l : Nat} {g : jv_S} {Q : jv_V → jv_L → jv_S → Prop} {v1 v2 v3 : Int} (h :
   ((g 136 6) ≤ v3 →
     Q (jv_I (-9 : Int)) (LL n l) g) ∧
    (¬ (g 136 6) ≤ v3 →
     ((0 ≤ v2 ∧ v2 < 2147483648 ∧ 0 ≤ v3 ∧ v3 < 31)) ∧
      ((hb v2 v3) = 0 →
       jv_r32 (v3 + (1 : Int)) ∧
        jv_At jv_T jv_ml kY_laneFor 2 [jv_P 136, jv_I v1, jv_I v2, jv_I (v3 + (1 : Int))] [] (LL n l) g Q) ∧
      (¬ (hb v2 v3) = 0 →
       (0 ≤ v3 ∧ v3 < 10) ∧
        (0 ≤ v3 ∧ v3 < 10) ∧
        ((g 142 v3) ≤ (g 162 v3) →
         (v1 = (2 : Int) →
           Q (jv_I (-9 : Int)) (LL n l) g) ∧
          (¬ v1 = (2 : Int) →
           jv_r32 (v3 + (1 : Int)) ∧
            jv_At jv_T jv_ml kY_laneFor 2 [jv_P 136, jv_I v1, jv_I v2, jv_I (v3 + (1 : Int))] [] (LL n l) g Q)) ∧
        (¬ (g 142 v3) ≤ (g 162 v3) →
         Q (jv_I v3) (LL n l) g)))) :
  jv_At jv_T jv_ml kY_laneFor 2 [jv_P 136, jv_I v1, jv_I v2, jv_I v3] [] (LL n l) g Q :=
  jv_of_wp (gok9 (A := A)) (md := []) (stop := [2]) (tab := jt_Y_laneFor) rfl 400 _ _ _ _ _ h
theorem tr_Y_laneFor {A : jA} {B : jB} {n l : Nat} {g : jv_S} {Q : jv_V → jv_L → jv_S → Prop} {kd : Int} {s : Nat} (hM : MN A g) (h8 : ∀ c : Nat, c < ln A → g 162 c = B 8 c) (hs : s < 2 ^ ln A) (hQ : Q (jv_I (chs A B kd s)) (LL n l) g) :
  jv_Ca jv_T jv_ml kY_laneFor [jv_P 136, jv_I kd, jv_I s] (LL n l) g Q := by
  have w2 := hM.1.2.1
  have f2 := hM.2.2.1
  have s31 := i31 hs (by omega)
  have main : ∀ d, d ≤ ln A → chf A B kd s (ln A) (ln A - d) = chs A B kd s → jv_At jv_T jv_ml kY_laneFor 2 [jv_P 136, jv_I kd, jv_I s, jv_I d] [] (LL n l) g Q := by
    apply loop_up
    intro d hd ih h1
    apply sg_Y_laneFor_2 (A := A)
    refine ⟨fun h => ?_, fun h => ?_⟩
    · rw [show ln A - d = 0 by omega] at h1
      rw [← h1] at hQ
      exact hQ
    · have f8 := h8 d (by omega)
      have f17 := (hM.2.2.2.2.1 d (by omega)).2.2.1
      rw [chf_s (by omega)] at h1
      rw [f8, f17]
      cases hbit : s.testBit d with
      | false =>
        rw [hbit] at h1
        have e0 := hb_f hbit
        have := ih (by omega) h1
        rw [e0]
        repeat' (first | (with_reducible assumption) | apply And.intro | intro _)
        all_goals (first | omega | exact LLx_ok | assumption | skip)
      | true =>
        rw [if_pos hbit] at h1
        have e0 := hb_t hbit
        rw [e0]
        by_cases hr : B 8 d < rm A d
        · rw [if_pos hr] at h1
          rw [← h1] at hQ
          repeat' (first | (with_reducible assumption) | apply And.intro | intro _)
          all_goals (first | omega | exact LLx_ok | assumption | skip)
        · rw [if_neg hr] at h1
          by_cases hk : kd = 2
          · rw [if_pos hk] at h1
            rw [← h1] at hQ
            repeat' (first | (with_reducible assumption) | apply And.intro | intro _)
            all_goals (first | omega | exact LLx_ok | assumption | skip)
          · rw [if_neg hk] at h1
            have := ih (by omega) h1
            repeat' (first | (with_reducible assumption) | apply And.intro | intro _)
            all_goals (first | omega | exact LLx_ok | assumption | skip)
  exact sg_Y_laneFor_0 (A := A) (main 0 (by omega) rfl)
set_option maxRecDepth 100000 in
theorem sg_Y_comesIn_0 {A : jA} {n l : Nat} {g : jv_S} {Q : jv_V → jv_L → jv_S → Prop} {v1 v2 : Int} (h :
   jv_r32 ((2 : Int) * v2) ∧
    (0 ≤ v2 ∧ v2 < 10) ∧
    jv_r32 (((2 : Int) * v2) + (g 162 v2)) ∧
    (0 ≤ (((2 : Int) * v2) + (g 162 v2)) ∧ (((2 : Int) * v2) + (g 162 v2)) < 20) ∧ 
    (0 ≤ v2 ∧ v2 < 10) ∧
    jv_r32 ((g 162 v2) + (1 : Int)) ∧
    (0 ≤ v2 ∧ v2 < 10) ∧ 
    (0 ≤ v1 ∧ v1 < 30) ∧ 
    (0 ≤ v1 ∧ v1 < 30) ∧
    jv_r32 ((g 159 v1) + (1 : Int)) ∧
    (0 ≤ v1 ∧ v1 < 30) ∧ 
    Q jv_U (LL n l) (jv_up (jv_up (jv_up (jv_up g 163 (((2 : Int) * v2) + (g 162 v2)) v1) 162 v2 ((g 162 v2) + (1 : Int))) 158 v1 v2) 159 v1 ((g 159 v1) + (1 : Int)))) :
  jv_At jv_T jv_ml kY_comesIn 0 [jv_P 136, jv_I v1, jv_I v2] [] (LL n l) g Q :=
  jv_of_wp (gok9 (A := A)) (md := []) (stop := []) (tab := jt_Y_comesIn) rfl 400 _ _ _ _ _ h
set_option maxRecDepth 100000 in
theorem sg_Y_leaves_0 {A : jA} {n l : Nat} {g : jv_S} {Q : jv_V → jv_L → jv_S → Prop} {v1 : Int} (h :
   jv_r32 ((2 : Int) * v1) ∧
    jv_r32 ((2 : Int) * v1) ∧
    jv_r32 (((2 : Int) * v1) + (1 : Int)) ∧
    (0 ≤ (((2 : Int) * v1) + (1 : Int)) ∧ (((2 : Int) * v1) + (1 : Int)) < 20) ∧
    (0 ≤ ((2 : Int) * v1) ∧ ((2 : Int) * v1) < 20) ∧ 
    (0 ≤ v1 ∧ v1 < 10) ∧
    jv_r32 ((g 162 v1) - (1 : Int)) ∧
    (0 ≤ v1 ∧ v1 < 10) ∧ 
    (0 ≤ v1 ∧ v1 < 10) ∧ 
    Q jv_U (LL n l) (jv_up (jv_up (jv_up g 163 ((2 : Int) * v1) (g 163 (((2 : Int) * v1) + (1 : Int)))) 162 v1 ((g 162 v1) - (1 : Int))) 164 v1 (1 : Int))) :
  jv_At jv_T jv_ml kY_leaves 0 [jv_P 136, jv_I v1] [] (LL n l) g Q :=
  jv_of_wp (gok9 (A := A)) (md := []) (stop := []) (tab := jt_Y_leaves) rfl 400 _ _ _ _ _ h
set_option maxRecDepth 100000 in
theorem sg_Y_goFrom_0 {A : jA} {n l : Nat} {g : jv_S} {Q : jv_V → jv_L → jv_S → Prop} {v1 : Int} (h :
   jv_r32 ((2 : Int) * v1) ∧
    (0 ≤ ((2 : Int) * v1) ∧ ((2 : Int) * v1) < 20) ∧
    (0 ≤ v1 ∧ v1 < 10) ∧
    (0 ≤ (g 163 ((2 : Int) * v1)) ∧ (g 163 ((2 : Int) * v1)) < 30) ∧
    ((g 141 v1) = (g 157 (g 163 ((2 : Int) * v1))) →
     jv_Ca jv_T jv_ml kY_leaves [jv_P 136, jv_I v1] (LL n l) g (fun r L2 g2 => jv_At jv_T jv_ml kY_goFrom 29 [jv_P 136, jv_I v1, jv_I (g 163 ((2 : Int) * v1)), jv_U] (jv_pu r []) L2 g2 Q)) ∧
    (¬ (g 141 v1) = (g 157 (g 163 ((2 : Int) * v1))) →
     (0 ≤ (g 163 ((2 : Int) * v1)) ∧ (g 163 ((2 : Int) * v1)) < 30) ∧
      (0 ≤ (g 163 ((2 : Int) * v1)) ∧ (g 163 ((2 : Int) * v1)) < 30) ∧
      ((136 = 136) ∧ (LLx (LL n l)) ∧ (MN A g ∧ (0 ≤ (g 157 (g 163 ((2 : Int) * v1))) ∧ (g 157 (g 163 ((2 : Int) * v1))) < nd A) ∧ 0 ≤ v1 ∧ (v1 < ln A ∨ (10 ≤ v1 ∧ v1 < 10 + nd A)))) ∧
      jv_Ca jv_T jv_ml kY_laneFor [jv_P 136, jv_I (g 155 (g 163 ((2 : Int) * v1))), jv_I (tkI A v1 (g 157 (g 163 ((2 : Int) * v1))))] (LL n l) g (fun r L2 g2 => jv_At jv_T jv_ml kY_goFrom 70 [jv_P 136, jv_I v1, jv_I (g 163 ((2 : Int) * v1)), jv_U] (jv_pu r []) L2 g2 Q))) :
  jv_At jv_T jv_ml kY_goFrom 0 [jv_P 136, jv_I v1, jv_U, jv_U] [] (LL n l) g Q :=
  jv_of_wp (gok9 (A := A)) (md := []) (stop := []) (tab := jt_Y_goFrom) rfl 400 _ _ _ _ _ h
set_option maxRecDepth 100000 in
theorem sg_Y_goFrom_29 {A : jA} {n l : Nat} {g : jv_S} {Q : jv_V → jv_L → jv_S → Prop} {v1 v2 : Int} {v3 : jv_V} (h :
   (0 ≤ v2 ∧ v2 < 30) ∧ 
    (0 ≤ v2 ∧ v2 < 30) ∧ 
    Q (jv_I (1 : Int)) (LL n l) (jv_up (jv_up g 158 v2 (-9 : Int)) 160 v2 (g 136 38))) :
  jv_At jv_T jv_ml kY_goFrom 29 [jv_P 136, jv_I v1, jv_I v2, v3] [] (LL n l) g Q :=
  jv_of_wp (gok9 (A := A)) (md := []) (stop := []) (tab := jt_Y_goFrom) rfl 400 _ _ _ _ _ h
set_option maxRecDepth 100000 in
theorem sg_Y_goFrom_70 {A : jA} {n l : Nat} {g : jv_S} {Q : jv_V → jv_L → jv_S → Prop} {v1 v2 s0 : Int} {v3 : jv_V} (h :
   (s0 = (-9 : Int) →
     Q (jv_I (0 : Int)) (LL n l) g) ∧
    (¬ s0 = (-9 : Int) →
     jv_Ca jv_T jv_ml kY_leaves [jv_P 136, jv_I v1] (LL n l) g (fun r L2 g2 => jv_At jv_T jv_ml kY_goFrom 84 [jv_P 136, jv_I v1, jv_I v2, jv_I s0] (jv_pu r []) L2 g2 Q))) :
  jv_At jv_T jv_ml kY_goFrom 70 [jv_P 136, jv_I v1, jv_I v2, v3] [jv_I s0] (LL n l) g Q :=
  jv_of_wp (gok9 (A := A)) (md := []) (stop := []) (tab := jt_Y_goFrom) rfl 400 _ _ _ _ _ h
set_option maxRecDepth 100000 in
theorem sg_Y_goFrom_84 {A : jA} {n l : Nat} {g : jv_S} {Q : jv_V → jv_L → jv_S → Prop} {v1 v2 v3 : Int} (h :
   jv_Ca jv_T jv_ml kY_comesIn [jv_P 136, jv_I v2, jv_I v3] (LL n l) g (fun r L2 g2 => jv_At jv_T jv_ml kY_goFrom 90 [jv_P 136, jv_I v1, jv_I v2, jv_I v3] (jv_pu r []) L2 g2 Q)) :
  jv_At jv_T jv_ml kY_goFrom 84 [jv_P 136, jv_I v1, jv_I v2, jv_I v3] [] (LL n l) g Q :=
  jv_of_wp (gok9 (A := A)) (md := []) (stop := []) (tab := jt_Y_goFrom) rfl 400 _ _ _ _ _ h
set_option maxRecDepth 100000 in
theorem sg_Y_goFrom_90 {A : jA} {n l : Nat} {g : jv_S} {Q : jv_V → jv_L → jv_S → Prop} {v1 v2 v3 : Int} (h :
   (0 ≤ v2 ∧ v2 < 30) ∧ 
    Q (jv_I (1 : Int)) (LL n l) (jv_up g 161 v2 (1 : Int))) :
  jv_At jv_T jv_ml kY_goFrom 90 [jv_P 136, jv_I v1, jv_I v2, jv_I v3] [] (LL n l) g Q :=
  jv_of_wp (gok9 (A := A)) (md := []) (stop := []) (tab := jt_Y_goFrom) rfl 400 _ _ _ _ _ h
theorem tr_Y_goFrom {A : jA} {B : jB} {n l : Nat} {g : jv_S} {Q : jv_V → jv_L → jv_S → Prop} {c i : Nat} (hM : MN A g) (hB' : BW A B) (hT : TMr A B g) (hm : TMm A B g) (hti : B 0 1 ≤ 1000000) (hc : c < ln A) (hs : 1 ≤ B 8 c) (hi : B 9 (2 * c) = i) (h7 : B 7 i = 0)
  (hQ : ∀ g' : jv_S, BW A (gof A B c).1 → TMr A (gof A B c).1 g' → TMm A (gof A B c).1 g' → (∀ (p : Nat) (i : Int), ¬ ((155 ≤ p ∧ p ≤ 164)) → g' p i = g p i) → Q (jv_I (jb_b (gof A B c).2)) (LL n l) g') :
  jv_Ca jv_T jv_ml kY_goFrom [jv_P 136, jv_I c] (LL n l) g Q := by
  have hw := hM.1
  have w1 := hw.1
  have w2 := hw.2.1
  obtain ⟨b1, b2, b3, b4, b5⟩ := id hB'
  obtain ⟨t1, t2, t3, t5⟩ := id hT
  have hrm : ∀ c, c < ln A → rm A c ≤ 2 := fun c hc => (hw.2.2.2.1 c hc).2.2.2.2.1
  have hi3 := b3 c 0 hc (by omega)
  rw [Nat.add_zero, hi, Int.toNat_natCast] at hi3
  obtain ⟨i1, i2, i3⟩ := hi3
  obtain ⟨a1, a2, a3, a4, a5, a6⟩ := b5 i i2
  obtain ⟨r3, r4, r5, r6, r7, r8⟩ := t5 i i2
  have f8 := t2 c hc
  have s1 := b2 c hc
  have s2 := hrm c hc
  have f16 : g 141 c = tt A c := (hM.2.2.2.2.1 c hc).2.1
  have f9 : g 163 (2 * (c : Int)) = i := by
    have := t3 c 0 hc (by omega)
    rw [Nat.add_zero, hi] at this
    rw [← this]
    congr 1
  obtain ⟨y, hy⟩ := Int.eq_ofNat_of_zero_le a3.1
  unfold gof at hQ
  rw [hi, Int.toNat_natCast, hy, Int.toNat_natCast] at hQ
  -- what leaves does
  have lv : ∀ (Q' : jv_V → jv_L → jv_S → Prop), (∀ g1 : jv_S, g1 162 c = B 8 c - 1 → g1 163 (2 * (c : Int)) = g 163 (2 * (c : Int) + 1) → g1 164 c = 1 → (∀ (p : Nat) (j : Int), ¬ (p = 162 ∧ j = c) → ¬ (p = 163 ∧ j = 2 * (c : Int)) → ¬ (p = 164 ∧ j = c) → g1 p j = g p j) → Q' jv_U (LL n l) g1) → jv_Ca jv_T jv_ml kY_leaves [jv_P 136, jv_I (c : Int)] (LL n l) g Q' := by
    intro Q' hk
    apply sg_Y_leaves_0 (A := A)
    rw [f8]
    refine ⟨⟨by omega, by omega⟩, ⟨by omega, by omega⟩, ⟨by omega, by omega⟩, ⟨by omega, by omega⟩, ⟨by omega, by omega⟩, ⟨by omega, by omega⟩, ⟨by omega, by omega⟩, ⟨by omega, by omega⟩, ⟨by omega, by omega⟩, hk _ ?_ ?_ (up_eq rfl rfl) (fun p j h1 h2 h3 => by rw [up_ne (by omega), up_ne (by omega), up_ne (by omega)])⟩
    · rw [up_ne (by omega), up_eq rfl rfl]
    · rw [up_ne (by omega), up_ne (by omega), up_eq rfl rfl]
  apply sg_Y_goFrom_0 (A := A)
  rw [f9, f16, r5, r3, hy, tkI_c]
  refine ⟨⟨by omega, by omega⟩, ⟨by omega, by omega⟩, ⟨by omega, by omega⟩, ⟨by omega, by omega⟩, fun hh => ?_, fun hh => ⟨⟨by omega, by omega⟩, ⟨by omega, by omega⟩, ⟨rfl, LLx_ok, hM, ⟨by omega, by omega⟩, by omega, by omega⟩, ?_⟩⟩
  · rw [if_pos hh] at hQ
    refine lv _ (fun g1 k1 k2 k4 k3 => ?_)
    apply sg_Y_goFrom_29 (A := A)
    have e38 : g1 136 38 = B 0 1 := by rw [k3 _ _ (by omega) (by omega) (by omega)]; exact t1.2
    rw [e38]
    refine ⟨⟨by omega, by omega⟩, ⟨by omega, by omega⟩, hQ _ (BW_h hw hB' hc hs hi) ⟨?_, fun c' hc' => ?_, fun c' k hc' hk => ?_, fun e he => ?_⟩ ⟨fun e he => ?_, fun c' hc' => ?_⟩ (fun p j hp => by rw [up_ne (by omega), up_ne (by omega), k3 _ _ (by omega) (by omega) (by omega)])⟩
    · rw [up_ne (by omega), up_ne (by omega), up_ne (by omega), up_ne (by omega), k3 _ _ (by omega) (by omega) (by omega), k3 _ _ (by omega) (by omega) (by omega)]
      exact t1
    · rw [up_ne (by omega), up_ne (by omega)]
      show _ = if c' = c then B 8 c' - 1 else B 8 c'
      by_cases hcc : c' = c
      · subst hcc; rw [if_pos rfl]; exact k1
      · rw [if_neg hcc, k3 _ _ (by omega) (by omega) (by omega)]; exact t2 c' hc'
    · have hk : (k : Int) < (if c' = c then B 8 c' - 1 else B 8 c') := hk
      rw [up_ne (by omega), up_ne (by omega)]
      show _ = if 2 * c' + k = 2 * c then B 9 (2 * c + 1) else B 9 (2 * c' + k)
      have q1 := b2 c' hc'
      have q2 := hrm c' hc'
      by_cases hcc : c' = c
      · subst hcc
        rw [if_pos rfl] at hk
        rw [if_pos (by omega), show 2 * (c' : Int) + (k : Int) = 2 * (c' : Int) by omega, k2]
        exact t3 c' 1 hc' (by omega)
      · rw [if_neg hcc] at hk
        rw [if_neg (by omega), k3 _ _ (by omega) (by omega) (by omega)]
        exact t3 c' k hc' hk
    · have he : (e : Int) < B 0 0 := he
      show _ = B 1 e ∧ _ = B 2 e ∧ _ = B 3 e ∧ _ = (if e = i then -9 else B 4 e) ∧ _ = B 5 e ∧ _ = (if e = i then B 0 1 else B 6 e)
      obtain ⟨x1, x2, x3, x4, x5, x6⟩ := t5 e he
      have q : ∀ (p : Nat), p ≠ 158 → p ≠ 160 → p ≠ 162 → p ≠ 163 → p ≠ 164 → jv_up (jv_up g1 158 i (-9)) 160 i (B 0 1) p e = g p e := fun p _ _ _ _ _ => by rw [up_ne (by omega), up_ne (by omega), k3 _ _ (by omega) (by omega) (by omega)]
      rw [q 155 (by omega) (by omega) (by omega) (by omega) (by omega), q 156 (by omega) (by omega) (by omega) (by omega) (by omega), q 157 (by omega) (by omega) (by omega) (by omega) (by omega), q 159 (by omega) (by omega) (by omega) (by omega) (by omega)]
      refine ⟨x1, x2, x3, ?_, x5, ?_⟩
      · rw [up_ne (by omega)]
        by_cases hei : e = i
        · subst hei; rw [if_pos rfl, up_eq rfl rfl]
        · rw [if_neg hei, up_ne (by omega), k3 _ _ (by omega) (by omega) (by omega)]; exact x4
      · by_cases hei : e = i
        · subst hei; rw [if_pos rfl, up_eq rfl rfl]
        · rw [if_neg hei, up_ne (by omega), up_ne (by omega), k3 _ _ (by omega) (by omega) (by omega)]; exact x6
    · rw [up_ne (by omega), up_ne (by omega), k3 _ _ (by omega) (by omega) (by omega)]
      exact hm.1 e he
    · rw [up_ne (by omega), up_ne (by omega)]
      show _ = if c' = c then 1 else B 10 c'
      by_cases hcc : c' = c
      · subst hcc; rw [if_pos rfl]; exact k4
      · rw [if_neg hcc, k3 _ _ (by omega) (by omega) (by omega)]; exact hm.2 c' hc'
  · rw [if_neg hh] at hQ
    refine tr_Y_laneFor hM t2 (tk_ltl c y) ?_
    apply sg_Y_goFrom_70 (A := A)
    rcases chf_ok (A := A) (B := B) (kd := B 1 i) (s := tk A c y) (m := ln A) (ln A) (Nat.le_refl _) with h9 | ⟨d, d1, d2, d3, d4⟩
    · have h9 : chs A B (B 1 i) (tk A c y) = -9 := h9
      rw [h9] at hQ ⊢
      rw [if_pos rfl] at hQ
      exact ⟨fun _ => hQ g hB' hT hm (fun _ _ _ => rfl), fun h => absurd rfl h⟩
    · have d2 : chs A B (B 1 i) (tk A c y) = (d : Int) := d2
      have hdc := tk_nc hw hc d3
      rw [d2] at hQ ⊢
      rw [if_neg (by omega), Int.toNat_natCast] at hQ
      refine ⟨fun h => by omega, fun _ => ?_⟩
      refine lv _ (fun g1 k1 k2 k4 k3 => ?_)
      apply sg_Y_goFrom_84 (A := A)
      have u2 := hrm d d1
      have u1 := b2 d d1
      have g8 : g1 162 d = B 8 d := by rw [k3 _ _ (by omega) (by omega) (by omega)]; exact t2 d d1
      have g5 : g1 159 i = B 5 i := by rw [k3 _ _ (by omega) (by omega) (by omega)]; exact r7
      apply sg_Y_comesIn_0 (A := A)
      rw [g8, g5]
      refine ⟨⟨by omega, by omega⟩, ⟨by omega, by omega⟩, ⟨by omega, by omega⟩, ⟨by omega, by omega⟩, ⟨by omega, by omega⟩, ⟨by omega, by omega⟩, ⟨by omega, by omega⟩, ⟨by omega, by omega⟩, ⟨by omega, by omega⟩, ⟨by omega, by omega⟩, ⟨by omega, by omega⟩, ?_⟩
      apply sg_Y_goFrom_90 (A := A)
      refine ⟨⟨by omega, by omega⟩, hQ _ (BW_g hw hB' hc hs hi d1 hdc d4 h7) ⟨?_, fun c' hc' => ?_, fun c' k hc' hk => ?_, fun e he => ?_⟩ ⟨fun e he => ?_, fun c' hc' => ?_⟩ (fun p j hp => by rw [up_ne (by omega), up_ne (by omega), up_ne (by omega), up_ne (by omega), up_ne (by omega), k3 _ _ (by omega) (by omega) (by omega)])⟩
      · rw [up_ne (by omega), up_ne (by omega), up_ne (by omega), up_ne (by omega), up_ne (by omega), up_ne (by omega), up_ne (by omega), up_ne (by omega), up_ne (by omega), up_ne (by omega), k3 _ _ (by omega) (by omega) (by omega), k3 _ _ (by omega) (by omega) (by omega)]
        exact t1
      · rw [up_ne (by omega), up_ne (by omega), up_ne (by omega)]
        show _ = if c' = c then B 8 c' - 1 else if c' = d then B 8 c' + 1 else B 8 c'
        by_cases hcc : c' = c
        · subst hcc
          rw [if_pos rfl, up_ne (by omega), up_ne (by omega)]
          exact k1
        · rw [if_neg hcc]
          by_cases hcd : c' = d
          · subst hcd
            rw [if_pos rfl, up_eq rfl rfl]
          · rw [if_neg hcd, up_ne (by omega), up_ne (by omega), k3 _ _ (by omega) (by omega) (by omega)]
            exact t2 c' hc'
      · have hk : (k : Int) < (if c' = c then B 8 c' - 1 else if c' = d then B 8 c' + 1 else B 8 c') := hk
        rw [up_ne (by omega), up_ne (by omega), up_ne (by omega), up_ne (by omega)]
        show _ = if 2 * c' + k = 2 * c then B 9 (2 * c + 1) else if 2 * c' + k = 2 * d + (B 8 d).toNat then (i : Int) else B 9 (2 * c' + k)
        have q1 := b2 c' hc'
        have q2 := hrm c' hc'
        by_cases hcc : c' = c
        · subst hcc
          rw [if_pos rfl] at hk
          rw [if_pos (by omega), up_ne (by omega), show 2 * (c' : Int) + (k : Int) = 2 * (c' : Int) by omega, k2]
          exact t3 c' 1 hc' (by omega)
        · rw [if_neg hcc] at hk
          have hk2 : (k : Int) ≤ 1 := by
            by_cases hcd : c' = d
            · subst hcd; rw [if_pos rfl] at hk; omega
            · rw [if_neg hcd] at hk; omega
          rw [if_neg (show ¬ 2 * c' + k = 2 * c by omega)]
          by_cases hcd : c' = d
          · subst hcd
            rw [if_pos rfl] at hk
            by_cases hkt : (k : Int) = B 8 c'
            · rw [if_pos (by omega), up_eq rfl (by omega)]
            · rw [if_neg (by omega), up_ne (by omega), k3 _ _ (by omega) (by omega) (by omega)]
              exact t3 c' k hc' (by omega)
          · rw [if_neg hcd] at hk
            rw [if_neg (by omega), up_ne (by omega), k3 _ _ (by omega) (by omega) (by omega)]
            exact t3 c' k hc' hk
      · have he : (e : Int) < B 0 0 := he
        show _ = B 1 e ∧ _ = B 2 e ∧ _ = B 3 e ∧ _ = (if e = i then (d : Int) else B 4 e) ∧ _ = (if e = i then B 5 e + 1 else B 5 e) ∧ _ = B 6 e
        obtain ⟨x1, x2, x3, x4, x5, x6⟩ := t5 e he
        have q : ∀ (p : Nat), p ≠ 158 → p ≠ 159 → p ≠ 161 → p ≠ 162 → p ≠ 163 → p ≠ 164 → jv_up (jv_up (jv_up (jv_up (jv_up g1 163 (2 * (d : Int) + B 8 d) i) 162 d (B 8 d + 1)) 158 i d) 159 i (B 5 i + 1)) 161 i 1 p e = g p e := fun p _ _ _ _ _ _ => by rw [up_ne (by omega), up_ne (by omega), up_ne (by omega), up_ne (by omega), up_ne (by omega), k3 _ _ (by omega) (by omega) (by omega)]
        rw [q 155 (by omega) (by omega) (by omega) (by omega) (by omega) (by omega), q 156 (by omega) (by omega) (by omega) (by omega) (by omega) (by omega), q 157 (by omega) (by omega) (by omega) (by omega) (by omega) (by omega), q 160 (by omega) (by omega) (by omega) (by omega) (by omega) (by omega)]
        refine ⟨x1, x2, x3, ?_, ?_, x6⟩
        · rw [up_ne (by omega), up_ne (by omega)]
          by_cases hei : e = i
          · subst hei; rw [if_pos rfl, up_eq rfl rfl]
          · rw [if_neg hei, up_ne (by omega), up_ne (by omega), up_ne (by omega), k3 _ _ (by omega) (by omega) (by omega)]; exact x4
        · rw [up_ne (by omega)]
          by_cases hei : e = i
          · subst hei; rw [if_pos rfl, up_eq rfl rfl]
          · rw [if_neg hei, up_ne (by omega), up_ne (by omega), up_ne (by omega), up_ne (by omega), k3 _ _ (by omega) (by omega) (by omega)]; exact x5
      · show _ = if e = i then 1 else B 7 e
        by_cases hei : e = i
        · subst hei; rw [if_pos rfl, up_eq rfl rfl]
        · rw [if_neg hei, up_ne (by omega), up_ne (by omega), up_ne (by omega), up_ne (by omega), up_ne (by omega), k3 _ _ (by omega) (by omega) (by omega)]; exact hm.1 e he
      · rw [up_ne (by omega), up_ne (by omega), up_ne (by omega), up_ne (by omega), up_ne (by omega)]
        show _ = if c' = c then 1 else B 10 c'
        by_cases hcc : c' = c
        · subst hcc; rw [if_pos rfl]; exact k4
        · rw [if_neg hcc, k3 _ _ (by omega) (by omega) (by omega)]; exact hm.2 c' hc'
theorem pcr_or {s c : Nat} (h : s.testBit c = false) : ∀ m, c < m → pcr (s ||| 2 ^ c) m = pcr s m + 1 := by
  intro m
  induction m with
  | zero => intro h; omega
  | succ m ih =>
    intro hc
    unfold pcr
    rw [Nat.testBit_or, Nat.testBit_two_pow]
    by_cases hcm : c = m
    · subst hcm
      have e : ∀ k, k ≤ c → pcr (s ||| 2 ^ c) k = pcr s k := by
        intro k
        induction k with
        | zero => intro _; rfl
        | succ k ihk =>
          intro hk
          unfold pcr
          rw [Nat.testBit_or, Nat.testBit_two_pow, ihk (by omega), decide_eq_false (show ¬ c = k by omega), Bool.or_false]
      rw [e c (Nat.le_refl _), h]
      simp
    · rw [ih (by omega), decide_eq_false hcm, Bool.or_false]
      omega
set_option maxRecDepth 100000 in
theorem sg_Y_pass_0 {A : jA} {n l : Nat} {g : jv_S} {Q : jv_V → jv_L → jv_S → Prop} {v1 : Int} (h :
   jv_At jv_T jv_ml kY_pass 4 [jv_P 136, jv_I v1, jv_I (0 : Int), jv_I (0 : Int), jv_U] [] (LL n l) g Q) :
  jv_At jv_T jv_ml kY_pass 0 [jv_P 136, jv_I v1, jv_U, jv_U, jv_U] [] (LL n l) g Q :=
  jv_of_wp (gok9 (A := A)) (md := []) (stop := [4]) (tab := jt_Y_pass) rfl 400 _ _ _ _ _ h
set_option maxRecDepth 100000 in
theorem sg_Y_pass_4 {A : jA} {n l : Nat} {g : jv_S} {Q : jv_V → jv_L → jv_S → Prop} {v1 v2 v3 : Int} {v4 : jv_V} (h :
   ((g 136 6) ≤ v3 →
     Q (jv_I v2) (LL n l) g) ∧
    (¬ (g 136 6) ≤ v3 →
     (0 ≤ v3 ∧ v3 < 10) ∧
      ((g 162 v3) = 0 →
       jv_r32 (v3 + (1 : Int)) ∧
        jv_At jv_T jv_ml kY_pass 4 [jv_P 136, jv_I v1, jv_I v2, jv_I (v3 + (1 : Int)), v4] [] (LL n l) g Q) ∧
      (¬ (g 162 v3) = 0 →
       (0 ≤ v3 ∧ v3 < 10) ∧
        ((g 164 v3) = (1 : Int) →
         jv_r32 (v3 + (1 : Int)) ∧
          jv_At jv_T jv_ml kY_pass 4 [jv_P 136, jv_I v1, jv_I v2, jv_I (v3 + (1 : Int)), v4] [] (LL n l) g Q) ∧
        (¬ (g 164 v3) = (1 : Int) →
         jv_r32 ((2 : Int) * v3) ∧
          (0 ≤ ((2 : Int) * v3) ∧ ((2 : Int) * v3) < 20) ∧
          (0 ≤ (g 163 ((2 : Int) * v3)) ∧ (g 163 ((2 : Int) * v3)) < 30) ∧
          ((g 155 (g 163 ((2 : Int) * v3))) ≤ 0 →
           ((0 : Int) = v1 →
             (0 ≤ (g 163 ((2 : Int) * v3)) ∧ (g 163 ((2 : Int) * v3)) < 30) ∧
              ((g 161 (g 163 ((2 : Int) * v3))) = 0 →
               jv_Ca jv_T jv_ml kY_goFrom [jv_P 136, jv_I v3] (LL n l) g (fun r L2 g2 => jv_At jv_T jv_ml kY_pass 79 [jv_P 136, jv_I v1, jv_I v2, jv_I v3, jv_I (g 163 ((2 : Int) * v3))] (jv_pu r [jv_I v2]) L2 g2 Q)) ∧
              (¬ (g 161 (g 163 ((2 : Int) * v3))) = 0 →
               jv_r32 (v3 + (1 : Int)) ∧
                jv_At jv_T jv_ml kY_pass 4 [jv_P 136, jv_I v1, jv_I v2, jv_I (v3 + (1 : Int)), jv_I (g 163 ((2 : Int) * v3))] [] (LL n l) g Q)) ∧
            (¬ (0 : Int) = v1 →
             jv_r32 (v3 + (1 : Int)) ∧
              jv_At jv_T jv_ml kY_pass 4 [jv_P 136, jv_I v1, jv_I v2, jv_I (v3 + (1 : Int)), jv_I (g 163 ((2 : Int) * v3))] [] (LL n l) g Q)) ∧
          (¬ (g 155 (g 163 ((2 : Int) * v3))) ≤ 0 →
           ((1 : Int) = v1 →
             (0 ≤ (g 163 ((2 : Int) * v3)) ∧ (g 163 ((2 : Int) * v3)) < 30) ∧
              ((g 161 (g 163 ((2 : Int) * v3))) = 0 →
               jv_Ca jv_T jv_ml kY_goFrom [jv_P 136, jv_I v3] (LL n l) g (fun r L2 g2 => jv_At jv_T jv_ml kY_pass 79 [jv_P 136, jv_I v1, jv_I v2, jv_I v3, jv_I (g 163 ((2 : Int) * v3))] (jv_pu r [jv_I v2]) L2 g2 Q)) ∧
              (¬ (g 161 (g 163 ((2 : Int) * v3))) = 0 →
               jv_r32 (v3 + (1 : Int)) ∧
                jv_At jv_T jv_ml kY_pass 4 [jv_P 136, jv_I v1, jv_I v2, jv_I (v3 + (1 : Int)), jv_I (g 163 ((2 : Int) * v3))] [] (LL n l) g Q)) ∧
            (¬ (1 : Int) = v1 →
             jv_r32 (v3 + (1 : Int)) ∧
              jv_At jv_T jv_ml kY_pass 4 [jv_P 136, jv_I v1, jv_I v2, jv_I (v3 + (1 : Int)), jv_I (g 163 ((2 : Int) * v3))] [] (LL n l) g Q)))))) :
  jv_At jv_T jv_ml kY_pass 4 [jv_P 136, jv_I v1, jv_I v2, jv_I v3, v4] [] (LL n l) g Q :=
  jv_of_wp (gok9 (A := A)) (md := []) (stop := [4]) (tab := jt_Y_pass) rfl 400 _ _ _ _ _ h
set_option maxRecDepth 100000 in
theorem sg_Y_pass_79 {A : jA} {n l : Nat} {g : jv_S} {Q : jv_V → jv_L → jv_S → Prop} {v1 v2 v3 v4 s0 s1 : Int} (h :
   jv_r32 (s0 + s1) ∧
    jv_r32 (v3 + (1 : Int)) ∧
    jv_At jv_T jv_ml kY_pass 4 [jv_P 136, jv_I v1, jv_I (s0 + s1), jv_I (v3 + (1 : Int)), jv_I v4] [] (LL n l) g Q) :
  jv_At jv_T jv_ml kY_pass 79 [jv_P 136, jv_I v1, jv_I v2, jv_I v3, jv_I v4] [jv_I s1, jv_I s0] (LL n l) g Q :=
  jv_of_wp (gok9 (A := A)) (md := []) (stop := [4]) (tab := jt_Y_pass) rfl 400 _ _ _ _ _ h
theorem tr_Y_pass {A : jA} {B : jB} {n l : Nat} {g : jv_S} {Q : jv_V → jv_L → jv_S → Prop} {h : Int} (hh : h = 0 ∨ h = 1) (hM : MN A g) (hB' : BW A B) (hT : TMr A B g) (hm : TMm A B g) (hti : B 0 1 ≤ 1000000)
  (hQ : ∀ g' : jv_S, BW A (pas A h B (ln A)) → TMr A (pas A h B (ln A)) g' → TMm A (pas A h B (ln A)) g' → (∀ (p : Nat) (i : Int), ¬ ((155 ≤ p ∧ p ≤ 164)) → g' p i = g p i) → Q (jv_I ((pc (mvd A (pas A h B (ln A))) : Int) - pc (mvd A B))) (LL n l) g') :
  jv_Ca jv_T jv_ml kY_pass [jv_P 136, jv_I h] (LL n l) g Q := by
  have hw := hM.1
  have w2 := hw.2.1
  have hrm : ∀ c, c < ln A → rm A c ≤ 2 := fun c hc => (hw.2.2.2.1 c hc).2.2.2.2.1
  have hpb : ∀ B : jB, pc (mvd A B) ≤ 10 := fun B => Nat.le_trans (pc_le (mvd_lt (A := A) (B := B)) (by omega)) w2
  have main : ∀ c, c ≤ ln A → ∀ (g' : jv_S) (v : jv_V), BW A (pas A h B c) → TMr A (pas A h B c) g' → TMm A (pas A h B c) g' → (∀ (p : Nat) (i : Int), ¬ ((155 ≤ p ∧ p ≤ 164)) → g' p i = g p i) → jv_At jv_T jv_ml kY_pass 4 [jv_P 136, jv_I h, jv_I ((pc (mvd A (pas A h B c)) : Int) - pc (mvd A B)), jv_I c, v] [] (LL n l) (g') Q := by
    apply loop_up
    intro c hc ih g' v hb ht hm hf
    have hM' : MN A g' := MN_fr hM (fun p i a b => hf _ _ (by omega)) (hf _ _ (by omega)) (hf _ _ (by omega)) (hf _ _ (by omega))
    have f2 := hM'.2.2.1
    apply sg_Y_pass_4 (A := A)
    refine ⟨fun h1 => ?_, fun h1 => ?_⟩
    · have hcl : c = ln A := by omega
      subst hcl
      exact hQ g' hb ht hm hf
    · have hc' : c < ln A := by omega
      have ih' := fun g1 v b1 t1 m1 f1 => ih hc' g1 v b1 t1 m1 f1
      obtain ⟨B0, hB0⟩ : ∃ B0, B0 = pas A h B c := ⟨_, rfl⟩
      have hps : pas A h B (c + 1) = stp A h (pas A h B c) c := rfl
      rw [hps, ← hB0] at ih'
      rw [← hB0] at hb ht hm ⊢
      have htk : B0 0 1 = B 0 1 := by rw [hB0]; exact pas_0 c 1
      obtain ⟨b1, b2, b3, b4, b5⟩ := id hb
      obtain ⟨t1, t2, t3, t5⟩ := id ht
      have f8 := t2 c hc'
      have q1 := b2 c hc'
      have q2 := hrm c hc'
      have f10 := hm.2 c hc'
      have hp0 := hpb B0
      have hpB := hpb B
      rw [f8, f10]
      have skip : (B0 8 c = 0 ∨ B0 10 c = 1 ∨ ¬ itn B0 h (B0 9 (2 * c)).toNat) → ∀ v : jv_V, jv_At jv_T jv_ml kY_pass 4 [jv_P 136, jv_I h, jv_I ((pc (mvd A B0) : Int) - pc (mvd A B)), jv_I (c + 1), v] [] (LL n l) (g') Q := by
        intro hs v
        have e : stp A h B0 c = B0 := by
          unfold stp
          by_cases h10 : B0 8 c = 0 ∨ B0 10 c = 1
          · rw [if_pos h10]
          · rw [if_neg h10]
            rcases hs with hs | hs | hs
            · exact absurd (Or.inl hs) h10
            · exact absurd (Or.inr hs) h10
            · rw [dc_f.mpr hs]; rfl
        rw [e] at ih'
        exact ih' g' v hb ht hm hf
      refine ⟨⟨by omega, by omega⟩, fun h2 => ⟨⟨by omega, by omega⟩, skip (Or.inl h2) _⟩, fun h2 => ⟨⟨by omega, by omega⟩, fun h3 => ⟨⟨by omega, by omega⟩, skip (Or.inr (Or.inl h3)) _⟩, fun h3 => ?_⟩⟩
      obtain ⟨x1, x2, x3⟩ := b3 c 0 hc' (by omega)
      rw [Nat.add_zero] at x1 x2 x3
      obtain ⟨i, hi⟩ := Int.eq_ofNat_of_zero_le x1
      have f9 : g' 163 (2 * (c : Int)) = i := by
        have := t3 c 0 hc' (by omega)
        rw [Nat.add_zero, hi] at this
        rw [← this]
        congr 1
      rw [hi] at x2 skip
      rw [Int.toNat_natCast] at skip
      obtain ⟨r3, r4, r5, r6, r7, r8⟩ := t5 i x2
      have r9 := hm.1 i x2
      have b7 := (b5 i x2).2.2.2.2.2
      rw [f9, r3, r9]
      have mv : itn B0 h i → ∀ w : Int, jv_Ca jv_T jv_ml kY_goFrom [jv_P 136, jv_I (c : Int)] (LL n l) g' (fun r L2 g2 => jv_At jv_T jv_ml kY_pass 79 [jv_P 136, jv_I h, jv_I ((pc (mvd A B0) : Int) - pc (mvd A B)), jv_I (c : Int), jv_I w] (jv_pu r [jv_I ((pc (mvd A B0) : Int) - pc (mvd A B))]) L2 g2 Q) := by
        intro hit w
        have e : stp A h B0 c = (gof A B0 c).1 := by
          unfold stp
          rw [if_neg (fun h4 => h4.elim h2 h3), hi, Int.toNat_natCast, dc_t.mpr hit]
          rfl
        rw [e] at ih'
        refine tr_Y_goFrom hM' hb ht hm (by omega) hc' (by omega) hi hit.2 (fun g1 k1 k2 k4 k3 => ?_)
        have hf1 : ∀ (p : Nat) (i : Int), ¬ ((155 ≤ p ∧ p ≤ 164)) → g1 p i = g p i := fun p i hp => by rw [k3 _ _ hp]; exact hf p i hp
        have this := ih' g1 (jv_I w) k1 k2 k4 hf1
        apply sg_Y_pass_79 (A := A)
        cases h4 : (gof A B0 c).2 with
        | false =>
          rw [gof_0.2.1 h4] at this
          rw [show (pc (mvd A B0) : Int) - (pc (mvd A B) : Int) + jb_b false = (pc (mvd A B0) : Int) - pc (mvd A B) by show _ + (0 : Int) = _; omega]
          exact ⟨⟨by omega, by omega⟩, ⟨by omega, by omega⟩, this⟩
        | true =>
          have hm2 := mvd_set (A := A) hc' (gof_0.2.2 h4)
          have hnb : (mvd A B0).testBit c = false := by rw [mvd_bit hc', decide_eq_false h3]
          have hpc : pc (mvd A (gof A B0 c).1) = pc (mvd A B0) + 1 := by rw [hm2]; exact pcr_or hnb 30 (by omega)
          rw [show (pc (mvd A B0) : Int) - (pc (mvd A B) : Int) + jb_b true = (pc (mvd A (gof A B0 c).1) : Int) - pc (mvd A B) by rw [hpc]; show _ + (1 : Int) = _; omega]
          exact ⟨⟨by omega, by omega⟩, ⟨by omega, by omega⟩, this⟩
      refine ⟨⟨by omega, by omega⟩, ⟨by omega, by omega⟩, ⟨by omega, by omega⟩, fun h4 => ⟨fun h5 => ⟨⟨by omega, by omega⟩, fun h6 => mv ⟨Or.inr ⟨by omega, by omega⟩, h6⟩ _, fun h6 => ⟨⟨by omega, by omega⟩, skip (Or.inr (Or.inr (fun hx => h6 hx.2))) _⟩⟩, fun h5 => ⟨⟨by omega, by omega⟩, skip (Or.inr (Or.inr (fun hx => by rcases hx.1 with hx | hx <;> omega))) _⟩⟩, fun h4 => ⟨fun h5 => ⟨⟨by omega, by omega⟩, fun h6 => mv ⟨Or.inl ⟨by omega, by omega⟩, h6⟩ _, fun h6 => ⟨⟨by omega, by omega⟩, skip (Or.inr (Or.inr (fun hx => h6 hx.2))) _⟩⟩, fun h5 => ⟨⟨by omega, by omega⟩, skip (Or.inr (Or.inr (fun hx => by rcases hx.1 with hx | hx <;> omega))) _⟩⟩⟩
  have := main 0 (by omega) g (jv_U) hB' hT hm (fun _ _ _ => rfl)
  rw [show (pc (mvd A (pas A h B 0)) : Int) - (pc (mvd A B) : Int) = 0 by show (pc (mvd A B) : Int) - _ = 0; omega] at this
  exact sg_Y_pass_0 (A := A) this
set_option maxRecDepth 100000 in
theorem sg_Y_ticks_0 {A : jA} {n l : Nat} {g : jv_S} {Q : jv_V → jv_L → jv_S → Prop} {v1 : Int} (h :
   ((True)) ∧
    ((jb_p ((0 : Int) ≤ v1 ∧ v1 ≤ (50 : Int))) = 0 →
     Q (jv_I (-2 : Int)) (LL n l) g) ∧
    (¬ (jb_p ((0 : Int) ≤ v1 ∧ v1 ≤ (50 : Int))) = 0 →
     ((g 136 6) = 0 →
       Q (jv_I (-3 : Int)) (LL n l) g) ∧
      (¬ (g 136 6) = 0 →
       jv_At jv_T jv_ml kY_ticks 27 [jv_P 136, jv_I v1, jv_I (0 : Int), jv_I (0 : Int), jv_U] [] (LL n l) g Q))) :
  jv_At jv_T jv_ml kY_ticks 0 [jv_P 136, jv_I v1, jv_U, jv_U, jv_U] [] (LL n l) g Q :=
  jv_of_wp (gok9 (A := A)) (md := []) (stop := [27, 35, 61]) (tab := jt_Y_ticks) rfl 400 _ _ _ _ _ h
set_option maxRecDepth 100000 in
theorem sg_Y_ticks_27 {A : jA} {n l : Nat} {g : jv_S} {Q : jv_V → jv_L → jv_S → Prop} {v1 v2 v3 : Int} {v4 : jv_V} (h :
   (v1 ≤ v3 →
     Q (jv_I v2) (LL n l) g) ∧
    (¬ v1 ≤ v3 →
     jv_At jv_T jv_ml kY_ticks 35 [jv_P 136, jv_I v1, jv_I v2, jv_I v3, jv_I (0 : Int)] [] (LL n l) g Q)) :
  jv_At jv_T jv_ml kY_ticks 27 [jv_P 136, jv_I v1, jv_I v2, jv_I v3, v4] [] (LL n l) g Q :=
  jv_of_wp (gok9 (A := A)) (md := []) (stop := [27, 35, 61]) (tab := jt_Y_ticks) rfl 400 _ _ _ _ _ h
set_option maxRecDepth 100000 in
theorem sg_Y_ticks_35 {A : jA} {n l : Nat} {g : jv_S} {Q : jv_V → jv_L → jv_S → Prop} {v1 v2 v3 v4 : Int} (h :
   ((g 136 6) ≤ v4 →
     jv_At jv_T jv_ml kY_ticks 61 [jv_P 136, jv_I v1, jv_I v2, jv_I v3, jv_I (0 : Int)] [] (LL n l) g Q) ∧
    (¬ (g 136 6) ≤ v4 →
     (0 ≤ v4 ∧ v4 < 10) ∧ 
      jv_r32 (v4 + (1 : Int)) ∧
      jv_At jv_T jv_ml kY_ticks 35 [jv_P 136, jv_I v1, jv_I v2, jv_I v3, jv_I (v4 + (1 : Int))] [] (LL n l) (jv_up g 164 v4 (0 : Int)) Q)) :
  jv_At jv_T jv_ml kY_ticks 35 [jv_P 136, jv_I v1, jv_I v2, jv_I v3, jv_I v4] [] (LL n l) g Q :=
  jv_of_wp (gok9 (A := A)) (md := []) (stop := [27, 35, 61]) (tab := jt_Y_ticks) rfl 400 _ _ _ _ _ h
set_option maxRecDepth 100000 in
theorem sg_Y_ticks_61 {A : jA} {n l : Nat} {g : jv_S} {Q : jv_V → jv_L → jv_S → Prop} {v1 v2 v3 v4 : Int} (h :
   ((g 136 27) ≤ v4 →
     jv_Ca jv_T jv_ml kY_pass [jv_P 136, jv_I (1 : Int)] (LL n l) g (fun r L2 g2 => jv_At jv_T jv_ml kY_ticks 90 [jv_P 136, jv_I v1, jv_I v2, jv_I v3, jv_I v4] (jv_pu r [jv_I v2]) L2 g2 Q)) ∧
    (¬ (g 136 27) ≤ v4 →
     (0 ≤ v4 ∧ v4 < 30) ∧ 
      jv_r32 (v4 + (1 : Int)) ∧
      jv_At jv_T jv_ml kY_ticks 61 [jv_P 136, jv_I v1, jv_I v2, jv_I v3, jv_I (v4 + (1 : Int))] [] (LL n l) (jv_up g 161 v4 (0 : Int)) Q)) :
  jv_At jv_T jv_ml kY_ticks 61 [jv_P 136, jv_I v1, jv_I v2, jv_I v3, jv_I v4] [] (LL n l) g Q :=
  jv_of_wp (gok9 (A := A)) (md := []) (stop := [27, 35, 61]) (tab := jt_Y_ticks) rfl 400 _ _ _ _ _ h
set_option maxRecDepth 100000 in
theorem sg_Y_ticks_90 {A : jA} {n l : Nat} {g : jv_S} {Q : jv_V → jv_L → jv_S → Prop} {v1 v2 v3 v4 s0 s1 : Int} (h :
   jv_r32 (s0 + s1) ∧
    jv_Ca jv_T jv_ml kY_pass [jv_P 136, jv_I (0 : Int)] (LL n l) g (fun r L2 g2 => jv_At jv_T jv_ml kY_ticks 98 [jv_P 136, jv_I v1, jv_I (s0 + s1), jv_I v3, jv_I v4] (jv_pu r [jv_I (s0 + s1)]) L2 g2 Q)) :
  jv_At jv_T jv_ml kY_ticks 90 [jv_P 136, jv_I v1, jv_I v2, jv_I v3, jv_I v4] [jv_I s1, jv_I s0] (LL n l) g Q :=
  jv_of_wp (gok9 (A := A)) (md := []) (stop := [27, 35, 61]) (tab := jt_Y_ticks) rfl 400 _ _ _ _ _ h
set_option maxRecDepth 100000 in
theorem sg_Y_ticks_98 {A : jA} {n l : Nat} {g : jv_S} {Q : jv_V → jv_L → jv_S → Prop} {v1 v2 v3 v4 s0 s1 : Int} (h :
   jv_r32 (s0 + s1) ∧
    jv_r32 ((g 136 38) + (1 : Int)) ∧
    jv_r32 (v3 + (1 : Int)) ∧
    jv_At jv_T jv_ml kY_ticks 27 [jv_P 136, jv_I v1, jv_I (s0 + s1), jv_I (v3 + (1 : Int)), jv_I v4] [] (LL n l) (jv_up g 136 38 ((g 136 38) + (1 : Int))) Q) :
  jv_At jv_T jv_ml kY_ticks 98 [jv_P 136, jv_I v1, jv_I v2, jv_I v3, jv_I v4] [jv_I s1, jv_I s0] (LL n l) g Q :=
  jv_of_wp (gok9 (A := A)) (md := []) (stop := [27, 35, 61]) (tab := jt_Y_ticks) rfl 400 _ _ _ _ _ h
theorem tr_Y_ticks {A : jA} {B : jB} {n l : Nat} {g : jv_S} {Q : jv_V → jv_L → jv_S → Prop} {m : Int} (hM : MN A g) (hB' : BW A B) (hT : TMr A B g) (hR : rst B) (hti : B 0 1 ≤ 900000) {k0 : Nat} (hk0 : (k0 : Int) = (if 0 ≤ m ∧ m ≤ 50 ∧ ln A ≠ 0 then m else 0))
  (hQ : ∀ (g' : jv_S), TMr A (tkN A B k0).1 g' → (∀ (p : Nat) (i : Int), ¬ ((155 ≤ p ∧ p ≤ 164) ∨ (p = 136 ∧ i = 38)) → g' p i = g p i) → Q (jv_I (if ¬ (0 ≤ m ∧ m ≤ 50) then -2 else if ln A = 0 then -3 else ((tkN A B k0).2 : Nat))) (LL n l) g') :
  jv_Ca jv_T jv_ml kY_ticks [jv_P 136, jv_I m] (LL n l) g Q := by
  have hw := hM.1
  have w2 := hw.2.1
  have f2 := hM.2.2.1
  have hpb : ∀ B : jB, pc (mvd A B) ≤ 10 := fun B => Nat.le_trans (pc_le (mvd_lt (A := A) (B := B)) (by omega)) w2
  apply sg_Y_ticks_0 (A := A)
  rw [jp0, f2]
  refine ⟨trivial, fun h => ?_, fun h => ⟨fun h2 => ?_, fun h2 => ?_⟩⟩
  · rw [if_neg (by omega)] at hk0
    have hk : k0 = 0 := by omega
    subst hk
    have := hQ g hT (fun _ _ _ => rfl)
    rw [if_pos h] at this
    exact this
  · rw [if_neg (by omega)] at hk0
    have hk : k0 = 0 := by omega
    subst hk
    have := hQ g hT (fun _ _ _ => rfl)
    rw [if_neg h, if_pos (by omega)] at this
    exact this
  · obtain ⟨m, rfl⟩ := Int.eq_ofNat_of_zero_le (show 0 ≤ m by omega)
    rw [if_pos (by omega)] at hk0
    have hk : k0 = m := by omega
    subst hk
    have main : ∀ k, k ≤ k0 → ∀ (g' : jv_S) (v : jv_V), BW A (tkN A B k).1 → TMr A (tkN A B k).1 g' → (∀ (p : Nat) (i : Int), ¬ ((155 ≤ p ∧ p ≤ 164) ∨ (p = 136 ∧ i = 38)) → g' p i = g p i) → jv_At jv_T jv_ml kY_ticks 27 [jv_P 136, jv_I k0, jv_I ((tkN A B k).2 : Nat), jv_I k, v] [] (LL n l) (g') Q := by
      apply loop_up
      intro k hk ih g' v c1 c2 hf
      apply sg_Y_ticks_27 (A := A)
      refine ⟨fun h3 => ?_, fun h3 => ?_⟩
      · have hkm : k = k0 := by omega
        subst hkm
        have := hQ g' c2 hf
        rw [if_neg (by omega), if_neg (by omega)] at this
        exact this
      · obtain ⟨B0, hB0⟩ : ∃ B0, B0 = (tkN A B k).1 := ⟨_, rfl⟩
        have hR0 : rst B0 := by rw [hB0]; exact tkN_rst hR k
        have htk : B0 0 1 = B 0 1 + k := by rw [hB0]; exact (tkN_0 k).2
        have hs := tkN_2 (A := A) (B := B) hw k
        have ih' := ih (by omega)
        rw [show (tkN A B (k + 1)).1 = tkB A (tkN A B k).1 from rfl, show (tkN A B (k + 1)).2 = (tkN A B k).2 + tkc A (tkN A B k).1 from rfl] at ih'
        rw [← hB0] at c1 c2 ih'
        have c27 := c2.1.1
        -- the pass proper
        have go : ∀ g1 : jv_S, (∀ i : Nat, (i : Int) < B0 0 0 → g1 161 i = 0) → (∀ c : Nat, c < ln A → g1 164 c = 0) → (∀ (p : Nat) (i : Int), ¬ (p = 161 ∨ p = 164) → g1 p i = g' p i) → ∀ v4 : Int, g1 136 27 ≤ v4 → jv_At jv_T jv_ml kY_ticks 61 [jv_P 136, jv_I k0, jv_I ((tkN A B k).2 : Nat), jv_I k, jv_I v4] [] (LL n l) g1 Q := by
          intro g1 d1 d2 d3 v4 hv4
          apply sg_Y_ticks_61 (A := A)
          refine ⟨fun _ => ?_, fun h => absurd hv4 h⟩
          have hM1 : MN A g1 := MN_fr hM (fun p i a b => by rw [d3 _ _ (by omega), hf _ _ (by omega)]) (by rw [d3 _ _ (by omega), hf _ _ (by omega)]) (by rw [d3 _ _ (by omega), hf _ _ (by omega)]) (by rw [d3 _ _ (by omega), hf _ _ (by omega)])
          refine tr_Y_pass (h := 1) (Or.inr rfl) hM1 c1 (TMr_fr c2 (fun p i hp => d3 _ _ (by omega))) ⟨fun i hi => by rw [d1 i hi, hR0.1 i], fun c hc => by rw [d2 c hc, hR0.2 c]⟩ (by omega) (fun g2 e1 e2 e3 e4 => ?_)
          rw [mvd_rst hR0]
          apply sg_Y_ticks_90 (A := A)
          have p1 := hpb (pas A 1 B0 (ln A))
          have p0 : pc 0 = 0 := by decide
          refine ⟨⟨by omega, by omega⟩, tr_Y_pass (h := 0) (Or.inl rfl) (MN_fr hM1 (fun p i a b => e4 _ _ (by omega)) (e4 _ _ (by omega)) (e4 _ _ (by omega)) (e4 _ _ (by omega))) e1 e2 e3 (by rw [pas_0]; omega) (fun g3 x1 x2 x3 x4 => ?_)⟩
          have p2 := hpb (pas A 0 (pas A 1 B0 (ln A)) (ln A))
          have e38 : g3 136 38 = B0 0 1 := by rw [x2.1.2, pas_0, pas_0]
          apply sg_Y_ticks_98 (A := A)
          rw [e38]
          have hb0 := c1.1
          refine ⟨⟨by omega, by omega⟩, ⟨by omega, by omega⟩, ⟨by omega, by omega⟩, ?_⟩
          have this := ih' (jv_up g3 136 38 (B0 0 1 + 1)) (jv_I v4) (BW_n x1) ?_ (fun p i hp => by rw [up_ne (by omega), x4 _ _ (by omega), e4 _ _ (by omega), d3 _ _ (by omega)]; exact hf p i hp)
          · rw [show ((tkN A B k).2 : Int) + ((pc (mvd A (pas A 1 B0 (ln A))) : Int) - (pc 0 : Int)) + ((pc (mvd A (pas A 0 (pas A 1 B0 (ln A)) (ln A))) : Int) - (pc (mvd A (pas A 1 B0 (ln A))) : Int)) = (((tkN A B k).2 + tkc A B0 : Nat) : Int) by show _ = (((tkN A B k).2 + pc (mvd A (pas A 0 (pas A 1 B0 (ln A)) (ln A))) : Nat) : Int); omega]
            exact this
          · obtain ⟨t1, t2, t3, t5⟩ := x2
            refine ⟨⟨?_, ?_⟩, fun c hc => by rw [up_ne (by omega)]; exact t2 c hc, fun c k hc hk => by rw [up_ne (by omega)]; exact t3 c k hc hk, fun i hi => ?_⟩
            · rw [up_ne (by omega)]; exact t1.1
            · rw [up_eq rfl rfl]
              show _ = tkP A B0 0 1 + 1
              unfold tkP
              rw [pas_0, pas_0]
            · rw [up_ne (by omega), up_ne (by omega), up_ne (by omega), up_ne (by omega), up_ne (by omega), up_ne (by omega)]
              exact t5 i hi
        obtain ⟨cn, hcn⟩ := Int.eq_ofNat_of_zero_le c1.1.1
        have lds : ∀ i, i ≤ cn → ∀ g1 : jv_S, (∀ j : Nat, j < i → g1 161 j = 0) → (∀ c : Nat, c < ln A → g1 164 c = 0) → (∀ (p : Nat) (i : Int), ¬ (p = 161 ∨ p = 164) → g1 p i = g' p i) → jv_At jv_T jv_ml kY_ticks 61 [jv_P 136, jv_I k0, jv_I ((tkN A B k).2 : Nat), jv_I k, jv_I i] [] (LL n l) g1 Q := by
          apply loop_up
          intro i hi ihi g1 d1 d2 d3
          have e27 : g1 136 27 = cn := by rw [d3 _ _ (by omega), c27, hcn]
          by_cases hic : i = cn
          · exact go g1 (fun j hj => d1 j (by omega)) d2 d3 _ (by omega)
          · have hb := c1.1.2.1
            apply sg_Y_ticks_61 (A := A)
            refine ⟨fun h => by omega, fun h => ⟨⟨by omega, by omega⟩, ⟨by omega, by omega⟩, ihi (by omega) _ (fun j hj => ?_) (fun c hc => by rw [up_ne (by omega)]; exact d2 c hc) (fun p i hp => by rw [up_ne (by omega)]; exact d3 p i hp)⟩⟩
            by_cases hji : j = i
            · subst hji; rw [up_eq rfl rfl]
            · rw [up_ne (by omega)]; exact d1 j (by omega)
        have lns : ∀ c, c ≤ ln A → ∀ g1 : jv_S, (∀ d : Nat, d < c → g1 164 d = 0) → (∀ (p : Nat) (i : Int), ¬ (p = 161 ∨ p = 164) → g1 p i = g' p i) → jv_At jv_T jv_ml kY_ticks 35 [jv_P 136, jv_I k0, jv_I ((tkN A B k).2 : Nat), jv_I k, jv_I c] [] (LL n l) g1 Q := by
          apply loop_up
          intro c hc ihc g1 d2 d3
          have e6 : g1 136 6 = ln A := by rw [d3 _ _ (by omega), hf _ _ (by omega)]; exact f2
          apply sg_Y_ticks_35 (A := A)
          refine ⟨fun h => lds 0 (by omega) g1 (fun j hj => by omega) (fun d hd => d2 d (by omega)) d3, fun h => ⟨⟨by omega, by omega⟩, ⟨by omega, by omega⟩, ihc (by omega) _ (fun d hd => ?_) (fun p i hp => by rw [up_ne (by omega)]; exact d3 p i hp)⟩⟩
          by_cases hdc : d = c
          · subst hdc; rw [up_eq rfl rfl]
          · rw [up_ne (by omega)]; exact d2 d (by omega)
        exact lns 0 (by omega) g' (fun d hd => by omega) (fun _ _ _ => rfl)
    exact main 0 (by omega) g _ hB' hT (fun _ _ _ => rfl)
set_option maxRecDepth 100000 in
theorem sg_Y_send_0 {A : jA} {n l : Nat} {g : jv_S} {Q : jv_V → jv_L → jv_S → Prop} {v1 v2 v3 : Int} (h :
   ((136 = 136) ∧ (LLx (LL n l)) ∧ (True)) ∧
    ((jb_p (0 ≤ v2 ∧ v2 < g 136 5)) = 0 →
     Q (jv_I (-1 : Int)) (LL n l) g) ∧
    (¬ (jb_p (0 ≤ v2 ∧ v2 < g 136 5)) = 0 →
     ((136 = 136) ∧ (LLx (LL n l)) ∧ (True)) ∧
      ((jb_p (0 ≤ v3 ∧ v3 < g 136 5)) = 0 →
       Q (jv_I (-1 : Int)) (LL n l) g) ∧
      (¬ (jb_p (0 ≤ v3 ∧ v3 < g 136 5)) = 0 →
       ((True)) ∧
        ((jb_p ((0 : Int) ≤ v1 ∧ v1 ≤ (2 : Int))) = 0 →
         Q (jv_I (-2 : Int)) (LL n l) g) ∧
        (¬ (jb_p ((0 : Int) ≤ v1 ∧ v1 ≤ (2 : Int))) = 0 →
         (v2 = v3 →
           Q (jv_I (-2 : Int)) (LL n l) g) ∧
          (¬ v2 = v3 →
           jv_r32 ((10 : Int) + v2) ∧
            ((136 = 136) ∧ (LLx (LL n l)) ∧ (MN A g ∧ (0 ≤ v3 ∧ v3 < nd A) ∧ 0 ≤ ((10 : Int) + v2) ∧ (((10 : Int) + v2) < ln A ∨ (10 ≤ ((10 : Int) + v2) ∧ ((10 : Int) + v2) < 10 + nd A)))) ∧
            jv_Ca jv_T jv_ml kY_laneFor [jv_P 136, jv_I v1, jv_I (tkI A ((10 : Int) + v2) v3)] (LL n l) g (fun r L2 g2 => jv_At jv_T jv_ml kY_send 49 [jv_P 136, jv_I v1, jv_I v2, jv_I v3, jv_U] (jv_pu r []) L2 g2 Q)))))) :
  jv_At jv_T jv_ml kY_send 0 [jv_P 136, jv_I v1, jv_I v2, jv_I v3, jv_U] [] (LL n l) g Q :=
  jv_of_wp (gok9 (A := A)) (md := []) (stop := []) (tab := jt_Y_send) rfl 400 _ _ _ _ _ h
set_option maxRecDepth 100000 in
theorem sg_Y_send_49 {A : jA} {n l : Nat} {g : jv_S} {Q : jv_V → jv_L → jv_S → Prop} {v1 v2 v3 s0 : Int} {v4 : jv_V} (h :
   (s0 = (-9 : Int) →
     Q (jv_I (-3 : Int)) (LL n l) g) ∧
    (¬ s0 = (-9 : Int) →
     ((g 136 27) = (30 : Int) →
       Q (jv_I (-4 : Int)) (LL n l) g) ∧
      (¬ (g 136 27) = (30 : Int) →
       (0 ≤ (g 136 27) ∧ (g 136 27) < 30) ∧ 
        (0 ≤ (g 136 27) ∧ (g 136 27) < 30) ∧ 
        (0 ≤ (g 136 27) ∧ (g 136 27) < 30) ∧ 
        (0 ≤ (g 136 27) ∧ (g 136 27) < 30) ∧ 
        (0 ≤ (g 136 27) ∧ (g 136 27) < 30) ∧ 
        (0 ≤ (g 136 27) ∧ (g 136 27) < 30) ∧ 
        jv_Ca jv_T jv_ml kY_comesIn [jv_P 136, jv_I (g 136 27), jv_I s0] (LL n l) (jv_up (jv_up (jv_up (jv_up (jv_up (jv_up g 155 (g 136 27) v1) 156 (g 136 27) v2) 157 (g 136 27) v3) 159 (g 136 27) (0 : Int)) 160 (g 136 27) (-9 : Int)) 161 (g 136 27) (0 : Int)) (fun r L2 g2 => jv_At jv_T jv_ml kY_send 144 [jv_P 136, jv_I v1, jv_I v2, jv_I v3, jv_I s0] (jv_pu r []) L2 g2 Q)))) :
  jv_At jv_T jv_ml kY_send 49 [jv_P 136, jv_I v1, jv_I v2, jv_I v3, v4] [jv_I s0] (LL n l) g Q :=
  jv_of_wp (gok9 (A := A)) (md := []) (stop := []) (tab := jt_Y_send) rfl 400 _ _ _ _ _ h
set_option maxRecDepth 100000 in
theorem sg_Y_send_144 {A : jA} {n l : Nat} {g : jv_S} {Q : jv_V → jv_L → jv_S → Prop} {v1 v2 v3 v4 : Int} (h :
   jv_r32 ((g 136 27) + (1 : Int)) ∧
    jv_r32 (((g 136 27) + (1 : Int)) - (1 : Int)) ∧
    Q (jv_I (((g 136 27) + (1 : Int)) - (1 : Int))) (LL n l) (jv_up g 136 27 ((g 136 27) + (1 : Int)))) :
  jv_At jv_T jv_ml kY_send 144 [jv_P 136, jv_I v1, jv_I v2, jv_I v3, jv_I v4] [] (LL n l) g Q :=
  jv_of_wp (gok9 (A := A)) (md := []) (stop := []) (tab := jt_Y_send) rfl 400 _ _ _ _ _ h
theorem tr_Y_send {A : jA} {B : jB} {n l : Nat} {g : jv_S} {Q : jv_V → jv_L → jv_S → Prop} {kd x y : Int} (hM : MN A g) (hB' : BW A B) (hT : TMr A B g)
  (hQ : ∀ (g' : jv_S), TMr A (snd' A B kd x y).2.1 g' → (∀ (p : Nat) (i : Int), ¬ ((155 ≤ p ∧ p ≤ 164) ∨ (p = 136 ∧ i = 27)) → g' p i = g p i) → Q (jv_I (snd' A B kd x y).1) (LL n l) g') :
  jv_Ca jv_T jv_ml kY_send [jv_P 136, jv_I kd, jv_I x, jv_I y] (LL n l) g Q := by
  have hw := hM.1
  have w1 := hw.1
  have w2 := hw.2.1
  have f1 := hM.2.1
  obtain ⟨b1, b2, b3, b4, b5⟩ := id hB'
  obtain ⟨t1, t2, t3, t5⟩ := id hT
  have hrm : ∀ c, c < ln A → rm A c ≤ 2 := fun c hc => (hw.2.2.2.1 c hc).2.2.2.2.1
  unfold snd' at hQ
  apply sg_Y_send_0 (A := A)
  rw [jp0, jp0, jp0, f1]
  refine ⟨⟨rfl, LLx_ok, trivial⟩, fun h => ?_, fun h => ⟨⟨rfl, LLx_ok, trivial⟩, fun h1 => ?_, fun h1 => ⟨trivial, fun h2 => ?_, fun h2 => ⟨fun h3 => ?_, fun h3 => ?_⟩⟩⟩⟩
  · rw [if_pos (fun hx => h hx.1)] at hQ
    exact hQ g hT (fun _ _ _ => rfl)
  · rw [if_pos (fun hx => h1 hx.2)] at hQ
    exact hQ g hT (fun _ _ _ => rfl)
  · rw [if_neg (by omega), if_pos (Or.inl h2)] at hQ
    exact hQ g hT (fun _ _ _ => rfl)
  · rw [if_neg (by omega), if_pos (Or.inr h3)] at hQ
    exact hQ g hT (fun _ _ _ => rfl)
  · rw [if_neg (by omega), if_neg (by omega)] at hQ
    obtain ⟨x, rfl⟩ := Int.eq_ofNat_of_zero_le (show 0 ≤ x by omega)
    obtain ⟨y, rfl⟩ := Int.eq_ofNat_of_zero_le (show 0 ≤ y by omega)
    rw [Int.toNat_natCast, Int.toNat_natCast] at hQ
    rw [tkI_x]
    refine ⟨⟨by omega, by omega⟩, ⟨rfl, LLx_ok, hM, ⟨by omega, by omega⟩, by omega, by omega⟩, tr_Y_laneFor hM t2 (tk_ltl _ _) ?_⟩
    apply sg_Y_send_49 (A := A)
    rw [t1.1]
    rcases chf_ok (A := A) (B := B) (kd := kd) (s := tk A (10 + x) y) (m := ln A) (ln A) (Nat.le_refl _) with h9 | ⟨d, d1, d2, d3, d4⟩
    · have h9 : chs A B kd (tk A (10 + x) y) = -9 := h9
      rw [h9] at hQ ⊢
      rw [if_pos rfl] at hQ
      exact ⟨fun _ => hQ g hT (fun _ _ _ => rfl), fun h => absurd rfl h⟩
    · have d2 : chs A B kd (tk A (10 + x) y) = (d : Int) := d2
      rw [d2] at hQ ⊢
      rw [if_neg (by omega), Int.toNat_natCast] at hQ
      refine ⟨fun h => by omega, fun _ => ⟨fun h4 => ?_, fun h4 => ?_⟩⟩
      · rw [if_pos (by omega)] at hQ
        exact hQ g hT (fun _ _ _ => rfl)
      · rw [if_neg (by omega)] at hQ
        have u2 := hrm d d1
        have u1 := b2 d d1
        obtain ⟨cn, hcn⟩ := Int.eq_ofNat_of_zero_le b1.1
        rw [hcn]
        refine ⟨⟨by omega, by omega⟩, ⟨by omega, by omega⟩, ⟨by omega, by omega⟩, ⟨by omega, by omega⟩, ⟨by omega, by omega⟩, ⟨by omega, by omega⟩, ?_⟩
        obtain ⟨G, hG⟩ : ∃ G, G = jv_up (jv_up (jv_up (jv_up (jv_up (jv_up g 155 cn kd) 156 cn x) 157 cn y) 159 cn 0) 160 cn (-9)) 161 cn 0 := ⟨_, rfl⟩
        rw [← hG]
        have Gf : ∀ (p : Nat) (j : Int), ¬ (155 ≤ p ∧ p ≤ 161 ∧ j = cn) → G p j = g p j := fun p j hp => by rw [hG, up_ne (by omega), up_ne (by omega), up_ne (by omega), up_ne (by omega), up_ne (by omega), up_ne (by omega)]
        have g8 : G 162 d = B 8 d := by rw [Gf _ _ (by omega)]; exact t2 d d1
        have g5 : G 159 cn = 0 := by rw [hG, up_ne (by omega), up_ne (by omega), up_eq rfl rfl]
        apply sg_Y_comesIn_0 (A := A)
        rw [g8, g5]
        refine ⟨⟨by omega, by omega⟩, ⟨by omega, by omega⟩, ⟨by omega, by omega⟩, ⟨by omega, by omega⟩, ⟨by omega, by omega⟩, ⟨by omega, by omega⟩, ⟨by omega, by omega⟩, ⟨by omega, by omega⟩, ⟨by omega, by omega⟩, ⟨by omega, by omega⟩, ⟨by omega, by omega⟩, ?_⟩
        obtain ⟨H, hH⟩ : ∃ H, H = jv_up (jv_up (jv_up (jv_up G 163 (2 * (d : Int) + B 8 d) cn) 162 d (B 8 d + 1)) 158 cn d) 159 cn (0 + 1) := ⟨_, rfl⟩
        rw [← hH]
        apply sg_Y_send_144 (A := A)
        have e27 : H 136 27 = cn := by rw [hH, up_ne (by omega), up_ne (by omega), up_ne (by omega), up_ne (by omega), Gf _ _ (by omega), t1.1, hcn]
        rw [e27, show (cn : Int) + 1 - 1 = cn by omega]
        refine ⟨⟨by omega, by omega⟩, ⟨by omega, by omega⟩, ?_⟩
        have res := hQ (jv_up H 136 27 ((cn : Int) + 1)) ⟨⟨?_, ?_⟩, fun c' hc' => ?_, fun c' k hc' hk => ?_, fun e he => ?_⟩ (fun p j hp => ?_)
        · rw [hcn] at res
          exact res
        · show _ = B 0 0 + 1
          rw [up_eq rfl rfl, hcn]
        · show _ = B 0 1
          rw [up_ne (by omega), hH, up_ne (by omega), up_ne (by omega), up_ne (by omega), up_ne (by omega), Gf _ _ (by omega)]
          exact t1.2
        · show _ = if c' = d then B 8 c' + 1 else B 8 c'
          rw [up_ne (by omega), hH, up_ne (by omega), up_ne (by omega)]
          by_cases hcd : c' = d
          · subst hcd; rw [if_pos rfl, up_eq rfl rfl]
          · rw [if_neg hcd, up_ne (by omega), up_ne (by omega), Gf _ _ (by omega)]
            exact t2 c' hc'
        · have hk : (k : Int) < (if c' = d then B 8 c' + 1 else B 8 c') := hk
          have q1 := b2 c' hc'
          have q2 := hrm c' hc'
          show _ = if 2 * c' + k = 2 * d + (B 8 d).toNat then B 0 0 else B 9 (2 * c' + k)
          rw [up_ne (by omega), hH, up_ne (by omega), up_ne (by omega), up_ne (by omega)]
          by_cases hcd : c' = d
          · subst hcd
            rw [if_pos rfl] at hk
            by_cases hkt : (k : Int) = B 8 c'
            · rw [if_pos (by omega), up_eq rfl (by omega)]; exact hcn.symm
            · rw [if_neg (by omega), up_ne (by omega), Gf _ _ (by omega)]
              exact t3 c' k hc' (by omega)
          · rw [if_neg hcd] at hk
            rw [if_neg (by omega), up_ne (by omega), Gf _ _ (by omega)]
            exact t3 c' k hc' hk
        · have he : (e : Int) < B 0 0 + 1 := he
          show _ = (if e = (B 0 0).toNat then kd else B 1 e) ∧ _ = (if e = (B 0 0).toNat then (x : Int) else B 2 e) ∧ _ = (if e = (B 0 0).toNat then (y : Int) else B 3 e) ∧ _ = (if e = (B 0 0).toNat then (d : Int) else B 4 e) ∧ _ = (if e = (B 0 0).toNat then 1 else B 5 e) ∧ _ = (if e = (B 0 0).toNat then -9 else B 6 e)
          have hH1 : ∀ (p : Nat) (j : Int), p = 155 ∨ p = 156 ∨ p = 157 ∨ p = 160 → jv_up H 136 27 ((cn : Int) + 1) p j = G p j := fun p j hp => by rw [up_ne (by omega), hH, up_ne (by omega), up_ne (by omega), up_ne (by omega), up_ne (by omega)]
          rw [hH1 155 _ (by omega), hH1 156 _ (by omega), hH1 157 _ (by omega), hH1 160 _ (by omega), up_ne (by omega), up_ne (by omega), hH]
          by_cases hec : e = (B 0 0).toNat
          · have hec' : e = cn := by omega
            subst hec'
            simp only [if_pos hec]
            refine ⟨?_, ?_, ?_, ?_, ?_, ?_⟩
            · rw [hG, up_ne (by omega), up_ne (by omega), up_ne (by omega), up_ne (by omega), up_ne (by omega), up_eq rfl rfl]
            · rw [hG, up_ne (by omega), up_ne (by omega), up_ne (by omega), up_ne (by omega), up_eq rfl rfl]
            · rw [hG, up_ne (by omega), up_ne (by omega), up_ne (by omega), up_eq rfl rfl]
            · rw [up_ne (by omega), up_eq rfl rfl]
            · rw [up_eq rfl rfl]; rfl
            · rw [hG, up_ne (by omega), up_eq rfl rfl]
          · simp only [if_neg hec]
            obtain ⟨x1, x2, x3, x4, x5, x6⟩ := t5 e (by omega)
            rw [Gf 155 _ (by omega), Gf 156 _ (by omega), Gf 157 _ (by omega), Gf 160 _ (by omega)]
            refine ⟨x1, x2, x3, ?_, ?_, x6⟩
            · rw [up_ne (by omega), up_ne (by omega), up_ne (by omega), up_ne (by omega), Gf _ _ (by omega)]; exact x4
            · rw [up_ne (by omega), up_ne (by omega), up_ne (by omega), up_ne (by omega), Gf _ _ (by omega)]; exact x5
        · rw [up_ne (by omega), hH, up_ne (by omega), up_ne (by omega), up_ne (by omega), up_ne (by omega), Gf _ _ (by omega)]
