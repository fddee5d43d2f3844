/-! ===== the class's bears ===== -/
theorem Af_y {A : jA} (d : Nat) : sgm (fun y => Sf A y d) (nd A) = Af A d := by
  unfold Af Sf Tf
  exact sgm_swap (f := fun y x => sgm (fun k => Wf A x y k d) 10) (nd A) (nd A)
set_option maxRecDepth 100000 in
theorem sg_B_work_0 {A : jA} {n l : Nat} {g : jv_S} {Q : jv_V → jv_L → jv_S → Prop} (h :
   ((g 131 7) = (g 40 5) →
     Q jv_U (LL n l) g) ∧
    (¬ (g 131 7) = (g 40 5) →
     jv_Ca jv_T jv_ml kAr_fillJ [jv_P 132, jv_J (0 : Int)] (LL n l) (jv_up g 131 7 (g 40 5)) (fun r L2 g2 => jv_At jv_T jv_ml kB_work 34 [jv_P 131, jv_U, jv_U] (jv_pu r []) L2 g2 Q))) :
  jv_At jv_T jv_ml kB_work 0 [jv_P 131, jv_U, jv_U] [] (LL n l) g Q :=
  jv_of_wp (gok9 (A := A)) (md := []) (stop := [44, 62]) (tab := jt_B_work) rfl 400 _ _ _ _ _ h
set_option maxRecDepth 100000 in
theorem sg_B_work_34 {A : jA} {n l : Nat} {g : jv_S} {Q : jv_V → jv_L → jv_S → Prop} {v1 v2 : jv_V} (h :
   jv_Ca jv_T jv_ml kAr_fillJ [jv_P 133, jv_J (1 : Int)] (LL n l) g (fun r L2 g2 => jv_At jv_T jv_ml kB_work 42 [jv_P 131, v1, v2] (jv_pu r []) L2 g2 Q)) :
  jv_At jv_T jv_ml kB_work 34 [jv_P 131, v1, v2] [] (LL n l) g Q :=
  jv_of_wp (gok9 (A := A)) (md := []) (stop := [44, 62]) (tab := jt_B_work) rfl 400 _ _ _ _ _ h
set_option maxRecDepth 100000 in
theorem sg_B_work_42 {A : jA} {n l : Nat} {g : jv_S} {Q : jv_V → jv_L → jv_S → Prop} {v1 v2 : jv_V} (h :
   jv_At jv_T jv_ml kB_work 44 [jv_P 131, jv_I (0 : Int), v2] [] (LL n l) g Q) :
  jv_At jv_T jv_ml kB_work 42 [jv_P 131, v1, v2] [] (LL n l) g Q :=
  jv_of_wp (gok9 (A := A)) (md := []) (stop := [44, 62]) (tab := jt_B_work) rfl 400 _ _ _ _ _ h
set_option maxRecDepth 100000 in
theorem sg_B_work_44 {A : jA} {n l : Nat} {g : jv_S} {Q : jv_V → jv_L → jv_S → Prop} {v1 : Int} {v2 : jv_V} (h :
   ((g 14 0) ≤ v1 →
     Q jv_U (LL n l) g) ∧
    (¬ (g 14 0) ≤ v1 →
     jv_Ca jv_T jv_ml kB_pour [jv_P 131, jv_I v1] (LL n l) g (fun r L2 g2 => jv_At jv_T jv_ml kB_work 60 [jv_P 131, jv_I v1, v2] (jv_pu r []) L2 g2 Q))) :
  jv_At jv_T jv_ml kB_work 44 [jv_P 131, jv_I v1, v2] [] (LL n l) g Q :=
  jv_of_wp (gok9 (A := A)) (md := []) (stop := [44, 62]) (tab := jt_B_work) rfl 400 _ _ _ _ _ h
set_option maxRecDepth 100000 in
theorem sg_B_work_60 {A : jA} {n l : Nat} {g : jv_S} {Q : jv_V → jv_L → jv_S → Prop} {v1 : Int} {v2 : jv_V} (h :
   jv_At jv_T jv_ml kB_work 62 [jv_P 131, jv_I v1, jv_I (0 : Int)] [] (LL n l) g Q) :
  jv_At jv_T jv_ml kB_work 60 [jv_P 131, jv_I v1, v2] [] (LL n l) g Q :=
  jv_of_wp (gok9 (A := A)) (md := []) (stop := [44, 62]) (tab := jt_B_work) rfl 400 _ _ _ _ _ h
set_option maxRecDepth 100000 in
theorem sg_B_work_62 {A : jA} {n l : Nat} {g : jv_S} {Q : jv_V → jv_L → jv_S → Prop} {v1 v2 : Int} (h :
   ((g 14 1) ≤ v2 →
     jv_r32 (v1 + (1 : Int)) ∧
      jv_At jv_T jv_ml kB_work 44 [jv_P 131, jv_I (v1 + (1 : Int)), jv_I v2] [] (LL n l) g Q) ∧
    (¬ (g 14 1) ≤ v2 →
     (0 ≤ v2 ∧ v2 < 10) ∧
      (0 ≤ v2 ∧ v2 < 10) ∧
      jv_Ca jv_T jv_ml kB_add [jv_P 132, jv_P 133, jv_I v2, jv_J (g 134 v2), jv_J (g 135 v2)] (LL n l) g (fun r L2 g2 => jv_At jv_T jv_ml kB_work 97 [jv_P 131, jv_I v1, jv_I v2] (jv_pu r []) L2 g2 Q))) :
  jv_At jv_T jv_ml kB_work 62 [jv_P 131, jv_I v1, jv_I v2] [] (LL n l) g Q :=
  jv_of_wp (gok9 (A := A)) (md := []) (stop := [44, 62]) (tab := jt_B_work) rfl 400 _ _ _ _ _ h
set_option maxRecDepth 100000 in
theorem sg_B_work_97 {A : jA} {n l : Nat} {g : jv_S} {Q : jv_V → jv_L → jv_S → Prop} {v1 v2 : Int} (h :
   jv_r32 (v2 + (1 : Int)) ∧
    jv_At jv_T jv_ml kB_work 62 [jv_P 131, jv_I v1, jv_I (v2 + (1 : Int))] [] (LL n l) g Q) :
  jv_At jv_T jv_ml kB_work 97 [jv_P 131, jv_I v1, jv_I v2] [] (LL n l) g Q :=
  jv_of_wp (gok9 (A := A)) (md := []) (stop := [44, 62]) (tab := jt_B_work) rfl 400 _ _ _ _ _ h
theorem tr_B_work {A : jA} {n l : Nat} {g : jv_S} {Q : jv_V → jv_L → jv_S → Prop} (hC : CN A g) (hW : CW 40 A g) (h61 : ∀ y : Nat, y < nd A → g 61 y = cr A y) (hr : ∀ y, y < nd A → NR A y) (hc : g 131 7 = g 40 5 → SR 132 133 (NN A) (Af A) (ln A) g)
  (hQ : ∀ g' : jv_S, SR 132 133 (NN A) (Af A) (ln A) g' → g' 131 7 = g 40 5 → (∀ (p : Nat) (i : Int), ¬ ((132 ≤ p ∧ p ≤ 135) ∨ (p = 131 ∧ i = 7)) → g' p i = g p i) → Q jv_U (LL n l) g') :
  jv_Ca jv_T jv_ml kB_work [jv_P 131] (LL n l) g Q := by
  have hw := hC.1
  have w1 := hw.1
  have w2 := hw.2.1
  have hN := NN_pos hw
  have bN := NN_le hw
  have f1 := hC.2.1
  have f2 := hC.2.2.1
  have ys : ∀ y, y ≤ nd A → ∀ (g' : jv_S) (v2 : jv_V), SR 132 133 (NN A) (fun d => sgm (fun y => Sf A y d) y) (ln A) g' → g' 131 7 = g 40 5 → (∀ (p : Nat) (i : Int), ¬ ((132 ≤ p ∧ p ≤ 135) ∨ (p = 131 ∧ i = 7)) → g' p i = g p i) → jv_At jv_T jv_ml kB_work 44 [jv_P 131, jv_I y, v2] [] (LL n l) (g') Q := by
    apply loop_up
    intro y hy ih g' v2 a1 a2 a3
    have f1' : g' 14 0 = nd A := by rw [a3 _ _ (by omega)]; exact f1
    apply sg_B_work_44 (A := A)
    refine ⟨fun h => hQ g' (SR_ext a1 (fun d _ => by rw [show y = nd A by omega]; exact Af_y d)) a2 a3, fun h => ?_⟩
    have hyl : y < nd A := by omega
    refine tr_B_pour (CN_fr hC (fun p i a b => a3 _ _ (by omega))) (CW_fr hW (a3 _ _ (by omega)) (fun i => a3 _ _ (by omega)) (fun i => a3 _ _ (by omega)) (fun i => a3 _ _ (by omega))) (by rw [a3 _ _ (by omega)]; exact h61 y hyl) hyl (hr y hyl) (fun g1 b1 b2 => ?_)
    apply sg_B_work_60 (A := A)
    have cs : ∀ c, c ≤ ln A → ∀ g2 : jv_S, SR 132 133 (NN A) (fun d => sgm (fun y => Sf A y d) y + if d < c then Sf A y d else 0) (ln A) g2 → (∀ (p : Nat) (i : Int), ¬ (p = 132 ∨ p = 133) → g2 p i = g1 p i) → jv_At jv_T jv_ml kB_work 62 [jv_P 131, jv_I y, jv_I c] [] (LL n l) g2 Q := by
      apply loop_up
      intro c hcl ihc g2 c1 c2
      have fr2 : ∀ (p : Nat) (i : Int), ¬ ((132 ≤ p ∧ p ≤ 135) ∨ (p = 131 ∧ i = 7)) → g2 p i = g p i := fun p i hp => by rw [c2 _ _ (by omega), b2 _ _ (by omega)]; exact a3 p i hp
      have f2' : g2 14 1 = ln A := by rw [fr2 _ _ (by omega)]; exact f2
      apply sg_B_work_62 (A := A)
      refine ⟨fun h3 => ⟨⟨by omega, by omega⟩, ih hyl g2 _ (SR_ext c1 (fun d hd => by rw [if_pos (by omega)]; rfl)) (by rw [c2 _ _ (by omega), b2 _ _ (by omega)]; exact a2) fr2⟩, fun h3 => ?_⟩
      have hc' : c < ln A := by omega
      obtain ⟨u1, u2⟩ := b1 c hc'
      have x1 := c1 c hc'
      rw [c2 134 c (by omega), c2 135 c (by omega), u1, u2]
      refine ⟨⟨by omega, by omega⟩, ⟨by omega, by omega⟩, ?_⟩
      have hz : (if c < c then Sf A y c else 0) = 0 := if_neg (by omega)
      have h1 : sgm (fun y => Sf A y c) y ≤ y * (60 * NN A) := sgm_B _ (fun _ _ => Sf_le hw hc')
      have h2 : y * (60 * NN A) ≤ 6 * (60 * NN A) := Nat.mul_le_mul_right _ (by omega)
      have h4 := Sf_le (y := y) hw hc'
      refine tr_B_add_132 (A := A) (V1 := sgm (fun y => Sf A y c) y + if c < c then Sf A y c else 0) (V2 := Sf A y c) hN (by omega) (by rw [hz]; omega) (by omega) x1.1 x1.2 (rd_RP _ _) ?_
      apply sg_B_work_97 (A := A)
      refine ⟨⟨by omega, by omega⟩, ihc hc' _ (SR_ext (SR_up (d := c) (V := Sf A y c) (show 132 ≠ 133 by decide) c1) (fun d _ => ?_)) (fun p i hp => by rw [up_ne (by omega), up_ne (by omega)]; exact c2 p i hp)⟩
      show sgm _ y + (if d < c then Sf A y d else 0) + (if d = c then Sf A y c else 0) = sgm _ y + (if d < c + 1 then Sf A y d else 0)
      by_cases hdc : d = c
      · subst hdc
        rw [if_neg (by omega), if_pos rfl, if_pos (by omega)]
        rfl
      · rw [if_neg hdc, Nat.add_zero]
        by_cases hlt : d < c
        · rw [if_pos hlt, if_pos (by omega)]
        · rw [if_neg hlt, if_neg (by omega)]
    exact cs 0 (by omega) g1 (SR_ext (SR_fr a1 (fun i => b2 _ _ (by omega)) (fun i => b2 _ _ (by omega))) (fun d _ => by rw [if_neg (by omega)]; rfl)) (fun _ _ _ => rfl)
  apply sg_B_work_0 (A := A)
  refine ⟨fun h => hQ g (hc h) h (fun _ _ _ => rfl), fun h => ?_⟩
  refine tr_Ar_fillJ_132 (A := A) (fun g0 z1 z2 => ?_)
  apply sg_B_work_34 (A := A)
  refine tr_Ar_fillJ_133 (A := A) (fun g1 y1 y2 => ?_)
  apply sg_B_work_42 (A := A)
  refine ys 0 (by omega) g1 _ (fun c hc => ?_) (by rw [y2 _ _ (by omega), z2 _ _ (by omega), up_eq rfl rfl]) (fun p i hp => by rw [y2 _ _ (by omega), z2 _ _ (by omega), up_ne (by omega)])
  show g1 132 c = (rdu (NN A) 0 : Nat) ∧ g1 133 c = (rdd (NN A) 0 : Nat)
  rw [(rd_0 hN).1, (rd_0 hN).2, y2 _ _ (by omega), z1 _ (by omega) (by omega), y1 _ (by omega) (by omega)]
  exact ⟨rfl, rfl⟩
