theorem sg_Y_takes_0 {n l : Nat} {g : jv_S} {Q : jv_V → jv_L → jv_S → Prop} {v1 v2 : Int} (h :
   (10 ≤ v1 →
     jv_r32 (v1 - 10) ∧
      jv_At jv_T jv_ml kY_takes 19 [jv_P 136, jv_I v1, jv_I v2, jv_U, jv_U, jv_U, jv_U] [jv_I (v1 - 10)] (LL n l) g Q) ∧
    (¬ 10 ≤ v1 →
     (0 ≤ v1 ∧ v1 < 10) ∧
      jv_At jv_T jv_ml kY_takes 19 [jv_P 136, jv_I v1, jv_I v2, jv_U, jv_U, jv_U, jv_U] [jv_I (g 141 v1)] (LL n l) g Q)) :
  jv_At jv_T jv_ml kY_takes 0 [jv_P 136, jv_I v1, jv_I v2, jv_U, jv_U, jv_U, jv_U] [] (LL n l) g Q :=
  jv_of_wp jg_nil (md := []) (stop := [19, 33, 76, 128, 144, 153]) (tab := jt_Y_takes) rfl 400 _ _ _ _ _ h
theorem sg_Y_takes_19 {n l : Nat} {g : jv_S} {Q : jv_V → jv_L → jv_S → Prop} {v1 v2 s0 : Int} {v3 v4 v5 v6 : jv_V} (h :
   (s0 = v2 →
     Q (jv_I 0) (LL n l) g) ∧
    (¬ s0 = v2 →
     jv_At jv_T jv_ml kY_takes 33 [jv_P 136, jv_I v1, jv_I v2, jv_I s0, jv_I 0, jv_I 0, v6] [] (LL n l) g Q)) :
  jv_At jv_T jv_ml kY_takes 19 [jv_P 136, jv_I v1, jv_I v2, v3, v4, v5, v6] [jv_I s0] (LL n l) g Q :=
  jv_of_wp jg_nil (md := []) (stop := [19, 33, 76, 128, 144, 153]) (tab := jt_Y_takes) rfl 400 _ _ _ _ _ h
theorem sg_Y_takes_33 {n l : Nat} {g : jv_S} {Q : jv_V → jv_L → jv_S → Prop} {v1 v2 v3 v4 v5 : Int} {v6 : jv_V} (h :
   ((g 136 6) ≤ v5 →
     Q (jv_I v4) (LL n l) g) ∧
    (¬ (g 136 6) ≤ v5 →
     (0 ≤ v5 ∧ v5 < 10) ∧
      ((g 140 v5) = v3 →
       (10 ≤ v1 →
         jv_At jv_T jv_ml kY_takes 76 [jv_P 136, jv_I v1, jv_I v2, jv_I v3, jv_I v4, jv_I v5, v6] [] (LL n l) g Q) ∧
        (¬ 10 ≤ v1 →
         (0 ≤ v1 ∧ v1 < 10) ∧
          jv_Ca jv_T jv_ml kY_has [jv_I (g 143 v1), jv_I v5] (LL n l) g (fun r L2 g2 => jv_At jv_T jv_ml kY_takes 70 [jv_P 136, jv_I v1, jv_I v2, jv_I v3, jv_I v4, jv_I v5, v6] (jv_pu r []) L2 g2 Q))) ∧
      (¬ (g 140 v5) = v3 →
       jv_At jv_T jv_ml kY_takes 153 [jv_P 136, jv_I v1, jv_I v2, jv_I v3, jv_I v4, jv_I v5, v6] [] (LL n l) g Q))) :
  jv_At jv_T jv_ml kY_takes 33 [jv_P 136, jv_I v1, jv_I v2, jv_I v3, jv_I v4, jv_I v5, v6] [] (LL n l) g Q :=
  jv_of_wp jg_nil (md := []) (stop := [19, 33, 76, 128, 144, 153]) (tab := jt_Y_takes) rfl 400 _ _ _ _ _ h
theorem sg_Y_takes_70 {n l : Nat} {g : jv_S} {Q : jv_V → jv_L → jv_S → Prop} {v1 v2 v3 v4 v5 s0 : Int} {v6 : jv_V} (h :
   (s0 = 0 →
     jv_At jv_T jv_ml kY_takes 76 [jv_P 136, jv_I v1, jv_I v2, jv_I v3, jv_I v4, jv_I v5, v6] [] (LL n l) g Q) ∧
    (¬ s0 = 0 →
     jv_At jv_T jv_ml kY_takes 153 [jv_P 136, jv_I v1, jv_I v2, jv_I v3, jv_I v4, jv_I v5, v6] [] (LL n l) g Q)) :
  jv_At jv_T jv_ml kY_takes 70 [jv_P 136, jv_I v1, jv_I v2, jv_I v3, jv_I v4, jv_I v5, v6] [jv_I s0] (LL n l) g Q :=
  jv_of_wp jg_nil (md := []) (stop := [19, 33, 76, 128, 144, 153]) (tab := jt_Y_takes) rfl 400 _ _ _ _ _ h
theorem sg_Y_takes_76 {n l : Nat} {g : jv_S} {Q : jv_V → jv_L → jv_S → Prop} {v1 v2 v3 v4 v5 : Int} {v6 : jv_V} (h :
   (0 ≤ v5 ∧ v5 < 10) ∧
    jv_r32 (6 * (g 141 v5)) ∧
    jv_r32 ((6 * (g 141 v5)) + v2) ∧
    (0 ≤ ((6 * (g 141 v5)) + v2) ∧ ((6 * (g 141 v5)) + v2) < 36) ∧
    ((g 144 ((6 * (g 141 v5)) + v2)) = (-9) →
     jv_At jv_T jv_ml kY_takes 153 [jv_P 136, jv_I v1, jv_I v2, jv_I v3, jv_I v4, jv_I v5, jv_I (g 144 ((6 * (g 141 v5)) + v2))] [] (LL n l) g Q) ∧
    (¬ (g 144 ((6 * (g 141 v5)) + v2)) = (-9) →
     (2 ≤ (g 136 12) →
       jv_At jv_T jv_ml kY_takes 128 [jv_P 136, jv_I v1, jv_I v2, jv_I v3, jv_I v4, jv_I v5, jv_I (g 144 ((6 * (g 141 v5)) + v2))] [] (LL n l) g Q) ∧
      (¬ 2 ≤ (g 136 12) →
       jv_r32 ((g 144 ((6 * (g 141 v5)) + v2)) + 1) ∧
        jv_r32 (6 * v3) ∧
        jv_r32 ((6 * v3) + v2) ∧
        (0 ≤ ((6 * v3) + v2) ∧ ((6 * v3) + v2) < 36) ∧
        (((g 144 ((6 * (g 141 v5)) + v2)) + 1) = (g 144 ((6 * v3) + v2)) →
         jv_At jv_T jv_ml kY_takes 128 [jv_P 136, jv_I v1, jv_I v2, jv_I v3, jv_I v4, jv_I v5, jv_I (g 144 ((6 * (g 141 v5)) + v2))] [] (LL n l) g Q) ∧
        (¬ ((g 144 ((6 * (g 141 v5)) + v2)) + 1) = (g 144 ((6 * v3) + v2)) →
         jv_At jv_T jv_ml kY_takes 153 [jv_P 136, jv_I v1, jv_I v2, jv_I v3, jv_I v4, jv_I v5, jv_I (g 144 ((6 * (g 141 v5)) + v2))] [] (LL n l) g Q)))) :
  jv_At jv_T jv_ml kY_takes 76 [jv_P 136, jv_I v1, jv_I v2, jv_I v3, jv_I v4, jv_I v5, v6] [] (LL n l) g Q :=
  jv_of_wp jg_nil (md := []) (stop := [19, 33, 76, 128, 144, 153]) (tab := jt_Y_takes) rfl 400 _ _ _ _ _ h
theorem sg_Y_takes_128 {n l : Nat} {g : jv_S} {Q : jv_V → jv_L → jv_S → Prop} {v1 v2 v3 v4 v5 v6 : Int} (h :
   ((g 136 12) = 1 →
     (v4 = 0 →
       jv_At jv_T jv_ml kY_takes 144 [jv_P 136, jv_I v1, jv_I v2, jv_I v3, jv_I v4, jv_I v5, jv_I v6] [] (LL n l) g Q) ∧
      (¬ v4 = 0 →
       jv_At jv_T jv_ml kY_takes 153 [jv_P 136, jv_I v1, jv_I v2, jv_I v3, jv_I v4, jv_I v5, jv_I v6] [] (LL n l) g Q)) ∧
    (¬ (g 136 12) = 1 →
     jv_At jv_T jv_ml kY_takes 144 [jv_P 136, jv_I v1, jv_I v2, jv_I v3, jv_I v4, jv_I v5, jv_I v6] [] (LL n l) g Q)) :
  jv_At jv_T jv_ml kY_takes 128 [jv_P 136, jv_I v1, jv_I v2, jv_I v3, jv_I v4, jv_I v5, jv_I v6] [] (LL n l) g Q :=
  jv_of_wp jg_nil (md := []) (stop := [19, 33, 76, 128, 144, 153]) (tab := jt_Y_takes) rfl 400 _ _ _ _ _ h
theorem sg_Y_takes_144 {n l : Nat} {g : jv_S} {Q : jv_V → jv_L → jv_S → Prop} {v1 v2 v3 v4 v5 v6 : Int} (h :
   jv_At jv_T jv_ml kY_takes 153 [jv_P 136, jv_I v1, jv_I v2, jv_I v3, jv_I (jv_or v4 (jv_shl 1 v5)), jv_I v5, jv_I v6] [] (LL n l) g Q) :
  jv_At jv_T jv_ml kY_takes 144 [jv_P 136, jv_I v1, jv_I v2, jv_I v3, jv_I v4, jv_I v5, jv_I v6] [] (LL n l) g Q :=
  jv_of_wp jg_nil (md := []) (stop := [19, 33, 76, 128, 144, 153]) (tab := jt_Y_takes) rfl 400 _ _ _ _ _ h
theorem sg_Y_takes_153 {n l : Nat} {g : jv_S} {Q : jv_V → jv_L → jv_S → Prop} {v1 v2 v3 v4 v5 : Int} {v6 : jv_V} (h :
   jv_r32 (v5 + 1) ∧
    jv_At jv_T jv_ml kY_takes 33 [jv_P 136, jv_I v1, jv_I v2, jv_I v3, jv_I v4, jv_I (v5 + 1), v6] [] (LL n l) g Q) :
  jv_At jv_T jv_ml kY_takes 153 [jv_P 136, jv_I v1, jv_I v2, jv_I v3, jv_I v4, jv_I v5, v6] [] (LL n l) g Q :=
  jv_of_wp jg_nil (md := []) (stop := [19, 33, 76, 128, 144, 153]) (tab := jt_Y_takes) rfl 400 _ _ _ _ _ h

theorem sg_N_isLane_0 {n l : Nat} {g : jv_S} {Q : jv_V → jv_L → jv_S → Prop} {v1 : Int} (h :
   (v1 < 0 →
     jv_At jv_T jv_ml kN_isLane 16 [jv_P 14, jv_I v1] [] (LL n l) g Q) ∧
    (¬ v1 < 0 →
     ((g 14 1) ≤ v1 →
       jv_At jv_T jv_ml kN_isLane 16 [jv_P 14, jv_I v1] [] (LL n l) g Q) ∧
      (¬ (g 14 1) ≤ v1 →
       jv_At jv_T jv_ml kN_isLane 17 [jv_P 14, jv_I v1] [jv_I 1] (LL n l) g Q))) :
  jv_At jv_T jv_ml kN_isLane 0 [jv_P 14, jv_I v1] [] (LL n l) g Q :=
  jv_of_wp jg_nil (md := []) (stop := [16, 17]) (tab := jt_N_isLane) rfl 400 _ _ _ _ _ h
theorem sg_N_isLane_16 {n l : Nat} {g : jv_S} {Q : jv_V → jv_L → jv_S → Prop} {v1 : Int} (h :
   jv_At jv_T jv_ml kN_isLane 17 [jv_P 14, jv_I v1] [jv_I 0] (LL n l) g Q) :
  jv_At jv_T jv_ml kN_isLane 16 [jv_P 14, jv_I v1] [] (LL n l) g Q :=
  jv_of_wp jg_nil (md := []) (stop := [16, 17]) (tab := jt_N_isLane) rfl 400 _ _ _ _ _ h
theorem sg_N_isLane_17 {n l : Nat} {g : jv_S} {Q : jv_V → jv_L → jv_S → Prop} {v1 s0 : Int} (h :
   (s0 = 0 ∨ s0 = 1) ∧ Q (jv_I s0) (LL n l) g) :
  jv_At jv_T jv_ml kN_isLane 17 [jv_P 14, jv_I v1] [jv_I s0] (LL n l) g Q :=
  jv_of_wp jg_nil (md := []) (stop := [16, 17]) (tab := jt_N_isLane) rfl 400 _ _ _ _ _ h

