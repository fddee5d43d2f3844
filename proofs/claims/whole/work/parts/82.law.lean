/-! ===== the law: one call on both sides, then the next ===== -/
set_option maxRecDepth 100000 in
theorem sg_Law_law_18 {n l : Nat} {g : jv_S} {Q : jv_V → jv_L → jv_S → Prop} {v3 : Int} (h :
   jv_r32 ((Int.ofNat n) - (6 : Int)) ∧
    (((Int.ofNat n) - (6 : Int)) < v3 →
     ((1 : Int) = 0 ∨ (1 : Int) = 1) ∧ Q (jv_I (1 : Int)) (LL n l) g) ∧
    (¬ ((Int.ofNat n) - (6 : Int)) < v3 →
     (0 ≤ v3 ∧ v3 < Int.ofNat n) ∧
      ((jv_and (g 0 v3) (31 : Int)) = (0 : Int) →
       jv_At jv_T jv_ml kLaw_law 176 [jv_P 0, jv_P 1, jv_P 136, jv_I v3] [] (LL n l) g Q) ∧
      (¬ (jv_and (g 0 v3) (31 : Int)) = (0 : Int) →
       ((jv_and (g 0 v3) (31 : Int)) = (1 : Int) →
         jv_At jv_T jv_ml kLaw_law 229 [jv_P 0, jv_P 1, jv_P 136, jv_I v3] [] (LL n l) g Q) ∧
        (¬ (jv_and (g 0 v3) (31 : Int)) = (1 : Int) →
         ((jv_and (g 0 v3) (31 : Int)) = (2 : Int) →
           jv_At jv_T jv_ml kLaw_law 262 [jv_P 0, jv_P 1, jv_P 136, jv_I v3] [] (LL n l) g Q) ∧
          (¬ (jv_and (g 0 v3) (31 : Int)) = (2 : Int) →
           ((jv_and (g 0 v3) (31 : Int)) = (3 : Int) →
             jv_At jv_T jv_ml kLaw_law 295 [jv_P 0, jv_P 1, jv_P 136, jv_I v3] [] (LL n l) g Q) ∧
            (¬ (jv_and (g 0 v3) (31 : Int)) = (3 : Int) →
             ((jv_and (g 0 v3) (31 : Int)) = (4 : Int) →
               jv_At jv_T jv_ml kLaw_law 318 [jv_P 0, jv_P 1, jv_P 136, jv_I v3] [] (LL n l) g Q) ∧
              (¬ (jv_and (g 0 v3) (31 : Int)) = (4 : Int) →
               ((jv_and (g 0 v3) (31 : Int)) = (5 : Int) →
                 jv_At jv_T jv_ml kLaw_law 361 [jv_P 0, jv_P 1, jv_P 136, jv_I v3] [] (LL n l) g Q) ∧
                (¬ (jv_and (g 0 v3) (31 : Int)) = (5 : Int) →
                 ((jv_and (g 0 v3) (31 : Int)) = (6 : Int) →
                   jv_At jv_T jv_ml kLaw_law 394 [jv_P 0, jv_P 1, jv_P 136, jv_I v3] [] (LL n l) g Q) ∧
                  (¬ (jv_and (g 0 v3) (31 : Int)) = (6 : Int) →
                   ((jv_and (g 0 v3) (31 : Int)) = (7 : Int) →
                     jv_At jv_T jv_ml kLaw_law 427 [jv_P 0, jv_P 1, jv_P 136, jv_I v3] [] (LL n l) g Q) ∧
                    (¬ (jv_and (g 0 v3) (31 : Int)) = (7 : Int) →
                     ((jv_and (g 0 v3) (31 : Int)) = (8 : Int) →
                       jv_At jv_T jv_ml kLaw_law 460 [jv_P 0, jv_P 1, jv_P 136, jv_I v3] [] (LL n l) g Q) ∧
                      (¬ (jv_and (g 0 v3) (31 : Int)) = (8 : Int) →
                       ((jv_and (g 0 v3) (31 : Int)) = (9 : Int) →
                         jv_At jv_T jv_ml kLaw_law 483 [jv_P 0, jv_P 1, jv_P 136, jv_I v3] [] (LL n l) g Q) ∧
                        (¬ (jv_and (g 0 v3) (31 : Int)) = (9 : Int) →
                         ((jv_and (g 0 v3) (31 : Int)) = (10 : Int) →
                           jv_At jv_T jv_ml kLaw_law 506 [jv_P 0, jv_P 1, jv_P 136, jv_I v3] [] (LL n l) g Q) ∧
                          (¬ (jv_and (g 0 v3) (31 : Int)) = (10 : Int) →
                           ((jv_and (g 0 v3) (31 : Int)) = (11 : Int) →
                             jv_At jv_T jv_ml kLaw_law 529 [jv_P 0, jv_P 1, jv_P 136, jv_I v3] [] (LL n l) g Q) ∧
                            (¬ (jv_and (g 0 v3) (31 : Int)) = (11 : Int) →
                             ((jv_and (g 0 v3) (31 : Int)) = (12 : Int) →
                               jv_At jv_T jv_ml kLaw_law 552 [jv_P 0, jv_P 1, jv_P 136, jv_I v3] [] (LL n l) g Q) ∧
                              (¬ (jv_and (g 0 v3) (31 : Int)) = (12 : Int) →
                               ((jv_and (g 0 v3) (31 : Int)) = (13 : Int) →
                                 jv_At jv_T jv_ml kLaw_law 575 [jv_P 0, jv_P 1, jv_P 136, jv_I v3] [] (LL n l) g Q) ∧
                                (¬ (jv_and (g 0 v3) (31 : Int)) = (13 : Int) →
                                 ((jv_and (g 0 v3) (31 : Int)) = (14 : Int) →
                                   jv_At jv_T jv_ml kLaw_law 598 [jv_P 0, jv_P 1, jv_P 136, jv_I v3] [] (LL n l) g Q) ∧
                                  (¬ (jv_and (g 0 v3) (31 : Int)) = (14 : Int) →
                                   ((jv_and (g 0 v3) (31 : Int)) = (15 : Int) →
                                     jv_At jv_T jv_ml kLaw_law 641 [jv_P 0, jv_P 1, jv_P 136, jv_I v3] [] (LL n l) g Q) ∧
                                    (¬ (jv_and (g 0 v3) (31 : Int)) = (15 : Int) →
                                     ((jv_and (g 0 v3) (31 : Int)) = (16 : Int) →
                                       jv_At jv_T jv_ml kLaw_law 664 [jv_P 0, jv_P 1, jv_P 136, jv_I v3] [] (LL n l) g Q) ∧
                                      (¬ (jv_and (g 0 v3) (31 : Int)) = (16 : Int) →
                                       ((jv_and (g 0 v3) (31 : Int)) = (17 : Int) →
                                         jv_At jv_T jv_ml kLaw_law 697 [jv_P 0, jv_P 1, jv_P 136, jv_I v3] [] (LL n l) g Q) ∧
                                        (¬ (jv_and (g 0 v3) (31 : Int)) = (17 : Int) →
                                         ((jv_and (g 0 v3) (31 : Int)) = (18 : Int) →
                                           jv_At jv_T jv_ml kLaw_law 710 [jv_P 0, jv_P 1, jv_P 136, jv_I v3] [] (LL n l) g Q) ∧
                                          (¬ (jv_and (g 0 v3) (31 : Int)) = (18 : Int) →
                                           ((jv_and (g 0 v3) (31 : Int)) = (19 : Int) →
                                             jv_At jv_T jv_ml kLaw_law 733 [jv_P 0, jv_P 1, jv_P 136, jv_I v3] [] (LL n l) g Q) ∧
                                            (¬ (jv_and (g 0 v3) (31 : Int)) = (19 : Int) →
                                             ((jv_and (g 0 v3) (31 : Int)) = (20 : Int) →
                                               jv_At jv_T jv_ml kLaw_law 767 [jv_P 0, jv_P 1, jv_P 136, jv_I v3] [] (LL n l) g Q) ∧
                                              (¬ (jv_and (g 0 v3) (31 : Int)) = (20 : Int) →
                                               ((jv_and (g 0 v3) (31 : Int)) = (21 : Int) →
                                                 jv_At jv_T jv_ml kLaw_law 780 [jv_P 0, jv_P 1, jv_P 136, jv_I v3] [] (LL n l) g Q) ∧
                                                (¬ (jv_and (g 0 v3) (31 : Int)) = (21 : Int) →
                                                 ((jv_and (g 0 v3) (31 : Int)) = (22 : Int) →
                                                   jv_At jv_T jv_ml kLaw_law 823 [jv_P 0, jv_P 1, jv_P 136, jv_I v3] [] (LL n l) g Q) ∧
                                                  (¬ (jv_and (g 0 v3) (31 : Int)) = (22 : Int) →
                                                   ((jv_and (g 0 v3) (31 : Int)) = (23 : Int) →
                                                     jv_At jv_T jv_ml kLaw_law 846 [jv_P 0, jv_P 1, jv_P 136, jv_I v3] [] (LL n l) g Q) ∧
                                                    (¬ (jv_and (g 0 v3) (31 : Int)) = (23 : Int) →
                                                     ((jv_and (g 0 v3) (31 : Int)) = (24 : Int) →
                                                       jv_At jv_T jv_ml kLaw_law 889 [jv_P 0, jv_P 1, jv_P 136, jv_I v3] [] (LL n l) g Q) ∧
                                                      (¬ (jv_and (g 0 v3) (31 : Int)) = (24 : Int) →
                                                       ((jv_and (g 0 v3) (31 : Int)) = (25 : Int) →
                                                         jv_At jv_T jv_ml kLaw_law 933 [jv_P 0, jv_P 1, jv_P 136, jv_I v3] [] (LL n l) g Q) ∧
                                                        (¬ (jv_and (g 0 v3) (31 : Int)) = (25 : Int) →
                                                         ((jv_and (g 0 v3) (31 : Int)) = (26 : Int) →
                                                           jv_At jv_T jv_ml kLaw_law 996 [jv_P 0, jv_P 1, jv_P 136, jv_I v3] [] (LL n l) g Q) ∧
                                                          (¬ (jv_and (g 0 v3) (31 : Int)) = (26 : Int) →
                                                           ((jv_and (g 0 v3) (31 : Int)) = (27 : Int) →
                                                             jv_At jv_T jv_ml kLaw_law 1019 [jv_P 0, jv_P 1, jv_P 136, jv_I v3] [] (LL n l) g Q) ∧
                                                            (¬ (jv_and (g 0 v3) (31 : Int)) = (27 : Int) →
                                                             ((jv_and (g 0 v3) (31 : Int)) = (28 : Int) →
                                                               jv_At jv_T jv_ml kLaw_law 1042 [jv_P 0, jv_P 1, jv_P 136, jv_I v3] [] (LL n l) g Q) ∧
                                                              (¬ (jv_and (g 0 v3) (31 : Int)) = (28 : Int) →
                                                               ((jv_and (g 0 v3) (31 : Int)) = (29 : Int) →
                                                                 jv_At jv_T jv_ml kLaw_law 1075 [jv_P 0, jv_P 1, jv_P 136, jv_I v3] [] (LL n l) g Q) ∧
                                                                (¬ (jv_and (g 0 v3) (31 : Int)) = (29 : Int) →
                                                                 ((jv_and (g 0 v3) (31 : Int)) = (30 : Int) →
                                                                   jv_At jv_T jv_ml kLaw_law 1088 [jv_P 0, jv_P 1, jv_P 136, jv_I v3] [] (LL n l) g Q) ∧
                                                                  (¬ (jv_and (g 0 v3) (31 : Int)) = (30 : Int) →
                                                                   ((jv_and (g 0 v3) (31 : Int)) = (31 : Int) →
                                                                     jv_At jv_T jv_ml kLaw_law 1101 [jv_P 0, jv_P 1, jv_P 136, jv_I v3] [] (LL n l) g Q) ∧
                                                                    (¬ (jv_and (g 0 v3) (31 : Int)) = (31 : Int) →
                                                                     jv_At jv_T jv_ml kLaw_law 1124 [jv_P 0, jv_P 1, jv_P 136, jv_I v3] [] (LL n l) g Q)))))))))))))))))))))))))))))))))) :
  jv_At jv_T jv_ml kLaw_law 18 [jv_P 0, jv_P 1, jv_P 136, jv_I v3] [] (LL n l) g Q :=
  jv_of_wp jg_nil (md := []) (stop := [18, 176, 229, 262, 295, 318, 361, 394, 427, 460, 483, 506, 529, 552, 575, 598, 641, 664, 697, 710, 733, 767, 780, 823, 846, 889, 933, 996, 1019, 1042, 1075, 1088, 1101, 1124]) (tab := jt_Law_law) rfl 400 _ _ _ _ _ h
set_option maxRecDepth 100000 in
theorem sg_Law_law_176 {n l : Nat} {g : jv_S} {Q : jv_V → jv_L → jv_S → Prop} {v3 : Int} (h :
   jv_r32 (v3 + (1 : Int)) ∧
    (0 ≤ (v3 + (1 : Int)) ∧ (v3 + (1 : Int)) < Int.ofNat n) ∧
    jv_r32 (v3 + (2 : Int)) ∧
    (0 ≤ (v3 + (2 : Int)) ∧ (v3 + (2 : Int)) < Int.ofNat n) ∧
    jv_r32 (v3 + (3 : Int)) ∧
    (0 ≤ (v3 + (3 : Int)) ∧ (v3 + (3 : Int)) < Int.ofNat n) ∧
    jv_r32 (v3 + (4 : Int)) ∧
    (0 ≤ (v3 + (4 : Int)) ∧ (v3 + (4 : Int)) < Int.ofNat n) ∧
    jv_Ca jv_T jv_ml kX_net [jv_P 1, jv_I (g 0 (v3 + (1 : Int))), jv_I (g 0 (v3 + (2 : Int))), jv_I (g 0 (v3 + (3 : Int))), jv_I (g 0 (v3 + (4 : Int)))] (LL n l) g (fun r L2 g2 => jv_At jv_T jv_ml kLaw_law 200 [jv_P 0, jv_P 1, jv_P 136, jv_I v3] (jv_pu r []) L2 g2 Q)) :
  jv_At jv_T jv_ml kLaw_law 176 [jv_P 0, jv_P 1, jv_P 136, jv_I v3] [] (LL n l) g Q :=
  jv_of_wp jg_nil (md := []) (stop := [18, 176, 229, 262, 295, 318, 361, 394, 427, 460, 483, 506, 529, 552, 575, 598, 641, 664, 697, 710, 733, 767, 780, 823, 846, 889, 933, 996, 1019, 1042, 1075, 1088, 1101, 1124]) (tab := jt_Law_law) rfl 400 _ _ _ _ _ h
set_option maxRecDepth 100000 in
theorem sg_Law_law_200 {n l : Nat} {g : jv_S} {Q : jv_V → jv_L → jv_S → Prop} {v3 s0 : Int} (h :
   jv_r32 (v3 + (1 : Int)) ∧
    (0 ≤ (v3 + (1 : Int)) ∧ (v3 + (1 : Int)) < Int.ofNat n) ∧
    jv_r32 (v3 + (2 : Int)) ∧
    (0 ≤ (v3 + (2 : Int)) ∧ (v3 + (2 : Int)) < Int.ofNat n) ∧
    jv_r32 (v3 + (3 : Int)) ∧
    (0 ≤ (v3 + (3 : Int)) ∧ (v3 + (3 : Int)) < Int.ofNat n) ∧
    jv_r32 (v3 + (4 : Int)) ∧
    (0 ≤ (v3 + (4 : Int)) ∧ (v3 + (4 : Int)) < Int.ofNat n) ∧
    jv_Ca jv_T jv_ml kY_net [jv_P 136, jv_I (g 0 (v3 + (1 : Int))), jv_I (g 0 (v3 + (2 : Int))), jv_I (g 0 (v3 + (3 : Int))), jv_I (g 0 (v3 + (4 : Int)))] (LL n l) g (fun r L2 g2 => jv_At jv_T jv_ml kLaw_law 224 [jv_P 0, jv_P 1, jv_P 136, jv_I v3] (jv_pu r [jv_I s0]) L2 g2 Q)) :
  jv_At jv_T jv_ml kLaw_law 200 [jv_P 0, jv_P 1, jv_P 136, jv_I v3] [jv_I s0] (LL n l) g Q :=
  jv_of_wp jg_nil (md := []) (stop := [18, 176, 229, 262, 295, 318, 361, 394, 427, 460, 483, 506, 529, 552, 575, 598, 641, 664, 697, 710, 733, 767, 780, 823, 846, 889, 933, 996, 1019, 1042, 1075, 1088, 1101, 1124]) (tab := jt_Law_law) rfl 400 _ _ _ _ _ h
set_option maxRecDepth 100000 in
theorem sg_Law_law_224 {n l : Nat} {g : jv_S} {Q : jv_V → jv_L → jv_S → Prop} {v3 s0 s1 : Int} (h :
   (s0 = s1 →
     jv_At jv_T jv_ml kLaw_law 1124 [jv_P 0, jv_P 1, jv_P 136, jv_I v3] [] (LL n l) g Q) ∧
    (¬ s0 = s1 →
     ((0 : Int) = 0 ∨ (0 : Int) = 1) ∧ Q (jv_I (0 : Int)) (LL n l) g)) :
  jv_At jv_T jv_ml kLaw_law 224 [jv_P 0, jv_P 1, jv_P 136, jv_I v3] [jv_I s1, jv_I s0] (LL n l) g Q :=
  jv_of_wp jg_nil (md := []) (stop := [18, 176, 229, 262, 295, 318, 361, 394, 427, 460, 483, 506, 529, 552, 575, 598, 641, 664, 697, 710, 733, 767, 780, 823, 846, 889, 933, 996, 1019, 1042, 1075, 1088, 1101, 1124]) (tab := jt_Law_law) rfl 400 _ _ _ _ _ h
set_option maxRecDepth 100000 in
theorem sg_Law_law_229 {n l : Nat} {g : jv_S} {Q : jv_V → jv_L → jv_S → Prop} {v3 : Int} (h :
   jv_r32 (v3 + (1 : Int)) ∧
    (0 ≤ (v3 + (1 : Int)) ∧ (v3 + (1 : Int)) < Int.ofNat n) ∧
    jv_r32 (v3 + (2 : Int)) ∧
    (0 ≤ (v3 + (2 : Int)) ∧ (v3 + (2 : Int)) < Int.ofNat n) ∧
    jv_Ca jv_T jv_ml kX_ofLane [jv_P 1, jv_I (g 0 (v3 + (1 : Int))), jv_I (g 0 (v3 + (2 : Int)))] (LL n l) g (fun r L2 g2 => jv_At jv_T jv_ml kLaw_law 243 [jv_P 0, jv_P 1, jv_P 136, jv_I v3] (jv_pu r []) L2 g2 Q)) :
  jv_At jv_T jv_ml kLaw_law 229 [jv_P 0, jv_P 1, jv_P 136, jv_I v3] [] (LL n l) g Q :=
  jv_of_wp jg_nil (md := []) (stop := [18, 176, 229, 262, 295, 318, 361, 394, 427, 460, 483, 506, 529, 552, 575, 598, 641, 664, 697, 710, 733, 767, 780, 823, 846, 889, 933, 996, 1019, 1042, 1075, 1088, 1101, 1124]) (tab := jt_Law_law) rfl 400 _ _ _ _ _ h
set_option maxRecDepth 100000 in
theorem sg_Law_law_243 {n l : Nat} {g : jv_S} {Q : jv_V → jv_L → jv_S → Prop} {v3 s0 : Int} (h :
   jv_r32 (v3 + (1 : Int)) ∧
    (0 ≤ (v3 + (1 : Int)) ∧ (v3 + (1 : Int)) < Int.ofNat n) ∧
    jv_r32 (v3 + (2 : Int)) ∧
    (0 ≤ (v3 + (2 : Int)) ∧ (v3 + (2 : Int)) < Int.ofNat n) ∧
    jv_Ca jv_T jv_ml kY_ofLane [jv_P 136, jv_I (g 0 (v3 + (1 : Int))), jv_I (g 0 (v3 + (2 : Int)))] (LL n l) g (fun r L2 g2 => jv_At jv_T jv_ml kLaw_law 257 [jv_P 0, jv_P 1, jv_P 136, jv_I v3] (jv_pu r [jv_I s0]) L2 g2 Q)) :
  jv_At jv_T jv_ml kLaw_law 243 [jv_P 0, jv_P 1, jv_P 136, jv_I v3] [jv_I s0] (LL n l) g Q :=
  jv_of_wp jg_nil (md := []) (stop := [18, 176, 229, 262, 295, 318, 361, 394, 427, 460, 483, 506, 529, 552, 575, 598, 641, 664, 697, 710, 733, 767, 780, 823, 846, 889, 933, 996, 1019, 1042, 1075, 1088, 1101, 1124]) (tab := jt_Law_law) rfl 400 _ _ _ _ _ h
set_option maxRecDepth 100000 in
theorem sg_Law_law_257 {n l : Nat} {g : jv_S} {Q : jv_V → jv_L → jv_S → Prop} {v3 s0 s1 : Int} (h :
   (s0 = s1 →
     jv_At jv_T jv_ml kLaw_law 1124 [jv_P 0, jv_P 1, jv_P 136, jv_I v3] [] (LL n l) g Q) ∧
    (¬ s0 = s1 →
     ((0 : Int) = 0 ∨ (0 : Int) = 1) ∧ Q (jv_I (0 : Int)) (LL n l) g)) :
  jv_At jv_T jv_ml kLaw_law 257 [jv_P 0, jv_P 1, jv_P 136, jv_I v3] [jv_I s1, jv_I s0] (LL n l) g Q :=
  jv_of_wp jg_nil (md := []) (stop := [18, 176, 229, 262, 295, 318, 361, 394, 427, 460, 483, 506, 529, 552, 575, 598, 641, 664, 697, 710, 733, 767, 780, 823, 846, 889, 933, 996, 1019, 1042, 1075, 1088, 1101, 1124]) (tab := jt_Law_law) rfl 400 _ _ _ _ _ h
set_option maxRecDepth 100000 in
theorem sg_Law_law_262 {n l : Nat} {g : jv_S} {Q : jv_V → jv_L → jv_S → Prop} {v3 : Int} (h :
   jv_r32 (v3 + (1 : Int)) ∧
    (0 ≤ (v3 + (1 : Int)) ∧ (v3 + (1 : Int)) < Int.ofNat n) ∧
    jv_r32 (v3 + (2 : Int)) ∧
    (0 ≤ (v3 + (2 : Int)) ∧ (v3 + (2 : Int)) < Int.ofNat n) ∧
    jv_Ca jv_T jv_ml kX_far [jv_P 1, jv_I (g 0 (v3 + (1 : Int))), jv_I (g 0 (v3 + (2 : Int)))] (LL n l) g (fun r L2 g2 => jv_At jv_T jv_ml kLaw_law 276 [jv_P 0, jv_P 1, jv_P 136, jv_I v3] (jv_pu r []) L2 g2 Q)) :
  jv_At jv_T jv_ml kLaw_law 262 [jv_P 0, jv_P 1, jv_P 136, jv_I v3] [] (LL n l) g Q :=
  jv_of_wp jg_nil (md := []) (stop := [18, 176, 229, 262, 295, 318, 361, 394, 427, 460, 483, 506, 529, 552, 575, 598, 641, 664, 697, 710, 733, 767, 780, 823, 846, 889, 933, 996, 1019, 1042, 1075, 1088, 1101, 1124]) (tab := jt_Law_law) rfl 400 _ _ _ _ _ h
set_option maxRecDepth 100000 in
theorem sg_Law_law_276 {n l : Nat} {g : jv_S} {Q : jv_V → jv_L → jv_S → Prop} {v3 s0 : Int} (h :
   jv_r32 (v3 + (1 : Int)) ∧
    (0 ≤ (v3 + (1 : Int)) ∧ (v3 + (1 : Int)) < Int.ofNat n) ∧
    jv_r32 (v3 + (2 : Int)) ∧
    (0 ≤ (v3 + (2 : Int)) ∧ (v3 + (2 : Int)) < Int.ofNat n) ∧
    jv_Ca jv_T jv_ml kY_far [jv_P 136, jv_I (g 0 (v3 + (1 : Int))), jv_I (g 0 (v3 + (2 : Int)))] (LL n l) g (fun r L2 g2 => jv_At jv_T jv_ml kLaw_law 290 [jv_P 0, jv_P 1, jv_P 136, jv_I v3] (jv_pu r [jv_I s0]) L2 g2 Q)) :
  jv_At jv_T jv_ml kLaw_law 276 [jv_P 0, jv_P 1, jv_P 136, jv_I v3] [jv_I s0] (LL n l) g Q :=
  jv_of_wp jg_nil (md := []) (stop := [18, 176, 229, 262, 295, 318, 361, 394, 427, 460, 483, 506, 529, 552, 575, 598, 641, 664, 697, 710, 733, 767, 780, 823, 846, 889, 933, 996, 1019, 1042, 1075, 1088, 1101, 1124]) (tab := jt_Law_law) rfl 400 _ _ _ _ _ h
set_option maxRecDepth 100000 in
theorem sg_Law_law_290 {n l : Nat} {g : jv_S} {Q : jv_V → jv_L → jv_S → Prop} {v3 s0 s1 : Int} (h :
   (s0 = s1 →
     jv_At jv_T jv_ml kLaw_law 1124 [jv_P 0, jv_P 1, jv_P 136, jv_I v3] [] (LL n l) g Q) ∧
    (¬ s0 = s1 →
     ((0 : Int) = 0 ∨ (0 : Int) = 1) ∧ Q (jv_I (0 : Int)) (LL n l) g)) :
  jv_At jv_T jv_ml kLaw_law 290 [jv_P 0, jv_P 1, jv_P 136, jv_I v3] [jv_I s1, jv_I s0] (LL n l) g Q :=
  jv_of_wp jg_nil (md := []) (stop := [18, 176, 229, 262, 295, 318, 361, 394, 427, 460, 483, 506, 529, 552, 575, 598, 641, 664, 697, 710, 733, 767, 780, 823, 846, 889, 933, 996, 1019, 1042, 1075, 1088, 1101, 1124]) (tab := jt_Law_law) rfl 400 _ _ _ _ _ h
set_option maxRecDepth 100000 in
theorem sg_Law_law_295 {n l : Nat} {g : jv_S} {Q : jv_V → jv_L → jv_S → Prop} {v3 : Int} (h :
   jv_r32 (v3 + (1 : Int)) ∧
    (0 ≤ (v3 + (1 : Int)) ∧ (v3 + (1 : Int)) < Int.ofNat n) ∧
    jv_Ca jv_T jv_ml kX_rule [jv_P 1, jv_I (g 0 (v3 + (1 : Int)))] (LL n l) g (fun r L2 g2 => jv_At jv_T jv_ml kLaw_law 304 [jv_P 0, jv_P 1, jv_P 136, jv_I v3] (jv_pu r []) L2 g2 Q)) :
  jv_At jv_T jv_ml kLaw_law 295 [jv_P 0, jv_P 1, jv_P 136, jv_I v3] [] (LL n l) g Q :=
  jv_of_wp jg_nil (md := []) (stop := [18, 176, 229, 262, 295, 318, 361, 394, 427, 460, 483, 506, 529, 552, 575, 598, 641, 664, 697, 710, 733, 767, 780, 823, 846, 889, 933, 996, 1019, 1042, 1075, 1088, 1101, 1124]) (tab := jt_Law_law) rfl 400 _ _ _ _ _ h
set_option maxRecDepth 100000 in
theorem sg_Law_law_304 {n l : Nat} {g : jv_S} {Q : jv_V → jv_L → jv_S → Prop} {v3 s0 : Int} (h :
   jv_r32 (v3 + (1 : Int)) ∧
    (0 ≤ (v3 + (1 : Int)) ∧ (v3 + (1 : Int)) < Int.ofNat n) ∧
    jv_Ca jv_T jv_ml kY_rule [jv_P 136, jv_I (g 0 (v3 + (1 : Int)))] (LL n l) g (fun r L2 g2 => jv_At jv_T jv_ml kLaw_law 313 [jv_P 0, jv_P 1, jv_P 136, jv_I v3] (jv_pu r [jv_I s0]) L2 g2 Q)) :
  jv_At jv_T jv_ml kLaw_law 304 [jv_P 0, jv_P 1, jv_P 136, jv_I v3] [jv_I s0] (LL n l) g Q :=
  jv_of_wp jg_nil (md := []) (stop := [18, 176, 229, 262, 295, 318, 361, 394, 427, 460, 483, 506, 529, 552, 575, 598, 641, 664, 697, 710, 733, 767, 780, 823, 846, 889, 933, 996, 1019, 1042, 1075, 1088, 1101, 1124]) (tab := jt_Law_law) rfl 400 _ _ _ _ _ h
set_option maxRecDepth 100000 in
theorem sg_Law_law_313 {n l : Nat} {g : jv_S} {Q : jv_V → jv_L → jv_S → Prop} {v3 s0 s1 : Int} (h :
   (s0 = s1 →
     jv_At jv_T jv_ml kLaw_law 1124 [jv_P 0, jv_P 1, jv_P 136, jv_I v3] [] (LL n l) g Q) ∧
    (¬ s0 = s1 →
     ((0 : Int) = 0 ∨ (0 : Int) = 1) ∧ Q (jv_I (0 : Int)) (LL n l) g)) :
  jv_At jv_T jv_ml kLaw_law 313 [jv_P 0, jv_P 1, jv_P 136, jv_I v3] [jv_I s1, jv_I s0] (LL n l) g Q :=
  jv_of_wp jg_nil (md := []) (stop := [18, 176, 229, 262, 295, 318, 361, 394, 427, 460, 483, 506, 529, 552, 575, 598, 641, 664, 697, 710, 733, 767, 780, 823, 846, 889, 933, 996, 1019, 1042, 1075, 1088, 1101, 1124]) (tab := jt_Law_law) rfl 400 _ _ _ _ _ h
set_option maxRecDepth 100000 in
theorem sg_Law_law_318 {n l : Nat} {g : jv_S} {Q : jv_V → jv_L → jv_S → Prop} {v3 : Int} (h :
   jv_r32 (v3 + (1 : Int)) ∧
    (0 ≤ (v3 + (1 : Int)) ∧ (v3 + (1 : Int)) < Int.ofNat n) ∧
    jv_r32 (v3 + (2 : Int)) ∧
    (0 ≤ (v3 + (2 : Int)) ∧ (v3 + (2 : Int)) < Int.ofNat n) ∧
    jv_r32 (v3 + (3 : Int)) ∧
    (0 ≤ (v3 + (3 : Int)) ∧ (v3 + (3 : Int)) < Int.ofNat n) ∧
    jv_Ca jv_T jv_ml kX_bar [jv_P 1, jv_I (g 0 (v3 + (1 : Int))), jv_I (g 0 (v3 + (2 : Int))), jv_I (g 0 (v3 + (3 : Int)))] (LL n l) g (fun r L2 g2 => jv_At jv_T jv_ml kLaw_law 337 [jv_P 0, jv_P 1, jv_P 136, jv_I v3] (jv_pu r []) L2 g2 Q)) :
  jv_At jv_T jv_ml kLaw_law 318 [jv_P 0, jv_P 1, jv_P 136, jv_I v3] [] (LL n l) g Q :=
  jv_of_wp jg_nil (md := []) (stop := [18, 176, 229, 262, 295, 318, 361, 394, 427, 460, 483, 506, 529, 552, 575, 598, 641, 664, 697, 710, 733, 767, 780, 823, 846, 889, 933, 996, 1019, 1042, 1075, 1088, 1101, 1124]) (tab := jt_Law_law) rfl 400 _ _ _ _ _ h
set_option maxRecDepth 100000 in
theorem sg_Law_law_337 {n l : Nat} {g : jv_S} {Q : jv_V → jv_L → jv_S → Prop} {v3 s0 : Int} (h :
   jv_r32 (v3 + (1 : Int)) ∧
    (0 ≤ (v3 + (1 : Int)) ∧ (v3 + (1 : Int)) < Int.ofNat n) ∧
    jv_r32 (v3 + (2 : Int)) ∧
    (0 ≤ (v3 + (2 : Int)) ∧ (v3 + (2 : Int)) < Int.ofNat n) ∧
    jv_r32 (v3 + (3 : Int)) ∧
    (0 ≤ (v3 + (3 : Int)) ∧ (v3 + (3 : Int)) < Int.ofNat n) ∧
    jv_Ca jv_T jv_ml kY_bar [jv_P 136, jv_I (g 0 (v3 + (1 : Int))), jv_I (g 0 (v3 + (2 : Int))), jv_I (g 0 (v3 + (3 : Int)))] (LL n l) g (fun r L2 g2 => jv_At jv_T jv_ml kLaw_law 356 [jv_P 0, jv_P 1, jv_P 136, jv_I v3] (jv_pu r [jv_I s0]) L2 g2 Q)) :
  jv_At jv_T jv_ml kLaw_law 337 [jv_P 0, jv_P 1, jv_P 136, jv_I v3] [jv_I s0] (LL n l) g Q :=
  jv_of_wp jg_nil (md := []) (stop := [18, 176, 229, 262, 295, 318, 361, 394, 427, 460, 483, 506, 529, 552, 575, 598, 641, 664, 697, 710, 733, 767, 780, 823, 846, 889, 933, 996, 1019, 1042, 1075, 1088, 1101, 1124]) (tab := jt_Law_law) rfl 400 _ _ _ _ _ h
set_option maxRecDepth 100000 in
theorem sg_Law_law_356 {n l : Nat} {g : jv_S} {Q : jv_V → jv_L → jv_S → Prop} {v3 s0 s1 : Int} (h :
   (s0 = s1 →
     jv_At jv_T jv_ml kLaw_law 1124 [jv_P 0, jv_P 1, jv_P 136, jv_I v3] [] (LL n l) g Q) ∧
    (¬ s0 = s1 →
     ((0 : Int) = 0 ∨ (0 : Int) = 1) ∧ Q (jv_I (0 : Int)) (LL n l) g)) :
  jv_At jv_T jv_ml kLaw_law 356 [jv_P 0, jv_P 1, jv_P 136, jv_I v3] [jv_I s1, jv_I s0] (LL n l) g Q :=
  jv_of_wp jg_nil (md := []) (stop := [18, 176, 229, 262, 295, 318, 361, 394, 427, 460, 483, 506, 529, 552, 575, 598, 641, 664, 697, 710, 733, 767, 780, 823, 846, 889, 933, 996, 1019, 1042, 1075, 1088, 1101, 1124]) (tab := jt_Law_law) rfl 400 _ _ _ _ _ h
set_option maxRecDepth 100000 in
theorem sg_Law_law_361 {n l : Nat} {g : jv_S} {Q : jv_V → jv_L → jv_S → Prop} {v3 : Int} (h :
   jv_r32 (v3 + (1 : Int)) ∧
    (0 ≤ (v3 + (1 : Int)) ∧ (v3 + (1 : Int)) < Int.ofNat n) ∧
    jv_r32 (v3 + (2 : Int)) ∧
    (0 ≤ (v3 + (2 : Int)) ∧ (v3 + (2 : Int)) < Int.ofNat n) ∧
    jv_Ca jv_T jv_ml kX_may [jv_P 1, jv_I (g 0 (v3 + (1 : Int))), jv_I (g 0 (v3 + (2 : Int)))] (LL n l) g (fun r L2 g2 => jv_At jv_T jv_ml kLaw_law 375 [jv_P 0, jv_P 1, jv_P 136, jv_I v3] (jv_pu r []) L2 g2 Q)) :
  jv_At jv_T jv_ml kLaw_law 361 [jv_P 0, jv_P 1, jv_P 136, jv_I v3] [] (LL n l) g Q :=
  jv_of_wp jg_nil (md := []) (stop := [18, 176, 229, 262, 295, 318, 361, 394, 427, 460, 483, 506, 529, 552, 575, 598, 641, 664, 697, 710, 733, 767, 780, 823, 846, 889, 933, 996, 1019, 1042, 1075, 1088, 1101, 1124]) (tab := jt_Law_law) rfl 400 _ _ _ _ _ h
set_option maxRecDepth 100000 in
theorem sg_Law_law_375 {n l : Nat} {g : jv_S} {Q : jv_V → jv_L → jv_S → Prop} {v3 s0 : Int} (h :
   jv_r32 (v3 + (1 : Int)) ∧
    (0 ≤ (v3 + (1 : Int)) ∧ (v3 + (1 : Int)) < Int.ofNat n) ∧
    jv_r32 (v3 + (2 : Int)) ∧
    (0 ≤ (v3 + (2 : Int)) ∧ (v3 + (2 : Int)) < Int.ofNat n) ∧
    jv_Ca jv_T jv_ml kY_may [jv_P 136, jv_I (g 0 (v3 + (1 : Int))), jv_I (g 0 (v3 + (2 : Int)))] (LL n l) g (fun r L2 g2 => jv_At jv_T jv_ml kLaw_law 389 [jv_P 0, jv_P 1, jv_P 136, jv_I v3] (jv_pu r [jv_I s0]) L2 g2 Q)) :
  jv_At jv_T jv_ml kLaw_law 375 [jv_P 0, jv_P 1, jv_P 136, jv_I v3] [jv_I s0] (LL n l) g Q :=
  jv_of_wp jg_nil (md := []) (stop := [18, 176, 229, 262, 295, 318, 361, 394, 427, 460, 483, 506, 529, 552, 575, 598, 641, 664, 697, 710, 733, 767, 780, 823, 846, 889, 933, 996, 1019, 1042, 1075, 1088, 1101, 1124]) (tab := jt_Law_law) rfl 400 _ _ _ _ _ h
set_option maxRecDepth 100000 in
theorem sg_Law_law_389 {n l : Nat} {g : jv_S} {Q : jv_V → jv_L → jv_S → Prop} {v3 s0 s1 : Int} (h :
   (s0 = s1 →
     jv_At jv_T jv_ml kLaw_law 1124 [jv_P 0, jv_P 1, jv_P 136, jv_I v3] [] (LL n l) g Q) ∧
    (¬ s0 = s1 →
     ((0 : Int) = 0 ∨ (0 : Int) = 1) ∧ Q (jv_I (0 : Int)) (LL n l) g)) :
  jv_At jv_T jv_ml kLaw_law 389 [jv_P 0, jv_P 1, jv_P 136, jv_I v3] [jv_I s1, jv_I s0] (LL n l) g Q :=
  jv_of_wp jg_nil (md := []) (stop := [18, 176, 229, 262, 295, 318, 361, 394, 427, 460, 483, 506, 529, 552, 575, 598, 641, 664, 697, 710, 733, 767, 780, 823, 846, 889, 933, 996, 1019, 1042, 1075, 1088, 1101, 1124]) (tab := jt_Law_law) rfl 400 _ _ _ _ _ h
set_option maxRecDepth 100000 in
theorem sg_Law_law_394 {n l : Nat} {g : jv_S} {Q : jv_V → jv_L → jv_S → Prop} {v3 : Int} (h :
   jv_r32 (v3 + (1 : Int)) ∧
    (0 ≤ (v3 + (1 : Int)) ∧ (v3 + (1 : Int)) < Int.ofNat n) ∧
    jv_r32 (v3 + (2 : Int)) ∧
    (0 ≤ (v3 + (2 : Int)) ∧ (v3 + (2 : Int)) < Int.ofNat n) ∧
    jv_Ca jv_T jv_ml kX_out [jv_P 1, jv_I (g 0 (v3 + (1 : Int))), jv_I (g 0 (v3 + (2 : Int)))] (LL n l) g (fun r L2 g2 => jv_At jv_T jv_ml kLaw_law 408 [jv_P 0, jv_P 1, jv_P 136, jv_I v3] (jv_pu r []) L2 g2 Q)) :
  jv_At jv_T jv_ml kLaw_law 394 [jv_P 0, jv_P 1, jv_P 136, jv_I v3] [] (LL n l) g Q :=
  jv_of_wp jg_nil (md := []) (stop := [18, 176, 229, 262, 295, 318, 361, 394, 427, 460, 483, 506, 529, 552, 575, 598, 641, 664, 697, 710, 733, 767, 780, 823, 846, 889, 933, 996, 1019, 1042, 1075, 1088, 1101, 1124]) (tab := jt_Law_law) rfl 400 _ _ _ _ _ h
set_option maxRecDepth 100000 in
theorem sg_Law_law_408 {n l : Nat} {g : jv_S} {Q : jv_V → jv_L → jv_S → Prop} {v3 s0 : Int} (h :
   jv_r32 (v3 + (1 : Int)) ∧
    (0 ≤ (v3 + (1 : Int)) ∧ (v3 + (1 : Int)) < Int.ofNat n) ∧
    jv_r32 (v3 + (2 : Int)) ∧
    (0 ≤ (v3 + (2 : Int)) ∧ (v3 + (2 : Int)) < Int.ofNat n) ∧
    jv_Ca jv_T jv_ml kY_out [jv_P 136, jv_I (g 0 (v3 + (1 : Int))), jv_I (g 0 (v3 + (2 : Int)))] (LL n l) g (fun r L2 g2 => jv_At jv_T jv_ml kLaw_law 422 [jv_P 0, jv_P 1, jv_P 136, jv_I v3] (jv_pu r [jv_I s0]) L2 g2 Q)) :
  jv_At jv_T jv_ml kLaw_law 408 [jv_P 0, jv_P 1, jv_P 136, jv_I v3] [jv_I s0] (LL n l) g Q :=
  jv_of_wp jg_nil (md := []) (stop := [18, 176, 229, 262, 295, 318, 361, 394, 427, 460, 483, 506, 529, 552, 575, 598, 641, 664, 697, 710, 733, 767, 780, 823, 846, 889, 933, 996, 1019, 1042, 1075, 1088, 1101, 1124]) (tab := jt_Law_law) rfl 400 _ _ _ _ _ h
set_option maxRecDepth 100000 in
theorem sg_Law_law_422 {n l : Nat} {g : jv_S} {Q : jv_V → jv_L → jv_S → Prop} {v3 s0 s1 : Int} (h :
   (s0 = s1 →
     jv_At jv_T jv_ml kLaw_law 1124 [jv_P 0, jv_P 1, jv_P 136, jv_I v3] [] (LL n l) g Q) ∧
    (¬ s0 = s1 →
     ((0 : Int) = 0 ∨ (0 : Int) = 1) ∧ Q (jv_I (0 : Int)) (LL n l) g)) :
  jv_At jv_T jv_ml kLaw_law 422 [jv_P 0, jv_P 1, jv_P 136, jv_I v3] [jv_I s1, jv_I s0] (LL n l) g Q :=
  jv_of_wp jg_nil (md := []) (stop := [18, 176, 229, 262, 295, 318, 361, 394, 427, 460, 483, 506, 529, 552, 575, 598, 641, 664, 697, 710, 733, 767, 780, 823, 846, 889, 933, 996, 1019, 1042, 1075, 1088, 1101, 1124]) (tab := jt_Law_law) rfl 400 _ _ _ _ _ h
set_option maxRecDepth 100000 in
theorem sg_Law_law_427 {n l : Nat} {g : jv_S} {Q : jv_V → jv_L → jv_S → Prop} {v3 : Int} (h :
   jv_r32 (v3 + (1 : Int)) ∧
    (0 ≤ (v3 + (1 : Int)) ∧ (v3 + (1 : Int)) < Int.ofNat n) ∧
    jv_r32 (v3 + (2 : Int)) ∧
    (0 ≤ (v3 + (2 : Int)) ∧ (v3 + (2 : Int)) < Int.ofNat n) ∧
    jv_Ca jv_T jv_ml kX_comes [jv_P 1, jv_I (g 0 (v3 + (1 : Int))), jv_I (g 0 (v3 + (2 : Int)))] (LL n l) g (fun r L2 g2 => jv_At jv_T jv_ml kLaw_law 441 [jv_P 0, jv_P 1, jv_P 136, jv_I v3] (jv_pu r []) L2 g2 Q)) :
  jv_At jv_T jv_ml kLaw_law 427 [jv_P 0, jv_P 1, jv_P 136, jv_I v3] [] (LL n l) g Q :=
  jv_of_wp jg_nil (md := []) (stop := [18, 176, 229, 262, 295, 318, 361, 394, 427, 460, 483, 506, 529, 552, 575, 598, 641, 664, 697, 710, 733, 767, 780, 823, 846, 889, 933, 996, 1019, 1042, 1075, 1088, 1101, 1124]) (tab := jt_Law_law) rfl 400 _ _ _ _ _ h
set_option maxRecDepth 100000 in
theorem sg_Law_law_441 {n l : Nat} {g : jv_S} {Q : jv_V → jv_L → jv_S → Prop} {v3 s0 : Int} (h :
   jv_r32 (v3 + (1 : Int)) ∧
    (0 ≤ (v3 + (1 : Int)) ∧ (v3 + (1 : Int)) < Int.ofNat n) ∧
    jv_r32 (v3 + (2 : Int)) ∧
    (0 ≤ (v3 + (2 : Int)) ∧ (v3 + (2 : Int)) < Int.ofNat n) ∧
    jv_Ca jv_T jv_ml kY_comes [jv_P 136, jv_I (g 0 (v3 + (1 : Int))), jv_I (g 0 (v3 + (2 : Int)))] (LL n l) g (fun r L2 g2 => jv_At jv_T jv_ml kLaw_law 455 [jv_P 0, jv_P 1, jv_P 136, jv_I v3] (jv_pu r [jv_I s0]) L2 g2 Q)) :
  jv_At jv_T jv_ml kLaw_law 441 [jv_P 0, jv_P 1, jv_P 136, jv_I v3] [jv_I s0] (LL n l) g Q :=
  jv_of_wp jg_nil (md := []) (stop := [18, 176, 229, 262, 295, 318, 361, 394, 427, 460, 483, 506, 529, 552, 575, 598, 641, 664, 697, 710, 733, 767, 780, 823, 846, 889, 933, 996, 1019, 1042, 1075, 1088, 1101, 1124]) (tab := jt_Law_law) rfl 400 _ _ _ _ _ h
set_option maxRecDepth 100000 in
theorem sg_Law_law_455 {n l : Nat} {g : jv_S} {Q : jv_V → jv_L → jv_S → Prop} {v3 s0 s1 : Int} (h :
   (s0 = s1 →
     jv_At jv_T jv_ml kLaw_law 1124 [jv_P 0, jv_P 1, jv_P 136, jv_I v3] [] (LL n l) g Q) ∧
    (¬ s0 = s1 →
     ((0 : Int) = 0 ∨ (0 : Int) = 1) ∧ Q (jv_I (0 : Int)) (LL n l) g)) :
  jv_At jv_T jv_ml kLaw_law 455 [jv_P 0, jv_P 1, jv_P 136, jv_I v3] [jv_I s1, jv_I s0] (LL n l) g Q :=
  jv_of_wp jg_nil (md := []) (stop := [18, 176, 229, 262, 295, 318, 361, 394, 427, 460, 483, 506, 529, 552, 575, 598, 641, 664, 697, 710, 733, 767, 780, 823, 846, 889, 933, 996, 1019, 1042, 1075, 1088, 1101, 1124]) (tab := jt_Law_law) rfl 400 _ _ _ _ _ h
set_option maxRecDepth 100000 in
theorem sg_Law_law_460 {n l : Nat} {g : jv_S} {Q : jv_V → jv_L → jv_S → Prop} {v3 : Int} (h :
   jv_r32 (v3 + (1 : Int)) ∧
    (0 ≤ (v3 + (1 : Int)) ∧ (v3 + (1 : Int)) < Int.ofNat n) ∧
    jv_Ca jv_T jv_ml kX_carries [jv_P 1, jv_I (g 0 (v3 + (1 : Int)))] (LL n l) g (fun r L2 g2 => jv_At jv_T jv_ml kLaw_law 469 [jv_P 0, jv_P 1, jv_P 136, jv_I v3] (jv_pu r []) L2 g2 Q)) :
  jv_At jv_T jv_ml kLaw_law 460 [jv_P 0, jv_P 1, jv_P 136, jv_I v3] [] (LL n l) g Q :=
  jv_of_wp jg_nil (md := []) (stop := [18, 176, 229, 262, 295, 318, 361, 394, 427, 460, 483, 506, 529, 552, 575, 598, 641, 664, 697, 710, 733, 767, 780, 823, 846, 889, 933, 996, 1019, 1042, 1075, 1088, 1101, 1124]) (tab := jt_Law_law) rfl 400 _ _ _ _ _ h
set_option maxRecDepth 100000 in
theorem sg_Law_law_469 {n l : Nat} {g : jv_S} {Q : jv_V → jv_L → jv_S → Prop} {v3 s0 : Int} (h :
   jv_r32 (v3 + (1 : Int)) ∧
    (0 ≤ (v3 + (1 : Int)) ∧ (v3 + (1 : Int)) < Int.ofNat n) ∧
    jv_Ca jv_T jv_ml kY_carries [jv_P 136, jv_I (g 0 (v3 + (1 : Int)))] (LL n l) g (fun r L2 g2 => jv_At jv_T jv_ml kLaw_law 478 [jv_P 0, jv_P 1, jv_P 136, jv_I v3] (jv_pu r [jv_I s0]) L2 g2 Q)) :
  jv_At jv_T jv_ml kLaw_law 469 [jv_P 0, jv_P 1, jv_P 136, jv_I v3] [jv_I s0] (LL n l) g Q :=
  jv_of_wp jg_nil (md := []) (stop := [18, 176, 229, 262, 295, 318, 361, 394, 427, 460, 483, 506, 529, 552, 575, 598, 641, 664, 697, 710, 733, 767, 780, 823, 846, 889, 933, 996, 1019, 1042, 1075, 1088, 1101, 1124]) (tab := jt_Law_law) rfl 400 _ _ _ _ _ h
set_option maxRecDepth 100000 in
theorem sg_Law_law_478 {n l : Nat} {g : jv_S} {Q : jv_V → jv_L → jv_S → Prop} {v3 s0 s1 : Int} (h :
   (s0 = s1 →
     jv_At jv_T jv_ml kLaw_law 1124 [jv_P 0, jv_P 1, jv_P 136, jv_I v3] [] (LL n l) g Q) ∧
    (¬ s0 = s1 →
     ((0 : Int) = 0 ∨ (0 : Int) = 1) ∧ Q (jv_I (0 : Int)) (LL n l) g)) :
  jv_At jv_T jv_ml kLaw_law 478 [jv_P 0, jv_P 1, jv_P 136, jv_I v3] [jv_I s1, jv_I s0] (LL n l) g Q :=
  jv_of_wp jg_nil (md := []) (stop := [18, 176, 229, 262, 295, 318, 361, 394, 427, 460, 483, 506, 529, 552, 575, 598, 641, 664, 697, 710, 733, 767, 780, 823, 846, 889, 933, 996, 1019, 1042, 1075, 1088, 1101, 1124]) (tab := jt_Law_law) rfl 400 _ _ _ _ _ h
set_option maxRecDepth 100000 in
theorem sg_Law_law_483 {n l : Nat} {g : jv_S} {Q : jv_V → jv_L → jv_S → Prop} {v3 : Int} (h :
   jv_r32 (v3 + (1 : Int)) ∧
    (0 ≤ (v3 + (1 : Int)) ∧ (v3 + (1 : Int)) < Int.ofNat n) ∧
    jv_Ca jv_T jv_ml kX_waits [jv_P 1, jv_I (g 0 (v3 + (1 : Int)))] (LL n l) g (fun r L2 g2 => jv_At jv_T jv_ml kLaw_law 492 [jv_P 0, jv_P 1, jv_P 136, jv_I v3] (jv_pu r []) L2 g2 Q)) :
  jv_At jv_T jv_ml kLaw_law 483 [jv_P 0, jv_P 1, jv_P 136, jv_I v3] [] (LL n l) g Q :=
  jv_of_wp jg_nil (md := []) (stop := [18, 176, 229, 262, 295, 318, 361, 394, 427, 460, 483, 506, 529, 552, 575, 598, 641, 664, 697, 710, 733, 767, 780, 823, 846, 889, 933, 996, 1019, 1042, 1075, 1088, 1101, 1124]) (tab := jt_Law_law) rfl 400 _ _ _ _ _ h
set_option maxRecDepth 100000 in
theorem sg_Law_law_492 {n l : Nat} {g : jv_S} {Q : jv_V → jv_L → jv_S → Prop} {v3 s0 : Int} (h :
   jv_r32 (v3 + (1 : Int)) ∧
    (0 ≤ (v3 + (1 : Int)) ∧ (v3 + (1 : Int)) < Int.ofNat n) ∧
    jv_Ca jv_T jv_ml kY_waits [jv_P 136, jv_I (g 0 (v3 + (1 : Int)))] (LL n l) g (fun r L2 g2 => jv_At jv_T jv_ml kLaw_law 501 [jv_P 0, jv_P 1, jv_P 136, jv_I v3] (jv_pu r [jv_I s0]) L2 g2 Q)) :
  jv_At jv_T jv_ml kLaw_law 492 [jv_P 0, jv_P 1, jv_P 136, jv_I v3] [jv_I s0] (LL n l) g Q :=
  jv_of_wp jg_nil (md := []) (stop := [18, 176, 229, 262, 295, 318, 361, 394, 427, 460, 483, 506, 529, 552, 575, 598, 641, 664, 697, 710, 733, 767, 780, 823, 846, 889, 933, 996, 1019, 1042, 1075, 1088, 1101, 1124]) (tab := jt_Law_law) rfl 400 _ _ _ _ _ h
set_option maxRecDepth 100000 in
theorem sg_Law_law_501 {n l : Nat} {g : jv_S} {Q : jv_V → jv_L → jv_S → Prop} {v3 s0 s1 : Int} (h :
   (s0 = s1 →
     jv_At jv_T jv_ml kLaw_law 1124 [jv_P 0, jv_P 1, jv_P 136, jv_I v3] [] (LL n l) g Q) ∧
    (¬ s0 = s1 →
     ((0 : Int) = 0 ∨ (0 : Int) = 1) ∧ Q (jv_I (0 : Int)) (LL n l) g)) :
  jv_At jv_T jv_ml kLaw_law 501 [jv_P 0, jv_P 1, jv_P 136, jv_I v3] [jv_I s1, jv_I s0] (LL n l) g Q :=
  jv_of_wp jg_nil (md := []) (stop := [18, 176, 229, 262, 295, 318, 361, 394, 427, 460, 483, 506, 529, 552, 575, 598, 641, 664, 697, 710, 733, 767, 780, 823, 846, 889, 933, 996, 1019, 1042, 1075, 1088, 1101, 1124]) (tab := jt_Law_law) rfl 400 _ _ _ _ _ h
set_option maxRecDepth 100000 in
theorem sg_Law_law_506 {n l : Nat} {g : jv_S} {Q : jv_V → jv_L → jv_S → Prop} {v3 : Int} (h :
   jv_r32 (v3 + (1 : Int)) ∧
    (0 ≤ (v3 + (1 : Int)) ∧ (v3 + (1 : Int)) < Int.ofNat n) ∧
    jv_Ca jv_T jv_ml kX_ring [jv_P 1, jv_I (g 0 (v3 + (1 : Int)))] (LL n l) g (fun r L2 g2 => jv_At jv_T jv_ml kLaw_law 515 [jv_P 0, jv_P 1, jv_P 136, jv_I v3] (jv_pu r []) L2 g2 Q)) :
  jv_At jv_T jv_ml kLaw_law 506 [jv_P 0, jv_P 1, jv_P 136, jv_I v3] [] (LL n l) g Q :=
  jv_of_wp jg_nil (md := []) (stop := [18, 176, 229, 262, 295, 318, 361, 394, 427, 460, 483, 506, 529, 552, 575, 598, 641, 664, 697, 710, 733, 767, 780, 823, 846, 889, 933, 996, 1019, 1042, 1075, 1088, 1101, 1124]) (tab := jt_Law_law) rfl 400 _ _ _ _ _ h
set_option maxRecDepth 100000 in
theorem sg_Law_law_515 {n l : Nat} {g : jv_S} {Q : jv_V → jv_L → jv_S → Prop} {v3 s0 : Int} (h :
   jv_r32 (v3 + (1 : Int)) ∧
    (0 ≤ (v3 + (1 : Int)) ∧ (v3 + (1 : Int)) < Int.ofNat n) ∧
    jv_Ca jv_T jv_ml kY_ring [jv_P 136, jv_I (g 0 (v3 + (1 : Int)))] (LL n l) g (fun r L2 g2 => jv_At jv_T jv_ml kLaw_law 524 [jv_P 0, jv_P 1, jv_P 136, jv_I v3] (jv_pu r [jv_I s0]) L2 g2 Q)) :
  jv_At jv_T jv_ml kLaw_law 515 [jv_P 0, jv_P 1, jv_P 136, jv_I v3] [jv_I s0] (LL n l) g Q :=
  jv_of_wp jg_nil (md := []) (stop := [18, 176, 229, 262, 295, 318, 361, 394, 427, 460, 483, 506, 529, 552, 575, 598, 641, 664, 697, 710, 733, 767, 780, 823, 846, 889, 933, 996, 1019, 1042, 1075, 1088, 1101, 1124]) (tab := jt_Law_law) rfl 400 _ _ _ _ _ h
set_option maxRecDepth 100000 in
theorem sg_Law_law_524 {n l : Nat} {g : jv_S} {Q : jv_V → jv_L → jv_S → Prop} {v3 s0 s1 : Int} (h :
   (s0 = s1 →
     jv_At jv_T jv_ml kLaw_law 1124 [jv_P 0, jv_P 1, jv_P 136, jv_I v3] [] (LL n l) g Q) ∧
    (¬ s0 = s1 →
     ((0 : Int) = 0 ∨ (0 : Int) = 1) ∧ Q (jv_I (0 : Int)) (LL n l) g)) :
  jv_At jv_T jv_ml kLaw_law 524 [jv_P 0, jv_P 1, jv_P 136, jv_I v3] [jv_I s1, jv_I s0] (LL n l) g Q :=
  jv_of_wp jg_nil (md := []) (stop := [18, 176, 229, 262, 295, 318, 361, 394, 427, 460, 483, 506, 529, 552, 575, 598, 641, 664, 697, 710, 733, 767, 780, 823, 846, 889, 933, 996, 1019, 1042, 1075, 1088, 1101, 1124]) (tab := jt_Law_law) rfl 400 _ _ _ _ _ h
set_option maxRecDepth 100000 in
theorem sg_Law_law_529 {n l : Nat} {g : jv_S} {Q : jv_V → jv_L → jv_S → Prop} {v3 : Int} (h :
   jv_r32 (v3 + (1 : Int)) ∧
    (0 ≤ (v3 + (1 : Int)) ∧ (v3 + (1 : Int)) < Int.ofNat n) ∧
    jv_Ca jv_T jv_ml kX_rank [jv_P 1, jv_I (g 0 (v3 + (1 : Int)))] (LL n l) g (fun r L2 g2 => jv_At jv_T jv_ml kLaw_law 538 [jv_P 0, jv_P 1, jv_P 136, jv_I v3] (jv_pu r []) L2 g2 Q)) :
  jv_At jv_T jv_ml kLaw_law 529 [jv_P 0, jv_P 1, jv_P 136, jv_I v3] [] (LL n l) g Q :=
  jv_of_wp jg_nil (md := []) (stop := [18, 176, 229, 262, 295, 318, 361, 394, 427, 460, 483, 506, 529, 552, 575, 598, 641, 664, 697, 710, 733, 767, 780, 823, 846, 889, 933, 996, 1019, 1042, 1075, 1088, 1101, 1124]) (tab := jt_Law_law) rfl 400 _ _ _ _ _ h
set_option maxRecDepth 100000 in
theorem sg_Law_law_538 {n l : Nat} {g : jv_S} {Q : jv_V → jv_L → jv_S → Prop} {v3 s0 : Int} (h :
   jv_r32 (v3 + (1 : Int)) ∧
    (0 ≤ (v3 + (1 : Int)) ∧ (v3 + (1 : Int)) < Int.ofNat n) ∧
    jv_Ca jv_T jv_ml kY_rank [jv_P 136, jv_I (g 0 (v3 + (1 : Int)))] (LL n l) g (fun r L2 g2 => jv_At jv_T jv_ml kLaw_law 547 [jv_P 0, jv_P 1, jv_P 136, jv_I v3] (jv_pu r [jv_I s0]) L2 g2 Q)) :
  jv_At jv_T jv_ml kLaw_law 538 [jv_P 0, jv_P 1, jv_P 136, jv_I v3] [jv_I s0] (LL n l) g Q :=
  jv_of_wp jg_nil (md := []) (stop := [18, 176, 229, 262, 295, 318, 361, 394, 427, 460, 483, 506, 529, 552, 575, 598, 641, 664, 697, 710, 733, 767, 780, 823, 846, 889, 933, 996, 1019, 1042, 1075, 1088, 1101, 1124]) (tab := jt_Law_law) rfl 400 _ _ _ _ _ h
set_option maxRecDepth 100000 in
theorem sg_Law_law_547 {n l : Nat} {g : jv_S} {Q : jv_V → jv_L → jv_S → Prop} {v3 s0 s1 : Int} (h :
   (s0 = s1 →
     jv_At jv_T jv_ml kLaw_law 1124 [jv_P 0, jv_P 1, jv_P 136, jv_I v3] [] (LL n l) g Q) ∧
    (¬ s0 = s1 →
     ((0 : Int) = 0 ∨ (0 : Int) = 1) ∧ Q (jv_I (0 : Int)) (LL n l) g)) :
  jv_At jv_T jv_ml kLaw_law 547 [jv_P 0, jv_P 1, jv_P 136, jv_I v3] [jv_I s1, jv_I s0] (LL n l) g Q :=
  jv_of_wp jg_nil (md := []) (stop := [18, 176, 229, 262, 295, 318, 361, 394, 427, 460, 483, 506, 529, 552, 575, 598, 641, 664, 697, 710, 733, 767, 780, 823, 846, 889, 933, 996, 1019, 1042, 1075, 1088, 1101, 1124]) (tab := jt_Law_law) rfl 400 _ _ _ _ _ h
set_option maxRecDepth 100000 in
theorem sg_Law_law_552 {n l : Nat} {g : jv_S} {Q : jv_V → jv_L → jv_S → Prop} {v3 : Int} (h :
   jv_r32 (v3 + (1 : Int)) ∧
    (0 ≤ (v3 + (1 : Int)) ∧ (v3 + (1 : Int)) < Int.ofNat n) ∧
    jv_Ca jv_T jv_ml kX_still [jv_P 1, jv_I (g 0 (v3 + (1 : Int)))] (LL n l) g (fun r L2 g2 => jv_At jv_T jv_ml kLaw_law 561 [jv_P 0, jv_P 1, jv_P 136, jv_I v3] (jv_pu r []) L2 g2 Q)) :
  jv_At jv_T jv_ml kLaw_law 552 [jv_P 0, jv_P 1, jv_P 136, jv_I v3] [] (LL n l) g Q :=
  jv_of_wp jg_nil (md := []) (stop := [18, 176, 229, 262, 295, 318, 361, 394, 427, 460, 483, 506, 529, 552, 575, 598, 641, 664, 697, 710, 733, 767, 780, 823, 846, 889, 933, 996, 1019, 1042, 1075, 1088, 1101, 1124]) (tab := jt_Law_law) rfl 400 _ _ _ _ _ h
set_option maxRecDepth 100000 in
theorem sg_Law_law_561 {n l : Nat} {g : jv_S} {Q : jv_V → jv_L → jv_S → Prop} {v3 s0 : Int} (h :
   jv_r32 (v3 + (1 : Int)) ∧
    (0 ≤ (v3 + (1 : Int)) ∧ (v3 + (1 : Int)) < Int.ofNat n) ∧
    jv_Ca jv_T jv_ml kY_still [jv_P 136, jv_I (g 0 (v3 + (1 : Int)))] (LL n l) g (fun r L2 g2 => jv_At jv_T jv_ml kLaw_law 570 [jv_P 0, jv_P 1, jv_P 136, jv_I v3] (jv_pu r [jv_I s0]) L2 g2 Q)) :
  jv_At jv_T jv_ml kLaw_law 561 [jv_P 0, jv_P 1, jv_P 136, jv_I v3] [jv_I s0] (LL n l) g Q :=
  jv_of_wp jg_nil (md := []) (stop := [18, 176, 229, 262, 295, 318, 361, 394, 427, 460, 483, 506, 529, 552, 575, 598, 641, 664, 697, 710, 733, 767, 780, 823, 846, 889, 933, 996, 1019, 1042, 1075, 1088, 1101, 1124]) (tab := jt_Law_law) rfl 400 _ _ _ _ _ h
set_option maxRecDepth 100000 in
theorem sg_Law_law_570 {n l : Nat} {g : jv_S} {Q : jv_V → jv_L → jv_S → Prop} {v3 s0 s1 : Int} (h :
   (s0 = s1 →
     jv_At jv_T jv_ml kLaw_law 1124 [jv_P 0, jv_P 1, jv_P 136, jv_I v3] [] (LL n l) g Q) ∧
    (¬ s0 = s1 →
     ((0 : Int) = 0 ∨ (0 : Int) = 1) ∧ Q (jv_I (0 : Int)) (LL n l) g)) :
  jv_At jv_T jv_ml kLaw_law 570 [jv_P 0, jv_P 1, jv_P 136, jv_I v3] [jv_I s1, jv_I s0] (LL n l) g Q :=
  jv_of_wp jg_nil (md := []) (stop := [18, 176, 229, 262, 295, 318, 361, 394, 427, 460, 483, 506, 529, 552, 575, 598, 641, 664, 697, 710, 733, 767, 780, 823, 846, 889, 933, 996, 1019, 1042, 1075, 1088, 1101, 1124]) (tab := jt_Law_law) rfl 400 _ _ _ _ _ h
set_option maxRecDepth 100000 in
theorem sg_Law_law_575 {n l : Nat} {g : jv_S} {Q : jv_V → jv_L → jv_S → Prop} {v3 : Int} (h :
   jv_r32 (v3 + (1 : Int)) ∧
    (0 ≤ (v3 + (1 : Int)) ∧ (v3 + (1 : Int)) < Int.ofNat n) ∧
    jv_Ca jv_T jv_ml kX_states [jv_P 1, jv_I (g 0 (v3 + (1 : Int)))] (LL n l) g (fun r L2 g2 => jv_At jv_T jv_ml kLaw_law 584 [jv_P 0, jv_P 1, jv_P 136, jv_I v3] (jv_pu r []) L2 g2 Q)) :
  jv_At jv_T jv_ml kLaw_law 575 [jv_P 0, jv_P 1, jv_P 136, jv_I v3] [] (LL n l) g Q :=
  jv_of_wp jg_nil (md := []) (stop := [18, 176, 229, 262, 295, 318, 361, 394, 427, 460, 483, 506, 529, 552, 575, 598, 641, 664, 697, 710, 733, 767, 780, 823, 846, 889, 933, 996, 1019, 1042, 1075, 1088, 1101, 1124]) (tab := jt_Law_law) rfl 400 _ _ _ _ _ h
set_option maxRecDepth 100000 in
theorem sg_Law_law_584 {n l : Nat} {g : jv_S} {Q : jv_V → jv_L → jv_S → Prop} {v3 s0 : Int} (h :
   jv_r32 (v3 + (1 : Int)) ∧
    (0 ≤ (v3 + (1 : Int)) ∧ (v3 + (1 : Int)) < Int.ofNat n) ∧
    jv_Ca jv_T jv_ml kY_states [jv_P 136, jv_I (g 0 (v3 + (1 : Int)))] (LL n l) g (fun r L2 g2 => jv_At jv_T jv_ml kLaw_law 593 [jv_P 0, jv_P 1, jv_P 136, jv_I v3] (jv_pu r [jv_I s0]) L2 g2 Q)) :
  jv_At jv_T jv_ml kLaw_law 584 [jv_P 0, jv_P 1, jv_P 136, jv_I v3] [jv_I s0] (LL n l) g Q :=
  jv_of_wp jg_nil (md := []) (stop := [18, 176, 229, 262, 295, 318, 361, 394, 427, 460, 483, 506, 529, 552, 575, 598, 641, 664, 697, 710, 733, 767, 780, 823, 846, 889, 933, 996, 1019, 1042, 1075, 1088, 1101, 1124]) (tab := jt_Law_law) rfl 400 _ _ _ _ _ h
set_option maxRecDepth 100000 in
theorem sg_Law_law_593 {n l : Nat} {g : jv_S} {Q : jv_V → jv_L → jv_S → Prop} {v3 s0 s1 : Int} (h :
   (s0 = s1 →
     jv_At jv_T jv_ml kLaw_law 1124 [jv_P 0, jv_P 1, jv_P 136, jv_I v3] [] (LL n l) g Q) ∧
    (¬ s0 = s1 →
     ((0 : Int) = 0 ∨ (0 : Int) = 1) ∧ Q (jv_I (0 : Int)) (LL n l) g)) :
  jv_At jv_T jv_ml kLaw_law 593 [jv_P 0, jv_P 1, jv_P 136, jv_I v3] [jv_I s1, jv_I s0] (LL n l) g Q :=
  jv_of_wp jg_nil (md := []) (stop := [18, 176, 229, 262, 295, 318, 361, 394, 427, 460, 483, 506, 529, 552, 575, 598, 641, 664, 697, 710, 733, 767, 780, 823, 846, 889, 933, 996, 1019, 1042, 1075, 1088, 1101, 1124]) (tab := jt_Law_law) rfl 400 _ _ _ _ _ h
set_option maxRecDepth 100000 in
theorem sg_Law_law_598 {n l : Nat} {g : jv_S} {Q : jv_V → jv_L → jv_S → Prop} {v3 : Int} (h :
   jv_r32 (v3 + (1 : Int)) ∧
    (0 ≤ (v3 + (1 : Int)) ∧ (v3 + (1 : Int)) < Int.ofNat n) ∧
    jv_r32 (v3 + (2 : Int)) ∧
    (0 ≤ (v3 + (2 : Int)) ∧ (v3 + (2 : Int)) < Int.ofNat n) ∧
    jv_r32 (v3 + (3 : Int)) ∧
    (0 ≤ (v3 + (3 : Int)) ∧ (v3 + (3 : Int)) < Int.ofNat n) ∧
    jv_Ca jv_T jv_ml kX_send [jv_P 1, jv_I (g 0 (v3 + (1 : Int))), jv_I (g 0 (v3 + (2 : Int))), jv_I (g 0 (v3 + (3 : Int)))] (LL n l) g (fun r L2 g2 => jv_At jv_T jv_ml kLaw_law 617 [jv_P 0, jv_P 1, jv_P 136, jv_I v3] (jv_pu r []) L2 g2 Q)) :
  jv_At jv_T jv_ml kLaw_law 598 [jv_P 0, jv_P 1, jv_P 136, jv_I v3] [] (LL n l) g Q :=
  jv_of_wp jg_nil (md := []) (stop := [18, 176, 229, 262, 295, 318, 361, 394, 427, 460, 483, 506, 529, 552, 575, 598, 641, 664, 697, 710, 733, 767, 780, 823, 846, 889, 933, 996, 1019, 1042, 1075, 1088, 1101, 1124]) (tab := jt_Law_law) rfl 400 _ _ _ _ _ h
set_option maxRecDepth 100000 in
theorem sg_Law_law_617 {n l : Nat} {g : jv_S} {Q : jv_V → jv_L → jv_S → Prop} {v3 s0 : Int} (h :
   jv_r32 (v3 + (1 : Int)) ∧
    (0 ≤ (v3 + (1 : Int)) ∧ (v3 + (1 : Int)) < Int.ofNat n) ∧
    jv_r32 (v3 + (2 : Int)) ∧
    (0 ≤ (v3 + (2 : Int)) ∧ (v3 + (2 : Int)) < Int.ofNat n) ∧
    jv_r32 (v3 + (3 : Int)) ∧
    (0 ≤ (v3 + (3 : Int)) ∧ (v3 + (3 : Int)) < Int.ofNat n) ∧
    jv_Ca jv_T jv_ml kY_send [jv_P 136, jv_I (g 0 (v3 + (1 : Int))), jv_I (g 0 (v3 + (2 : Int))), jv_I (g 0 (v3 + (3 : Int)))] (LL n l) g (fun r L2 g2 => jv_At jv_T jv_ml kLaw_law 636 [jv_P 0, jv_P 1, jv_P 136, jv_I v3] (jv_pu r [jv_I s0]) L2 g2 Q)) :
  jv_At jv_T jv_ml kLaw_law 617 [jv_P 0, jv_P 1, jv_P 136, jv_I v3] [jv_I s0] (LL n l) g Q :=
  jv_of_wp jg_nil (md := []) (stop := [18, 176, 229, 262, 295, 318, 361, 394, 427, 460, 483, 506, 529, 552, 575, 598, 641, 664, 697, 710, 733, 767, 780, 823, 846, 889, 933, 996, 1019, 1042, 1075, 1088, 1101, 1124]) (tab := jt_Law_law) rfl 400 _ _ _ _ _ h
set_option maxRecDepth 100000 in
theorem sg_Law_law_636 {n l : Nat} {g : jv_S} {Q : jv_V → jv_L → jv_S → Prop} {v3 s0 s1 : Int} (h :
   (s0 = s1 →
     jv_At jv_T jv_ml kLaw_law 1124 [jv_P 0, jv_P 1, jv_P 136, jv_I v3] [] (LL n l) g Q) ∧
    (¬ s0 = s1 →
     ((0 : Int) = 0 ∨ (0 : Int) = 1) ∧ Q (jv_I (0 : Int)) (LL n l) g)) :
  jv_At jv_T jv_ml kLaw_law 636 [jv_P 0, jv_P 1, jv_P 136, jv_I v3] [jv_I s1, jv_I s0] (LL n l) g Q :=
  jv_of_wp jg_nil (md := []) (stop := [18, 176, 229, 262, 295, 318, 361, 394, 427, 460, 483, 506, 529, 552, 575, 598, 641, 664, 697, 710, 733, 767, 780, 823, 846, 889, 933, 996, 1019, 1042, 1075, 1088, 1101, 1124]) (tab := jt_Law_law) rfl 400 _ _ _ _ _ h
set_option maxRecDepth 100000 in
theorem sg_Law_law_641 {n l : Nat} {g : jv_S} {Q : jv_V → jv_L → jv_S → Prop} {v3 : Int} (h :
   jv_r32 (v3 + (1 : Int)) ∧
    (0 ≤ (v3 + (1 : Int)) ∧ (v3 + (1 : Int)) < Int.ofNat n) ∧
    jv_Ca jv_T jv_ml kX_ticks [jv_P 1, jv_I (g 0 (v3 + (1 : Int)))] (LL n l) g (fun r L2 g2 => jv_At jv_T jv_ml kLaw_law 650 [jv_P 0, jv_P 1, jv_P 136, jv_I v3] (jv_pu r []) L2 g2 Q)) :
  jv_At jv_T jv_ml kLaw_law 641 [jv_P 0, jv_P 1, jv_P 136, jv_I v3] [] (LL n l) g Q :=
  jv_of_wp jg_nil (md := []) (stop := [18, 176, 229, 262, 295, 318, 361, 394, 427, 460, 483, 506, 529, 552, 575, 598, 641, 664, 697, 710, 733, 767, 780, 823, 846, 889, 933, 996, 1019, 1042, 1075, 1088, 1101, 1124]) (tab := jt_Law_law) rfl 400 _ _ _ _ _ h
set_option maxRecDepth 100000 in
theorem sg_Law_law_650 {n l : Nat} {g : jv_S} {Q : jv_V → jv_L → jv_S → Prop} {v3 s0 : Int} (h :
   jv_r32 (v3 + (1 : Int)) ∧
    (0 ≤ (v3 + (1 : Int)) ∧ (v3 + (1 : Int)) < Int.ofNat n) ∧
    jv_Ca jv_T jv_ml kY_ticks [jv_P 136, jv_I (g 0 (v3 + (1 : Int)))] (LL n l) g (fun r L2 g2 => jv_At jv_T jv_ml kLaw_law 659 [jv_P 0, jv_P 1, jv_P 136, jv_I v3] (jv_pu r [jv_I s0]) L2 g2 Q)) :
  jv_At jv_T jv_ml kLaw_law 650 [jv_P 0, jv_P 1, jv_P 136, jv_I v3] [jv_I s0] (LL n l) g Q :=
  jv_of_wp jg_nil (md := []) (stop := [18, 176, 229, 262, 295, 318, 361, 394, 427, 460, 483, 506, 529, 552, 575, 598, 641, 664, 697, 710, 733, 767, 780, 823, 846, 889, 933, 996, 1019, 1042, 1075, 1088, 1101, 1124]) (tab := jt_Law_law) rfl 400 _ _ _ _ _ h
set_option maxRecDepth 100000 in
theorem sg_Law_law_659 {n l : Nat} {g : jv_S} {Q : jv_V → jv_L → jv_S → Prop} {v3 s0 s1 : Int} (h :
   (s0 = s1 →
     jv_At jv_T jv_ml kLaw_law 1124 [jv_P 0, jv_P 1, jv_P 136, jv_I v3] [] (LL n l) g Q) ∧
    (¬ s0 = s1 →
     ((0 : Int) = 0 ∨ (0 : Int) = 1) ∧ Q (jv_I (0 : Int)) (LL n l) g)) :
  jv_At jv_T jv_ml kLaw_law 659 [jv_P 0, jv_P 1, jv_P 136, jv_I v3] [jv_I s1, jv_I s0] (LL n l) g Q :=
  jv_of_wp jg_nil (md := []) (stop := [18, 176, 229, 262, 295, 318, 361, 394, 427, 460, 483, 506, 529, 552, 575, 598, 641, 664, 697, 710, 733, 767, 780, 823, 846, 889, 933, 996, 1019, 1042, 1075, 1088, 1101, 1124]) (tab := jt_Law_law) rfl 400 _ _ _ _ _ h
set_option maxRecDepth 100000 in
theorem sg_Law_law_664 {n l : Nat} {g : jv_S} {Q : jv_V → jv_L → jv_S → Prop} {v3 : Int} (h :
   jv_r32 (v3 + (1 : Int)) ∧
    (0 ≤ (v3 + (1 : Int)) ∧ (v3 + (1 : Int)) < Int.ofNat n) ∧
    jv_r32 (v3 + (2 : Int)) ∧
    (0 ≤ (v3 + (2 : Int)) ∧ (v3 + (2 : Int)) < Int.ofNat n) ∧
    jv_Ca jv_T jv_ml kX_ofLoad [jv_P 1, jv_I (g 0 (v3 + (1 : Int))), jv_I (g 0 (v3 + (2 : Int)))] (LL n l) g (fun r L2 g2 => jv_At jv_T jv_ml kLaw_law 678 [jv_P 0, jv_P 1, jv_P 136, jv_I v3] (jv_pu r []) L2 g2 Q)) :
  jv_At jv_T jv_ml kLaw_law 664 [jv_P 0, jv_P 1, jv_P 136, jv_I v3] [] (LL n l) g Q :=
  jv_of_wp jg_nil (md := []) (stop := [18, 176, 229, 262, 295, 318, 361, 394, 427, 460, 483, 506, 529, 552, 575, 598, 641, 664, 697, 710, 733, 767, 780, 823, 846, 889, 933, 996, 1019, 1042, 1075, 1088, 1101, 1124]) (tab := jt_Law_law) rfl 400 _ _ _ _ _ h
set_option maxRecDepth 100000 in
theorem sg_Law_law_678 {n l : Nat} {g : jv_S} {Q : jv_V → jv_L → jv_S → Prop} {v3 s0 : Int} (h :
   jv_r32 (v3 + (1 : Int)) ∧
    (0 ≤ (v3 + (1 : Int)) ∧ (v3 + (1 : Int)) < Int.ofNat n) ∧
    jv_r32 (v3 + (2 : Int)) ∧
    (0 ≤ (v3 + (2 : Int)) ∧ (v3 + (2 : Int)) < Int.ofNat n) ∧
    jv_Ca jv_T jv_ml kY_ofLoad [jv_P 136, jv_I (g 0 (v3 + (1 : Int))), jv_I (g 0 (v3 + (2 : Int)))] (LL n l) g (fun r L2 g2 => jv_At jv_T jv_ml kLaw_law 692 [jv_P 0, jv_P 1, jv_P 136, jv_I v3] (jv_pu r [jv_I s0]) L2 g2 Q)) :
  jv_At jv_T jv_ml kLaw_law 678 [jv_P 0, jv_P 1, jv_P 136, jv_I v3] [jv_I s0] (LL n l) g Q :=
  jv_of_wp jg_nil (md := []) (stop := [18, 176, 229, 262, 295, 318, 361, 394, 427, 460, 483, 506, 529, 552, 575, 598, 641, 664, 697, 710, 733, 767, 780, 823, 846, 889, 933, 996, 1019, 1042, 1075, 1088, 1101, 1124]) (tab := jt_Law_law) rfl 400 _ _ _ _ _ h
set_option maxRecDepth 100000 in
theorem sg_Law_law_692 {n l : Nat} {g : jv_S} {Q : jv_V → jv_L → jv_S → Prop} {v3 s0 s1 : Int} (h :
   (s0 = s1 →
     jv_At jv_T jv_ml kLaw_law 1124 [jv_P 0, jv_P 1, jv_P 136, jv_I v3] [] (LL n l) g Q) ∧
    (¬ s0 = s1 →
     ((0 : Int) = 0 ∨ (0 : Int) = 1) ∧ Q (jv_I (0 : Int)) (LL n l) g)) :
  jv_At jv_T jv_ml kLaw_law 692 [jv_P 0, jv_P 1, jv_P 136, jv_I v3] [jv_I s1, jv_I s0] (LL n l) g Q :=
  jv_of_wp jg_nil (md := []) (stop := [18, 176, 229, 262, 295, 318, 361, 394, 427, 460, 483, 506, 529, 552, 575, 598, 641, 664, 697, 710, 733, 767, 780, 823, 846, 889, 933, 996, 1019, 1042, 1075, 1088, 1101, 1124]) (tab := jt_Law_law) rfl 400 _ _ _ _ _ h
set_option maxRecDepth 100000 in
theorem sg_Law_law_697 {n l : Nat} {g : jv_S} {Q : jv_V → jv_L → jv_S → Prop} {v3 : Int} (h :
   jv_Ca jv_T jv_ml kX_frozen [jv_P 1] (LL n l) g (fun r L2 g2 => jv_At jv_T jv_ml kLaw_law 701 [jv_P 0, jv_P 1, jv_P 136, jv_I v3] (jv_pu r []) L2 g2 Q)) :
  jv_At jv_T jv_ml kLaw_law 697 [jv_P 0, jv_P 1, jv_P 136, jv_I v3] [] (LL n l) g Q :=
  jv_of_wp jg_nil (md := []) (stop := [18, 176, 229, 262, 295, 318, 361, 394, 427, 460, 483, 506, 529, 552, 575, 598, 641, 664, 697, 710, 733, 767, 780, 823, 846, 889, 933, 996, 1019, 1042, 1075, 1088, 1101, 1124]) (tab := jt_Law_law) rfl 400 _ _ _ _ _ h
set_option maxRecDepth 100000 in
theorem sg_Law_law_701 {n l : Nat} {g : jv_S} {Q : jv_V → jv_L → jv_S → Prop} {v3 s0 : Int} (h :
   jv_Ca jv_T jv_ml kY_frozen [jv_P 136] (LL n l) g (fun r L2 g2 => jv_At jv_T jv_ml kLaw_law 705 [jv_P 0, jv_P 1, jv_P 136, jv_I v3] (jv_pu r [jv_I s0]) L2 g2 Q)) :
  jv_At jv_T jv_ml kLaw_law 701 [jv_P 0, jv_P 1, jv_P 136, jv_I v3] [jv_I s0] (LL n l) g Q :=
  jv_of_wp jg_nil (md := []) (stop := [18, 176, 229, 262, 295, 318, 361, 394, 427, 460, 483, 506, 529, 552, 575, 598, 641, 664, 697, 710, 733, 767, 780, 823, 846, 889, 933, 996, 1019, 1042, 1075, 1088, 1101, 1124]) (tab := jt_Law_law) rfl 400 _ _ _ _ _ h
set_option maxRecDepth 100000 in
theorem sg_Law_law_705 {n l : Nat} {g : jv_S} {Q : jv_V → jv_L → jv_S → Prop} {v3 s0 s1 : Int} (h :
   (s0 = s1 →
     jv_At jv_T jv_ml kLaw_law 1124 [jv_P 0, jv_P 1, jv_P 136, jv_I v3] [] (LL n l) g Q) ∧
    (¬ s0 = s1 →
     ((0 : Int) = 0 ∨ (0 : Int) = 1) ∧ Q (jv_I (0 : Int)) (LL n l) g)) :
  jv_At jv_T jv_ml kLaw_law 705 [jv_P 0, jv_P 1, jv_P 136, jv_I v3] [jv_I s1, jv_I s0] (LL n l) g Q :=
  jv_of_wp jg_nil (md := []) (stop := [18, 176, 229, 262, 295, 318, 361, 394, 427, 460, 483, 506, 529, 552, 575, 598, 641, 664, 697, 710, 733, 767, 780, 823, 846, 889, 933, 996, 1019, 1042, 1075, 1088, 1101, 1124]) (tab := jt_Law_law) rfl 400 _ _ _ _ _ h
set_option maxRecDepth 100000 in
theorem sg_Law_law_710 {n l : Nat} {g : jv_S} {Q : jv_V → jv_L → jv_S → Prop} {v3 : Int} (h :
   jv_r32 (v3 + (1 : Int)) ∧
    (0 ≤ (v3 + (1 : Int)) ∧ (v3 + (1 : Int)) < Int.ofNat n) ∧
    jv_Ca jv_T jv_ml kX_mend [jv_P 1, jv_I (g 0 (v3 + (1 : Int)))] (LL n l) g (fun r L2 g2 => jv_At jv_T jv_ml kLaw_law 719 [jv_P 0, jv_P 1, jv_P 136, jv_I v3] (jv_pu r []) L2 g2 Q)) :
  jv_At jv_T jv_ml kLaw_law 710 [jv_P 0, jv_P 1, jv_P 136, jv_I v3] [] (LL n l) g Q :=
  jv_of_wp jg_nil (md := []) (stop := [18, 176, 229, 262, 295, 318, 361, 394, 427, 460, 483, 506, 529, 552, 575, 598, 641, 664, 697, 710, 733, 767, 780, 823, 846, 889, 933, 996, 1019, 1042, 1075, 1088, 1101, 1124]) (tab := jt_Law_law) rfl 400 _ _ _ _ _ h
set_option maxRecDepth 100000 in
theorem sg_Law_law_719 {n l : Nat} {g : jv_S} {Q : jv_V → jv_L → jv_S → Prop} {v3 s0 : Int} (h :
   jv_r32 (v3 + (1 : Int)) ∧
    (0 ≤ (v3 + (1 : Int)) ∧ (v3 + (1 : Int)) < Int.ofNat n) ∧
    jv_Ca jv_T jv_ml kY_mend [jv_P 136, jv_I (g 0 (v3 + (1 : Int)))] (LL n l) g (fun r L2 g2 => jv_At jv_T jv_ml kLaw_law 728 [jv_P 0, jv_P 1, jv_P 136, jv_I v3] (jv_pu r [jv_I s0]) L2 g2 Q)) :
  jv_At jv_T jv_ml kLaw_law 719 [jv_P 0, jv_P 1, jv_P 136, jv_I v3] [jv_I s0] (LL n l) g Q :=
  jv_of_wp jg_nil (md := []) (stop := [18, 176, 229, 262, 295, 318, 361, 394, 427, 460, 483, 506, 529, 552, 575, 598, 641, 664, 697, 710, 733, 767, 780, 823, 846, 889, 933, 996, 1019, 1042, 1075, 1088, 1101, 1124]) (tab := jt_Law_law) rfl 400 _ _ _ _ _ h
set_option maxRecDepth 100000 in
theorem sg_Law_law_728 {n l : Nat} {g : jv_S} {Q : jv_V → jv_L → jv_S → Prop} {v3 s0 s1 : Int} (h :
   (s0 = s1 →
     jv_At jv_T jv_ml kLaw_law 1124 [jv_P 0, jv_P 1, jv_P 136, jv_I v3] [] (LL n l) g Q) ∧
    (¬ s0 = s1 →
     ((0 : Int) = 0 ∨ (0 : Int) = 1) ∧ Q (jv_I (0 : Int)) (LL n l) g)) :
  jv_At jv_T jv_ml kLaw_law 728 [jv_P 0, jv_P 1, jv_P 136, jv_I v3] [jv_I s1, jv_I s0] (LL n l) g Q :=
  jv_of_wp jg_nil (md := []) (stop := [18, 176, 229, 262, 295, 318, 361, 394, 427, 460, 483, 506, 529, 552, 575, 598, 641, 664, 697, 710, 733, 767, 780, 823, 846, 889, 933, 996, 1019, 1042, 1075, 1088, 1101, 1124]) (tab := jt_Law_law) rfl 400 _ _ _ _ _ h
set_option maxRecDepth 100000 in
theorem sg_Law_law_733 {n l : Nat} {g : jv_S} {Q : jv_V → jv_L → jv_S → Prop} {v3 : Int} (h :
   jv_r32 (v3 + (1 : Int)) ∧
    (0 ≤ (v3 + (1 : Int)) ∧ (v3 + (1 : Int)) < Int.ofNat n) ∧
    jv_r32 (v3 + (2 : Int)) ∧
    (0 ≤ (v3 + (2 : Int)) ∧ (v3 + (2 : Int)) < Int.ofNat n) ∧
    jv_Ca jv_T jv_ml kX_bears [jv_P 1, jv_I (g 0 (v3 + (1 : Int))), jv_I (g 0 (v3 + (2 : Int)))] (LL n l) g (fun r L2 g2 => jv_At jv_T jv_ml kLaw_law 747 [jv_P 0, jv_P 1, jv_P 136, jv_I v3] (jv_pu r []) L2 g2 Q)) :
  jv_At jv_T jv_ml kLaw_law 733 [jv_P 0, jv_P 1, jv_P 136, jv_I v3] [] (LL n l) g Q :=
  jv_of_wp jg_nil (md := []) (stop := [18, 176, 229, 262, 295, 318, 361, 394, 427, 460, 483, 506, 529, 552, 575, 598, 641, 664, 697, 710, 733, 767, 780, 823, 846, 889, 933, 996, 1019, 1042, 1075, 1088, 1101, 1124]) (tab := jt_Law_law) rfl 400 _ _ _ _ _ h
set_option maxRecDepth 100000 in
theorem sg_Law_law_747 {n l : Nat} {g : jv_S} {Q : jv_V → jv_L → jv_S → Prop} {v3 s0 : Int} (h :
   jv_r32 (v3 + (1 : Int)) ∧
    (0 ≤ (v3 + (1 : Int)) ∧ (v3 + (1 : Int)) < Int.ofNat n) ∧
    jv_r32 (v3 + (2 : Int)) ∧
    (0 ≤ (v3 + (2 : Int)) ∧ (v3 + (2 : Int)) < Int.ofNat n) ∧
    jv_Ca jv_T jv_ml kY_bears [jv_P 136, jv_I (g 0 (v3 + (1 : Int))), jv_I (g 0 (v3 + (2 : Int)))] (LL n l) g (fun r L2 g2 => jv_At jv_T jv_ml kLaw_law 761 [jv_P 0, jv_P 1, jv_P 136, jv_I v3] (jv_pu r [jv_J s0]) L2 g2 Q)) :
  jv_At jv_T jv_ml kLaw_law 747 [jv_P 0, jv_P 1, jv_P 136, jv_I v3] [jv_J s0] (LL n l) g Q :=
  jv_of_wp jg_nil (md := []) (stop := [18, 176, 229, 262, 295, 318, 361, 394, 427, 460, 483, 506, 529, 552, 575, 598, 641, 664, 697, 710, 733, 767, 780, 823, 846, 889, 933, 996, 1019, 1042, 1075, 1088, 1101, 1124]) (tab := jt_Law_law) rfl 400 _ _ _ _ _ h
set_option maxRecDepth 100000 in
theorem sg_Law_law_761 {n l : Nat} {g : jv_S} {Q : jv_V → jv_L → jv_S → Prop} {v3 s0 s1 : Int} (h :
   ((jv_cmp s0 s1) = 0 →
     jv_At jv_T jv_ml kLaw_law 1124 [jv_P 0, jv_P 1, jv_P 136, jv_I v3] [] (LL n l) g Q) ∧
    (¬ (jv_cmp s0 s1) = 0 →
     ((0 : Int) = 0 ∨ (0 : Int) = 1) ∧ Q (jv_I (0 : Int)) (LL n l) g)) :
  jv_At jv_T jv_ml kLaw_law 761 [jv_P 0, jv_P 1, jv_P 136, jv_I v3] [jv_J s1, jv_J s0] (LL n l) g Q :=
  jv_of_wp jg_nil (md := []) (stop := [18, 176, 229, 262, 295, 318, 361, 394, 427, 460, 483, 506, 529, 552, 575, 598, 641, 664, 697, 710, 733, 767, 780, 823, 846, 889, 933, 996, 1019, 1042, 1075, 1088, 1101, 1124]) (tab := jt_Law_law) rfl 400 _ _ _ _ _ h
set_option maxRecDepth 100000 in
theorem sg_Law_law_767 {n l : Nat} {g : jv_S} {Q : jv_V → jv_L → jv_S → Prop} {v3 : Int} (h :
   jv_Ca jv_T jv_ml kX_busiest [jv_P 1] (LL n l) g (fun r L2 g2 => jv_At jv_T jv_ml kLaw_law 771 [jv_P 0, jv_P 1, jv_P 136, jv_I v3] (jv_pu r []) L2 g2 Q)) :
  jv_At jv_T jv_ml kLaw_law 767 [jv_P 0, jv_P 1, jv_P 136, jv_I v3] [] (LL n l) g Q :=
  jv_of_wp jg_nil (md := []) (stop := [18, 176, 229, 262, 295, 318, 361, 394, 427, 460, 483, 506, 529, 552, 575, 598, 641, 664, 697, 710, 733, 767, 780, 823, 846, 889, 933, 996, 1019, 1042, 1075, 1088, 1101, 1124]) (tab := jt_Law_law) rfl 400 _ _ _ _ _ h
set_option maxRecDepth 100000 in
theorem sg_Law_law_771 {n l : Nat} {g : jv_S} {Q : jv_V → jv_L → jv_S → Prop} {v3 s0 : Int} (h :
   jv_Ca jv_T jv_ml kY_busiest [jv_P 136] (LL n l) g (fun r L2 g2 => jv_At jv_T jv_ml kLaw_law 775 [jv_P 0, jv_P 1, jv_P 136, jv_I v3] (jv_pu r [jv_I s0]) L2 g2 Q)) :
  jv_At jv_T jv_ml kLaw_law 771 [jv_P 0, jv_P 1, jv_P 136, jv_I v3] [jv_I s0] (LL n l) g Q :=
  jv_of_wp jg_nil (md := []) (stop := [18, 176, 229, 262, 295, 318, 361, 394, 427, 460, 483, 506, 529, 552, 575, 598, 641, 664, 697, 710, 733, 767, 780, 823, 846, 889, 933, 996, 1019, 1042, 1075, 1088, 1101, 1124]) (tab := jt_Law_law) rfl 400 _ _ _ _ _ h
set_option maxRecDepth 100000 in
theorem sg_Law_law_775 {n l : Nat} {g : jv_S} {Q : jv_V → jv_L → jv_S → Prop} {v3 s0 s1 : Int} (h :
   (s0 = s1 →
     jv_At jv_T jv_ml kLaw_law 1124 [jv_P 0, jv_P 1, jv_P 136, jv_I v3] [] (LL n l) g Q) ∧
    (¬ s0 = s1 →
     ((0 : Int) = 0 ∨ (0 : Int) = 1) ∧ Q (jv_I (0 : Int)) (LL n l) g)) :
  jv_At jv_T jv_ml kLaw_law 775 [jv_P 0, jv_P 1, jv_P 136, jv_I v3] [jv_I s1, jv_I s0] (LL n l) g Q :=
  jv_of_wp jg_nil (md := []) (stop := [18, 176, 229, 262, 295, 318, 361, 394, 427, 460, 483, 506, 529, 552, 575, 598, 641, 664, 697, 710, 733, 767, 780, 823, 846, 889, 933, 996, 1019, 1042, 1075, 1088, 1101, 1124]) (tab := jt_Law_law) rfl 400 _ _ _ _ _ h
set_option maxRecDepth 100000 in
theorem sg_Law_law_780 {n l : Nat} {g : jv_S} {Q : jv_V → jv_L → jv_S → Prop} {v3 : Int} (h :
   jv_r32 (v3 + (1 : Int)) ∧
    (0 ≤ (v3 + (1 : Int)) ∧ (v3 + (1 : Int)) < Int.ofNat n) ∧
    jv_r32 (v3 + (2 : Int)) ∧
    (0 ≤ (v3 + (2 : Int)) ∧ (v3 + (2 : Int)) < Int.ofNat n) ∧
    jv_r32 (v3 + (3 : Int)) ∧
    (0 ≤ (v3 + (3 : Int)) ∧ (v3 + (3 : Int)) < Int.ofNat n) ∧
    jv_Ca jv_T jv_ml kX_sheet [jv_P 1, jv_I (g 0 (v3 + (1 : Int))), jv_I (g 0 (v3 + (2 : Int))), jv_I (g 0 (v3 + (3 : Int)))] (LL n l) g (fun r L2 g2 => jv_At jv_T jv_ml kLaw_law 799 [jv_P 0, jv_P 1, jv_P 136, jv_I v3] (jv_pu r []) L2 g2 Q)) :
  jv_At jv_T jv_ml kLaw_law 780 [jv_P 0, jv_P 1, jv_P 136, jv_I v3] [] (LL n l) g Q :=
  jv_of_wp jg_nil (md := []) (stop := [18, 176, 229, 262, 295, 318, 361, 394, 427, 460, 483, 506, 529, 552, 575, 598, 641, 664, 697, 710, 733, 767, 780, 823, 846, 889, 933, 996, 1019, 1042, 1075, 1088, 1101, 1124]) (tab := jt_Law_law) rfl 400 _ _ _ _ _ h
set_option maxRecDepth 100000 in
theorem sg_Law_law_799 {n l : Nat} {g : jv_S} {Q : jv_V → jv_L → jv_S → Prop} {v3 s0 : Int} (h :
   jv_r32 (v3 + (1 : Int)) ∧
    (0 ≤ (v3 + (1 : Int)) ∧ (v3 + (1 : Int)) < Int.ofNat n) ∧
    jv_r32 (v3 + (2 : Int)) ∧
    (0 ≤ (v3 + (2 : Int)) ∧ (v3 + (2 : Int)) < Int.ofNat n) ∧
    jv_r32 (v3 + (3 : Int)) ∧
    (0 ≤ (v3 + (3 : Int)) ∧ (v3 + (3 : Int)) < Int.ofNat n) ∧
    jv_Ca jv_T jv_ml kY_sheet [jv_P 136, jv_I (g 0 (v3 + (1 : Int))), jv_I (g 0 (v3 + (2 : Int))), jv_I (g 0 (v3 + (3 : Int)))] (LL n l) g (fun r L2 g2 => jv_At jv_T jv_ml kLaw_law 818 [jv_P 0, jv_P 1, jv_P 136, jv_I v3] (jv_pu r [jv_I s0]) L2 g2 Q)) :
  jv_At jv_T jv_ml kLaw_law 799 [jv_P 0, jv_P 1, jv_P 136, jv_I v3] [jv_I s0] (LL n l) g Q :=
  jv_of_wp jg_nil (md := []) (stop := [18, 176, 229, 262, 295, 318, 361, 394, 427, 460, 483, 506, 529, 552, 575, 598, 641, 664, 697, 710, 733, 767, 780, 823, 846, 889, 933, 996, 1019, 1042, 1075, 1088, 1101, 1124]) (tab := jt_Law_law) rfl 400 _ _ _ _ _ h
set_option maxRecDepth 100000 in
theorem sg_Law_law_818 {n l : Nat} {g : jv_S} {Q : jv_V → jv_L → jv_S → Prop} {v3 s0 s1 : Int} (h :
   (s0 = s1 →
     jv_At jv_T jv_ml kLaw_law 1124 [jv_P 0, jv_P 1, jv_P 136, jv_I v3] [] (LL n l) g Q) ∧
    (¬ s0 = s1 →
     ((0 : Int) = 0 ∨ (0 : Int) = 1) ∧ Q (jv_I (0 : Int)) (LL n l) g)) :
  jv_At jv_T jv_ml kLaw_law 818 [jv_P 0, jv_P 1, jv_P 136, jv_I v3] [jv_I s1, jv_I s0] (LL n l) g Q :=
  jv_of_wp jg_nil (md := []) (stop := [18, 176, 229, 262, 295, 318, 361, 394, 427, 460, 483, 506, 529, 552, 575, 598, 641, 664, 697, 710, 733, 767, 780, 823, 846, 889, 933, 996, 1019, 1042, 1075, 1088, 1101, 1124]) (tab := jt_Law_law) rfl 400 _ _ _ _ _ h
set_option maxRecDepth 100000 in
theorem sg_Law_law_823 {n l : Nat} {g : jv_S} {Q : jv_V → jv_L → jv_S → Prop} {v3 : Int} (h :
   jv_r32 (v3 + (1 : Int)) ∧
    (0 ≤ (v3 + (1 : Int)) ∧ (v3 + (1 : Int)) < Int.ofNat n) ∧
    jv_Ca jv_T jv_ml kX_lose [jv_P 1, jv_I (g 0 (v3 + (1 : Int)))] (LL n l) g (fun r L2 g2 => jv_At jv_T jv_ml kLaw_law 832 [jv_P 0, jv_P 1, jv_P 136, jv_I v3] (jv_pu r []) L2 g2 Q)) :
  jv_At jv_T jv_ml kLaw_law 823 [jv_P 0, jv_P 1, jv_P 136, jv_I v3] [] (LL n l) g Q :=
  jv_of_wp jg_nil (md := []) (stop := [18, 176, 229, 262, 295, 318, 361, 394, 427, 460, 483, 506, 529, 552, 575, 598, 641, 664, 697, 710, 733, 767, 780, 823, 846, 889, 933, 996, 1019, 1042, 1075, 1088, 1101, 1124]) (tab := jt_Law_law) rfl 400 _ _ _ _ _ h
set_option maxRecDepth 100000 in
theorem sg_Law_law_832 {n l : Nat} {g : jv_S} {Q : jv_V → jv_L → jv_S → Prop} {v3 s0 : Int} (h :
   jv_r32 (v3 + (1 : Int)) ∧
    (0 ≤ (v3 + (1 : Int)) ∧ (v3 + (1 : Int)) < Int.ofNat n) ∧
    jv_Ca jv_T jv_ml kY_lose [jv_P 136, jv_I (g 0 (v3 + (1 : Int)))] (LL n l) g (fun r L2 g2 => jv_At jv_T jv_ml kLaw_law 841 [jv_P 0, jv_P 1, jv_P 136, jv_I v3] (jv_pu r [jv_I s0]) L2 g2 Q)) :
  jv_At jv_T jv_ml kLaw_law 832 [jv_P 0, jv_P 1, jv_P 136, jv_I v3] [jv_I s0] (LL n l) g Q :=
  jv_of_wp jg_nil (md := []) (stop := [18, 176, 229, 262, 295, 318, 361, 394, 427, 460, 483, 506, 529, 552, 575, 598, 641, 664, 697, 710, 733, 767, 780, 823, 846, 889, 933, 996, 1019, 1042, 1075, 1088, 1101, 1124]) (tab := jt_Law_law) rfl 400 _ _ _ _ _ h
set_option maxRecDepth 100000 in
theorem sg_Law_law_841 {n l : Nat} {g : jv_S} {Q : jv_V → jv_L → jv_S → Prop} {v3 s0 s1 : Int} (h :
   (s0 = s1 →
     jv_At jv_T jv_ml kLaw_law 1124 [jv_P 0, jv_P 1, jv_P 136, jv_I v3] [] (LL n l) g Q) ∧
    (¬ s0 = s1 →
     ((0 : Int) = 0 ∨ (0 : Int) = 1) ∧ Q (jv_I (0 : Int)) (LL n l) g)) :
  jv_At jv_T jv_ml kLaw_law 841 [jv_P 0, jv_P 1, jv_P 136, jv_I v3] [jv_I s1, jv_I s0] (LL n l) g Q :=
  jv_of_wp jg_nil (md := []) (stop := [18, 176, 229, 262, 295, 318, 361, 394, 427, 460, 483, 506, 529, 552, 575, 598, 641, 664, 697, 710, 733, 767, 780, 823, 846, 889, 933, 996, 1019, 1042, 1075, 1088, 1101, 1124]) (tab := jt_Law_law) rfl 400 _ _ _ _ _ h
set_option maxRecDepth 100000 in
theorem sg_Law_law_846 {n l : Nat} {g : jv_S} {Q : jv_V → jv_L → jv_S → Prop} {v3 : Int} (h :
   jv_r32 (v3 + (1 : Int)) ∧
    (0 ≤ (v3 + (1 : Int)) ∧ (v3 + (1 : Int)) < Int.ofNat n) ∧
    jv_r32 (v3 + (2 : Int)) ∧
    (0 ≤ (v3 + (2 : Int)) ∧ (v3 + (2 : Int)) < Int.ofNat n) ∧
    jv_r32 (v3 + (3 : Int)) ∧
    (0 ≤ (v3 + (3 : Int)) ∧ (v3 + (3 : Int)) < Int.ofNat n) ∧
    jv_Ca jv_T jv_ml kX_put [jv_P 1, jv_I (g 0 (v3 + (1 : Int))), jv_I (g 0 (v3 + (2 : Int))), jv_I (g 0 (v3 + (3 : Int)))] (LL n l) g (fun r L2 g2 => jv_At jv_T jv_ml kLaw_law 865 [jv_P 0, jv_P 1, jv_P 136, jv_I v3] (jv_pu r []) L2 g2 Q)) :
  jv_At jv_T jv_ml kLaw_law 846 [jv_P 0, jv_P 1, jv_P 136, jv_I v3] [] (LL n l) g Q :=
  jv_of_wp jg_nil (md := []) (stop := [18, 176, 229, 262, 295, 318, 361, 394, 427, 460, 483, 506, 529, 552, 575, 598, 641, 664, 697, 710, 733, 767, 780, 823, 846, 889, 933, 996, 1019, 1042, 1075, 1088, 1101, 1124]) (tab := jt_Law_law) rfl 400 _ _ _ _ _ h
set_option maxRecDepth 100000 in
theorem sg_Law_law_865 {n l : Nat} {g : jv_S} {Q : jv_V → jv_L → jv_S → Prop} {v3 s0 : Int} (h :
   jv_r32 (v3 + (1 : Int)) ∧
    (0 ≤ (v3 + (1 : Int)) ∧ (v3 + (1 : Int)) < Int.ofNat n) ∧
    jv_r32 (v3 + (2 : Int)) ∧
    (0 ≤ (v3 + (2 : Int)) ∧ (v3 + (2 : Int)) < Int.ofNat n) ∧
    jv_r32 (v3 + (3 : Int)) ∧
    (0 ≤ (v3 + (3 : Int)) ∧ (v3 + (3 : Int)) < Int.ofNat n) ∧
    jv_Ca jv_T jv_ml kY_put [jv_P 136, jv_I (g 0 (v3 + (1 : Int))), jv_I (g 0 (v3 + (2 : Int))), jv_I (g 0 (v3 + (3 : Int)))] (LL n l) g (fun r L2 g2 => jv_At jv_T jv_ml kLaw_law 884 [jv_P 0, jv_P 1, jv_P 136, jv_I v3] (jv_pu r [jv_I s0]) L2 g2 Q)) :
  jv_At jv_T jv_ml kLaw_law 865 [jv_P 0, jv_P 1, jv_P 136, jv_I v3] [jv_I s0] (LL n l) g Q :=
  jv_of_wp jg_nil (md := []) (stop := [18, 176, 229, 262, 295, 318, 361, 394, 427, 460, 483, 506, 529, 552, 575, 598, 641, 664, 697, 710, 733, 767, 780, 823, 846, 889, 933, 996, 1019, 1042, 1075, 1088, 1101, 1124]) (tab := jt_Law_law) rfl 400 _ _ _ _ _ h
set_option maxRecDepth 100000 in
theorem sg_Law_law_884 {n l : Nat} {g : jv_S} {Q : jv_V → jv_L → jv_S → Prop} {v3 s0 s1 : Int} (h :
   (s0 = s1 →
     jv_At jv_T jv_ml kLaw_law 1124 [jv_P 0, jv_P 1, jv_P 136, jv_I v3] [] (LL n l) g Q) ∧
    (¬ s0 = s1 →
     ((0 : Int) = 0 ∨ (0 : Int) = 1) ∧ Q (jv_I (0 : Int)) (LL n l) g)) :
  jv_At jv_T jv_ml kLaw_law 884 [jv_P 0, jv_P 1, jv_P 136, jv_I v3] [jv_I s1, jv_I s0] (LL n l) g Q :=
  jv_of_wp jg_nil (md := []) (stop := [18, 176, 229, 262, 295, 318, 361, 394, 427, 460, 483, 506, 529, 552, 575, 598, 641, 664, 697, 710, 733, 767, 780, 823, 846, 889, 933, 996, 1019, 1042, 1075, 1088, 1101, 1124]) (tab := jt_Law_law) rfl 400 _ _ _ _ _ h
set_option maxRecDepth 100000 in
theorem sg_Law_law_889 {n l : Nat} {g : jv_S} {Q : jv_V → jv_L → jv_S → Prop} {v3 : Int} (h :
   jv_r32 (v3 + (1 : Int)) ∧
    (0 ≤ (v3 + (1 : Int)) ∧ (v3 + (1 : Int)) < Int.ofNat n) ∧
    jv_r32 (v3 + (2 : Int)) ∧
    (0 ≤ (v3 + (2 : Int)) ∧ (v3 + (2 : Int)) < Int.ofNat n) ∧
    jv_r32 (v3 + (3 : Int)) ∧
    (0 ≤ (v3 + (3 : Int)) ∧ (v3 + (3 : Int)) < Int.ofNat n) ∧
    jv_Ca jv_T jv_ml kX_cell [jv_P 1, jv_I (g 0 (v3 + (1 : Int))), jv_I (g 0 (v3 + (2 : Int))), jv_I (g 0 (v3 + (3 : Int)))] (LL n l) g (fun r L2 g2 => jv_At jv_T jv_ml kLaw_law 908 [jv_P 0, jv_P 1, jv_P 136, jv_I v3] (jv_pu r []) L2 g2 Q)) :
  jv_At jv_T jv_ml kLaw_law 889 [jv_P 0, jv_P 1, jv_P 136, jv_I v3] [] (LL n l) g Q :=
  jv_of_wp jg_nil (md := []) (stop := [18, 176, 229, 262, 295, 318, 361, 394, 427, 460, 483, 506, 529, 552, 575, 598, 641, 664, 697, 710, 733, 767, 780, 823, 846, 889, 933, 996, 1019, 1042, 1075, 1088, 1101, 1124]) (tab := jt_Law_law) rfl 400 _ _ _ _ _ h
set_option maxRecDepth 100000 in
theorem sg_Law_law_908 {n l : Nat} {g : jv_S} {Q : jv_V → jv_L → jv_S → Prop} {v3 s0 : Int} (h :
   jv_r32 (v3 + (1 : Int)) ∧
    (0 ≤ (v3 + (1 : Int)) ∧ (v3 + (1 : Int)) < Int.ofNat n) ∧
    jv_r32 (v3 + (2 : Int)) ∧
    (0 ≤ (v3 + (2 : Int)) ∧ (v3 + (2 : Int)) < Int.ofNat n) ∧
    jv_r32 (v3 + (3 : Int)) ∧
    (0 ≤ (v3 + (3 : Int)) ∧ (v3 + (3 : Int)) < Int.ofNat n) ∧
    jv_Ca jv_T jv_ml kY_cell [jv_P 136, jv_I (g 0 (v3 + (1 : Int))), jv_I (g 0 (v3 + (2 : Int))), jv_I (g 0 (v3 + (3 : Int)))] (LL n l) g (fun r L2 g2 => jv_At jv_T jv_ml kLaw_law 927 [jv_P 0, jv_P 1, jv_P 136, jv_I v3] (jv_pu r [jv_J s0]) L2 g2 Q)) :
  jv_At jv_T jv_ml kLaw_law 908 [jv_P 0, jv_P 1, jv_P 136, jv_I v3] [jv_J s0] (LL n l) g Q :=
  jv_of_wp jg_nil (md := []) (stop := [18, 176, 229, 262, 295, 318, 361, 394, 427, 460, 483, 506, 529, 552, 575, 598, 641, 664, 697, 710, 733, 767, 780, 823, 846, 889, 933, 996, 1019, 1042, 1075, 1088, 1101, 1124]) (tab := jt_Law_law) rfl 400 _ _ _ _ _ h
set_option maxRecDepth 100000 in
theorem sg_Law_law_927 {n l : Nat} {g : jv_S} {Q : jv_V → jv_L → jv_S → Prop} {v3 s0 s1 : Int} (h :
   ((jv_cmp s0 s1) = 0 →
     jv_At jv_T jv_ml kLaw_law 1124 [jv_P 0, jv_P 1, jv_P 136, jv_I v3] [] (LL n l) g Q) ∧
    (¬ (jv_cmp s0 s1) = 0 →
     ((0 : Int) = 0 ∨ (0 : Int) = 1) ∧ Q (jv_I (0 : Int)) (LL n l) g)) :
  jv_At jv_T jv_ml kLaw_law 927 [jv_P 0, jv_P 1, jv_P 136, jv_I v3] [jv_J s1, jv_J s0] (LL n l) g Q :=
  jv_of_wp jg_nil (md := []) (stop := [18, 176, 229, 262, 295, 318, 361, 394, 427, 460, 483, 506, 529, 552, 575, 598, 641, 664, 697, 710, 733, 767, 780, 823, 846, 889, 933, 996, 1019, 1042, 1075, 1088, 1101, 1124]) (tab := jt_Law_law) rfl 400 _ _ _ _ _ h
set_option maxRecDepth 100000 in
theorem sg_Law_law_933 {n l : Nat} {g : jv_S} {Q : jv_V → jv_L → jv_S → Prop} {v3 : Int} (h :
   jv_r32 (v3 + (1 : Int)) ∧
    (0 ≤ (v3 + (1 : Int)) ∧ (v3 + (1 : Int)) < Int.ofNat n) ∧
    jv_r32 (v3 + (2 : Int)) ∧
    (0 ≤ (v3 + (2 : Int)) ∧ (v3 + (2 : Int)) < Int.ofNat n) ∧
    jv_r32 (v3 + (3 : Int)) ∧
    (0 ≤ (v3 + (3 : Int)) ∧ (v3 + (3 : Int)) < Int.ofNat n) ∧
    jv_r32 (v3 + (4 : Int)) ∧
    (0 ≤ (v3 + (4 : Int)) ∧ (v3 + (4 : Int)) < Int.ofNat n) ∧
    jv_r32 (v3 + (5 : Int)) ∧
    (0 ≤ (v3 + (5 : Int)) ∧ (v3 + (5 : Int)) < Int.ofNat n) ∧
    jv_Ca jv_T jv_ml kX_copy [jv_P 1, jv_I (g 0 (v3 + (1 : Int))), jv_I (g 0 (v3 + (2 : Int))), jv_I (g 0 (v3 + (3 : Int))), jv_I (g 0 (v3 + (4 : Int))), jv_I (g 0 (v3 + (5 : Int)))] (LL n l) g (fun r L2 g2 => jv_At jv_T jv_ml kLaw_law 962 [jv_P 0, jv_P 1, jv_P 136, jv_I v3] (jv_pu r []) L2 g2 Q)) :
  jv_At jv_T jv_ml kLaw_law 933 [jv_P 0, jv_P 1, jv_P 136, jv_I v3] [] (LL n l) g Q :=
  jv_of_wp jg_nil (md := []) (stop := [18, 176, 229, 262, 295, 318, 361, 394, 427, 460, 483, 506, 529, 552, 575, 598, 641, 664, 697, 710, 733, 767, 780, 823, 846, 889, 933, 996, 1019, 1042, 1075, 1088, 1101, 1124]) (tab := jt_Law_law) rfl 400 _ _ _ _ _ h
set_option maxRecDepth 100000 in
theorem sg_Law_law_962 {n l : Nat} {g : jv_S} {Q : jv_V → jv_L → jv_S → Prop} {v3 s0 : Int} (h :
   jv_r32 (v3 + (1 : Int)) ∧
    (0 ≤ (v3 + (1 : Int)) ∧ (v3 + (1 : Int)) < Int.ofNat n) ∧
    jv_r32 (v3 + (2 : Int)) ∧
    (0 ≤ (v3 + (2 : Int)) ∧ (v3 + (2 : Int)) < Int.ofNat n) ∧
    jv_r32 (v3 + (3 : Int)) ∧
    (0 ≤ (v3 + (3 : Int)) ∧ (v3 + (3 : Int)) < Int.ofNat n) ∧
    jv_r32 (v3 + (4 : Int)) ∧
    (0 ≤ (v3 + (4 : Int)) ∧ (v3 + (4 : Int)) < Int.ofNat n) ∧
    jv_r32 (v3 + (5 : Int)) ∧
    (0 ≤ (v3 + (5 : Int)) ∧ (v3 + (5 : Int)) < Int.ofNat n) ∧
    jv_Ca jv_T jv_ml kY_copy [jv_P 136, jv_I (g 0 (v3 + (1 : Int))), jv_I (g 0 (v3 + (2 : Int))), jv_I (g 0 (v3 + (3 : Int))), jv_I (g 0 (v3 + (4 : Int))), jv_I (g 0 (v3 + (5 : Int)))] (LL n l) g (fun r L2 g2 => jv_At jv_T jv_ml kLaw_law 991 [jv_P 0, jv_P 1, jv_P 136, jv_I v3] (jv_pu r [jv_I s0]) L2 g2 Q)) :
  jv_At jv_T jv_ml kLaw_law 962 [jv_P 0, jv_P 1, jv_P 136, jv_I v3] [jv_I s0] (LL n l) g Q :=
  jv_of_wp jg_nil (md := []) (stop := [18, 176, 229, 262, 295, 318, 361, 394, 427, 460, 483, 506, 529, 552, 575, 598, 641, 664, 697, 710, 733, 767, 780, 823, 846, 889, 933, 996, 1019, 1042, 1075, 1088, 1101, 1124]) (tab := jt_Law_law) rfl 400 _ _ _ _ _ h
set_option maxRecDepth 100000 in
theorem sg_Law_law_991 {n l : Nat} {g : jv_S} {Q : jv_V → jv_L → jv_S → Prop} {v3 s0 s1 : Int} (h :
   (s0 = s1 →
     jv_At jv_T jv_ml kLaw_law 1124 [jv_P 0, jv_P 1, jv_P 136, jv_I v3] [] (LL n l) g Q) ∧
    (¬ s0 = s1 →
     ((0 : Int) = 0 ∨ (0 : Int) = 1) ∧ Q (jv_I (0 : Int)) (LL n l) g)) :
  jv_At jv_T jv_ml kLaw_law 991 [jv_P 0, jv_P 1, jv_P 136, jv_I v3] [jv_I s1, jv_I s0] (LL n l) g Q :=
  jv_of_wp jg_nil (md := []) (stop := [18, 176, 229, 262, 295, 318, 361, 394, 427, 460, 483, 506, 529, 552, 575, 598, 641, 664, 697, 710, 733, 767, 780, 823, 846, 889, 933, 996, 1019, 1042, 1075, 1088, 1101, 1124]) (tab := jt_Law_law) rfl 400 _ _ _ _ _ h
set_option maxRecDepth 100000 in
theorem sg_Law_law_996 {n l : Nat} {g : jv_S} {Q : jv_V → jv_L → jv_S → Prop} {v3 : Int} (h :
   jv_r32 (v3 + (1 : Int)) ∧
    (0 ≤ (v3 + (1 : Int)) ∧ (v3 + (1 : Int)) < Int.ofNat n) ∧
    jv_Ca jv_T jv_ml kX_tell [jv_P 1, jv_I (g 0 (v3 + (1 : Int)))] (LL n l) g (fun r L2 g2 => jv_At jv_T jv_ml kLaw_law 1005 [jv_P 0, jv_P 1, jv_P 136, jv_I v3] (jv_pu r []) L2 g2 Q)) :
  jv_At jv_T jv_ml kLaw_law 996 [jv_P 0, jv_P 1, jv_P 136, jv_I v3] [] (LL n l) g Q :=
  jv_of_wp jg_nil (md := []) (stop := [18, 176, 229, 262, 295, 318, 361, 394, 427, 460, 483, 506, 529, 552, 575, 598, 641, 664, 697, 710, 733, 767, 780, 823, 846, 889, 933, 996, 1019, 1042, 1075, 1088, 1101, 1124]) (tab := jt_Law_law) rfl 400 _ _ _ _ _ h
set_option maxRecDepth 100000 in
theorem sg_Law_law_1005 {n l : Nat} {g : jv_S} {Q : jv_V → jv_L → jv_S → Prop} {v3 s0 : Int} (h :
   jv_r32 (v3 + (1 : Int)) ∧
    (0 ≤ (v3 + (1 : Int)) ∧ (v3 + (1 : Int)) < Int.ofNat n) ∧
    jv_Ca jv_T jv_ml kY_tell [jv_P 136, jv_I (g 0 (v3 + (1 : Int)))] (LL n l) g (fun r L2 g2 => jv_At jv_T jv_ml kLaw_law 1014 [jv_P 0, jv_P 1, jv_P 136, jv_I v3] (jv_pu r [jv_I s0]) L2 g2 Q)) :
  jv_At jv_T jv_ml kLaw_law 1005 [jv_P 0, jv_P 1, jv_P 136, jv_I v3] [jv_I s0] (LL n l) g Q :=
  jv_of_wp jg_nil (md := []) (stop := [18, 176, 229, 262, 295, 318, 361, 394, 427, 460, 483, 506, 529, 552, 575, 598, 641, 664, 697, 710, 733, 767, 780, 823, 846, 889, 933, 996, 1019, 1042, 1075, 1088, 1101, 1124]) (tab := jt_Law_law) rfl 400 _ _ _ _ _ h
set_option maxRecDepth 100000 in
theorem sg_Law_law_1014 {n l : Nat} {g : jv_S} {Q : jv_V → jv_L → jv_S → Prop} {v3 s0 s1 : Int} (h :
   (s0 = s1 →
     jv_At jv_T jv_ml kLaw_law 1124 [jv_P 0, jv_P 1, jv_P 136, jv_I v3] [] (LL n l) g Q) ∧
    (¬ s0 = s1 →
     ((0 : Int) = 0 ∨ (0 : Int) = 1) ∧ Q (jv_I (0 : Int)) (LL n l) g)) :
  jv_At jv_T jv_ml kLaw_law 1014 [jv_P 0, jv_P 1, jv_P 136, jv_I v3] [jv_I s1, jv_I s0] (LL n l) g Q :=
  jv_of_wp jg_nil (md := []) (stop := [18, 176, 229, 262, 295, 318, 361, 394, 427, 460, 483, 506, 529, 552, 575, 598, 641, 664, 697, 710, 733, 767, 780, 823, 846, 889, 933, 996, 1019, 1042, 1075, 1088, 1101, 1124]) (tab := jt_Law_law) rfl 400 _ _ _ _ _ h
set_option maxRecDepth 100000 in
theorem sg_Law_law_1019 {n l : Nat} {g : jv_S} {Q : jv_V → jv_L → jv_S → Prop} {v3 : Int} (h :
   jv_r32 (v3 + (1 : Int)) ∧
    (0 ≤ (v3 + (1 : Int)) ∧ (v3 + (1 : Int)) < Int.ofNat n) ∧
    jv_Ca jv_T jv_ml kX_stamp [jv_P 1, jv_I (g 0 (v3 + (1 : Int)))] (LL n l) g (fun r L2 g2 => jv_At jv_T jv_ml kLaw_law 1028 [jv_P 0, jv_P 1, jv_P 136, jv_I v3] (jv_pu r []) L2 g2 Q)) :
  jv_At jv_T jv_ml kLaw_law 1019 [jv_P 0, jv_P 1, jv_P 136, jv_I v3] [] (LL n l) g Q :=
  jv_of_wp jg_nil (md := []) (stop := [18, 176, 229, 262, 295, 318, 361, 394, 427, 460, 483, 506, 529, 552, 575, 598, 641, 664, 697, 710, 733, 767, 780, 823, 846, 889, 933, 996, 1019, 1042, 1075, 1088, 1101, 1124]) (tab := jt_Law_law) rfl 400 _ _ _ _ _ h
set_option maxRecDepth 100000 in
theorem sg_Law_law_1028 {n l : Nat} {g : jv_S} {Q : jv_V → jv_L → jv_S → Prop} {v3 s0 : Int} (h :
   jv_r32 (v3 + (1 : Int)) ∧
    (0 ≤ (v3 + (1 : Int)) ∧ (v3 + (1 : Int)) < Int.ofNat n) ∧
    jv_Ca jv_T jv_ml kY_stamp [jv_P 136, jv_I (g 0 (v3 + (1 : Int)))] (LL n l) g (fun r L2 g2 => jv_At jv_T jv_ml kLaw_law 1037 [jv_P 0, jv_P 1, jv_P 136, jv_I v3] (jv_pu r [jv_I s0]) L2 g2 Q)) :
  jv_At jv_T jv_ml kLaw_law 1028 [jv_P 0, jv_P 1, jv_P 136, jv_I v3] [jv_I s0] (LL n l) g Q :=
  jv_of_wp jg_nil (md := []) (stop := [18, 176, 229, 262, 295, 318, 361, 394, 427, 460, 483, 506, 529, 552, 575, 598, 641, 664, 697, 710, 733, 767, 780, 823, 846, 889, 933, 996, 1019, 1042, 1075, 1088, 1101, 1124]) (tab := jt_Law_law) rfl 400 _ _ _ _ _ h
set_option maxRecDepth 100000 in
theorem sg_Law_law_1037 {n l : Nat} {g : jv_S} {Q : jv_V → jv_L → jv_S → Prop} {v3 s0 s1 : Int} (h :
   (s0 = s1 →
     jv_At jv_T jv_ml kLaw_law 1124 [jv_P 0, jv_P 1, jv_P 136, jv_I v3] [] (LL n l) g Q) ∧
    (¬ s0 = s1 →
     ((0 : Int) = 0 ∨ (0 : Int) = 1) ∧ Q (jv_I (0 : Int)) (LL n l) g)) :
  jv_At jv_T jv_ml kLaw_law 1037 [jv_P 0, jv_P 1, jv_P 136, jv_I v3] [jv_I s1, jv_I s0] (LL n l) g Q :=
  jv_of_wp jg_nil (md := []) (stop := [18, 176, 229, 262, 295, 318, 361, 394, 427, 460, 483, 506, 529, 552, 575, 598, 641, 664, 697, 710, 733, 767, 780, 823, 846, 889, 933, 996, 1019, 1042, 1075, 1088, 1101, 1124]) (tab := jt_Law_law) rfl 400 _ _ _ _ _ h
set_option maxRecDepth 100000 in
theorem sg_Law_law_1042 {n l : Nat} {g : jv_S} {Q : jv_V → jv_L → jv_S → Prop} {v3 : Int} (h :
   jv_r32 (v3 + (1 : Int)) ∧
    (0 ≤ (v3 + (1 : Int)) ∧ (v3 + (1 : Int)) < Int.ofNat n) ∧
    jv_r32 (v3 + (2 : Int)) ∧
    (0 ≤ (v3 + (2 : Int)) ∧ (v3 + (2 : Int)) < Int.ofNat n) ∧
    jv_Ca jv_T jv_ml kX_as [jv_P 1, jv_I (g 0 (v3 + (1 : Int))), jv_I (g 0 (v3 + (2 : Int)))] (LL n l) g (fun r L2 g2 => jv_At jv_T jv_ml kLaw_law 1056 [jv_P 0, jv_P 1, jv_P 136, jv_I v3] (jv_pu r []) L2 g2 Q)) :
  jv_At jv_T jv_ml kLaw_law 1042 [jv_P 0, jv_P 1, jv_P 136, jv_I v3] [] (LL n l) g Q :=
  jv_of_wp jg_nil (md := []) (stop := [18, 176, 229, 262, 295, 318, 361, 394, 427, 460, 483, 506, 529, 552, 575, 598, 641, 664, 697, 710, 733, 767, 780, 823, 846, 889, 933, 996, 1019, 1042, 1075, 1088, 1101, 1124]) (tab := jt_Law_law) rfl 400 _ _ _ _ _ h
set_option maxRecDepth 100000 in
theorem sg_Law_law_1056 {n l : Nat} {g : jv_S} {Q : jv_V → jv_L → jv_S → Prop} {v3 s0 : Int} (h :
   jv_r32 (v3 + (1 : Int)) ∧
    (0 ≤ (v3 + (1 : Int)) ∧ (v3 + (1 : Int)) < Int.ofNat n) ∧
    jv_r32 (v3 + (2 : Int)) ∧
    (0 ≤ (v3 + (2 : Int)) ∧ (v3 + (2 : Int)) < Int.ofNat n) ∧
    jv_Ca jv_T jv_ml kY_as [jv_P 136, jv_I (g 0 (v3 + (1 : Int))), jv_I (g 0 (v3 + (2 : Int)))] (LL n l) g (fun r L2 g2 => jv_At jv_T jv_ml kLaw_law 1070 [jv_P 0, jv_P 1, jv_P 136, jv_I v3] (jv_pu r [jv_I s0]) L2 g2 Q)) :
  jv_At jv_T jv_ml kLaw_law 1056 [jv_P 0, jv_P 1, jv_P 136, jv_I v3] [jv_I s0] (LL n l) g Q :=
  jv_of_wp jg_nil (md := []) (stop := [18, 176, 229, 262, 295, 318, 361, 394, 427, 460, 483, 506, 529, 552, 575, 598, 641, 664, 697, 710, 733, 767, 780, 823, 846, 889, 933, 996, 1019, 1042, 1075, 1088, 1101, 1124]) (tab := jt_Law_law) rfl 400 _ _ _ _ _ h
set_option maxRecDepth 100000 in
theorem sg_Law_law_1070 {n l : Nat} {g : jv_S} {Q : jv_V → jv_L → jv_S → Prop} {v3 s0 s1 : Int} (h :
   (s0 = s1 →
     jv_At jv_T jv_ml kLaw_law 1124 [jv_P 0, jv_P 1, jv_P 136, jv_I v3] [] (LL n l) g Q) ∧
    (¬ s0 = s1 →
     ((0 : Int) = 0 ∨ (0 : Int) = 1) ∧ Q (jv_I (0 : Int)) (LL n l) g)) :
  jv_At jv_T jv_ml kLaw_law 1070 [jv_P 0, jv_P 1, jv_P 136, jv_I v3] [jv_I s1, jv_I s0] (LL n l) g Q :=
  jv_of_wp jg_nil (md := []) (stop := [18, 176, 229, 262, 295, 318, 361, 394, 427, 460, 483, 506, 529, 552, 575, 598, 641, 664, 697, 710, 733, 767, 780, 823, 846, 889, 933, 996, 1019, 1042, 1075, 1088, 1101, 1124]) (tab := jt_Law_law) rfl 400 _ _ _ _ _ h
set_option maxRecDepth 100000 in
theorem sg_Law_law_1075 {n l : Nat} {g : jv_S} {Q : jv_V → jv_L → jv_S → Prop} {v3 : Int} (h :
   jv_Ca jv_T jv_ml kX_trace [jv_P 1] (LL n l) g (fun r L2 g2 => jv_At jv_T jv_ml kLaw_law 1079 [jv_P 0, jv_P 1, jv_P 136, jv_I v3] (jv_pu r []) L2 g2 Q)) :
  jv_At jv_T jv_ml kLaw_law 1075 [jv_P 0, jv_P 1, jv_P 136, jv_I v3] [] (LL n l) g Q :=
  jv_of_wp jg_nil (md := []) (stop := [18, 176, 229, 262, 295, 318, 361, 394, 427, 460, 483, 506, 529, 552, 575, 598, 641, 664, 697, 710, 733, 767, 780, 823, 846, 889, 933, 996, 1019, 1042, 1075, 1088, 1101, 1124]) (tab := jt_Law_law) rfl 400 _ _ _ _ _ h
set_option maxRecDepth 100000 in
theorem sg_Law_law_1079 {n l : Nat} {g : jv_S} {Q : jv_V → jv_L → jv_S → Prop} {v3 s0 : Int} (h :
   jv_Ca jv_T jv_ml kY_trace [jv_P 136] (LL n l) g (fun r L2 g2 => jv_At jv_T jv_ml kLaw_law 1083 [jv_P 0, jv_P 1, jv_P 136, jv_I v3] (jv_pu r [jv_I s0]) L2 g2 Q)) :
  jv_At jv_T jv_ml kLaw_law 1079 [jv_P 0, jv_P 1, jv_P 136, jv_I v3] [jv_I s0] (LL n l) g Q :=
  jv_of_wp jg_nil (md := []) (stop := [18, 176, 229, 262, 295, 318, 361, 394, 427, 460, 483, 506, 529, 552, 575, 598, 641, 664, 697, 710, 733, 767, 780, 823, 846, 889, 933, 996, 1019, 1042, 1075, 1088, 1101, 1124]) (tab := jt_Law_law) rfl 400 _ _ _ _ _ h
set_option maxRecDepth 100000 in
theorem sg_Law_law_1083 {n l : Nat} {g : jv_S} {Q : jv_V → jv_L → jv_S → Prop} {v3 s0 s1 : Int} (h :
   (s0 = s1 →
     jv_At jv_T jv_ml kLaw_law 1124 [jv_P 0, jv_P 1, jv_P 136, jv_I v3] [] (LL n l) g Q) ∧
    (¬ s0 = s1 →
     ((0 : Int) = 0 ∨ (0 : Int) = 1) ∧ Q (jv_I (0 : Int)) (LL n l) g)) :
  jv_At jv_T jv_ml kLaw_law 1083 [jv_P 0, jv_P 1, jv_P 136, jv_I v3] [jv_I s1, jv_I s0] (LL n l) g Q :=
  jv_of_wp jg_nil (md := []) (stop := [18, 176, 229, 262, 295, 318, 361, 394, 427, 460, 483, 506, 529, 552, 575, 598, 641, 664, 697, 710, 733, 767, 780, 823, 846, 889, 933, 996, 1019, 1042, 1075, 1088, 1101, 1124]) (tab := jt_Law_law) rfl 400 _ _ _ _ _ h
set_option maxRecDepth 100000 in
theorem sg_Law_law_1088 {n l : Nat} {g : jv_S} {Q : jv_V → jv_L → jv_S → Prop} {v3 : Int} (h :
   jv_Ca jv_T jv_ml kX_fault [jv_P 1] (LL n l) g (fun r L2 g2 => jv_At jv_T jv_ml kLaw_law 1092 [jv_P 0, jv_P 1, jv_P 136, jv_I v3] (jv_pu r []) L2 g2 Q)) :
  jv_At jv_T jv_ml kLaw_law 1088 [jv_P 0, jv_P 1, jv_P 136, jv_I v3] [] (LL n l) g Q :=
  jv_of_wp jg_nil (md := []) (stop := [18, 176, 229, 262, 295, 318, 361, 394, 427, 460, 483, 506, 529, 552, 575, 598, 641, 664, 697, 710, 733, 767, 780, 823, 846, 889, 933, 996, 1019, 1042, 1075, 1088, 1101, 1124]) (tab := jt_Law_law) rfl 400 _ _ _ _ _ h
set_option maxRecDepth 100000 in
theorem sg_Law_law_1092 {n l : Nat} {g : jv_S} {Q : jv_V → jv_L → jv_S → Prop} {v3 s0 : Int} (h :
   jv_Ca jv_T jv_ml kY_fault [jv_P 136] (LL n l) g (fun r L2 g2 => jv_At jv_T jv_ml kLaw_law 1096 [jv_P 0, jv_P 1, jv_P 136, jv_I v3] (jv_pu r [jv_I s0]) L2 g2 Q)) :
  jv_At jv_T jv_ml kLaw_law 1092 [jv_P 0, jv_P 1, jv_P 136, jv_I v3] [jv_I s0] (LL n l) g Q :=
  jv_of_wp jg_nil (md := []) (stop := [18, 176, 229, 262, 295, 318, 361, 394, 427, 460, 483, 506, 529, 552, 575, 598, 641, 664, 697, 710, 733, 767, 780, 823, 846, 889, 933, 996, 1019, 1042, 1075, 1088, 1101, 1124]) (tab := jt_Law_law) rfl 400 _ _ _ _ _ h
set_option maxRecDepth 100000 in
theorem sg_Law_law_1096 {n l : Nat} {g : jv_S} {Q : jv_V → jv_L → jv_S → Prop} {v3 s0 s1 : Int} (h :
   (s0 = s1 →
     jv_At jv_T jv_ml kLaw_law 1124 [jv_P 0, jv_P 1, jv_P 136, jv_I v3] [] (LL n l) g Q) ∧
    (¬ s0 = s1 →
     ((0 : Int) = 0 ∨ (0 : Int) = 1) ∧ Q (jv_I (0 : Int)) (LL n l) g)) :
  jv_At jv_T jv_ml kLaw_law 1096 [jv_P 0, jv_P 1, jv_P 136, jv_I v3] [jv_I s1, jv_I s0] (LL n l) g Q :=
  jv_of_wp jg_nil (md := []) (stop := [18, 176, 229, 262, 295, 318, 361, 394, 427, 460, 483, 506, 529, 552, 575, 598, 641, 664, 697, 710, 733, 767, 780, 823, 846, 889, 933, 996, 1019, 1042, 1075, 1088, 1101, 1124]) (tab := jt_Law_law) rfl 400 _ _ _ _ _ h
set_option maxRecDepth 100000 in
theorem sg_Law_law_1101 {n l : Nat} {g : jv_S} {Q : jv_V → jv_L → jv_S → Prop} {v3 : Int} (h :
   jv_r32 (v3 + (1 : Int)) ∧
    (0 ≤ (v3 + (1 : Int)) ∧ (v3 + (1 : Int)) < Int.ofNat n) ∧
    jv_Ca jv_T jv_ml kX_many [jv_P 1, jv_I (g 0 (v3 + (1 : Int)))] (LL n l) g (fun r L2 g2 => jv_At jv_T jv_ml kLaw_law 1110 [jv_P 0, jv_P 1, jv_P 136, jv_I v3] (jv_pu r []) L2 g2 Q)) :
  jv_At jv_T jv_ml kLaw_law 1101 [jv_P 0, jv_P 1, jv_P 136, jv_I v3] [] (LL n l) g Q :=
  jv_of_wp jg_nil (md := []) (stop := [18, 176, 229, 262, 295, 318, 361, 394, 427, 460, 483, 506, 529, 552, 575, 598, 641, 664, 697, 710, 733, 767, 780, 823, 846, 889, 933, 996, 1019, 1042, 1075, 1088, 1101, 1124]) (tab := jt_Law_law) rfl 400 _ _ _ _ _ h
set_option maxRecDepth 100000 in
theorem sg_Law_law_1110 {n l : Nat} {g : jv_S} {Q : jv_V → jv_L → jv_S → Prop} {v3 s0 : Int} (h :
   jv_r32 (v3 + (1 : Int)) ∧
    (0 ≤ (v3 + (1 : Int)) ∧ (v3 + (1 : Int)) < Int.ofNat n) ∧
    jv_Ca jv_T jv_ml kY_many [jv_P 136, jv_I (g 0 (v3 + (1 : Int)))] (LL n l) g (fun r L2 g2 => jv_At jv_T jv_ml kLaw_law 1119 [jv_P 0, jv_P 1, jv_P 136, jv_I v3] (jv_pu r [jv_I s0]) L2 g2 Q)) :
  jv_At jv_T jv_ml kLaw_law 1110 [jv_P 0, jv_P 1, jv_P 136, jv_I v3] [jv_I s0] (LL n l) g Q :=
  jv_of_wp jg_nil (md := []) (stop := [18, 176, 229, 262, 295, 318, 361, 394, 427, 460, 483, 506, 529, 552, 575, 598, 641, 664, 697, 710, 733, 767, 780, 823, 846, 889, 933, 996, 1019, 1042, 1075, 1088, 1101, 1124]) (tab := jt_Law_law) rfl 400 _ _ _ _ _ h
set_option maxRecDepth 100000 in
theorem sg_Law_law_1119 {n l : Nat} {g : jv_S} {Q : jv_V → jv_L → jv_S → Prop} {v3 s0 s1 : Int} (h :
   (s0 = s1 →
     jv_At jv_T jv_ml kLaw_law 1124 [jv_P 0, jv_P 1, jv_P 136, jv_I v3] [] (LL n l) g Q) ∧
    (¬ s0 = s1 →
     ((0 : Int) = 0 ∨ (0 : Int) = 1) ∧ Q (jv_I (0 : Int)) (LL n l) g)) :
  jv_At jv_T jv_ml kLaw_law 1119 [jv_P 0, jv_P 1, jv_P 136, jv_I v3] [jv_I s1, jv_I s0] (LL n l) g Q :=
  jv_of_wp jg_nil (md := []) (stop := [18, 176, 229, 262, 295, 318, 361, 394, 427, 460, 483, 506, 529, 552, 575, 598, 641, 664, 697, 710, 733, 767, 780, 823, 846, 889, 933, 996, 1019, 1042, 1075, 1088, 1101, 1124]) (tab := jt_Law_law) rfl 400 _ _ _ _ _ h
set_option maxRecDepth 100000 in
theorem sg_Law_law_1124 {n l : Nat} {g : jv_S} {Q : jv_V → jv_L → jv_S → Prop} {v3 : Int} (h :
   jv_r32 (v3 + (6 : Int)) ∧
    jv_At jv_T jv_ml kLaw_law 18 [jv_P 0, jv_P 1, jv_P 136, jv_I (v3 + (6 : Int))] [] (LL n l) g Q) :
  jv_At jv_T jv_ml kLaw_law 1124 [jv_P 0, jv_P 1, jv_P 136, jv_I v3] [] (LL n l) g Q :=
  jv_of_wp jg_nil (md := []) (stop := [18, 176, 229, 262, 295, 318, 361, 394, 427, 460, 483, 506, 529, 552, 575, 598, 641, 664, 697, 710, 733, 767, 780, 823, 846, 889, 933, 996, 1019, 1042, 1075, 1088, 1101, 1124]) (tab := jt_Law_law) rfl 400 _ _ _ _ _ h
theorem cmp_self (v : Int) : jv_cmp v v = 0 := by
  unfold jv_cmp
  rw [if_neg (by omega), if_pos rfl]
theorem IV_t {s : Int → Int} {l t : Nat} {g : jv_S} (h : IV s l t g) (ht : t < 64) : IV s l (t + 1) g := by
  obtain ⟨h0, A, B, S, tr, fl, rb, hP, hC, hM⟩ := h
  exact ⟨h0, A, B, S, tr, fl, rb, PW_t hP ht, IC_t hC, hM⟩
theorem lc_net {s : Int → Int} {n l t : Nat} {g : jv_S} {Q : jv_V → jv_L → jv_S → Prop} {v3 : Int} (hs : ∀ j, jv_r32 (s j)) (h : IV s l t g) (ht : t < 64) (h3 : 0 ≤ v3 ∧ v3 + 6 ≤ Int.ofNat n) (hn : Int.ofNat n ≤ 384) (hQ : ∀ (l' : Nat) (g' : jv_S), IV s l' (t + 1) g' → jv_At jv_T jv_ml kLaw_law 1124 [jv_P 0, jv_P 1, jv_P 136, jv_I v3] [] (LL n l') g' Q) : jv_At jv_T jv_ml kLaw_law 176 [jv_P 0, jv_P 1, jv_P 136, jv_I v3] [] (LL n l) g Q := by
  have h0 := h.1
  apply sg_Law_law_176
  simp only [h0]
  refine ⟨⟨by omega, by omega⟩, ⟨by omega, by omega⟩, ⟨by omega, by omega⟩, ⟨by omega, by omega⟩, ⟨by omega, by omega⟩, ⟨by omega, by omega⟩, ⟨by omega, by omega⟩, ⟨by omega, by omega⟩, ?_⟩
  refine jv_At.mono (st_net h ht) (fun r L g1 e => ?_)
  obtain ⟨v, l1, e1, e2, h01, hy⟩ := e
  subst e1 e2
  apply sg_Law_law_200
  simp only [h01]
  refine ⟨⟨by omega, by omega⟩, ⟨by omega, by omega⟩, ⟨by omega, by omega⟩, ⟨by omega, by omega⟩, ⟨by omega, by omega⟩, ⟨by omega, by omega⟩, ⟨by omega, by omega⟩, ⟨by omega, by omega⟩, ?_⟩
  refine jv_At.mono hy (fun r2 L2 g2 e => ?_)
  obtain ⟨e3, e4, h5⟩ := e
  subst e3 e4
  apply sg_Law_law_224
  exact ⟨fun _ => hQ l1 g2 h5, fun h' => absurd rfl h'⟩
theorem lc_ofLane {s : Int → Int} {n l t : Nat} {g : jv_S} {Q : jv_V → jv_L → jv_S → Prop} {v3 : Int} (hs : ∀ j, jv_r32 (s j)) (h : IV s l t g) (ht : t < 64) (h3 : 0 ≤ v3 ∧ v3 + 6 ≤ Int.ofNat n) (hn : Int.ofNat n ≤ 384) (hQ : ∀ (l' : Nat) (g' : jv_S), IV s l' (t + 1) g' → jv_At jv_T jv_ml kLaw_law 1124 [jv_P 0, jv_P 1, jv_P 136, jv_I v3] [] (LL n l') g' Q) : jv_At jv_T jv_ml kLaw_law 229 [jv_P 0, jv_P 1, jv_P 136, jv_I v3] [] (LL n l) g Q := by
  have h0 := h.1
  apply sg_Law_law_229
  simp only [h0]
  refine ⟨⟨by omega, by omega⟩, ⟨by omega, by omega⟩, ⟨by omega, by omega⟩, ⟨by omega, by omega⟩, ?_⟩
  refine jv_At.mono (st_ofLane h ht (hs _)) (fun r L g1 e => ?_)
  obtain ⟨v, l1, e1, e2, h01, hy⟩ := e
  subst e1 e2
  apply sg_Law_law_243
  simp only [h01]
  refine ⟨⟨by omega, by omega⟩, ⟨by omega, by omega⟩, ⟨by omega, by omega⟩, ⟨by omega, by omega⟩, ?_⟩
  refine jv_At.mono hy (fun r2 L2 g2 e => ?_)
  obtain ⟨e3, e4, h5⟩ := e
  subst e3 e4
  apply sg_Law_law_257
  exact ⟨fun _ => hQ l1 g2 h5, fun h' => absurd rfl h'⟩
theorem lc_far {s : Int → Int} {n l t : Nat} {g : jv_S} {Q : jv_V → jv_L → jv_S → Prop} {v3 : Int} (hs : ∀ j, jv_r32 (s j)) (h : IV s l t g) (ht : t < 64) (h3 : 0 ≤ v3 ∧ v3 + 6 ≤ Int.ofNat n) (hn : Int.ofNat n ≤ 384) (hQ : ∀ (l' : Nat) (g' : jv_S), IV s l' (t + 1) g' → jv_At jv_T jv_ml kLaw_law 1124 [jv_P 0, jv_P 1, jv_P 136, jv_I v3] [] (LL n l') g' Q) : jv_At jv_T jv_ml kLaw_law 262 [jv_P 0, jv_P 1, jv_P 136, jv_I v3] [] (LL n l) g Q := by
  have h0 := h.1
  apply sg_Law_law_262
  simp only [h0]
  refine ⟨⟨by omega, by omega⟩, ⟨by omega, by omega⟩, ⟨by omega, by omega⟩, ⟨by omega, by omega⟩, ?_⟩
  refine jv_At.mono (st_far h ht) (fun r L g1 e => ?_)
  obtain ⟨v, l1, e1, e2, h01, hy⟩ := e
  subst e1 e2
  apply sg_Law_law_276
  simp only [h01]
  refine ⟨⟨by omega, by omega⟩, ⟨by omega, by omega⟩, ⟨by omega, by omega⟩, ⟨by omega, by omega⟩, ?_⟩
  refine jv_At.mono hy (fun r2 L2 g2 e => ?_)
  obtain ⟨e3, e4, h5⟩ := e
  subst e3 e4
  apply sg_Law_law_290
  exact ⟨fun _ => hQ l1 g2 h5, fun h' => absurd rfl h'⟩
theorem lc_rule {s : Int → Int} {n l t : Nat} {g : jv_S} {Q : jv_V → jv_L → jv_S → Prop} {v3 : Int} (hs : ∀ j, jv_r32 (s j)) (h : IV s l t g) (ht : t < 64) (h3 : 0 ≤ v3 ∧ v3 + 6 ≤ Int.ofNat n) (hn : Int.ofNat n ≤ 384) (hQ : ∀ (l' : Nat) (g' : jv_S), IV s l' (t + 1) g' → jv_At jv_T jv_ml kLaw_law 1124 [jv_P 0, jv_P 1, jv_P 136, jv_I v3] [] (LL n l') g' Q) : jv_At jv_T jv_ml kLaw_law 295 [jv_P 0, jv_P 1, jv_P 136, jv_I v3] [] (LL n l) g Q := by
  have h0 := h.1
  apply sg_Law_law_295
  simp only [h0]
  refine ⟨⟨by omega, by omega⟩, ⟨by omega, by omega⟩, ?_⟩
  refine jv_At.mono (st_rule h ht) (fun r L g1 e => ?_)
  obtain ⟨v, l1, e1, e2, h01, hy⟩ := e
  subst e1 e2
  apply sg_Law_law_304
  simp only [h01]
  refine ⟨⟨by omega, by omega⟩, ⟨by omega, by omega⟩, ?_⟩
  refine jv_At.mono hy (fun r2 L2 g2 e => ?_)
  obtain ⟨e3, e4, h5⟩ := e
  subst e3 e4
  apply sg_Law_law_313
  exact ⟨fun _ => hQ l1 g2 h5, fun h' => absurd rfl h'⟩
theorem lc_bar {s : Int → Int} {n l t : Nat} {g : jv_S} {Q : jv_V → jv_L → jv_S → Prop} {v3 : Int} (hs : ∀ j, jv_r32 (s j)) (h : IV s l t g) (ht : t < 64) (h3 : 0 ≤ v3 ∧ v3 + 6 ≤ Int.ofNat n) (hn : Int.ofNat n ≤ 384) (hQ : ∀ (l' : Nat) (g' : jv_S), IV s l' (t + 1) g' → jv_At jv_T jv_ml kLaw_law 1124 [jv_P 0, jv_P 1, jv_P 136, jv_I v3] [] (LL n l') g' Q) : jv_At jv_T jv_ml kLaw_law 318 [jv_P 0, jv_P 1, jv_P 136, jv_I v3] [] (LL n l) g Q := by
  have h0 := h.1
  apply sg_Law_law_318
  simp only [h0]
  refine ⟨⟨by omega, by omega⟩, ⟨by omega, by omega⟩, ⟨by omega, by omega⟩, ⟨by omega, by omega⟩, ⟨by omega, by omega⟩, ⟨by omega, by omega⟩, ?_⟩
  refine jv_At.mono (st_bar h ht) (fun r L g1 e => ?_)
  obtain ⟨v, l1, e1, e2, h01, hy⟩ := e
  subst e1 e2
  apply sg_Law_law_337
  simp only [h01]
  refine ⟨⟨by omega, by omega⟩, ⟨by omega, by omega⟩, ⟨by omega, by omega⟩, ⟨by omega, by omega⟩, ⟨by omega, by omega⟩, ⟨by omega, by omega⟩, ?_⟩
  refine jv_At.mono hy (fun r2 L2 g2 e => ?_)
  obtain ⟨e3, e4, h5⟩ := e
  subst e3 e4
  apply sg_Law_law_356
  exact ⟨fun _ => hQ l1 g2 h5, fun h' => absurd rfl h'⟩
theorem lc_may {s : Int → Int} {n l t : Nat} {g : jv_S} {Q : jv_V → jv_L → jv_S → Prop} {v3 : Int} (hs : ∀ j, jv_r32 (s j)) (h : IV s l t g) (ht : t < 64) (h3 : 0 ≤ v3 ∧ v3 + 6 ≤ Int.ofNat n) (hn : Int.ofNat n ≤ 384) (hQ : ∀ (l' : Nat) (g' : jv_S), IV s l' (t + 1) g' → jv_At jv_T jv_ml kLaw_law 1124 [jv_P 0, jv_P 1, jv_P 136, jv_I v3] [] (LL n l') g' Q) : jv_At jv_T jv_ml kLaw_law 361 [jv_P 0, jv_P 1, jv_P 136, jv_I v3] [] (LL n l) g Q := by
  have h0 := h.1
  apply sg_Law_law_361
  simp only [h0]
  refine ⟨⟨by omega, by omega⟩, ⟨by omega, by omega⟩, ⟨by omega, by omega⟩, ⟨by omega, by omega⟩, ?_⟩
  refine jv_At.mono (st_may h ht) (fun r L g1 e => ?_)
  obtain ⟨v, l1, e1, e2, h01, hy⟩ := e
  subst e1 e2
  apply sg_Law_law_375
  simp only [h01]
  refine ⟨⟨by omega, by omega⟩, ⟨by omega, by omega⟩, ⟨by omega, by omega⟩, ⟨by omega, by omega⟩, ?_⟩
  refine jv_At.mono hy (fun r2 L2 g2 e => ?_)
  obtain ⟨e3, e4, h5⟩ := e
  subst e3 e4
  apply sg_Law_law_389
  exact ⟨fun _ => hQ l1 g2 h5, fun h' => absurd rfl h'⟩
theorem lc_out {s : Int → Int} {n l t : Nat} {g : jv_S} {Q : jv_V → jv_L → jv_S → Prop} {v3 : Int} (hs : ∀ j, jv_r32 (s j)) (h : IV s l t g) (ht : t < 64) (h3 : 0 ≤ v3 ∧ v3 + 6 ≤ Int.ofNat n) (hn : Int.ofNat n ≤ 384) (hQ : ∀ (l' : Nat) (g' : jv_S), IV s l' (t + 1) g' → jv_At jv_T jv_ml kLaw_law 1124 [jv_P 0, jv_P 1, jv_P 136, jv_I v3] [] (LL n l') g' Q) : jv_At jv_T jv_ml kLaw_law 394 [jv_P 0, jv_P 1, jv_P 136, jv_I v3] [] (LL n l) g Q := by
  have h0 := h.1
  apply sg_Law_law_394
  simp only [h0]
  refine ⟨⟨by omega, by omega⟩, ⟨by omega, by omega⟩, ⟨by omega, by omega⟩, ⟨by omega, by omega⟩, ?_⟩
  refine jv_At.mono (st_out h ht) (fun r L g1 e => ?_)
  obtain ⟨v, l1, e1, e2, h01, hy⟩ := e
  subst e1 e2
  apply sg_Law_law_408
  simp only [h01]
  refine ⟨⟨by omega, by omega⟩, ⟨by omega, by omega⟩, ⟨by omega, by omega⟩, ⟨by omega, by omega⟩, ?_⟩
  refine jv_At.mono hy (fun r2 L2 g2 e => ?_)
  obtain ⟨e3, e4, h5⟩ := e
  subst e3 e4
  apply sg_Law_law_422
  exact ⟨fun _ => hQ l1 g2 h5, fun h' => absurd rfl h'⟩
theorem lc_comes {s : Int → Int} {n l t : Nat} {g : jv_S} {Q : jv_V → jv_L → jv_S → Prop} {v3 : Int} (hs : ∀ j, jv_r32 (s j)) (h : IV s l t g) (ht : t < 64) (h3 : 0 ≤ v3 ∧ v3 + 6 ≤ Int.ofNat n) (hn : Int.ofNat n ≤ 384) (hQ : ∀ (l' : Nat) (g' : jv_S), IV s l' (t + 1) g' → jv_At jv_T jv_ml kLaw_law 1124 [jv_P 0, jv_P 1, jv_P 136, jv_I v3] [] (LL n l') g' Q) : jv_At jv_T jv_ml kLaw_law 427 [jv_P 0, jv_P 1, jv_P 136, jv_I v3] [] (LL n l) g Q := by
  have h0 := h.1
  apply sg_Law_law_427
  simp only [h0]
  refine ⟨⟨by omega, by omega⟩, ⟨by omega, by omega⟩, ⟨by omega, by omega⟩, ⟨by omega, by omega⟩, ?_⟩
  refine jv_At.mono (st_comes h ht) (fun r L g1 e => ?_)
  obtain ⟨v, l1, e1, e2, h01, hy⟩ := e
  subst e1 e2
  apply sg_Law_law_441
  simp only [h01]
  refine ⟨⟨by omega, by omega⟩, ⟨by omega, by omega⟩, ⟨by omega, by omega⟩, ⟨by omega, by omega⟩, ?_⟩
  refine jv_At.mono hy (fun r2 L2 g2 e => ?_)
  obtain ⟨e3, e4, h5⟩ := e
  subst e3 e4
  apply sg_Law_law_455
  exact ⟨fun _ => hQ l1 g2 h5, fun h' => absurd rfl h'⟩
theorem lc_carries {s : Int → Int} {n l t : Nat} {g : jv_S} {Q : jv_V → jv_L → jv_S → Prop} {v3 : Int} (hs : ∀ j, jv_r32 (s j)) (h : IV s l t g) (ht : t < 64) (h3 : 0 ≤ v3 ∧ v3 + 6 ≤ Int.ofNat n) (hn : Int.ofNat n ≤ 384) (hQ : ∀ (l' : Nat) (g' : jv_S), IV s l' (t + 1) g' → jv_At jv_T jv_ml kLaw_law 1124 [jv_P 0, jv_P 1, jv_P 136, jv_I v3] [] (LL n l') g' Q) : jv_At jv_T jv_ml kLaw_law 460 [jv_P 0, jv_P 1, jv_P 136, jv_I v3] [] (LL n l) g Q := by
  have h0 := h.1
  apply sg_Law_law_460
  simp only [h0]
  refine ⟨⟨by omega, by omega⟩, ⟨by omega, by omega⟩, ?_⟩
  refine jv_At.mono (st_carries h ht) (fun r L g1 e => ?_)
  obtain ⟨v, l1, e1, e2, h01, hy⟩ := e
  subst e1 e2
  apply sg_Law_law_469
  simp only [h01]
  refine ⟨⟨by omega, by omega⟩, ⟨by omega, by omega⟩, ?_⟩
  refine jv_At.mono hy (fun r2 L2 g2 e => ?_)
  obtain ⟨e3, e4, h5⟩ := e
  subst e3 e4
  apply sg_Law_law_478
  exact ⟨fun _ => hQ l1 g2 h5, fun h' => absurd rfl h'⟩
theorem lc_waits {s : Int → Int} {n l t : Nat} {g : jv_S} {Q : jv_V → jv_L → jv_S → Prop} {v3 : Int} (hs : ∀ j, jv_r32 (s j)) (h : IV s l t g) (ht : t < 64) (h3 : 0 ≤ v3 ∧ v3 + 6 ≤ Int.ofNat n) (hn : Int.ofNat n ≤ 384) (hQ : ∀ (l' : Nat) (g' : jv_S), IV s l' (t + 1) g' → jv_At jv_T jv_ml kLaw_law 1124 [jv_P 0, jv_P 1, jv_P 136, jv_I v3] [] (LL n l') g' Q) : jv_At jv_T jv_ml kLaw_law 483 [jv_P 0, jv_P 1, jv_P 136, jv_I v3] [] (LL n l) g Q := by
  have h0 := h.1
  apply sg_Law_law_483
  simp only [h0]
  refine ⟨⟨by omega, by omega⟩, ⟨by omega, by omega⟩, ?_⟩
  refine jv_At.mono (st_waits h ht) (fun r L g1 e => ?_)
  obtain ⟨v, l1, e1, e2, h01, hy⟩ := e
  subst e1 e2
  apply sg_Law_law_492
  simp only [h01]
  refine ⟨⟨by omega, by omega⟩, ⟨by omega, by omega⟩, ?_⟩
  refine jv_At.mono hy (fun r2 L2 g2 e => ?_)
  obtain ⟨e3, e4, h5⟩ := e
  subst e3 e4
  apply sg_Law_law_501
  exact ⟨fun _ => hQ l1 g2 h5, fun h' => absurd rfl h'⟩
theorem lc_ring {s : Int → Int} {n l t : Nat} {g : jv_S} {Q : jv_V → jv_L → jv_S → Prop} {v3 : Int} (hs : ∀ j, jv_r32 (s j)) (h : IV s l t g) (ht : t < 64) (h3 : 0 ≤ v3 ∧ v3 + 6 ≤ Int.ofNat n) (hn : Int.ofNat n ≤ 384) (hQ : ∀ (l' : Nat) (g' : jv_S), IV s l' (t + 1) g' → jv_At jv_T jv_ml kLaw_law 1124 [jv_P 0, jv_P 1, jv_P 136, jv_I v3] [] (LL n l') g' Q) : jv_At jv_T jv_ml kLaw_law 506 [jv_P 0, jv_P 1, jv_P 136, jv_I v3] [] (LL n l) g Q := by
  have h0 := h.1
  apply sg_Law_law_506
  simp only [h0]
  refine ⟨⟨by omega, by omega⟩, ⟨by omega, by omega⟩, ?_⟩
  refine jv_At.mono (st_ring h ht) (fun r L g1 e => ?_)
  obtain ⟨v, l1, e1, e2, h01, hy⟩ := e
  subst e1 e2
  apply sg_Law_law_515
  simp only [h01]
  refine ⟨⟨by omega, by omega⟩, ⟨by omega, by omega⟩, ?_⟩
  refine jv_At.mono hy (fun r2 L2 g2 e => ?_)
  obtain ⟨e3, e4, h5⟩ := e
  subst e3 e4
  apply sg_Law_law_524
  exact ⟨fun _ => hQ l1 g2 h5, fun h' => absurd rfl h'⟩
theorem lc_rank {s : Int → Int} {n l t : Nat} {g : jv_S} {Q : jv_V → jv_L → jv_S → Prop} {v3 : Int} (hs : ∀ j, jv_r32 (s j)) (h : IV s l t g) (ht : t < 64) (h3 : 0 ≤ v3 ∧ v3 + 6 ≤ Int.ofNat n) (hn : Int.ofNat n ≤ 384) (hQ : ∀ (l' : Nat) (g' : jv_S), IV s l' (t + 1) g' → jv_At jv_T jv_ml kLaw_law 1124 [jv_P 0, jv_P 1, jv_P 136, jv_I v3] [] (LL n l') g' Q) : jv_At jv_T jv_ml kLaw_law 529 [jv_P 0, jv_P 1, jv_P 136, jv_I v3] [] (LL n l) g Q := by
  have h0 := h.1
  apply sg_Law_law_529
  simp only [h0]
  refine ⟨⟨by omega, by omega⟩, ⟨by omega, by omega⟩, ?_⟩
  refine jv_At.mono (st_rank h ht) (fun r L g1 e => ?_)
  obtain ⟨v, l1, e1, e2, h01, hy⟩ := e
  subst e1 e2
  apply sg_Law_law_538
  simp only [h01]
  refine ⟨⟨by omega, by omega⟩, ⟨by omega, by omega⟩, ?_⟩
  refine jv_At.mono hy (fun r2 L2 g2 e => ?_)
  obtain ⟨e3, e4, h5⟩ := e
  subst e3 e4
  apply sg_Law_law_547
  exact ⟨fun _ => hQ l1 g2 h5, fun h' => absurd rfl h'⟩
theorem lc_still {s : Int → Int} {n l t : Nat} {g : jv_S} {Q : jv_V → jv_L → jv_S → Prop} {v3 : Int} (hs : ∀ j, jv_r32 (s j)) (h : IV s l t g) (ht : t < 64) (h3 : 0 ≤ v3 ∧ v3 + 6 ≤ Int.ofNat n) (hn : Int.ofNat n ≤ 384) (hQ : ∀ (l' : Nat) (g' : jv_S), IV s l' (t + 1) g' → jv_At jv_T jv_ml kLaw_law 1124 [jv_P 0, jv_P 1, jv_P 136, jv_I v3] [] (LL n l') g' Q) : jv_At jv_T jv_ml kLaw_law 552 [jv_P 0, jv_P 1, jv_P 136, jv_I v3] [] (LL n l) g Q := by
  have h0 := h.1
  apply sg_Law_law_552
  simp only [h0]
  refine ⟨⟨by omega, by omega⟩, ⟨by omega, by omega⟩, ?_⟩
  refine jv_At.mono (st_still h ht) (fun r L g1 e => ?_)
  obtain ⟨v, l1, e1, e2, h01, hy⟩ := e
  subst e1 e2
  apply sg_Law_law_561
  simp only [h01]
  refine ⟨⟨by omega, by omega⟩, ⟨by omega, by omega⟩, ?_⟩
  refine jv_At.mono hy (fun r2 L2 g2 e => ?_)
  obtain ⟨e3, e4, h5⟩ := e
  subst e3 e4
  apply sg_Law_law_570
  exact ⟨fun _ => hQ l1 g2 h5, fun h' => absurd rfl h'⟩
theorem lc_states {s : Int → Int} {n l t : Nat} {g : jv_S} {Q : jv_V → jv_L → jv_S → Prop} {v3 : Int} (hs : ∀ j, jv_r32 (s j)) (h : IV s l t g) (ht : t < 64) (h3 : 0 ≤ v3 ∧ v3 + 6 ≤ Int.ofNat n) (hn : Int.ofNat n ≤ 384) (hQ : ∀ (l' : Nat) (g' : jv_S), IV s l' (t + 1) g' → jv_At jv_T jv_ml kLaw_law 1124 [jv_P 0, jv_P 1, jv_P 136, jv_I v3] [] (LL n l') g' Q) : jv_At jv_T jv_ml kLaw_law 575 [jv_P 0, jv_P 1, jv_P 136, jv_I v3] [] (LL n l) g Q := by
  have h0 := h.1
  apply sg_Law_law_575
  simp only [h0]
  refine ⟨⟨by omega, by omega⟩, ⟨by omega, by omega⟩, ?_⟩
  refine jv_At.mono (st_states h ht) (fun r L g1 e => ?_)
  obtain ⟨v, l1, e1, e2, h01, hy⟩ := e
  subst e1 e2
  apply sg_Law_law_584
  simp only [h01]
  refine ⟨⟨by omega, by omega⟩, ⟨by omega, by omega⟩, ?_⟩
  refine jv_At.mono hy (fun r2 L2 g2 e => ?_)
  obtain ⟨e3, e4, h5⟩ := e
  subst e3 e4
  apply sg_Law_law_593
  exact ⟨fun _ => hQ l1 g2 h5, fun h' => absurd rfl h'⟩
theorem lc_send {s : Int → Int} {n l t : Nat} {g : jv_S} {Q : jv_V → jv_L → jv_S → Prop} {v3 : Int} (hs : ∀ j, jv_r32 (s j)) (h : IV s l t g) (ht : t < 64) (h3 : 0 ≤ v3 ∧ v3 + 6 ≤ Int.ofNat n) (hn : Int.ofNat n ≤ 384) (hQ : ∀ (l' : Nat) (g' : jv_S), IV s l' (t + 1) g' → jv_At jv_T jv_ml kLaw_law 1124 [jv_P 0, jv_P 1, jv_P 136, jv_I v3] [] (LL n l') g' Q) : jv_At jv_T jv_ml kLaw_law 598 [jv_P 0, jv_P 1, jv_P 136, jv_I v3] [] (LL n l) g Q := by
  have h0 := h.1
  apply sg_Law_law_598
  simp only [h0]
  refine ⟨⟨by omega, by omega⟩, ⟨by omega, by omega⟩, ⟨by omega, by omega⟩, ⟨by omega, by omega⟩, ⟨by omega, by omega⟩, ⟨by omega, by omega⟩, ?_⟩
  refine jv_At.mono (st_send h ht) (fun r L g1 e => ?_)
  obtain ⟨v, l1, e1, e2, h01, hy⟩ := e
  subst e1 e2
  apply sg_Law_law_617
  simp only [h01]
  refine ⟨⟨by omega, by omega⟩, ⟨by omega, by omega⟩, ⟨by omega, by omega⟩, ⟨by omega, by omega⟩, ⟨by omega, by omega⟩, ⟨by omega, by omega⟩, ?_⟩
  refine jv_At.mono hy (fun r2 L2 g2 e => ?_)
  obtain ⟨e3, e4, h5⟩ := e
  subst e3 e4
  apply sg_Law_law_636
  exact ⟨fun _ => hQ l1 g2 h5, fun h' => absurd rfl h'⟩
theorem lc_ticks {s : Int → Int} {n l t : Nat} {g : jv_S} {Q : jv_V → jv_L → jv_S → Prop} {v3 : Int} (hs : ∀ j, jv_r32 (s j)) (h : IV s l t g) (ht : t < 64) (h3 : 0 ≤ v3 ∧ v3 + 6 ≤ Int.ofNat n) (hn : Int.ofNat n ≤ 384) (hQ : ∀ (l' : Nat) (g' : jv_S), IV s l' (t + 1) g' → jv_At jv_T jv_ml kLaw_law 1124 [jv_P 0, jv_P 1, jv_P 136, jv_I v3] [] (LL n l') g' Q) : jv_At jv_T jv_ml kLaw_law 641 [jv_P 0, jv_P 1, jv_P 136, jv_I v3] [] (LL n l) g Q := by
  have h0 := h.1
  apply sg_Law_law_641
  simp only [h0]
  refine ⟨⟨by omega, by omega⟩, ⟨by omega, by omega⟩, ?_⟩
  refine jv_At.mono (st_ticks h ht) (fun r L g1 e => ?_)
  obtain ⟨v, l1, e1, e2, h01, hy⟩ := e
  subst e1 e2
  apply sg_Law_law_650
  simp only [h01]
  refine ⟨⟨by omega, by omega⟩, ⟨by omega, by omega⟩, ?_⟩
  refine jv_At.mono hy (fun r2 L2 g2 e => ?_)
  obtain ⟨e3, e4, h5⟩ := e
  subst e3 e4
  apply sg_Law_law_659
  exact ⟨fun _ => hQ l1 g2 h5, fun h' => absurd rfl h'⟩
theorem lc_ofLoad {s : Int → Int} {n l t : Nat} {g : jv_S} {Q : jv_V → jv_L → jv_S → Prop} {v3 : Int} (hs : ∀ j, jv_r32 (s j)) (h : IV s l t g) (ht : t < 64) (h3 : 0 ≤ v3 ∧ v3 + 6 ≤ Int.ofNat n) (hn : Int.ofNat n ≤ 384) (hQ : ∀ (l' : Nat) (g' : jv_S), IV s l' (t + 1) g' → jv_At jv_T jv_ml kLaw_law 1124 [jv_P 0, jv_P 1, jv_P 136, jv_I v3] [] (LL n l') g' Q) : jv_At jv_T jv_ml kLaw_law 664 [jv_P 0, jv_P 1, jv_P 136, jv_I v3] [] (LL n l) g Q := by
  have h0 := h.1
  apply sg_Law_law_664
  simp only [h0]
  refine ⟨⟨by omega, by omega⟩, ⟨by omega, by omega⟩, ⟨by omega, by omega⟩, ⟨by omega, by omega⟩, ?_⟩
  refine jv_At.mono (st_ofLoad h ht) (fun r L g1 e => ?_)
  obtain ⟨v, l1, e1, e2, h01, hy⟩ := e
  subst e1 e2
  apply sg_Law_law_678
  simp only [h01]
  refine ⟨⟨by omega, by omega⟩, ⟨by omega, by omega⟩, ⟨by omega, by omega⟩, ⟨by omega, by omega⟩, ?_⟩
  refine jv_At.mono hy (fun r2 L2 g2 e => ?_)
  obtain ⟨e3, e4, h5⟩ := e
  subst e3 e4
  apply sg_Law_law_692
  exact ⟨fun _ => hQ l1 g2 h5, fun h' => absurd rfl h'⟩
theorem lc_frozen {s : Int → Int} {n l t : Nat} {g : jv_S} {Q : jv_V → jv_L → jv_S → Prop} {v3 : Int} (hs : ∀ j, jv_r32 (s j)) (h : IV s l t g) (ht : t < 64) (h3 : 0 ≤ v3 ∧ v3 + 6 ≤ Int.ofNat n) (hn : Int.ofNat n ≤ 384) (hQ : ∀ (l' : Nat) (g' : jv_S), IV s l' (t + 1) g' → jv_At jv_T jv_ml kLaw_law 1124 [jv_P 0, jv_P 1, jv_P 136, jv_I v3] [] (LL n l') g' Q) : jv_At jv_T jv_ml kLaw_law 697 [jv_P 0, jv_P 1, jv_P 136, jv_I v3] [] (LL n l) g Q := by
  have h0 := h.1
  apply sg_Law_law_697
  
  refine jv_At.mono (st_frozen h ht) (fun r L g1 e => ?_)
  obtain ⟨v, l1, e1, e2, h01, hy⟩ := e
  subst e1 e2
  apply sg_Law_law_701
  
  refine jv_At.mono hy (fun r2 L2 g2 e => ?_)
  obtain ⟨e3, e4, h5⟩ := e
  subst e3 e4
  apply sg_Law_law_705
  exact ⟨fun _ => hQ l1 g2 h5, fun h' => absurd rfl h'⟩
theorem lc_mend {s : Int → Int} {n l t : Nat} {g : jv_S} {Q : jv_V → jv_L → jv_S → Prop} {v3 : Int} (hs : ∀ j, jv_r32 (s j)) (h : IV s l t g) (ht : t < 64) (h3 : 0 ≤ v3 ∧ v3 + 6 ≤ Int.ofNat n) (hn : Int.ofNat n ≤ 384) (hQ : ∀ (l' : Nat) (g' : jv_S), IV s l' (t + 1) g' → jv_At jv_T jv_ml kLaw_law 1124 [jv_P 0, jv_P 1, jv_P 136, jv_I v3] [] (LL n l') g' Q) : jv_At jv_T jv_ml kLaw_law 710 [jv_P 0, jv_P 1, jv_P 136, jv_I v3] [] (LL n l) g Q := by
  have h0 := h.1
  apply sg_Law_law_710
  simp only [h0]
  refine ⟨⟨by omega, by omega⟩, ⟨by omega, by omega⟩, ?_⟩
  refine jv_At.mono (st_mend h ht) (fun r L g1 e => ?_)
  obtain ⟨v, l1, e1, e2, h01, hy⟩ := e
  subst e1 e2
  apply sg_Law_law_719
  simp only [h01]
  refine ⟨⟨by omega, by omega⟩, ⟨by omega, by omega⟩, ?_⟩
  refine jv_At.mono hy (fun r2 L2 g2 e => ?_)
  obtain ⟨e3, e4, h5⟩ := e
  subst e3 e4
  apply sg_Law_law_728
  exact ⟨fun _ => hQ l1 g2 h5, fun h' => absurd rfl h'⟩
theorem lc_bears {s : Int → Int} {n l t : Nat} {g : jv_S} {Q : jv_V → jv_L → jv_S → Prop} {v3 : Int} (hs : ∀ j, jv_r32 (s j)) (h : IV s l t g) (ht : t < 64) (h3 : 0 ≤ v3 ∧ v3 + 6 ≤ Int.ofNat n) (hn : Int.ofNat n ≤ 384) (hQ : ∀ (l' : Nat) (g' : jv_S), IV s l' (t + 1) g' → jv_At jv_T jv_ml kLaw_law 1124 [jv_P 0, jv_P 1, jv_P 136, jv_I v3] [] (LL n l') g' Q) : jv_At jv_T jv_ml kLaw_law 733 [jv_P 0, jv_P 1, jv_P 136, jv_I v3] [] (LL n l) g Q := by
  have h0 := h.1
  apply sg_Law_law_733
  simp only [h0]
  refine ⟨⟨by omega, by omega⟩, ⟨by omega, by omega⟩, ⟨by omega, by omega⟩, ⟨by omega, by omega⟩, ?_⟩
  refine jv_At.mono (st_bears h ht) (fun r L g1 e => ?_)
  obtain ⟨v, l1, e1, e2, h01, hy⟩ := e
  subst e1 e2
  apply sg_Law_law_747
  simp only [h01]
  refine ⟨⟨by omega, by omega⟩, ⟨by omega, by omega⟩, ⟨by omega, by omega⟩, ⟨by omega, by omega⟩, ?_⟩
  refine jv_At.mono hy (fun r2 L2 g2 e => ?_)
  obtain ⟨e3, e4, h5⟩ := e
  subst e3 e4
  apply sg_Law_law_761
  exact ⟨fun _ => hQ l1 g2 h5, fun h' => absurd (cmp_self v) h'⟩
theorem lc_busiest {s : Int → Int} {n l t : Nat} {g : jv_S} {Q : jv_V → jv_L → jv_S → Prop} {v3 : Int} (hs : ∀ j, jv_r32 (s j)) (h : IV s l t g) (ht : t < 64) (h3 : 0 ≤ v3 ∧ v3 + 6 ≤ Int.ofNat n) (hn : Int.ofNat n ≤ 384) (hQ : ∀ (l' : Nat) (g' : jv_S), IV s l' (t + 1) g' → jv_At jv_T jv_ml kLaw_law 1124 [jv_P 0, jv_P 1, jv_P 136, jv_I v3] [] (LL n l') g' Q) : jv_At jv_T jv_ml kLaw_law 767 [jv_P 0, jv_P 1, jv_P 136, jv_I v3] [] (LL n l) g Q := by
  have h0 := h.1
  apply sg_Law_law_767
  
  refine jv_At.mono (st_busiest h ht) (fun r L g1 e => ?_)
  obtain ⟨v, l1, e1, e2, h01, hy⟩ := e
  subst e1 e2
  apply sg_Law_law_771
  
  refine jv_At.mono hy (fun r2 L2 g2 e => ?_)
  obtain ⟨e3, e4, h5⟩ := e
  subst e3 e4
  apply sg_Law_law_775
  exact ⟨fun _ => hQ l1 g2 h5, fun h' => absurd rfl h'⟩
theorem lc_sheet {s : Int → Int} {n l t : Nat} {g : jv_S} {Q : jv_V → jv_L → jv_S → Prop} {v3 : Int} (hs : ∀ j, jv_r32 (s j)) (h : IV s l t g) (ht : t < 64) (h3 : 0 ≤ v3 ∧ v3 + 6 ≤ Int.ofNat n) (hn : Int.ofNat n ≤ 384) (hQ : ∀ (l' : Nat) (g' : jv_S), IV s l' (t + 1) g' → jv_At jv_T jv_ml kLaw_law 1124 [jv_P 0, jv_P 1, jv_P 136, jv_I v3] [] (LL n l') g' Q) : jv_At jv_T jv_ml kLaw_law 780 [jv_P 0, jv_P 1, jv_P 136, jv_I v3] [] (LL n l) g Q := by
  have h0 := h.1
  apply sg_Law_law_780
  simp only [h0]
  refine ⟨⟨by omega, by omega⟩, ⟨by omega, by omega⟩, ⟨by omega, by omega⟩, ⟨by omega, by omega⟩, ⟨by omega, by omega⟩, ⟨by omega, by omega⟩, ?_⟩
  refine jv_At.mono (st_sheet h ht) (fun r L g1 e => ?_)
  obtain ⟨v, l1, e1, e2, h01, hy⟩ := e
  subst e1 e2
  apply sg_Law_law_799
  simp only [h01]
  refine ⟨⟨by omega, by omega⟩, ⟨by omega, by omega⟩, ⟨by omega, by omega⟩, ⟨by omega, by omega⟩, ⟨by omega, by omega⟩, ⟨by omega, by omega⟩, ?_⟩
  refine jv_At.mono hy (fun r2 L2 g2 e => ?_)
  obtain ⟨e3, e4, h5⟩ := e
  subst e3 e4
  apply sg_Law_law_818
  exact ⟨fun _ => hQ l1 g2 h5, fun h' => absurd rfl h'⟩
theorem lc_lose {s : Int → Int} {n l t : Nat} {g : jv_S} {Q : jv_V → jv_L → jv_S → Prop} {v3 : Int} (hs : ∀ j, jv_r32 (s j)) (h : IV s l t g) (ht : t < 64) (h3 : 0 ≤ v3 ∧ v3 + 6 ≤ Int.ofNat n) (hn : Int.ofNat n ≤ 384) (hQ : ∀ (l' : Nat) (g' : jv_S), IV s l' (t + 1) g' → jv_At jv_T jv_ml kLaw_law 1124 [jv_P 0, jv_P 1, jv_P 136, jv_I v3] [] (LL n l') g' Q) : jv_At jv_T jv_ml kLaw_law 823 [jv_P 0, jv_P 1, jv_P 136, jv_I v3] [] (LL n l) g Q := by
  have h0 := h.1
  apply sg_Law_law_823
  simp only [h0]
  refine ⟨⟨by omega, by omega⟩, ⟨by omega, by omega⟩, ?_⟩
  refine jv_At.mono (st_lose h ht) (fun r L g1 e => ?_)
  obtain ⟨v, l1, e1, e2, h01, hy⟩ := e
  subst e1 e2
  apply sg_Law_law_832
  simp only [h01]
  refine ⟨⟨by omega, by omega⟩, ⟨by omega, by omega⟩, ?_⟩
  refine jv_At.mono hy (fun r2 L2 g2 e => ?_)
  obtain ⟨e3, e4, h5⟩ := e
  subst e3 e4
  apply sg_Law_law_841
  exact ⟨fun _ => hQ l1 g2 h5, fun h' => absurd rfl h'⟩
theorem lc_put {s : Int → Int} {n l t : Nat} {g : jv_S} {Q : jv_V → jv_L → jv_S → Prop} {v3 : Int} (hs : ∀ j, jv_r32 (s j)) (h : IV s l t g) (ht : t < 64) (h3 : 0 ≤ v3 ∧ v3 + 6 ≤ Int.ofNat n) (hn : Int.ofNat n ≤ 384) (hQ : ∀ (l' : Nat) (g' : jv_S), IV s l' (t + 1) g' → jv_At jv_T jv_ml kLaw_law 1124 [jv_P 0, jv_P 1, jv_P 136, jv_I v3] [] (LL n l') g' Q) : jv_At jv_T jv_ml kLaw_law 846 [jv_P 0, jv_P 1, jv_P 136, jv_I v3] [] (LL n l) g Q := by
  have h0 := h.1
  apply sg_Law_law_846
  simp only [h0]
  refine ⟨⟨by omega, by omega⟩, ⟨by omega, by omega⟩, ⟨by omega, by omega⟩, ⟨by omega, by omega⟩, ⟨by omega, by omega⟩, ⟨by omega, by omega⟩, ?_⟩
  refine jv_At.mono (st_put h ht (hs _)) (fun r L g1 e => ?_)
  obtain ⟨v, l1, e1, e2, h01, hy⟩ := e
  subst e1 e2
  apply sg_Law_law_865
  simp only [h01]
  refine ⟨⟨by omega, by omega⟩, ⟨by omega, by omega⟩, ⟨by omega, by omega⟩, ⟨by omega, by omega⟩, ⟨by omega, by omega⟩, ⟨by omega, by omega⟩, ?_⟩
  refine jv_At.mono hy (fun r2 L2 g2 e => ?_)
  obtain ⟨e3, e4, h5⟩ := e
  subst e3 e4
  apply sg_Law_law_884
  exact ⟨fun _ => hQ l1 g2 h5, fun h' => absurd rfl h'⟩
theorem lc_cell {s : Int → Int} {n l t : Nat} {g : jv_S} {Q : jv_V → jv_L → jv_S → Prop} {v3 : Int} (hs : ∀ j, jv_r32 (s j)) (h : IV s l t g) (ht : t < 64) (h3 : 0 ≤ v3 ∧ v3 + 6 ≤ Int.ofNat n) (hn : Int.ofNat n ≤ 384) (hQ : ∀ (l' : Nat) (g' : jv_S), IV s l' (t + 1) g' → jv_At jv_T jv_ml kLaw_law 1124 [jv_P 0, jv_P 1, jv_P 136, jv_I v3] [] (LL n l') g' Q) : jv_At jv_T jv_ml kLaw_law 889 [jv_P 0, jv_P 1, jv_P 136, jv_I v3] [] (LL n l) g Q := by
  have h0 := h.1
  apply sg_Law_law_889
  simp only [h0]
  refine ⟨⟨by omega, by omega⟩, ⟨by omega, by omega⟩, ⟨by omega, by omega⟩, ⟨by omega, by omega⟩, ⟨by omega, by omega⟩, ⟨by omega, by omega⟩, ?_⟩
  refine jv_At.mono (st_cell h ht) (fun r L g1 e => ?_)
  obtain ⟨v, l1, e1, e2, h01, hy⟩ := e
  subst e1 e2
  apply sg_Law_law_908
  simp only [h01]
  refine ⟨⟨by omega, by omega⟩, ⟨by omega, by omega⟩, ⟨by omega, by omega⟩, ⟨by omega, by omega⟩, ⟨by omega, by omega⟩, ⟨by omega, by omega⟩, ?_⟩
  refine jv_At.mono hy (fun r2 L2 g2 e => ?_)
  obtain ⟨e3, e4, h5⟩ := e
  subst e3 e4
  apply sg_Law_law_927
  exact ⟨fun _ => hQ l1 g2 h5, fun h' => absurd (cmp_self v) h'⟩
theorem lc_copy {s : Int → Int} {n l t : Nat} {g : jv_S} {Q : jv_V → jv_L → jv_S → Prop} {v3 : Int} (hs : ∀ j, jv_r32 (s j)) (h : IV s l t g) (ht : t < 64) (h3 : 0 ≤ v3 ∧ v3 + 6 ≤ Int.ofNat n) (hn : Int.ofNat n ≤ 384) (hQ : ∀ (l' : Nat) (g' : jv_S), IV s l' (t + 1) g' → jv_At jv_T jv_ml kLaw_law 1124 [jv_P 0, jv_P 1, jv_P 136, jv_I v3] [] (LL n l') g' Q) : jv_At jv_T jv_ml kLaw_law 933 [jv_P 0, jv_P 1, jv_P 136, jv_I v3] [] (LL n l) g Q := by
  have h0 := h.1
  apply sg_Law_law_933
  simp only [h0]
  refine ⟨⟨by omega, by omega⟩, ⟨by omega, by omega⟩, ⟨by omega, by omega⟩, ⟨by omega, by omega⟩, ⟨by omega, by omega⟩, ⟨by omega, by omega⟩, ⟨by omega, by omega⟩, ⟨by omega, by omega⟩, ⟨by omega, by omega⟩, ⟨by omega, by omega⟩, ?_⟩
  refine jv_At.mono (st_copy h ht) (fun r L g1 e => ?_)
  obtain ⟨v, l1, e1, e2, h01, hy⟩ := e
  subst e1 e2
  apply sg_Law_law_962
  simp only [h01]
  refine ⟨⟨by omega, by omega⟩, ⟨by omega, by omega⟩, ⟨by omega, by omega⟩, ⟨by omega, by omega⟩, ⟨by omega, by omega⟩, ⟨by omega, by omega⟩, ⟨by omega, by omega⟩, ⟨by omega, by omega⟩, ⟨by omega, by omega⟩, ⟨by omega, by omega⟩, ?_⟩
  refine jv_At.mono hy (fun r2 L2 g2 e => ?_)
  obtain ⟨e3, e4, h5⟩ := e
  subst e3 e4
  apply sg_Law_law_991
  exact ⟨fun _ => hQ l1 g2 h5, fun h' => absurd rfl h'⟩
theorem lc_tell {s : Int → Int} {n l t : Nat} {g : jv_S} {Q : jv_V → jv_L → jv_S → Prop} {v3 : Int} (hs : ∀ j, jv_r32 (s j)) (h : IV s l t g) (ht : t < 64) (h3 : 0 ≤ v3 ∧ v3 + 6 ≤ Int.ofNat n) (hn : Int.ofNat n ≤ 384) (hQ : ∀ (l' : Nat) (g' : jv_S), IV s l' (t + 1) g' → jv_At jv_T jv_ml kLaw_law 1124 [jv_P 0, jv_P 1, jv_P 136, jv_I v3] [] (LL n l') g' Q) : jv_At jv_T jv_ml kLaw_law 996 [jv_P 0, jv_P 1, jv_P 136, jv_I v3] [] (LL n l) g Q := by
  have h0 := h.1
  apply sg_Law_law_996
  simp only [h0]
  refine ⟨⟨by omega, by omega⟩, ⟨by omega, by omega⟩, ?_⟩
  refine jv_At.mono (st_tell h ht) (fun r L g1 e => ?_)
  obtain ⟨v, l1, e1, e2, h01, hy⟩ := e
  subst e1 e2
  apply sg_Law_law_1005
  simp only [h01]
  refine ⟨⟨by omega, by omega⟩, ⟨by omega, by omega⟩, ?_⟩
  refine jv_At.mono hy (fun r2 L2 g2 e => ?_)
  obtain ⟨e3, e4, h5⟩ := e
  subst e3 e4
  apply sg_Law_law_1014
  exact ⟨fun _ => hQ l1 g2 h5, fun h' => absurd rfl h'⟩
theorem lc_stamp {s : Int → Int} {n l t : Nat} {g : jv_S} {Q : jv_V → jv_L → jv_S → Prop} {v3 : Int} (hs : ∀ j, jv_r32 (s j)) (h : IV s l t g) (ht : t < 64) (h3 : 0 ≤ v3 ∧ v3 + 6 ≤ Int.ofNat n) (hn : Int.ofNat n ≤ 384) (hQ : ∀ (l' : Nat) (g' : jv_S), IV s l' (t + 1) g' → jv_At jv_T jv_ml kLaw_law 1124 [jv_P 0, jv_P 1, jv_P 136, jv_I v3] [] (LL n l') g' Q) : jv_At jv_T jv_ml kLaw_law 1019 [jv_P 0, jv_P 1, jv_P 136, jv_I v3] [] (LL n l) g Q := by
  have h0 := h.1
  apply sg_Law_law_1019
  simp only [h0]
  refine ⟨⟨by omega, by omega⟩, ⟨by omega, by omega⟩, ?_⟩
  refine jv_At.mono (st_stamp h ht) (fun r L g1 e => ?_)
  obtain ⟨v, l1, e1, e2, h01, hy⟩ := e
  subst e1 e2
  apply sg_Law_law_1028
  simp only [h01]
  refine ⟨⟨by omega, by omega⟩, ⟨by omega, by omega⟩, ?_⟩
  refine jv_At.mono hy (fun r2 L2 g2 e => ?_)
  obtain ⟨e3, e4, h5⟩ := e
  subst e3 e4
  apply sg_Law_law_1037
  exact ⟨fun _ => hQ l1 g2 h5, fun h' => absurd rfl h'⟩
theorem lc_as {s : Int → Int} {n l t : Nat} {g : jv_S} {Q : jv_V → jv_L → jv_S → Prop} {v3 : Int} (hs : ∀ j, jv_r32 (s j)) (h : IV s l t g) (ht : t < 64) (h3 : 0 ≤ v3 ∧ v3 + 6 ≤ Int.ofNat n) (hn : Int.ofNat n ≤ 384) (hQ : ∀ (l' : Nat) (g' : jv_S), IV s l' (t + 1) g' → jv_At jv_T jv_ml kLaw_law 1124 [jv_P 0, jv_P 1, jv_P 136, jv_I v3] [] (LL n l') g' Q) : jv_At jv_T jv_ml kLaw_law 1042 [jv_P 0, jv_P 1, jv_P 136, jv_I v3] [] (LL n l) g Q := by
  have h0 := h.1
  apply sg_Law_law_1042
  simp only [h0]
  refine ⟨⟨by omega, by omega⟩, ⟨by omega, by omega⟩, ⟨by omega, by omega⟩, ⟨by omega, by omega⟩, ?_⟩
  refine jv_At.mono (st_as h ht) (fun r L g1 e => ?_)
  obtain ⟨v, l1, e1, e2, h01, hy⟩ := e
  subst e1 e2
  apply sg_Law_law_1056
  simp only [h01]
  refine ⟨⟨by omega, by omega⟩, ⟨by omega, by omega⟩, ⟨by omega, by omega⟩, ⟨by omega, by omega⟩, ?_⟩
  refine jv_At.mono hy (fun r2 L2 g2 e => ?_)
  obtain ⟨e3, e4, h5⟩ := e
  subst e3 e4
  apply sg_Law_law_1070
  exact ⟨fun _ => hQ l1 g2 h5, fun h' => absurd rfl h'⟩
theorem lc_trace {s : Int → Int} {n l t : Nat} {g : jv_S} {Q : jv_V → jv_L → jv_S → Prop} {v3 : Int} (hs : ∀ j, jv_r32 (s j)) (h : IV s l t g) (ht : t < 64) (h3 : 0 ≤ v3 ∧ v3 + 6 ≤ Int.ofNat n) (hn : Int.ofNat n ≤ 384) (hQ : ∀ (l' : Nat) (g' : jv_S), IV s l' (t + 1) g' → jv_At jv_T jv_ml kLaw_law 1124 [jv_P 0, jv_P 1, jv_P 136, jv_I v3] [] (LL n l') g' Q) : jv_At jv_T jv_ml kLaw_law 1075 [jv_P 0, jv_P 1, jv_P 136, jv_I v3] [] (LL n l) g Q := by
  have h0 := h.1
  apply sg_Law_law_1075
  
  refine jv_At.mono (st_trace h ht) (fun r L g1 e => ?_)
  obtain ⟨v, l1, e1, e2, h01, hy⟩ := e
  subst e1 e2
  apply sg_Law_law_1079
  
  refine jv_At.mono hy (fun r2 L2 g2 e => ?_)
  obtain ⟨e3, e4, h5⟩ := e
  subst e3 e4
  apply sg_Law_law_1083
  exact ⟨fun _ => hQ l1 g2 h5, fun h' => absurd rfl h'⟩
theorem lc_fault {s : Int → Int} {n l t : Nat} {g : jv_S} {Q : jv_V → jv_L → jv_S → Prop} {v3 : Int} (hs : ∀ j, jv_r32 (s j)) (h : IV s l t g) (ht : t < 64) (h3 : 0 ≤ v3 ∧ v3 + 6 ≤ Int.ofNat n) (hn : Int.ofNat n ≤ 384) (hQ : ∀ (l' : Nat) (g' : jv_S), IV s l' (t + 1) g' → jv_At jv_T jv_ml kLaw_law 1124 [jv_P 0, jv_P 1, jv_P 136, jv_I v3] [] (LL n l') g' Q) : jv_At jv_T jv_ml kLaw_law 1088 [jv_P 0, jv_P 1, jv_P 136, jv_I v3] [] (LL n l) g Q := by
  have h0 := h.1
  apply sg_Law_law_1088
  
  refine jv_At.mono (st_fault h ht) (fun r L g1 e => ?_)
  obtain ⟨v, l1, e1, e2, h01, hy⟩ := e
  subst e1 e2
  apply sg_Law_law_1092
  
  refine jv_At.mono hy (fun r2 L2 g2 e => ?_)
  obtain ⟨e3, e4, h5⟩ := e
  subst e3 e4
  apply sg_Law_law_1096
  exact ⟨fun _ => hQ l1 g2 h5, fun h' => absurd rfl h'⟩
theorem lc_many {s : Int → Int} {n l t : Nat} {g : jv_S} {Q : jv_V → jv_L → jv_S → Prop} {v3 : Int} (hs : ∀ j, jv_r32 (s j)) (h : IV s l t g) (ht : t < 64) (h3 : 0 ≤ v3 ∧ v3 + 6 ≤ Int.ofNat n) (hn : Int.ofNat n ≤ 384) (hQ : ∀ (l' : Nat) (g' : jv_S), IV s l' (t + 1) g' → jv_At jv_T jv_ml kLaw_law 1124 [jv_P 0, jv_P 1, jv_P 136, jv_I v3] [] (LL n l') g' Q) : jv_At jv_T jv_ml kLaw_law 1101 [jv_P 0, jv_P 1, jv_P 136, jv_I v3] [] (LL n l) g Q := by
  have h0 := h.1
  apply sg_Law_law_1101
  simp only [h0]
  refine ⟨⟨by omega, by omega⟩, ⟨by omega, by omega⟩, ?_⟩
  refine jv_At.mono (st_many h ht) (fun r L g1 e => ?_)
  obtain ⟨v, l1, e1, e2, h01, hy⟩ := e
  subst e1 e2
  apply sg_Law_law_1110
  simp only [h01]
  refine ⟨⟨by omega, by omega⟩, ⟨by omega, by omega⟩, ?_⟩
  refine jv_At.mono hy (fun r2 L2 g2 e => ?_)
  obtain ⟨e3, e4, h5⟩ := e
  subst e3 e4
  apply sg_Law_law_1119
  exact ⟨fun _ => hQ l1 g2 h5, fun h' => absurd rfl h'⟩
theorem law_loop {s : Int → Int} {n : Nat} {Q : jv_V → jv_L → jv_S → Prop} (hs : ∀ j, jv_r32 (s j)) (hn : Int.ofNat n ≤ 384) (hQ : ∀ (l' : Nat) (g' : jv_S), l' ≤ 64 → Q (jv_I 1) (LL n l') g') : ∀ (k t : Nat), t + k = 64 → ∀ (l : Nat) (g : jv_S), IV s l t g → jv_At jv_T jv_ml kLaw_law 18 [jv_P 0, jv_P 1, jv_P 136, jv_I (6 * (t : Int))] [] (LL n l) g Q := by
  have n0 : 0 ≤ Int.ofNat n := Int.natCast_nonneg n
  intro k
  induction k with
  | zero =>
    intro t ht l g h
    apply sg_Law_law_18
    have hl : l ≤ 64 := by
      obtain ⟨h0, A, B, S, tr, fl, rb, hP, hC, hM⟩ := h
      have := hP.2.2.2.2.1
      omega
    exact ⟨⟨by omega, by omega⟩, fun _ => ⟨Or.inr rfl, hQ l g hl⟩, fun h' => by omega⟩
  | succ k ih =>
    intro t htk l g h
    have ht : t < 64 := by omega
    apply sg_Law_law_18
    have hl : l ≤ 64 := by
      obtain ⟨h0, A, B, S, tr, fl, rb, hP, hC, hM⟩ := h
      have := hP.2.2.2.2.1
      omega
    refine ⟨⟨by omega, by omega⟩, fun _ => ⟨Or.inr rfl, hQ l g hl⟩, fun h' => ⟨⟨by omega, by omega⟩, ?_⟩⟩
    have h3 : 0 ≤ 6 * (t : Int) ∧ 6 * (t : Int) + 6 ≤ Int.ofNat n := by omega
    have hQ : ∀ (l' : Nat) (g' : jv_S), IV s l' (t + 1) g' → jv_At jv_T jv_ml kLaw_law 1124 [jv_P 0, jv_P 1, jv_P 136, jv_I (6 * (t : Int))] [] (LL n l') g' Q := by
      intro l' g' h1
      apply sg_Law_law_1124
      refine ⟨⟨by omega, by omega⟩, ?_⟩
      have := ih (t + 1) (by omega) l' g' h1
      rw [show 6 * ((t + 1 : Nat) : Int) = 6 * (t : Int) + 6 by omega] at this
      exact this
    exact ⟨fun _ => lc_net hs h ht h3 hn hQ, fun _ => ⟨fun _ => lc_ofLane hs h ht h3 hn hQ, fun _ => ⟨fun _ => lc_far hs h ht h3 hn hQ, fun _ => ⟨fun _ => lc_rule hs h ht h3 hn hQ, fun _ => ⟨fun _ => lc_bar hs h ht h3 hn hQ, fun _ => ⟨fun _ => lc_may hs h ht h3 hn hQ, fun _ => ⟨fun _ => lc_out hs h ht h3 hn hQ, fun _ => ⟨fun _ => lc_comes hs h ht h3 hn hQ, fun _ => ⟨fun _ => lc_carries hs h ht h3 hn hQ, fun _ => ⟨fun _ => lc_waits hs h ht h3 hn hQ, fun _ => ⟨fun _ => lc_ring hs h ht h3 hn hQ, fun _ => ⟨fun _ => lc_rank hs h ht h3 hn hQ, fun _ => ⟨fun _ => lc_still hs h ht h3 hn hQ, fun _ => ⟨fun _ => lc_states hs h ht h3 hn hQ, fun _ => ⟨fun _ => lc_send hs h ht h3 hn hQ, fun _ => ⟨fun _ => lc_ticks hs h ht h3 hn hQ, fun _ => ⟨fun _ => lc_ofLoad hs h ht h3 hn hQ, fun _ => ⟨fun _ => lc_frozen hs h ht h3 hn hQ, fun _ => ⟨fun _ => lc_mend hs h ht h3 hn hQ, fun _ => ⟨fun _ => lc_bears hs h ht h3 hn hQ, fun _ => ⟨fun _ => lc_busiest hs h ht h3 hn hQ, fun _ => ⟨fun _ => lc_sheet hs h ht h3 hn hQ, fun _ => ⟨fun _ => lc_lose hs h ht h3 hn hQ, fun _ => ⟨fun _ => lc_put hs h ht h3 hn hQ, fun _ => ⟨fun _ => lc_cell hs h ht h3 hn hQ, fun _ => ⟨fun _ => lc_copy hs h ht h3 hn hQ, fun _ => ⟨fun _ => lc_tell hs h ht h3 hn hQ, fun _ => ⟨fun _ => lc_stamp hs h ht h3 hn hQ, fun _ => ⟨fun _ => lc_as hs h ht h3 hn hQ, fun _ => ⟨fun _ => lc_trace hs h ht h3 hn hQ, fun _ => ⟨fun _ => lc_fault hs h ht h3 hn hQ, fun _ => ⟨fun _ => lc_many hs h ht h3 hn hQ, fun _ => hQ l g (IV_t h ht)⟩⟩⟩⟩⟩⟩⟩⟩⟩⟩⟩⟩⟩⟩⟩⟩⟩⟩⟩⟩⟩⟩⟩⟩⟩⟩⟩⟩⟩⟩⟩⟩
