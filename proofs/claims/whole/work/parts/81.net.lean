/-! ===== the call net ===== -/
/-- the fault's answer and number; (0, 0): none -/
def o_net (S : jB) (k so i m : Int) : Int × Int := if ¬ (0 ≤ k ∧ k ≤ 3) then (-1, 0) else if ¬ (0 ≤ so ∧ so ≤ 2) then (-2, 0) else if S 0 k.toNat = -9 then (-11, 1) else if ¬ S 0 k.toNat = so then (-12, 2) else if ¬ 0 ≤ m then (-14, 4) else if ¬ (0 ≤ i ∧ i ≤ S 1 k.toNat ∧ m ≤ S 1 k.toNat - i) then (-13, 3) else (0, 0)
def gd (S : jB) (k so i m : Int) : Prop := (0 ≤ k ∧ k ≤ 3) ∧ (0 ≤ so ∧ so ≤ 2) ∧ S 0 k.toNat ≠ -9 ∧ S 0 k.toNat = so ∧ 0 ≤ m ∧ 0 ≤ i ∧ i ≤ S 1 k.toNat ∧ m ≤ S 1 k.toNat - i
set_option maxRecDepth 100000 in
theorem sg_X_net_0 {A : jA} {n l : Nat} {g : jv_S} {Q : jv_V → jv_L → jv_S → Prop} {v1 v2 v3 v4 : Int} (h :
   ((2 = 2) ∧ (LLx (LL n l)) ∧ (True)) ∧
    ((jb_p (0 ≤ v1 ∧ v1 ≤ 3)) = 0 →
     Q (jv_I (-1 : Int)) (LL n l) (jv_up g 1 11 (0 : Int))) ∧
    (¬ (jb_p (0 ≤ v1 ∧ v1 ≤ 3)) = 0 →
     ((2 = 2) ∧ (LLx (LL n l)) ∧ (True)) ∧
      ((jb_p (0 ≤ v2 ∧ v2 ≤ 2)) = 0 →
       Q (jv_I (-2 : Int)) (LL n l) (jv_up g 1 11 (0 : Int))) ∧
      (¬ (jb_p (0 ≤ v2 ∧ v2 ≤ 2)) = 0 →
       ((2 = 2) ∧ (LLx (LL n l)) ∧ (0 ≤ v1 ∧ v1 < 4)) ∧
        ((jb_p (¬ (jv_up g 1 11 (0 : Int)) 9 v1 = -1 ∧ ¬ (jv_up g 1 11 (0 : Int)) 8 v1 = v2)) = 0 →
         ((2 = 2) ∧ (LLx (LL n l)) ∧ (0 ≤ v1 ∧ v1 < 4)) ∧
          ((jb_p (¬ (jv_up g 1 11 (0 : Int)) 9 v1 = -1)) = 0 →
           jv_Ca jv_T jv_ml kX_fail [jv_P 1, jv_I (1 : Int)] (LL n l) (jv_up g 1 11 (0 : Int)) (fun r L2 g2 => jv_At jv_T jv_ml kX_net 66 [jv_P 1, jv_I v1, jv_I v2, jv_I v3, jv_I v4, jv_U] (jv_pu r []) L2 g2 Q)) ∧
          (¬ (jb_p (¬ (jv_up g 1 11 (0 : Int)) 9 v1 = -1)) = 0 →
           (0 ≤ v4 →
             ((2 = 2) ∧ (LLx (LL n l)) ∧ (0 ≤ v1 ∧ v1 < 4 ∧ -1 ≤ (jv_up g 1 11 (0 : Int)) 9 v1 ∧ (jv_up g 1 11 (0 : Int)) 9 v1 ≤ 60)) ∧
              ((jb_p (0 ≤ v4 ∧ 0 ≤ v3 ∧ v3 ≤ (jv_up g 1 11 (0 : Int)) 9 v1 ∧ v4 ≤ (jv_up g 1 11 (0 : Int)) 9 v1 - v3)) = 0 →
               jv_Ca jv_T jv_ml kX_fail [jv_P 1, jv_I (3 : Int)] (LL n l) (jv_up g 1 11 (0 : Int)) (fun r L2 g2 => jv_At jv_T jv_ml kX_net 97 [jv_P 1, jv_I v1, jv_I v2, jv_I v3, jv_I v4, jv_U] (jv_pu r []) L2 g2 Q)) ∧
              (¬ (jb_p (0 ≤ v4 ∧ 0 ≤ v3 ∧ v3 ≤ (jv_up g 1 11 (0 : Int)) 9 v1 ∧ v4 ≤ (jv_up g 1 11 (0 : Int)) 9 v1 - v3)) = 0 →
               (0 ≤ v1 ∧ v1 < 4) ∧
                jv_Ca jv_T jv_ml kTx_firstFault [jv_P 10, jv_R 3 v1, jv_I v3, jv_I v4] (LL n l) (jv_up g 1 11 (0 : Int)) (fun r L2 g2 => jv_At jv_T jv_ml kX_net 117 [jv_P 1, jv_I v1, jv_I v2, jv_I v3, jv_I v4, jv_U] (jv_pu r []) L2 g2 Q))) ∧
            (¬ 0 ≤ v4 →
             jv_Ca jv_T jv_ml kX_fail [jv_P 1, jv_I (4 : Int)] (LL n l) (jv_up g 1 11 (0 : Int)) (fun r L2 g2 => jv_At jv_T jv_ml kX_net 77 [jv_P 1, jv_I v1, jv_I v2, jv_I v3, jv_I v4, jv_U] (jv_pu r []) L2 g2 Q)))) ∧
        (¬ (jb_p (¬ (jv_up g 1 11 (0 : Int)) 9 v1 = -1 ∧ ¬ (jv_up g 1 11 (0 : Int)) 8 v1 = v2)) = 0 →
         jv_Ca jv_T jv_ml kX_fail [jv_P 1, jv_I (2 : Int)] (LL n l) (jv_up g 1 11 (0 : Int)) (fun r L2 g2 => jv_At jv_T jv_ml kX_net 49 [jv_P 1, jv_I v1, jv_I v2, jv_I v3, jv_I v4, jv_U] (jv_pu r []) L2 g2 Q))))) :
  jv_At jv_T jv_ml kX_net 0 [jv_P 1, jv_I v1, jv_I v2, jv_I v3, jv_I v4, jv_U] [] (LL n l) g Q :=
  jv_of_wp (gok9 (A := A)) (md := []) (stop := []) (tab := jt_X_net) rfl 400 _ _ _ _ _ h
set_option maxRecDepth 100000 in
theorem sg_X_net_49 {A : jA} {n l : Nat} {g : jv_S} {Q : jv_V → jv_L → jv_S → Prop} {v1 v2 v3 v4 s0 : Int} {v5 : jv_V} (h :
   Q (jv_I s0) (LL n l) g) :
  jv_At jv_T jv_ml kX_net 49 [jv_P 1, jv_I v1, jv_I v2, jv_I v3, jv_I v4, v5] [jv_I s0] (LL n l) g Q :=
  jv_of_wp (gok9 (A := A)) (md := []) (stop := []) (tab := jt_X_net) rfl 400 _ _ _ _ _ h
set_option maxRecDepth 100000 in
theorem sg_X_net_66 {A : jA} {n l : Nat} {g : jv_S} {Q : jv_V → jv_L → jv_S → Prop} {v1 v2 v3 v4 s0 : Int} {v5 : jv_V} (h :
   Q (jv_I s0) (LL n l) g) :
  jv_At jv_T jv_ml kX_net 66 [jv_P 1, jv_I v1, jv_I v2, jv_I v3, jv_I v4, v5] [jv_I s0] (LL n l) g Q :=
  jv_of_wp (gok9 (A := A)) (md := []) (stop := []) (tab := jt_X_net) rfl 400 _ _ _ _ _ h
set_option maxRecDepth 100000 in
theorem sg_X_net_77 {A : jA} {n l : Nat} {g : jv_S} {Q : jv_V → jv_L → jv_S → Prop} {v1 v2 v3 v4 s0 : Int} {v5 : jv_V} (h :
   Q (jv_I s0) (LL n l) g) :
  jv_At jv_T jv_ml kX_net 77 [jv_P 1, jv_I v1, jv_I v2, jv_I v3, jv_I v4, v5] [jv_I s0] (LL n l) g Q :=
  jv_of_wp (gok9 (A := A)) (md := []) (stop := []) (tab := jt_X_net) rfl 400 _ _ _ _ _ h
set_option maxRecDepth 100000 in
theorem sg_X_net_97 {A : jA} {n l : Nat} {g : jv_S} {Q : jv_V → jv_L → jv_S → Prop} {v1 v2 v3 v4 s0 : Int} {v5 : jv_V} (h :
   Q (jv_I s0) (LL n l) g) :
  jv_At jv_T jv_ml kX_net 97 [jv_P 1, jv_I v1, jv_I v2, jv_I v3, jv_I v4, v5] [jv_I s0] (LL n l) g Q :=
  jv_of_wp (gok9 (A := A)) (md := []) (stop := []) (tab := jt_X_net) rfl 400 _ _ _ _ _ h
set_option maxRecDepth 100000 in
theorem sg_X_net_117 {A : jA} {n l : Nat} {g : jv_S} {Q : jv_V → jv_L → jv_S → Prop} {v1 v2 v3 v4 s0 : Int} {v5 : jv_V} (h :
   (s0 = (-9 : Int) →
     jv_Ca jv_T jv_ml kN_build [jv_P 14, jv_P 10] (LL n l) g (fun r L2 g2 => jv_At jv_T jv_ml kX_net 143 [jv_P 1, jv_I v1, jv_I v2, jv_I v3, jv_I v4, jv_I s0] (jv_pu r []) L2 g2 Q)) ∧
    (¬ s0 = (-9 : Int) →
     jv_r32 ((-100 : Int) - s0) ∧
      Q (jv_I ((-100 : Int) - s0)) (LL n l) g)) :
  jv_At jv_T jv_ml kX_net 117 [jv_P 1, jv_I v1, jv_I v2, jv_I v3, jv_I v4, v5] [jv_I s0] (LL n l) g Q :=
  jv_of_wp (gok9 (A := A)) (md := []) (stop := []) (tab := jt_X_net) rfl 400 _ _ _ _ _ h
set_option maxRecDepth 100000 in
theorem sg_X_net_143 {A : jA} {n l : Nat} {g : jv_S} {Q : jv_V → jv_L → jv_S → Prop} {v1 v2 v3 v4 v5 : Int} (h :
   jv_Ca jv_T jv_ml kWy_unbarAll [jv_P 40] (LL n l) g (fun r L2 g2 => jv_At jv_T jv_ml kX_net 150 [jv_P 1, jv_I v1, jv_I v2, jv_I v3, jv_I v4, jv_I v5] (jv_pu r []) L2 g2 Q)) :
  jv_At jv_T jv_ml kX_net 143 [jv_P 1, jv_I v1, jv_I v2, jv_I v3, jv_I v4, jv_I v5] [] (LL n l) g Q :=
  jv_of_wp (gok9 (A := A)) (md := []) (stop := []) (tab := jt_X_net) rfl 400 _ _ _ _ _ h
set_option maxRecDepth 100000 in
theorem sg_X_net_150 {A : jA} {n l : Nat} {g : jv_S} {Q : jv_V → jv_L → jv_S → Prop} {v1 v2 v3 v4 v5 : Int} (h :
   jv_Ca jv_T jv_ml kTr_clear [jv_P 87] (LL n l) g (fun r L2 g2 => jv_At jv_T jv_ml kX_net 157 [jv_P 1, jv_I v1, jv_I v2, jv_I v3, jv_I v4, jv_I v5] (jv_pu r []) L2 g2 Q)) :
  jv_At jv_T jv_ml kX_net 150 [jv_P 1, jv_I v1, jv_I v2, jv_I v3, jv_I v4, jv_I v5] [] (LL n l) g Q :=
  jv_of_wp (gok9 (A := A)) (md := []) (stop := []) (tab := jt_X_net) rfl 400 _ _ _ _ _ h
set_option maxRecDepth 100000 in
theorem sg_X_net_157 {A : jA} {n l : Nat} {g : jv_S} {Q : jv_V → jv_L → jv_S → Prop} {v1 v2 v3 v4 v5 : Int} (h :
   Q (jv_I (g 14 1)) (LL n l) g) :
  jv_At jv_T jv_ml kX_net 157 [jv_P 1, jv_I v1, jv_I v2, jv_I v3, jv_I v4, jv_I v5] [] (LL n l) g Q :=
  jv_of_wp (gok9 (A := A)) (md := []) (stop := []) (tab := jt_X_net) rfl 400 _ _ _ _ _ h
set_option maxRecDepth 100000 in
theorem sg_Y_net_0 {A : jA} {n l : Nat} {g : jv_S} {Q : jv_V → jv_L → jv_S → Prop} {v1 v2 v3 v4 : Int} (h :
   ((LLx (LL n l)) ∧ (True)) ∧
    ((jb_p (0 ≤ v1 ∧ v1 ≤ 3)) = 0 →
     Q (jv_I (-1 : Int)) (LL n l) (jv_up g 136 0 (0 : Int))) ∧
    (¬ (jb_p (0 ≤ v1 ∧ v1 ≤ 3)) = 0 →
     ((LLx (LL n l)) ∧ (True)) ∧
      ((jb_p (0 ≤ v2 ∧ v2 ≤ 2)) = 0 →
       Q (jv_I (-2 : Int)) (LL n l) (jv_up g 136 0 (0 : Int))) ∧
      (¬ (jb_p (0 ≤ v2 ∧ v2 ≤ 2)) = 0 →
       (0 ≤ v1 ∧ v1 < 4) ∧
        ((g 137 v1) = (-9 : Int) →
         (0 ≤ v1 ∧ v1 < 4) ∧
          ((g 137 v1) = (-9 : Int) →
           jv_Ca jv_T jv_ml kY_fails [jv_P 136, jv_I (1 : Int)] (LL n l) (jv_up g 136 0 (0 : Int)) (fun r L2 g2 => jv_At jv_T jv_ml kY_net 67 [jv_P 136, jv_I v1, jv_I v2, jv_I v3, jv_I v4, jv_U, jv_U] (jv_pu r []) L2 g2 Q)) ∧
          (¬ (g 137 v1) = (-9 : Int) →
           (0 ≤ v4 →
             (v3 < 0 →
               jv_Ca jv_T jv_ml kY_fails [jv_P 136, jv_I (3 : Int)] (LL n l) (jv_up g 136 0 (0 : Int)) (fun r L2 g2 => jv_At jv_T jv_ml kY_net 111 [jv_P 136, jv_I v1, jv_I v2, jv_I v3, jv_I v4, jv_U, jv_U] (jv_pu r []) L2 g2 Q)) ∧
              (¬ v3 < 0 →
               (0 ≤ v1 ∧ v1 < 4) ∧
                ((g 138 v1) < v3 →
                 jv_Ca jv_T jv_ml kY_fails [jv_P 136, jv_I (3 : Int)] (LL n l) (jv_up g 136 0 (0 : Int)) (fun r L2 g2 => jv_At jv_T jv_ml kY_net 111 [jv_P 136, jv_I v1, jv_I v2, jv_I v3, jv_I v4, jv_U, jv_U] (jv_pu r []) L2 g2 Q)) ∧
                (¬ (g 138 v1) < v3 →
                 (0 ≤ v1 ∧ v1 < 4) ∧
                  jv_r32 ((g 138 v1) - v3) ∧
                  (v4 ≤ ((g 138 v1) - v3) →
                   jv_r32 ((60 : Int) * v1) ∧
                    jv_r32 (((60 : Int) * v1) + v3) ∧
                    jv_Ca jv_T jv_ml kY_readNet [jv_P 136, jv_I (((60 : Int) * v1) + v3), jv_I v4] (LL n l) (jv_up g 136 0 (0 : Int)) (fun r L2 g2 => jv_At jv_T jv_ml kY_net 124 [jv_P 136, jv_I v1, jv_I v2, jv_I v3, jv_I v4, jv_U, jv_U] (jv_pu r []) L2 g2 Q)) ∧
                  (¬ v4 ≤ ((g 138 v1) - v3) →
                   jv_Ca jv_T jv_ml kY_fails [jv_P 136, jv_I (3 : Int)] (LL n l) (jv_up g 136 0 (0 : Int)) (fun r L2 g2 => jv_At jv_T jv_ml kY_net 111 [jv_P 136, jv_I v1, jv_I v2, jv_I v3, jv_I v4, jv_U, jv_U] (jv_pu r []) L2 g2 Q))))) ∧
            (¬ 0 ≤ v4 →
             jv_Ca jv_T jv_ml kY_fails [jv_P 136, jv_I (4 : Int)] (LL n l) (jv_up g 136 0 (0 : Int)) (fun r L2 g2 => jv_At jv_T jv_ml kY_net 78 [jv_P 136, jv_I v1, jv_I v2, jv_I v3, jv_I v4, jv_U, jv_U] (jv_pu r []) L2 g2 Q)))) ∧
        (¬ (g 137 v1) = (-9 : Int) →
         (0 ≤ v1 ∧ v1 < 4) ∧
          ((g 137 v1) = v2 →
           (0 ≤ v1 ∧ v1 < 4) ∧
            ((g 137 v1) = (-9 : Int) →
             jv_Ca jv_T jv_ml kY_fails [jv_P 136, jv_I (1 : Int)] (LL n l) (jv_up g 136 0 (0 : Int)) (fun r L2 g2 => jv_At jv_T jv_ml kY_net 67 [jv_P 136, jv_I v1, jv_I v2, jv_I v3, jv_I v4, jv_U, jv_U] (jv_pu r []) L2 g2 Q)) ∧
            (¬ (g 137 v1) = (-9 : Int) →
             (0 ≤ v4 →
               (v3 < 0 →
                 jv_Ca jv_T jv_ml kY_fails [jv_P 136, jv_I (3 : Int)] (LL n l) (jv_up g 136 0 (0 : Int)) (fun r L2 g2 => jv_At jv_T jv_ml kY_net 111 [jv_P 136, jv_I v1, jv_I v2, jv_I v3, jv_I v4, jv_U, jv_U] (jv_pu r []) L2 g2 Q)) ∧
                (¬ v3 < 0 →
                 (0 ≤ v1 ∧ v1 < 4) ∧
                  ((g 138 v1) < v3 →
                   jv_Ca jv_T jv_ml kY_fails [jv_P 136, jv_I (3 : Int)] (LL n l) (jv_up g 136 0 (0 : Int)) (fun r L2 g2 => jv_At jv_T jv_ml kY_net 111 [jv_P 136, jv_I v1, jv_I v2, jv_I v3, jv_I v4, jv_U, jv_U] (jv_pu r []) L2 g2 Q)) ∧
                  (¬ (g 138 v1) < v3 →
                   (0 ≤ v1 ∧ v1 < 4) ∧
                    jv_r32 ((g 138 v1) - v3) ∧
                    (v4 ≤ ((g 138 v1) - v3) →
                     jv_r32 ((60 : Int) * v1) ∧
                      jv_r32 (((60 : Int) * v1) + v3) ∧
                      jv_Ca jv_T jv_ml kY_readNet [jv_P 136, jv_I (((60 : Int) * v1) + v3), jv_I v4] (LL n l) (jv_up g 136 0 (0 : Int)) (fun r L2 g2 => jv_At jv_T jv_ml kY_net 124 [jv_P 136, jv_I v1, jv_I v2, jv_I v3, jv_I v4, jv_U, jv_U] (jv_pu r []) L2 g2 Q)) ∧
                    (¬ v4 ≤ ((g 138 v1) - v3) →
                     jv_Ca jv_T jv_ml kY_fails [jv_P 136, jv_I (3 : Int)] (LL n l) (jv_up g 136 0 (0 : Int)) (fun r L2 g2 => jv_At jv_T jv_ml kY_net 111 [jv_P 136, jv_I v1, jv_I v2, jv_I v3, jv_I v4, jv_U, jv_U] (jv_pu r []) L2 g2 Q))))) ∧
              (¬ 0 ≤ v4 →
               jv_Ca jv_T jv_ml kY_fails [jv_P 136, jv_I (4 : Int)] (LL n l) (jv_up g 136 0 (0 : Int)) (fun r L2 g2 => jv_At jv_T jv_ml kY_net 78 [jv_P 136, jv_I v1, jv_I v2, jv_I v3, jv_I v4, jv_U, jv_U] (jv_pu r []) L2 g2 Q)))) ∧
          (¬ (g 137 v1) = v2 →
           jv_Ca jv_T jv_ml kY_fails [jv_P 136, jv_I (2 : Int)] (LL n l) (jv_up g 136 0 (0 : Int)) (fun r L2 g2 => jv_At jv_T jv_ml kY_net 50 [jv_P 136, jv_I v1, jv_I v2, jv_I v3, jv_I v4, jv_U, jv_U] (jv_pu r []) L2 g2 Q)))))) :
  jv_At jv_T jv_ml kY_net 0 [jv_P 136, jv_I v1, jv_I v2, jv_I v3, jv_I v4, jv_U, jv_U] [] (LL n l) g Q :=
  jv_of_wp (gok9 (A := A)) (md := []) (stop := [158]) (tab := jt_Y_net) rfl 400 _ _ _ _ _ h
set_option maxRecDepth 100000 in
theorem sg_Y_net_50 {A : jA} {n l : Nat} {g : jv_S} {Q : jv_V → jv_L → jv_S → Prop} {v1 v2 v3 v4 s0 : Int} {v5 v6 : jv_V} (h :
   Q (jv_I s0) (LL n l) g) :
  jv_At jv_T jv_ml kY_net 50 [jv_P 136, jv_I v1, jv_I v2, jv_I v3, jv_I v4, v5, v6] [jv_I s0] (LL n l) g Q :=
  jv_of_wp (gok9 (A := A)) (md := []) (stop := [158]) (tab := jt_Y_net) rfl 400 _ _ _ _ _ h
set_option maxRecDepth 100000 in
theorem sg_Y_net_67 {A : jA} {n l : Nat} {g : jv_S} {Q : jv_V → jv_L → jv_S → Prop} {v1 v2 v3 v4 s0 : Int} {v5 v6 : jv_V} (h :
   Q (jv_I s0) (LL n l) g) :
  jv_At jv_T jv_ml kY_net 67 [jv_P 136, jv_I v1, jv_I v2, jv_I v3, jv_I v4, v5, v6] [jv_I s0] (LL n l) g Q :=
  jv_of_wp (gok9 (A := A)) (md := []) (stop := [158]) (tab := jt_Y_net) rfl 400 _ _ _ _ _ h
set_option maxRecDepth 100000 in
theorem sg_Y_net_78 {A : jA} {n l : Nat} {g : jv_S} {Q : jv_V → jv_L → jv_S → Prop} {v1 v2 v3 v4 s0 : Int} {v5 v6 : jv_V} (h :
   Q (jv_I s0) (LL n l) g) :
  jv_At jv_T jv_ml kY_net 78 [jv_P 136, jv_I v1, jv_I v2, jv_I v3, jv_I v4, v5, v6] [jv_I s0] (LL n l) g Q :=
  jv_of_wp (gok9 (A := A)) (md := []) (stop := [158]) (tab := jt_Y_net) rfl 400 _ _ _ _ _ h
set_option maxRecDepth 100000 in
theorem sg_Y_net_111 {A : jA} {n l : Nat} {g : jv_S} {Q : jv_V → jv_L → jv_S → Prop} {v1 v2 v3 v4 s0 : Int} {v5 v6 : jv_V} (h :
   Q (jv_I s0) (LL n l) g) :
  jv_At jv_T jv_ml kY_net 111 [jv_P 136, jv_I v1, jv_I v2, jv_I v3, jv_I v4, v5, v6] [jv_I s0] (LL n l) g Q :=
  jv_of_wp (gok9 (A := A)) (md := []) (stop := [158]) (tab := jt_Y_net) rfl 400 _ _ _ _ _ h
set_option maxRecDepth 100000 in
theorem sg_Y_net_124 {A : jA} {n l : Nat} {g : jv_S} {Q : jv_V → jv_L → jv_S → Prop} {v1 v2 v3 v4 s0 : Int} {v5 v6 : jv_V} (h :
   (s0 = (-9 : Int) →
     jv_At jv_T jv_ml kY_net 158 [jv_P 136, jv_I v1, jv_I v2, jv_I v3, jv_I v4, jv_I s0, jv_I (0 : Int)] [] (LL n l) (jv_up (jv_up g 136 5 (g 136 13)) 136 6 (g 136 14)) Q) ∧
    (¬ s0 = (-9 : Int) →
     jv_r32 ((-100 : Int) - s0) ∧
      Q (jv_I ((-100 : Int) - s0)) (LL n l) g)) :
  jv_At jv_T jv_ml kY_net 124 [jv_P 136, jv_I v1, jv_I v2, jv_I v3, jv_I v4, v5, v6] [jv_I s0] (LL n l) g Q :=
  jv_of_wp (gok9 (A := A)) (md := []) (stop := [158]) (tab := jt_Y_net) rfl 400 _ _ _ _ _ h
set_option maxRecDepth 100000 in
theorem sg_Y_net_158 {A : jA} {n l : Nat} {g : jv_S} {Q : jv_V → jv_L → jv_S → Prop} {v1 v2 v3 v4 v5 v6 : Int} (h :
   ((g 136 6) ≤ v6 →
     jv_Ca jv_T jv_ml kY_layFar [jv_P 136] (LL n l) g (fun r L2 g2 => jv_At jv_T jv_ml kY_net 235 [jv_P 136, jv_I v1, jv_I v2, jv_I v3, jv_I v4, jv_I v5, jv_I v6] (jv_pu r []) L2 g2 Q)) ∧
    (¬ (g 136 6) ≤ v6 →
     (0 ≤ v6 ∧ v6 < 10) ∧
      (0 ≤ v6 ∧ v6 < 10) ∧ 
      (0 ≤ v6 ∧ v6 < 10) ∧
      (0 ≤ v6 ∧ v6 < 10) ∧ 
      (0 ≤ v6 ∧ v6 < 10) ∧
      (0 ≤ v6 ∧ v6 < 10) ∧ 
      (0 ≤ v6 ∧ v6 < 10) ∧ 
      (0 ≤ v6 ∧ v6 < 10) ∧ 
      jv_r32 (v6 + (1 : Int)) ∧
      jv_At jv_T jv_ml kY_net 158 [jv_P 136, jv_I v1, jv_I v2, jv_I v3, jv_I v4, jv_I v5, jv_I (v6 + (1 : Int))] [] (LL n l) (jv_up (jv_up (jv_up (jv_up (jv_up g 140 v6 (g 145 v6)) 141 v6 (g 146 v6)) 142 v6 (g 147 v6)) 143 v6 (0 : Int)) 162 v6 (0 : Int)) Q)) :
  jv_At jv_T jv_ml kY_net 158 [jv_P 136, jv_I v1, jv_I v2, jv_I v3, jv_I v4, jv_I v5, jv_I v6] [] (LL n l) g Q :=
  jv_of_wp (gok9 (A := A)) (md := []) (stop := [158]) (tab := jt_Y_net) rfl 400 _ _ _ _ _ h
set_option maxRecDepth 100000 in
theorem sg_Y_net_235 {A : jA} {n l : Nat} {g : jv_S} {Q : jv_V → jv_L → jv_S → Prop} {v1 v2 v3 v4 v5 v6 : Int} (h :
   Q (jv_I (g 136 6)) (LL n l) (jv_up (jv_up g 136 27 (0 : Int)) 136 38 (0 : Int))) :
  jv_At jv_T jv_ml kY_net 235 [jv_P 136, jv_I v1, jv_I v2, jv_I v3, jv_I v4, jv_I v5, jv_I v6] [] (LL n l) g Q :=
  jv_of_wp (gok9 (A := A)) (md := []) (stop := [158]) (tab := jt_Y_net) rfl 400 _ _ _ _ _ h
set_option maxRecDepth 100000 in
theorem sg_Tr_clear_0 {A : jA} {n l : Nat} {g : jv_S} {Q : jv_V → jv_L → jv_S → Prop} (h :
   jv_Ca jv_T jv_ml kAr_fill [jv_P 100, jv_I (0 : Int)] (LL n l) g (fun r L2 g2 => jv_At jv_T jv_ml kTr_clear 8 [jv_P 87] (jv_pu r []) L2 g2 Q)) :
  jv_At jv_T jv_ml kTr_clear 0 [jv_P 87] [] (LL n l) g Q :=
  jv_of_wp (gok9 (A := A)) (md := []) (stop := []) (tab := jt_Tr_clear) rfl 400 _ _ _ _ _ h
set_option maxRecDepth 100000 in
theorem sg_Tr_clear_8 {A : jA} {n l : Nat} {g : jv_S} {Q : jv_V → jv_L → jv_S → Prop} (h :
   Q jv_U (LL n l) (jv_up (jv_up g 87 5 (0 : Int)) 87 6 (0 : Int))) :
  jv_At jv_T jv_ml kTr_clear 8 [jv_P 87] [] (LL n l) g Q :=
  jv_of_wp (gok9 (A := A)) (md := []) (stop := []) (tab := jt_Tr_clear) rfl 400 _ _ _ _ _ h
theorem wx_net {A : jA} {B S : jB} {tr fl rb : Int} {n l t : Nat} {g : jv_S} {Q : jv_V → jv_L → jv_S → Prop} {k so i m : Int} (hS : ShW S) (hC : IC A B S tr fl rb l t g) (hb : ¬ gd S k so i m → ∀ g', IC A B S tr (o_net S k so i m).2 rb l t g' → kC g g' → Q (jv_I (o_net S k so i m).1) (LL n l) g') (hg : gd S k so i m → jv_Ca jv_T jv_ml kTx_firstFault [jv_P 10, jv_R 3 k, jv_I i, jv_I m] (LL n l) (jv_up g 1 11 0) (fun r L2 g2 => jv_At jv_T jv_ml kX_net 117 [jv_P 1, jv_I k, jv_I so, jv_I i, jv_I m, jv_U] (jv_pu r []) L2 g2 Q)) : jv_Ca jv_T jv_ml kX_net [jv_P 1, jv_I k, jv_I so, jv_I i, jv_I m] (LL n l) g Q := by
  have hC0 := IC_f hC 0
  have k0 : kC g (jv_up g 1 11 0) := kC_1 _ _
  have sC := hC.2.2.2.2.2.1
  apply sg_X_net_0 (A := A)
  unfold o_net at hb
  refine ⟨⟨rfl, LLx_ok, trivial⟩, fun h => ?_, fun h => ?_⟩
  · rw [if_pos (jp0.mp h)] at hb
    exact hb (fun h' => jp0.mp h h'.1) _ hC0 k0
  have hk := jnn h
  obtain ⟨a, rfl⟩ := nat_of hk.1
  have ha : a < 4 := by omega
  rw [if_neg (fun h' => h' hk), Int.toNat_natCast] at hb
  refine ⟨⟨rfl, LLx_ok, trivial⟩, fun h2 => ?_, fun h2 => ?_⟩
  · rw [if_pos (jp0.mp h2)] at hb
    exact hb (fun h' => jp0.mp h2 h'.2.1) _ hC0 k0
  have hso := jnn h2
  rw [if_neg (fun h' => h' hso)] at hb
  rw [show jv_up g 1 11 0 9 (a : Int) = g 9 a from up_ne (by omega), show jv_up g 1 11 0 8 (a : Int) = g 8 a from up_ne (by omega)]
  refine ⟨⟨rfl, LLx_ok, by omega⟩, ?_⟩
  rcases sh_c hS sC ha with ⟨e1, e2⟩ | ⟨e1, e2, e3, e4, e5⟩
  · rw [e2]
    rw [if_pos e1] at hb
    exact ⟨fun _ => ⟨⟨rfl, LLx_ok, by omega⟩, fun _ => tr_X_fail hC0 (by omega) rfl (fun g2 a1 a2 => sg_X_net_66 (A := A) (hb (fun h' => h'.2.2.1 e1) g2 a1 (kC_t k0 a2))), fun h' => absurd rfl (jnn h')⟩, fun h' => absurd rfl (jnn h').1⟩
  · rw [e2, e3]
    rw [if_neg e1] at hb
    refine ⟨fun h3 => ?_, fun h3 => ?_⟩
    · have he : S 0 a = so := Classical.byContradiction (fun h' => jp0.mp h3 ⟨by omega, h'⟩)
      rw [if_neg (fun h' => h' he)] at hb
      refine ⟨⟨rfl, LLx_ok, by omega⟩, fun h' => absurd (show ¬ S 1 a = -1 by omega) (jp0.mp h'), fun _ => ⟨fun h4 => ⟨⟨rfl, LLx_ok, by omega⟩, fun h5 => ?_, fun h5 => ?_⟩, fun h4 => ?_⟩⟩
      · have h6 : ¬ (0 ≤ i ∧ i ≤ S 1 a ∧ m ≤ S 1 a - i) := fun h' => jp0.mp h5 ⟨h4, h'⟩
        rw [if_neg (fun h' => h' h4), if_pos h6] at hb
        exact tr_X_fail hC0 (by omega) rfl (fun g2 a1 a2 => sg_X_net_97 (A := A) (hb (fun h' => h6 h'.2.2.2.2.2) g2 a1 (kC_t k0 a2)))
      · exact ⟨by omega, hg ⟨hk, hso, e1, he, h4, (jnn h5).2⟩⟩
      · rw [if_pos h4] at hb
        exact tr_X_fail hC0 (by omega) rfl (fun g2 a1 a2 => sg_X_net_77 (A := A) (hb (fun h' => h4 h'.2.2.2.2.1) g2 a1 (kC_t k0 a2)))
    · have he := (jnn h3).2
      rw [if_pos he] at hb
      exact tr_X_fail hC0 (by omega) rfl (fun g2 a1 a2 => sg_X_net_49 (A := A) (hb (fun h' => he h'.2.2.2.1) g2 a1 (kC_t k0 a2)))
theorem wy_net {A : jA} {B S : jB} {tr fl : Int} {n l : Nat} {g : jv_S} {Q : jv_V → jv_L → jv_S → Prop} {k so i m : Int} (hS : ShW S) (hM : IM A B S tr fl g) (hb : ¬ gd S k so i m → ∀ g', IM A B S tr (o_net S k so i m).2 g' → kM g g' → Q (jv_I (o_net S k so i m).1) (LL n l) g') (hg : gd S k so i m → jv_Ca jv_T jv_ml kY_readNet [jv_P 136, jv_I (60 * k + i), jv_I m] (LL n l) (jv_up g 136 0 0) (fun r L2 g2 => jv_At jv_T jv_ml kY_net 124 [jv_P 136, jv_I k, jv_I so, jv_I i, jv_I m, jv_U, jv_U] (jv_pu r []) L2 g2 Q)) : jv_Ca jv_T jv_ml kY_net [jv_P 136, jv_I k, jv_I so, jv_I i, jv_I m] (LL n l) g Q := by
  have hM0 := IM_f hM 0
  have q0 : kM g (jv_up g 136 0 0) := kM_u _ _ (by omega) (by omega)
  apply sg_Y_net_0 (A := A)
  unfold o_net at hb
  refine ⟨⟨LLx_ok, trivial⟩, fun h => ?_, fun h => ?_⟩
  · rw [if_pos (jp0.mp h)] at hb
    exact hb (fun h' => jp0.mp h h'.1) _ hM0 q0
  have hk := jnn h
  obtain ⟨a, rfl⟩ := nat_of hk.1
  have ha : a < 4 := by omega
  rw [if_neg (fun h' => h' hk), Int.toNat_natCast] at hb
  refine ⟨⟨LLx_ok, trivial⟩, fun h2 => ?_, fun h2 => ?_⟩
  · rw [if_pos (jp0.mp h2)] at hb
    exact hb (fun h' => jp0.mp h2 h'.2.1) _ hM0 q0
  have hso := jnn h2
  rw [if_neg (fun h' => h' hso)] at hb
  obtain ⟨e1, e2⟩ := sh_m hS hM.2.2.1 ha
  rw [e1]
  refine ⟨by omega, fun h3 => ?_, fun h3 => ?_⟩
  · rw [if_pos h3] at hb
    exact ⟨by omega, fun _ => tr_Y_fails hM0 (by omega) rfl (fun g2 a1 a2 => sg_Y_net_67 (A := A) (hb (fun h' => h'.2.2.1 h3) g2 a1 (kM_t q0 a2))), fun h' => absurd h3 h'⟩
  · rcases e2 with e2 | ⟨-, e3, e4, e5⟩
    · exact absurd e2 h3
    rw [e3]
    rw [if_neg h3] at hb
    refine ⟨by omega, fun h4 => ?_, fun h4 => ?_⟩
    · rw [if_neg (fun h' => h' h4)] at hb
      refine ⟨by omega, fun h' => absurd h' h3, fun _ => ⟨fun h5 => ?_, fun h5 => ?_⟩⟩
      · rw [if_neg (fun h' => h' h5)] at hb
        have bad : ¬ (0 ≤ i ∧ i ≤ S 1 a ∧ m ≤ S 1 a - i) → jv_Ca jv_T jv_ml kY_fails [jv_P 136, jv_I 3] (LL n l) (jv_up g 136 0 0) (fun r L2 g2 => jv_At jv_T jv_ml kY_net 111 [jv_P 136, jv_I a, jv_I so, jv_I i, jv_I m, jv_U, jv_U] (jv_pu r []) L2 g2 Q) := fun h6 => by
          rw [if_pos h6] at hb
          exact tr_Y_fails hM0 (by omega) rfl (fun g2 a1 a2 => sg_Y_net_111 (A := A) (hb (fun h' => h6 h'.2.2.2.2.2) g2 a1 (kM_t q0 a2)))
        exact ⟨fun h6 => bad (by omega), fun h6 => ⟨by omega, fun h7 => bad (by omega), fun h7 => ⟨by omega, ⟨by omega, by omega⟩, fun h8 => ⟨⟨by omega, by omega⟩, ⟨by omega, by omega⟩, hg ⟨hk, hso, h3, h4, h5, by omega, by show i ≤ S 1 a; omega, h8⟩⟩, fun h8 => bad (by omega)⟩⟩⟩
      · rw [if_pos h5] at hb
        exact tr_Y_fails hM0 (by omega) rfl (fun g2 a1 a2 => sg_Y_net_78 (A := A) (hb (fun h' => h5 h'.2.2.2.2.1) g2 a1 (kM_t q0 a2)))
    · rw [if_pos h4] at hb
      exact tr_Y_fails hM0 (by omega) rfl (fun g2 a1 a2 => sg_Y_net_50 (A := A) (hb (fun h' => h4 h'.2.2.2.1) g2 a1 (kM_t q0 a2)))
def B0 : jB := fun _ _ => 0
theorem BW_0 {A : jA} : BW A B0 := by
  have e : ∀ a b, B0 a b = 0 := fun _ _ => rfl
  refine ⟨⟨by rw [e]; omega, by rw [e]; omega, by rw [e]; omega⟩, fun c hc => ⟨by rw [e]; omega, by rw [e]; omega⟩, fun c k _ hk => by rw [e] at hk; omega, fun c _ h => by rw [e] at h; omega, fun i hi => by rw [e] at hi; omega⟩
theorem IC_10 {A : jA} {B S : jB} {tr fl rb : Int} {l t : Nat} {g g' : jv_S} (h : IC A B S tr fl rb l t g) (hf : ∀ (p : Nat) (i : Int), ¬ (10 ≤ p ∧ p ≤ 13) → g' p i = g p i) : IC A B S tr fl rb l t g' := by
  obtain ⟨h1, h2, h3, h4, h5, h6, h7, h8⟩ := h
  refine ⟨CN_fr h1 (fun p i a b => hf p i (by omega)), CW40_fr h2 (fun p i a => hf p i (by omega)), by rw [hf 40 5 (by omega)]; exact h3, KK_fr (fun p i a => hf p i (by omega)) h4, TC_fr h5 (fun p i a => hf p i (by omega)), ShC_fr (fun p i a => hf p i (by omega)) h6, by rw [hf 1 10 (by omega), hf 1 11 (by omega)]; exact h7, by rw [hf 104 5 (by omega)]; exact h8⟩
/-- the class lays a good text -/
theorem lx_net {A : jA} {B S : jB} {tr fl rb : Int} {n l t : Nat} {g : jv_S} {Q : jv_V → jv_L → jv_S → Prop} {N M : Nat} {F T R : Nat → Nat} {v1 v2 v3 v4 : Int} {v5 : jv_V} (ht : t < 64) (hC : IC A B S tr fl rb l t g) (ho : okN N M F T R) (f0 : g 10 3 = N) (f1 : g 10 4 = M) (hF : ∀ c : Nat, c < M → g 11 c = F c) (hT : ∀ c : Nat, c < M → g 12 c = T c) (hR : ∀ c : Nat, c < M → g 13 c = R c)
  (hQ : ∀ g', IC (mkA N M (ru A) F T R) B0 S tr fl (174 + l) l (t + 1) g' → kC g g' → Q (jv_I (M : Nat)) (LL n l) g') : jv_At jv_T jv_ml kX_net 117 [jv_P 1, jv_I v1, jv_I v2, jv_I v3, jv_I v4, v5] [jv_I (-9)] (LL n l) g Q := by
  obtain ⟨h1, h2, h3, h4, h5, h6, h7, h8⟩ := hC
  apply sg_X_net_117 (A := A)
  refine ⟨fun _ => ?_, fun h' => absurd rfl h'⟩
  refine tr_N_build ho h1.1.2.2.1 f0 f1 hF hT hR (fun g1 a1 a2 => ?_)
  apply sg_X_net_143 (A := A)
  have e5 : g1 40 5 = g 40 5 := a2 _ _ (by omega)
  refine tr_Wy_unbarAll a1 (by rw [a2 _ _ (by omega)]; exact h2.1) (fun c hc => rfl) (by rw [e5]; omega) (fun g2 b1 b2 b3 => ?_)
  apply sg_X_net_150 (A := A)
  apply sg_Tr_clear_0 (A := A)
  refine tr_Ar_fill_100 (fun g3 c1 c2 => ?_)
  apply sg_Tr_clear_8 (A := A)
  apply sg_X_net_157 (A := A)
  have fr : ∀ (p : Nat) (i : Int), ¬ (14 ≤ p ∧ p ≤ 59) → ¬ (p = 87 ∨ p = 100) → jv_up (jv_up g3 87 5 0) 87 6 0 p i = g p i := fun p i hp hp2 => by
    rw [up_ne (by omega), up_ne (by omega), c2 _ _ (by omega), b3 _ _ (by omega), a2 _ _ (by omega)]
  have fr2 : ∀ (p : Nat) (i : Int), ¬ (p = 87 ∨ p = 100) → jv_up (jv_up g3 87 5 0) 87 6 0 p i = g2 p i := fun p i hp2 => by
    rw [up_ne (by omega), up_ne (by omega), c2 _ _ (by omega)]
  have fr1 : ∀ (p : Nat) (i : Int), (14 ≤ p ∧ p ≤ 39) → jv_up (jv_up g3 87 5 0) 87 6 0 p i = g1 p i := fun p i hp => by
    rw [fr2 _ _ (by omega), b3 _ _ (by omega)]
  have hN := CN_fr (g' := jv_up (jv_up g3 87 5 0) 87 6 0) a1 (fun p i a b => fr1 p i ⟨a, b⟩)
  have hl : jv_up (jv_up g3 87 5 0) 87 6 0 14 1 = (M : Int) := hN.2.2.1
  have h45 : jv_up (jv_up g3 87 5 0) 87 6 0 40 5 = g 40 5 + 1 := by rw [fr2 _ _ (by omega), b2, e5]
  refine qv (hQ _ ⟨hN, CW40_fr b1 (fun p i hp => fr2 p i (by omega)), by rw [h45]; omega, KK_old h45 (fun p i hp => fr p i (by omega) (by omega)) h4, ⟨⟨by rw [up_ne (by omega)]; exact up_eq rfl rfl, up_eq rfl rfl⟩, fun c hc => ?_, fun c k _ hk => ?_, ⟨by omega, by show (174 + l : Int) + 0 ≤ 174 + l; omega⟩, fun i hi => ?_⟩, ShC_fr (fun p i hp => fr p i (by omega) (by omega)) h6, by rw [fr _ _ (by omega) (by omega), fr _ _ (by omega) (by omega)]; exact h7, by rw [fr _ _ (by omega) (by omega)]; omega⟩ (fun p i hp => fr p i (by omega) (by omega))) hl.symm
  · have hc' : c < M := hc
    have := ho.2.1
    rw [up_ne (by omega), up_ne (by omega)]
    exact c1 c (by omega) (by omega)
  · have hk : (k : Int) < 0 := hk
    omega
  · have hi : (i : Int) < 0 := hi
    omega
/-- the model lays it -/
theorem ly_net {A : jA} {B S : jB} {tr fl : Int} {n l : Nat} {g : jv_S} {Q : jv_V → jv_L → jv_S → Prop} {N M : Nat} {F T R : Nat → Nat} {v1 v2 v3 v4 : Int} {v5 v6 : jv_V} (hM : IM A B S tr fl g) (ho : okN N M F T R) (f0 : g 136 13 = N) (f1 : g 136 14 = M) (hF : ∀ c : Nat, c < M → g 145 c = F c) (hT : ∀ c : Nat, c < M → g 146 c = T c) (hR : ∀ c : Nat, c < M → g 147 c = R c)
  (hQ : ∀ g', IM (mkA N M (ru A) F T R) B0 S tr fl g' → kM g g' → Q (jv_I (M : Nat)) (LL n l) g') : jv_At jv_T jv_ml kY_net 124 [jv_P 136, jv_I v1, jv_I v2, jv_I v3, jv_I v4, v5, v6] [jv_I (-9)] (LL n l) g Q := by
  obtain ⟨m1, m2, m3, m4, m5⟩ := hM
  have o2 := ho.2.1
  apply sg_Y_net_124 (A := A)
  refine ⟨fun _ => ?_, fun h' => absurd rfl h'⟩
  rw [f0, f1]
  have main : ∀ c, c ≤ M → ∀ g1 : jv_S, (∀ i : Nat, i < c → g1 140 i = F i ∧ g1 141 i = T i ∧ g1 142 i = R i ∧ g1 143 i = 0 ∧ g1 162 i = 0) → (∀ (p : Nat) (i : Int), ¬ (p = 140 ∨ p = 141 ∨ p = 142 ∨ p = 143 ∨ p = 162) → g1 p i = jv_up (jv_up g 136 5 N) 136 6 M p i) → jv_At jv_T jv_ml kY_net 158 [jv_P 136, jv_I v1, jv_I v2, jv_I v3, jv_I v4, jv_I (-9), jv_I c] [] (LL n l) g1 Q := by
    apply loop_up
    intro c hc ih g1 b1 b2
    have g6 : g1 136 6 = M := by rw [b2 _ _ (by omega), up_eq rfl rfl]
    have g5 : g1 136 5 = N := by rw [b2 _ _ (by omega), up_ne (by omega), up_eq rfl rfl]
    apply sg_Y_net_158 (A := A)
    rw [g6]
    refine ⟨fun h => ?_, fun h => ?_⟩
    · have hcM : c = M := by omega
      subst hcM
      refine tr_Y_layFar (A := A) (N := N) (m := c) (F := F) (T := T) (R := R) ho g5 g6 (fun i hi => (b1 i hi).1) (fun i hi => (b1 i hi).2.1) (fun g2 d1 d2 => ?_)
      apply sg_Y_net_235 (A := A)
      have fr : ∀ (p : Nat) (i : Int), ¬ (p = 140 ∨ p = 141 ∨ p = 142 ∨ p = 143 ∨ p = 144 ∨ p = 162) → ¬ (p = 136 ∧ (i = 5 ∨ i = 6 ∨ i = 27 ∨ i = 38)) → jv_up (jv_up g2 136 27 0) 136 38 0 p i = g p i := fun p i hp hp2 => by
        rw [up_ne (by omega), up_ne (by omega), d2 _ _ (by omega), b2 _ _ (by omega), up_ne (by omega), up_ne (by omega)]
      have g26 : g2 136 6 = (c : Int) := by rw [d2 _ _ (by omega)]; exact g6
      rw [g26]
      refine hQ _ ⟨⟨mkA_wf ho m1.1.2.2.1, ?_, ?_, ?_, fun i hi => ?_, fun x y hx hy => ?_⟩, ⟨⟨?_, up_eq rfl rfl⟩, fun i hi => ?_, fun i k _ hk => ?_, fun i hi => ?_⟩, ShM_fr (fun p i hp => fr p i (by omega) (by omega)) m3, by rw [fr _ _ (by omega) (by omega)]; exact m4, by rw [fr _ _ (by omega) (by omega)]; exact m5⟩ (fun p i hp => fr p i (by omega) (by omega))
      · rw [up_ne (by omega), up_ne (by omega), d2 _ _ (by omega)]; exact g5
      · rw [up_ne (by omega), up_ne (by omega)]; exact g26
      · rw [fr _ _ (by omega) (by omega)]; exact m1.2.2.2.1
      · have hi' : i < c := hi
        obtain ⟨q1, q2, q3, q4, q5⟩ := b1 i hi'
        rw [up_ne (by omega), up_ne (by omega), up_ne (by omega), up_ne (by omega), up_ne (by omega), up_ne (by omega), up_ne (by omega), up_ne (by omega), d2 _ _ (by omega), d2 _ _ (by omega), d2 _ _ (by omega), d2 _ _ (by omega)]
        exact ⟨q1, q2, q3, q4⟩
      · rw [up_ne (by omega), up_ne (by omega)]
        exact d1 x y hx hy
      · rw [up_ne (by omega)]
        exact up_eq rfl rfl
      · have hi' : i < c := hi
        rw [up_ne (by omega), up_ne (by omega), d2 _ _ (by omega)]
        exact (b1 i hi').2.2.2.2
      · have hk : (k : Int) < 0 := hk
        omega
      · have hi : (i : Int) < 0 := hi
        omega
    · have hc' : c < M := by omega
      have b10 : 0 ≤ (c : Int) ∧ (c : Int) < 10 := by omega
      have x1 : g1 145 c = F c := by rw [b2 _ _ (by omega), up_ne (by omega), up_ne (by omega)]; exact hF c hc'
      have x2 : g1 146 c = T c := by rw [b2 _ _ (by omega), up_ne (by omega), up_ne (by omega)]; exact hT c hc'
      have x3 : g1 147 c = R c := by rw [b2 _ _ (by omega), up_ne (by omega), up_ne (by omega)]; exact hR c hc'
      rw [x1, x2, x3]
      refine ⟨b10, b10, b10, b10, b10, b10, b10, b10, ⟨by omega, by omega⟩, ih hc' _ (fun i hi => ?_) (fun p i hp => ?_)⟩
      · by_cases he : i = c
        · subst he
          refine ⟨?_, ?_, ?_, ?_, up_eq rfl rfl⟩
          · rw [up_ne (by omega), up_ne (by omega), up_ne (by omega), up_ne (by omega), up_eq rfl rfl]
          · rw [up_ne (by omega), up_ne (by omega), up_ne (by omega), up_eq rfl rfl]
          · rw [up_ne (by omega), up_ne (by omega), up_eq rfl rfl]
          · rw [up_ne (by omega), up_eq rfl rfl]
        · obtain ⟨q1, q2, q3, q4, q5⟩ := b1 i (by omega)
          refine ⟨?_, ?_, ?_, ?_, ?_⟩
          · rw [up_ne (by omega), up_ne (by omega), up_ne (by omega), up_ne (by omega), up_ne (by omega)]; exact q1
          · rw [up_ne (by omega), up_ne (by omega), up_ne (by omega), up_ne (by omega), up_ne (by omega)]; exact q2
          · rw [up_ne (by omega), up_ne (by omega), up_ne (by omega), up_ne (by omega), up_ne (by omega)]; exact q3
          · rw [up_ne (by omega), up_ne (by omega), up_ne (by omega), up_ne (by omega), up_ne (by omega)]; exact q4
          · rw [up_ne (by omega), up_ne (by omega), up_ne (by omega), up_ne (by omega), up_ne (by omega)]; exact q5
      · rw [up_ne (by omega), up_ne (by omega), up_ne (by omega), up_ne (by omega), up_ne (by omega)]
        exact b2 p i hp
  exact main 0 (by omega) _ (fun i hi => by omega) (fun _ _ _ => rfl)
theorem st_net {s : Int → Int} {n l t : Nat} {g : jv_S} {k so i m : Int} (h : IV s l t g) (ht : t < 64) : CI s n t kX_net kY_net [jv_I k, jv_I so, jv_I i, jv_I m] l g := by
  obtain ⟨h0, A, B, S, tr, fl, rb, hP, hC, hM⟩ := h
  have hS := hP.2.2.2.2.2.1
  have hC0 := IC_f hC 0
  have k0 : kC g (jv_up g 1 11 0) := kC_1 _ _
  refine wx_net hS hC (fun hb g1 c1 c2 => ?_) (fun hg => ?_)
  · have h01 : ∀ i, g1 0 i = s i := fun i => by rw [c2 0 i (by omega)]; exact h0 i
    exact ⟨_, l, rfl, rfl, h01, wy_net hS (IM_fr hM c2) (fun _ g2 d1 d2 => ⟨rfl, rfl, IV_mk h01 (PW_t hP ht) (IC_t c1) d2 d1⟩) (fun hg => absurd hg hb)⟩
  obtain ⟨a, ha⟩ := nat_of hg.1.1
  obtain ⟨b, hb⟩ := nat_of hg.2.2.2.2.2.1
  obtain ⟨z, hz⟩ := nat_of hg.2.2.2.2.1
  subst ha hb hz
  have hg' := hg
  obtain ⟨g1', g2', g3', g4', g5', g6', g7', g8'⟩ := hg'
  rw [Int.toNat_natCast] at g3' g4' g7' g8'
  have ha : a < 4 := by omega
  have hlen : S 1 a ≤ 60 := by
    rcases (hS a ha).1 with e | e
    · exact absurd e g3'
    · exact e.2.2
  refine tr_Tx_firstFault (A := A) (k := a) (i := b) (m := z) (f := fun j => S (2 + a) (b + j)) (by omega) (fun j hj => ?_) (fun j hj => (hS a ha).2 _ (by omega)) (fun g1 v a1 a2 a3 => ?_)
  · have := (hC0.2.2.2.2.2.1 a ha).2.2 (b + j) (by omega)
    rw [show (a : Int) * 60 + ((b : Int) + j) = (a : Int) * 60 + ((b + j : Nat) : Int) by omega]
    exact this
  have hC1 := IC_10 hC0 a3
  have k1 : kC g g1 := kC_t k0 (fun p i hp => a3 p i (by omega))
  have model : ∀ (gx : jv_S) (Q : jv_V → jv_L → jv_S → Prop), kC g gx → (∀ g2 : jv_S, (v = -9 → RN (aut (fun j => S (2 + a) (b + j)) z) g2) → IM A B S tr 0 g2 → kM gx g2 → jv_At jv_T jv_ml kY_net 124 [jv_P 136, jv_I a, jv_I so, jv_I b, jv_I z, jv_U, jv_U] [jv_I v] (LL n l) g2 Q) → jv_Ca jv_T jv_ml kY_net [jv_P 136, jv_I a, jv_I so, jv_I b, jv_I z] (LL n l) gx Q := by
    intro gx Q kx hQ
    have hMx := IM_fr hM kx
    have hM0 := IM_f hMx 0
    have q0 : kM gx (jv_up gx 136 0 0) := kM_u _ _ (by omega) (by omega)
    refine wy_net hS hMx (fun hb => absurd hg hb) (fun _ => ?_)
    rw [show 60 * (a : Int) + b = ((60 * a + b : Nat) : Int) by omega]
    refine tr_Y_readNet (A := A) (a := 60 * a + b) (m := z) (f := fun j => S (2 + a) (b + j)) (by omega) (fun j hj => ?_) (fun g2 v' b1 b2 b3 => ?_)
    · have := (hM0.2.2.1 a ha).2.2 (b + j) (by omega)
      rw [show ((60 * a + b : Nat) : Int) + (j : Int) = 60 * (a : Int) + ((b + j : Nat) : Int) by omega]
      exact this
    · have ev := FF_u b1 a1
      subst ev
      exact hQ g2 b2 (IM_s hM0 (fun p i hp => b3 p i (by omega))) (kM_t q0 (fun p i hp => b3 p i (by omega)))
  by_cases hv : v = -9
  · subst hv
    have hU : okj (fun j => S (2 + a) (b + j)) z ∧ (aut (fun j => S (2 + a) (b + j)) z 0 0 = 6 ∨ aut (fun j => S (2 + a) (b + j)) z 0 0 = 8) := by
      rcases a1 with ⟨j, -, -, -, e⟩ | ⟨e1, e2, -⟩ | ⟨-, -, e⟩
      · omega
      · exact ⟨e1, e2⟩
      · omega
    have hAU := AU_j z hU.1
    have hx := a2 rfl
    generalize aut (fun j => S (2 + a) (b + j)) z = U at hU hAU hx model
    obtain ⟨u1, u2, u3, u4, u5, u6, u7, u8⟩ := hAU
    obtain ⟨x1, x2, x3, x4, x5⟩ := hx
    have u2 := u2 (by omega)
    have u5 := u5 (by omega)
    obtain ⟨N, hN⟩ := nat_of (c := U 0 1) (by omega)
    obtain ⟨M, hM'⟩ := nat_of (c := U 0 2) (by omega)
    have ho : okN N M (fun c => (U 1 c).toNat) (fun c => (U 2 c).toNat) (fun c => (U 3 c).toNat) := by
      refine ⟨by omega, by omega, fun c hc => ?_⟩
      obtain ⟨w1, w2, w3, w4, w5⟩ := u8 c (by omega)
      dsimp only
      refine ⟨by omega, by omega, by omega, by omega, by omega⟩
    have tn : ∀ c : Nat, c < M → U 1 c = ((U 1 c).toNat : Int) ∧ U 2 c = ((U 2 c).toNat : Int) ∧ U 3 c = ((U 3 c).toNat : Int) := fun c hc => by
      obtain ⟨w1, w2, w3, w4, w5⟩ := u8 c (by omega)
      exact ⟨by omega, by omega, by omega⟩
    refine lx_net ht hC1 ho (by rw [x2, hN]) (by rw [x3, hM']) (fun c hc => by rw [(x4 c (by omega)).1]; exact (tn c hc).1) (fun c hc => by rw [(x4 c (by omega)).2.1]; exact (tn c hc).2.1) (fun c hc => by rw [(x4 c (by omega)).2.2]; exact (tn c hc).2.2) (fun g2 d1 d2 => ?_)
    have k2 := kC_t k1 d2
    have h02 : ∀ i, g2 0 i = s i := fun i => by rw [k2 0 i (by omega)]; exact h0 i
    refine ⟨_, l, rfl, rfl, h02, model g2 _ k2 (fun g3 hR hM3 k3 => ?_)⟩
    obtain ⟨y1, y2, y3⟩ := hR rfl
    refine ly_net hM3 ho (by rw [y1, hN]) (by rw [y2, hM']) (fun c hc => by rw [(y3 c (by omega)).1]; exact (tn c hc).1) (fun c hc => by rw [(y3 c (by omega)).2.1]; exact (tn c hc).2.1) (fun c hc => by rw [(y3 c (by omega)).2.2]; exact (tn c hc).2.2) (fun g4 q1 q2 => ⟨rfl, rfl, ?_⟩)
    obtain ⟨p1, p2, p3, p4, p5, p6, p7⟩ := PW_t hP ht
    exact IV_mk h02 ⟨BW_0, ⟨fun _ => rfl, fun _ => rfl⟩, by show (0 : Int) ≤ 50 * ((t + 1 : Nat) : Int); omega, by show (174 + (l : Int)) + 0 = _; omega, p5, hS, p7⟩ d1 (kM_t k3 q2) q1
  · have hv2 : 0 ≤ v ∧ v ≤ 60 := by
      rcases a1 with ⟨j, e1, -, -, e⟩ | ⟨e1, e2, e3⟩ | ⟨-, -, e⟩
      · omega
      · exact absurd e3 hv
      · omega
    apply sg_X_net_117 (A := A)
    refine ⟨fun h' => absurd h' hv, fun _ => ⟨⟨by omega, by omega⟩, ?_⟩⟩
    have h01 : ∀ i, g1 0 i = s i := fun i => by rw [k1 0 i (by omega)]; exact h0 i
    refine ⟨_, l, rfl, rfl, h01, model g1 _ k1 (fun g2 _ hM2 k2 => ?_)⟩
    apply sg_Y_net_124 (A := A)
    exact ⟨fun h' => absurd h' hv, fun _ => ⟨⟨by omega, by omega⟩, rfl, rfl, IV_mk h01 (PW_t hP ht) (IC_t hC1) k2 hM2⟩⟩
