/-! ===== the call copy ===== -/
theorem cq_in {g : jv_S} {ps pd : Nat} {os od m j : Int} (h : od ≤ j ∧ j < od + m) : jv_cp g ps os pd od m pd j = g ps (os + (j - od)) := if_pos ⟨rfl, h⟩
theorem cq_out {g : jv_S} {ps pd q : Nat} {os od m j : Int} (h : ¬ (q = pd ∧ od ≤ j ∧ j < od + m)) : jv_cp g ps os pd od m q j = g q j := if_neg h
/-- m cells of sheet a from b on into sheet c from d on -/
def cS (S : jB) (a b c d m : Nat) : jB := fun p q => if p = 2 + c ∧ d ≤ q ∧ q < d + m then S (2 + a) (b + (q - d)) else S p q
theorem cS_in {S : jB} {a b c d m q : Nat} (h : d ≤ q ∧ q < d + m) : cS S a b c d m (2 + c) q = S (2 + a) (b + (q - d)) := if_pos ⟨rfl, h⟩
theorem cS_out {S : jB} {a b c d m p q : Nat} (h : ¬ (p = 2 + c ∧ d ≤ q ∧ q < d + m)) : cS S a b c d m p q = S p q := if_neg h
theorem ShW_cS {S : jB} {a b c d m : Nat} (h : ShW S) (ha : a < 4) (hb : b + m ≤ 60) : ShW (cS S a b c d m) := by
  intro k hk
  obtain ⟨h1, h2⟩ := h k hk
  rw [cS_out (by omega), cS_out (by omega)]
  refine ⟨h1, fun i hi => ?_⟩
  by_cases he : 2 + k = 2 + c ∧ d ≤ i ∧ i < d + m
  · obtain ⟨e1, e2⟩ := he
    rw [e1, cS_in e2]
    exact (h a ha).2 _ (by omega)
  · rw [cS_out he]; exact h2 i hi
def o_copy (S : jB) (k i o j m : Int) : Int × Int × jB := if ¬ (0 ≤ k ∧ k ≤ 3) then (-1, 0, S) else if ¬ (0 ≤ o ∧ o ≤ 3) then (-1, 0, S) else if S 0 k.toNat = -9 then (-11, 1, S) else if S 0 o.toNat = -9 then (-11, 1, S) else if ¬ S 0 k.toNat = S 0 o.toNat then (-12, 2, S) else if ¬ (0 ≤ m ∧ 0 ≤ i ∧ i ≤ S 1 k.toNat ∧ m ≤ S 1 k.toNat - i) then (-13, 3, S) else if ¬ (0 ≤ m ∧ 0 ≤ j ∧ j ≤ S 1 o.toNat ∧ m ≤ S 1 o.toNat - j) then (-13, 3, S) else (m, 0, cS S k.toNat i.toNat o.toNat j.toNat m.toNat)
set_option maxRecDepth 100000 in
theorem sg_X_copy_0 {A : jA} {n l : Nat} {g : jv_S} {Q : jv_V → jv_L → jv_S → Prop} {v1 v2 v3 v4 v5 : Int} (h :
   ((2 = 2) ∧ (LLx (LL n l)) ∧ (True)) ∧
    ((jb_p (0 ≤ v1 ∧ v1 ≤ 3)) = 0 →
     Q (jv_I (-1 : Int)) (LL n l) (jv_up g 1 11 (0 : Int))) ∧
    (¬ (jb_p (0 ≤ v1 ∧ v1 ≤ 3)) = 0 →
     ((2 = 2) ∧ (LLx (LL n l)) ∧ (True)) ∧
      ((jb_p (0 ≤ v3 ∧ v3 ≤ 3)) = 0 →
       Q (jv_I (-1 : Int)) (LL n l) (jv_up g 1 11 (0 : Int))) ∧
      (¬ (jb_p (0 ≤ v3 ∧ v3 ≤ 3)) = 0 →
       ((2 = 2) ∧ (LLx (LL n l)) ∧ (0 ≤ v1 ∧ v1 < 4)) ∧
        ((jb_p (¬ (jv_up g 1 11 (0 : Int)) 9 v1 = -1)) = 0 →
         jv_Ca jv_T jv_ml kX_fail [jv_P 1, jv_I (1 : Int)] (LL n l) (jv_up g 1 11 (0 : Int)) (fun r L2 g2 => jv_At jv_T jv_ml kX_copy 56 [jv_P 1, jv_I v1, jv_I v2, jv_I v3, jv_I v4, jv_I v5] (jv_pu r []) L2 g2 Q)) ∧
        (¬ (jb_p (¬ (jv_up g 1 11 (0 : Int)) 9 v1 = -1)) = 0 →
         ((2 = 2) ∧ (LLx (LL n l)) ∧ (0 ≤ v3 ∧ v3 < 4)) ∧
          ((jb_p (¬ (jv_up g 1 11 (0 : Int)) 9 v3 = -1)) = 0 →
           jv_Ca jv_T jv_ml kX_fail [jv_P 1, jv_I (1 : Int)] (LL n l) (jv_up g 1 11 (0 : Int)) (fun r L2 g2 => jv_At jv_T jv_ml kX_copy 56 [jv_P 1, jv_I v1, jv_I v2, jv_I v3, jv_I v4, jv_I v5] (jv_pu r []) L2 g2 Q)) ∧
          (¬ (jb_p (¬ (jv_up g 1 11 (0 : Int)) 9 v3 = -1)) = 0 →
           (0 ≤ v1 ∧ v1 < 4) ∧
            (0 ≤ v3 ∧ v3 < 4) ∧
            ((g 8 v1) = (g 8 v3) →
             ((2 = 2) ∧ (LLx (LL n l)) ∧ (0 ≤ v1 ∧ v1 < 4 ∧ -1 ≤ (jv_up g 1 11 (0 : Int)) 9 v1 ∧ (jv_up g 1 11 (0 : Int)) 9 v1 ≤ 60)) ∧
              ((jb_p (0 ≤ v5 ∧ 0 ≤ v2 ∧ v2 ≤ (jv_up g 1 11 (0 : Int)) 9 v1 ∧ v5 ≤ (jv_up g 1 11 (0 : Int)) 9 v1 - v2)) = 0 →
               jv_Ca jv_T jv_ml kX_fail [jv_P 1, jv_I (3 : Int)] (LL n l) (jv_up g 1 11 (0 : Int)) (fun r L2 g2 => jv_At jv_T jv_ml kX_copy 118 [jv_P 1, jv_I v1, jv_I v2, jv_I v3, jv_I v4, jv_I v5] (jv_pu r []) L2 g2 Q)) ∧
              (¬ (jb_p (0 ≤ v5 ∧ 0 ≤ v2 ∧ v2 ≤ (jv_up g 1 11 (0 : Int)) 9 v1 ∧ v5 ≤ (jv_up g 1 11 (0 : Int)) 9 v1 - v2)) = 0 →
               ((2 = 2) ∧ (LLx (LL n l)) ∧ (0 ≤ v3 ∧ v3 < 4 ∧ -1 ≤ (jv_up g 1 11 (0 : Int)) 9 v3 ∧ (jv_up g 1 11 (0 : Int)) 9 v3 ≤ 60)) ∧
                ((jb_p (0 ≤ v5 ∧ 0 ≤ v4 ∧ v4 ≤ (jv_up g 1 11 (0 : Int)) 9 v3 ∧ v5 ≤ (jv_up g 1 11 (0 : Int)) 9 v3 - v4)) = 0 →
                 jv_Ca jv_T jv_ml kX_fail [jv_P 1, jv_I (3 : Int)] (LL n l) (jv_up g 1 11 (0 : Int)) (fun r L2 g2 => jv_At jv_T jv_ml kX_copy 118 [jv_P 1, jv_I v1, jv_I v2, jv_I v3, jv_I v4, jv_I v5] (jv_pu r []) L2 g2 Q)) ∧
                (¬ (jb_p (0 ≤ v5 ∧ 0 ≤ v4 ∧ v4 ≤ (jv_up g 1 11 (0 : Int)) 9 v3 ∧ v5 ≤ (jv_up g 1 11 (0 : Int)) 9 v3 - v4)) = 0 →
                 (0 ≤ v1 ∧ v1 < 4) ∧
                  (0 ≤ v3 ∧ v3 < 4) ∧
                  (0 ≤ v2 ∧ 0 ≤ v4 ∧ 0 ≤ v5 ∧ v2 + v5 ≤ 60 ∧ v4 + v5 ≤ 60) ∧
                  Q (jv_I v5) (LL n l) (jv_cp (jv_up g 1 11 (0 : Int)) 3 (v1 * 60 + v2) 3 (v3 * 60 + v4) v5)))) ∧
            (¬ (g 8 v1) = (g 8 v3) →
             jv_Ca jv_T jv_ml kX_fail [jv_P 1, jv_I (2 : Int)] (LL n l) (jv_up g 1 11 (0 : Int)) (fun r L2 g2 => jv_At jv_T jv_ml kX_copy 83 [jv_P 1, jv_I v1, jv_I v2, jv_I v3, jv_I v4, jv_I v5] (jv_pu r []) L2 g2 Q))))))) :
  jv_At jv_T jv_ml kX_copy 0 [jv_P 1, jv_I v1, jv_I v2, jv_I v3, jv_I v4, jv_I v5] [] (LL n l) g Q :=
  jv_of_wp (gok9 (A := A)) (md := []) (stop := []) (tab := jt_X_copy) rfl 400 _ _ _ _ _ h
set_option maxRecDepth 100000 in
theorem sg_X_copy_56 {A : jA} {n l : Nat} {g : jv_S} {Q : jv_V → jv_L → jv_S → Prop} {v1 v2 v3 v4 v5 s0 : Int} (h :
   Q (jv_I s0) (LL n l) g) :
  jv_At jv_T jv_ml kX_copy 56 [jv_P 1, jv_I v1, jv_I v2, jv_I v3, jv_I v4, jv_I v5] [jv_I s0] (LL n l) g Q :=
  jv_of_wp (gok9 (A := A)) (md := []) (stop := []) (tab := jt_X_copy) rfl 400 _ _ _ _ _ h
set_option maxRecDepth 100000 in
theorem sg_X_copy_83 {A : jA} {n l : Nat} {g : jv_S} {Q : jv_V → jv_L → jv_S → Prop} {v1 v2 v3 v4 v5 s0 : Int} (h :
   Q (jv_I s0) (LL n l) g) :
  jv_At jv_T jv_ml kX_copy 83 [jv_P 1, jv_I v1, jv_I v2, jv_I v3, jv_I v4, jv_I v5] [jv_I s0] (LL n l) g Q :=
  jv_of_wp (gok9 (A := A)) (md := []) (stop := []) (tab := jt_X_copy) rfl 400 _ _ _ _ _ h
set_option maxRecDepth 100000 in
theorem sg_X_copy_118 {A : jA} {n l : Nat} {g : jv_S} {Q : jv_V → jv_L → jv_S → Prop} {v1 v2 v3 v4 v5 s0 : Int} (h :
   Q (jv_I s0) (LL n l) g) :
  jv_At jv_T jv_ml kX_copy 118 [jv_P 1, jv_I v1, jv_I v2, jv_I v3, jv_I v4, jv_I v5] [jv_I s0] (LL n l) g Q :=
  jv_of_wp (gok9 (A := A)) (md := []) (stop := []) (tab := jt_X_copy) rfl 400 _ _ _ _ _ h
set_option maxRecDepth 100000 in
theorem sg_Y_copy_0 {A : jA} {n l : Nat} {g : jv_S} {Q : jv_V → jv_L → jv_S → Prop} {v1 v2 v3 v4 v5 : Int} (h :
   ((LLx (LL n l)) ∧ (True)) ∧
    ((jb_p (0 ≤ v1 ∧ v1 ≤ 3)) = 0 →
     Q (jv_I (-1 : Int)) (LL n l) (jv_up g 136 0 (0 : Int))) ∧
    (¬ (jb_p (0 ≤ v1 ∧ v1 ≤ 3)) = 0 →
     ((LLx (LL n l)) ∧ (True)) ∧
      ((jb_p (0 ≤ v3 ∧ v3 ≤ 3)) = 0 →
       Q (jv_I (-1 : Int)) (LL n l) (jv_up g 136 0 (0 : Int))) ∧
      (¬ (jb_p (0 ≤ v3 ∧ v3 ≤ 3)) = 0 →
       (0 ≤ v1 ∧ v1 < 4) ∧
        ((g 137 v1) = (-9 : Int) →
         jv_Ca jv_T jv_ml kY_fails [jv_P 136, jv_I (1 : Int)] (LL n l) (jv_up g 136 0 (0 : Int)) (fun r L2 g2 => jv_At jv_T jv_ml kY_copy 48 [jv_P 136, jv_I v1, jv_I v2, jv_I v3, jv_I v4, jv_I v5, jv_U, jv_U, jv_U, jv_U] (jv_pu r []) L2 g2 Q)) ∧
        (¬ (g 137 v1) = (-9 : Int) →
         (0 ≤ v3 ∧ v3 < 4) ∧
          ((g 137 v3) = (-9 : Int) →
           jv_Ca jv_T jv_ml kY_fails [jv_P 136, jv_I (1 : Int)] (LL n l) (jv_up g 136 0 (0 : Int)) (fun r L2 g2 => jv_At jv_T jv_ml kY_copy 48 [jv_P 136, jv_I v1, jv_I v2, jv_I v3, jv_I v4, jv_I v5, jv_U, jv_U, jv_U, jv_U] (jv_pu r []) L2 g2 Q)) ∧
          (¬ (g 137 v3) = (-9 : Int) →
           (0 ≤ v1 ∧ v1 < 4) ∧
            (0 ≤ v3 ∧ v3 < 4) ∧
            ((g 137 v1) = (g 137 v3) →
             (v2 < 0 →
               jv_At jv_T jv_ml kY_copy 110 [jv_P 136, jv_I v1, jv_I v2, jv_I v3, jv_I v4, jv_I v5, jv_U, jv_U, jv_U, jv_U] [jv_I (0 : Int)] (LL n l) (jv_up g 136 0 (0 : Int)) Q) ∧
              (¬ v2 < 0 →
               (v4 < 0 →
                 jv_At jv_T jv_ml kY_copy 110 [jv_P 136, jv_I v1, jv_I v2, jv_I v3, jv_I v4, jv_I v5, jv_U, jv_U, jv_U, jv_U] [jv_I (0 : Int)] (LL n l) (jv_up g 136 0 (0 : Int)) Q) ∧
                (¬ v4 < 0 →
                 (v5 < 0 →
                   jv_At jv_T jv_ml kY_copy 110 [jv_P 136, jv_I v1, jv_I v2, jv_I v3, jv_I v4, jv_I v5, jv_U, jv_U, jv_U, jv_U] [jv_I (0 : Int)] (LL n l) (jv_up g 136 0 (0 : Int)) Q) ∧
                  (¬ v5 < 0 →
                   (0 ≤ v1 ∧ v1 < 4) ∧
                    ((g 138 v1) < v2 →
                     jv_At jv_T jv_ml kY_copy 110 [jv_P 136, jv_I v1, jv_I v2, jv_I v3, jv_I v4, jv_I v5, jv_U, jv_U, jv_U, jv_U] [jv_I (0 : Int)] (LL n l) (jv_up g 136 0 (0 : Int)) Q) ∧
                    (¬ (g 138 v1) < v2 →
                     (0 ≤ v3 ∧ v3 < 4) ∧
                      ((g 138 v3) < v4 →
                       jv_At jv_T jv_ml kY_copy 110 [jv_P 136, jv_I v1, jv_I v2, jv_I v3, jv_I v4, jv_I v5, jv_U, jv_U, jv_U, jv_U] [jv_I (0 : Int)] (LL n l) (jv_up g 136 0 (0 : Int)) Q) ∧
                      (¬ (g 138 v3) < v4 →
                       jv_At jv_T jv_ml kY_copy 110 [jv_P 136, jv_I v1, jv_I v2, jv_I v3, jv_I v4, jv_I v5, jv_U, jv_U, jv_U, jv_U] [jv_I (1 : Int)] (LL n l) (jv_up g 136 0 (0 : Int)) Q)))))) ∧
            (¬ (g 137 v1) = (g 137 v3) →
             jv_Ca jv_T jv_ml kY_fails [jv_P 136, jv_I (2 : Int)] (LL n l) (jv_up g 136 0 (0 : Int)) (fun r L2 g2 => jv_At jv_T jv_ml kY_copy 69 [jv_P 136, jv_I v1, jv_I v2, jv_I v3, jv_I v4, jv_I v5, jv_U, jv_U, jv_U, jv_U] (jv_pu r []) L2 g2 Q))))))) :
  jv_At jv_T jv_ml kY_copy 0 [jv_P 136, jv_I v1, jv_I v2, jv_I v3, jv_I v4, jv_I v5, jv_U, jv_U, jv_U, jv_U] [] (LL n l) g Q :=
  jv_of_wp (gok9 (A := A)) (md := []) (stop := [110, 144, 166]) (tab := jt_Y_copy) rfl 400 _ _ _ _ _ h
set_option maxRecDepth 100000 in
theorem sg_Y_copy_48 {A : jA} {n l : Nat} {g : jv_S} {Q : jv_V → jv_L → jv_S → Prop} {v1 v2 v3 v4 v5 s0 : Int} {v6 v7 v8 v9 : jv_V} (h :
   Q (jv_I s0) (LL n l) g) :
  jv_At jv_T jv_ml kY_copy 48 [jv_P 136, jv_I v1, jv_I v2, jv_I v3, jv_I v4, jv_I v5, v6, v7, v8, v9] [jv_I s0] (LL n l) g Q :=
  jv_of_wp (gok9 (A := A)) (md := []) (stop := [110, 144, 166]) (tab := jt_Y_copy) rfl 400 _ _ _ _ _ h
set_option maxRecDepth 100000 in
theorem sg_Y_copy_69 {A : jA} {n l : Nat} {g : jv_S} {Q : jv_V → jv_L → jv_S → Prop} {v1 v2 v3 v4 v5 s0 : Int} {v6 v7 v8 v9 : jv_V} (h :
   Q (jv_I s0) (LL n l) g) :
  jv_At jv_T jv_ml kY_copy 69 [jv_P 136, jv_I v1, jv_I v2, jv_I v3, jv_I v4, jv_I v5, v6, v7, v8, v9] [jv_I s0] (LL n l) g Q :=
  jv_of_wp (gok9 (A := A)) (md := []) (stop := [110, 144, 166]) (tab := jt_Y_copy) rfl 400 _ _ _ _ _ h
set_option maxRecDepth 100000 in
theorem sg_Y_copy_110 {A : jA} {n l : Nat} {g : jv_S} {Q : jv_V → jv_L → jv_S → Prop} {v1 v2 v3 v4 v5 s0 : Int} {v6 v7 v8 v9 : jv_V} (h :
   (s0 = 0 →
     jv_At jv_T jv_ml kY_copy 144 [jv_P 136, jv_I v1, jv_I v2, jv_I v3, jv_I v4, jv_I v5, jv_I s0, v7, v8, v9] [] (LL n l) g Q) ∧
    (¬ s0 = 0 →
     (0 ≤ v1 ∧ v1 < 4) ∧
      jv_r32 ((g 138 v1) - v2) ∧
      (((g 138 v1) - v2) < v5 →
       jv_At jv_T jv_ml kY_copy 144 [jv_P 136, jv_I v1, jv_I v2, jv_I v3, jv_I v4, jv_I v5, jv_I s0, v7, v8, v9] [] (LL n l) g Q) ∧
      (¬ ((g 138 v1) - v2) < v5 →
       (0 ≤ v3 ∧ v3 < 4) ∧
        jv_r32 ((g 138 v3) - v4) ∧
        (v5 ≤ ((g 138 v3) - v4) →
         (v4 ≤ v2 →
           jv_At jv_T jv_ml kY_copy 166 [jv_P 136, jv_I v1, jv_I v2, jv_I v3, jv_I v4, jv_I v5, jv_I s0, jv_I (0 : Int), jv_I (0 : Int), v9] [] (LL n l) g Q) ∧
          (¬ v4 ≤ v2 →
           jv_At jv_T jv_ml kY_copy 166 [jv_P 136, jv_I v1, jv_I v2, jv_I v3, jv_I v4, jv_I v5, jv_I s0, jv_I (1 : Int), jv_I (0 : Int), v9] [] (LL n l) g Q)) ∧
        (¬ v5 ≤ ((g 138 v3) - v4) →
         jv_At jv_T jv_ml kY_copy 144 [jv_P 136, jv_I v1, jv_I v2, jv_I v3, jv_I v4, jv_I v5, jv_I s0, v7, v8, v9] [] (LL n l) g Q)))) :
  jv_At jv_T jv_ml kY_copy 110 [jv_P 136, jv_I v1, jv_I v2, jv_I v3, jv_I v4, jv_I v5, v6, v7, v8, v9] [jv_I s0] (LL n l) g Q :=
  jv_of_wp (gok9 (A := A)) (md := []) (stop := [110, 144, 166]) (tab := jt_Y_copy) rfl 400 _ _ _ _ _ h
set_option maxRecDepth 100000 in
theorem sg_Y_copy_144 {A : jA} {n l : Nat} {g : jv_S} {Q : jv_V → jv_L → jv_S → Prop} {v1 v2 v3 v4 v5 v6 : Int} {v7 v8 v9 : jv_V} (h :
   jv_Ca jv_T jv_ml kY_fails [jv_P 136, jv_I (3 : Int)] (LL n l) g (fun r L2 g2 => jv_At jv_T jv_ml kY_copy 149 [jv_P 136, jv_I v1, jv_I v2, jv_I v3, jv_I v4, jv_I v5, jv_I v6, v7, v8, v9] (jv_pu r []) L2 g2 Q)) :
  jv_At jv_T jv_ml kY_copy 144 [jv_P 136, jv_I v1, jv_I v2, jv_I v3, jv_I v4, jv_I v5, jv_I v6, v7, v8, v9] [] (LL n l) g Q :=
  jv_of_wp (gok9 (A := A)) (md := []) (stop := [110, 144, 166]) (tab := jt_Y_copy) rfl 400 _ _ _ _ _ h
set_option maxRecDepth 100000 in
theorem sg_Y_copy_149 {A : jA} {n l : Nat} {g : jv_S} {Q : jv_V → jv_L → jv_S → Prop} {v1 v2 v3 v4 v5 v6 s0 : Int} {v7 v8 v9 : jv_V} (h :
   Q (jv_I s0) (LL n l) g) :
  jv_At jv_T jv_ml kY_copy 149 [jv_P 136, jv_I v1, jv_I v2, jv_I v3, jv_I v4, jv_I v5, jv_I v6, v7, v8, v9] [jv_I s0] (LL n l) g Q :=
  jv_of_wp (gok9 (A := A)) (md := []) (stop := [110, 144, 166]) (tab := jt_Y_copy) rfl 400 _ _ _ _ _ h
set_option maxRecDepth 100000 in
theorem sg_Y_copy_166 {A : jA} {n l : Nat} {g : jv_S} {Q : jv_V → jv_L → jv_S → Prop} {v1 v2 v3 v4 v5 v6 v7 v8 : Int} {v9 : jv_V} (h :
   (v5 ≤ v8 →
     Q (jv_I v5) (LL n l) g) ∧
    (¬ v5 ≤ v8 →
     (v7 = 0 →
       jv_r32 ((60 : Int) * v3) ∧
        jv_r32 (((60 : Int) * v3) + v4) ∧
        jv_r32 ((((60 : Int) * v3) + v4) + v8) ∧
        jv_r32 ((60 : Int) * v1) ∧
        jv_r32 (((60 : Int) * v1) + v2) ∧
        jv_r32 ((((60 : Int) * v1) + v2) + v8) ∧
        (0 ≤ ((((60 : Int) * v1) + v2) + v8) ∧ ((((60 : Int) * v1) + v2) + v8) < 240) ∧
        (0 ≤ ((((60 : Int) * v3) + v4) + v8) ∧ ((((60 : Int) * v3) + v4) + v8) < 240) ∧ 
        jv_r32 (v8 + (1 : Int)) ∧
        jv_At jv_T jv_ml kY_copy 166 [jv_P 136, jv_I v1, jv_I v2, jv_I v3, jv_I v4, jv_I v5, jv_I v6, jv_I v7, jv_I (v8 + (1 : Int)), jv_I v8] [] (LL n l) (jv_up g 139 ((((60 : Int) * v3) + v4) + v8) (g 139 ((((60 : Int) * v1) + v2) + v8))) Q) ∧
      (¬ v7 = 0 →
       jv_r32 (v5 - (1 : Int)) ∧
        jv_r32 ((v5 - (1 : Int)) - v8) ∧
        jv_r32 ((60 : Int) * v3) ∧
        jv_r32 (((60 : Int) * v3) + v4) ∧
        jv_r32 ((((60 : Int) * v3) + v4) + ((v5 - (1 : Int)) - v8)) ∧
        jv_r32 ((60 : Int) * v1) ∧
        jv_r32 (((60 : Int) * v1) + v2) ∧
        jv_r32 ((((60 : Int) * v1) + v2) + ((v5 - (1 : Int)) - v8)) ∧
        (0 ≤ ((((60 : Int) * v1) + v2) + ((v5 - (1 : Int)) - v8)) ∧ ((((60 : Int) * v1) + v2) + ((v5 - (1 : Int)) - v8)) < 240) ∧
        (0 ≤ ((((60 : Int) * v3) + v4) + ((v5 - (1 : Int)) - v8)) ∧ ((((60 : Int) * v3) + v4) + ((v5 - (1 : Int)) - v8)) < 240) ∧ 
        jv_r32 (v8 + (1 : Int)) ∧
        jv_At jv_T jv_ml kY_copy 166 [jv_P 136, jv_I v1, jv_I v2, jv_I v3, jv_I v4, jv_I v5, jv_I v6, jv_I v7, jv_I (v8 + (1 : Int)), jv_I ((v5 - (1 : Int)) - v8)] [] (LL n l) (jv_up g 139 ((((60 : Int) * v3) + v4) + ((v5 - (1 : Int)) - v8)) (g 139 ((((60 : Int) * v1) + v2) + ((v5 - (1 : Int)) - v8)))) Q))) :
  jv_At jv_T jv_ml kY_copy 166 [jv_P 136, jv_I v1, jv_I v2, jv_I v3, jv_I v4, jv_I v5, jv_I v6, jv_I v7, jv_I v8, v9] [] (LL n l) g Q :=
  jv_of_wp (gok9 (A := A)) (md := []) (stop := [110, 144, 166]) (tab := jt_Y_copy) rfl 400 _ _ _ _ _ h
theorem cx_copy {A : jA} {B S : jB} {tr fl rb : Int} {n l t : Nat} {g : jv_S} {k i o j m : Int} (hS : ShW S) (hC : IC A B S tr fl rb l t g) : jv_Ca jv_T jv_ml kX_copy [jv_P 1, jv_I k, jv_I i, jv_I o, jv_I j, jv_I m] (LL n l) g (fun r L g' => r = jv_I (o_copy S k i o j m).1 ∧ L = LL n l ∧ IC A B (o_copy S k i o j m).2.2 tr (o_copy S k i o j m).2.1 rb l t g' ∧ kC g g') := by
  have hC0 := IC_f hC 0
  have k0 : kC g (jv_up g 1 11 0) := kC_1 _ _
  have sC := hC.2.2.2.2.2.1
  have sC0 := hC0.2.2.2.2.2.1
  apply sg_X_copy_0 (A := A)
  unfold o_copy
  refine ⟨⟨rfl, LLx_ok, trivial⟩, fun h => ?_, fun h => ?_⟩
  · rw [if_pos (jp0.mp h)]
    exact ⟨rfl, rfl, hC0, k0⟩
  have hk := jnn h
  obtain ⟨a, rfl⟩ := nat_of hk.1
  have ha : a < 4 := by omega
  rw [if_neg (fun h' => h' hk), Int.toNat_natCast]
  refine ⟨⟨rfl, LLx_ok, trivial⟩, fun h2 => ?_, fun h2 => ?_⟩
  · rw [if_pos (jp0.mp h2)]
    exact ⟨rfl, rfl, hC0, k0⟩
  have ho := jnn h2
  obtain ⟨c, rfl⟩ := nat_of ho.1
  have hc : c < 4 := by omega
  rw [if_neg (fun h' => h' ho), Int.toNat_natCast]
  rw [show jv_up g 1 11 0 9 (a : Int) = g 9 a from up_ne (by omega), show jv_up g 1 11 0 9 (c : Int) = g 9 c from up_ne (by omega)]
  refine ⟨⟨rfl, LLx_ok, by omega⟩, ?_⟩
  rcases sh_c hS sC ha with ⟨e1, e2⟩ | ⟨e1, e2, e3, e4, e5⟩
  · rw [e2, if_pos e1]
    exact ⟨fun _ => tr_X_fail hC0 (by omega) rfl (fun g2 a1 a2 => sg_X_copy_56 (A := A) ⟨rfl, rfl, a1, kC_t k0 a2⟩), fun h' => absurd rfl (jnn h')⟩
  rw [e2, if_neg e1]
  refine ⟨fun h' => absurd (show ¬ S 1 a = -1 by omega) (jp0.mp h'), fun _ => ⟨⟨rfl, LLx_ok, by omega⟩, ?_⟩⟩
  rcases sh_c hS sC hc with ⟨d1, d2⟩ | ⟨d1, d2, d3, d4, d5⟩
  · rw [d2, if_pos d1]
    exact ⟨fun _ => tr_X_fail hC0 (by omega) rfl (fun g2 a1 a2 => sg_X_copy_56 (A := A) ⟨rfl, rfl, a1, kC_t k0 a2⟩), fun h' => absurd rfl (jnn h')⟩
  rw [d2, d3, e3, if_neg d1]
  refine ⟨fun h' => absurd (show ¬ S 1 c = -1 by omega) (jp0.mp h'), fun _ => ⟨by omega, by omega, fun h3 => ?_, fun h3 => ?_⟩⟩
  · rw [if_neg (fun h' => h' h3)]
    refine ⟨⟨rfl, LLx_ok, by omega⟩, fun h4 => ?_, fun h4 => ⟨⟨rfl, LLx_ok, by omega⟩, fun h5 => ?_, fun h5 => ?_⟩⟩
    · rw [if_pos (jp0.mp h4)]
      exact tr_X_fail hC0 (by omega) rfl (fun g2 a1 a2 => sg_X_copy_118 (A := A) ⟨rfl, rfl, a1, kC_t k0 a2⟩)
    · rw [if_neg (fun h' => h' (jnn h4)), if_pos (jp0.mp h5)]
      exact tr_X_fail hC0 (by omega) rfl (fun g2 a1 a2 => sg_X_copy_118 (A := A) ⟨rfl, rfl, a1, kC_t k0 a2⟩)
    · have q1 := jnn h4
      have q2 := jnn h5
      rw [if_neg (fun h' => h' q1), if_neg (fun h' => h' q2)]
      obtain ⟨b, rfl⟩ := nat_of q1.2.1
      obtain ⟨d, rfl⟩ := nat_of q2.2.1
      obtain ⟨z, rfl⟩ := nat_of q1.1
      rw [Int.toNat_natCast, Int.toNat_natCast, Int.toNat_natCast]
      dsimp only
      refine ⟨by omega, by omega, ⟨by omega, by omega, by omega, by omega, by omega⟩, rfl, rfl, IC_sh hC0 (fun p i hp => cq_out (by omega)) (fun q hq => ?_), kC_t k0 (fun p i hp => cq_out (by omega))⟩
      obtain ⟨z1, z2, z3⟩ := sC0 q hq
      rw [cS_out (by omega), cS_out (by omega), cq_out (by omega), cq_out (by omega)]
      refine ⟨z1, z2, fun x hx => ?_⟩
      by_cases he : 2 + q = 2 + c ∧ d ≤ x ∧ x < d + z
      · obtain ⟨w1, w2⟩ := he
        have w3 : q = c := by omega
        subst w3
        rw [cS_in w2, cq_in (by omega), show (a : Int) * 60 + b + ((q : Int) * 60 + x - ((q : Int) * 60 + d)) = (a : Int) * 60 + ((b + (x - d) : Nat) : Int) by omega]
        exact (sC0 a ha).2.2 _ (by omega)
      · rw [cS_out he, cq_out (by omega)]
        exact z3 x hx
  · rw [if_pos h3]
    exact tr_X_fail hC0 (by omega) rfl (fun g2 a1 a2 => sg_X_copy_83 (A := A) ⟨rfl, rfl, a1, kC_t k0 a2⟩)
theorem cy_copy {A : jA} {B S : jB} {tr fl : Int} {n l : Nat} {g : jv_S} {k i o j m : Int} (hS : ShW S) (hM : IM A B S tr fl g) : jv_Ca jv_T jv_ml kY_copy [jv_P 136, jv_I k, jv_I i, jv_I o, jv_I j, jv_I m] (LL n l) g (fun r L g' => r = jv_I (o_copy S k i o j m).1 ∧ L = LL n l ∧ IM A B (o_copy S k i o j m).2.2 tr (o_copy S k i o j m).2.1 g' ∧ kM g g') := by
  have hM0 := IM_f hM 0
  have q0 : kM g (jv_up g 136 0 0) := kM_u _ _ (by omega) (by omega)
  apply sg_Y_copy_0 (A := A)
  unfold o_copy
  refine ⟨⟨LLx_ok, trivial⟩, fun h => ?_, fun h => ?_⟩
  · rw [if_pos (jp0.mp h)]
    exact ⟨rfl, rfl, hM0, q0⟩
  have hk := jnn h
  obtain ⟨a, rfl⟩ := nat_of hk.1
  have ha : a < 4 := by omega
  rw [if_neg (fun h' => h' hk), Int.toNat_natCast]
  refine ⟨⟨LLx_ok, trivial⟩, fun h2 => ?_, fun h2 => ?_⟩
  · rw [if_pos (jp0.mp h2)]
    exact ⟨rfl, rfl, hM0, q0⟩
  have ho := jnn h2
  obtain ⟨c, rfl⟩ := nat_of ho.1
  have hc : c < 4 := by omega
  rw [if_neg (fun h' => h' ho), Int.toNat_natCast]
  obtain ⟨e1, e2⟩ := sh_m hS hM.2.2.1 ha
  obtain ⟨d1, d2⟩ := sh_m hS hM.2.2.1 hc
  rw [e1, d1]
  refine ⟨by omega, fun h3 => ?_, fun h3 => ⟨by omega, fun h4 => ?_, fun h4 => ⟨by omega, by omega, fun h5 => ?_, fun h5 => ?_⟩⟩⟩
  · rw [if_pos h3]
    exact tr_Y_fails hM0 (by omega) rfl (fun g2 a1 a2 => sg_Y_copy_48 (A := A) ⟨rfl, rfl, a1, kM_t q0 a2⟩)
  · rw [if_neg h3, if_pos h4]
    exact tr_Y_fails hM0 (by omega) rfl (fun g2 a1 a2 => sg_Y_copy_48 (A := A) ⟨rfl, rfl, a1, kM_t q0 a2⟩)
  · rcases e2 with e2 | ⟨-, e3, e4, e5⟩
    · exact absurd e2 h3
    rcases d2 with d2 | ⟨-, d3, d4, d5⟩
    · exact absurd d2 h4
    rw [if_neg h3, if_neg h4, if_neg (fun h' => h' h5), e3, d3]
    have f3 : jv_up g 136 0 0 138 (a : Int) = S 1 a := by rw [up_ne (by omega)]; exact e3
    have f4 : jv_up g 136 0 0 138 (c : Int) = S 1 c := by rw [up_ne (by omega)]; exact d3
    -- what is not there
    have bad : ¬ ((0 ≤ m ∧ 0 ≤ i ∧ i ≤ S 1 a ∧ m ≤ S 1 a - i) ∧ (0 ≤ m ∧ 0 ≤ j ∧ j ≤ S 1 c ∧ m ≤ S 1 c - j)) → ∀ (v6 : Int) (v7 v8 v9 : jv_V), jv_At jv_T jv_ml kY_copy 144 [jv_P 136, jv_I a, jv_I i, jv_I c, jv_I j, jv_I m, jv_I v6, v7, v8, v9] [] (LL n l) (jv_up g 136 0 0) (fun r L g' => r = jv_I (if ¬ (0 ≤ m ∧ 0 ≤ i ∧ i ≤ S 1 a ∧ m ≤ S 1 a - i) then ((-13 : Int), (3 : Int), S) else if ¬ (0 ≤ m ∧ 0 ≤ j ∧ j ≤ S 1 c ∧ m ≤ S 1 c - j) then (-13, 3, S) else (m, 0, cS S a i.toNat c j.toNat m.toNat)).1 ∧ L = LL n l ∧ IM A B (if ¬ (0 ≤ m ∧ 0 ≤ i ∧ i ≤ S 1 a ∧ m ≤ S 1 a - i) then ((-13 : Int), (3 : Int), S) else if ¬ (0 ≤ m ∧ 0 ≤ j ∧ j ≤ S 1 c ∧ m ≤ S 1 c - j) then (-13, 3, S) else (m, 0, cS S a i.toNat c j.toNat m.toNat)).2.2 tr (if ¬ (0 ≤ m ∧ 0 ≤ i ∧ i ≤ S 1 a ∧ m ≤ S 1 a - i) then ((-13 : Int), (3 : Int), S) else if ¬ (0 ≤ m ∧ 0 ≤ j ∧ j ≤ S 1 c ∧ m ≤ S 1 c - j) then (-13, 3, S) else (m, 0, cS S a i.toNat c j.toNat m.toNat)).2.1 g' ∧ kM g g') := by
      intro hb v6 v7 v8 v9
      apply sg_Y_copy_144 (A := A)
      have e : (if ¬ (0 ≤ m ∧ 0 ≤ i ∧ i ≤ S 1 a ∧ m ≤ S 1 a - i) then ((-13 : Int), (3 : Int), S) else if ¬ (0 ≤ m ∧ 0 ≤ j ∧ j ≤ S 1 c ∧ m ≤ S 1 c - j) then (-13, 3, S) else (m, 0, cS S a i.toNat c j.toNat m.toNat)) = (-13, 3, S) := by
        by_cases z1 : 0 ≤ m ∧ 0 ≤ i ∧ i ≤ S 1 a ∧ m ≤ S 1 a - i
        · rw [if_neg (fun h' => h' z1), if_pos (fun z2 => hb ⟨z1, z2⟩)]
        · rw [if_pos z1]
      rw [e]
      exact tr_Y_fails hM0 (by omega) rfl (fun g2 a1 a2 => sg_Y_copy_149 (A := A) ⟨rfl, rfl, a1, kM_t q0 a2⟩)
    have no : ¬ (0 ≤ m ∧ 0 ≤ i ∧ i ≤ S 1 a ∧ 0 ≤ j ∧ j ≤ S 1 c) → jv_At jv_T jv_ml kY_copy 110 [jv_P 136, jv_I a, jv_I i, jv_I c, jv_I j, jv_I m, jv_U, jv_U, jv_U, jv_U] [jv_I 0] (LL n l) (jv_up g 136 0 0) _ := fun hb => sg_Y_copy_110 (A := A) ⟨fun _ => bad (fun h' => hb ⟨h'.1.1, h'.1.2.1, h'.1.2.2.1, h'.2.2.1, h'.2.2.2.1⟩) _ _ _ _, fun h' => absurd rfl h'⟩
    refine ⟨fun h6 => no (by omega), fun h6 => ⟨fun h7 => no (by omega), fun h7 => ⟨fun h8 => no (by omega), fun h8 => ⟨by omega, fun h9 => no (by omega), fun h9 => ⟨by omega, fun h10 => no (by omega), fun h10 => ?_⟩⟩⟩⟩⟩
    apply sg_Y_copy_110 (A := A)
    rw [f3, f4]
    refine ⟨fun h' => absurd h' (by decide), fun _ => ⟨by omega, ⟨by omega, by omega⟩, fun h11 => bad (by omega) _ _ _ _, fun h11 => ⟨by omega, ⟨by omega, by omega⟩, fun h12 => ?_, fun h12 => bad (by omega) _ _ _ _⟩⟩⟩
    obtain ⟨b, rfl⟩ := nat_of (c := i) (by omega)
    obtain ⟨d, rfl⟩ := nat_of (c := j) (by omega)
    obtain ⟨z, rfl⟩ := nat_of (c := m) (by omega)
    rw [if_neg (fun h' => h' (by omega)), if_neg (fun h' => h' (by omega)), Int.toNat_natCast, Int.toNat_natCast, Int.toNat_natCast]
    dsimp only
    have fin : ∀ g2 : jv_S, (∀ x : Int, g2 139 x = if 60 * (c : Int) + d ≤ x ∧ x < 60 * (c : Int) + d + z then jv_up g 136 0 0 139 (60 * (a : Int) + b + (x - (60 * (c : Int) + d))) else jv_up g 136 0 0 139 x) → (∀ (p : Nat) (x : Int), ¬ p = 139 → g2 p x = jv_up g 136 0 0 p x) → IM A B (cS S a b c d z) tr 0 g2 ∧ kM g g2 := by
      intro g2 b1 b2
      refine ⟨IM_sh hM0 (fun p i hp => b2 _ _ (by omega)) (fun q hq => ?_), kM_t q0 (fun p i hp => b2 _ _ (by omega))⟩
      obtain ⟨z1, z2, z3⟩ := hM0.2.2.1 q hq
      rw [cS_out (by omega), cS_out (by omega), b2 _ _ (by omega), b2 _ _ (by omega)]
      refine ⟨z1, z2, fun x hx => ?_⟩
      rw [b1]
      by_cases he : 2 + q = 2 + c ∧ d ≤ x ∧ x < d + z
      · obtain ⟨w1, w2⟩ := he
        have w3 : q = c := by omega
        subst w3
        rw [cS_in w2, if_pos (by omega), show 60 * (a : Int) + b + (60 * (q : Int) + x - (60 * (q : Int) + d)) = 60 * (a : Int) + ((b + (x - d) : Nat) : Int) by omega]
        exact (hM0.2.2.1 a ha).2.2 _ (by omega)
      · rw [cS_out he, if_neg (by omega)]
        exact z3 x hx
    refine ⟨fun hd => ?_, fun hd => ?_⟩
    · have main : ∀ q, q ≤ z → ∀ (v9 : jv_V) (g2 : jv_S), (∀ x : Int, g2 139 x = if 60 * (c : Int) + d ≤ x ∧ x < 60 * (c : Int) + d + q then jv_up g 136 0 0 139 (60 * (a : Int) + b + (x - (60 * (c : Int) + d))) else jv_up g 136 0 0 139 x) → (∀ (p : Nat) (x : Int), ¬ p = 139 → g2 p x = jv_up g 136 0 0 p x) → jv_At jv_T jv_ml kY_copy 166 [jv_P 136, jv_I a, jv_I b, jv_I c, jv_I d, jv_I z, jv_I 1, jv_I 0, jv_I q, v9] [] (LL n l) g2 (fun r L g' => r = jv_I z ∧ L = LL n l ∧ IM A B (cS S a b c d z) tr 0 g' ∧ kM g g') := by
        apply loop_up
        intro q hq ih v9 g2 b1 b2
        apply sg_Y_copy_166 (A := A)
        refine ⟨fun h13 => ?_, fun h13 => ⟨fun _ => ?_, fun h' => absurd rfl h'⟩⟩
        · obtain ⟨r1, r2⟩ := fin g2 (by rw [← show q = z by omega]; exact b1) b2
          exact ⟨rfl, rfl, r1, r2⟩
        · refine ⟨⟨by omega, by omega⟩, ⟨by omega, by omega⟩, ⟨by omega, by omega⟩, ⟨by omega, by omega⟩, ⟨by omega, by omega⟩, ⟨by omega, by omega⟩, ⟨by omega, by omega⟩, ⟨by omega, by omega⟩, ⟨by omega, by omega⟩, ih (by omega) _ _ (fun x => ?_) (fun p x hp => by rw [up_ne (by omega)]; exact b2 p x hp)⟩
          have e : g2 139 (60 * (a : Int) + b + q) = jv_up g 136 0 0 139 (60 * (a : Int) + b + q) := by
            rw [b1, if_neg (by omega)]
          rw [e]
          by_cases hx : x = 60 * (c : Int) + d + q
          · rw [up_eq rfl hx, if_pos (by omega), hx, show 60 * (a : Int) + b + (60 * (c : Int) + d + q - (60 * (c : Int) + d)) = 60 * (a : Int) + b + q by omega]
          · rw [up_ne (by omega), b1]
            by_cases hy : 60 * (c : Int) + d ≤ x ∧ x < 60 * (c : Int) + d + q
            · rw [if_pos hy, if_pos (by omega)]
            · rw [if_neg hy, if_neg (by omega)]
      exact main 0 (by omega) _ _ (fun x => by rw [if_neg (by omega)]) (fun _ _ _ => rfl)
    · have main : ∀ q, q ≤ z → ∀ (v9 : jv_V) (g2 : jv_S), (∀ x : Int, g2 139 x = if 60 * (c : Int) + d + z - q ≤ x ∧ x < 60 * (c : Int) + d + z then jv_up g 136 0 0 139 (60 * (a : Int) + b + (x - (60 * (c : Int) + d))) else jv_up g 136 0 0 139 x) → (∀ (p : Nat) (x : Int), ¬ p = 139 → g2 p x = jv_up g 136 0 0 p x) → jv_At jv_T jv_ml kY_copy 166 [jv_P 136, jv_I a, jv_I b, jv_I c, jv_I d, jv_I z, jv_I 1, jv_I 1, jv_I q, v9] [] (LL n l) g2 (fun r L g' => r = jv_I z ∧ L = LL n l ∧ IM A B (cS S a b c d z) tr 0 g' ∧ kM g g') := by
        apply loop_up
        intro q hq ih v9 g2 b1 b2
        apply sg_Y_copy_166 (A := A)
        refine ⟨fun h13 => ?_, fun h13 => ⟨fun h' => absurd h' (by decide), fun _ => ?_⟩⟩
        · obtain ⟨r1, r2⟩ := fin g2 (fun x => by rw [b1, show 60 * (c : Int) + d + z - q = 60 * (c : Int) + d by omega]) b2
          exact ⟨rfl, rfl, r1, r2⟩
        · refine ⟨⟨by omega, by omega⟩, ⟨by omega, by omega⟩, ⟨by omega, by omega⟩, ⟨by omega, by omega⟩, ⟨by omega, by omega⟩, ⟨by omega, by omega⟩, ⟨by omega, by omega⟩, ⟨by omega, by omega⟩, ⟨by omega, by omega⟩, ⟨by omega, by omega⟩, ⟨by omega, by omega⟩, ih (by omega) _ _ (fun x => ?_) (fun p x hp => by rw [up_ne (by omega)]; exact b2 p x hp)⟩
          have e : g2 139 (60 * (a : Int) + b + ((z : Int) - 1 - q)) = jv_up g 136 0 0 139 (60 * (a : Int) + b + ((z : Int) - 1 - q)) := by
            rw [b1, if_neg (by omega)]
          rw [e]
          by_cases hx : x = 60 * (c : Int) + d + ((z : Int) - 1 - q)
          · rw [up_eq rfl hx, if_pos (by omega), hx, show 60 * (a : Int) + b + (60 * (c : Int) + d + ((z : Int) - 1 - q) - (60 * (c : Int) + d)) = 60 * (a : Int) + b + ((z : Int) - 1 - q) by omega]
          · rw [up_ne (by omega), b1]
            by_cases hy : 60 * (c : Int) + d + z - q ≤ x ∧ x < 60 * (c : Int) + d + z
            · rw [if_pos hy, if_pos (by omega)]
            · rw [if_neg hy, if_neg (by omega)]
      exact main 0 (by omega) _ _ (fun x => by rw [if_neg (by omega)]) (fun _ _ _ => rfl)
  · rw [if_neg h3, if_neg h4, if_pos h5]
    exact tr_Y_fails hM0 (by omega) rfl (fun g2 a1 a2 => sg_Y_copy_69 (A := A) ⟨rfl, rfl, a1, kM_t q0 a2⟩)
theorem st_copy {s : Int → Int} {n l t : Nat} {g : jv_S} {k i o j m : Int} (h : IV s l t g) (ht : t < 64) : CI s n t kX_copy kY_copy [jv_I k, jv_I i, jv_I o, jv_I j, jv_I m] l g := by
  obtain ⟨h0, A, B, S, tr, fl, rb, hP, hC, hM⟩ := h
  have hS := hP.2.2.2.2.2.1
  refine CI_o (S := S) (fl := fl) (tr' := tr) (v := (o_copy S k i o j m).1) (fl' := (o_copy S k i o j m).2.1) (S' := (o_copy S k i o j m).2.2) h0 ht hP hM ?_ (cx_copy hS hC) (fun g1 hM1 => cy_copy hS hM1)
  unfold o_copy
  split
  · exact hS
  · split
    · exact hS
    · split
      · exact hS
      · split
        · exact hS
        · split
          · exact hS
          · split
            · exact hS
            · split
              · exact hS
              · rename_i h1 h2 h3 h4 h5 h6 h7
                have h6 := Classical.byContradiction h6
                have w1 : k.toNat < 4 := by omega
                rcases (hS k.toNat w1).1 with e | e
                · exact absurd e h3
                · exact ShW_cS hS w1 (by omega)
