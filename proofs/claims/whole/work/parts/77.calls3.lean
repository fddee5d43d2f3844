/-! ===== calls: loads, many ===== -/
theorem tr_Tr_numb {A : jA} {B : jB} {rb : Int} {n l : Nat} {g : jv_S} {Q : jv_V → jv_L → jv_S → Prop} {i : Int} (hB' : BW A B) (hT : TC A B rb l g) (h0 : ¬ (0 ≤ i ∧ i < B 0 0) → Q (jv_D 0) (LL n l) g) (h1 : ∀ k : Nat, i = k → (k : Int) < B 0 0 → Q (jv_D (rb + k)) (LL n l) g) : jv_Ca jv_T jv_ml kTr_numbered [jv_P 87, jv_I i] (LL n l) g Q := by
  have b := hB'.1
  apply sg_Tr_numbered_0 (A := A)
  rw [hT.1.1]
  refine ⟨fun h => h0 (by omega), fun h => ⟨fun h2 => h0 (by omega), fun h2 => ?_⟩⟩
  obtain ⟨k, rfl⟩ := nat_of (c := i) (by omega)
  rw [(hT.2.2.2.2 k (by omega)).1]
  exact ⟨⟨by omega, by omega⟩, h1 k rfl (by omega)⟩
theorem TC_get {A : jA} {B : jB} {rb : Int} {n l : Nat} {g : jv_S} {k : Nat} (hT : TC A B rb l g) (hk : (k : Int) < B 0 0) : 0 < rb + (k : Int) ∧ (LL n l)[(rb + (k : Int) - 1).toNat]? = some (11, 8, []) := LL_get (by have := hT.2.2.2.1; omega) (by have := hT.2.2.2.1; omega)
set_option maxRecDepth 100000 in
theorem sg_X_ofLoad_0 {A : jA} {n l : Nat} {g : jv_S} {Q : jv_V → jv_L → jv_S → Prop} {v1 v2 : Int} (h :
   jv_Ca jv_T jv_ml kTr_numbered [jv_P 87, jv_I v1] (LL n l) g (fun r L2 g2 => jv_At jv_T jv_ml kX_ofLoad 8 [jv_P 1, jv_I v1, jv_I v2, jv_U] (jv_pu r []) L2 g2 Q)) :
  jv_At jv_T jv_ml kX_ofLoad 0 [jv_P 1, jv_I v1, jv_I v2, jv_U] [] (LL n l) g Q :=
  jv_of_wp (gok9 (A := A)) (md := []) (stop := []) (tab := jt_X_ofLoad) rfl 400 _ _ _ _ _ h
set_option maxRecDepth 100000 in
theorem sg_X_ofLoad_8 {A : jA} {n l : Nat} {g : jv_S} {Q : jv_V → jv_L → jv_S → Prop} {v1 v2 s0 : Int} {v3 : jv_V} (h :
   (s0 = 0 →
     Q (jv_I (-1 : Int)) (LL n l) g) ∧
    (¬ s0 = 0 →
     (v2 = (0 : Int) →
       (0 < s0 ∧ (LL n l)[(s0 - 1).toNat]? = some (11, 8, [])) ∧
        Q (jv_I (g 1000 (8 * s0 + 1))) (LL n l) g) ∧
      (¬ v2 = (0 : Int) →
       (v2 = (1 : Int) →
         (0 < s0 ∧ (LL n l)[(s0 - 1).toNat]? = some (11, 8, [])) ∧
          Q (jv_I (g 1000 (8 * s0 + 2))) (LL n l) g) ∧
        (¬ v2 = (1 : Int) →
         (v2 = (2 : Int) →
           (0 < s0 ∧ (LL n l)[(s0 - 1).toNat]? = some (11, 8, [])) ∧
            Q (jv_I (g 1000 (8 * s0 + 3))) (LL n l) g) ∧
          (¬ v2 = (2 : Int) →
           (v2 = (3 : Int) →
             (0 < s0 ∧ (LL n l)[(s0 - 1).toNat]? = some (11, 8, [])) ∧
              Q (jv_I (g 1000 (8 * s0 + 4))) (LL n l) g) ∧
            (¬ v2 = (3 : Int) →
             (v2 = (4 : Int) →
               (0 < s0 ∧ (LL n l)[(s0 - 1).toNat]? = some (11, 8, [])) ∧
                Q (jv_I (g 1000 (8 * s0 + 5))) (LL n l) g) ∧
              (¬ v2 = (4 : Int) →
               (v2 = (5 : Int) →
                 (0 < s0 ∧ (LL n l)[(s0 - 1).toNat]? = some (11, 8, [])) ∧
                  Q (jv_I (g 1000 (8 * s0 + 6))) (LL n l) g) ∧
                (¬ v2 = (5 : Int) →
                 Q (jv_I (-2 : Int)) (LL n l) g)))))))) :
  jv_At jv_T jv_ml kX_ofLoad 8 [jv_P 1, jv_I v1, jv_I v2, v3] [jv_D s0] (LL n l) g Q :=
  jv_of_wp (gok9 (A := A)) (md := []) (stop := []) (tab := jt_X_ofLoad) rfl 400 _ _ _ _ _ h
set_option maxRecDepth 100000 in
theorem sg_Y_ofLoad_0 {A : jA} {n l : Nat} {g : jv_S} {Q : jv_V → jv_L → jv_S → Prop} {v1 v2 : Int} (h :
   ((136 = 136) ∧ (LLx (LL n l)) ∧ (True)) ∧
    ((jb_p (0 ≤ v1 ∧ v1 < g 136 27)) = 0 →
     Q (jv_I (-1 : Int)) (LL n l) g) ∧
    (¬ (jb_p (0 ≤ v1 ∧ v1 < g 136 27)) = 0 →
     (v2 = (0 : Int) →
       (0 ≤ v1 ∧ v1 < 30) ∧
        Q (jv_I (g 155 v1)) (LL n l) g) ∧
      (¬ v2 = (0 : Int) →
       (v2 = (1 : Int) →
         (0 ≤ v1 ∧ v1 < 30) ∧
          Q (jv_I (g 156 v1)) (LL n l) g) ∧
        (¬ v2 = (1 : Int) →
         (v2 = (2 : Int) →
           (0 ≤ v1 ∧ v1 < 30) ∧
            Q (jv_I (g 157 v1)) (LL n l) g) ∧
          (¬ v2 = (2 : Int) →
           (v2 = (3 : Int) →
             (0 ≤ v1 ∧ v1 < 30) ∧
              Q (jv_I (g 158 v1)) (LL n l) g) ∧
            (¬ v2 = (3 : Int) →
             (v2 = (4 : Int) →
               (0 ≤ v1 ∧ v1 < 30) ∧
                Q (jv_I (g 159 v1)) (LL n l) g) ∧
              (¬ v2 = (4 : Int) →
               (v2 = (5 : Int) →
                 (0 ≤ v1 ∧ v1 < 30) ∧
                  Q (jv_I (g 160 v1)) (LL n l) g) ∧
                (¬ v2 = (5 : Int) →
                 Q (jv_I (-2 : Int)) (LL n l) g)))))))) :
  jv_At jv_T jv_ml kY_ofLoad 0 [jv_P 136, jv_I v1, jv_I v2] [] (LL n l) g Q :=
  jv_of_wp (gok9 (A := A)) (md := []) (stop := []) (tab := jt_Y_ofLoad) rfl 400 _ _ _ _ _ h
def an_ofLoad (B : jB) (i w : Int) : Int := if ¬ (0 ≤ i ∧ i < B 0 0) then -1 else if w = 0 then B 1 i.toNat else if w = 1 then B 2 i.toNat else if w = 2 then B 3 i.toNat else if w = 3 then B 4 i.toNat else if w = 4 then B 5 i.toNat else if w = 5 then B 6 i.toNat else -2
theorem tr_X_ofLoad {A : jA} {B : jB} {rb : Int} {n l : Nat} {g : jv_S} {Q : jv_V → jv_L → jv_S → Prop} {i w : Int} (hB' : BW A B) (hT : TC A B rb l g) (hQ : Q (jv_I (an_ofLoad B i w)) (LL n l) g) : jv_Ca jv_T jv_ml kX_ofLoad [jv_P 1, jv_I i, jv_I w] (LL n l) g Q := by
  have t4 := hT.2.2.2.1
  apply sg_X_ofLoad_0 (A := A)
  refine tr_Tr_numb hB' hT (fun h => ?_) (fun k hk h => ?_)
  · apply sg_X_ofLoad_8 (A := A)
    exact ⟨fun _ => qv hQ (if_pos h), fun h' => absurd rfl h'⟩
  · subst hk
    apply sg_X_ofLoad_8 (A := A)
    obtain ⟨-, -, r1, r2, r3, r4, r5, r6, -⟩ := hT.2.2.2.2 k h
    have gq := TC_get (n := n) hT h
    unfold an_ofLoad at hQ
    rw [if_neg (fun h' => h' ⟨by omega, h⟩)] at hQ
    rw [r1, r2, r3, r4, r5, r6]
    refine ⟨fun h' => by omega, fun _ => ⟨fun a0 => ⟨gq, ?_⟩, fun a0 => ⟨fun a1 => ⟨gq, ?_⟩, fun a1 => ⟨fun a2 => ⟨gq, ?_⟩, fun a2 => ⟨fun a3 => ⟨gq, ?_⟩, fun a3 => ⟨fun a4 => ⟨gq, ?_⟩, fun a4 => ⟨fun a5 => ⟨gq, ?_⟩, fun a5 => ?_⟩⟩⟩⟩⟩⟩⟩
    · rw [if_pos a0] at hQ; exact hQ
    · rw [if_neg a0, if_pos a1] at hQ; exact hQ
    · rw [if_neg a0, if_neg a1, if_pos a2] at hQ; exact hQ
    · rw [if_neg a0, if_neg a1, if_neg a2, if_pos a3] at hQ; exact hQ
    · rw [if_neg a0, if_neg a1, if_neg a2, if_neg a3, if_pos a4] at hQ; exact hQ
    · rw [if_neg a0, if_neg a1, if_neg a2, if_neg a3, if_neg a4, if_pos a5] at hQ; exact hQ
    · rw [if_neg a0, if_neg a1, if_neg a2, if_neg a3, if_neg a4, if_neg a5] at hQ; exact hQ
theorem tr_Y_ofLoad {A : jA} {B : jB} {n l : Nat} {g : jv_S} {Q : jv_V → jv_L → jv_S → Prop} {i w : Int} (hB' : BW A B) (hT : TMr A B g) (hQ : Q (jv_I (an_ofLoad B i w)) (LL n l) g) : jv_Ca jv_T jv_ml kY_ofLoad [jv_P 136, jv_I i, jv_I w] (LL n l) g Q := by
  have b := hB'.1
  apply sg_Y_ofLoad_0 (A := A)
  rw [hT.1.1]
  refine ⟨⟨rfl, LLx_ok, trivial⟩, fun h => qv hQ (if_pos (jp0.mp h)), fun h => ?_⟩
  have hv := Classical.byContradiction (fun h' => h (jp0.mpr h'))
  obtain ⟨k, rfl⟩ := nat_of hv.1
  obtain ⟨r1, r2, r3, r4, r5, r6⟩ := hT.2.2.2 k hv.2
  unfold an_ofLoad at hQ
  rw [if_neg (fun h' => h' hv)] at hQ
  rw [r1, r2, r3, r4, r5, r6]
  have gq : 0 ≤ (k : Int) ∧ (k : Int) < 30 := by omega
  refine ⟨fun a0 => ⟨gq, ?_⟩, fun a0 => ⟨fun a1 => ⟨gq, ?_⟩, fun a1 => ⟨fun a2 => ⟨gq, ?_⟩, fun a2 => ⟨fun a3 => ⟨gq, ?_⟩, fun a3 => ⟨fun a4 => ⟨gq, ?_⟩, fun a4 => ⟨fun a5 => ⟨gq, ?_⟩, fun a5 => ?_⟩⟩⟩⟩⟩⟩
  · rw [if_pos a0] at hQ; exact hQ
  · rw [if_neg a0, if_pos a1] at hQ; exact hQ
  · rw [if_neg a0, if_neg a1, if_pos a2] at hQ; exact hQ
  · rw [if_neg a0, if_neg a1, if_neg a2, if_pos a3] at hQ; exact hQ
  · rw [if_neg a0, if_neg a1, if_neg a2, if_neg a3, if_pos a4] at hQ; exact hQ
  · rw [if_neg a0, if_neg a1, if_neg a2, if_neg a3, if_neg a4, if_pos a5] at hQ; exact hQ
  · rw [if_neg a0, if_neg a1, if_neg a2, if_neg a3, if_neg a4, if_neg a5] at hQ; exact hQ
theorem st_ofLoad {s : Int → Int} {n l t : Nat} {g : jv_S} {x y : Int} (h : IV s l t g) (ht : t < 64) : CI s n t kX_ofLoad kY_ofLoad [jv_I x, jv_I y] l g :=
  CI_q h ht (fun A B S tr fl rb hP hC hM => ⟨an_ofLoad B x y, tr_X_ofLoad hP.1 hC.2.2.2.2.1 ⟨rfl, rfl, rfl⟩, tr_Y_ofLoad hP.1 hM.2.1 ⟨rfl, rfl, rfl⟩⟩)
set_option maxRecDepth 100000 in
theorem sg_X_frozen_0 {A : jA} {n l : Nat} {g : jv_S} {Q : jv_V → jv_L → jv_S → Prop} (h :
   jv_Ca jv_T jv_ml kTr_frozenSet [jv_P 87] (LL n l) g (fun r L2 g2 => jv_At jv_T jv_ml kX_frozen 7 [jv_P 1] (jv_pu r []) L2 g2 Q)) :
  jv_At jv_T jv_ml kX_frozen 0 [jv_P 1] [] (LL n l) g Q :=
  jv_of_wp (gok9 (A := A)) (md := []) (stop := []) (tab := jt_X_frozen) rfl 400 _ _ _ _ _ h
set_option maxRecDepth 100000 in
theorem sg_X_frozen_7 {A : jA} {n l : Nat} {g : jv_S} {Q : jv_V → jv_L → jv_S → Prop} {s0 : Int} (h :
   Q (jv_I s0) (LL n l) g) :
  jv_At jv_T jv_ml kX_frozen 7 [jv_P 1] [jv_I s0] (LL n l) g Q :=
  jv_of_wp (gok9 (A := A)) (md := []) (stop := []) (tab := jt_X_frozen) rfl 400 _ _ _ _ _ h
theorem st_frozen {s : Int → Int} {n l t : Nat} {g : jv_S} (h : IV s l t g) (ht : t < 64) : CI s n t kX_frozen kY_frozen [] l g :=
  CI_q h ht (fun A B S tr fl rb hP hC hM => ⟨(FZ A B : Nat), sg_X_frozen_0 (A := A) (tr_Tr_frozenSet hC.1 hC.2.1 hP.1 hC.2.2.2.2.1 (sg_X_frozen_7 (A := A) ⟨rfl, rfl, rfl⟩)), tr_Y_frozen hM.1 hP.1 hM.2.1 ⟨rfl, rfl, rfl⟩⟩)
set_option maxRecDepth 100000 in
theorem sg_X_trace_0 {A : jA} {n l : Nat} {g : jv_S} {Q : jv_V → jv_L → jv_S → Prop} (h :
   Q (jv_I (g 1 10)) (LL n l) g) :
  jv_At jv_T jv_ml kX_trace 0 [jv_P 1] [] (LL n l) g Q :=
  jv_of_wp (gok9 (A := A)) (md := []) (stop := []) (tab := jt_X_trace) rfl 400 _ _ _ _ _ h
set_option maxRecDepth 100000 in
theorem sg_Y_trace_0 {A : jA} {n l : Nat} {g : jv_S} {Q : jv_V → jv_L → jv_S → Prop} (h :
   Q (jv_I (g 136 1)) (LL n l) g) :
  jv_At jv_T jv_ml kY_trace 0 [jv_P 136] [] (LL n l) g Q :=
  jv_of_wp (gok9 (A := A)) (md := []) (stop := []) (tab := jt_Y_trace) rfl 400 _ _ _ _ _ h
set_option maxRecDepth 100000 in
theorem sg_X_fault_0 {A : jA} {n l : Nat} {g : jv_S} {Q : jv_V → jv_L → jv_S → Prop} (h :
   Q (jv_I (g 1 11)) (LL n l) g) :
  jv_At jv_T jv_ml kX_fault 0 [jv_P 1] [] (LL n l) g Q :=
  jv_of_wp (gok9 (A := A)) (md := []) (stop := []) (tab := jt_X_fault) rfl 400 _ _ _ _ _ h
set_option maxRecDepth 100000 in
theorem sg_Y_fault_0 {A : jA} {n l : Nat} {g : jv_S} {Q : jv_V → jv_L → jv_S → Prop} (h :
   Q (jv_I (g 136 0)) (LL n l) g) :
  jv_At jv_T jv_ml kY_fault 0 [jv_P 136] [] (LL n l) g Q :=
  jv_of_wp (gok9 (A := A)) (md := []) (stop := []) (tab := jt_Y_fault) rfl 400 _ _ _ _ _ h
theorem st_trace {s : Int → Int} {n l t : Nat} {g : jv_S} (h : IV s l t g) (ht : t < 64) : CI s n t kX_trace kY_trace [] l g :=
  CI_q h ht (fun A B S tr fl rb hP hC hM => ⟨tr, sg_X_trace_0 (A := A) ⟨congrArg jv_I hC.2.2.2.2.2.2.1.1, rfl, rfl⟩, sg_Y_trace_0 (A := A) ⟨congrArg jv_I hM.2.2.2.1, rfl, rfl⟩⟩)
theorem st_fault {s : Int → Int} {n l t : Nat} {g : jv_S} (h : IV s l t g) (ht : t < 64) : CI s n t kX_fault kY_fault [] l g :=
  CI_q h ht (fun A B S tr fl rb hP hC hM => ⟨fl, sg_X_fault_0 (A := A) ⟨congrArg jv_I hC.2.2.2.2.2.2.1.2, rfl, rfl⟩, sg_Y_fault_0 (A := A) ⟨congrArg jv_I hM.2.2.2.2, rfl, rfl⟩⟩)
set_option maxRecDepth 100000 in
theorem sg_Tr_countInLanes_0 {A : jA} {n l : Nat} {g : jv_S} {Q : jv_V → jv_L → jv_S → Prop} (h :
   jv_At jv_T jv_ml kTr_countInLanes 4 [jv_P 87, jv_I (0 : Int), jv_I (0 : Int)] [] (LL n l) g Q) :
  jv_At jv_T jv_ml kTr_countInLanes 0 [jv_P 87, jv_U, jv_U] [] (LL n l) g Q :=
  jv_of_wp (gok9 (A := A)) (md := []) (stop := [4]) (tab := jt_Tr_countInLanes) rfl 400 _ _ _ _ _ h
set_option maxRecDepth 100000 in
theorem sg_Tr_countInLanes_4 {A : jA} {n l : Nat} {g : jv_S} {Q : jv_V → jv_L → jv_S → Prop} {v1 v2 : Int} (h :
   ((g 14 1) ≤ v2 →
     Q (jv_I v1) (LL n l) g) ∧
    (¬ (g 14 1) ≤ v2 →
     (0 ≤ v2 ∧ v2 < 10) ∧
      jv_r32 (v1 + (g 100 v2)) ∧
      jv_r32 (v2 + (1 : Int)) ∧
      jv_At jv_T jv_ml kTr_countInLanes 4 [jv_P 87, jv_I (v1 + (g 100 v2)), jv_I (v2 + (1 : Int))] [] (LL n l) g Q)) :
  jv_At jv_T jv_ml kTr_countInLanes 4 [jv_P 87, jv_I v1, jv_I v2] [] (LL n l) g Q :=
  jv_of_wp (gok9 (A := A)) (md := []) (stop := [4]) (tab := jt_Tr_countInLanes) rfl 400 _ _ _ _ _ h
set_option maxRecDepth 100000 in
theorem sg_Wy_countBarred_0 {A : jA} {n l : Nat} {g : jv_S} {Q : jv_V → jv_L → jv_S → Prop} (h :
   jv_At jv_T jv_ml kWy_countBarred 4 [jv_P 40, jv_I (0 : Int), jv_I (0 : Int)] [] (LL n l) g Q) :
  jv_At jv_T jv_ml kWy_countBarred 0 [jv_P 40, jv_U, jv_U] [] (LL n l) g Q :=
  jv_of_wp (gok9 (A := A)) (md := []) (stop := [4]) (tab := jt_Wy_countBarred) rfl 400 _ _ _ _ _ h
set_option maxRecDepth 100000 in
theorem sg_Wy_countBarred_4 {A : jA} {n l : Nat} {g : jv_S} {Q : jv_V → jv_L → jv_S → Prop} {v1 v2 : Int} (h :
   ((g 14 1) ≤ v2 →
     Q (jv_I v1) (LL n l) g) ∧
    (¬ (g 14 1) ≤ v2 →
     (0 ≤ v2 ∧ v2 < 10) ∧
      ((0 ≤ (g 41 v2) ∧ (g 41 v2) < 1024)) ∧
      jv_r32 (v1 + (pc (g 41 v2).toNat : Int)) ∧
      jv_r32 (v2 + (1 : Int)) ∧
      jv_At jv_T jv_ml kWy_countBarred 4 [jv_P 40, jv_I (v1 + (pc (g 41 v2).toNat : Int)), jv_I (v2 + (1 : Int))] [] (LL n l) g Q)) :
  jv_At jv_T jv_ml kWy_countBarred 4 [jv_P 40, jv_I v1, jv_I v2] [] (LL n l) g Q :=
  jv_of_wp (gok9 (A := A)) (md := []) (stop := [4]) (tab := jt_Wy_countBarred) rfl 400 _ _ _ _ _ h
set_option maxRecDepth 100000 in
theorem sg_X_many_0 {A : jA} {n l : Nat} {g : jv_S} {Q : jv_V → jv_L → jv_S → Prop} {v1 : Int} (h :
   (v1 = (0 : Int) →
     Q (jv_I (g 14 0)) (LL n l) g) ∧
    (¬ v1 = (0 : Int) →
     (v1 = (1 : Int) →
       Q (jv_I (g 14 1)) (LL n l) g) ∧
      (¬ v1 = (1 : Int) →
       (v1 = (2 : Int) →
         Q (jv_I (g 87 5)) (LL n l) g) ∧
        (¬ v1 = (2 : Int) →
         (v1 = (3 : Int) →
           jv_Ca jv_T jv_ml kTr_countInLanes [jv_P 87] (LL n l) g (fun r L2 g2 => jv_At jv_T jv_ml kX_many 71 [jv_P 1, jv_I v1] (jv_pu r []) L2 g2 Q)) ∧
          (¬ v1 = (3 : Int) →
           (v1 = (4 : Int) →
             jv_Ca jv_T jv_ml kWy_countBarred [jv_P 40] (LL n l) g (fun r L2 g2 => jv_At jv_T jv_ml kX_many 79 [jv_P 1, jv_I v1] (jv_pu r []) L2 g2 Q)) ∧
            (¬ v1 = (4 : Int) →
             (v1 = (5 : Int) →
               Q (jv_I (g 87 6)) (LL n l) g) ∧
              (¬ v1 = (5 : Int) →
               Q (jv_I (-2 : Int)) (LL n l) g))))))) :
  jv_At jv_T jv_ml kX_many 0 [jv_P 1, jv_I v1] [] (LL n l) g Q :=
  jv_of_wp (gok9 (A := A)) (md := []) (stop := []) (tab := jt_X_many) rfl 400 _ _ _ _ _ h
set_option maxRecDepth 100000 in
theorem sg_X_many_71 {A : jA} {n l : Nat} {g : jv_S} {Q : jv_V → jv_L → jv_S → Prop} {v1 s0 : Int} (h :
   Q (jv_I s0) (LL n l) g) :
  jv_At jv_T jv_ml kX_many 71 [jv_P 1, jv_I v1] [jv_I s0] (LL n l) g Q :=
  jv_of_wp (gok9 (A := A)) (md := []) (stop := []) (tab := jt_X_many) rfl 400 _ _ _ _ _ h
set_option maxRecDepth 100000 in
theorem sg_X_many_79 {A : jA} {n l : Nat} {g : jv_S} {Q : jv_V → jv_L → jv_S → Prop} {v1 s0 : Int} (h :
   Q (jv_I s0) (LL n l) g) :
  jv_At jv_T jv_ml kX_many 79 [jv_P 1, jv_I v1] [jv_I s0] (LL n l) g Q :=
  jv_of_wp (gok9 (A := A)) (md := []) (stop := []) (tab := jt_X_many) rfl 400 _ _ _ _ _ h
set_option maxRecDepth 100000 in
theorem sg_Y_many_0 {A : jA} {n l : Nat} {g : jv_S} {Q : jv_V → jv_L → jv_S → Prop} {v1 : Int} (h :
   jv_At jv_T jv_ml kY_many 4 [jv_P 136, jv_I v1, jv_I (0 : Int), jv_I (0 : Int), jv_U] [] (LL n l) g Q) :
  jv_At jv_T jv_ml kY_many 0 [jv_P 136, jv_I v1, jv_U, jv_U, jv_U] [] (LL n l) g Q :=
  jv_of_wp (gok9 (A := A)) (md := []) (stop := [4, 32]) (tab := jt_Y_many) rfl 400 _ _ _ _ _ h
set_option maxRecDepth 100000 in
theorem sg_Y_many_4 {A : jA} {n l : Nat} {g : jv_S} {Q : jv_V → jv_L → jv_S → Prop} {v1 v2 v3 : Int} {v4 : jv_V} (h :
   ((g 136 6) ≤ v3 →
     jv_At jv_T jv_ml kY_many 32 [jv_P 136, jv_I v1, jv_I v2, jv_I (0 : Int), jv_I (0 : Int)] [] (LL n l) g Q) ∧
    (¬ (g 136 6) ≤ v3 →
     (0 ≤ v3 ∧ v3 < 10) ∧
      jv_r32 (v2 + (g 162 v3)) ∧
      jv_r32 (v3 + (1 : Int)) ∧
      jv_At jv_T jv_ml kY_many 4 [jv_P 136, jv_I v1, jv_I (v2 + (g 162 v3)), jv_I (v3 + (1 : Int)), v4] [] (LL n l) g Q)) :
  jv_At jv_T jv_ml kY_many 4 [jv_P 136, jv_I v1, jv_I v2, jv_I v3, v4] [] (LL n l) g Q :=
  jv_of_wp (gok9 (A := A)) (md := []) (stop := [4, 32]) (tab := jt_Y_many) rfl 400 _ _ _ _ _ h
set_option maxRecDepth 100000 in
theorem sg_Y_many_32 {A : jA} {n l : Nat} {g : jv_S} {Q : jv_V → jv_L → jv_S → Prop} {v1 v2 v3 v4 : Int} (h :
   ((g 136 6) ≤ v4 →
     (v1 = (0 : Int) →
       Q (jv_I (g 136 5)) (LL n l) g) ∧
      (¬ v1 = (0 : Int) →
       (v1 = (1 : Int) →
         Q (jv_I (g 136 6)) (LL n l) g) ∧
        (¬ v1 = (1 : Int) →
         (v1 = (2 : Int) →
           Q (jv_I (g 136 27)) (LL n l) g) ∧
          (¬ v1 = (2 : Int) →
           (v1 = (3 : Int) →
             Q (jv_I v2) (LL n l) g) ∧
            (¬ v1 = (3 : Int) →
             (v1 = (4 : Int) →
               Q (jv_I v3) (LL n l) g) ∧
              (¬ v1 = (4 : Int) →
               (v1 = (5 : Int) →
                 Q (jv_I (g 136 38)) (LL n l) g) ∧
                (¬ v1 = (5 : Int) →
                 Q (jv_I (-2 : Int)) (LL n l) g))))))) ∧
    (¬ (g 136 6) ≤ v4 →
     (0 ≤ v4 ∧ v4 < 10) ∧
      ((0 ≤ (g 143 v4) ∧ (g 143 v4) < 2147483648)) ∧
      jv_r32 (v3 + (pc (g 143 v4).toNat : Int)) ∧
      jv_r32 (v4 + (1 : Int)) ∧
      jv_At jv_T jv_ml kY_many 32 [jv_P 136, jv_I v1, jv_I v2, jv_I (v3 + (pc (g 143 v4).toNat : Int)), jv_I (v4 + (1 : Int))] [] (LL n l) g Q)) :
  jv_At jv_T jv_ml kY_many 32 [jv_P 136, jv_I v1, jv_I v2, jv_I v3, jv_I v4] [] (LL n l) g Q :=
  jv_of_wp (gok9 (A := A)) (md := []) (stop := [4, 32]) (tab := jt_Y_many) rfl 400 _ _ _ _ _ h
def sI (f : Nat → Int) : Nat → Int
  | 0 => 0
  | m + 1 => sI f m + f m
theorem sI_b {f : Nat → Int} {b : Int} : ∀ m : Nat, (∀ i, i < m → 0 ≤ f i ∧ f i ≤ b) → 0 ≤ sI f m ∧ sI f m ≤ b * m := by
  intro m
  induction m with
  | zero => intro _; exact ⟨Int.le_refl _, by show (0 : Int) ≤ b * 0; omega⟩
  | succ m ih =>
    intro h
    have h1 := ih (fun i hi => h i (by omega))
    have h2 := h m (by omega)
    have e : b * ((m + 1 : Nat) : Int) = b * m + b := by rw [Int.natCast_add, Int.mul_add]; simp
    show 0 ≤ sI f m + f m ∧ sI f m + f m ≤ _
    rw [e]
    omega
def an_many (A : jA) (B : jB) (w : Int) : Int := if w = 0 then (nd A : Int) else if w = 1 then (ln A : Int) else if w = 2 then B 0 0 else if w = 3 then sI (fun c => B 8 c) (ln A) else if w = 4 then sI (fun c => (pc (ba A c) : Int)) (ln A) else if w = 5 then B 0 1 else -2
theorem pc_30 (s : Nat) : pc s ≤ 30 := pcr_le s 30
theorem many_b {A : jA} {B : jB} (hw : wf A) (hB' : BW A B) : ∀ m, m ≤ ln A → (0 ≤ sI (fun c => B 8 c) m ∧ sI (fun c => B 8 c) m ≤ 20) ∧ 0 ≤ sI (fun c => (pc (ba A c) : Int)) m ∧ sI (fun c => (pc (ba A c) : Int)) m ≤ 300 := by
  intro m hm
  have w2 := hw.2.1
  have h1 := sI_b (f := fun c => B 8 c) (b := 2) m (fun i hi => by
    have a := hB'.2.1 i (by omega)
    have b := (hw.2.2.2.1 i (by omega)).2.2.2.2.1
    exact ⟨a.1, by show B 8 i ≤ 2; omega⟩)
  have h2 := sI_b (f := fun c => (pc (ba A c) : Int)) (b := 30) m (fun i hi => by
    have := pc_30 (ba A i)
    exact ⟨by show (0 : Int) ≤ (pc (ba A i) : Int); omega, by show (pc (ba A i) : Int) ≤ 30; omega⟩)
  omega
theorem tr_X_many {A : jA} {B : jB} {rb : Int} {n l : Nat} {g : jv_S} {Q : jv_V → jv_L → jv_S → Prop} {w : Int} (hN : CN A g) (hW : CW 40 A g) (hB' : BW A B) (hT : TC A B rb l g) (hQ : Q (jv_I (an_many A B w)) (LL n l) g) : jv_Ca jv_T jv_ml kX_many [jv_P 1, jv_I w] (LL n l) g Q := by
  have f1 := hN.2.1
  have f2 := hN.2.2.1
  have w2 := hN.1.2.1
  have mb := many_b hN.1 hB'
  unfold an_many at hQ
  apply sg_X_many_0 (A := A)
  rw [f1, f2, hT.1.1, hT.1.2]
  refine ⟨fun a0 => ?_, fun a0 => ⟨fun a1 => ?_, fun a1 => ⟨fun a2 => ?_, fun a2 => ⟨fun a3 => ?_, fun a3 => ⟨fun a4 => ?_, fun a4 => ⟨fun a5 => ?_, fun a5 => ?_⟩⟩⟩⟩⟩⟩
  · rw [if_pos a0] at hQ; exact hQ
  · rw [if_neg a0, if_pos a1] at hQ; exact hQ
  · rw [if_neg a0, if_neg a1, if_pos a2] at hQ; exact hQ
  · rw [if_neg a0, if_neg a1, if_neg a2, if_pos a3] at hQ
    apply sg_Tr_countInLanes_0 (A := A)
    have main : ∀ c, c ≤ ln A → jv_At jv_T jv_ml kTr_countInLanes 4 [jv_P 87, jv_I (sI (fun c => B 8 c) c), jv_I c] [] (LL n l) g (fun r L2 g2 => jv_At jv_T jv_ml kX_many 71 [jv_P 1, jv_I w] (jv_pu r []) L2 g2 Q) := by
      apply loop_up
      intro c hc ih
      apply sg_Tr_countInLanes_4 (A := A)
      rw [f2]
      refine ⟨fun h => ?_, fun h => ?_⟩
      · apply sg_X_many_71 (A := A)
        rw [show c = ln A by omega]
        exact hQ
      · have hc' : c < ln A := by omega
        rw [hT.2.1 c hc']
        have m1 := (mb (c + 1) (by omega)).1
        have m2 : sI (fun c => B 8 c) (c + 1) = sI (fun c => B 8 c) c + B 8 c := rfl
        rw [m2] at m1
        exact ⟨⟨by omega, by omega⟩, ⟨by omega, by omega⟩, ⟨by omega, by omega⟩, ih hc'⟩
    exact main 0 (by omega)
  · rw [if_neg a0, if_neg a1, if_neg a2, if_neg a3, if_pos a4] at hQ
    apply sg_Wy_countBarred_0 (A := A)
    have main : ∀ c, c ≤ ln A → jv_At jv_T jv_ml kWy_countBarred 4 [jv_P 40, jv_I (sI (fun c => (pc (ba A c) : Int)) c), jv_I c] [] (LL n l) g (fun r L2 g2 => jv_At jv_T jv_ml kX_many 79 [jv_P 1, jv_I w] (jv_pu r []) L2 g2 Q) := by
      apply loop_up
      intro c hc ih
      apply sg_Wy_countBarred_4 (A := A)
      rw [f2]
      refine ⟨fun h => ?_, fun h => ?_⟩
      · apply sg_X_many_79 (A := A)
        rw [show c = ln A by omega]
        exact hQ
      · have hc' : c < ln A := by omega
        have e41 : g 41 (c : Int) = (ba A c : Int) := hW.2.1 c hc'
        have hbl := (hN.1.2.2.2.1 c hc').2.2.2.2.2
        rw [e41, Int.toNat_natCast]
        have m1 := (mb (c + 1) (by omega)).2
        have m2 : sI (fun c => (pc (ba A c) : Int)) (c + 1) = sI (fun c => (pc (ba A c) : Int)) c + (pc (ba A c) : Int) := rfl
        rw [m2] at m1
        exact ⟨⟨by omega, by omega⟩, ⟨by omega, by omega⟩, ⟨by omega, by omega⟩, ⟨by omega, by omega⟩, ih hc'⟩
    exact main 0 (by omega)
  · rw [if_neg a0, if_neg a1, if_neg a2, if_neg a3, if_neg a4, if_pos a5] at hQ; exact hQ
  · rw [if_neg a0, if_neg a1, if_neg a2, if_neg a3, if_neg a4, if_neg a5] at hQ; exact hQ
theorem tr_Y_many {A : jA} {B : jB} {n l : Nat} {g : jv_S} {Q : jv_V → jv_L → jv_S → Prop} {w : Int} (hM : MN A g) (hB' : BW A B) (hT : TMr A B g) (hQ : Q (jv_I (an_many A B w)) (LL n l) g) : jv_Ca jv_T jv_ml kY_many [jv_P 136, jv_I w] (LL n l) g Q := by
  have f1 := hM.2.1
  have f2 := hM.2.2.1
  have w2 := hM.1.2.1
  have mb := many_b hM.1 hB'
  unfold an_many at hQ
  have two : ∀ c, c ≤ ln A → jv_At jv_T jv_ml kY_many 32 [jv_P 136, jv_I w, jv_I (sI (fun c => B 8 c) (ln A)), jv_I (sI (fun c => (pc (ba A c) : Int)) c), jv_I c] [] (LL n l) g Q := by
    apply loop_up
    intro c hc ih
    apply sg_Y_many_32 (A := A)
    rw [f2, f1, hT.1.1, hT.1.2]
    refine ⟨fun h => ?_, fun h => ?_⟩
    · rw [show c = ln A by omega]
      refine ⟨fun a0 => ?_, fun a0 => ⟨fun a1 => ?_, fun a1 => ⟨fun a2 => ?_, fun a2 => ⟨fun a3 => ?_, fun a3 => ⟨fun a4 => ?_, fun a4 => ⟨fun a5 => ?_, fun a5 => ?_⟩⟩⟩⟩⟩⟩
      · rw [if_pos a0] at hQ; exact hQ
      · rw [if_neg a0, if_pos a1] at hQ; exact hQ
      · rw [if_neg a0, if_neg a1, if_pos a2] at hQ; exact hQ
      · rw [if_neg a0, if_neg a1, if_neg a2, if_pos a3] at hQ; exact hQ
      · rw [if_neg a0, if_neg a1, if_neg a2, if_neg a3, if_pos a4] at hQ; exact hQ
      · rw [if_neg a0, if_neg a1, if_neg a2, if_neg a3, if_neg a4, if_pos a5] at hQ; exact hQ
      · rw [if_neg a0, if_neg a1, if_neg a2, if_neg a3, if_neg a4, if_neg a5] at hQ; exact hQ
    · have hc' : c < ln A := by omega
      have e143 : g 143 (c : Int) = (ba A c : Int) := (hM.2.2.2.2.1 c hc').2.2.2
      have hbl := (hM.1.2.2.2.1 c hc').2.2.2.2.2
      rw [e143, Int.toNat_natCast]
      have m1 := (mb (c + 1) (by omega)).2
      have m2 : sI (fun c => (pc (ba A c) : Int)) (c + 1) = sI (fun c => (pc (ba A c) : Int)) c + (pc (ba A c) : Int) := rfl
      rw [m2] at m1
      exact ⟨⟨by omega, by omega⟩, ⟨by omega, by omega⟩, ⟨by omega, by omega⟩, ⟨by omega, by omega⟩, ih hc'⟩
  have one : ∀ c, c ≤ ln A → ∀ v4 : jv_V, jv_At jv_T jv_ml kY_many 4 [jv_P 136, jv_I w, jv_I (sI (fun c => B 8 c) c), jv_I c, v4] [] (LL n l) g Q := by
    apply loop_up
    intro c hc ih v4
    apply sg_Y_many_4 (A := A)
    rw [f2]
    refine ⟨fun h => ?_, fun h => ?_⟩
    · rw [show c = ln A by omega]
      exact two 0 (by omega)
    · have hc' : c < ln A := by omega
      rw [hT.2.1 c hc']
      have m1 := (mb (c + 1) (by omega)).1
      have m2 : sI (fun c => B 8 c) (c + 1) = sI (fun c => B 8 c) c + B 8 c := rfl
      rw [m2] at m1
      exact ⟨⟨by omega, by omega⟩, ⟨by omega, by omega⟩, ⟨by omega, by omega⟩, ih hc' _⟩
  apply sg_Y_many_0 (A := A)
  exact one 0 (by omega) _
theorem st_many {s : Int → Int} {n l t : Nat} {g : jv_S} {w : Int} (h : IV s l t g) (ht : t < 64) : CI s n t kX_many kY_many [jv_I w] l g :=
  CI_q h ht (fun A B S tr fl rb hP hC hM => ⟨an_many A B w, tr_X_many hC.1 hC.2.1 hP.1 hC.2.2.2.2.1 ⟨rfl, rfl, rfl⟩, tr_Y_many hM.1 hP.1 hM.2.1 ⟨rfl, rfl, rfl⟩⟩)
theorem st_ticks {s : Int → Int} {n l t : Nat} {g : jv_S} {m : Int} (h : IV s l t g) (ht : t < 64) : CI s n t kX_ticks kY_ticks [jv_I m] l g := by
  obtain ⟨h0, A, B, S, tr, fl, rb, hP, hC, hM⟩ := h
  obtain ⟨p1, p2, p3, p4, p5, p6, p7⟩ := id hP
  refine tr_X_ticks hC.1 hC.2.1 p1 hC.2.2.2.2.1 p2 (by omega) (fun g1 k hk a1 a2 a3 => ?_)
  have h01 : ∀ i, g1 0 i = s i := fun i => by rw [a3 0 i (by omega)]; exact h0 i
  have hM1 := IM_fr hM (g' := g1) (fun p i hp => a3 p i (by omega))
  obtain ⟨m1, m2, m3, m4, m5⟩ := id hM1
  have hC1 : IC A (tkN A B k).1 S tr fl rb l t g1 := IC_tc hC (fun p i hp => a3 p i (by omega)) a2
  have k50 : (k : Int) ≤ 50 := by rw [hk]; split <;> omega
  obtain ⟨e0, e1⟩ := tkN_0 (A := A) (B := B) k
  refine ⟨_, l, rfl, rfl, h01, tr_Y_ticks m1 p1 m2 p2 (by omega) hk (fun g2 b1 b2 => ⟨rfl, rfl, IV_mk h01 ⟨a1, tkN_rst p2 k, by rw [e1]; omega, by rw [e0]; exact p4, by omega, p6, by omega⟩ (IC_t hC1) (fun p i hp => b2 p i (by omega)) ⟨MN_fr m1 (fun p i _ _ => b2 p i (by omega)) (b2 _ _ (by omega)) (b2 _ _ (by omega)) (b2 _ _ (by omega)), b1, ShM_fr (fun p i hp => b2 p i (by omega)) m3, by rw [b2 _ _ (by omega)]; exact m4, by rw [b2 _ _ (by omega)]; exact m5⟩⟩)⟩
theorem snd_rst {A : jA} {B : jB} {kd x y : Int} (h : rst B) : rst (snd' A B kd x y).2.1 ∧ (snd' A B kd x y).2.1 0 1 = B 0 1 ∧ (snd' A B kd x y).2.2 ≤ 1 := by
  unfold snd'
  split
  · exact ⟨h, rfl, Nat.zero_le 1⟩
  · split
    · exact ⟨h, rfl, Nat.zero_le 1⟩
    · split
      · exact ⟨h, rfl, Nat.zero_le 1⟩
      · split
        · exact ⟨h, rfl, Nat.zero_le 1⟩
        · refine ⟨⟨fun i => ?_, fun c => h.2 c⟩, rfl, Nat.le_refl _⟩
          show (if i = (B 0 0).toNat then (0 : Int) else B 7 i) = 0
          split
          · rfl
          · exact h.1 i
theorem st_send {s : Int → Int} {n l t : Nat} {g : jv_S} {kd x y : Int} (h : IV s l t g) (ht : t < 64) : CI s n t kX_send kY_send [jv_I kd, jv_I x, jv_I y] l g := by
  obtain ⟨h0, A, B, S, tr, fl, rb, hP, hC, hM⟩ := h
  obtain ⟨p1, p2, p3, p4, p5, p6, p7⟩ := id hP
  obtain ⟨q1, q2, q3⟩ := snd_rst (A := A) (kd := kd) (x := x) (y := y) p2
  refine tr_X_send hC.1 hC.2.1 p1 hC.2.2.2.2.1 p4 (by omega) (fun g1 a1 a2 a3 a4 => ?_)
  have h01 : ∀ i, g1 0 i = s i := fun i => by rw [a4 0 i (by omega)]; exact h0 i
  have hM1 := IM_fr hM (g' := g1) (fun p i hp => a4 p i (by omega))
  obtain ⟨m1, m2, m3, m4, m5⟩ := id hM1
  have hC1 := IC_tc hC (fun p i hp => a4 p i (by omega)) a2
  refine ⟨_, _, rfl, rfl, h01, tr_Y_send m1 p1 m2 (fun g2 b1 b2 => ⟨rfl, rfl, IV_mk h01 ⟨a1, q1, by rw [q2]; omega, a3, by omega, p6, by omega⟩ (IC_t hC1) (fun p i hp => b2 p i (by omega)) ⟨MN_fr m1 (fun p i _ _ => b2 p i (by omega)) (b2 _ _ (by omega)) (b2 _ _ (by omega)) (b2 _ _ (by omega)), b1, ShM_fr (fun p i hp => b2 p i (by omega)) m3, by rw [b2 _ _ (by omega)]; exact m4, by rw [b2 _ _ (by omega)]; exact m5⟩⟩)⟩
