/-! ===== calls: sheets ===== -/
theorem r32_i2b {a : Int} : jv_r32 (jv_i2b a) := by
  unfold jv_r32 jv_i2b
  have h1 := Int32.le_toInt (Int32.ofInt a).toInt8.toInt32
  have h2 := Int32.toInt_le (Int32.ofInt a).toInt8.toInt32
  have e : Int32.maxValue.toInt = 2147483647 := by decide
  rw [e] at h2
  exact ⟨by simpa using h1, h2⟩
theorem r32_i2s {a : Int} : jv_r32 (jv_i2s a) := by
  unfold jv_r32 jv_i2s
  have h1 := Int32.le_toInt (Int32.ofInt a).toInt16.toInt32
  have h2 := Int32.toInt_le (Int32.ofInt a).toInt16.toInt32
  have e : Int32.maxValue.toInt = 2147483647 := by decide
  rw [e] at h2
  exact ⟨by simpa using h1, h2⟩
def ctv (so v : Int) : Int := if so = 0 then jv_i2b v else if so = 1 then jv_i2s v else v
theorem ctv_r {so v : Int} (h : jv_r32 v) : jv_r32 (ctv so v) := by
  unfold ctv
  split
  · exact r32_i2b
  · split
    · exact r32_i2s
    · exact h
/-- the class's sheet a as it is told by S -/
theorem sh_c {S : jB} {g : jv_S} (hW : ShW S) (hC : ShC S g) {a : Nat} (ha : a < 4) : (S 0 a = -9 ∧ g 9 a = -1) ∨ (S 0 a ≠ -9 ∧ g 9 a = S 1 a ∧ g 8 a = S 0 a ∧ (0 ≤ S 0 a ∧ S 0 a ≤ 2) ∧ 0 ≤ S 1 a ∧ S 1 a ≤ 60) := by
  by_cases h : S 0 a = -9
  · exact Or.inl ⟨h, (hC a ha).1 h⟩
  · rcases (hW a ha).1 with h1 | ⟨h1, h2⟩
    · exact absurd h1 h
    · exact Or.inr ⟨h, ((hC a ha).2.1 h).1, ((hC a ha).2.1 h).2, h1, h2⟩
theorem sh_m {S : jB} {g : jv_S} (hW : ShW S) (hM : ShM S g) {a : Nat} (ha : a < 4) : g 137 a = S 0 a ∧ (S 0 a = -9 ∨ (S 0 a ≠ -9 ∧ g 138 a = S 1 a ∧ (0 ≤ S 0 a ∧ S 0 a ≤ 2) ∧ 0 ≤ S 1 a ∧ S 1 a ≤ 60)) := by
  obtain ⟨h1, h2, -⟩ := hM a ha
  refine ⟨h1, ?_⟩
  by_cases h : S 0 a = -9
  · exact Or.inl h
  · rcases (hW a ha).1 with h3 | ⟨h3, h4⟩
    · exact absurd h3 h
    · exact Or.inr ⟨h, h2 h, h3, h4⟩
theorem jnn {p : Prop} [Decidable p] (h : ¬ jb_p p = 0) : p := Classical.byContradiction (fun h' => h (jp0.mpr h'))
theorem ShW_ub {S : jB} {a i : Nat} {x : Int} (h : ShW S) (hx : jv_r32 x) : ShW (ub S (2 + a) i x) := by
  intro k hk
  obtain ⟨h1, h2⟩ := h k hk
  rw [ub_ne (by omega), ub_ne (by omega)]
  refine ⟨h1, fun j hj => ?_⟩
  by_cases he : 2 + k = 2 + a ∧ j = i
  · rw [ub_eq he.1 he.2]; exact hx
  · rw [ub_ne he]; exact h2 j hj
theorem ShC_ub {S : jB} {g : jv_S} {a i : Nat} {x : Int} (h : ShC S g) (hi : i < 60) : ShC (ub S (2 + a) i x) (jv_up g 3 ((a : Int) * 60 + i) x) := by
  intro k hk
  obtain ⟨h1, h2, h3⟩ := h k hk
  rw [ub_ne (by omega), ub_ne (by omega), up_ne (by omega), up_ne (by omega)]
  refine ⟨h1, h2, fun j hj => ?_⟩
  by_cases he : 2 + k = 2 + a ∧ j = i
  · rw [ub_eq he.1 he.2, up_eq rfl (by omega)]
  · rw [ub_ne he, up_ne (by omega)]; exact h3 j hj
theorem ShM_ub {S : jB} {g : jv_S} {a i : Nat} {x : Int} (h : ShM S g) (hi : i < 60) : ShM (ub S (2 + a) i x) (jv_up g 139 (60 * (a : Int) + i) x) := by
  intro k hk
  obtain ⟨h1, h2, h3⟩ := h k hk
  rw [ub_ne (by omega), ub_ne (by omega), up_ne (by omega), up_ne (by omega)]
  refine ⟨h1, h2, fun j hj => ?_⟩
  by_cases he : 2 + k = 2 + a ∧ j = i
  · rw [ub_eq he.1 he.2, up_eq rfl (by omega)]
  · rw [ub_ne he, up_ne (by omega)]; exact h3 j hj
set_option maxRecDepth 100000 in
theorem sg_Sh_cut_0 {A : jA} {n l : Nat} {g : jv_S} {Q : jv_V → jv_L → jv_S → Prop} {v1 v2 : Int} (h :
   (0 ≤ v1 ∧ v1 < 4) ∧
    ((g 8 v1) = 0 →
     Q (jv_I (jv_i2b v2)) (LL n l) g) ∧
    (¬ (g 8 v1) = 0 →
     (0 ≤ v1 ∧ v1 < 4) ∧
      ((g 8 v1) = (1 : Int) →
       Q (jv_I (jv_i2s v2)) (LL n l) g) ∧
      (¬ (g 8 v1) = (1 : Int) →
       Q (jv_I v2) (LL n l) g))) :
  jv_At jv_T jv_ml kSh_cut 0 [jv_P 2, jv_I v1, jv_I v2] [] (LL n l) g Q :=
  jv_of_wp (gok9 (A := A)) (md := []) (stop := []) (tab := jt_Sh_cut) rfl 400 _ _ _ _ _ h
set_option maxRecDepth 100000 in
theorem sg_X_put_0 {A : jA} {n l : Nat} {g : jv_S} {Q : jv_V → jv_L → jv_S → Prop} {v1 v2 v3 : Int} (h :
   ((2 = 2) ∧ (LLx (LL n l)) ∧ (True)) ∧
    ((jb_p (0 ≤ v1 ∧ v1 ≤ 3)) = 0 →
     Q (jv_I (-1 : Int)) (LL n l) (jv_up g 1 11 (0 : Int))) ∧
    (¬ (jb_p (0 ≤ v1 ∧ v1 ≤ 3)) = 0 →
     ((2 = 2) ∧ (LLx (LL n l)) ∧ (0 ≤ v1 ∧ v1 < 4)) ∧
      ((jb_p (¬ (jv_up g 1 11 (0 : Int)) 9 v1 = -1)) = 0 →
       jv_Ca jv_T jv_ml kX_fail [jv_P 1, jv_I (1 : Int)] (LL n l) (jv_up g 1 11 (0 : Int)) (fun r L2 g2 => jv_At jv_T jv_ml kX_put 34 [jv_P 1, jv_I v1, jv_I v2, jv_I v3] (jv_pu r []) L2 g2 Q)) ∧
      (¬ (jb_p (¬ (jv_up g 1 11 (0 : Int)) 9 v1 = -1)) = 0 →
       ((2 = 2) ∧ (LLx (LL n l)) ∧ (0 ≤ v1 ∧ v1 < 4)) ∧
        ((jb_p (0 ≤ v2 ∧ v2 < (jv_up g 1 11 (0 : Int)) 9 v1)) = 0 →
         jv_Ca jv_T jv_ml kX_fail [jv_P 1, jv_I (3 : Int)] (LL n l) (jv_up g 1 11 (0 : Int)) (fun r L2 g2 => jv_At jv_T jv_ml kX_put 52 [jv_P 1, jv_I v1, jv_I v2, jv_I v3] (jv_pu r []) L2 g2 Q)) ∧
        (¬ (jb_p (0 ≤ v2 ∧ v2 < (jv_up g 1 11 (0 : Int)) 9 v1)) = 0 →
         (0 ≤ v1 ∧ v1 < 4) ∧
          jv_Ca jv_T jv_ml kSh_cut [jv_P 2, jv_I v1, jv_I v3] (LL n l) (jv_up g 1 11 (0 : Int)) (fun r L2 g2 => jv_At jv_T jv_ml kX_put 72 [jv_P 1, jv_I v1, jv_I v2, jv_I v3] (jv_pu r [jv_I v2, jv_R 3 v1]) L2 g2 Q))))) :
  jv_At jv_T jv_ml kX_put 0 [jv_P 1, jv_I v1, jv_I v2, jv_I v3] [] (LL n l) g Q :=
  jv_of_wp (gok9 (A := A)) (md := []) (stop := []) (tab := jt_X_put) rfl 400 _ _ _ _ _ h
set_option maxRecDepth 100000 in
theorem sg_X_put_34 {A : jA} {n l : Nat} {g : jv_S} {Q : jv_V → jv_L → jv_S → Prop} {v1 v2 v3 s0 : Int} (h :
   Q (jv_I s0) (LL n l) g) :
  jv_At jv_T jv_ml kX_put 34 [jv_P 1, jv_I v1, jv_I v2, jv_I v3] [jv_I s0] (LL n l) g Q :=
  jv_of_wp (gok9 (A := A)) (md := []) (stop := []) (tab := jt_X_put) rfl 400 _ _ _ _ _ h
set_option maxRecDepth 100000 in
theorem sg_X_put_52 {A : jA} {n l : Nat} {g : jv_S} {Q : jv_V → jv_L → jv_S → Prop} {v1 v2 v3 s0 : Int} (h :
   Q (jv_I s0) (LL n l) g) :
  jv_At jv_T jv_ml kX_put 52 [jv_P 1, jv_I v1, jv_I v2, jv_I v3] [jv_I s0] (LL n l) g Q :=
  jv_of_wp (gok9 (A := A)) (md := []) (stop := []) (tab := jt_X_put) rfl 400 _ _ _ _ _ h
set_option maxRecDepth 100000 in
theorem sg_X_put_72 {A : jA} {n l : Nat} {g : jv_S} {Q : jv_V → jv_L → jv_S → Prop} {v1 v2 v3 s0 s1 s2 : Int} (h :
   (0 ≤ s1 ∧ s1 < 60) ∧ 
    Q (jv_I (1 : Int)) (LL n l) (jv_up g 3 (s0 * 60 + s1) s2)) :
  jv_At jv_T jv_ml kX_put 72 [jv_P 1, jv_I v1, jv_I v2, jv_I v3] [jv_I s2, jv_I s1, jv_R 3 s0] (LL n l) g Q :=
  jv_of_wp (gok9 (A := A)) (md := []) (stop := []) (tab := jt_X_put) rfl 400 _ _ _ _ _ h
set_option maxRecDepth 100000 in
theorem sg_Y_put_0 {A : jA} {n l : Nat} {g : jv_S} {Q : jv_V → jv_L → jv_S → Prop} {v1 v2 v3 : Int} (h :
   ((LLx (LL n l)) ∧ (True)) ∧
    ((jb_p (0 ≤ v1 ∧ v1 ≤ 3)) = 0 →
     Q (jv_I (-1 : Int)) (LL n l) (jv_up g 136 0 (0 : Int))) ∧
    (¬ (jb_p (0 ≤ v1 ∧ v1 ≤ 3)) = 0 →
     (0 ≤ v1 ∧ v1 < 4) ∧
      ((g 137 v1) = (-9 : Int) →
       jv_Ca jv_T jv_ml kY_fails [jv_P 136, jv_I (1 : Int)] (LL n l) (jv_up g 136 0 (0 : Int)) (fun r L2 g2 => jv_At jv_T jv_ml kY_put 30 [jv_P 136, jv_I v1, jv_I v2, jv_I v3] (jv_pu r []) L2 g2 Q)) ∧
      (¬ (g 137 v1) = (-9 : Int) →
       (0 ≤ v1 ∧ v1 < 4) ∧
        jv_r32 ((g 138 v1) - (1 : Int)) ∧
        ((True)) ∧
        ((jb_p ((0 : Int) ≤ v2 ∧ v2 ≤ ((g 138 v1) - (1 : Int)))) = 0 →
         jv_Ca jv_T jv_ml kY_fails [jv_P 136, jv_I (3 : Int)] (LL n l) (jv_up g 136 0 (0 : Int)) (fun r L2 g2 => jv_At jv_T jv_ml kY_put 52 [jv_P 136, jv_I v1, jv_I v2, jv_I v3] (jv_pu r []) L2 g2 Q)) ∧
        (¬ (jb_p ((0 : Int) ≤ v2 ∧ v2 ≤ ((g 138 v1) - (1 : Int)))) = 0 →
         jv_r32 ((60 : Int) * v1) ∧
          jv_r32 (((60 : Int) * v1) + v2) ∧
          (0 ≤ v1 ∧ v1 < 4) ∧
          ((g 137 v1) = 0 →
           (0 ≤ (((60 : Int) * v1) + v2) ∧ (((60 : Int) * v1) + v2) < 240) ∧ 
            Q (jv_I (1 : Int)) (LL n l) (jv_up (jv_up g 136 0 (0 : Int)) 139 (((60 : Int) * v1) + v2) (jv_i2b v3))) ∧
          (¬ (g 137 v1) = 0 →
           (0 ≤ v1 ∧ v1 < 4) ∧
            ((g 137 v1) = (1 : Int) →
             (0 ≤ (((60 : Int) * v1) + v2) ∧ (((60 : Int) * v1) + v2) < 240) ∧ 
              Q (jv_I (1 : Int)) (LL n l) (jv_up (jv_up g 136 0 (0 : Int)) 139 (((60 : Int) * v1) + v2) (jv_i2s v3))) ∧
            (¬ (g 137 v1) = (1 : Int) →
             (0 ≤ (((60 : Int) * v1) + v2) ∧ (((60 : Int) * v1) + v2) < 240) ∧ 
              Q (jv_I (1 : Int)) (LL n l) (jv_up (jv_up g 136 0 (0 : Int)) 139 (((60 : Int) * v1) + v2) v3))))))) :
  jv_At jv_T jv_ml kY_put 0 [jv_P 136, jv_I v1, jv_I v2, jv_I v3] [] (LL n l) g Q :=
  jv_of_wp (gok9 (A := A)) (md := []) (stop := []) (tab := jt_Y_put) rfl 400 _ _ _ _ _ h
set_option maxRecDepth 100000 in
theorem sg_Y_put_30 {A : jA} {n l : Nat} {g : jv_S} {Q : jv_V → jv_L → jv_S → Prop} {v1 v2 v3 s0 : Int} (h :
   Q (jv_I s0) (LL n l) g) :
  jv_At jv_T jv_ml kY_put 30 [jv_P 136, jv_I v1, jv_I v2, jv_I v3] [jv_I s0] (LL n l) g Q :=
  jv_of_wp (gok9 (A := A)) (md := []) (stop := []) (tab := jt_Y_put) rfl 400 _ _ _ _ _ h
set_option maxRecDepth 100000 in
theorem sg_Y_put_52 {A : jA} {n l : Nat} {g : jv_S} {Q : jv_V → jv_L → jv_S → Prop} {v1 v2 v3 s0 : Int} (h :
   Q (jv_I s0) (LL n l) g) :
  jv_At jv_T jv_ml kY_put 52 [jv_P 136, jv_I v1, jv_I v2, jv_I v3] [jv_I s0] (LL n l) g Q :=
  jv_of_wp (gok9 (A := A)) (md := []) (stop := []) (tab := jt_Y_put) rfl 400 _ _ _ _ _ h
/-- answer, fault, sheets after it -/
def o_put (S : jB) (k i v : Int) : Int × Int × jB := if ¬ (0 ≤ k ∧ k ≤ 3) then (-1, 0, S) else if S 0 k.toNat = -9 then (-11, 1, S) else if ¬ (0 ≤ i ∧ i < S 1 k.toNat) then (-13, 3, S) else (1, 0, ub S (2 + k.toNat) i.toNat (ctv (S 0 k.toNat) v))
theorem st_put {s : Int → Int} {n l t : Nat} {g : jv_S} {k i v : Int} (h : IV s l t g) (ht : t < 64) (hv : jv_r32 v) : CI s n t kX_put kY_put [jv_I k, jv_I i, jv_I v] l g := by
  obtain ⟨h0, A, B, S, tr, fl, rb, hP, hC, hM⟩ := h
  have hS := hP.2.2.2.2.2.1
  have hC0 := IC_f hC 0
  have k0 : kC g (jv_up g 1 11 0) := kC_1 _ _
  have sC := hC.2.2.2.2.2.1
  refine CI_o (S := S) (fl := fl) (tr' := tr) (v := (o_put S k i v).1) (fl' := (o_put S k i v).2.1) (S' := (o_put S k i v).2.2) h0 ht hP hM ?_ ?_ (fun g1 hM1 => ?_)
  · unfold o_put
    split
    · exact hS
    · split
      · exact hS
      · split
        · exact hS
        · exact ShW_ub hS (ctv_r hv)
  · apply sg_X_put_0 (A := A)
    unfold o_put
    refine ⟨⟨rfl, LLx_ok, trivial⟩, fun h => ?_, fun h => ?_⟩
    · rw [if_pos (jp0.mp h)]
      exact ⟨rfl, rfl, hC0, k0⟩
    have hk := jnn h
    obtain ⟨a, rfl⟩ := nat_of hk.1
    rw [if_neg (fun h' => h' hk), Int.toNat_natCast]
    have ha : a < 4 := by omega
    rw [show jv_up g 1 11 0 9 (a : Int) = g 9 a from up_ne (by omega)]
    refine ⟨⟨rfl, LLx_ok, by omega⟩, ?_⟩
    rcases sh_c hS sC ha with ⟨e1, e2⟩ | ⟨e1, e2, e3, e4, e5⟩
    · rw [e2, if_pos e1]
      exact ⟨fun _ => tr_X_fail hC0 (by omega) rfl (fun g2 a1 a2 => sg_X_put_34 (A := A) ⟨rfl, rfl, a1, kC_t k0 a2⟩), fun h' => absurd rfl (jnn h')⟩
    · rw [e2, if_neg e1]
      refine ⟨fun h' => absurd (show ¬ S 1 a = -1 by omega) (jp0.mp h'), fun _ => ⟨⟨rfl, LLx_ok, by omega⟩, fun h2 => ?_, fun h2 => ?_⟩⟩
      · rw [if_pos (jp0.mp h2)]
        exact tr_X_fail hC0 (by omega) rfl (fun g2 a1 a2 => sg_X_put_52 (A := A) ⟨rfl, rfl, a1, kC_t k0 a2⟩)
      · have hi := jnn h2
        obtain ⟨b, rfl⟩ := nat_of hi.1
        rw [if_neg (fun h' => h' hi), Int.toNat_natCast]
        refine ⟨by omega, ?_⟩
        have fin : ∀ x : Int, x = ctv (S 0 a) v → jv_At jv_T jv_ml kX_put 72 [jv_P 1, jv_I a, jv_I b, jv_I v] [jv_I x, jv_I b, jv_R 3 a] (LL n l) (jv_up g 1 11 0) (fun r L g' => r = jv_I 1 ∧ L = LL n l ∧ IC A B (ub S (2 + a) b (ctv (S 0 a) v)) tr 0 rb l t g' ∧ kC g g') := by
          intro x hx
          subst hx
          apply sg_X_put_72 (A := A)
          exact ⟨⟨by omega, by omega⟩, rfl, rfl, IC_sh hC0 (fun p i hp => up_ne (by omega)) (ShC_ub hC0.2.2.2.2.2.1 (by omega)), kC_t k0 (fun p i hp => up_ne (by omega))⟩
        apply sg_Sh_cut_0 (A := A)
        rw [show jv_up g 1 11 0 8 (a : Int) = S 0 a by rw [up_ne (by omega)]; exact e3]
        unfold ctv at fin ⊢
        refine ⟨by omega, fun q0 => ?_, fun q0 => ⟨by omega, fun q1 => ?_, fun q1 => ?_⟩⟩
        · rw [if_pos q0] at fin ⊢
          exact fin _ rfl
        · rw [if_neg q0, if_pos q1] at fin ⊢
          exact fin _ rfl
        · rw [if_neg q0, if_neg q1] at fin ⊢
          exact fin _ rfl
  · have hM0 := IM_f hM1 0
    have q0 : kM g1 (jv_up g1 136 0 0) := kM_u _ _ (by omega) (by omega)
    apply sg_Y_put_0 (A := A)
    unfold o_put
    refine ⟨⟨LLx_ok, trivial⟩, fun h => ?_, fun h => ?_⟩
    · rw [if_pos (jp0.mp h)]
      exact ⟨rfl, rfl, hM0, q0⟩
    have hk := jnn h
    obtain ⟨a, rfl⟩ := nat_of hk.1
    rw [if_neg (fun h' => h' hk), Int.toNat_natCast]
    have ha : a < 4 := by omega
    obtain ⟨e1, e2⟩ := sh_m hS hM1.2.2.1 ha
    rw [e1]
    refine ⟨by omega, fun h1 => ?_, fun h1 => ?_⟩
    · rw [if_pos h1]
      exact tr_Y_fails hM0 (by omega) rfl (fun g2 a1 a2 => sg_Y_put_30 (A := A) ⟨rfl, rfl, a1, kM_t q0 a2⟩)
    · rcases e2 with e2 | ⟨-, e3, e4, e5⟩
      · exact absurd e2 h1
      rw [e3, if_neg h1]
      refine ⟨by omega, ⟨by omega, by omega⟩, trivial, fun h2 => ?_, fun h2 => ?_⟩
      · rw [if_pos (fun h' => jp0.mp h2 ⟨h'.1, by omega⟩)]
        exact tr_Y_fails hM0 (by omega) rfl (fun g2 a1 a2 => sg_Y_put_52 (A := A) ⟨rfl, rfl, a1, kM_t q0 a2⟩)
      · have hi := jnn h2
        obtain ⟨b, rfl⟩ := nat_of hi.1
        rw [if_neg (fun h' => h' ⟨hi.1, by omega⟩), Int.toNat_natCast]
        have fin : ∀ x : Int, x = ctv (S 0 a) v → (fun r L g' => r = jv_I 1 ∧ L = LL n l ∧ IM A B (ub S (2 + a) b (ctv (S 0 a) v)) tr 0 g' ∧ kM g1 g') (jv_I 1) (LL n l) (jv_up (jv_up g1 136 0 0) 139 (60 * (a : Int) + b) x) := by
          intro x hx
          subst hx
          exact ⟨rfl, rfl, IM_sh hM0 (fun p i hp => up_ne (by omega)) (ShM_ub hM0.2.2.1 (by omega)), kM_t q0 (kM_u _ _ (by omega) (by omega))⟩
        unfold ctv at fin ⊢
        refine ⟨⟨by omega, by omega⟩, ⟨by omega, by omega⟩, by omega, fun z0 => ⟨⟨by omega, by omega⟩, ?_⟩, fun z0 => ⟨by omega, fun z1 => ⟨⟨by omega, by omega⟩, ?_⟩, fun z1 => ⟨⟨by omega, by omega⟩, ?_⟩⟩⟩
        · rw [if_pos z0] at fin ⊢
          exact fin _ rfl
        · rw [if_neg z0, if_pos z1] at fin ⊢
          exact fin _ rfl
        · rw [if_neg z0, if_neg z1] at fin ⊢
          exact fin _ rfl
set_option maxRecDepth 100000 in
theorem sg_X_cell_0 {A : jA} {n l : Nat} {g : jv_S} {Q : jv_V → jv_L → jv_S → Prop} {v1 v2 v3 : Int} (h :
   ((2 = 2) ∧ (LLx (LL n l)) ∧ (True)) ∧
    ((jb_p (0 ≤ v1 ∧ v1 ≤ 3)) = 0 →
     Q (jv_J (-9223372036854775808 : Int)) (LL n l) (jv_up g 1 11 (0 : Int))) ∧
    (¬ (jb_p (0 ≤ v1 ∧ v1 ≤ 3)) = 0 →
     ((2 = 2) ∧ (LLx (LL n l)) ∧ (True)) ∧
      ((jb_p (0 ≤ v3 ∧ v3 ≤ 2)) = 0 →
       Q (jv_J (-9223372036854775808 : Int)) (LL n l) (jv_up g 1 11 (0 : Int))) ∧
      (¬ (jb_p (0 ≤ v3 ∧ v3 ≤ 2)) = 0 →
       ((2 = 2) ∧ (LLx (LL n l)) ∧ (0 ≤ v1 ∧ v1 < 4)) ∧
        ((jb_p (¬ (jv_up g 1 11 (0 : Int)) 9 v1 = -1 ∧ ¬ (jv_up g 1 11 (0 : Int)) 8 v1 = v3)) = 0 →
         ((2 = 2) ∧ (LLx (LL n l)) ∧ (0 ≤ v1 ∧ v1 < 4)) ∧
          ((jb_p (¬ (jv_up g 1 11 (0 : Int)) 9 v1 = -1)) = 0 →
           jv_Ca jv_T jv_ml kX_lost [jv_P 1, jv_I (1 : Int)] (LL n l) (jv_up g 1 11 (0 : Int)) (fun r L2 g2 => jv_At jv_T jv_ml kX_cell 69 [jv_P 1, jv_I v1, jv_I v2, jv_I v3] (jv_pu r []) L2 g2 Q)) ∧
          (¬ (jb_p (¬ (jv_up g 1 11 (0 : Int)) 9 v1 = -1)) = 0 →
           ((2 = 2) ∧ (LLx (LL n l)) ∧ (0 ≤ v1 ∧ v1 < 4)) ∧
            ((jb_p (0 ≤ v2 ∧ v2 < (jv_up g 1 11 (0 : Int)) 9 v1)) = 0 →
             jv_Ca jv_T jv_ml kX_lost [jv_P 1, jv_I (3 : Int)] (LL n l) (jv_up g 1 11 (0 : Int)) (fun r L2 g2 => jv_At jv_T jv_ml kX_cell 87 [jv_P 1, jv_I v1, jv_I v2, jv_I v3] (jv_pu r []) L2 g2 Q)) ∧
            (¬ (jb_p (0 ≤ v2 ∧ v2 < (jv_up g 1 11 (0 : Int)) 9 v1)) = 0 →
             (0 ≤ v1 ∧ v1 < 4) ∧
              (0 ≤ v2 ∧ v2 < 60) ∧
              Q (jv_J (g 3 (v1 * 60 + v2))) (LL n l) (jv_up g 1 11 (0 : Int))))) ∧
        (¬ (jb_p (¬ (jv_up g 1 11 (0 : Int)) 9 v1 = -1 ∧ ¬ (jv_up g 1 11 (0 : Int)) 8 v1 = v3)) = 0 →
         jv_Ca jv_T jv_ml kX_lost [jv_P 1, jv_I (2 : Int)] (LL n l) (jv_up g 1 11 (0 : Int)) (fun r L2 g2 => jv_At jv_T jv_ml kX_cell 52 [jv_P 1, jv_I v1, jv_I v2, jv_I v3] (jv_pu r []) L2 g2 Q))))) :
  jv_At jv_T jv_ml kX_cell 0 [jv_P 1, jv_I v1, jv_I v2, jv_I v3] [] (LL n l) g Q :=
  jv_of_wp (gok9 (A := A)) (md := []) (stop := []) (tab := jt_X_cell) rfl 400 _ _ _ _ _ h
set_option maxRecDepth 100000 in
theorem sg_X_cell_52 {A : jA} {n l : Nat} {g : jv_S} {Q : jv_V → jv_L → jv_S → Prop} {v1 v2 v3 s0 : Int} (h :
   Q (jv_J s0) (LL n l) g) :
  jv_At jv_T jv_ml kX_cell 52 [jv_P 1, jv_I v1, jv_I v2, jv_I v3] [jv_J s0] (LL n l) g Q :=
  jv_of_wp (gok9 (A := A)) (md := []) (stop := []) (tab := jt_X_cell) rfl 400 _ _ _ _ _ h
set_option maxRecDepth 100000 in
theorem sg_X_cell_69 {A : jA} {n l : Nat} {g : jv_S} {Q : jv_V → jv_L → jv_S → Prop} {v1 v2 v3 s0 : Int} (h :
   Q (jv_J s0) (LL n l) g) :
  jv_At jv_T jv_ml kX_cell 69 [jv_P 1, jv_I v1, jv_I v2, jv_I v3] [jv_J s0] (LL n l) g Q :=
  jv_of_wp (gok9 (A := A)) (md := []) (stop := []) (tab := jt_X_cell) rfl 400 _ _ _ _ _ h
set_option maxRecDepth 100000 in
theorem sg_X_cell_87 {A : jA} {n l : Nat} {g : jv_S} {Q : jv_V → jv_L → jv_S → Prop} {v1 v2 v3 s0 : Int} (h :
   Q (jv_J s0) (LL n l) g) :
  jv_At jv_T jv_ml kX_cell 87 [jv_P 1, jv_I v1, jv_I v2, jv_I v3] [jv_J s0] (LL n l) g Q :=
  jv_of_wp (gok9 (A := A)) (md := []) (stop := []) (tab := jt_X_cell) rfl 400 _ _ _ _ _ h
set_option maxRecDepth 100000 in
theorem sg_Y_cell_0 {A : jA} {n l : Nat} {g : jv_S} {Q : jv_V → jv_L → jv_S → Prop} {v1 v2 v3 : Int} (h :
   ((LLx (LL n l)) ∧ (True)) ∧
    ((jb_p (0 ≤ v1 ∧ v1 ≤ 3)) = 0 →
     Q (jv_J (-9223372036854775808 : Int)) (LL n l) (jv_up g 136 0 (0 : Int))) ∧
    (¬ (jb_p (0 ≤ v1 ∧ v1 ≤ 3)) = 0 →
     ((LLx (LL n l)) ∧ (True)) ∧
      ((jb_p (0 ≤ v3 ∧ v3 ≤ 2)) = 0 →
       Q (jv_J (-9223372036854775808 : Int)) (LL n l) (jv_up g 136 0 (0 : Int))) ∧
      (¬ (jb_p (0 ≤ v3 ∧ v3 ≤ 2)) = 0 →
       (0 ≤ v1 ∧ v1 < 4) ∧
        ((g 137 v1) = (-9 : Int) →
         (0 ≤ v1 ∧ v1 < 4) ∧
          ((g 137 v1) = (-9 : Int) →
           jv_Ca jv_T jv_ml kY_lost [jv_P 136, jv_I (1 : Int)] (LL n l) (jv_up g 136 0 (0 : Int)) (fun r L2 g2 => jv_At jv_T jv_ml kY_cell 66 [jv_P 136, jv_I v1, jv_I v2, jv_I v3] (jv_pu r []) L2 g2 Q)) ∧
          (¬ (g 137 v1) = (-9 : Int) →
           (0 ≤ v1 ∧ v1 < 4) ∧
            jv_r32 ((g 138 v1) - (1 : Int)) ∧
            ((True)) ∧
            ((jb_p ((0 : Int) ≤ v2 ∧ v2 ≤ ((g 138 v1) - (1 : Int)))) = 0 →
             jv_Ca jv_T jv_ml kY_lost [jv_P 136, jv_I (3 : Int)] (LL n l) (jv_up g 136 0 (0 : Int)) (fun r L2 g2 => jv_At jv_T jv_ml kY_cell 88 [jv_P 136, jv_I v1, jv_I v2, jv_I v3] (jv_pu r []) L2 g2 Q)) ∧
            (¬ (jb_p ((0 : Int) ≤ v2 ∧ v2 ≤ ((g 138 v1) - (1 : Int)))) = 0 →
             jv_r32 ((60 : Int) * v1) ∧
              jv_r32 (((60 : Int) * v1) + v2) ∧
              (0 ≤ (((60 : Int) * v1) + v2) ∧ (((60 : Int) * v1) + v2) < 240) ∧
              Q (jv_J (g 139 (((60 : Int) * v1) + v2))) (LL n l) (jv_up g 136 0 (0 : Int))))) ∧
        (¬ (g 137 v1) = (-9 : Int) →
         (0 ≤ v1 ∧ v1 < 4) ∧
          ((g 137 v1) = v3 →
           (0 ≤ v1 ∧ v1 < 4) ∧
            ((g 137 v1) = (-9 : Int) →
             jv_Ca jv_T jv_ml kY_lost [jv_P 136, jv_I (1 : Int)] (LL n l) (jv_up g 136 0 (0 : Int)) (fun r L2 g2 => jv_At jv_T jv_ml kY_cell 66 [jv_P 136, jv_I v1, jv_I v2, jv_I v3] (jv_pu r []) L2 g2 Q)) ∧
            (¬ (g 137 v1) = (-9 : Int) →
             (0 ≤ v1 ∧ v1 < 4) ∧
              jv_r32 ((g 138 v1) - (1 : Int)) ∧
              ((True)) ∧
              ((jb_p ((0 : Int) ≤ v2 ∧ v2 ≤ ((g 138 v1) - (1 : Int)))) = 0 →
               jv_Ca jv_T jv_ml kY_lost [jv_P 136, jv_I (3 : Int)] (LL n l) (jv_up g 136 0 (0 : Int)) (fun r L2 g2 => jv_At jv_T jv_ml kY_cell 88 [jv_P 136, jv_I v1, jv_I v2, jv_I v3] (jv_pu r []) L2 g2 Q)) ∧
              (¬ (jb_p ((0 : Int) ≤ v2 ∧ v2 ≤ ((g 138 v1) - (1 : Int)))) = 0 →
               jv_r32 ((60 : Int) * v1) ∧
                jv_r32 (((60 : Int) * v1) + v2) ∧
                (0 ≤ (((60 : Int) * v1) + v2) ∧ (((60 : Int) * v1) + v2) < 240) ∧
                Q (jv_J (g 139 (((60 : Int) * v1) + v2))) (LL n l) (jv_up g 136 0 (0 : Int))))) ∧
          (¬ (g 137 v1) = v3 →
           jv_Ca jv_T jv_ml kY_lost [jv_P 136, jv_I (2 : Int)] (LL n l) (jv_up g 136 0 (0 : Int)) (fun r L2 g2 => jv_At jv_T jv_ml kY_cell 49 [jv_P 136, jv_I v1, jv_I v2, jv_I v3] (jv_pu r []) L2 g2 Q)))))) :
  jv_At jv_T jv_ml kY_cell 0 [jv_P 136, jv_I v1, jv_I v2, jv_I v3] [] (LL n l) g Q :=
  jv_of_wp (gok9 (A := A)) (md := []) (stop := []) (tab := jt_Y_cell) rfl 400 _ _ _ _ _ h
set_option maxRecDepth 100000 in
theorem sg_Y_cell_49 {A : jA} {n l : Nat} {g : jv_S} {Q : jv_V → jv_L → jv_S → Prop} {v1 v2 v3 s0 : Int} (h :
   Q (jv_J s0) (LL n l) g) :
  jv_At jv_T jv_ml kY_cell 49 [jv_P 136, jv_I v1, jv_I v2, jv_I v3] [jv_J s0] (LL n l) g Q :=
  jv_of_wp (gok9 (A := A)) (md := []) (stop := []) (tab := jt_Y_cell) rfl 400 _ _ _ _ _ h
set_option maxRecDepth 100000 in
theorem sg_Y_cell_66 {A : jA} {n l : Nat} {g : jv_S} {Q : jv_V → jv_L → jv_S → Prop} {v1 v2 v3 s0 : Int} (h :
   Q (jv_J s0) (LL n l) g) :
  jv_At jv_T jv_ml kY_cell 66 [jv_P 136, jv_I v1, jv_I v2, jv_I v3] [jv_J s0] (LL n l) g Q :=
  jv_of_wp (gok9 (A := A)) (md := []) (stop := []) (tab := jt_Y_cell) rfl 400 _ _ _ _ _ h
set_option maxRecDepth 100000 in
theorem sg_Y_cell_88 {A : jA} {n l : Nat} {g : jv_S} {Q : jv_V → jv_L → jv_S → Prop} {v1 v2 v3 s0 : Int} (h :
   Q (jv_J s0) (LL n l) g) :
  jv_At jv_T jv_ml kY_cell 88 [jv_P 136, jv_I v1, jv_I v2, jv_I v3] [jv_J s0] (LL n l) g Q :=
  jv_of_wp (gok9 (A := A)) (md := []) (stop := []) (tab := jt_Y_cell) rfl 400 _ _ _ _ _ h
def o_cell (S : jB) (k i so : Int) : Int × Int := if ¬ (0 ≤ k ∧ k ≤ 3) then (-9223372036854775808, 0) else if ¬ (0 ≤ so ∧ so ≤ 2) then (-9223372036854775808, 0) else if S 0 k.toNat = -9 then (-9223372036854775808, 1) else if ¬ S 0 k.toNat = so then (-9223372036854775808, 2) else if ¬ (0 ≤ i ∧ i < S 1 k.toNat) then (-9223372036854775808, 3) else (S (2 + k.toNat) i.toNat, 0)
theorem st_cell {s : Int → Int} {n l t : Nat} {g : jv_S} {k i so : Int} (h : IV s l t g) (ht : t < 64) : CJ s n t kX_cell kY_cell [jv_I k, jv_I i, jv_I so] l g := by
  obtain ⟨h0, A, B, S, tr, fl, rb, hP, hC, hM⟩ := h
  have hS := hP.2.2.2.2.2.1
  have hC0 := IC_f hC 0
  have k0 : kC g (jv_up g 1 11 0) := kC_1 _ _
  have sC := hC.2.2.2.2.2.1
  refine CJ_o (S := S) (fl := fl) (tr' := tr) (v := (o_cell S k i so).1) (fl' := (o_cell S k i so).2) (S' := S) h0 ht hP hM hS ?_ (fun g1 hM1 => ?_)
  · apply sg_X_cell_0 (A := A)
    unfold o_cell
    refine ⟨⟨rfl, LLx_ok, trivial⟩, fun h => ?_, fun h => ?_⟩
    · rw [if_pos (jp0.mp h)]
      exact ⟨rfl, rfl, hC0, k0⟩
    have hk := jnn h
    obtain ⟨a, rfl⟩ := nat_of hk.1
    rw [if_neg (fun h' => h' hk), Int.toNat_natCast]
    have ha : a < 4 := by omega
    refine ⟨⟨rfl, LLx_ok, trivial⟩, fun h2 => ?_, fun h2 => ?_⟩
    · rw [if_pos (jp0.mp h2)]
      exact ⟨rfl, rfl, hC0, k0⟩
    have hso := jnn h2
    rw [if_neg (fun h' => h' hso)]
    rw [show jv_up g 1 11 0 9 (a : Int) = g 9 a from up_ne (by omega), show jv_up g 1 11 0 8 (a : Int) = g 8 a from up_ne (by omega)]
    refine ⟨⟨rfl, LLx_ok, by omega⟩, ?_⟩
    rcases sh_c hS sC ha with ⟨e1, e2⟩ | ⟨e1, e2, e3, e4, e5⟩
    · rw [e2, if_pos e1]
      exact ⟨fun _ => ⟨⟨rfl, LLx_ok, by omega⟩, fun _ => tr_X_lost hC0 (fun g2 a1 a2 => sg_X_cell_69 (A := A) ⟨rfl, rfl, a1, kC_t k0 a2⟩), fun h' => absurd rfl (jnn h')⟩, fun h' => absurd rfl (jnn h').1⟩
    · rw [e2, e3, if_neg e1]
      refine ⟨fun h3 => ?_, fun h3 => ?_⟩
      · have he : S 0 a = so := Classical.byContradiction (fun h' => jp0.mp h3 ⟨by omega, h'⟩)
        rw [if_neg (fun h' => h' he)]
        refine ⟨⟨rfl, LLx_ok, by omega⟩, fun h' => absurd (show ¬ S 1 a = -1 by omega) (jp0.mp h'), fun _ => ⟨⟨rfl, LLx_ok, by omega⟩, fun h4 => ?_, fun h4 => ?_⟩⟩
        · rw [if_pos (jp0.mp h4)]
          exact tr_X_lost hC0 (fun g2 a1 a2 => sg_X_cell_87 (A := A) ⟨rfl, rfl, a1, kC_t k0 a2⟩)
        · have hi := jnn h4
          obtain ⟨b, rfl⟩ := nat_of hi.1
          rw [if_neg (fun h' => h' hi), Int.toNat_natCast, (sC a ha).2.2 b (by omega)]
          exact ⟨by omega, ⟨by omega, by omega⟩, rfl, rfl, hC0, k0⟩
      · rw [if_pos (jnn h3).2]
        exact tr_X_lost hC0 (fun g2 a1 a2 => sg_X_cell_52 (A := A) ⟨rfl, rfl, a1, kC_t k0 a2⟩)
  · have hM0 := IM_f hM1 0
    have q0 : kM g1 (jv_up g1 136 0 0) := kM_u _ _ (by omega) (by omega)
    apply sg_Y_cell_0 (A := A)
    unfold o_cell
    refine ⟨⟨LLx_ok, trivial⟩, fun h => ?_, fun h => ?_⟩
    · rw [if_pos (jp0.mp h)]
      exact ⟨rfl, rfl, hM0, q0⟩
    have hk := jnn h
    obtain ⟨a, rfl⟩ := nat_of hk.1
    rw [if_neg (fun h' => h' hk), Int.toNat_natCast]
    have ha : a < 4 := by omega
    refine ⟨⟨LLx_ok, trivial⟩, fun h2 => ?_, fun h2 => ?_⟩
    · rw [if_pos (jp0.mp h2)]
      exact ⟨rfl, rfl, hM0, q0⟩
    have hso := jnn h2
    rw [if_neg (fun h' => h' hso)]
    obtain ⟨e1, e2⟩ := sh_m hS hM1.2.2.1 ha
    rw [e1]
    refine ⟨by omega, fun h3 => ?_, fun h3 => ?_⟩
    · rw [if_pos h3]
      exact ⟨by omega, fun _ => tr_Y_lost hM0 (fun g2 a1 a2 => sg_Y_cell_66 (A := A) ⟨rfl, rfl, a1, kM_t q0 a2⟩), fun h' => absurd h3 h'⟩
    · rcases e2 with e2 | ⟨-, e3, e4, e5⟩
      · exact absurd e2 h3
      rw [e3, if_neg h3]
      refine ⟨by omega, fun h4 => ?_, fun h4 => ?_⟩
      · rw [if_neg (fun h' => h' h4)]
        refine ⟨by omega, fun h' => absurd h' h3, fun _ => ⟨by omega, ⟨by omega, by omega⟩, trivial, fun h5 => ?_, fun h5 => ?_⟩⟩
        · rw [if_pos (fun h' => jp0.mp h5 ⟨h'.1, by omega⟩)]
          exact tr_Y_lost hM0 (fun g2 a1 a2 => sg_Y_cell_88 (A := A) ⟨rfl, rfl, a1, kM_t q0 a2⟩)
        · have hi := jnn h5
          obtain ⟨b, rfl⟩ := nat_of hi.1
          rw [if_neg (fun h' => h' ⟨hi.1, by omega⟩), Int.toNat_natCast, (hM1.2.2.1 a ha).2.2 b (by omega)]
          exact ⟨⟨by omega, by omega⟩, ⟨by omega, by omega⟩, ⟨by omega, by omega⟩, rfl, rfl, hM0, q0⟩
      · rw [if_pos h4]
        exact tr_Y_lost hM0 (fun g2 a1 a2 => sg_Y_cell_49 (A := A) ⟨rfl, rfl, a1, kM_t q0 a2⟩)
set_option maxRecDepth 100000 in
theorem sg_Sh_drop_0 {A : jA} {n l : Nat} {g : jv_S} {Q : jv_V → jv_L → jv_S → Prop} {v1 : Int} (h :
   ((2 = 2) ∧ (LLx (LL n l)) ∧ (0 ≤ v1 ∧ v1 < 4)) ∧
    (0 ≤ v1 ∧ v1 < 4) ∧ 
    ((jb_p (¬ g 9 v1 = -1)) = 0 ∨ (jb_p (¬ g 9 v1 = -1)) = 1) ∧ Q (jv_I (jb_p (¬ g 9 v1 = -1))) (LL n l) (jv_up g 9 v1 (-1 : Int))) :
  jv_At jv_T jv_ml kSh_drop 0 [jv_P 2, jv_I v1, jv_U] [] (LL n l) g Q :=
  jv_of_wp (gok9 (A := A)) (md := []) (stop := []) (tab := jt_Sh_drop) rfl 400 _ _ _ _ _ h
set_option maxRecDepth 100000 in
theorem sg_X_lose_0 {A : jA} {n l : Nat} {g : jv_S} {Q : jv_V → jv_L → jv_S → Prop} {v1 : Int} (h :
   ((2 = 2) ∧ (LLx (LL n l)) ∧ (True)) ∧
    ((jb_p (0 ≤ v1 ∧ v1 ≤ 3)) = 0 →
     Q (jv_I (-1 : Int)) (LL n l) g) ∧
    (¬ (jb_p (0 ≤ v1 ∧ v1 ≤ 3)) = 0 →
     jv_Ca jv_T jv_ml kSh_drop [jv_P 2, jv_I v1] (LL n l) g (fun r L2 g2 => jv_At jv_T jv_ml kX_lose 21 [jv_P 1, jv_I v1] (jv_pu r []) L2 g2 Q))) :
  jv_At jv_T jv_ml kX_lose 0 [jv_P 1, jv_I v1] [] (LL n l) g Q :=
  jv_of_wp (gok9 (A := A)) (md := []) (stop := []) (tab := jt_X_lose) rfl 400 _ _ _ _ _ h
set_option maxRecDepth 100000 in
theorem sg_X_lose_21 {A : jA} {n l : Nat} {g : jv_S} {Q : jv_V → jv_L → jv_S → Prop} {v1 s0 : Int} (h :
   (s0 = 0 →
     Q (jv_I (0 : Int)) (LL n l) g) ∧
    (¬ s0 = 0 →
     Q (jv_I (1 : Int)) (LL n l) g)) :
  jv_At jv_T jv_ml kX_lose 21 [jv_P 1, jv_I v1] [jv_I s0] (LL n l) g Q :=
  jv_of_wp (gok9 (A := A)) (md := []) (stop := []) (tab := jt_X_lose) rfl 400 _ _ _ _ _ h
set_option maxRecDepth 100000 in
theorem sg_Y_lose_0 {A : jA} {n l : Nat} {g : jv_S} {Q : jv_V → jv_L → jv_S → Prop} {v1 : Int} (h :
   ((LLx (LL n l)) ∧ (True)) ∧
    ((jb_p (0 ≤ v1 ∧ v1 ≤ 3)) = 0 →
     Q (jv_I (-1 : Int)) (LL n l) g) ∧
    (¬ (jb_p (0 ≤ v1 ∧ v1 ≤ 3)) = 0 →
     (0 ≤ v1 ∧ v1 < 4) ∧
      ((g 137 v1) = (-9 : Int) →
       (0 ≤ v1 ∧ v1 < 4) ∧ 
        Q (jv_I (0 : Int)) (LL n l) (jv_up g 137 v1 (-9 : Int))) ∧
      (¬ (g 137 v1) = (-9 : Int) →
       (0 ≤ v1 ∧ v1 < 4) ∧ 
        Q (jv_I (1 : Int)) (LL n l) (jv_up g 137 v1 (-9 : Int))))) :
  jv_At jv_T jv_ml kY_lose 0 [jv_P 136, jv_I v1, jv_U] [] (LL n l) g Q :=
  jv_of_wp (gok9 (A := A)) (md := []) (stop := []) (tab := jt_Y_lose) rfl 400 _ _ _ _ _ h
def o_lose (S : jB) (k : Int) : Int × jB := if ¬ (0 ≤ k ∧ k ≤ 3) then (-1, S) else if S 0 k.toNat = -9 then (0, ub S 0 k.toNat (-9)) else (1, ub S 0 k.toNat (-9))
theorem ShW_lo {S : jB} {a : Nat} (h : ShW S) : ShW (ub S 0 a (-9)) := by
  intro k hk
  obtain ⟨h1, h2⟩ := h k hk
  refine ⟨?_, fun j hj => by rw [ub_ne (by omega)]; exact h2 j hj⟩
  by_cases he : k = a
  · rw [ub_eq rfl he]; exact Or.inl rfl
  · rw [ub_ne (by omega), ub_ne (by omega)]; exact h1
theorem st_lose {s : Int → Int} {n l t : Nat} {g : jv_S} {k : Int} (h : IV s l t g) (ht : t < 64) : CI s n t kX_lose kY_lose [jv_I k] l g := by
  obtain ⟨h0, A, B, S, tr, fl, rb, hP, hC, hM⟩ := h
  have hS := hP.2.2.2.2.2.1
  have sC := hC.2.2.2.2.2.1
  refine CI_o (S := S) (fl := fl) (tr' := tr) (v := (o_lose S k).1) (fl' := fl) (S' := (o_lose S k).2) h0 ht hP hM ?_ ?_ (fun g1 hM1 => ?_)
  · unfold o_lose
    split
    · exact hS
    · split <;> exact ShW_lo hS
  · apply sg_X_lose_0 (A := A)
    unfold o_lose
    refine ⟨⟨rfl, LLx_ok, trivial⟩, fun h => ?_, fun h => ?_⟩
    · rw [if_pos (jp0.mp h)]
      exact ⟨rfl, rfl, hC, kC_r g⟩
    have hk := jnn h
    obtain ⟨a, rfl⟩ := nat_of hk.1
    rw [if_neg (fun h' => h' hk), Int.toNat_natCast]
    have ha : a < 4 := by omega
    have hI : IC A B (ub S 0 a (-9)) tr fl rb l t (jv_up g 9 a (-1)) := by
      refine IC_sh hC (fun p i hp => up_ne (by omega)) (fun q hq => ?_)
      obtain ⟨h1, h2, h3⟩ := sC q hq
      by_cases he : q = a
      · subst he
        rw [ub_eq rfl rfl, up_eq rfl rfl]
        exact ⟨fun _ => rfl, fun h' => absurd rfl h', fun i hi => by rw [up_ne (by omega), ub_ne (by omega)]; exact h3 i hi⟩
      · rw [ub_ne (by omega), ub_ne (by omega), up_ne (by omega), up_ne (by omega)]
        exact ⟨h1, h2, fun i hi => by rw [up_ne (by omega), ub_ne (by omega)]; exact h3 i hi⟩
    have kk : kC g (jv_up g 9 a (-1)) := fun p i hp => up_ne (by omega)
    apply sg_Sh_drop_0 (A := A)
    refine ⟨⟨rfl, LLx_ok, by omega⟩, by omega, jp01, ?_⟩
    apply sg_X_lose_21 (A := A)
    rcases sh_c hS sC ha with ⟨e1, e2⟩ | ⟨e1, e2, e3, e4, e5⟩
    · rw [e2, if_pos e1]
      exact ⟨fun _ => ⟨rfl, rfl, hI, kk⟩, fun h' => absurd rfl (jnn h')⟩
    · rw [e2, if_neg e1]
      exact ⟨fun h' => absurd (show ¬ S 1 a = -1 by omega) (jp0.mp h'), fun _ => ⟨rfl, rfl, hI, kk⟩⟩
  · apply sg_Y_lose_0 (A := A)
    unfold o_lose
    refine ⟨⟨LLx_ok, trivial⟩, fun h => ?_, fun h => ?_⟩
    · rw [if_pos (jp0.mp h)]
      exact ⟨rfl, rfl, hM1, kM_r g1⟩
    have hk := jnn h
    obtain ⟨a, rfl⟩ := nat_of hk.1
    rw [if_neg (fun h' => h' hk), Int.toNat_natCast]
    have ha : a < 4 := by omega
    have hI : IM A B (ub S 0 a (-9)) tr fl (jv_up g1 137 a (-9)) := by
      refine IM_sh hM1 (fun p i hp => up_ne (by omega)) (fun q hq => ?_)
      obtain ⟨h1, h2, h3⟩ := hM1.2.2.1 q hq
      by_cases he : q = a
      · subst he
        rw [ub_eq rfl rfl, up_eq rfl rfl]
        exact ⟨rfl, fun h' => absurd rfl h', fun i hi => by rw [up_ne (by omega), ub_ne (by omega)]; exact h3 i hi⟩
      · rw [ub_ne (by omega), ub_ne (by omega), up_ne (by omega), up_ne (by omega)]
        exact ⟨h1, h2, fun i hi => by rw [up_ne (by omega), ub_ne (by omega)]; exact h3 i hi⟩
    have kk : kM g1 (jv_up g1 137 a (-9)) := kM_u _ _ (by omega) (by omega)
    rw [(hM1.2.2.1 a ha).1]
    refine ⟨by omega, fun h1 => ⟨by omega, ?_⟩, fun h1 => ⟨by omega, ?_⟩⟩
    · rw [if_pos h1]; exact ⟨rfl, rfl, hI, kk⟩
    · rw [if_neg h1]; exact ⟨rfl, rfl, hI, kk⟩
set_option maxRecDepth 100000 in
theorem sg_Ar_fill_R3_0 {A : jA} {n l : Nat} {g : jv_S} {Q : jv_V → jv_L → jv_S → Prop} {v0 v1 : Int} (h :
   jv_At jv_T jv_ml kAr_fill 5 [jv_R 3 v0, jv_I v1, jv_I (0 : Int), jv_I (60 : Int)] [] (LL n l) g Q) :
  jv_At jv_T jv_ml kAr_fill 0 [jv_R 3 v0, jv_I v1, jv_U, jv_U] [] (LL n l) g Q :=
  jv_of_wp (gok9 (A := A)) (md := []) (stop := [5]) (tab := jt_Ar_fill) rfl 400 _ _ _ _ _ h
set_option maxRecDepth 100000 in
theorem sg_Ar_fill_R3_5 {A : jA} {n l : Nat} {g : jv_S} {Q : jv_V → jv_L → jv_S → Prop} {v0 v1 v2 v3 : Int} (h :
   (v3 ≤ v2 →
     Q jv_U (LL n l) g) ∧
    (¬ v3 ≤ v2 →
     (0 ≤ v2 ∧ v2 < 60) ∧ 
      jv_r32 (v2 + (1 : Int)) ∧
      jv_At jv_T jv_ml kAr_fill 5 [jv_R 3 v0, jv_I v1, jv_I (v2 + (1 : Int)), jv_I v3] [] (LL n l) (jv_up g 3 (v0 * 60 + v2) v1) Q)) :
  jv_At jv_T jv_ml kAr_fill 5 [jv_R 3 v0, jv_I v1, jv_I v2, jv_I v3] [] (LL n l) g Q :=
  jv_of_wp (gok9 (A := A)) (md := []) (stop := [5]) (tab := jt_Ar_fill) rfl 400 _ _ _ _ _ h
set_option maxRecDepth 100000 in
theorem sg_Sh_renew_0 {A : jA} {n l : Nat} {g : jv_S} {Q : jv_V → jv_L → jv_S → Prop} {v1 v2 v3 : Int} (h :
   (0 ≤ v1 ∧ v1 < 4) ∧
    jv_Ca jv_T jv_ml kAr_fill [jv_R 3 v1, jv_I (0 : Int)] (LL n l) g (fun r L2 g2 => jv_At jv_T jv_ml kSh_renew 10 [jv_P 2, jv_I v1, jv_I v2, jv_I v3] (jv_pu r []) L2 g2 Q)) :
  jv_At jv_T jv_ml kSh_renew 0 [jv_P 2, jv_I v1, jv_I v2, jv_I v3] [] (LL n l) g Q :=
  jv_of_wp (gok9 (A := A)) (md := []) (stop := []) (tab := jt_Sh_renew) rfl 400 _ _ _ _ _ h
set_option maxRecDepth 100000 in
theorem sg_Sh_renew_10 {A : jA} {n l : Nat} {g : jv_S} {Q : jv_V → jv_L → jv_S → Prop} {v1 v2 v3 : Int} (h :
   (0 ≤ v1 ∧ v1 < 4) ∧ 
    (0 ≤ v1 ∧ v1 < 4) ∧ 
    Q jv_U (LL n l) (jv_up (jv_up g 8 v1 v2) 9 v1 v3)) :
  jv_At jv_T jv_ml kSh_renew 10 [jv_P 2, jv_I v1, jv_I v2, jv_I v3] [] (LL n l) g Q :=
  jv_of_wp (gok9 (A := A)) (md := []) (stop := []) (tab := jt_Sh_renew) rfl 400 _ _ _ _ _ h
set_option maxRecDepth 100000 in
theorem sg_X_sheet_0 {A : jA} {n l : Nat} {g : jv_S} {Q : jv_V → jv_L → jv_S → Prop} {v1 v2 v3 : Int} (h :
   ((2 = 2) ∧ (LLx (LL n l)) ∧ (True)) ∧
    ((jb_p (0 ≤ v1 ∧ v1 ≤ 3)) = 0 →
     Q (jv_I (-1 : Int)) (LL n l) (jv_up g 1 11 (0 : Int))) ∧
    (¬ (jb_p (0 ≤ v1 ∧ v1 ≤ 3)) = 0 →
     ((2 = 2) ∧ (LLx (LL n l)) ∧ (True)) ∧
      ((jb_p (0 ≤ v2 ∧ v2 ≤ 2)) = 0 →
       Q (jv_I (-2 : Int)) (LL n l) (jv_up g 1 11 (0 : Int))) ∧
      (¬ (jb_p (0 ≤ v2 ∧ v2 ≤ 2)) = 0 →
       (v3 ≤ (60 : Int) →
         (0 ≤ v3 →
           jv_Ca jv_T jv_ml kSh_renew [jv_P 2, jv_I v1, jv_I v2, jv_I v3] (LL n l) (jv_up g 1 11 (0 : Int)) (fun r L2 g2 => jv_At jv_T jv_ml kX_sheet 58 [jv_P 1, jv_I v1, jv_I v2, jv_I v3] (jv_pu r []) L2 g2 Q)) ∧
          (¬ 0 ≤ v3 →
           jv_Ca jv_T jv_ml kX_fail [jv_P 1, jv_I (4 : Int)] (LL n l) (jv_up g 1 11 (0 : Int)) (fun r L2 g2 => jv_At jv_T jv_ml kX_sheet 47 [jv_P 1, jv_I v1, jv_I v2, jv_I v3] (jv_pu r []) L2 g2 Q))) ∧
        (¬ v3 ≤ (60 : Int) →
         Q (jv_I (-2 : Int)) (LL n l) (jv_up g 1 11 (0 : Int)))))) :
  jv_At jv_T jv_ml kX_sheet 0 [jv_P 1, jv_I v1, jv_I v2, jv_I v3] [] (LL n l) g Q :=
  jv_of_wp (gok9 (A := A)) (md := []) (stop := []) (tab := jt_X_sheet) rfl 400 _ _ _ _ _ h
set_option maxRecDepth 100000 in
theorem sg_X_sheet_47 {A : jA} {n l : Nat} {g : jv_S} {Q : jv_V → jv_L → jv_S → Prop} {v1 v2 v3 s0 : Int} (h :
   Q (jv_I s0) (LL n l) g) :
  jv_At jv_T jv_ml kX_sheet 47 [jv_P 1, jv_I v1, jv_I v2, jv_I v3] [jv_I s0] (LL n l) g Q :=
  jv_of_wp (gok9 (A := A)) (md := []) (stop := []) (tab := jt_X_sheet) rfl 400 _ _ _ _ _ h
set_option maxRecDepth 100000 in
theorem sg_X_sheet_58 {A : jA} {n l : Nat} {g : jv_S} {Q : jv_V → jv_L → jv_S → Prop} {v1 v2 v3 : Int} (h :
   Q (jv_I (1 : Int)) (LL n l) g) :
  jv_At jv_T jv_ml kX_sheet 58 [jv_P 1, jv_I v1, jv_I v2, jv_I v3] [] (LL n l) g Q :=
  jv_of_wp (gok9 (A := A)) (md := []) (stop := []) (tab := jt_X_sheet) rfl 400 _ _ _ _ _ h
set_option maxRecDepth 100000 in
theorem sg_Y_sheet_0 {A : jA} {n l : Nat} {g : jv_S} {Q : jv_V → jv_L → jv_S → Prop} {v1 v2 v3 : Int} (h :
   ((LLx (LL n l)) ∧ (True)) ∧
    ((jb_p (0 ≤ v1 ∧ v1 ≤ 3)) = 0 →
     Q (jv_I (-1 : Int)) (LL n l) (jv_up g 136 0 (0 : Int))) ∧
    (¬ (jb_p (0 ≤ v1 ∧ v1 ≤ 3)) = 0 →
     ((LLx (LL n l)) ∧ (True)) ∧
      ((jb_p (0 ≤ v2 ∧ v2 ≤ 2)) = 0 →
       Q (jv_I (-2 : Int)) (LL n l) (jv_up g 136 0 (0 : Int))) ∧
      (¬ (jb_p (0 ≤ v2 ∧ v2 ≤ 2)) = 0 →
       (v3 ≤ (60 : Int) →
         (0 ≤ v3 →
           (0 ≤ v1 ∧ v1 < 4) ∧ 
            (0 ≤ v1 ∧ v1 < 4) ∧ 
            jv_At jv_T jv_ml kY_sheet 57 [jv_P 136, jv_I v1, jv_I v2, jv_I v3, jv_I (0 : Int)] [] (LL n l) (jv_up (jv_up (jv_up g 136 0 (0 : Int)) 137 v1 v2) 138 v1 v3) Q) ∧
          (¬ 0 ≤ v3 →
           jv_Ca jv_T jv_ml kY_fails [jv_P 136, jv_I (4 : Int)] (LL n l) (jv_up g 136 0 (0 : Int)) (fun r L2 g2 => jv_At jv_T jv_ml kY_sheet 39 [jv_P 136, jv_I v1, jv_I v2, jv_I v3, jv_U] (jv_pu r []) L2 g2 Q))) ∧
        (¬ v3 ≤ (60 : Int) →
         Q (jv_I (-2 : Int)) (LL n l) (jv_up g 136 0 (0 : Int)))))) :
  jv_At jv_T jv_ml kY_sheet 0 [jv_P 136, jv_I v1, jv_I v2, jv_I v3, jv_U] [] (LL n l) g Q :=
  jv_of_wp (gok9 (A := A)) (md := []) (stop := [57]) (tab := jt_Y_sheet) rfl 400 _ _ _ _ _ h
set_option maxRecDepth 100000 in
theorem sg_Y_sheet_39 {A : jA} {n l : Nat} {g : jv_S} {Q : jv_V → jv_L → jv_S → Prop} {v1 v2 v3 s0 : Int} {v4 : jv_V} (h :
   Q (jv_I s0) (LL n l) g) :
  jv_At jv_T jv_ml kY_sheet 39 [jv_P 136, jv_I v1, jv_I v2, jv_I v3, v4] [jv_I s0] (LL n l) g Q :=
  jv_of_wp (gok9 (A := A)) (md := []) (stop := [57]) (tab := jt_Y_sheet) rfl 400 _ _ _ _ _ h
set_option maxRecDepth 100000 in
theorem sg_Y_sheet_57 {A : jA} {n l : Nat} {g : jv_S} {Q : jv_V → jv_L → jv_S → Prop} {v1 v2 v3 v4 : Int} (h :
   ((60 : Int) ≤ v4 →
     Q (jv_I (1 : Int)) (LL n l) g) ∧
    (¬ (60 : Int) ≤ v4 →
     jv_r32 ((60 : Int) * v1) ∧
      jv_r32 (((60 : Int) * v1) + v4) ∧
      (0 ≤ (((60 : Int) * v1) + v4) ∧ (((60 : Int) * v1) + v4) < 240) ∧ 
      jv_r32 (v4 + (1 : Int)) ∧
      jv_At jv_T jv_ml kY_sheet 57 [jv_P 136, jv_I v1, jv_I v2, jv_I v3, jv_I (v4 + (1 : Int))] [] (LL n l) (jv_up g 139 (((60 : Int) * v1) + v4) (0 : Int)) Q)) :
  jv_At jv_T jv_ml kY_sheet 57 [jv_P 136, jv_I v1, jv_I v2, jv_I v3, jv_I v4] [] (LL n l) g Q :=
  jv_of_wp (gok9 (A := A)) (md := []) (stop := [57]) (tab := jt_Y_sheet) rfl 400 _ _ _ _ _ h
theorem tr_fill_R3 {A : jA} {n l : Nat} {g : jv_S} {Q : jv_V → jv_L → jv_S → Prop} {v : Int} {a : Nat} (ha : a < 4) (hQ : ∀ g' : jv_S, (∀ i : Nat, i < 60 → g' 3 ((a : Int) * 60 + i) = v) → (∀ (q : Nat) (i : Int), ¬ (q = 3 ∧ (a : Int) * 60 ≤ i ∧ i < (a : Int) * 60 + 60) → g' q i = g q i) → Q jv_U (LL n l) g') : jv_Ca jv_T jv_ml kAr_fill [jv_R 3 a, jv_I v] (LL n l) g Q := by
  have key : ∀ k : Nat, k ≤ 60 → ∀ g' : jv_S, (∀ i : Nat, i < k → g' 3 ((a : Int) * 60 + i) = v) → (∀ (q : Nat) (i : Int), ¬ (q = 3 ∧ (a : Int) * 60 ≤ i ∧ i < (a : Int) * 60 + 60) → g' q i = g q i) → jv_At jv_T jv_ml kAr_fill 5 [jv_R 3 a, jv_I v, jv_I (k : Int), jv_I (60 : Int)] [] (LL n l) g' Q := by
    apply loop_up
    intro k hk ih g' h1 h2
    apply sg_Ar_fill_R3_5 (A := A)
    refine ⟨fun h => hQ g' (fun i h3 => h1 i (by omega)) h2, fun h => ⟨⟨by omega, by omega⟩, ⟨by omega, by omega⟩, ih (by omega) _ (fun i h3 => ?_) (fun q i hq => ?_)⟩⟩
    · by_cases hik : i = k
      · rw [up_eq rfl (by omega)]
      · rw [up_ne (by omega)]
        exact h1 i (by omega)
    · rw [up_ne (by omega)]
      exact h2 q i hq
  exact sg_Ar_fill_R3_0 (A := A) (key 0 (by omega) g (fun i h1 => by omega) (fun q i _ => rfl))
/-- sheet a anew -/
def nS (S : jB) (a : Nat) (so m : Int) : jB := fun p q => if p = 0 ∧ q = a then so else if p = 1 ∧ q = a then m else if p = 2 + a then 0 else S p q
theorem nS_0 {S : jB} {a : Nat} {so m : Int} : nS S a so m 0 a = so := if_pos ⟨rfl, rfl⟩
theorem nS_1 {S : jB} {a : Nat} {so m : Int} : nS S a so m 1 a = m := by
  unfold nS
  rw [if_neg (by omega), if_pos ⟨rfl, rfl⟩]
theorem nS_2 {S : jB} {a i : Nat} {so m : Int} : nS S a so m (2 + a) i = 0 := by
  unfold nS
  rw [if_neg (by omega), if_neg (by omega), if_pos rfl]
theorem nS_n {S : jB} {a p q : Nat} {so m : Int} (h1 : ¬ (p = 0 ∧ q = a)) (h2 : ¬ (p = 1 ∧ q = a)) (h3 : ¬ p = 2 + a) : nS S a so m p q = S p q := by
  unfold nS
  rw [if_neg h1, if_neg h2, if_neg h3]
theorem ShW_nS {S : jB} {a : Nat} {so m : Int} (h : ShW S) (h1 : 0 ≤ so ∧ so ≤ 2) (h2 : 0 ≤ m ∧ m ≤ 60) : ShW (nS S a so m) := by
  intro k hk
  by_cases he : k = a
  · subst he
    rw [nS_0, nS_1]
    exact ⟨Or.inr ⟨h1, h2⟩, fun i hi => by rw [nS_2]; exact ⟨by omega, by omega⟩⟩
  · obtain ⟨e1, e2⟩ := h k hk
    rw [nS_n (by omega) (by omega) (by omega), nS_n (by omega) (by omega) (by omega)]
    exact ⟨e1, fun i hi => by rw [nS_n (by omega) (by omega) (by omega)]; exact e2 i hi⟩
def o_sheet (S : jB) (k so m : Int) : Int × Int × jB := if ¬ (0 ≤ k ∧ k ≤ 3) then (-1, 0, S) else if ¬ (0 ≤ so ∧ so ≤ 2) ∨ ¬ m ≤ 60 then (-2, 0, S) else if ¬ 0 ≤ m then (-14, 4, S) else (1, 0, nS S k.toNat so m)
theorem st_sheet {s : Int → Int} {n l t : Nat} {g : jv_S} {k so m : Int} (h : IV s l t g) (ht : t < 64) : CI s n t kX_sheet kY_sheet [jv_I k, jv_I so, jv_I m] l g := by
  obtain ⟨h0, A, B, S, tr, fl, rb, hP, hC, hM⟩ := h
  have hS := hP.2.2.2.2.2.1
  have hC0 := IC_f hC 0
  have k0 : kC g (jv_up g 1 11 0) := kC_1 _ _
  have sC := hC0.2.2.2.2.2.1
  refine CI_o (S := S) (fl := fl) (tr' := tr) (v := (o_sheet S k so m).1) (fl' := (o_sheet S k so m).2.1) (S' := (o_sheet S k so m).2.2) h0 ht hP hM ?_ ?_ (fun g1 hM1 => ?_)
  · unfold o_sheet
    split
    · exact hS
    · split
      · exact hS
      · split
        · exact hS
        · exact ShW_nS hS (by omega) (by omega)
  · apply sg_X_sheet_0 (A := A)
    unfold o_sheet
    refine ⟨⟨rfl, LLx_ok, trivial⟩, fun h => ?_, fun h => ?_⟩
    · rw [if_pos (jp0.mp h)]
      exact ⟨rfl, rfl, hC0, k0⟩
    have hk := jnn h
    obtain ⟨a, rfl⟩ := nat_of hk.1
    rw [if_neg (fun h' => h' hk), Int.toNat_natCast]
    have ha : a < 4 := by omega
    refine ⟨⟨rfl, LLx_ok, trivial⟩, fun h2 => ?_, fun h2 => ?_⟩
    · rw [if_pos (Or.inl (jp0.mp h2))]
      exact ⟨rfl, rfl, hC0, k0⟩
    have hso := jnn h2
    refine ⟨fun h3 => ⟨fun h4 => ?_, fun h4 => ?_⟩, fun h3 => ?_⟩
    · rw [if_neg (by omega), if_neg (by omega)]
      dsimp only
      apply sg_Sh_renew_0 (A := A)
      refine ⟨by omega, tr_fill_R3 (A := A) ha (fun g2 a1 a2 => ?_)⟩
      apply sg_Sh_renew_10 (A := A)
      refine ⟨by omega, by omega, ?_⟩
      apply sg_X_sheet_58 (A := A)
      refine ⟨rfl, rfl, IC_sh hC0 (fun p i hp => by rw [up_ne (by omega), up_ne (by omega), a2 _ _ (by omega)]) (fun q hq => ?_), kC_t k0 (fun p i hp => by rw [up_ne (by omega), up_ne (by omega), a2 _ _ (by omega)])⟩
      by_cases he : q = a
      · subst he
        rw [nS_0, nS_1, up_eq rfl rfl, up_ne (by omega), up_eq rfl rfl]
        refine ⟨fun h' => by omega, fun _ => ⟨rfl, rfl⟩, fun i hi => ?_⟩
        rw [up_ne (by omega), up_ne (by omega), a1 i hi, nS_2]
      · obtain ⟨q1, q2, q3⟩ := sC q hq
        rw [nS_n (by omega) (by omega) (by omega), nS_n (by omega) (by omega) (by omega), up_ne (by omega), up_ne (by omega), up_ne (by omega), up_ne (by omega), a2 _ _ (by omega), a2 _ _ (by omega)]
        refine ⟨q1, q2, fun i hi => ?_⟩
        rw [nS_n (by omega) (by omega) (by omega), up_ne (by omega), up_ne (by omega), a2 _ _ (by omega)]
        exact q3 i hi
    · rw [if_neg (by omega), if_pos h4]
      exact tr_X_fail hC0 (by omega) rfl (fun g2 a1 a2 => sg_X_sheet_47 (A := A) ⟨rfl, rfl, a1, kC_t k0 a2⟩)
    · rw [if_pos (Or.inr h3)]
      exact ⟨rfl, rfl, hC0, k0⟩
  · have hM0 := IM_f hM1 0
    have q0 : kM g1 (jv_up g1 136 0 0) := kM_u _ _ (by omega) (by omega)
    apply sg_Y_sheet_0 (A := A)
    unfold o_sheet
    refine ⟨⟨LLx_ok, trivial⟩, fun h => ?_, fun h => ?_⟩
    · rw [if_pos (jp0.mp h)]
      exact ⟨rfl, rfl, hM0, q0⟩
    have hk := jnn h
    obtain ⟨a, rfl⟩ := nat_of hk.1
    rw [if_neg (fun h' => h' hk), Int.toNat_natCast]
    have ha : a < 4 := by omega
    refine ⟨⟨LLx_ok, trivial⟩, fun h2 => ?_, fun h2 => ?_⟩
    · rw [if_pos (Or.inl (jp0.mp h2))]
      exact ⟨rfl, rfl, hM0, q0⟩
    have hso := jnn h2
    refine ⟨fun h3 => ⟨fun h4 => ?_, fun h4 => ?_⟩, fun h3 => ?_⟩
    · rw [if_neg (by omega), if_neg (by omega)]
      dsimp only
      refine ⟨by omega, by omega, ?_⟩
      have main : ∀ c, c ≤ 60 → ∀ g2 : jv_S, (∀ i : Nat, i < c → g2 139 (60 * (a : Int) + i) = 0) → (∀ (p : Nat) (i : Int), ¬ (p = 139 ∧ 60 * (a : Int) ≤ i ∧ i < 60 * (a : Int) + 60) → g2 p i = jv_up (jv_up (jv_up g1 136 0 0) 137 a so) 138 a m p i) → jv_At jv_T jv_ml kY_sheet 57 [jv_P 136, jv_I a, jv_I so, jv_I m, jv_I c] [] (LL n l) g2 (fun r L g' => r = jv_I 1 ∧ L = LL n l ∧ IM A B (nS S a so m) tr 0 g' ∧ kM g1 g') := by
        apply loop_up
        intro c hc ih g2 b1 b2
        apply sg_Y_sheet_57 (A := A)
        refine ⟨fun h5 => ?_, fun h5 => ?_⟩
        · have hc60 : c = 60 := by omega
          refine ⟨rfl, rfl, IM_sh hM0 (fun p i hp => by rw [b2 _ _ (by omega), up_ne (by omega), up_ne (by omega)]) (fun q hq => ?_), kM_t q0 (fun p i hp => by rw [b2 _ _ (by omega), up_ne (by omega), up_ne (by omega)])⟩
          show _ = nS S a so m 0 q ∧ (nS S a so m 0 q ≠ -9 → _ = nS S a so m 1 q) ∧ ∀ i : Nat, i < 60 → _ = nS S a so m (2 + q) i
          by_cases he : q = a
          · subst he
            rw [nS_0, nS_1, b2 _ _ (by omega), b2 _ _ (by omega), up_ne (by omega), up_eq rfl rfl, up_eq rfl rfl]
            exact ⟨rfl, fun _ => rfl, fun i hi => by rw [nS_2]; exact b1 i (by omega)⟩
          · obtain ⟨z1, z2, z3⟩ := hM0.2.2.1 q hq
            rw [nS_n (by omega) (by omega) (by omega), nS_n (by omega) (by omega) (by omega), b2 _ _ (by omega), b2 _ _ (by omega), up_ne (by omega), up_ne (by omega), up_ne (by omega), up_ne (by omega)]
            exact ⟨z1, z2, fun i hi => by rw [nS_n (by omega) (by omega) (by omega), b2 _ _ (by omega), up_ne (by omega), up_ne (by omega)]; exact z3 i hi⟩
        · refine ⟨⟨by omega, by omega⟩, ⟨by omega, by omega⟩, ⟨by omega, by omega⟩, ⟨by omega, by omega⟩, ih (by omega) _ (fun i hi => ?_) (fun p i hp => by rw [up_ne (by omega)]; exact b2 p i hp)⟩
          by_cases he : i = c
          · rw [up_eq rfl (by omega)]
          · rw [up_ne (by omega)]; exact b1 i (by omega)
      exact main 0 (by omega) _ (fun i hi => by omega) (fun _ _ _ => rfl)
    · rw [if_neg (by omega), if_pos h4]
      exact tr_Y_fails hM0 (by omega) rfl (fun g2 a1 a2 => sg_Y_sheet_39 (A := A) ⟨rfl, rfl, a1, kM_t q0 a2⟩)
    · rw [if_pos (Or.inr h3)]
      exact ⟨rfl, rfl, hM0, q0⟩
