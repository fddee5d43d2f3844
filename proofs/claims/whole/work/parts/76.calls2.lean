/-! ===== calls: waits, stills, states, mends, bears ===== -/
section
variable {A : jA} {g g' : jv_S}
theorem kp1 (h : KK A g) (hf : ∀ (p : Nat) (i : Int), 60 ≤ p → p ≤ 66 → g' p i = g p i) : (g' 60 10 = g 60 10 ∨ g' 60 10 = g 40 5) ∧ (g' 60 10 = g 40 5 → WK A g') :=
  ⟨Or.inl (hf _ _ (by omega) (by omega)), fun e => WK_fr hf (h.2.1.2 (by rw [← hf 60 10 (by omega) (by omega)]; exact e))⟩
theorem kp2 (h : KK A g) (hf : ∀ (i : Int), g' 67 i = g 67 i) : (g' 67 7 = g 67 7 ∨ g' 67 7 = g 40 5) ∧ (g' 67 7 = g 40 5 → SK A g') :=
  ⟨Or.inl (hf _), fun e => SK_fr (hf _) (hf _) (h.2.2.1.2 (by rw [← hf 7]; exact e))⟩
theorem kp3 (h : KK A g) (hf : ∀ (i : Int), g' 80 i = g 80 i) : (g' 80 12 = g 80 12 ∨ g' 80 12 = g 40 5) ∧ (g' 80 12 = g 40 5 → StK A g') :=
  ⟨Or.inl (hf _), fun e => StK_fr (hf _) (hf _) (hf _) (h.2.2.2.1.2 (by rw [← hf 12]; exact e))⟩
theorem kp4 (h : KK A g) (hf : ∀ (i : Int), g' 101 i = g 101 i) (hf2 : ∀ (i : Int), g' 103 i = g 103 i) : (g' 101 8 = g 101 8 ∨ g' 101 8 = g 40 5) ∧ (g' 101 8 = g 40 5 → MK A g') :=
  ⟨Or.inl (hf _), fun e => MK_fr (hf _) (hf2 _) (hf2 _) (h.2.2.2.2.1.2 (by rw [← hf 8]; exact e))⟩
theorem kp5 (h : KK A g) (hf : ∀ (p : Nat) (i : Int), 131 ≤ p → p ≤ 133 → g' p i = g p i) : (g' 131 7 = g 131 7 ∨ g' 131 7 = g 40 5) ∧ (g' 131 7 = g 40 5 → BK A g') :=
  ⟨Or.inl (hf _ _ (by omega) (by omega)), fun e => BK_fr (fun i => hf _ _ (by omega) (by omega)) (fun i => hf _ _ (by omega) (by omega)) (h.2.2.2.2.2.2 (by rw [← hf 131 7 (by omega) (by omega)]; exact e))⟩
theorem KK_gen (h : KK A g) (e5 : g' 40 5 = g 40 5) (h8 : g' 80 8 = 0) (c1 : (g' 60 10 = g 60 10 ∨ g' 60 10 = g 40 5) ∧ (g' 60 10 = g 40 5 → WK A g')) (c2 : (g' 67 7 = g 67 7 ∨ g' 67 7 = g 40 5) ∧ (g' 67 7 = g 40 5 → SK A g')) (c3 : (g' 80 12 = g 80 12 ∨ g' 80 12 = g 40 5) ∧ (g' 80 12 = g 40 5 → StK A g')) (c4 : (g' 101 8 = g 101 8 ∨ g' 101 8 = g 40 5) ∧ (g' 101 8 = g 40 5 → MK A g')) (c5 : (g' 131 7 = g 131 7 ∨ g' 131 7 = g 40 5) ∧ (g' 131 7 = g 40 5 → BK A g')) : KK A g' := by
  obtain ⟨-, h2, h3, h4, h5, h6⟩ := h
  have a1 := h2.1
  have a2 := h3.1
  have a3 := h4.1
  have a4 := h5.1
  have a5 := h6.1
  have b1 := c1.1
  have b2 := c2.1
  have b3 := c3.1
  have b4 := c4.1
  have b5 := c5.1
  unfold KK
  rw [e5]
  exact ⟨h8, ⟨by omega, c1.2⟩, ⟨by omega, c2.2⟩, ⟨by omega, c3.2⟩, ⟨by omega, c4.2⟩, ⟨by omega, c5.2⟩⟩
end
/-- what has come when the waits alone were worked out -/
def dW (A : jA) (g g' : jv_S) : Prop := ((g' 60 10 = g 60 10 ∨ g' 60 10 = g 40 5) ∧ (g' 60 10 = g 40 5 → WK A g')) ∧ ∀ (p : Nat) (i : Int), ¬ (60 ≤ p ∧ p ≤ 66) → g' p i = g p i
section
variable {A : jA} {B S : jB} {tr fl rb : Int} {l t : Nat} {g g' : jv_S}
theorem IC_kk (h : IC A B S tr fl rb l t g) : KK A g := h.2.2.2.1
theorem dW_r (h : IC A B S tr fl rb l t g) : dW A g g := ⟨kp1 h.2.2.2.1 (fun _ _ _ _ => rfl), fun _ _ _ => rfl⟩
theorem dW_C (h : dW A g g') : kC g g' := fun p i hp => h.2 p i (by omega)
theorem IC_dW (h : IC A B S tr fl rb l t g) (hd : dW A g g') : IC A B S tr fl rb l t g' := by
  have hK := h.2.2.2.1
  have f := hd.2
  refine IC_k h (fun p i hp => f p i (by omega)) (KK_gen hK (f _ _ (by omega)) (by rw [f _ _ (by omega)]; exact hK.1) hd.1 (kp2 hK (fun i => f _ _ (by omega))) (kp3 hK (fun i => f _ _ (by omega))) (kp4 hK (fun i => f _ _ (by omega)) (fun i => f _ _ (by omega))) (kp5 hK (fun p i a b => f _ _ (by omega)))) ?_
  rw [f _ _ (by omega)]
  exact h.2.2.2.2.2.2.2
theorem tr_wk {n : Nat} {Q : jv_V → jv_L → jv_S → Prop} (h : IC A B S tr fl rb l t g) (hQ : ∀ g' : jv_S, WK A g' → dW A g g' → Q jv_U (LL n l) g') : jv_Ca jv_T jv_ml kWa_work [jv_P 60] (LL n l) g Q :=
  tr_Wa_work h.1 h.2.1 h.2.2.2.1.2.1.2 (fun g1 a1 a2 a3 => hQ g1 a1 ⟨⟨Or.inr a2, fun _ => a1⟩, a3⟩)
/-- the shortest ring, or none -/
theorem ring_ex (h : IC A B S tr fl rb l t g) : ∃ (L : Nat) (s : Nat → Nat), (L = 0 ∧ kG A = 0) ∨ (2 ≤ L ∧ L ≤ ln A ∧ kG A ≠ 0 ∧ RG (wt A) (ln A) L s) := by
  obtain ⟨_, _, _, g1, _, hw⟩ := tr_wk (n := 0) (Q := fun _ _ g' => WK A g') h (fun g' a _ => a)
  rcases hw.2.2.2.1 with ⟨e1, e2⟩ | ⟨L, s, e1, e2, e3, e4, e5, e6⟩
  · exact ⟨0, fun _ => 0, Or.inl ⟨rfl, e2⟩⟩
  · exact ⟨L, s, Or.inr ⟨e2, e3, e4, e5⟩⟩
/-- both sides of a call that works out the waits alone -/
theorem CI_w {s : Int → Int} {n kx ky : Nat} {as : List jv_V} {v : Int} (h0 : ∀ i, g 0 i = s i) (ht : t < 64) (hP : PW A B S rb l t) (hC : IC A B S tr fl rb l t g) (hM : IM A B S tr fl g)
  (hx : jv_Ca jv_T jv_ml kx (jv_P 1 :: as) (LL n l) g (fun r L g' => r = jv_I v ∧ L = LL n l ∧ dW A g g'))
  (hy : ∀ g1 : jv_S, MN A g1 → jv_Ca jv_T jv_ml ky (jv_P 136 :: as) (LL n l) g1 (fun r L g' => r = jv_I v ∧ L = LL n l ∧ ∀ (p : Nat) (i : Int), ¬ ((148 ≤ p ∧ p ≤ 154) ∨ (165 ≤ p ∧ p ≤ 172) ∨ (p = 136 ∧ (i = 21 ∨ i = 25))) → g' p i = g1 p i)) : CI s n t kx ky as l g := by
  refine jv_At.mono hx (fun r L g1 e => ?_)
  obtain ⟨e1, e2, e3⟩ := e
  have h01 : ∀ i, g1 0 i = s i := fun i => by rw [e3.2 0 i (by omega)]; exact h0 i
  have hM1 := IM_fr hM (dW_C e3)
  refine ⟨v, l, e1, e2, h01, jv_At.mono (hy g1 hM1.1) (fun r2 L2 g2 e => ?_)⟩
  obtain ⟨e4, e5, e6⟩ := e
  exact ⟨e4, e5, IV_mk h01 (PW_t hP ht) (IC_t (IC_dW hC e3)) (fun p i hp => e6 p i (by omega)) (IM_s hM1 (fun p i hp => e6 p i (by omega)))⟩
end
set_option maxRecDepth 100000 in
theorem sg_X_comes_0 {A : jA} {n l : Nat} {g : jv_S} {Q : jv_V → jv_L → jv_S → Prop} {v1 v2 : Int} (h :
   ((14 = 14) ∧ (LLx (LL n l)) ∧ (True)) ∧
    ((jb_p ((0 ≤ v1 ∧ v1 < g 14 0) ∧ 0 ≤ v2 ∧ v2 < g 14 0)) = 0 →
     Q (jv_I (-1 : Int)) (LL n l) g) ∧
    (¬ (jb_p ((0 ≤ v1 ∧ v1 < g 14 0) ∧ 0 ≤ v2 ∧ v2 < g 14 0)) = 0 →
     (v1 = v2 →
       Q (jv_I (-2 : Int)) (LL n l) g) ∧
      (¬ v1 = v2 →
       jv_Ca jv_T jv_ml kWa_howItComes [jv_P 60, jv_I v1, jv_I v2] (LL n l) g (fun r L2 g2 => jv_At jv_T jv_ml kX_comes 31 [jv_P 1, jv_I v1, jv_I v2] (jv_pu r []) L2 g2 Q)))) :
  jv_At jv_T jv_ml kX_comes 0 [jv_P 1, jv_I v1, jv_I v2] [] (LL n l) g Q :=
  jv_of_wp (gok9 (A := A)) (md := []) (stop := []) (tab := jt_X_comes) rfl 400 _ _ _ _ _ h
set_option maxRecDepth 100000 in
theorem sg_X_comes_31 {A : jA} {n l : Nat} {g : jv_S} {Q : jv_V → jv_L → jv_S → Prop} {v1 v2 s0 : Int} (h :
   Q (jv_I s0) (LL n l) g) :
  jv_At jv_T jv_ml kX_comes 31 [jv_P 1, jv_I v1, jv_I v2] [jv_I s0] (LL n l) g Q :=
  jv_of_wp (gok9 (A := A)) (md := []) (stop := []) (tab := jt_X_comes) rfl 400 _ _ _ _ _ h
set_option maxRecDepth 100000 in
theorem sg_Y_comes_0 {A : jA} {n l : Nat} {g : jv_S} {Q : jv_V → jv_L → jv_S → Prop} {v1 v2 : Int} (h :
   ((136 = 136) ∧ (LLx (LL n l)) ∧ (True)) ∧
    ((jb_p (0 ≤ v1 ∧ v1 < g 136 5)) = 0 →
     Q (jv_I (-1 : Int)) (LL n l) g) ∧
    (¬ (jb_p (0 ≤ v1 ∧ v1 < g 136 5)) = 0 →
     ((136 = 136) ∧ (LLx (LL n l)) ∧ (True)) ∧
      ((jb_p (0 ≤ v2 ∧ v2 < g 136 5)) = 0 →
       Q (jv_I (-1 : Int)) (LL n l) g) ∧
      (¬ (jb_p (0 ≤ v2 ∧ v2 < g 136 5)) = 0 →
       (v1 = v2 →
         Q (jv_I (-2 : Int)) (LL n l) g) ∧
        (¬ v1 = v2 →
         ((136 = 136) ∧ (LLx (LL n l)) ∧ (MN A g ∧ (0 ≤ v1 ∧ v1 < nd A) ∧ 0 ≤ v2 ∧ v2 < nd A)) ∧
          Q (jv_I (cbI A v1 v2)) (LL n l) g)))) :
  jv_At jv_T jv_ml kY_comes 0 [jv_P 136, jv_I v1, jv_I v2] [] (LL n l) g Q :=
  jv_of_wp (gok9 (A := A)) (md := []) (stop := []) (tab := jt_Y_comes) rfl 400 _ _ _ _ _ h
noncomputable def an_comes (A : jA) (x y : Int) : Int := if ¬ ((0 ≤ x ∧ x < nd A) ∧ 0 ≤ y ∧ y < nd A) then -1 else if x = y then -2 else cb A x.toNat y.toNat
theorem st_comes {s : Int → Int} {n l t : Nat} {g : jv_S} {x y : Int} (h : IV s l t g) (ht : t < 64) : CI s n t kX_comes kY_comes [jv_I x, jv_I y] l g := by
  obtain ⟨h0, A, B, S, tr, fl, rb, hP, hC, hM⟩ := h
  refine CI_w (v := an_comes A x y) h0 ht hP hC hM ?_ (fun g1 m1 => ?_)
  · apply sg_X_comes_0 (A := A)
    rw [hC.1.2.1]
    refine ⟨⟨rfl, LLx_ok, trivial⟩, fun h => ⟨congrArg jv_I (if_pos (jp0.mp h)).symm, rfl, dW_r hC⟩, fun h => ?_⟩
    have hv := Classical.byContradiction (fun h' => h (jp0.mpr h'))
    refine ⟨fun h1 => ⟨congrArg jv_I ?_, rfl, dW_r hC⟩, fun h1 => ?_⟩
    · unfold an_comes
      rw [if_neg (fun h' => h' hv), if_pos h1]
    · obtain ⟨a, rfl⟩ := nat_of hv.1.1
      obtain ⟨b, rfl⟩ := nat_of hv.2.1
      refine tr_Wa_howItComes hC.1 hC.2.1 (by omega) (by omega) (fun g1 a1 => ?_)
      apply sg_X_comes_31 (A := A)
      refine ⟨congrArg jv_I ?_, rfl, ⟨⟨Or.inl (a1 _ _ (by omega)), fun e => ?_⟩, fun p i hp => a1 p i (by omega)⟩⟩
      · unfold an_comes
        rw [if_neg (fun h' => h' hv), if_neg h1]
        rfl
      · have hk := hC.2.2.2.1.2.1.2 (by rw [← a1 60 10 (by omega)]; exact e)
        unfold WK RI at hk ⊢
        simp only [a1 60 _ (by omega), a1 61 _ (by omega), a1 62 _ (by omega), a1 63 _ (by omega), a1 64 _ (by omega)]
        exact hk
  · apply sg_Y_comes_0 (A := A)
    rw [m1.2.1]
    refine ⟨⟨rfl, LLx_ok, trivial⟩, fun h => ⟨congrArg jv_I (if_pos (fun h' => jp0.mp h h'.1)).symm, rfl, fun _ _ _ => rfl⟩, fun h => ⟨⟨rfl, LLx_ok, trivial⟩, fun h2 => ⟨congrArg jv_I (if_pos (fun h' => jp0.mp h2 h'.2)).symm, rfl, fun _ _ _ => rfl⟩, fun h2 => ?_⟩⟩
    have hv := Classical.byContradiction (fun h' => h (jp0.mpr h'))
    have hv2 := Classical.byContradiction (fun h' => h2 (jp0.mpr h'))
    refine ⟨fun h1 => ⟨congrArg jv_I ?_, rfl, fun _ _ _ => rfl⟩, fun h1 => ⟨⟨rfl, LLx_ok, m1, hv, hv2⟩, congrArg jv_I ?_, rfl, fun _ _ _ => rfl⟩⟩
    · unfold an_comes
      rw [if_neg (fun h' => h' ⟨hv, hv2⟩), if_pos h1]
    · unfold an_comes
      rw [if_neg (fun h' => h' ⟨hv, hv2⟩), if_neg h1]
      rfl
set_option maxRecDepth 100000 in
theorem sg_X_carries_0 {A : jA} {n l : Nat} {g : jv_S} {Q : jv_V → jv_L → jv_S → Prop} {v1 : Int} (h :
   ((14 = 14) ∧ (LLx (LL n l)) ∧ (True)) ∧
    ((jb_p (0 ≤ v1 ∧ v1 < g 14 1)) = 0 →
     Q (jv_I (-1 : Int)) (LL n l) g) ∧
    (¬ (jb_p (0 ≤ v1 ∧ v1 < g 14 1)) = 0 →
     jv_Ca jv_T jv_ml kWa_work [jv_P 60] (LL n l) g (fun r L2 g2 => jv_At jv_T jv_ml kX_carries 20 [jv_P 1, jv_I v1, jv_U, jv_U] (jv_pu r []) L2 g2 Q))) :
  jv_At jv_T jv_ml kX_carries 0 [jv_P 1, jv_I v1, jv_U, jv_U] [] (LL n l) g Q :=
  jv_of_wp (gok9 (A := A)) (md := []) (stop := [24]) (tab := jt_X_carries) rfl 400 _ _ _ _ _ h
set_option maxRecDepth 100000 in
theorem sg_X_carries_20 {A : jA} {n l : Nat} {g : jv_S} {Q : jv_V → jv_L → jv_S → Prop} {v1 : Int} {v2 v3 : jv_V} (h :
   jv_At jv_T jv_ml kX_carries 24 [jv_P 1, jv_I v1, jv_I (0 : Int), jv_I (0 : Int)] [] (LL n l) g Q) :
  jv_At jv_T jv_ml kX_carries 20 [jv_P 1, jv_I v1, v2, v3] [] (LL n l) g Q :=
  jv_of_wp (gok9 (A := A)) (md := []) (stop := [24]) (tab := jt_X_carries) rfl 400 _ _ _ _ _ h
set_option maxRecDepth 100000 in
theorem sg_X_carries_24 {A : jA} {n l : Nat} {g : jv_S} {Q : jv_V → jv_L → jv_S → Prop} {v1 v2 v3 : Int} (h :
   ((g 14 0) ≤ v3 →
     Q (jv_I v2) (LL n l) g) ∧
    (¬ (g 14 0) ≤ v3 →
     (0 ≤ v3 ∧ v3 < 6) ∧
      ((0 ≤ (g 61 v3) ∧ (g 61 v3) < 2147483648 ∧ 0 ≤ v1 ∧ v1 < 31)) ∧
      ((hb (g 61 v3) v1) = 0 →
       jv_r32 (v3 + (1 : Int)) ∧
        jv_At jv_T jv_ml kX_carries 24 [jv_P 1, jv_I v1, jv_I v2, jv_I (v3 + (1 : Int))] [] (LL n l) g Q) ∧
      (¬ (hb (g 61 v3) v1) = 0 →
       jv_r32 (v3 + (1 : Int)) ∧
        jv_At jv_T jv_ml kX_carries 24 [jv_P 1, jv_I v1, jv_I (jv_or v2 (jv_shl (1 : Int) v3)), jv_I (v3 + (1 : Int))] [] (LL n l) g Q))) :
  jv_At jv_T jv_ml kX_carries 24 [jv_P 1, jv_I v1, jv_I v2, jv_I v3] [] (LL n l) g Q :=
  jv_of_wp (gok9 (A := A)) (md := []) (stop := [24]) (tab := jt_X_carries) rfl 400 _ _ _ _ _ h
set_option maxRecDepth 100000 in
theorem sg_Y_carries_0 {A : jA} {n l : Nat} {g : jv_S} {Q : jv_V → jv_L → jv_S → Prop} {v1 : Int} (h :
   ((136 = 136) ∧ (LLx (LL n l)) ∧ (True)) ∧
    ((jb_p (0 ≤ v1 ∧ v1 < g 136 6)) = 0 →
     Q (jv_I (-1 : Int)) (LL n l) g) ∧
    (¬ (jb_p (0 ≤ v1 ∧ v1 < g 136 6)) = 0 →
     jv_Ca jv_T jv_ml kY_layCarried [jv_P 136] (LL n l) g (fun r L2 g2 => jv_At jv_T jv_ml kY_carries 14 [jv_P 136, jv_I v1] (jv_pu r []) L2 g2 Q))) :
  jv_At jv_T jv_ml kY_carries 0 [jv_P 136, jv_I v1] [] (LL n l) g Q :=
  jv_of_wp (gok9 (A := A)) (md := []) (stop := []) (tab := jt_Y_carries) rfl 400 _ _ _ _ _ h
set_option maxRecDepth 100000 in
theorem sg_Y_carries_14 {A : jA} {n l : Nat} {g : jv_S} {Q : jv_V → jv_L → jv_S → Prop} {v1 : Int} (h :
   (0 ≤ v1 ∧ v1 < 10) ∧
    Q (jv_I (g 148 v1)) (LL n l) g) :
  jv_At jv_T jv_ml kY_carries 14 [jv_P 136, jv_I v1] [] (LL n l) g Q :=
  jv_of_wp (gok9 (A := A)) (md := []) (stop := []) (tab := jt_Y_carries) rfl 400 _ _ _ _ _ h
noncomputable def an_carries (A : jA) (c : Int) : Int := if ¬ (0 ≤ c ∧ c < ln A) then -1 else (cs A c.toNat : Nat)
theorem st_carries {s : Int → Int} {n l t : Nat} {g : jv_S} {c : Int} (h : IV s l t g) (ht : t < 64) : CI s n t kX_carries kY_carries [jv_I c] l g := by
  obtain ⟨h0, A, B, S, tr, fl, rb, hP, hC, hM⟩ := h
  have w1 := hC.1.1.1
  have w2 := hC.1.1.2.1
  refine CI_w (v := an_carries A c) h0 ht hP hC hM ?_ (fun g1 m1 => ?_)
  · apply sg_X_carries_0 (A := A)
    rw [hC.1.2.2.1]
    refine ⟨⟨rfl, LLx_ok, trivial⟩, fun h => ⟨congrArg jv_I (if_pos (jp0.mp h)).symm, rfl, dW_r hC⟩, fun h => ?_⟩
    have hv := Classical.byContradiction (fun h' => h (jp0.mpr h'))
    obtain ⟨a, rfl⟩ := nat_of hv.1
    refine tr_wk hC (fun g1 a1 a2 => ?_)
    apply sg_X_carries_20 (A := A)
    have f1 : g1 14 0 = nd A := by rw [a2.2 _ _ (by omega)]; exact hC.1.2.1
    have main : ∀ y, y ≤ nd A → ∀ v2 : Int, v2 = (mk (fun y => (cr A y).testBit a) y : Nat) → jv_At jv_T jv_ml kX_carries 24 [jv_P 1, jv_I a, jv_I v2, jv_I y] [] (LL n l) g1 (fun r L g' => r = jv_I (an_carries A a) ∧ L = LL n l ∧ dW A g g') := by
      apply loop_up
      intro y hy ih v2 hv2
      apply sg_X_carries_24 (A := A)
      rw [f1]
      refine ⟨fun h1 => ⟨congrArg jv_I ?_, rfl, a2⟩, fun h1 => ?_⟩
      · unfold an_carries
        rw [if_neg (fun h' => h' hv), hv2, show y = nd A by omega]
        rfl
      · have hy' : y < nd A := by omega
        have f61 := a1.1 y hy'
        have hlt : cr A y < 2 ^ ln A := cr_lt
        have h31 := i31 hlt (by omega)
        rw [f61, hb_nat]
        refine ⟨⟨by omega, by omega⟩, ⟨by omega, by omega, by omega, by omega⟩, fun h2 => ⟨⟨by omega, by omega⟩, ih hy' _ (mk_no hv2 (jb0.mp h2))⟩, fun h2 => ⟨⟨by omega, by omega⟩, ih hy' _ (mk_or (p := fun y => (cr A y).testBit a) (by omega) hv2 (jbn.mp h2))⟩⟩
    exact main 0 (by omega) 0 rfl
  · apply sg_Y_carries_0 (A := A)
    rw [m1.2.2.1]
    refine ⟨⟨rfl, LLx_ok, trivial⟩, fun h => ⟨congrArg jv_I (if_pos (jp0.mp h)).symm, rfl, fun _ _ _ => rfl⟩, fun h => ?_⟩
    have hv := Classical.byContradiction (fun h' => h (jp0.mpr h'))
    obtain ⟨a, rfl⟩ := nat_of hv.1
    refine tr_Y_layCarried m1 (fun g2 a1 a2 => ?_)
    apply sg_Y_carries_14 (A := A)
    rw [a1 a (by omega)]
    refine ⟨⟨by omega, by omega⟩, congrArg jv_I ?_, rfl, fun p i hp => a2 p i (by omega)⟩
    unfold an_carries
    rw [if_neg (fun h' => h' hv)]
    rfl
set_option maxRecDepth 100000 in
theorem sg_X_waits_0 {A : jA} {n l : Nat} {g : jv_S} {Q : jv_V → jv_L → jv_S → Prop} {v1 : Int} (h :
   ((14 = 14) ∧ (LLx (LL n l)) ∧ (True)) ∧
    ((jb_p (0 ≤ v1 ∧ v1 < g 14 1)) = 0 →
     Q (jv_I (-1 : Int)) (LL n l) g) ∧
    (¬ (jb_p (0 ≤ v1 ∧ v1 < g 14 1)) = 0 →
     jv_Ca jv_T jv_ml kWa_work [jv_P 60] (LL n l) g (fun r L2 g2 => jv_At jv_T jv_ml kX_waits 20 [jv_P 1, jv_I v1] (jv_pu r []) L2 g2 Q))) :
  jv_At jv_T jv_ml kX_waits 0 [jv_P 1, jv_I v1] [] (LL n l) g Q :=
  jv_of_wp (gok9 (A := A)) (md := []) (stop := []) (tab := jt_X_waits) rfl 400 _ _ _ _ _ h
set_option maxRecDepth 100000 in
theorem sg_X_waits_20 {A : jA} {n l : Nat} {g : jv_S} {Q : jv_V → jv_L → jv_S → Prop} {v1 : Int} (h :
   (0 ≤ v1 ∧ v1 < 10) ∧
    Q (jv_I (g 62 v1)) (LL n l) g) :
  jv_At jv_T jv_ml kX_waits 20 [jv_P 1, jv_I v1] [] (LL n l) g Q :=
  jv_of_wp (gok9 (A := A)) (md := []) (stop := []) (tab := jt_X_waits) rfl 400 _ _ _ _ _ h
set_option maxRecDepth 100000 in
theorem sg_Y_waits_0 {A : jA} {n l : Nat} {g : jv_S} {Q : jv_V → jv_L → jv_S → Prop} {v1 : Int} (h :
   ((136 = 136) ∧ (LLx (LL n l)) ∧ (True)) ∧
    ((jb_p (0 ≤ v1 ∧ v1 < g 136 6)) = 0 →
     Q (jv_I (-1 : Int)) (LL n l) g) ∧
    (¬ (jb_p (0 ≤ v1 ∧ v1 < g 136 6)) = 0 →
     jv_Ca jv_T jv_ml kY_layWaiting [jv_P 136] (LL n l) g (fun r L2 g2 => jv_At jv_T jv_ml kY_waits 14 [jv_P 136, jv_I v1] (jv_pu r []) L2 g2 Q))) :
  jv_At jv_T jv_ml kY_waits 0 [jv_P 136, jv_I v1] [] (LL n l) g Q :=
  jv_of_wp (gok9 (A := A)) (md := []) (stop := []) (tab := jt_Y_waits) rfl 400 _ _ _ _ _ h
set_option maxRecDepth 100000 in
theorem sg_Y_waits_14 {A : jA} {n l : Nat} {g : jv_S} {Q : jv_V → jv_L → jv_S → Prop} {v1 : Int} (h :
   (0 ≤ v1 ∧ v1 < 10) ∧
    Q (jv_I (g 149 v1)) (LL n l) g) :
  jv_At jv_T jv_ml kY_waits 14 [jv_P 136, jv_I v1] [] (LL n l) g Q :=
  jv_of_wp (gok9 (A := A)) (md := []) (stop := []) (tab := jt_Y_waits) rfl 400 _ _ _ _ _ h
noncomputable def an_waits (A : jA) (c : Int) : Int := if ¬ (0 ≤ c ∧ c < ln A) then -1 else (wt A c.toNat : Nat)
theorem st_waits {s : Int → Int} {n l t : Nat} {g : jv_S} {c : Int} (h : IV s l t g) (ht : t < 64) : CI s n t kX_waits kY_waits [jv_I c] l g := by
  obtain ⟨h0, A, B, S, tr, fl, rb, hP, hC, hM⟩ := h
  have w2 := hC.1.1.2.1
  refine CI_w (v := an_waits A c) h0 ht hP hC hM ?_ (fun g1 m1 => ?_)
  · apply sg_X_waits_0 (A := A)
    rw [hC.1.2.2.1]
    refine ⟨⟨rfl, LLx_ok, trivial⟩, fun h => ⟨congrArg jv_I (if_pos (jp0.mp h)).symm, rfl, dW_r hC⟩, fun h => ?_⟩
    have hv := Classical.byContradiction (fun h' => h (jp0.mpr h'))
    obtain ⟨a, rfl⟩ := nat_of hv.1
    refine tr_wk hC (fun g1 a1 a2 => ?_)
    apply sg_X_waits_20 (A := A)
    rw [a1.2.1 a (by omega)]
    refine ⟨⟨by omega, by omega⟩, congrArg jv_I ?_, rfl, a2⟩
    unfold an_waits
    rw [if_neg (fun h' => h' hv)]
    rfl
  · apply sg_Y_waits_0 (A := A)
    rw [m1.2.2.1]
    refine ⟨⟨rfl, LLx_ok, trivial⟩, fun h => ⟨congrArg jv_I (if_pos (jp0.mp h)).symm, rfl, fun _ _ _ => rfl⟩, fun h => ?_⟩
    have hv := Classical.byContradiction (fun h' => h (jp0.mpr h'))
    obtain ⟨a, rfl⟩ := nat_of hv.1
    refine tr_Y_layWaiting m1 (fun g2 _ a1 a2 => ?_)
    apply sg_Y_waits_14 (A := A)
    rw [a1 a (by omega)]
    refine ⟨⟨by omega, by omega⟩, congrArg jv_I ?_, rfl, fun p i hp => a2 p i (by omega)⟩
    unfold an_waits
    rw [if_neg (fun h' => h' hv)]
    rfl
set_option maxRecDepth 100000 in
theorem sg_X_ring_0 {A : jA} {n l : Nat} {g : jv_S} {Q : jv_V → jv_L → jv_S → Prop} {v1 : Int} (h :
   (v1 < (-1 : Int) →
     Q (jv_I (-1 : Int)) (LL n l) g) ∧
    (¬ v1 < (-1 : Int) →
     (v1 < (10 : Int) →
       ((g 14 1) = 0 →
         Q (jv_I (-3 : Int)) (LL n l) g) ∧
        (¬ (g 14 1) = 0 →
         jv_Ca jv_T jv_ml kWa_work [jv_P 60] (LL n l) g (fun r L2 g2 => jv_At jv_T jv_ml kX_ring 33 [jv_P 1, jv_I v1] (jv_pu r []) L2 g2 Q))) ∧
      (¬ v1 < (10 : Int) →
       Q (jv_I (-1 : Int)) (LL n l) g))) :
  jv_At jv_T jv_ml kX_ring 0 [jv_P 1, jv_I v1] [] (LL n l) g Q :=
  jv_of_wp (gok9 (A := A)) (md := []) (stop := []) (tab := jt_X_ring) rfl 400 _ _ _ _ _ h
set_option maxRecDepth 100000 in
theorem sg_X_ring_33 {A : jA} {n l : Nat} {g : jv_S} {Q : jv_V → jv_L → jv_S → Prop} {v1 : Int} (h :
   (v1 = (-1 : Int) →
     Q (jv_I (g 60 9)) (LL n l) g) ∧
    (¬ v1 = (-1 : Int) →
     ((g 60 9) ≤ v1 →
       Q (jv_I (-9 : Int)) (LL n l) g) ∧
      (¬ (g 60 9) ≤ v1 →
       (0 ≤ v1 ∧ v1 < 10) ∧
        Q (jv_I (g 63 v1)) (LL n l) g))) :
  jv_At jv_T jv_ml kX_ring 33 [jv_P 1, jv_I v1] [] (LL n l) g Q :=
  jv_of_wp (gok9 (A := A)) (md := []) (stop := []) (tab := jt_X_ring) rfl 400 _ _ _ _ _ h
set_option maxRecDepth 100000 in
theorem sg_X_rank_0 {A : jA} {n l : Nat} {g : jv_S} {Q : jv_V → jv_L → jv_S → Prop} {v1 : Int} (h :
   ((14 = 14) ∧ (LLx (LL n l)) ∧ (True)) ∧
    ((jb_p (0 ≤ v1 ∧ v1 < g 14 1)) = 0 →
     Q (jv_I (-1 : Int)) (LL n l) g) ∧
    (¬ (jb_p (0 ≤ v1 ∧ v1 < g 14 1)) = 0 →
     jv_Ca jv_T jv_ml kWa_work [jv_P 60] (LL n l) g (fun r L2 g2 => jv_At jv_T jv_ml kX_rank 20 [jv_P 1, jv_I v1] (jv_pu r []) L2 g2 Q))) :
  jv_At jv_T jv_ml kX_rank 0 [jv_P 1, jv_I v1] [] (LL n l) g Q :=
  jv_of_wp (gok9 (A := A)) (md := []) (stop := []) (tab := jt_X_rank) rfl 400 _ _ _ _ _ h
set_option maxRecDepth 100000 in
theorem sg_X_rank_20 {A : jA} {n l : Nat} {g : jv_S} {Q : jv_V → jv_L → jv_S → Prop} {v1 : Int} (h :
   ((g 60 9) ≤ 0 →
     (0 ≤ v1 ∧ v1 < 10) ∧
      Q (jv_I (g 64 v1)) (LL n l) g) ∧
    (¬ (g 60 9) ≤ 0 →
     Q (jv_I (-3 : Int)) (LL n l) g)) :
  jv_At jv_T jv_ml kX_rank 20 [jv_P 1, jv_I v1] [] (LL n l) g Q :=
  jv_of_wp (gok9 (A := A)) (md := []) (stop := []) (tab := jt_X_rank) rfl 400 _ _ _ _ _ h
theorem st_ring {s : Int → Int} {n l t : Nat} {g : jv_S} {k : Int} (h : IV s l t g) (ht : t < 64) : CI s n t kX_ring kY_ring [jv_I k] l g := by
  obtain ⟨h0, A, B, S, tr, fl, rb, hP, hC, hM⟩ := h
  have w2 := hC.1.1.2.1
  have f2 := hC.1.2.2.1
  obtain ⟨L, r, hL⟩ := ring_ex hC
  refine CI_w (v := if ¬ (-1 ≤ k ∧ k ≤ 9) then -1 else if ln A = 0 then -3 else rgv L r k) h0 ht hP hC hM ?_ (fun g1 m1 => tr_Y_ring m1 hL (fun g2 a => ⟨rfl, rfl, fun p i hp => a p i (by omega)⟩))
  apply sg_X_ring_0 (A := A)
  refine ⟨fun h => ⟨congrArg jv_I (if_pos (by omega)).symm, rfl, dW_r hC⟩, fun h => ⟨fun h1 => ⟨fun h2 => ⟨congrArg jv_I ?_, rfl, dW_r hC⟩, fun h2 => ?_⟩, fun h1 => ⟨congrArg jv_I (if_pos (by omega)).symm, rfl, dW_r hC⟩⟩⟩
  · rw [if_neg (by omega), if_pos (by omega)]
  · refine tr_wk hC (fun g1 a1 a2 => ?_)
    have key : g1 60 9 = (L : Int) ∧ ∀ i : Nat, i < L → g1 63 i = r i := by
      rcases a1.2.2.2.1 with ⟨e1, e2⟩ | ⟨L', s', e1, e2, e3, e4, e5, e6⟩
      · rcases hL with ⟨q1, q2⟩ | ⟨q1, q2, q3, q4⟩
        · exact ⟨by rw [e1, q1]; rfl, fun i hi => by omega⟩
        · exact absurd e2 q3
      · rcases hL with ⟨q1, q2⟩ | ⟨q1, q2, q3, q4⟩
        · exact absurd q2 e4
        · obtain ⟨u1, u2⟩ := RG_u e5 q4
          exact ⟨by rw [e1, u1], fun i hi => by rw [e6 i (by omega), u2 i (by omega)]⟩
    have hL10 : L ≤ 10 := by
      rcases hL with ⟨q1, q2⟩ | ⟨q1, q2, q3, q4⟩ <;> omega
    apply sg_X_ring_33 (A := A)
    rw [key.1, if_neg (by omega), if_neg (by omega)]
    unfold rgv
    refine ⟨fun h3 => ⟨congrArg jv_I (if_pos h3).symm, rfl, a2⟩, fun h3 => ⟨fun h4 => ⟨congrArg jv_I ?_, rfl, a2⟩, fun h4 => ?_⟩⟩
    · rw [if_neg h3, if_pos h4]
    · obtain ⟨q, rfl⟩ := nat_of (c := k) (by omega)
      rw [key.2 q (by omega)]
      refine ⟨⟨by omega, by omega⟩, congrArg jv_I ?_, rfl, a2⟩
      rw [if_neg h3, if_neg h4]
      rfl
theorem st_rank {s : Int → Int} {n l t : Nat} {g : jv_S} {c : Int} (h : IV s l t g) (ht : t < 64) : CI s n t kX_rank kY_rank [jv_I c] l g := by
  obtain ⟨h0, A, B, S, tr, fl, rb, hP, hC, hM⟩ := h
  have w2 := hC.1.1.2.1
  have f2 := hC.1.2.2.1
  refine CI_w (v := if ¬ (0 ≤ c ∧ c < ln A) then -1 else if kG A ≠ 0 then -3 else rkr (wt A) (ln A) (ln A) c.toNat) h0 ht hP hC hM ?_ (fun g1 m1 => tr_Y_rank m1 (fun g2 a => ⟨rfl, rfl, fun p i hp => a p i (by omega)⟩))
  apply sg_X_rank_0 (A := A)
  rw [f2]
  refine ⟨⟨rfl, LLx_ok, trivial⟩, fun h => ⟨congrArg jv_I (if_pos (jp0.mp h)).symm, rfl, dW_r hC⟩, fun h => ?_⟩
  have hv := Classical.byContradiction (fun h' => h (jp0.mpr h'))
  obtain ⟨a, rfl⟩ := nat_of hv.1
  rw [if_neg (fun h' => h' hv)]
  refine tr_wk hC (fun g1 a1 a2 => ?_)
  apply sg_X_rank_20 (A := A)
  rcases a1.2.2.2.1 with ⟨e1, e2⟩ | ⟨L', s', e1, e2, e3, e4, e5, e6⟩
  · refine ⟨fun h1 => ⟨⟨by omega, by omega⟩, congrArg jv_I ?_, rfl, a2⟩, fun h1 => by omega⟩
    rw [a1.2.2.2.2 e1 a (by omega), if_neg (fun h' => h' e2)]
    rfl
  · refine ⟨fun h1 => by omega, fun h1 => ⟨congrArg jv_I ?_, rfl, a2⟩⟩
    exact (if_pos e4).symm
set_option maxRecDepth 100000 in
theorem sg_X_still_0 {A : jA} {n l : Nat} {g : jv_S} {Q : jv_V → jv_L → jv_S → Prop} {v1 : Int} (h :
   (v1 < 0 →
     Q (jv_I (-2 : Int)) (LL n l) g) ∧
    (¬ v1 < 0 →
     (v1 ≤ (1 : Int) →
       ((g 14 1) = 0 →
         Q (jv_I (-3 : Int)) (LL n l) g) ∧
        (¬ (g 14 1) = 0 →
         jv_Ca jv_T jv_ml kSl_work [jv_P 67] (LL n l) g (fun r L2 g2 => jv_At jv_T jv_ml kX_still 32 [jv_P 1, jv_I v1] (jv_pu r []) L2 g2 Q))) ∧
      (¬ v1 ≤ (1 : Int) →
       Q (jv_I (-2 : Int)) (LL n l) g))) :
  jv_At jv_T jv_ml kX_still 0 [jv_P 1, jv_I v1] [] (LL n l) g Q :=
  jv_of_wp (gok9 (A := A)) (md := []) (stop := []) (tab := jt_X_still) rfl 400 _ _ _ _ _ h
set_option maxRecDepth 100000 in
theorem sg_X_still_32 {A : jA} {n l : Nat} {g : jv_S} {Q : jv_V → jv_L → jv_S → Prop} {v1 : Int} (h :
   (v1 = 0 →
     Q (jv_I (g 67 5)) (LL n l) g) ∧
    (¬ v1 = 0 →
     Q (jv_I (g 67 6)) (LL n l) g)) :
  jv_At jv_T jv_ml kX_still 32 [jv_P 1, jv_I v1] [] (LL n l) g Q :=
  jv_of_wp (gok9 (A := A)) (md := []) (stop := []) (tab := jt_X_still) rfl 400 _ _ _ _ _ h
theorem st_still {s : Int → Int} {n l t : Nat} {g : jv_S} {k : Int} (h : IV s l t g) (ht : t < 64) : CI s n t kX_still kY_still [jv_I k] l g := by
  obtain ⟨h0, A, B, S, tr, fl, rb, hP, hC, hM⟩ := h
  have f2 := hC.1.2.2.1
  have hK := hC.2.2.2.1
  obtain ⟨b, hb⟩ : ∃ b, LSp A b := by
    obtain ⟨_, _, _, g1, _, hw⟩ := tr_Sl_work (n := 0) (l := l) (Q := fun _ _ g' => SK A g') hC.1 hC.2.1 hK.2.1.2 hK.2.2.1.2 (fun g' a _ _ _ _ => a)
    obtain ⟨_, b, e, _⟩ := hw
    exact ⟨b, e⟩
  have fin : ∀ g1 : jv_S, IC A B S tr fl rb l t g1 → kC g g1 → ∃ (v : Int) (l1 : Nat), jv_I (if ¬ (0 ≤ k ∧ k ≤ 1) then -2 else if ln A = 0 then -3 else if k = 0 then (aS A : Nat) else b) = jv_I v ∧ LL n l = LL n l1 ∧ (∀ i, g1 0 i = s i) ∧ jv_Ca jv_T jv_ml kY_still [jv_P 136, jv_I k] (LL n l1) g1 (fun r2 L2 g2 => r2 = jv_I v ∧ L2 = LL n l1 ∧ IV s l1 (t + 1) g2) := by
    intro g1 hC1 hk
    have h01 : ∀ i, g1 0 i = s i := fun i => by rw [hk 0 i (by omega)]; exact h0 i
    have hM1 := IM_fr hM hk
    exact ⟨_, l, rfl, rfl, h01, tr_Y_still hM1.1 hb (fun g2 a => ⟨rfl, rfl, IV_mk h01 (PW_t hP ht) (IC_t hC1) (fun p i hp => a p i (by omega)) (IM_s hM1 (fun p i hp => a p i (by omega)))⟩)⟩
  apply sg_X_still_0 (A := A)
  have bad : ¬ (0 ≤ k ∧ k ≤ 1) → (if ¬ (0 ≤ k ∧ k ≤ 1) then (-2 : Int) else if ln A = 0 then -3 else if k = 0 then (aS A : Nat) else b) = -2 := fun h => if_pos h
  refine ⟨fun h => by have := fin g hC (kC_r g); rw [bad (by omega)] at this; exact this, fun h => ⟨fun h1 => ⟨fun h2 => by have := fin g hC (kC_r g); rw [if_neg (by omega), if_pos (by omega)] at this; exact this, fun h2 => ?_⟩, fun h1 => by have := fin g hC (kC_r g); rw [bad (by omega)] at this; exact this⟩⟩
  refine tr_Sl_work hC.1 hC.2.1 hK.2.1.2 hK.2.2.1.2 (fun g1 a1 a2 a3 a4 a5 => ?_)
  have hC1 : IC A B S tr fl rb l t g1 := by
    refine IC_k hC (fun p i hp => a5 p i (by omega)) (KK_gen hK (a5 _ _ (by omega)) (by rw [a5 _ _ (by omega)]; exact hK.1) ⟨a4, a3⟩ ⟨Or.inr a2, fun _ => a1⟩ (kp3 hK (fun i => a5 _ _ (by omega))) (kp4 hK (fun i => a5 _ _ (by omega)) (fun i => a5 _ _ (by omega))) (kp5 hK (fun p i a b => a5 _ _ (by omega)))) ?_
    rw [a5 _ _ (by omega)]
    exact hC.2.2.2.2.2.2.2
  have := fin g1 hC1 (fun p i hp => a5 p i (by omega))
  rw [if_neg (by omega), if_neg (by omega)] at this
  obtain ⟨e5, b', e6, e7⟩ := a1
  apply sg_X_still_32 (A := A)
  rw [e5, e7, LSp_u e6 hb]
  exact ⟨fun h3 => by rw [if_pos h3] at this; exact this, fun h3 => by rw [if_neg h3] at this; exact this⟩
theorem st_states {s : Int → Int} {n l t : Nat} {g : jv_S} {k : Int} (h : IV s l t g) (ht : t < 64) : CI s n t kX_states kY_states [jv_I k] l g := by
  obtain ⟨h0, A, B, S, tr, fl, rb, hP, hC, hM⟩ := h
  have hK := hC.2.2.2.1
  refine tr_X_states hC.1 hC.2.1 hK.1 hK.2.2.2.1.2 (fun g1 r a1 a2 a3 a4 a5 => ?_)
  have hC1 : IC A B S tr fl rb l t g1 := by
    refine IC_k hC (fun p i hp => a5 p i (by omega)) (KK_gen hK (a5 _ _ (by omega)) a3 (kp1 hK (fun p i a b => a5 _ _ (by omega))) (kp2 hK (fun i => a5 _ _ (by omega))) ⟨a4, fun e => a2 (by rw [a5 40 5 (by omega)]; exact e)⟩ (kp4 hK (fun i => a5 _ _ (by omega)) (fun i => a5 _ _ (by omega))) (kp5 hK (fun p i a b => a5 _ _ (by omega)))) ?_
    rw [a5 _ _ (by omega)]
    exact hC.2.2.2.2.2.2.2
  have h01 : ∀ i, g1 0 i = s i := fun i => by rw [a5 0 i (by omega)]; exact h0 i
  have hM1 := IM_fr hM (g' := g1) (fun p i hp => a5 p i (by omega))
  refine ⟨r, l, rfl, rfl, h01, tr_Y_states hM1.1 (fun g2 r2 b1 b2 => ⟨congrArg jv_I (StA_uniq b1 a1), rfl, IV_mk h01 (PW_t hP ht) (IC_t hC1) (fun p i hp => b2 p i (by omega)) (IM_s hM1 (fun p i hp => b2 p i (by omega)))⟩)⟩
set_option maxRecDepth 100000 in
theorem sg_X_mend_0 {A : jA} {n l : Nat} {g : jv_S} {Q : jv_V → jv_L → jv_S → Prop} {v1 : Int} (h :
   (v1 < (-1 : Int) →
     Q (jv_I (-1 : Int)) (LL n l) g) ∧
    (¬ v1 < (-1 : Int) →
     (v1 ≤ (1 : Int) →
       ((g 14 1) = 0 →
         Q (jv_I (-3 : Int)) (LL n l) g) ∧
        (¬ (g 14 1) = 0 →
         jv_Ca jv_T jv_ml kM_work [jv_P 101] (LL n l) g (fun r L2 g2 => jv_At jv_T jv_ml kX_mend 32 [jv_P 1, jv_I v1] (jv_pu r []) L2 g2 Q))) ∧
      (¬ v1 ≤ (1 : Int) →
       Q (jv_I (-1 : Int)) (LL n l) g))) :
  jv_At jv_T jv_ml kX_mend 0 [jv_P 1, jv_I v1] [] (LL n l) g Q :=
  jv_of_wp (gok9 (A := A)) (md := []) (stop := []) (tab := jt_X_mend) rfl 400 _ _ _ _ _ h
set_option maxRecDepth 100000 in
theorem sg_X_mend_32 {A : jA} {n l : Nat} {g : jv_S} {Q : jv_V → jv_L → jv_S → Prop} {v1 : Int} (h :
   (v1 = (-1 : Int) →
     Q (jv_I (g 101 7)) (LL n l) g) ∧
    (¬ v1 = (-1 : Int) →
     ((g 101 7) ≤ v1 →
       Q (jv_I (-9 : Int)) (LL n l) g) ∧
      (¬ (g 101 7) ≤ v1 →
       (0 ≤ v1 ∧ v1 < 2) ∧
        Q (jv_I (g 103 v1)) (LL n l) g))) :
  jv_At jv_T jv_ml kX_mend 32 [jv_P 1, jv_I v1] [] (LL n l) g Q :=
  jv_of_wp (gok9 (A := A)) (md := []) (stop := []) (tab := jt_X_mend) rfl 400 _ _ _ _ _ h
theorem st_mend {s : Int → Int} {n l t : Nat} {g : jv_S} {k : Int} (h : IV s l t g) (ht : t < 64) : CI s n t kX_mend kY_mend [jv_I k] l g := by
  obtain ⟨h0, A, B, S, tr, fl, rb, hP, hC, hM⟩ := h
  have f2 := hC.1.2.2.1
  have hK := hC.2.2.2.1
  have h104 := hC.2.2.2.2.2.2.2
  obtain ⟨cnt, a, b, hs⟩ : ∃ (cnt : Int) (a b : Nat), MSp A cnt a b := by
    obtain ⟨_, _, _, g1, _, hw⟩ := tr_M_work (n := 0) (l := l) (Q := fun _ _ g' => MK A g') hC.1 hC.2.1 hK.2.1.2 hK.2.2.2.2.1.2 (by omega) (fun g' a _ _ _ _ _ _ => a)
    obtain ⟨cnt, a, b, e, _⟩ := hw
    exact ⟨cnt, a, b, e⟩
  have fin : ∀ g1 : jv_S, IC A B S tr fl rb l (t + 1) g1 → kC g g1 → ∃ (v : Int) (l1 : Nat), jv_I (if ¬ (-1 ≤ k ∧ k ≤ 1) then -1 else if ln A = 0 then -3 else mdv A cnt a b k) = jv_I v ∧ LL n l = LL n l1 ∧ (∀ i, g1 0 i = s i) ∧ jv_Ca jv_T jv_ml kY_mend [jv_P 136, jv_I k] (LL n l1) g1 (fun r2 L2 g2 => r2 = jv_I v ∧ L2 = LL n l1 ∧ IV s l1 (t + 1) g2) := by
    intro g1 hC1 hk
    have h01 : ∀ i, g1 0 i = s i := fun i => by rw [hk 0 i (by omega)]; exact h0 i
    have hM1 := IM_fr hM hk
    obtain ⟨m1, m2, m3, m4, m5⟩ := id hM1
    refine ⟨_, l, rfl, rfl, h01, tr_Y_mend m1 hs (fun g2 q1 q2 => ⟨rfl, rfl, IV_mk h01 (PW_t hP ht) hC1 (fun p i hp => q2 p i (by omega)) ⟨q1, TMr_fr m2 (fun p i hp => q2 p i (by omega)), ShM_fr (fun p i hp => q2 p i (by omega)) m3, by rw [q2 _ _ (by omega)]; exact m4, by rw [q2 _ _ (by omega)]; exact m5⟩⟩)⟩
  apply sg_X_mend_0 (A := A)
  have bad : ¬ (-1 ≤ k ∧ k ≤ 1) → (if ¬ (-1 ≤ k ∧ k ≤ 1) then (-1 : Int) else if ln A = 0 then -3 else mdv A cnt a b k) = -1 := fun h => if_pos h
  refine ⟨fun h => by have := fin g (IC_t hC) (kC_r g); rw [bad (by omega)] at this; exact this, fun h => ⟨fun h1 => ⟨fun h2 => by have := fin g (IC_t hC) (kC_r g); rw [if_neg (by omega), if_pos (by omega)] at this; exact this, fun h2 => ?_⟩, fun h1 => by have := fin g (IC_t hC) (kC_r g); rw [bad (by omega)] at this; exact this⟩⟩
  refine tr_M_work hC.1 hC.2.1 hK.2.1.2 hK.2.2.2.2.1.2 (by omega) (fun g1 a1 a2 a3 a4 a5 a6 a7 => ?_)
  have hC1 : IC A B S tr fl rb l (t + 1) g1 := by
    refine IC_k (IC_t hC) (fun p i hp => a7 p i (by omega)) (KK_gen hK (a7 _ _ (by omega)) (by rw [a7 _ _ (by omega)]; exact hK.1) ⟨a4, a3⟩ (kp2 hK (fun i => a7 _ _ (by omega))) (kp3 hK (fun i => a7 _ _ (by omega))) ⟨Or.inr a2, fun _ => a1⟩ (kp5 hK (fun p i a b => a7 _ _ (by omega)))) ?_
    omega
  have := fin g1 hC1 (fun p i hp => a7 p i (by omega))
  rw [if_neg (by omega), if_neg (by omega)] at this
  obtain ⟨cnt', a', b', e1, e2, e3, e4⟩ := a1
  obtain ⟨u1, u2, u3⟩ := MSp_u e1 hs
  subst u1
  apply sg_X_mend_32 (A := A)
  rw [e2]
  unfold mdv at this
  refine ⟨fun h3 => by rw [if_pos h3] at this; exact this, fun h3 => ⟨fun h4 => by rw [if_neg h3, if_pos h4] at this; exact this, fun h4 => ⟨⟨by omega, by omega⟩, ?_⟩⟩⟩
  rw [if_neg h3, if_neg h4] at this
  by_cases hk0 : k = 0
  · subst hk0
    rw [e3 (by omega), u2 (by omega)]
    rw [if_pos rfl] at this
    exact this
  · have hk1 : k = 1 := by omega
    have hc2 : cnt' = 2 := by
      rcases e1 with h | h | h | h
      · omega
      · omega
      · exact h.2.2.1
      · have := h.2.2.2; omega
    subst hk1
    rw [e4 hc2, u3 hc2]
    rw [if_neg hk0] at this
    exact this
theorem st_busiest {s : Int → Int} {n l t : Nat} {g : jv_S} (h : IV s l t g) (ht : t < 64) : CI s n t kX_busiest kY_busiest [] l g := by
  obtain ⟨h0, A, B, S, tr, fl, rb, hP, hC, hM⟩ := h
  have hK := hC.2.2.2.1
  refine tr_X_busiest hC.1 hC.2.1 hK.2.1.2 hK.2.2.2.2.2.2 (fun g1 a1 a2 a3 a4 a5 => ?_)
  have hC1 : IC A B S tr fl rb l t g1 := by
    refine IC_k hC (fun p i hp => a5 p i (by omega)) (KK_gen hK (a5 _ _ (by omega)) (by rw [a5 _ _ (by omega)]; exact hK.1) ⟨a2, a1⟩ (kp2 hK (fun i => a5 _ _ (by omega))) (kp3 hK (fun i => a5 _ _ (by omega))) (kp4 hK (fun i => a5 _ _ (by omega)) (fun i => a5 _ _ (by omega))) ⟨a4, a3⟩) ?_
    rw [a5 _ _ (by omega)]
    exact hC.2.2.2.2.2.2.2
  have h01 : ∀ i, g1 0 i = s i := fun i => by rw [a5 0 i (by omega)]; exact h0 i
  have hM1 := IM_fr hM (g' := g1) (fun p i hp => a5 p i (by omega))
  exact ⟨_, l, rfl, rfl, h01, tr_Y_busiest hM1.1 (fun g2 b2 => ⟨rfl, rfl, IV_mk h01 (PW_t hP ht) (IC_t hC1) (fun p i hp => b2 p i (by omega)) (IM_s hM1 (fun p i hp => b2 p i (by omega)))⟩)⟩
theorem st_bears {s : Int → Int} {n l t : Nat} {g : jv_S} {c w : Int} (h : IV s l t g) (ht : t < 64) : CJ s n t kX_bears kY_bears [jv_I c, jv_I w] l g := by
  obtain ⟨h0, A, B, S, tr, fl, rb, hP, hC, hM⟩ := h
  have hK := hC.2.2.2.1
  refine tr_X_bears hC.1 hC.2.1 hK.2.1.2 hK.2.2.2.2.2.2 (fun g1 a1 a2 a3 a4 a5 => ?_)
  have hC1 : IC A B S tr fl rb l t g1 := by
    refine IC_k hC (fun p i hp => a5 p i (by omega)) (KK_gen hK (a5 _ _ (by omega)) (by rw [a5 _ _ (by omega)]; exact hK.1) ⟨a2, a1⟩ (kp2 hK (fun i => a5 _ _ (by omega))) (kp3 hK (fun i => a5 _ _ (by omega))) (kp4 hK (fun i => a5 _ _ (by omega)) (fun i => a5 _ _ (by omega))) ⟨a4, a3⟩) ?_
    rw [a5 _ _ (by omega)]
    exact hC.2.2.2.2.2.2.2
  have h01 : ∀ i, g1 0 i = s i := fun i => by rw [a5 0 i (by omega)]; exact h0 i
  have hM1 := IM_fr hM (g' := g1) (fun p i hp => a5 p i (by omega))
  exact ⟨_, l, rfl, rfl, h01, tr_Y_bears hM1.1 (fun g2 b2 => ⟨rfl, rfl, IV_mk h01 (PW_t hP ht) (IC_t hC1) (fun p i hp => b2 p i (by omega)) (IM_s hM1 (fun p i hp => b2 p i (by omega)))⟩)⟩
