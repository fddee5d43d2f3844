/-! ===== calls: the net, rules, turns ===== -/
theorem qv {a b : Int} {L : jv_L} {g : jv_S} {Q : jv_V → jv_L → jv_S → Prop} (h : Q (jv_I a) L g) (e : a = b) : Q (jv_I b) L g := by rw [← e]; exact h
theorem PW_t {A : jA} {B S : jB} {rb : Int} {l t : Nat} (h : PW A B S rb l t) (ht : t < 64) : PW A B S rb l (t + 1) := by
  obtain ⟨h1, h2, h3, h4, h5, h6, h7⟩ := h
  exact ⟨h1, h2, by omega, h4, by omega, h6, by omega⟩
theorem IV_mk {s : Int → Int} {A : jA} {B S : jB} {tr fl rb : Int} {l t : Nat} {g1 g2 : jv_S} (h0 : ∀ i, g1 0 i = s i) (hP : PW A B S rb l t) (hC : IC A B S tr fl rb l t g1) (hk : kM g1 g2) (hM : IM A B S tr fl g2) : IV s l t g2 :=
  ⟨fun i => by rw [hk 0 i (by omega)]; exact h0 i, A, B, S, tr, fl, rb, hP, IC_fr hC hk, hM⟩
/-- a call that changes nothing on either side -/
theorem CI_q {s : Int → Int} {n t kx ky l : Nat} {as : List jv_V} {g : jv_S} (h : IV s l t g) (ht : t < 64) (hx : ∀ (A : jA) (B S : jB) (tr fl rb : Int), PW A B S rb l t → IC A B S tr fl rb l t g → IM A B S tr fl g → ∃ v : Int, jv_Ca jv_T jv_ml kx (jv_P 1 :: as) (LL n l) g (fun r L g' => r = jv_I v ∧ L = LL n l ∧ g' = g) ∧ jv_Ca jv_T jv_ml ky (jv_P 136 :: as) (LL n l) g (fun r L g' => r = jv_I v ∧ L = LL n l ∧ g' = g)) : CI s n t kx ky as l g := by
  obtain ⟨h0, A, B, S, tr, fl, rb, hP, hC, hM⟩ := h
  obtain ⟨v, a1, a2⟩ := hx A B S tr fl rb hP hC hM
  refine jv_At.mono a1 (fun r L g1 e => ?_)
  obtain ⟨e1, e2, e3⟩ := e
  subst e3
  refine ⟨v, l, e1, e2, h0, jv_At.mono a2 (fun r2 L2 g2 e => ?_)⟩
  obtain ⟨e4, e5, e6⟩ := e
  subst e6
  exact ⟨e4, e5, h0, A, B, S, tr, fl, rb, PW_t hP ht, IC_t hC, hM⟩
theorem IM_s {A : jA} {B S : jB} {tr fl : Int} {g g' : jv_S} (h : IM A B S tr fl g) (hf : ∀ (p : Nat) (i : Int), ((137 ≤ p ∧ p ≤ 144) ∨ (155 ≤ p ∧ p ≤ 160) ∨ p = 162 ∨ p = 163 ∨ (p = 136 ∧ (i = 0 ∨ i = 1 ∨ i = 5 ∨ i = 6 ∨ i = 12 ∨ i = 27 ∨ i = 38))) → g' p i = g p i) : IM A B S tr fl g' := by
  obtain ⟨h1, h2, h3, h4, h5⟩ := h
  refine ⟨MN_fr h1 (fun p i a b => hf p i (by omega)) (hf _ _ (by omega)) (hf _ _ (by omega)) (hf _ _ (by omega)), TMr_fr h2 (fun p i a => hf p i (by omega)), ShM_fr (fun p i a => hf p i (by omega)) h3, by rw [hf 136 1 (by omega)]; exact h4, by rw [hf 136 0 (by omega)]; exact h5⟩
theorem nat_of {c : Int} (h : 0 ≤ c) : ∃ k : Nat, c = k := ⟨c.toNat, by omega⟩
set_option maxRecDepth 100000 in
theorem sg_X_far_0 {A : jA} {n l : Nat} {g : jv_S} {Q : jv_V → jv_L → jv_S → Prop} {v1 v2 : Int} (h :
   ((14 = 14) ∧ (LLx (LL n l)) ∧ (True)) ∧
    ((jb_p ((0 ≤ v1 ∧ v1 < g 14 0) ∧ 0 ≤ v2 ∧ v2 < g 14 0)) = 0 →
     Q (jv_I (-1 : Int)) (LL n l) g) ∧
    (¬ (jb_p ((0 ≤ v1 ∧ v1 < g 14 0) ∧ 0 ≤ v2 ∧ v2 < g 14 0)) = 0 →
     (0 ≤ v1 ∧ v1 < 6) ∧
      (0 ≤ v2 ∧ v2 < 6) ∧
      Q (jv_I (g 18 (v1 * 6 + v2))) (LL n l) g)) :
  jv_At jv_T jv_ml kX_far 0 [jv_P 1, jv_I v1, jv_I v2] [] (LL n l) g Q :=
  jv_of_wp (gok9 (A := A)) (md := []) (stop := []) (tab := jt_X_far) rfl 400 _ _ _ _ _ h
set_option maxRecDepth 100000 in
theorem sg_Y_far_0 {A : jA} {n l : Nat} {g : jv_S} {Q : jv_V → jv_L → jv_S → Prop} {v1 v2 : Int} (h :
   ((136 = 136) ∧ (LLx (LL n l)) ∧ (True)) ∧
    ((jb_p (0 ≤ v1 ∧ v1 < g 136 5)) = 0 →
     Q (jv_I (-1 : Int)) (LL n l) g) ∧
    (¬ (jb_p (0 ≤ v1 ∧ v1 < g 136 5)) = 0 →
     ((136 = 136) ∧ (LLx (LL n l)) ∧ (True)) ∧
      ((jb_p (0 ≤ v2 ∧ v2 < g 136 5)) = 0 →
       Q (jv_I (-1 : Int)) (LL n l) g) ∧
      (¬ (jb_p (0 ≤ v2 ∧ v2 < g 136 5)) = 0 →
       jv_r32 ((6 : Int) * v1) ∧
        jv_r32 (((6 : Int) * v1) + v2) ∧
        (0 ≤ (((6 : Int) * v1) + v2) ∧ (((6 : Int) * v1) + v2) < 36) ∧
        Q (jv_I (g 144 (((6 : Int) * v1) + v2))) (LL n l) g))) :
  jv_At jv_T jv_ml kY_far 0 [jv_P 136, jv_I v1, jv_I v2] [] (LL n l) g Q :=
  jv_of_wp (gok9 (A := A)) (md := []) (stop := []) (tab := jt_Y_far) rfl 400 _ _ _ _ _ h
def an_far (A : jA) (x y : Int) : Int := if (0 ≤ x ∧ x < nd A) ∧ 0 ≤ y ∧ y < nd A then fa A x.toNat y.toNat else -1
theorem tr_X_far {A : jA} {n l : Nat} {g : jv_S} {Q : jv_V → jv_L → jv_S → Prop} {x y : Int} (hN : CN A g) (hQ : Q (jv_I (an_far A x y)) (LL n l) g) : jv_Ca jv_T jv_ml kX_far [jv_P 1, jv_I x, jv_I y] (LL n l) g Q := by
  have f1 := hN.2.1
  have w1 := hN.1.1
  apply sg_X_far_0 (A := A)
  rw [f1]
  refine ⟨⟨rfl, LLx_ok, trivial⟩, fun h => qv hQ (if_neg (jp0.mp h)), fun h => ?_⟩
  have hv := Classical.byContradiction (fun h' => h (jp0.mpr h'))
  obtain ⟨a, rfl⟩ := nat_of hv.1.1
  obtain ⟨b, rfl⟩ := nat_of hv.2.1
  refine ⟨⟨by omega, by omega⟩, ⟨by omega, by omega⟩, qv hQ ?_⟩
  unfold an_far
  rw [if_pos hv]
  exact (hN.2.2.2.2.1 a b (by omega) (by omega)).1.symm
theorem tr_Y_far {A : jA} {n l : Nat} {g : jv_S} {Q : jv_V → jv_L → jv_S → Prop} {x y : Int} (hM : MN A g) (hQ : Q (jv_I (an_far A x y)) (LL n l) g) : jv_Ca jv_T jv_ml kY_far [jv_P 136, jv_I x, jv_I y] (LL n l) g Q := by
  have f1 := hM.2.1
  have w1 := hM.1.1
  apply sg_Y_far_0 (A := A)
  rw [f1]
  refine ⟨⟨rfl, LLx_ok, trivial⟩, fun h => qv hQ (if_neg (fun h' => jp0.mp h h'.1)), fun h => ⟨⟨rfl, LLx_ok, trivial⟩, fun h2 => qv hQ (if_neg (fun h' => jp0.mp h2 h'.2)), fun h2 => ?_⟩⟩
  have hv := Classical.byContradiction (fun h' => h (jp0.mpr h'))
  have hv2 := Classical.byContradiction (fun h' => h2 (jp0.mpr h'))
  obtain ⟨a, rfl⟩ := nat_of hv.1
  obtain ⟨b, rfl⟩ := nat_of hv2.1
  refine ⟨⟨by omega, by omega⟩, ⟨by omega, by omega⟩, ⟨by omega, by omega⟩, qv hQ ?_⟩
  unfold an_far
  rw [if_pos ⟨hv, hv2⟩]
  exact (hM.2.2.2.2.2 a b (by omega) (by omega)).symm
theorem st_far {s : Int → Int} {n l t : Nat} {g : jv_S} {x y : Int} (h : IV s l t g) (ht : t < 64) : CI s n t kX_far kY_far [jv_I x, jv_I y] l g :=
  CI_q h ht (fun A B S tr fl rb hP hC hM => ⟨an_far A x y, tr_X_far hC.1 ⟨rfl, rfl, rfl⟩, tr_Y_far hM.1 ⟨rfl, rfl, rfl⟩⟩)
set_option maxRecDepth 100000 in
theorem sg_X_may_0 {A : jA} {n l : Nat} {g : jv_S} {Q : jv_V → jv_L → jv_S → Prop} {v1 v2 : Int} (h :
   ((14 = 14) ∧ (LLx (LL n l)) ∧ (True)) ∧
    ((jb_p (0 ≤ v1 ∧ v1 < g 14 1)) = 0 →
     Q (jv_I (-1 : Int)) (LL n l) g) ∧
    (¬ (jb_p (0 ≤ v1 ∧ v1 < g 14 1)) = 0 →
     ((14 = 14) ∧ (LLx (LL n l)) ∧ (True)) ∧
      ((jb_p (0 ≤ v2 ∧ v2 < g 14 0)) = 0 →
       Q (jv_I (-1 : Int)) (LL n l) g) ∧
      (¬ (jb_p (0 ≤ v2 ∧ v2 < g 14 0)) = 0 →
       (0 ≤ v1 ∧ v1 < 10) ∧
        (0 ≤ v2 ∧ v2 < 6) ∧
        Q (jv_I (g 49 (v1 * 6 + v2))) (LL n l) g))) :
  jv_At jv_T jv_ml kX_may 0 [jv_P 1, jv_I v1, jv_I v2] [] (LL n l) g Q :=
  jv_of_wp (gok9 (A := A)) (md := []) (stop := []) (tab := jt_X_may) rfl 400 _ _ _ _ _ h
set_option maxRecDepth 100000 in
theorem sg_Y_may_0 {A : jA} {n l : Nat} {g : jv_S} {Q : jv_V → jv_L → jv_S → Prop} {v1 v2 : Int} (h :
   ((136 = 136) ∧ (LLx (LL n l)) ∧ (True)) ∧
    ((jb_p (0 ≤ v1 ∧ v1 < g 136 6)) = 0 →
     Q (jv_I (-1 : Int)) (LL n l) g) ∧
    (¬ (jb_p (0 ≤ v1 ∧ v1 < g 136 6)) = 0 →
     ((136 = 136) ∧ (LLx (LL n l)) ∧ (True)) ∧
      ((jb_p (0 ≤ v2 ∧ v2 < g 136 5)) = 0 →
       Q (jv_I (-1 : Int)) (LL n l) g) ∧
      (¬ (jb_p (0 ≤ v2 ∧ v2 < g 136 5)) = 0 →
       ((136 = 136) ∧ (LLx (LL n l)) ∧ (MN A g ∧ (0 ≤ v2 ∧ v2 < nd A) ∧ 0 ≤ v1 ∧ (v1 < ln A ∨ (10 ≤ v1 ∧ v1 < 10 + nd A)))) ∧
        Q (jv_I (tkI A v1 v2)) (LL n l) g))) :
  jv_At jv_T jv_ml kY_may 0 [jv_P 136, jv_I v1, jv_I v2] [] (LL n l) g Q :=
  jv_of_wp (gok9 (A := A)) (md := []) (stop := []) (tab := jt_Y_may) rfl 400 _ _ _ _ _ h
set_option maxRecDepth 100000 in
theorem sg_X_out_0 {A : jA} {n l : Nat} {g : jv_S} {Q : jv_V → jv_L → jv_S → Prop} {v1 v2 : Int} (h :
   ((14 = 14) ∧ (LLx (LL n l)) ∧ (True)) ∧
    ((jb_p ((0 ≤ v1 ∧ v1 < g 14 0) ∧ 0 ≤ v2 ∧ v2 < g 14 0)) = 0 →
     Q (jv_I (-1 : Int)) (LL n l) g) ∧
    (¬ (jb_p ((0 ≤ v1 ∧ v1 < g 14 0) ∧ 0 ≤ v2 ∧ v2 < g 14 0)) = 0 →
     (0 ≤ v1 ∧ v1 < 6) ∧
      (0 ≤ v2 ∧ v2 < 6) ∧
      Q (jv_I (g 42 (v1 * 6 + v2))) (LL n l) g)) :
  jv_At jv_T jv_ml kX_out 0 [jv_P 1, jv_I v1, jv_I v2] [] (LL n l) g Q :=
  jv_of_wp (gok9 (A := A)) (md := []) (stop := []) (tab := jt_X_out) rfl 400 _ _ _ _ _ h
set_option maxRecDepth 100000 in
theorem sg_Y_out_0 {A : jA} {n l : Nat} {g : jv_S} {Q : jv_V → jv_L → jv_S → Prop} {v1 v2 : Int} (h :
   ((136 = 136) ∧ (LLx (LL n l)) ∧ (True)) ∧
    ((jb_p (0 ≤ v1 ∧ v1 < g 136 5)) = 0 →
     Q (jv_I (-1 : Int)) (LL n l) g) ∧
    (¬ (jb_p (0 ≤ v1 ∧ v1 < g 136 5)) = 0 →
     ((136 = 136) ∧ (LLx (LL n l)) ∧ (True)) ∧
      ((jb_p (0 ≤ v2 ∧ v2 < g 136 5)) = 0 →
       Q (jv_I (-1 : Int)) (LL n l) g) ∧
      (¬ (jb_p (0 ≤ v2 ∧ v2 < g 136 5)) = 0 →
       jv_r32 ((10 : Int) + v1) ∧
        ((136 = 136) ∧ (LLx (LL n l)) ∧ (MN A g ∧ (0 ≤ v2 ∧ v2 < nd A) ∧ 0 ≤ ((10 : Int) + v1) ∧ (((10 : Int) + v1) < ln A ∨ (10 ≤ ((10 : Int) + v1) ∧ ((10 : Int) + v1) < 10 + nd A)))) ∧
        Q (jv_I (tkI A ((10 : Int) + v1) v2)) (LL n l) g))) :
  jv_At jv_T jv_ml kY_out 0 [jv_P 136, jv_I v1, jv_I v2] [] (LL n l) g Q :=
  jv_of_wp (gok9 (A := A)) (md := []) (stop := []) (tab := jt_Y_out) rfl 400 _ _ _ _ _ h
def an_may (A : jA) (c y : Int) : Int := if (0 ≤ c ∧ c < ln A) ∧ 0 ≤ y ∧ y < nd A then (tk A c.toNat y.toNat : Nat) else -1
def an_out (A : jA) (x y : Int) : Int := if (0 ≤ x ∧ x < nd A) ∧ 0 ≤ y ∧ y < nd A then (tk A (10 + x.toNat) y.toNat : Nat) else -1
theorem tr_X_may {A : jA} {n l : Nat} {g : jv_S} {Q : jv_V → jv_L → jv_S → Prop} {x y : Int} (hN : CN A g) (hW : CW 40 A g) (hQ : Q (jv_I (an_may A x y)) (LL n l) g) : jv_Ca jv_T jv_ml kX_may [jv_P 1, jv_I x, jv_I y] (LL n l) g Q := by
  have f1 := hN.2.1
  have f2 := hN.2.2.1
  have w1 := hN.1.1
  have w2 := hN.1.2.1
  apply sg_X_may_0 (A := A)
  rw [f1, f2]
  refine ⟨⟨rfl, LLx_ok, trivial⟩, fun h => qv hQ (if_neg (fun h' => jp0.mp h h'.1)), fun h => ⟨⟨rfl, LLx_ok, trivial⟩, fun h2 => qv hQ (if_neg (fun h' => jp0.mp h2 h'.2)), fun h2 => ?_⟩⟩
  have hv := Classical.byContradiction (fun h' => h (jp0.mpr h'))
  have hv2 := Classical.byContradiction (fun h' => h2 (jp0.mpr h'))
  obtain ⟨a, rfl⟩ := nat_of hv.1
  obtain ⟨b, rfl⟩ := nat_of hv2.1
  refine ⟨⟨by omega, by omega⟩, ⟨by omega, by omega⟩, qv hQ ?_⟩
  unfold an_may
  rw [if_pos ⟨hv, hv2⟩]
  exact (hW.2.2.2 a b (by omega) (by omega)).symm
theorem tr_Y_may {A : jA} {n l : Nat} {g : jv_S} {Q : jv_V → jv_L → jv_S → Prop} {x y : Int} (hM : MN A g) (hQ : Q (jv_I (an_may A x y)) (LL n l) g) : jv_Ca jv_T jv_ml kY_may [jv_P 136, jv_I x, jv_I y] (LL n l) g Q := by
  have f1 := hM.2.1
  have f2 := hM.2.2.1
  apply sg_Y_may_0 (A := A)
  rw [f1, f2]
  refine ⟨⟨rfl, LLx_ok, trivial⟩, fun h => qv hQ (if_neg (fun h' => jp0.mp h h'.1)), fun h => ⟨⟨rfl, LLx_ok, trivial⟩, fun h2 => qv hQ (if_neg (fun h' => jp0.mp h2 h'.2)), fun h2 => ?_⟩⟩
  have hv := Classical.byContradiction (fun h' => h (jp0.mpr h'))
  have hv2 := Classical.byContradiction (fun h' => h2 (jp0.mpr h'))
  refine ⟨⟨rfl, LLx_ok, hM, hv2, hv.1, Or.inl hv.2⟩, qv hQ ?_⟩
  unfold an_may
  rw [if_pos ⟨hv, hv2⟩]
  rfl
theorem st_may {s : Int → Int} {n l t : Nat} {g : jv_S} {x y : Int} (h : IV s l t g) (ht : t < 64) : CI s n t kX_may kY_may [jv_I x, jv_I y] l g :=
  CI_q h ht (fun A B S tr fl rb hP hC hM => ⟨an_may A x y, tr_X_may hC.1 hC.2.1 ⟨rfl, rfl, rfl⟩, tr_Y_may hM.1 ⟨rfl, rfl, rfl⟩⟩)
theorem tr_X_out {A : jA} {n l : Nat} {g : jv_S} {Q : jv_V → jv_L → jv_S → Prop} {x y : Int} (hN : CN A g) (hW : CW 40 A g) (hQ : Q (jv_I (an_out A x y)) (LL n l) g) : jv_Ca jv_T jv_ml kX_out [jv_P 1, jv_I x, jv_I y] (LL n l) g Q := by
  have f1 := hN.2.1
  have w1 := hN.1.1
  apply sg_X_out_0 (A := A)
  rw [f1]
  refine ⟨⟨rfl, LLx_ok, trivial⟩, fun h => qv hQ (if_neg (jp0.mp h)), fun h => ?_⟩
  have hv := Classical.byContradiction (fun h' => h (jp0.mpr h'))
  obtain ⟨a, rfl⟩ := nat_of hv.1.1
  obtain ⟨b, rfl⟩ := nat_of hv.2.1
  refine ⟨⟨by omega, by omega⟩, ⟨by omega, by omega⟩, qv hQ ?_⟩
  unfold an_out
  rw [if_pos hv]
  exact (hW.2.2.1 a b (by omega) (by omega)).symm
theorem tr_Y_out {A : jA} {n l : Nat} {g : jv_S} {Q : jv_V → jv_L → jv_S → Prop} {x y : Int} (hM : MN A g) (hQ : Q (jv_I (an_out A x y)) (LL n l) g) : jv_Ca jv_T jv_ml kY_out [jv_P 136, jv_I x, jv_I y] (LL n l) g Q := by
  have f1 := hM.2.1
  have w1 := hM.1.1
  apply sg_Y_out_0 (A := A)
  rw [f1]
  refine ⟨⟨rfl, LLx_ok, trivial⟩, fun h => qv hQ (if_neg (fun h' => jp0.mp h h'.1)), fun h => ⟨⟨rfl, LLx_ok, trivial⟩, fun h2 => qv hQ (if_neg (fun h' => jp0.mp h2 h'.2)), fun h2 => ?_⟩⟩
  have hv := Classical.byContradiction (fun h' => h (jp0.mpr h'))
  have hv2 := Classical.byContradiction (fun h' => h2 (jp0.mpr h'))
  obtain ⟨a, rfl⟩ := nat_of hv.1
  refine ⟨⟨by omega, by omega⟩, ⟨rfl, LLx_ok, hM, hv2, by omega, Or.inr (by omega)⟩, qv hQ ?_⟩
  unfold an_out
  rw [if_pos ⟨hv, hv2⟩]
  rfl
theorem st_out {s : Int → Int} {n l t : Nat} {g : jv_S} {x y : Int} (h : IV s l t g) (ht : t < 64) : CI s n t kX_out kY_out [jv_I x, jv_I y] l g :=
  CI_q h ht (fun A B S tr fl rb hP hC hM => ⟨an_out A x y, tr_X_out hC.1 hC.2.1 ⟨rfl, rfl, rfl⟩, tr_Y_out hM.1 ⟨rfl, rfl, rfl⟩⟩)
set_option maxRecDepth 100000 in
theorem sg_X_ofLane_0 {A : jA} {n l : Nat} {g : jv_S} {Q : jv_V → jv_L → jv_S → Prop} {v1 v2 : Int} (h :
   ((14 = 14) ∧ (LLx (LL n l)) ∧ (True)) ∧
    ((jb_p (0 ≤ v1 ∧ v1 < g 14 1)) = 0 →
     Q (jv_I (-1 : Int)) (LL n l) g) ∧
    (¬ (jb_p (0 ≤ v1 ∧ v1 < g 14 1)) = 0 →
     (v2 = (0 : Int) →
       (0 ≤ v1 ∧ v1 < 10) ∧
        Q (jv_I (g 15 v1)) (LL n l) g) ∧
      (¬ v2 = (0 : Int) →
       (v2 = (1 : Int) →
         (0 ≤ v1 ∧ v1 < 10) ∧
          Q (jv_I (g 16 v1)) (LL n l) g) ∧
        (¬ v2 = (1 : Int) →
         (v2 = (2 : Int) →
           (0 ≤ v1 ∧ v1 < 10) ∧
            Q (jv_I (g 17 v1)) (LL n l) g) ∧
          (¬ v2 = (2 : Int) →
           (v2 = (3 : Int) →
             (0 ≤ v1 ∧ v1 < 10) ∧
              Q (jv_I (g 100 v1)) (LL n l) g) ∧
            (¬ v2 = (3 : Int) →
             jv_Ca jv_T jv_ml kTr_standsIn [jv_P 87, jv_I v1, jv_I (jv_w32 (v2 - (10 : Int)))] (LL n l) g (fun r L2 g2 => jv_At jv_T jv_ml kX_ofLane 96 [jv_P 1, jv_I v1, jv_I v2] (jv_pu r []) L2 g2 Q))))))) :
  jv_At jv_T jv_ml kX_ofLane 0 [jv_P 1, jv_I v1, jv_I v2] [] (LL n l) g Q :=
  jv_of_wp (gok9 (A := A)) (md := [92]) (stop := []) (tab := jt_X_ofLane) rfl 400 _ _ _ _ _ h
set_option maxRecDepth 100000 in
theorem sg_X_ofLane_96 {A : jA} {n l : Nat} {g : jv_S} {Q : jv_V → jv_L → jv_S → Prop} {v1 v2 s0 : Int} (h :
   Q (jv_I s0) (LL n l) g) :
  jv_At jv_T jv_ml kX_ofLane 96 [jv_P 1, jv_I v1, jv_I v2] [jv_I s0] (LL n l) g Q :=
  jv_of_wp (gok9 (A := A)) (md := [92]) (stop := []) (tab := jt_X_ofLane) rfl 400 _ _ _ _ _ h
set_option maxRecDepth 100000 in
theorem sg_Y_ofLane_0 {A : jA} {n l : Nat} {g : jv_S} {Q : jv_V → jv_L → jv_S → Prop} {v1 v2 : Int} (h :
   ((136 = 136) ∧ (LLx (LL n l)) ∧ (True)) ∧
    ((jb_p (0 ≤ v1 ∧ v1 < g 136 6)) = 0 →
     Q (jv_I (-1 : Int)) (LL n l) g) ∧
    (¬ (jb_p (0 ≤ v1 ∧ v1 < g 136 6)) = 0 →
     (v2 = (0 : Int) →
       (0 ≤ v1 ∧ v1 < 10) ∧
        Q (jv_I (g 140 v1)) (LL n l) g) ∧
      (¬ v2 = (0 : Int) →
       (v2 = (1 : Int) →
         (0 ≤ v1 ∧ v1 < 10) ∧
          Q (jv_I (g 141 v1)) (LL n l) g) ∧
        (¬ v2 = (1 : Int) →
         (v2 = (2 : Int) →
           (0 ≤ v1 ∧ v1 < 10) ∧
            Q (jv_I (g 142 v1)) (LL n l) g) ∧
          (¬ v2 = (2 : Int) →
           (v2 = (3 : Int) →
             (0 ≤ v1 ∧ v1 < 10) ∧
              Q (jv_I (g 162 v1)) (LL n l) g) ∧
            (¬ v2 = (3 : Int) →
             (0 ≤ v1 ∧ v1 < 10) ∧
              jv_r32 ((9 : Int) + (g 162 v1)) ∧
              ((True)) ∧
              ((jb_p ((10 : Int) ≤ v2 ∧ v2 ≤ ((9 : Int) + (g 162 v1)))) = 0 →
               Q (jv_I (-2 : Int)) (LL n l) g) ∧
              (¬ (jb_p ((10 : Int) ≤ v2 ∧ v2 ≤ ((9 : Int) + (g 162 v1)))) = 0 →
               jv_r32 ((2 : Int) * v1) ∧
                jv_r32 (((2 : Int) * v1) + v2) ∧
                jv_r32 ((((2 : Int) * v1) + v2) - (10 : Int)) ∧
                (0 ≤ ((((2 : Int) * v1) + v2) - (10 : Int)) ∧ ((((2 : Int) * v1) + v2) - (10 : Int)) < 20) ∧
                Q (jv_I (g 163 ((((2 : Int) * v1) + v2) - (10 : Int)))) (LL n l) g))))))) :
  jv_At jv_T jv_ml kY_ofLane 0 [jv_P 136, jv_I v1, jv_I v2] [] (LL n l) g Q :=
  jv_of_wp (gok9 (A := A)) (md := []) (stop := []) (tab := jt_Y_ofLane) rfl 400 _ _ _ _ _ h
theorem w32_lo {z : Int} (h1 : -4294967296 ≤ z) (h2 : z < -2147483648) : jv_w32 z = z + 4294967296 := by
  unfold jv_w32
  rw [Int32.toInt_ofInt]
  show Int.bmod z 4294967296 = _
  unfold Int.bmod
  dsimp only
  split <;> omega
def an_ofLane (A : jA) (B : jB) (c w : Int) : Int := if ¬ (0 ≤ c ∧ c < ln A) then -1 else if w = 0 then (fr A c.toNat : Nat) else if w = 1 then (tt A c.toNat : Nat) else if w = 2 then (rm A c.toNat : Nat) else if w = 3 then B 8 c.toNat else if 10 ≤ w ∧ w ≤ 9 + B 8 c.toNat then B 9 (2 * c.toNat + (w - 10).toNat) else -2
theorem tr_X_ofLane {A : jA} {B : jB} {rb : Int} {n l : Nat} {g : jv_S} {Q : jv_V → jv_L → jv_S → Prop} {c w : Int} (hN : CN A g) (hB' : BW A B) (hT : TC A B rb l g) (hw : jv_r32 w) (hQ : Q (jv_I (an_ofLane A B c w)) (LL n l) g) : jv_Ca jv_T jv_ml kX_ofLane [jv_P 1, jv_I c, jv_I w] (LL n l) g Q := by
  have f2 := hN.2.2.1
  have w2 := hN.1.2.1
  apply sg_X_ofLane_0 (A := A)
  rw [f2]
  refine ⟨⟨rfl, LLx_ok, trivial⟩, fun h => qv hQ (if_pos (jp0.mp h)), fun h => ?_⟩
  have hv := Classical.byContradiction (fun h' => h (jp0.mpr h'))
  obtain ⟨a, rfl⟩ := nat_of hv.1
  have ha : a < ln A := by omega
  obtain ⟨e1, e2, e3⟩ := hN.2.2.2.1 a ha
  have e8 := hT.2.1 a ha
  have e9 := hT.2.2.1 a
  have b8 := hB'.2.1 a ha
  have r8 := (hN.1.2.2.2.1 a ha).2.2.2.2.1
  unfold an_ofLane at hQ
  rw [if_neg (fun h' => h' hv)] at hQ
  refine ⟨fun h0 => ⟨⟨by omega, by omega⟩, ?_⟩, fun h0 => ⟨fun h1 => ⟨⟨by omega, by omega⟩, ?_⟩, fun h1 => ⟨fun h2 => ⟨⟨by omega, by omega⟩, ?_⟩, fun h2 => ⟨fun h3 => ⟨⟨by omega, by omega⟩, ?_⟩, fun h3 => ?_⟩⟩⟩⟩
  · rw [if_pos h0] at hQ; exact qv hQ e1.symm
  · rw [if_neg h0, if_pos h1] at hQ; exact qv hQ e2.symm
  · rw [if_neg h0, if_neg h1, if_pos h2] at hQ; exact qv hQ e3.symm
  · rw [if_neg h0, if_neg h1, if_neg h2, if_pos h3] at hQ; exact qv hQ e8.symm
  · rw [if_neg h0, if_neg h1, if_neg h2, if_neg h3] at hQ
    have hw1 := hw.1
    have hw2 := hw.2
    apply sg_Tr_standsIn_0 (A := A)
    rw [e8]
    by_cases hlo : w - 10 < -2147483648
    · have e := w32_lo (z := w - 10) (by omega) hlo
      rw [e]
      have hn : ¬ (10 ≤ w ∧ w ≤ 9 + B 8 ((a : Int)).toNat) := fun h' => by omega
      rw [if_neg hn] at hQ
      refine ⟨fun h5 => by omega, fun h5 => ⟨⟨by omega, by omega⟩, fun h6 => sg_X_ofLane_96 (A := A) hQ, fun h6 => by omega⟩⟩
    · have e := jv_w32_eq (z := w - 10) ⟨by omega, by omega⟩
      rw [e]
      refine ⟨fun h5 => ?_, fun h5 => ⟨⟨by omega, by omega⟩, fun h6 => ?_, fun h6 => ⟨⟨by omega, by omega⟩, ⟨by omega, by omega⟩, ?_⟩⟩⟩
      · rw [if_neg (fun h' => by omega)] at hQ
        exact sg_X_ofLane_96 (A := A) hQ
      · have hn : ¬ (10 ≤ w ∧ w ≤ 9 + B 8 ((a : Int)).toNat) := fun h' => by
          have : w ≤ 9 + B 8 a := h'.2
          omega
        rw [if_neg hn] at hQ
        exact sg_X_ofLane_96 (A := A) hQ
      · obtain ⟨k, hk⟩ := nat_of (c := w - 10) (by omega)
        have hn : 10 ≤ w ∧ w ≤ 9 + B 8 ((a : Int)).toNat := ⟨by omega, by show w ≤ 9 + B 8 a; omega⟩
        rw [if_pos hn, hk] at hQ
        apply sg_X_ofLane_96 (A := A)
        rw [hk, e9 k ha (by omega)]
        exact hQ
theorem tr_Y_ofLane {A : jA} {B : jB} {n l : Nat} {g : jv_S} {Q : jv_V → jv_L → jv_S → Prop} {c w : Int} (hM : MN A g) (hB' : BW A B) (hT : TMr A B g) (hQ : Q (jv_I (an_ofLane A B c w)) (LL n l) g) : jv_Ca jv_T jv_ml kY_ofLane [jv_P 136, jv_I c, jv_I w] (LL n l) g Q := by
  have f2 := hM.2.2.1
  have w2 := hM.1.2.1
  apply sg_Y_ofLane_0 (A := A)
  rw [f2]
  refine ⟨⟨rfl, LLx_ok, trivial⟩, fun h => qv hQ (if_pos (jp0.mp h)), fun h => ?_⟩
  have hv := Classical.byContradiction (fun h' => h (jp0.mpr h'))
  obtain ⟨a, rfl⟩ := nat_of hv.1
  have ha : a < ln A := by omega
  obtain ⟨e1, e2, e3, -⟩ := hM.2.2.2.2.1 a ha
  have e8 := hT.2.1 a ha
  have e9 := hT.2.2.1 a
  have b8 := hB'.2.1 a ha
  have r8 := (hM.1.2.2.2.1 a ha).2.2.2.2.1
  unfold an_ofLane at hQ
  rw [if_neg (fun h' => h' hv)] at hQ
  rw [e8]
  refine ⟨fun h0 => ⟨⟨by omega, by omega⟩, ?_⟩, fun h0 => ⟨fun h1 => ⟨⟨by omega, by omega⟩, ?_⟩, fun h1 => ⟨fun h2 => ⟨⟨by omega, by omega⟩, ?_⟩, fun h2 => ⟨fun h3 => ⟨⟨by omega, by omega⟩, ?_⟩, fun h3 => ⟨⟨by omega, by omega⟩, ⟨by omega, by omega⟩, trivial, fun h4 => ?_, fun h4 => ?_⟩⟩⟩⟩⟩
  · rw [if_pos h0] at hQ; exact qv hQ e1.symm
  · rw [if_neg h0, if_pos h1] at hQ; exact qv hQ e2.symm
  · rw [if_neg h0, if_neg h1, if_pos h2] at hQ; exact qv hQ e3.symm
  · rw [if_neg h0, if_neg h1, if_neg h2, if_pos h3] at hQ; exact hQ
  · rw [if_neg h0, if_neg h1, if_neg h2, if_neg h3, if_neg (show ¬ (10 ≤ w ∧ w ≤ 9 + B 8 ((a : Int)).toNat) from jp0.mp h4)] at hQ
    exact hQ
  · have hn := Classical.byContradiction (fun h' => h4 (jp0.mpr h'))
    have hn' : 10 ≤ w ∧ w ≤ 9 + B 8 ((a : Int)).toNat := hn
    obtain ⟨k, hk⟩ := nat_of (c := w - 10) (by omega)
    rw [if_neg h0, if_neg h1, if_neg h2, if_neg h3, if_pos hn', hk] at hQ
    refine ⟨⟨by omega, by omega⟩, ⟨by omega, by omega⟩, ⟨by omega, by omega⟩, ⟨by omega, by omega⟩, ?_⟩
    rw [show 2 * (a : Int) + w - 10 = 2 * (a : Int) + (k : Int) by omega, e9 k ha (by omega)]
    exact hQ
theorem st_ofLane {s : Int → Int} {n l t : Nat} {g : jv_S} {x y : Int} (h : IV s l t g) (ht : t < 64) (hy : jv_r32 y) : CI s n t kX_ofLane kY_ofLane [jv_I x, jv_I y] l g :=
  CI_q h ht (fun A B S tr fl rb hP hC hM => ⟨an_ofLane A B x y, tr_X_ofLane hC.1 hP.1 hC.2.2.2.2.1 hy ⟨rfl, rfl, rfl⟩, tr_Y_ofLane hM.1 hP.1 hM.2.1 ⟨rfl, rfl, rfl⟩⟩)
set_option maxRecDepth 100000 in
theorem sg_X_rule_0 {A : jA} {n l : Nat} {g : jv_S} {Q : jv_V → jv_L → jv_S → Prop} {v1 : Int} (h :
   (v1 < 0 →
     Q (jv_I (-2 : Int)) (LL n l) g) ∧
    (¬ v1 < 0 →
     (v1 ≤ (2 : Int) →
       jv_Ca jv_T jv_ml kWy_ruleBy [jv_P 40, jv_I v1] (LL n l) g (fun r L2 g2 => jv_At jv_T jv_ml kX_rule 28 [jv_P 1, jv_I v1, jv_I (g 40 4)] (jv_pu r []) L2 g2 Q)) ∧
      (¬ v1 ≤ (2 : Int) →
       Q (jv_I (-2 : Int)) (LL n l) g))) :
  jv_At jv_T jv_ml kX_rule 0 [jv_P 1, jv_I v1, jv_U] [] (LL n l) g Q :=
  jv_of_wp (gok9 (A := A)) (md := []) (stop := []) (tab := jt_X_rule) rfl 400 _ _ _ _ _ h
set_option maxRecDepth 100000 in
theorem sg_X_rule_28 {A : jA} {n l : Nat} {g : jv_S} {Q : jv_V → jv_L → jv_S → Prop} {v1 v2 : Int} (h :
   Q (jv_I v2) (LL n l) g) :
  jv_At jv_T jv_ml kX_rule 28 [jv_P 1, jv_I v1, jv_I v2] [] (LL n l) g Q :=
  jv_of_wp (gok9 (A := A)) (md := []) (stop := []) (tab := jt_X_rule) rfl 400 _ _ _ _ _ h
set_option maxRecDepth 100000 in
theorem sg_Y_rule_0 {A : jA} {n l : Nat} {g : jv_S} {Q : jv_V → jv_L → jv_S → Prop} {v1 : Int} (h :
   ((True)) ∧
    ((jb_p ((0 : Int) ≤ v1 ∧ v1 ≤ (2 : Int))) = 0 →
     Q (jv_I (-2 : Int)) (LL n l) g) ∧
    (¬ (jb_p ((0 : Int) ≤ v1 ∧ v1 ≤ (2 : Int))) = 0 →
     Q (jv_I (g 136 12)) (LL n l) (jv_up g 136 12 v1))) :
  jv_At jv_T jv_ml kY_rule 0 [jv_P 136, jv_I v1, jv_U] [] (LL n l) g Q :=
  jv_of_wp (gok9 (A := A)) (md := []) (stop := []) (tab := jt_Y_rule) rfl 400 _ _ _ _ _ h
theorem st_rule {s : Int → Int} {n l t : Nat} {g : jv_S} {v : Int} (h : IV s l t g) (ht : t < 64) : CI s n t kX_rule kY_rule [jv_I v] l g := by
  obtain ⟨h0, A, B, S, tr, fl, rb, hP, hC, hM⟩ := h
  obtain ⟨c1, c2, c3, -⟩ := id hC
  apply sg_X_rule_0 (A := A)
  have bad : ¬ (0 ≤ v ∧ v ≤ 2) → jv_Ca jv_T jv_ml kY_rule [jv_P 136, jv_I v] (LL n l) g (fun r2 L2 g2 => r2 = jv_I (-2) ∧ L2 = LL n l ∧ IV s l (t + 1) g2) := fun hv => by
    apply sg_Y_rule_0 (A := A)
    exact ⟨trivial, fun _ => ⟨rfl, rfl, h0, A, B, S, tr, fl, rb, PW_t hP ht, IC_t hC, hM⟩, fun h' => absurd (jp0.mpr hv) h'⟩
  refine ⟨fun h1 => ⟨-2, l, rfl, rfl, h0, bad (by omega)⟩, fun h1 => ⟨fun h2 => ?_, fun h2 => ⟨-2, l, rfl, rfl, h0, bad (by omega)⟩⟩⟩
  obtain ⟨r, rfl⟩ := nat_of (c := v) (by omega)
  refine tr_Wy_ruleBy c1 (by omega) c2.2.1 (by omega) (fun g1 a1 a2 a3 => ?_)
  apply sg_X_rule_28 (A := A)
  have k1 : kC g g1 := fun p i hp => a3 p i (by omega)
  refine ⟨_, l, rfl, rfl, fun i => by rw [a3 _ _ (by omega)]; exact h0 i, ?_⟩
  have hM1 := IM_fr hM k1
  obtain ⟨m1, m2, m3, m4, m5⟩ := hM1
  obtain ⟨n1, n2, n3, n4, n5, n6⟩ := id m1
  apply sg_Y_rule_0 (A := A)
  refine ⟨trivial, fun h' => absurd (show (0 : Int) ≤ r ∧ (r : Int) ≤ 2 by omega) (jp0.mp h'), fun _ => ⟨by rw [n4, c2.1], rfl, ?_⟩⟩
  have c5 := hC.2.2.2.2.1
  refine IV_mk (g1 := g1) (A := wr A r) (B := B) (S := S) (tr := tr) (fl := fl) (rb := rb) (fun i => by rw [a3 _ _ (by omega)]; exact h0 i) (PW_t hP ht) (IC_w hC (fun p i hp => a3 p i (by omega)) (wr_CN (CN_fr c1 (fun p i a b => a3 p i (by omega))) (by omega)) a1 a2 (fun h => h)) (fun p i hp => up_ne (by omega)) ?_
  refine ⟨⟨wr_wf n1 (by omega), by rw [up_ne (by omega)]; exact n2, by rw [up_ne (by omega)]; exact n3, up_eq rfl rfl, fun c hc => ?_, fun x y hx hy => ?_⟩, TMr_fr m2 (fun p i hp => up_ne (by omega)), ShM_fr (fun p i hp => up_ne (by omega)) m3, by rw [up_ne (by omega)]; exact m4, by rw [up_ne (by omega)]; exact m5⟩
  · rw [up_ne (by omega), up_ne (by omega), up_ne (by omega), up_ne (by omega)]
    exact n5 c hc
  · rw [up_ne (by omega)]
    exact n6 x y hx hy
set_option maxRecDepth 100000 in
theorem sg_Wy_isBarred_0 {A : jA} {n l : Nat} {g : jv_S} {Q : jv_V → jv_L → jv_S → Prop} {v1 v2 : Int} (h :
   (0 ≤ v1 ∧ v1 < 10) ∧
    ((0 ≤ (g 41 v1) ∧ (g 41 v1) < 2147483648 ∧ 0 ≤ v2 ∧ v2 < 31)) ∧
    ((hb (g 41 v1) v2) = 0 ∨ (hb (g 41 v1) v2) = 1) ∧ Q (jv_I (hb (g 41 v1) v2)) (LL n l) g) :
  jv_At jv_T jv_ml kWy_isBarred 0 [jv_P 40, jv_I v1, jv_I v2] [] (LL n l) g Q :=
  jv_of_wp (gok9 (A := A)) (md := []) (stop := []) (tab := jt_Wy_isBarred) rfl 400 _ _ _ _ _ h
set_option maxRecDepth 100000 in
theorem sg_X_bar_0 {A : jA} {n l : Nat} {g : jv_S} {Q : jv_V → jv_L → jv_S → Prop} {v1 v2 v3 : Int} (h :
   ((14 = 14) ∧ (LLx (LL n l)) ∧ (True)) ∧
    ((jb_p (0 ≤ v1 ∧ v1 < g 14 1)) = 0 →
     Q (jv_I (-1 : Int)) (LL n l) g) ∧
    (¬ (jb_p (0 ≤ v1 ∧ v1 < g 14 1)) = 0 →
     ((14 = 14) ∧ (LLx (LL n l)) ∧ (True)) ∧
      ((jb_p (0 ≤ v2 ∧ v2 < g 14 1)) = 0 →
       Q (jv_I (-1 : Int)) (LL n l) g) ∧
      (¬ (jb_p (0 ≤ v2 ∧ v2 < g 14 1)) = 0 →
       (v3 < 0 →
         Q (jv_I (-2 : Int)) (LL n l) g) ∧
        (¬ v3 < 0 →
         (v3 ≤ (1 : Int) →
           (0 ≤ v2 ∧ v2 < 10) ∧
            (0 ≤ v1 ∧ v1 < 10) ∧
            ((g 15 v2) = (g 16 v1) →
             jv_Ca jv_T jv_ml kWy_isBarred [jv_P 40, jv_I v1, jv_I v2] (LL n l) g (fun r L2 g2 => jv_At jv_T jv_ml kX_bar 69 [jv_P 1, jv_I v1, jv_I v2, jv_I v3, jv_U] (jv_pu r []) L2 g2 Q)) ∧
            (¬ (g 15 v2) = (g 16 v1) →
             Q (jv_I (-3 : Int)) (LL n l) g)) ∧
          (¬ v3 ≤ (1 : Int) →
           Q (jv_I (-2 : Int)) (LL n l) g))))) :
  jv_At jv_T jv_ml kX_bar 0 [jv_P 1, jv_I v1, jv_I v2, jv_I v3, jv_U] [] (LL n l) g Q :=
  jv_of_wp (gok9 (A := A)) (md := []) (stop := []) (tab := jt_X_bar) rfl 400 _ _ _ _ _ h
set_option maxRecDepth 100000 in
theorem sg_X_bar_69 {A : jA} {n l : Nat} {g : jv_S} {Q : jv_V → jv_L → jv_S → Prop} {v1 v2 v3 s0 : Int} {v4 : jv_V} (h :
   (s0 = 0 →
     (v3 = (1 : Int) →
       jv_Ca jv_T jv_ml kWy_setBarred [jv_P 40, jv_I v1, jv_I v2, jv_I (1 : Int)] (LL n l) g (fun r L2 g2 => jv_At jv_T jv_ml kX_bar 98 [jv_P 1, jv_I v1, jv_I v2, jv_I v3, jv_I (0 : Int)] (jv_pu r []) L2 g2 Q)) ∧
      (¬ v3 = (1 : Int) →
       jv_Ca jv_T jv_ml kWy_setBarred [jv_P 40, jv_I v1, jv_I v2, jv_I (0 : Int)] (LL n l) g (fun r L2 g2 => jv_At jv_T jv_ml kX_bar 98 [jv_P 1, jv_I v1, jv_I v2, jv_I v3, jv_I (0 : Int)] (jv_pu r []) L2 g2 Q))) ∧
    (¬ s0 = 0 →
     (v3 = (1 : Int) →
       jv_Ca jv_T jv_ml kWy_setBarred [jv_P 40, jv_I v1, jv_I v2, jv_I (1 : Int)] (LL n l) g (fun r L2 g2 => jv_At jv_T jv_ml kX_bar 98 [jv_P 1, jv_I v1, jv_I v2, jv_I v3, jv_I (1 : Int)] (jv_pu r []) L2 g2 Q)) ∧
      (¬ v3 = (1 : Int) →
       jv_Ca jv_T jv_ml kWy_setBarred [jv_P 40, jv_I v1, jv_I v2, jv_I (0 : Int)] (LL n l) g (fun r L2 g2 => jv_At jv_T jv_ml kX_bar 98 [jv_P 1, jv_I v1, jv_I v2, jv_I v3, jv_I (1 : Int)] (jv_pu r []) L2 g2 Q)))) :
  jv_At jv_T jv_ml kX_bar 69 [jv_P 1, jv_I v1, jv_I v2, jv_I v3, v4] [jv_I s0] (LL n l) g Q :=
  jv_of_wp (gok9 (A := A)) (md := []) (stop := []) (tab := jt_X_bar) rfl 400 _ _ _ _ _ h
set_option maxRecDepth 100000 in
theorem sg_X_bar_98 {A : jA} {n l : Nat} {g : jv_S} {Q : jv_V → jv_L → jv_S → Prop} {v1 v2 v3 v4 : Int} (h :
   Q (jv_I v4) (LL n l) g) :
  jv_At jv_T jv_ml kX_bar 98 [jv_P 1, jv_I v1, jv_I v2, jv_I v3, jv_I v4] [] (LL n l) g Q :=
  jv_of_wp (gok9 (A := A)) (md := []) (stop := []) (tab := jt_X_bar) rfl 400 _ _ _ _ _ h
set_option maxRecDepth 100000 in
theorem sg_Y_bar_0 {A : jA} {n l : Nat} {g : jv_S} {Q : jv_V → jv_L → jv_S → Prop} {v1 v2 v3 : Int} (h :
   ((136 = 136) ∧ (LLx (LL n l)) ∧ (True)) ∧
    ((jb_p (0 ≤ v1 ∧ v1 < g 136 6)) = 0 →
     Q (jv_I (-1 : Int)) (LL n l) g) ∧
    (¬ (jb_p (0 ≤ v1 ∧ v1 < g 136 6)) = 0 →
     ((136 = 136) ∧ (LLx (LL n l)) ∧ (True)) ∧
      ((jb_p (0 ≤ v2 ∧ v2 < g 136 6)) = 0 →
       Q (jv_I (-1 : Int)) (LL n l) g) ∧
      (¬ (jb_p (0 ≤ v2 ∧ v2 < g 136 6)) = 0 →
       ((True)) ∧
        ((jb_p ((0 : Int) ≤ v3 ∧ v3 ≤ (1 : Int))) = 0 →
         Q (jv_I (-2 : Int)) (LL n l) g) ∧
        (¬ (jb_p ((0 : Int) ≤ v3 ∧ v3 ≤ (1 : Int))) = 0 →
         (0 ≤ v2 ∧ v2 < 10) ∧
          (0 ≤ v1 ∧ v1 < 10) ∧
          ((g 140 v2) = (g 141 v1) →
           (0 ≤ v1 ∧ v1 < 10) ∧
            (v3 = (1 : Int) →
             (0 ≤ v1 ∧ v1 < 10) ∧
              (0 ≤ v1 ∧ v1 < 10) ∧ 
              Q (jv_I (jv_and (jv_shr (g 143 v1) v2) (1 : Int))) (LL n l) (jv_up g 143 v1 (jv_or (g 143 v1) (jv_shl (1 : Int) v2)))) ∧
            (¬ v3 = (1 : Int) →
             (0 ≤ v1 ∧ v1 < 10) ∧
              (0 ≤ v1 ∧ v1 < 10) ∧ 
              Q (jv_I (jv_and (jv_shr (g 143 v1) v2) (1 : Int))) (LL n l) (jv_up g 143 v1 (jv_and (g 143 v1) (jv_xor (jv_shl (1 : Int) v2) (-1 : Int)))))) ∧
          (¬ (g 140 v2) = (g 141 v1) →
           Q (jv_I (-3 : Int)) (LL n l) g))))) :
  jv_At jv_T jv_ml kY_bar 0 [jv_P 136, jv_I v1, jv_I v2, jv_I v3, jv_U] [] (LL n l) g Q :=
  jv_of_wp (gok9 (A := A)) (md := []) (stop := []) (tab := jt_Y_bar) rfl 400 _ _ _ _ _ h
theorem MN_wb {A : jA} {b : Nat → Nat} {g g' : jv_S} (h : MN A g) (hb : ∀ c, c < ln A → b c < 1024) (h143 : ∀ c : Nat, c < ln A → g' 143 c = b c) (hf : ∀ (p : Nat) (i : Int), (p = 136 ∨ (140 ≤ p ∧ p ≤ 142) ∨ p = 144) → g' p i = g p i) : MN (wb A b) g' := by
  obtain ⟨n1, n2, n3, n4, n5, n6⟩ := h
  refine ⟨wb_wf n1 hb, by rw [hf _ _ (by omega)]; exact n2, by rw [hf _ _ (by omega)]; exact n3, by rw [hf _ _ (by omega)]; exact n4, fun c hc => ?_, fun x y hx hy => by rw [hf _ _ (by omega)]; exact n6 x y hx hy⟩
  rw [hf 140 _ (by omega), hf 141 _ (by omega), hf 142 _ (by omega)]
  exact ⟨(n5 c hc).1, (n5 c hc).2.1, (n5 c hc).2.2.1, h143 c hc⟩
theorem st_bar {s : Int → Int} {n l t : Nat} {g : jv_S} {c d v : Int} (h : IV s l t g) (ht : t < 64) : CI s n t kX_bar kY_bar [jv_I c, jv_I d, jv_I v] l g := by
  obtain ⟨h0, A, B, S, tr, fl, rb, hP, hC, hM⟩ := h
  obtain ⟨c1, c2, c3, -⟩ := id hC
  have f2 := c1.2.2.1
  have w2 := c1.1.2.1
  obtain ⟨m1, m2, m3, m4, m5⟩ := id hM
  have f6 := m1.2.2.1
  have same : IV s l (t + 1) g := ⟨h0, A, B, S, tr, fl, rb, PW_t hP ht, IC_t hC, hM⟩
  by_cases hc : 0 ≤ c ∧ c < ln A
  case neg =>
    apply sg_X_bar_0 (A := A)
    rw [f2]
    refine ⟨⟨rfl, LLx_ok, trivial⟩, fun _ => ⟨-1, l, rfl, rfl, h0, ?_⟩, fun h' => absurd (jp0.mpr hc) h'⟩
    apply sg_Y_bar_0 (A := A)
    rw [f6]
    exact ⟨⟨rfl, LLx_ok, trivial⟩, fun _ => ⟨rfl, rfl, same⟩, fun h' => absurd (jp0.mpr hc) h'⟩
  by_cases hd : 0 ≤ d ∧ d < ln A
  case neg =>
    apply sg_X_bar_0 (A := A)
    rw [f2]
    refine ⟨⟨rfl, LLx_ok, trivial⟩, fun h' => absurd hc (jp0.mp h'), fun _ => ⟨⟨rfl, LLx_ok, trivial⟩, fun _ => ⟨-1, l, rfl, rfl, h0, ?_⟩, fun h' => absurd (jp0.mpr hd) h'⟩⟩
    apply sg_Y_bar_0 (A := A)
    rw [f6]
    exact ⟨⟨rfl, LLx_ok, trivial⟩, fun h' => absurd hc (jp0.mp h'), fun _ => ⟨⟨rfl, LLx_ok, trivial⟩, fun _ => ⟨rfl, rfl, same⟩, fun h' => absurd (jp0.mpr hd) h'⟩⟩
  obtain ⟨a, rfl⟩ := nat_of hc.1
  obtain ⟨b, rfl⟩ := nat_of hd.1
  have ha : a < ln A := by omega
  have hb : b < ln A := by omega
  apply sg_X_bar_0 (A := A)
  rw [f2, (c1.2.2.2.1 b hb).1, (c1.2.2.2.1 a ha).2.1]
  refine ⟨⟨rfl, LLx_ok, trivial⟩, fun h' => absurd hc (jp0.mp h'), fun _ => ⟨⟨rfl, LLx_ok, trivial⟩, fun h' => absurd hd (jp0.mp h'), fun _ => ?_⟩⟩
  have bad : ¬ (0 ≤ v ∧ v ≤ 1) → jv_Ca jv_T jv_ml kY_bar [jv_P 136, jv_I a, jv_I b, jv_I v] (LL n l) g (fun r2 L2 g2 => r2 = jv_I (-2) ∧ L2 = LL n l ∧ IV s l (t + 1) g2) := fun hv => by
    apply sg_Y_bar_0 (A := A)
    rw [f6]
    exact ⟨⟨rfl, LLx_ok, trivial⟩, fun h' => absurd hc (jp0.mp h'), fun _ => ⟨⟨rfl, LLx_ok, trivial⟩, fun h' => absurd hd (jp0.mp h'), fun _ => ⟨trivial, fun _ => ⟨rfl, rfl, same⟩, fun h' => absurd (jp0.mpr hv) h'⟩⟩⟩
  refine ⟨fun h1 => ⟨-2, l, rfl, rfl, h0, bad (by omega)⟩, fun h1 => ⟨fun h2 => ⟨⟨by omega, by omega⟩, ⟨by omega, by omega⟩, fun h3 => ?_, fun h3 => ⟨-3, l, rfl, rfl, h0, ?_⟩⟩, fun h2 => ⟨-2, l, rfl, rfl, h0, bad (by omega)⟩⟩⟩
  case refine_2 =>
    apply sg_Y_bar_0 (A := A)
    rw [f6, (m1.2.2.2.2.1 b hb).1, (m1.2.2.2.2.1 a ha).2.1]
    exact ⟨⟨rfl, LLx_ok, trivial⟩, fun h' => absurd hc (jp0.mp h'), fun _ => ⟨⟨rfl, LLx_ok, trivial⟩, fun h' => absurd hd (jp0.mp h'), fun _ => ⟨trivial, fun h' => absurd (show 0 ≤ v ∧ v ≤ 1 by omega) (jp0.mp h'), fun _ => ⟨⟨by omega, by omega⟩, ⟨by omega, by omega⟩, fun h' => absurd h' h3, fun _ => ⟨rfl, rfl, same⟩⟩⟩⟩⟩
  have hbl := (c1.1.2.2.2.1 a ha).2.2.2.2.2
  have f41 := c2.2.1 a ha
  apply sg_Wy_isBarred_0 (A := A)
  rw [show g 41 (a : Int) = (ba A a : Int) from f41, hb_nat]
  refine ⟨⟨by omega, by omega⟩, ⟨by omega, by omega, by omega, by omega⟩, jb_b01 _, ?_⟩
  have done : ∀ (q : Nat) (w : Int), q < 1024 → ((w = 0 ∧ q = bd (ba A a) (2 ^ b) ∧ ¬ v = 1) ∨ (w = 1 ∧ q = ba A a ||| 2 ^ b ∧ v = 1)) → jv_Ca jv_T jv_ml kWy_setBarred [jv_P 40, jv_I a, jv_I b, jv_I w] (LL n l) g (fun r L2 g2 => jv_At jv_T jv_ml kX_bar 98 [jv_P 1, jv_I a, jv_I b, jv_I v, jv_I (jb_b ((ba A a).testBit b))] (jv_pu r []) L2 g2 (fun r L1 g1 => ∃ (v' : Int) (l1 : Nat), r = jv_I v' ∧ L1 = LL n l1 ∧ (∀ i, g1 0 i = s i) ∧ jv_Ca jv_T jv_ml kY_bar (jv_P 136 :: [jv_I a, jv_I b, jv_I v]) (LL n l1) g1 (fun r2 L2 g2 => r2 = jv_I v' ∧ L2 = LL n l1 ∧ IV s l1 (t + 1) g2))) := by
    intro q w hq hqw
    have hbs : ∀ i, i < ln A → sb1 (ba A) a q i < 1024 := by
      intro i hi
      unfold sb1
      split
      · exact hq
      · exact (c1.1.2.2.2.1 i hi).2.2.2.2.2
    refine tr_Wy_setBarred c1 c2 ha (by omega) hq (by rcases hqw with h | h; exact Or.inl ⟨h.1, h.2.1⟩; exact Or.inr ⟨h.1, h.2.1⟩) (by omega) (fun g1 a1 a2 a3 => ?_)
    apply sg_X_bar_98 (A := A)
    have k1 : kC g g1 := fun p i hp => a3 p i (by omega)
    refine ⟨_, l, rfl, rfl, fun i => by rw [a3 _ _ (by omega)]; exact h0 i, ?_⟩
    have hM1 := IM_fr hM k1
    obtain ⟨m1, m2, m3, m4, m5⟩ := hM1
    have e143 := (m1.2.2.2.2.1 a ha).2.2.2
    have fin : ∀ x : Int, x = (q : Int) → IV s l (t + 1) (jv_up g1 143 a x) := by
      intro x hx
      refine IV_mk (g1 := g1) (A := wb A (sb1 (ba A) a q)) (B := B) (S := S) (tr := tr) (fl := fl) (rb := rb) (fun i => by rw [a3 _ _ (by omega)]; exact h0 i) (PW_t hP ht) (IC_w hC (fun p i hp => a3 p i (by omega)) (wb_CN (CN_fr c1 (fun p i a b => a3 p i (by omega))) hbs) a1 a2 (fun h => h)) (fun p i hp => up_ne (by omega)) ?_
      refine ⟨MN_wb m1 hbs (fun i hi => ?_) (fun p i hp => up_ne (by omega)), TMr_fr m2 (fun p i hp => up_ne (by omega)), ShM_fr (fun p i hp => up_ne (by omega)) m3, by rw [up_ne (by omega)]; exact m4, by rw [up_ne (by omega)]; exact m5⟩
      unfold sb1
      by_cases hia : i = a
      · rw [if_pos hia, hia, up_eq rfl rfl]
        exact hx
      · rw [if_neg hia, up_ne (by omega)]
        exact (m1.2.2.2.2.1 i hi).2.2.2
    apply sg_Y_bar_0 (A := A)
    rw [m1.2.2.1, (m1.2.2.2.2.1 b hb).1, (m1.2.2.2.2.1 a ha).2.1, e143]
    refine ⟨⟨rfl, LLx_ok, trivial⟩, fun h' => absurd hc (jp0.mp h'), fun _ => ⟨⟨rfl, LLx_ok, trivial⟩, fun h' => absurd hd (jp0.mp h'), fun _ => ⟨trivial, fun h' => absurd (show 0 ≤ v ∧ v ≤ 1 by omega) (jp0.mp h'), fun _ => ⟨⟨by omega, by omega⟩, ⟨by omega, by omega⟩, fun _ => ⟨⟨by omega, by omega⟩, fun h4 => ⟨⟨by omega, by omega⟩, ⟨by omega, by omega⟩, ?_⟩, fun h4 => ⟨⟨by omega, by omega⟩, ⟨by omega, by omega⟩, ?_⟩⟩, fun h' => absurd h3 h'⟩⟩⟩⟩
    · rw [jb_bit (by omega) (by omega)]
      refine ⟨rfl, rfl, fin _ ?_⟩
      rcases hqw with h | h
      · exact absurd h4 h.2.2
      · rw [jb_shl1 (by omega), jb_or (by omega) (Nat.lt_of_lt_of_le (Nat.pow_lt_pow_right (by omega) (show b < 10 by omega)) (by decide)), h.2.1]
    · rw [jb_bit (by omega) (by omega)]
      refine ⟨rfl, rfl, fin _ ?_⟩
      rcases hqw with h | h
      · rw [jb_clr (m := 10) hbl (by omega) (by omega), h.2.1]
      · exact absurd h.2.2 h4
  have l1 : bd (ba A a) (2 ^ b) < 1024 := bd_lt (m := 10) hbl
  have l2 : ba A a ||| 2 ^ b < 1024 := Nat.or_lt_two_pow (n := 10) hbl (Nat.pow_lt_pow_right (by omega) (by omega))
  apply sg_X_bar_69 (A := A)
  have d0 := fun hv => done (bd (ba A a) (2 ^ b)) 0 l1 (Or.inl ⟨rfl, rfl, hv⟩)
  have d1 := fun hv => done (ba A a ||| 2 ^ b) 1 l2 (Or.inr ⟨rfl, rfl, hv⟩)
  cases hx : (ba A a).testBit b with
  | false =>
    rw [hx] at d0 d1
    exact ⟨fun _ => ⟨fun h4 => d1 h4, fun h4 => d0 h4⟩, fun h4 => absurd rfl h4⟩
  | true =>
    rw [hx] at d0 d1
    exact ⟨fun h4 => absurd h4 (by decide), fun _ => ⟨fun h4 => d1 h4, fun h4 => d0 h4⟩⟩
