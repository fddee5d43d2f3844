/-! ===== the model's bears ===== -/
theorem sgm_B {f : Nat → Nat} {b : Nat} : ∀ m, (∀ i, i < m → f i ≤ b) → sgm f m ≤ m * b := by
  intro m h
  have := sgm_le (f := f) (h := fun _ => b) m h
  rw [sgm_const] at this
  exact this
theorem sgm_pre {f : Nat → Nat} {c : Nat} : ∀ m, c ≤ m → sgm f c ≤ sgm f m := by
  intro m
  induction m with
  | zero => intro h; rw [show c = 0 by omega]; exact Nat.le_refl _
  | succ m ih =>
    intro h
    by_cases hc : c = m + 1
    · rw [hc]; exact Nat.le_refl _
    · exact Nat.le_trans (ih (by omega)) (Nat.le_add_right _ _)
theorem RP_div {N V s : Nat} (hs : 0 < s) (h1 : s ∣ V) (h2 : s ∣ N) : RP N (rdu N V) (rdd N V * s) (V / s) := by
  obtain ⟨e, he⟩ := Nat.dvd_gcd h1 h2
  have a1 : N = rdd N V * Nat.gcd V N := (Nat.div_mul_cancel (Nat.gcd_dvd_right V N)).symm
  have a2 : V = rdu N V * Nat.gcd V N := (Nat.div_mul_cancel (Nat.gcd_dvd_left V N)).symm
  refine ⟨e, ?_, ?_⟩
  · rw [Nat.mul_assoc, ← he]; exact a1
  · have : V = (rdu N V * e) * s := by rw [Nat.mul_assoc, Nat.mul_comm e s, ← he]; exact a2
    exact Nat.div_eq_of_eq_mul_left hs this
theorem rdu_z {N V : Nat} (h : rdu N V = 0) : V = 0 := by
  obtain ⟨k, _, h2⟩ := rd_RP N V
  rw [h, Nat.zero_mul] at h2
  exact h2
def Tf (A : jA) (x y d : Nat) : Nat := sgm (fun k => Wf A x y k d) 10
/-- what comes into d of all x, y -/
def Af (A : jA) (d : Nat) : Nat := sgm (fun x => sgm (fun y => Tf A x y d) (nd A)) (nd A)
def Yf (A : jA) (x y d : Nat) : Nat := sgm (fun x => sgm (fun y => Tf A x y d) (nd A)) x + sgm (fun y => Tf A x y d) y
theorem Tf_le {A : jA} {x y d : Nat} (hd : d < ln A) : Tf A x y d ≤ 10 * NN A := sgm_B _ (fun _ _ => Wf_le hd)
theorem Yf_le {A : jA} {x y d : Nat} (hw : wf A) (hx : x ≤ nd A) (hy : y ≤ nd A) (hd : d < ln A) : Yf A x y d ≤ 420 * NN A := by
  have w1 := hw.1
  have h1 : sgm (fun x => sgm (fun y => Tf A x y d) (nd A)) x ≤ x * (nd A * (10 * NN A)) := sgm_B _ (fun _ _ => sgm_B _ (fun _ _ => Tf_le hd))
  have h2 : sgm (fun y => Tf A x y d) y ≤ y * (10 * NN A) := sgm_B _ (fun _ _ => Tf_le hd)
  have h3 : x * (nd A * (10 * NN A)) ≤ 6 * (6 * (10 * NN A)) := Nat.mul_le_mul (by omega) (Nat.mul_le_mul_right _ w1)
  have h4 : y * (10 * NN A) ≤ 6 * (10 * NN A) := Nat.mul_le_mul_right _ (by omega)
  unfold Yf
  omega
set_option maxRecDepth 100000 in
theorem sg_Y_layBears_0 {A : jA} {n l : Nat} {g : jv_S} {Q : jv_V → jv_L → jv_S → Prop} (h :
   jv_Ca jv_T jv_ml kY_clear [jv_P 136, jv_P 171, jv_P 172] (LL n l) g (fun r L2 g2 => jv_At jv_T jv_ml kY_layBears 12 [jv_P 136, jv_U, jv_U, jv_U, jv_U] (jv_pu r []) L2 g2 Q)) :
  jv_At jv_T jv_ml kY_layBears 0 [jv_P 136, jv_U, jv_U, jv_U, jv_U] [] (LL n l) g Q :=
  jv_of_wp (gok9 (A := A)) (md := []) (stop := [14, 24, 69, 82]) (tab := jt_Y_layBears) rfl 400 _ _ _ _ _ h
set_option maxRecDepth 100000 in
theorem sg_Y_layBears_12 {A : jA} {n l : Nat} {g : jv_S} {Q : jv_V → jv_L → jv_S → Prop} {v1 v2 v3 v4 : jv_V} (h :
   jv_At jv_T jv_ml kY_layBears 14 [jv_P 136, jv_I (0 : Int), v2, v3, v4] [] (LL n l) g Q) :
  jv_At jv_T jv_ml kY_layBears 12 [jv_P 136, v1, v2, v3, v4] [] (LL n l) g Q :=
  jv_of_wp (gok9 (A := A)) (md := []) (stop := [14, 24, 69, 82]) (tab := jt_Y_layBears) rfl 400 _ _ _ _ _ h
set_option maxRecDepth 100000 in
theorem sg_Y_layBears_14 {A : jA} {n l : Nat} {g : jv_S} {Q : jv_V → jv_L → jv_S → Prop} {v1 : Int} {v2 v3 v4 : jv_V} (h :
   ((g 136 5) ≤ v1 →
     Q jv_U (LL n l) g) ∧
    (¬ (g 136 5) ≤ v1 →
     jv_At jv_T jv_ml kY_layBears 24 [jv_P 136, jv_I v1, jv_I (0 : Int), v3, v4] [] (LL n l) g Q)) :
  jv_At jv_T jv_ml kY_layBears 14 [jv_P 136, jv_I v1, v2, v3, v4] [] (LL n l) g Q :=
  jv_of_wp (gok9 (A := A)) (md := []) (stop := [14, 24, 69, 82]) (tab := jt_Y_layBears) rfl 400 _ _ _ _ _ h
set_option maxRecDepth 100000 in
theorem sg_Y_layBears_24 {A : jA} {n l : Nat} {g : jv_S} {Q : jv_V → jv_L → jv_S → Prop} {v1 v2 : Int} {v3 v4 : jv_V} (h :
   ((g 136 5) ≤ v2 →
     jv_r32 (v1 + (1 : Int)) ∧
      jv_At jv_T jv_ml kY_layBears 14 [jv_P 136, jv_I (v1 + (1 : Int)), jv_I v2, v3, v4] [] (LL n l) g Q) ∧
    (¬ (g 136 5) ≤ v2 →
     (v1 = v2 →
       jv_r32 (v2 + (1 : Int)) ∧
        jv_At jv_T jv_ml kY_layBears 24 [jv_P 136, jv_I v1, jv_I (v2 + (1 : Int)), v3, v4] [] (LL n l) g Q) ∧
      (¬ v1 = v2 →
       jv_Ca jv_T jv_ml kY_clear [jv_P 136, jv_P 169, jv_P 170] (LL n l) g (fun r L2 g2 => jv_At jv_T jv_ml kY_layBears 52 [jv_P 136, jv_I v1, jv_I v2, v3, v4] (jv_pu r []) L2 g2 Q)))) :
  jv_At jv_T jv_ml kY_layBears 24 [jv_P 136, jv_I v1, jv_I v2, v3, v4] [] (LL n l) g Q :=
  jv_of_wp (gok9 (A := A)) (md := []) (stop := [14, 24, 69, 82]) (tab := jt_Y_layBears) rfl 400 _ _ _ _ _ h
set_option maxRecDepth 100000 in
theorem sg_Y_layBears_52 {A : jA} {n l : Nat} {g : jv_S} {Q : jv_V → jv_L → jv_S → Prop} {v1 v2 : Int} {v3 v4 : jv_V} (h :
   jv_r32 ((10 : Int) + v1) ∧
    ((136 = 136) ∧ (LLx (LL n l)) ∧ (MN A g ∧ (0 ≤ v2 ∧ v2 < nd A) ∧ 0 ≤ ((10 : Int) + v1) ∧ (((10 : Int) + v1) < ln A ∨ (10 ≤ ((10 : Int) + v1) ∧ ((10 : Int) + v1) < 10 + nd A)))) ∧
    jv_Ca jv_T jv_ml kY_part [jv_P 136, jv_I (tkI A ((10 : Int) + v1) v2), jv_J (1 : Int), jv_J (1 : Int)] (LL n l) g (fun r L2 g2 => jv_At jv_T jv_ml kY_layBears 67 [jv_P 136, jv_I v1, jv_I v2, v3, v4] (jv_pu r []) L2 g2 Q)) :
  jv_At jv_T jv_ml kY_layBears 52 [jv_P 136, jv_I v1, jv_I v2, v3, v4] [] (LL n l) g Q :=
  jv_of_wp (gok9 (A := A)) (md := []) (stop := [14, 24, 69, 82]) (tab := jt_Y_layBears) rfl 400 _ _ _ _ _ h
set_option maxRecDepth 100000 in
theorem sg_Y_layBears_67 {A : jA} {n l : Nat} {g : jv_S} {Q : jv_V → jv_L → jv_S → Prop} {v1 v2 : Int} {v3 v4 : jv_V} (h :
   jv_At jv_T jv_ml kY_layBears 69 [jv_P 136, jv_I v1, jv_I v2, jv_I (0 : Int), v4] [] (LL n l) g Q) :
  jv_At jv_T jv_ml kY_layBears 67 [jv_P 136, jv_I v1, jv_I v2, v3, v4] [] (LL n l) g Q :=
  jv_of_wp (gok9 (A := A)) (md := []) (stop := [14, 24, 69, 82]) (tab := jt_Y_layBears) rfl 400 _ _ _ _ _ h
set_option maxRecDepth 100000 in
theorem sg_Y_layBears_69 {A : jA} {n l : Nat} {g : jv_S} {Q : jv_V → jv_L → jv_S → Prop} {v1 v2 v3 : Int} {v4 : jv_V} (h :
   ((10 : Int) ≤ v3 →
     jv_r32 (v2 + (1 : Int)) ∧
      jv_At jv_T jv_ml kY_layBears 24 [jv_P 136, jv_I v1, jv_I (v2 + (1 : Int)), jv_I v3, v4] [] (LL n l) g Q) ∧
    (¬ (10 : Int) ≤ v3 →
     jv_Ca jv_T jv_ml kY_takeNext [jv_P 136] (LL n l) g (fun r L2 g2 => jv_At jv_T jv_ml kY_layBears 79 [jv_P 136, jv_I v1, jv_I v2, jv_I v3, v4] (jv_pu r []) L2 g2 Q))) :
  jv_At jv_T jv_ml kY_layBears 69 [jv_P 136, jv_I v1, jv_I v2, jv_I v3, v4] [] (LL n l) g Q :=
  jv_of_wp (gok9 (A := A)) (md := []) (stop := [14, 24, 69, 82]) (tab := jt_Y_layBears) rfl 400 _ _ _ _ _ h
set_option maxRecDepth 100000 in
theorem sg_Y_layBears_79 {A : jA} {n l : Nat} {g : jv_S} {Q : jv_V → jv_L → jv_S → Prop} {v1 v2 v3 : Int} {v4 : jv_V} (h :
   jv_At jv_T jv_ml kY_layBears 82 [jv_P 136, jv_I v1, jv_I v2, jv_I v3, jv_I (0 : Int)] [] (LL n l) g Q) :
  jv_At jv_T jv_ml kY_layBears 79 [jv_P 136, jv_I v1, jv_I v2, jv_I v3, v4] [] (LL n l) g Q :=
  jv_of_wp (gok9 (A := A)) (md := []) (stop := [14, 24, 69, 82]) (tab := jt_Y_layBears) rfl 400 _ _ _ _ _ h
set_option maxRecDepth 100000 in
theorem sg_Y_layBears_82 {A : jA} {n l : Nat} {g : jv_S} {Q : jv_V → jv_L → jv_S → Prop} {v1 v2 v3 v4 : Int} (h :
   ((g 136 6) ≤ v4 →
     jv_r32 (v3 + (1 : Int)) ∧
      jv_At jv_T jv_ml kY_layBears 69 [jv_P 136, jv_I v1, jv_I v2, jv_I (v3 + (1 : Int)), jv_I v4] [] (LL n l) g Q) ∧
    (¬ (g 136 6) ≤ v4 →
     (0 ≤ v4 ∧ v4 < 11) ∧
      ((jv_cmp (g 167 v4) (0 : Int)) ≤ 0 →
       jv_r32 (v4 + (1 : Int)) ∧
        jv_At jv_T jv_ml kY_layBears 82 [jv_P 136, jv_I v1, jv_I v2, jv_I v3, jv_I (v4 + (1 : Int))] [] (LL n l) g Q) ∧
      (¬ (jv_cmp (g 167 v4) (0 : Int)) ≤ 0 →
       ((136 = 136) ∧ (LLx (LL n l)) ∧ (MN A g ∧ (0 ≤ v2 ∧ v2 < nd A) ∧ 0 ≤ v4 ∧ (v4 < ln A ∨ (10 ≤ v4 ∧ v4 < 10 + nd A)))) ∧
        (0 ≤ v4 ∧ v4 < 11) ∧
        (0 ≤ v4 ∧ v4 < 11) ∧
        jv_Ca jv_T jv_ml kY_part [jv_P 136, jv_I (tkI A v4 v2), jv_J (g 167 v4), jv_J (g 168 v4)] (LL n l) g (fun r L2 g2 => jv_At jv_T jv_ml kY_layBears 128 [jv_P 136, jv_I v1, jv_I v2, jv_I v3, jv_I v4] (jv_pu r []) L2 g2 Q)))) :
  jv_At jv_T jv_ml kY_layBears 82 [jv_P 136, jv_I v1, jv_I v2, jv_I v3, jv_I v4] [] (LL n l) g Q :=
  jv_of_wp (gok9 (A := A)) (md := []) (stop := [14, 24, 69, 82]) (tab := jt_Y_layBears) rfl 400 _ _ _ _ _ h
set_option maxRecDepth 100000 in
theorem sg_Y_layBears_128 {A : jA} {n l : Nat} {g : jv_S} {Q : jv_V → jv_L → jv_S → Prop} {v1 v2 v3 v4 : Int} (h :
   jv_r32 (v4 + (1 : Int)) ∧
    jv_At jv_T jv_ml kY_layBears 82 [jv_P 136, jv_I v1, jv_I v2, jv_I v3, jv_I (v4 + (1 : Int))] [] (LL n l) g Q) :
  jv_At jv_T jv_ml kY_layBears 128 [jv_P 136, jv_I v1, jv_I v2, jv_I v3, jv_I v4] [] (LL n l) g Q :=
  jv_of_wp (gok9 (A := A)) (md := []) (stop := [14, 24, 69, 82]) (tab := jt_Y_layBears) rfl 400 _ _ _ _ _ h
theorem tr_Y_layBears {A : jA} {n l : Nat} {g : jv_S} {Q : jv_V → jv_L → jv_S → Prop} (hM : MN A g) (hr : ∀ y, y < nd A → NR A y) (hQ : ∀ g' : jv_S, SR 171 172 (NN A) (Af A) (ln A) g' → (∀ (p : Nat) (i : Int), ¬ (167 ≤ p ∧ p ≤ 172) → g' p i = g p i) → Q jv_U (LL n l) g') :
  jv_Ca jv_T jv_ml kY_layBears [jv_P 136] (LL n l) g Q := by
  have hw := hM.1
  have w1 := hw.1
  have w2 := hw.2.1
  have hN := NN_pos hw
  have bN := NN_le hw
  have f1 := hM.2.1
  have f2 := hM.2.2.1
  have MNf : ∀ g' : jv_S, (∀ (p : Nat) (i : Int), ¬ (167 ≤ p ∧ p ≤ 172) → g' p i = g p i) → MN A g' := fun g' h => MN_fr hM (fun p i a b => h _ _ (by omega)) (h _ _ (by omega)) (h _ _ (by omega)) (h _ _ (by omega))
  have xs : ∀ x, x ≤ nd A → ∀ (g' : jv_S) (v2 v3 v4 : jv_V), SR 171 172 (NN A) (Yf A x 0) (ln A) g' → (∀ (p : Nat) (i : Int), ¬ (167 ≤ p ∧ p ≤ 172) → g' p i = g p i) → jv_At jv_T jv_ml kY_layBears 14 [jv_P 136, jv_I x, v2, v3, v4] [] (LL n l) (g') Q := by
    apply loop_up
    intro x hx ihx g' v2 v3 v4 a1 a2
    have f1' : g' 136 5 = nd A := by rw [a2 _ _ (by omega)]; exact f1
    apply sg_Y_layBears_14 (A := A)
    refine ⟨fun h => hQ g' (SR_ext a1 (fun c _ => ?_)) a2, fun h => ?_⟩
    · rw [show x = nd A by omega]; rfl
    have hxl : x < nd A := by omega
    have ys : ∀ y, y ≤ nd A → ∀ (g' : jv_S) (v3 v4 : jv_V), SR 171 172 (NN A) (Yf A x y) (ln A) g' → (∀ (p : Nat) (i : Int), ¬ (167 ≤ p ∧ p ≤ 172) → g' p i = g p i) → jv_At jv_T jv_ml kY_layBears 24 [jv_P 136, jv_I x, jv_I y, v3, v4] [] (LL n l) (g') Q := by
      apply loop_up
      intro y hy ihy g' v3 v4 a1 a2
      have f1' : g' 136 5 = nd A := by rw [a2 _ _ (by omega)]; exact f1
      apply sg_Y_layBears_24 (A := A)
      refine ⟨fun h => ⟨⟨by omega, by omega⟩, ihx hxl g' _ _ _ (SR_ext a1 (fun c _ => ?_)) a2⟩, fun h => ⟨fun he => ⟨⟨by omega, by omega⟩, ihy (by omega) g' _ _ (SR_ext a1 (fun c _ => ?_)) a2⟩, fun he => ?_⟩⟩
      · rw [show y = nd A by omega]; rfl
      · have hxy : x = y := by omega
        subst hxy
        have : Tf A x x c = 0 := by
          unfold Tf
          rw [sgm_ext (h := fun _ => 0) 10 (fun k _ => Wf_self k c)]
          exact sgm_zero
        show _ = sgm _ x + (sgm (fun y => Tf A x y c) x + Tf A x x c)
        rw [this]
        rfl
      have hyl : y < nd A := by omega
      have hry := hr y hyl
      refine tr_Y_clear_169 (A := A) (N := NN A) (m := ln A) hN (by omega) (fun g2 b1 b2 => ?_)
      apply sg_Y_layBears_52 (A := A)
      have m2 : ∀ (p : Nat) (i : Int), ¬ (167 ≤ p ∧ p ≤ 172) → g2 p i = g p i := fun p i hp => by rw [b2 _ _ (by omega)]; exact a2 p i hp
      refine ⟨⟨by omega, by omega⟩, ⟨rfl, LLx_ok, MNf g2 m2, ⟨by omega, by omega⟩, by omega, Or.inr ⟨by omega, by omega⟩⟩, ?_⟩
      rw [tkI_x]
      have hdiv := Nat.div_le_self (NN A) (szw A (10 + x) y)
      refine tr_Y_part (u := 1) (d := 1) (V := NN A / szw A (10 + x) y) (MNf g2 m2) hN (by omega) (tk_ltl _ _) (fun ⟨c, hc⟩ => ⟨NN A / szw A (10 + x) y, ?_, (Nat.one_mul _).symm⟩) b1 (SR_fr a1 (fun i => b2 _ _ (by omega)) (fun i => b2 _ _ (by omega))) (fun c hc => by omega) (fun c hc => by have := Yf_le (x := x) (y := y) hw (by omega) (by omega) hc; omega) (fun g3 c1 c2 c3 => ?_)
      · show NN A = 1 * szw A (10 + x) y * _
        rw [Nat.one_mul]
        exact (Nat.mul_div_cancel' (NN_sz hw hry hxl hc)).symm
      apply sg_Y_layBears_67 (A := A)
      have ks : ∀ k, k ≤ 10 → ∀ (g' : jv_S) (v4 : jv_V), SR 169 170 (NN A) (Wf A x y k) (ln A) g' → SR 171 172 (NN A) (fun d => Yf A x y d + sgm (fun j => Wf A x y j d) (k + 1)) (ln A) g' → (∀ (p : Nat) (i : Int), ¬ (167 ≤ p ∧ p ≤ 172) → g' p i = g p i) → jv_At jv_T jv_ml kY_layBears 69 [jv_P 136, jv_I x, jv_I y, jv_I k, v4] [] (LL n l) (g') Q := by
        apply loop_up
        intro k hk ihk g' v4 d1 d2 d3
        apply sg_Y_layBears_69 (A := A)
        refine ⟨fun h => ⟨⟨by omega, by omega⟩, ihy hyl g' _ _ (SR_ext d2 (fun c _ => ?_)) d3⟩, fun h => ?_⟩
        · have hk10 : k = 10 := by omega
          subst hk10
          have h0 := Wf_end (d := c) hw hry hxl (Nat.le_refl 10)
          show Yf A x y c + (sgm (fun j => Wf A x y j c) 10 + Wf A x y 10 c) = sgm _ x + (sgm (fun y => Tf A x y c) y + Tf A x y c)
          rw [h0]
          unfold Yf Tf
          omega
        refine tr_Y_takeNext (MNf g' d3) hN d1 (fun g4 e1 e2 e3 => ?_)
        apply sg_Y_layBears_79 (A := A)
        have cs : ∀ c, c ≤ ln A → ∀ g' : jv_S, SR 167 168 (NN A) (Wf A x y k) (ln A) g' → SR 169 170 (NN A) (fun d => sgm (fun c => if (tk A c y).testBit d = true then Wf A x y k c / szw A c y else 0) c) (ln A) g' → SR 171 172 (NN A) (fun d => (Yf A x y d + sgm (fun j => Wf A x y j d) (k + 1)) + sgm (fun c => if (tk A c y).testBit d = true then Wf A x y k c / szw A c y else 0) c) (ln A) g' → (∀ (p : Nat) (i : Int), ¬ (167 ≤ p ∧ p ≤ 172) → g' p i = g p i) → jv_At jv_T jv_ml kY_layBears 82 [jv_P 136, jv_I x, jv_I y, jv_I k, jv_I c] [] (LL n l) (g') Q := by
          apply loop_up
          intro c hc ihc g' q1 q2 q3 q4
          have f2' : g' 136 6 = ln A := by rw [q4 _ _ (by omega)]; exact f2
          apply sg_Y_layBears_82 (A := A)
          refine ⟨fun h => ⟨⟨by omega, by omega⟩, ihk (by omega) g' _ (SR_ext q2 (fun d _ => ?_)) (SR_ext q3 (fun d _ => ?_)) q4⟩, fun h => ?_⟩
          · rw [show c = ln A by omega]; rfl
          · rw [show c = ln A by omega, Nat.add_assoc]; rfl
          have hcl : c < ln A := by omega
          obtain ⟨u1, u2⟩ := q1 c hcl
          rw [u1, u2]
          refine ⟨⟨by omega, by omega⟩, fun hz => ⟨⟨by omega, by omega⟩, ?_⟩, fun hz => ⟨⟨rfl, LLx_ok, MNf g' q4, ⟨by omega, by omega⟩, by omega, Or.inl (by omega)⟩, ⟨by omega, by omega⟩, ⟨by omega, by omega⟩, ?_⟩⟩
          · have h0 : Wf A x y k c = 0 := rdu_z (cmp_le.mp hz)
            have hzz : ∀ d, (if (tk A c y).testBit d = true then Wf A x y k c / szw A c y else 0) = 0 := fun d => by rw [h0, Nat.zero_div]; split <;> rfl
            refine ihc hcl g' q1 (SR_ext q2 (fun d _ => ?_)) (SR_ext q3 (fun d _ => ?_)) q4
            · show _ = sgm _ c + (if (tk A c y).testBit d = true then Wf A x y k c / szw A c y else 0)
              rw [hzz]
              rfl
            · show _ = _ + (sgm _ c + (if (tk A c y).testBit d = true then Wf A x y k c / szw A c y else 0))
              rw [hzz]
              rfl
          · have h0 : Wf A x y k c ≠ 0 := fun h0 => hz (cmp_le.mpr (by unfold rdu; rw [h0, Nat.zero_div]))
            obtain ⟨r, r1, _⟩ := Wf_wlk k c h0
            rw [tkI_c]
            have hV : Wf A x y k c / szw A c y ≤ NN A := Nat.le_trans (Nat.div_le_self _ _) (Wf_le hcl)
            have bd1 : ∀ d, d < ln A → sgm (fun c => if (tk A c y).testBit d = true then Wf A x y k c / szw A c y else 0) c ≤ NN A := fun d hd => Nat.le_trans (sgm_pre (ln A) (by omega)) (Wf_le (k := k + 1) hd)
            refine tr_Y_part (V := Wf A x y k c / szw A c y) (MNf g' q4) hN (by omega) (tk_ltl _ _) (fun ⟨d, hd⟩ => RP_div (szw_pos hd) (Wf_sz hw hry hxl hd) (NN_szl hw hry hxl r1 hd)) q2 q3 (fun d hd => by have := bd1 d hd; omega) (fun d hd => by
              have h1 := bd1 d hd
              have h2 := Yf_le (x := x) (y := y) hw (by omega) (by omega) hd
              have h3 : sgm (fun j => Wf A x y j d) (k + 1) ≤ (k + 1) * NN A := sgm_B _ (fun _ _ => Wf_le hd)
              have h4 : (k + 1) * NN A ≤ 11 * NN A := Nat.mul_le_mul_right _ (by omega)
              omega) (fun g5 t1 t2 t3 => ?_)
            apply sg_Y_layBears_128 (A := A)
            refine ⟨⟨by omega, by omega⟩, ihc hcl g5 (SR_fr q1 (fun i => t3 _ _ (by omega)) (fun i => t3 _ _ (by omega))) (SR_ext t1 (fun d _ => rfl)) (SR_ext t2 (fun d _ => Nat.add_assoc _ _ _)) (fun p i hp => by rw [t3 _ _ (by omega)]; exact q4 p i hp)⟩
        exact cs 0 (by omega) g4 e1 e2 (SR_ext (SR_fr d2 (fun i => e3 _ _ (by omega)) (fun i => e3 _ _ (by omega))) (fun d _ => rfl)) (fun p i hp => by rw [e3 _ _ (by omega)]; exact d3 p i hp)
      refine ks 0 (by omega) g3 _ (SR_ext c1 (fun d _ => ?_)) (SR_ext c2 (fun d _ => ?_)) (fun p i hp => by rw [c3 _ _ (by omega)]; exact m2 p i hp)
      · rw [Nat.zero_add]; rfl
      · show _ = Yf A x y d + (0 + Wf A x y 0 d)
        rw [Nat.zero_add]; rfl
    exact ys 0 (by omega) g' _ _ a1 a2
  apply sg_Y_layBears_0 (A := A)
  refine tr_Y_clear_171 (A := A) (N := NN A) (m := ln A) hN (by omega) (fun g1 b1 b2 => ?_)
  apply sg_Y_layBears_12 (A := A)
  exact xs 0 (by omega) g1 _ _ _ (SR_ext b1 (fun c _ => rfl)) (fun p i hp => b2 _ _ (by omega))
