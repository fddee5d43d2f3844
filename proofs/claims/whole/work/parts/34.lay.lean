/-! ===== the class's ways are laid ===== -/
theorem CN_fr {A : jA} {g g' : jv_S} (h : CN A g) (hf : ∀ (p : Nat) (i : Int), 14 ≤ p → p ≤ 39 → g' p i = g p i) : CN A g' := by
  obtain ⟨hw, c1, c2, c3, c4, c5⟩ := h
  refine ⟨hw, ?_, ?_, fun c hc => ?_, fun x y hx hy => ?_, fun y hy => ?_⟩
  · rw [hf 14 _ (by decide) (by decide)]; exact c1
  · rw [hf 14 _ (by decide) (by decide)]; exact c2
  · rw [hf 15 _ (by decide) (by decide), hf 16 _ (by decide) (by decide), hf 17 _ (by decide) (by decide)]; exact c3 c hc
  · rw [hf 18 _ (by decide) (by decide), hf 25 _ (by decide) (by decide), hf 32 _ (by decide) (by decide)]; exact c4 x y hx hy
  · rw [hf 39 _ (by decide) (by decide)]; exact c5 y hy
/-- the ways at b hold A -/
def CW (b : Nat) (A : jA) (g : jv_S) : Prop := g b 4 = ru A ∧ (∀ c : Nat, c < ln A → g (b + 1) c = ba A c) ∧ (∀ x y : Nat, x < nd A → y < nd A → g (b + 2) ((x : Int) * 6 + y) = tk A (10 + x) y) ∧ ∀ c y : Nat, c < ln A → y < nd A → g (b + 9) ((c : Int) * 6 + y) = tk A c y
theorem CW_fr {b : Nat} {A : jA} {g g' : jv_S} (h : CW b A g) (h4 : g' b 4 = g b 4) (h1 : ∀ i, g' (b + 1) i = g (b + 1) i) (h2 : ∀ i, g' (b + 2) i = g (b + 2) i) (h9 : ∀ i, g' (b + 9) i = g (b + 9) i) : CW b A g' := by
  obtain ⟨a1, a2, a3, a4⟩ := h
  refine ⟨by rw [h4]; exact a1, fun c hc => by rw [h1]; exact a2 c hc, fun x y hx hy => by rw [h2]; exact a3 x y hx hy, fun c y hc hy => by rw [h9]; exact a4 c y hc hy⟩
theorem tx_c {A : jA} {c : Nat} (h : c < 10) : tx A c = tt A c := by unfold tx; rw [if_pos h]
theorem tk_on {A : jA} (hw : wf A) {c y : Nat} (hc : c < ln A) : rl A (tt A c) y (ba A c) = tk A c y := by
  have h10 : c < 10 := Nat.lt_of_lt_of_le hc hw.2.1
  rw [tk_rl hw.2.2.1, tx_c h10, if_pos h10]
theorem tk_out {A : jA} (hw : wf A) {x y : Nat} : rl A x y 0 = tk A (10 + x) y := by
  rw [tk_rl hw.2.2.1, if_neg (by omega)]
  unfold tx
  rw [if_neg (by omega), Nat.add_sub_cancel_left]
theorem up_eq {g : jv_S} {p q : Nat} {i j v : Int} (h1 : q = p) (h2 : j = i) : jv_up g p i v q j = v := if_pos ⟨h1, h2⟩
theorem up_ne {g : jv_S} {p q : Nat} {i j v : Int} (h : ¬ (q = p ∧ j = i)) : jv_up g p i v q j = g q j := if_neg h
set_option maxRecDepth 100000 in
theorem sg_Wy_layLane_0 {A : jA} {n l : Nat} {g : jv_S} {Q : jv_V → jv_L → jv_S → Prop} {v1 : Int} (h :
   jv_At jv_T jv_ml kWy_layLane 2 [jv_P 40, jv_I v1, jv_I (0 : Int)] [] (LL n l) g Q) :
  jv_At jv_T jv_ml kWy_layLane 0 [jv_P 40, jv_I v1, jv_U] [] (LL n l) g Q :=
  jv_of_wp (gok5 (A := A)) (md := []) (stop := [2]) (tab := jt_Wy_layLane) rfl 400 _ _ _ _ _ h
set_option maxRecDepth 100000 in
theorem sg_Wy_layLane_2 {A : jA} {n l : Nat} {g : jv_S} {Q : jv_V → jv_L → jv_S → Prop} {v1 v2 : Int} (h :
   ((g 14 0) ≤ v2 →
     Q jv_U (LL n l) g) ∧
    (¬ (g 14 0) ≤ v2 →
     (0 ≤ v1 ∧ v1 < 10) ∧
      (0 ≤ v1 ∧ v1 < 10) ∧
      (0 ≤ v1 ∧ v1 < 10) ∧
      ((40 = 40 ∨ 40 = 104) ∧ (LLx (LL n l)) ∧ (CN A g ∧ g 40 4 = ru A ∧ (0 ≤ (g 16 v1) ∧ (g 16 v1) < nd A) ∧ (0 ≤ v2 ∧ v2 < nd A) ∧ 0 ≤ (g 41 v1) ∧ (g 41 v1) < 1024)) ∧
      (0 ≤ v2 ∧ v2 < 6) ∧ 
      jv_r32 (v2 + (1 : Int)) ∧
      jv_At jv_T jv_ml kWy_layLane 2 [jv_P 40, jv_I v1, jv_I (v2 + (1 : Int))] [] (LL n l) (jv_up g 49 (v1 * 6 + v2) (rlI A (g 16 v1) v2 (g 41 v1))) Q)) :
  jv_At jv_T jv_ml kWy_layLane 2 [jv_P 40, jv_I v1, jv_I v2] [] (LL n l) g Q :=
  jv_of_wp (gok5 (A := A)) (md := []) (stop := [2]) (tab := jt_Wy_layLane) rfl 400 _ _ _ _ _ h
theorem tr_Wy_layLane {A : jA} {n l : Nat} {g : jv_S} {Q : jv_V → jv_L → jv_S → Prop} {c : Nat} (hN : CN A g) (hr : g 40 4 = ru A) (hc : c < ln A) (hb : g 41 c = ba A c)
  (hQ : ∀ g' : jv_S, (∀ y : Nat, y < nd A → g' 49 ((c : Int) * 6 + y) = tk A c y) → (∀ p i, ¬ (p = 49 ∧ (c : Int) * 6 ≤ i ∧ i < (c : Int) * 6 + 6) → g' p i = g p i) → Q jv_U (LL n l) g') :
  jv_Ca jv_T jv_ml kWy_layLane [jv_P 40, jv_I c] (LL n l) g Q := by
  have hw := hN.1
  have w1 := hw.1
  have w2 := hw.2.1
  have key : ∀ y, y ≤ nd A → ∀ g' : jv_S, (∀ j : Nat, j < y → g' 49 ((c : Int) * 6 + j) = tk A c j) → (∀ p i, ¬ (p = 49 ∧ (c : Int) * 6 ≤ i ∧ i < (c : Int) * 6 + 6) → g' p i = g p i) → jv_At jv_T jv_ml kWy_layLane 2 [jv_P 40, jv_I c, jv_I y] [] (LL n l) g' Q := by
    apply loop_up
    intro y hy ih g' h1 h2
    have hN' : CN A g' := CN_fr hN (fun p i a b => h2 p i (by omega))
    have f1 := hN'.2.1
    have f2 := (hN'.2.2.2.1 c hc).2.1
    have f3 := (hw.2.2.2.1 c hc)
    have f4 : g' 41 c = ba A c := by rw [h2 _ _ (by omega)]; exact hb
    have f5 : g' 40 4 = ru A := by rw [h2 _ _ (by omega)]; exact hr
    apply sg_Wy_layLane_2 (A := A)
    rw [f1, f2, f4]
    refine ⟨fun h => ?_, fun h => ?_⟩
    · have : y = nd A := by omega
      subst this
      exact hQ g' h1 h2
    · refine ⟨⟨by omega, by omega⟩, ⟨by omega, by omega⟩, ⟨by omega, by omega⟩, ⟨by decide, LLx_ok, hN', f5, ⟨by omega, by omega⟩, ⟨by omega, by omega⟩, by omega, by omega⟩, ⟨by omega, by omega⟩, ⟨by omega, by omega⟩, ?_⟩
      refine ih (by omega) _ (fun j hj => ?_) (fun p i hp => ?_)
      · by_cases hjy : j = y
        · subst hjy
          rw [up_eq rfl rfl, rlI_n, tk_on hw hc]
        · rw [up_ne (by omega)]
          exact h1 j (by omega)
      · rw [up_ne (by omega)]
        exact h2 p i hp
  exact sg_Wy_layLane_0 (A := A) (key 0 (by omega) g (fun j hj => by omega) (fun p i _ => rfl))
set_option maxRecDepth 100000 in
theorem sg_Wy_layAll_0 {A : jA} {n l : Nat} {g : jv_S} {Q : jv_V → jv_L → jv_S → Prop} (h :
   jv_At jv_T jv_ml kWy_layAll 2 [jv_P 40, jv_I (0 : Int), jv_U] [] (LL n l) g Q) :
  jv_At jv_T jv_ml kWy_layAll 0 [jv_P 40, jv_U, jv_U] [] (LL n l) g Q :=
  jv_of_wp (gok5 (A := A)) (md := []) (stop := [2, 15, 55]) (tab := jt_Wy_layAll) rfl 400 _ _ _ _ _ h
set_option maxRecDepth 100000 in
theorem sg_Wy_layAll_2 {A : jA} {n l : Nat} {g : jv_S} {Q : jv_V → jv_L → jv_S → Prop} {v1 : Int} {v2 : jv_V} (h :
   ((g 14 0) ≤ v1 →
     jv_At jv_T jv_ml kWy_layAll 55 [jv_P 40, jv_I (0 : Int), v2] [] (LL n l) g Q) ∧
    (¬ (g 14 0) ≤ v1 →
     jv_At jv_T jv_ml kWy_layAll 15 [jv_P 40, jv_I v1, jv_I (0 : Int)] [] (LL n l) g Q)) :
  jv_At jv_T jv_ml kWy_layAll 2 [jv_P 40, jv_I v1, v2] [] (LL n l) g Q :=
  jv_of_wp (gok5 (A := A)) (md := []) (stop := [2, 15, 55]) (tab := jt_Wy_layAll) rfl 400 _ _ _ _ _ h
set_option maxRecDepth 100000 in
theorem sg_Wy_layAll_15 {A : jA} {n l : Nat} {g : jv_S} {Q : jv_V → jv_L → jv_S → Prop} {v1 v2 : Int} (h :
   ((g 14 0) ≤ v2 →
     jv_r32 (v1 + (1 : Int)) ∧
      jv_At jv_T jv_ml kWy_layAll 2 [jv_P 40, jv_I (v1 + (1 : Int)), jv_I v2] [] (LL n l) g Q) ∧
    (¬ (g 14 0) ≤ v2 →
     (0 ≤ v1 ∧ v1 < 6) ∧
      ((40 = 40 ∨ 40 = 104) ∧ (LLx (LL n l)) ∧ (CN A g ∧ g 40 4 = ru A ∧ (0 ≤ v1 ∧ v1 < nd A) ∧ (0 ≤ v2 ∧ v2 < nd A) ∧ 0 ≤ (0 : Int) ∧ (0 : Int) < 1024)) ∧
      (0 ≤ v2 ∧ v2 < 6) ∧ 
      jv_r32 (v2 + (1 : Int)) ∧
      jv_At jv_T jv_ml kWy_layAll 15 [jv_P 40, jv_I v1, jv_I (v2 + (1 : Int))] [] (LL n l) (jv_up g 42 (v1 * 6 + v2) (rlI A v1 v2 (0 : Int))) Q)) :
  jv_At jv_T jv_ml kWy_layAll 15 [jv_P 40, jv_I v1, jv_I v2] [] (LL n l) g Q :=
  jv_of_wp (gok5 (A := A)) (md := []) (stop := [2, 15, 55]) (tab := jt_Wy_layAll) rfl 400 _ _ _ _ _ h
set_option maxRecDepth 100000 in
theorem sg_Wy_layAll_55 {A : jA} {n l : Nat} {g : jv_S} {Q : jv_V → jv_L → jv_S → Prop} {v1 : Int} {v2 : jv_V} (h :
   ((g 14 1) ≤ v1 →
     jv_r32 ((g 40 5) + (1 : Int)) ∧
      Q jv_U (LL n l) (jv_up g 40 5 ((g 40 5) + (1 : Int)))) ∧
    (¬ (g 14 1) ≤ v1 →
     jv_Ca jv_T jv_ml kWy_layLane [jv_P 40, jv_I v1] (LL n l) g (fun r L2 g2 => jv_At jv_T jv_ml kWy_layAll 71 [jv_P 40, jv_I v1, v2] (jv_pu r []) L2 g2 Q))) :
  jv_At jv_T jv_ml kWy_layAll 55 [jv_P 40, jv_I v1, v2] [] (LL n l) g Q :=
  jv_of_wp (gok5 (A := A)) (md := []) (stop := [2, 15, 55]) (tab := jt_Wy_layAll) rfl 400 _ _ _ _ _ h
set_option maxRecDepth 100000 in
theorem sg_Wy_layAll_71 {A : jA} {n l : Nat} {g : jv_S} {Q : jv_V → jv_L → jv_S → Prop} {v1 : Int} {v2 : jv_V} (h :
   jv_r32 (v1 + (1 : Int)) ∧
    jv_At jv_T jv_ml kWy_layAll 55 [jv_P 40, jv_I (v1 + (1 : Int)), v2] [] (LL n l) g Q) :
  jv_At jv_T jv_ml kWy_layAll 71 [jv_P 40, jv_I v1, v2] [] (LL n l) g Q :=
  jv_of_wp (gok5 (A := A)) (md := []) (stop := [2, 15, 55]) (tab := jt_Wy_layAll) rfl 400 _ _ _ _ _ h
theorem tr_Wy_layAll {A : jA} {n l : Nat} {g : jv_S} {Q : jv_V → jv_L → jv_S → Prop} (hN : CN A g) (hr : g 40 4 = ru A) (hb : ∀ c : Nat, c < ln A → g 41 c = ba A c) (hch : 0 ≤ g 40 5 ∧ g 40 5 < 2000000000)
  (hQ : ∀ g' : jv_S, CW 40 A g' → g' 40 5 = g 40 5 + 1 → (∀ p i, ¬ (p = 49 ∨ p = 42 ∨ (p = 40 ∧ i = 5)) → g' p i = g p i) → Q jv_U (LL n l) g') :
  jv_Ca jv_T jv_ml kWy_layAll [jv_P 40] (LL n l) g Q := by
  have hw := hN.1
  have w1 := hw.1
  have w2 := hw.2.1
  have lanes : ∀ c, c ≤ ln A → ∀ (g' : jv_S) (v : jv_V), (∀ j y : Nat, j < c → y < nd A → g' 49 ((j : Int) * 6 + y) = tk A j y) → (∀ x y : Nat, x < nd A → y < nd A → g' 42 ((x : Int) * 6 + y) = tk A (10 + x) y) → (∀ p i, ¬ (p = 49 ∨ p = 42) → g' p i = g p i) → jv_At jv_T jv_ml kWy_layAll 55 [jv_P 40, jv_I c, v] [] (LL n l) g' Q := by
    apply loop_up
    intro c hc ih g' v h1 h2 h3
    have hN' : CN A g' := CN_fr hN (fun p i a b => h3 p i (by omega))
    have f1 := hN'.2.2.1
    have f5 : g' 40 4 = ru A := by rw [h3 _ _ (by omega)]; exact hr
    have f6 : g' 40 5 = g 40 5 := h3 _ _ (by omega)
    apply sg_Wy_layAll_55 (A := A)
    rw [f1]
    refine ⟨fun h => ?_, fun h => ?_⟩
    · have : c = ln A := by omega
      subst this
      rw [f6]
      refine ⟨⟨by omega, by omega⟩, hQ _ ⟨?_, fun j hj => ?_, fun x y hx hy => ?_, fun j y hj hy => ?_⟩ (up_eq rfl rfl) (fun p i hp => ?_)⟩
      · rw [up_ne (by decide)]; exact f5
      · rw [up_ne (by omega), h3 _ _ (by omega)]; exact hb j hj
      · rw [up_ne (by omega)]; exact h2 x y hx hy
      · rw [up_ne (by omega)]; exact h1 j y hj hy
      · rw [up_ne (by omega)]; exact h3 p i (by omega)
    · refine tr_Wy_layLane hN' f5 (c := c) (by omega) (by rw [h3 _ _ (by omega)]; exact hb c (by omega)) (fun g2 a1 a2 => ?_)
      apply sg_Wy_layAll_71 (A := A)
      refine ⟨⟨by omega, by omega⟩, ih (by omega) g2 v (fun j y hj hy => ?_) (fun x y hx hy => ?_) (fun p i hp => ?_)⟩
      · by_cases hjc : j = c
        · subst hjc
          exact a1 y hy
        · rw [a2 _ _ (by omega)]
          exact h1 j y (by omega) hy
      · rw [a2 _ _ (by omega)]
        exact h2 x y hx hy
      · rw [a2 _ _ (by omega)]
        exact h3 p i hp
  have nodes : ∀ x, x ≤ nd A → ∀ (g' : jv_S) (v : jv_V), (∀ j y : Nat, j < x → y < nd A → g' 42 ((j : Int) * 6 + y) = tk A (10 + j) y) → (∀ p i, ¬ (p = 49 ∨ p = 42) → g' p i = g p i) → jv_At jv_T jv_ml kWy_layAll 2 [jv_P 40, jv_I x, v] [] (LL n l) g' Q := by
    apply loop_up
    intro x hx ih g' v h1 h2
    have f1 : g' 14 0 = nd A := by rw [h2 _ _ (by omega)]; exact hN.2.1
    apply sg_Wy_layAll_2 (A := A)
    rw [f1]
    refine ⟨fun h => ?_, fun h => ?_⟩
    · have : x = nd A := by omega
      subst this
      exact lanes 0 (by omega) g' v (fun j y hj hy => by omega) (fun a y ha hy => h1 a y ha hy) h2
    · have inner : ∀ y, y ≤ nd A → ∀ (g' : jv_S), (∀ j k : Nat, (j < x ∧ k < nd A) ∨ (j = x ∧ k < y) → g' 42 ((j : Int) * 6 + k) = tk A (10 + j) k) → (∀ p i, ¬ (p = 49 ∨ p = 42) → g' p i = g p i) → jv_At jv_T jv_ml kWy_layAll 15 [jv_P 40, jv_I x, jv_I y] [] (LL n l) g' Q := by
        apply loop_up
        intro y hy ihy g' h1 h2
        have hN' : CN A g' := CN_fr hN (fun p i a b => h2 p i (by omega))
        have f1 := hN'.2.1
        have f5 : g' 40 4 = ru A := by rw [h2 _ _ (by omega)]; exact hr
        apply sg_Wy_layAll_15 (A := A)
        rw [f1]
        refine ⟨fun h => ?_, fun h => ?_⟩
        · refine ⟨⟨by omega, by omega⟩, ih (by omega) g' _ (fun j k hj hk => h1 j k (by omega)) h2⟩
        · refine ⟨⟨by omega, by omega⟩, ⟨by decide, LLx_ok, hN', f5, ⟨by omega, by omega⟩, ⟨by omega, by omega⟩, by omega, by omega⟩, ⟨by omega, by omega⟩, ⟨by omega, by omega⟩, ?_⟩
          refine ihy (by omega) _ (fun j k hjk => ?_) (fun p i hp => ?_)
          · by_cases hjy : j = x ∧ k = y
            · obtain ⟨rfl, rfl⟩ := hjy
              rw [up_eq rfl rfl, show (0 : Int) = ((0 : Nat) : Int) from rfl, rlI_n, tk_out hw]
            · rw [up_ne (by omega)]
              exact h1 j k (by omega)
          · rw [up_ne (by omega)]
            exact h2 p i hp
      exact inner 0 (by omega) g' (fun j k hjk => h1 j k (by omega) (by omega)) h2
  exact sg_Wy_layAll_0 (A := A) (nodes 0 (by omega) g _ (fun j y hj hy => by omega) (fun p i _ => rfl))
set_option maxRecDepth 100000 in
theorem sg_Wy_layLane2_0 {A : jA} {n l : Nat} {g : jv_S} {Q : jv_V → jv_L → jv_S → Prop} {v1 : Int} (h :
   jv_At jv_T jv_ml kWy_layLane 2 [jv_P 104, jv_I v1, jv_I (0 : Int)] [] (LL n l) g Q) :
  jv_At jv_T jv_ml kWy_layLane 0 [jv_P 104, jv_I v1, jv_U] [] (LL n l) g Q :=
  jv_of_wp (gok5 (A := A)) (md := []) (stop := [2]) (tab := jt_Wy_layLane) rfl 400 _ _ _ _ _ h
set_option maxRecDepth 100000 in
theorem sg_Wy_layLane2_2 {A : jA} {n l : Nat} {g : jv_S} {Q : jv_V → jv_L → jv_S → Prop} {v1 v2 : Int} (h :
   ((g 14 0) ≤ v2 →
     Q jv_U (LL n l) g) ∧
    (¬ (g 14 0) ≤ v2 →
     (0 ≤ v1 ∧ v1 < 10) ∧
      (0 ≤ v1 ∧ v1 < 10) ∧
      (0 ≤ v1 ∧ v1 < 10) ∧
      ((104 = 40 ∨ 104 = 104) ∧ (LLx (LL n l)) ∧ (CN A g ∧ g 104 4 = ru A ∧ (0 ≤ (g 16 v1) ∧ (g 16 v1) < nd A) ∧ (0 ≤ v2 ∧ v2 < nd A) ∧ 0 ≤ (g 105 v1) ∧ (g 105 v1) < 1024)) ∧
      (0 ≤ v2 ∧ v2 < 6) ∧ 
      jv_r32 (v2 + (1 : Int)) ∧
      jv_At jv_T jv_ml kWy_layLane 2 [jv_P 104, jv_I v1, jv_I (v2 + (1 : Int))] [] (LL n l) (jv_up g 113 (v1 * 6 + v2) (rlI A (g 16 v1) v2 (g 105 v1))) Q)) :
  jv_At jv_T jv_ml kWy_layLane 2 [jv_P 104, jv_I v1, jv_I v2] [] (LL n l) g Q :=
  jv_of_wp (gok5 (A := A)) (md := []) (stop := [2]) (tab := jt_Wy_layLane) rfl 400 _ _ _ _ _ h
theorem tr_Wy_layLane2 {A : jA} {n l : Nat} {g : jv_S} {Q : jv_V → jv_L → jv_S → Prop} {c : Nat} (hN : CN A g) (hr : g 104 4 = ru A) (hc : c < ln A) (hb : g 105 c = ba A c)
  (hQ : ∀ g' : jv_S, (∀ y : Nat, y < nd A → g' 113 ((c : Int) * 6 + y) = tk A c y) → (∀ p i, ¬ (p = 113 ∧ (c : Int) * 6 ≤ i ∧ i < (c : Int) * 6 + 6) → g' p i = g p i) → Q jv_U (LL n l) g') :
  jv_Ca jv_T jv_ml kWy_layLane [jv_P 104, jv_I c] (LL n l) g Q := by
  have hw := hN.1
  have w1 := hw.1
  have w2 := hw.2.1
  have key : ∀ y, y ≤ nd A → ∀ g' : jv_S, (∀ j : Nat, j < y → g' 113 ((c : Int) * 6 + j) = tk A c j) → (∀ p i, ¬ (p = 113 ∧ (c : Int) * 6 ≤ i ∧ i < (c : Int) * 6 + 6) → g' p i = g p i) → jv_At jv_T jv_ml kWy_layLane 2 [jv_P 104, jv_I c, jv_I y] [] (LL n l) g' Q := by
    apply loop_up
    intro y hy ih g' h1 h2
    have hN' : CN A g' := CN_fr hN (fun p i a b => h2 p i (by omega))
    have f1 := hN'.2.1
    have f2 := (hN'.2.2.2.1 c hc).2.1
    have f3 := (hw.2.2.2.1 c hc)
    have f4 : g' 105 c = ba A c := by rw [h2 _ _ (by omega)]; exact hb
    have f5 : g' 104 4 = ru A := by rw [h2 _ _ (by omega)]; exact hr
    apply sg_Wy_layLane2_2 (A := A)
    rw [f1, f2, f4]
    refine ⟨fun h => ?_, fun h => ?_⟩
    · have : y = nd A := by omega
      subst this
      exact hQ g' h1 h2
    · refine ⟨⟨by omega, by omega⟩, ⟨by omega, by omega⟩, ⟨by omega, by omega⟩, ⟨by decide, LLx_ok, hN', f5, ⟨by omega, by omega⟩, ⟨by omega, by omega⟩, by omega, by omega⟩, ⟨by omega, by omega⟩, ⟨by omega, by omega⟩, ?_⟩
      refine ih (by omega) _ (fun j hj => ?_) (fun p i hp => ?_)
      · by_cases hjy : j = y
        · subst hjy
          rw [up_eq rfl rfl, rlI_n, tk_on hw hc]
        · rw [up_ne (by omega)]
          exact h1 j (by omega)
      · rw [up_ne (by omega)]
        exact h2 p i hp
  exact sg_Wy_layLane2_0 (A := A) (key 0 (by omega) g (fun j hj => by omega) (fun p i _ => rfl))
set_option maxRecDepth 100000 in
theorem sg_Wy_layAll2_0 {A : jA} {n l : Nat} {g : jv_S} {Q : jv_V → jv_L → jv_S → Prop} (h :
   jv_At jv_T jv_ml kWy_layAll 2 [jv_P 104, jv_I (0 : Int), jv_U] [] (LL n l) g Q) :
  jv_At jv_T jv_ml kWy_layAll 0 [jv_P 104, jv_U, jv_U] [] (LL n l) g Q :=
  jv_of_wp (gok5 (A := A)) (md := []) (stop := [2, 15, 55]) (tab := jt_Wy_layAll) rfl 400 _ _ _ _ _ h
set_option maxRecDepth 100000 in
theorem sg_Wy_layAll2_2 {A : jA} {n l : Nat} {g : jv_S} {Q : jv_V → jv_L → jv_S → Prop} {v1 : Int} {v2 : jv_V} (h :
   ((g 14 0) ≤ v1 →
     jv_At jv_T jv_ml kWy_layAll 55 [jv_P 104, jv_I (0 : Int), v2] [] (LL n l) g Q) ∧
    (¬ (g 14 0) ≤ v1 →
     jv_At jv_T jv_ml kWy_layAll 15 [jv_P 104, jv_I v1, jv_I (0 : Int)] [] (LL n l) g Q)) :
  jv_At jv_T jv_ml kWy_layAll 2 [jv_P 104, jv_I v1, v2] [] (LL n l) g Q :=
  jv_of_wp (gok5 (A := A)) (md := []) (stop := [2, 15, 55]) (tab := jt_Wy_layAll) rfl 400 _ _ _ _ _ h
set_option maxRecDepth 100000 in
theorem sg_Wy_layAll2_15 {A : jA} {n l : Nat} {g : jv_S} {Q : jv_V → jv_L → jv_S → Prop} {v1 v2 : Int} (h :
   ((g 14 0) ≤ v2 →
     jv_r32 (v1 + (1 : Int)) ∧
      jv_At jv_T jv_ml kWy_layAll 2 [jv_P 104, jv_I (v1 + (1 : Int)), jv_I v2] [] (LL n l) g Q) ∧
    (¬ (g 14 0) ≤ v2 →
     (0 ≤ v1 ∧ v1 < 6) ∧
      ((104 = 40 ∨ 104 = 104) ∧ (LLx (LL n l)) ∧ (CN A g ∧ g 104 4 = ru A ∧ (0 ≤ v1 ∧ v1 < nd A) ∧ (0 ≤ v2 ∧ v2 < nd A) ∧ 0 ≤ (0 : Int) ∧ (0 : Int) < 1024)) ∧
      (0 ≤ v2 ∧ v2 < 6) ∧ 
      jv_r32 (v2 + (1 : Int)) ∧
      jv_At jv_T jv_ml kWy_layAll 15 [jv_P 104, jv_I v1, jv_I (v2 + (1 : Int))] [] (LL n l) (jv_up g 106 (v1 * 6 + v2) (rlI A v1 v2 (0 : Int))) Q)) :
  jv_At jv_T jv_ml kWy_layAll 15 [jv_P 104, jv_I v1, jv_I v2] [] (LL n l) g Q :=
  jv_of_wp (gok5 (A := A)) (md := []) (stop := [2, 15, 55]) (tab := jt_Wy_layAll) rfl 400 _ _ _ _ _ h
set_option maxRecDepth 100000 in
theorem sg_Wy_layAll2_55 {A : jA} {n l : Nat} {g : jv_S} {Q : jv_V → jv_L → jv_S → Prop} {v1 : Int} {v2 : jv_V} (h :
   ((g 14 1) ≤ v1 →
     jv_r32 ((g 104 5) + (1 : Int)) ∧
      Q jv_U (LL n l) (jv_up g 104 5 ((g 104 5) + (1 : Int)))) ∧
    (¬ (g 14 1) ≤ v1 →
     jv_Ca jv_T jv_ml kWy_layLane [jv_P 104, jv_I v1] (LL n l) g (fun r L2 g2 => jv_At jv_T jv_ml kWy_layAll 71 [jv_P 104, jv_I v1, v2] (jv_pu r []) L2 g2 Q))) :
  jv_At jv_T jv_ml kWy_layAll 55 [jv_P 104, jv_I v1, v2] [] (LL n l) g Q :=
  jv_of_wp (gok5 (A := A)) (md := []) (stop := [2, 15, 55]) (tab := jt_Wy_layAll) rfl 400 _ _ _ _ _ h
set_option maxRecDepth 100000 in
theorem sg_Wy_layAll2_71 {A : jA} {n l : Nat} {g : jv_S} {Q : jv_V → jv_L → jv_S → Prop} {v1 : Int} {v2 : jv_V} (h :
   jv_r32 (v1 + (1 : Int)) ∧
    jv_At jv_T jv_ml kWy_layAll 55 [jv_P 104, jv_I (v1 + (1 : Int)), v2] [] (LL n l) g Q) :
  jv_At jv_T jv_ml kWy_layAll 71 [jv_P 104, jv_I v1, v2] [] (LL n l) g Q :=
  jv_of_wp (gok5 (A := A)) (md := []) (stop := [2, 15, 55]) (tab := jt_Wy_layAll) rfl 400 _ _ _ _ _ h
theorem tr_Wy_layAll2 {A : jA} {n l : Nat} {g : jv_S} {Q : jv_V → jv_L → jv_S → Prop} (hN : CN A g) (hr : g 104 4 = ru A) (hb : ∀ c : Nat, c < ln A → g 105 c = ba A c) (hch : 0 ≤ g 104 5 ∧ g 104 5 < 2000000000)
  (hQ : ∀ g' : jv_S, CW 104 A g' → g' 104 5 = g 104 5 + 1 → (∀ p i, ¬ (p = 113 ∨ p = 106 ∨ (p = 104 ∧ i = 5)) → g' p i = g p i) → Q jv_U (LL n l) g') :
  jv_Ca jv_T jv_ml kWy_layAll [jv_P 104] (LL n l) g Q := by
  have hw := hN.1
  have w1 := hw.1
  have w2 := hw.2.1
  have lanes : ∀ c, c ≤ ln A → ∀ (g' : jv_S) (v : jv_V), (∀ j y : Nat, j < c → y < nd A → g' 113 ((j : Int) * 6 + y) = tk A j y) → (∀ x y : Nat, x < nd A → y < nd A → g' 106 ((x : Int) * 6 + y) = tk A (10 + x) y) → (∀ p i, ¬ (p = 113 ∨ p = 106) → g' p i = g p i) → jv_At jv_T jv_ml kWy_layAll 55 [jv_P 104, jv_I c, v] [] (LL n l) g' Q := by
    apply loop_up
    intro c hc ih g' v h1 h2 h3
    have hN' : CN A g' := CN_fr hN (fun p i a b => h3 p i (by omega))
    have f1 := hN'.2.2.1
    have f5 : g' 104 4 = ru A := by rw [h3 _ _ (by omega)]; exact hr
    have f6 : g' 104 5 = g 104 5 := h3 _ _ (by omega)
    apply sg_Wy_layAll2_55 (A := A)
    rw [f1]
    refine ⟨fun h => ?_, fun h => ?_⟩
    · have : c = ln A := by omega
      subst this
      rw [f6]
      refine ⟨⟨by omega, by omega⟩, hQ _ ⟨?_, fun j hj => ?_, fun x y hx hy => ?_, fun j y hj hy => ?_⟩ (up_eq rfl rfl) (fun p i hp => ?_)⟩
      · rw [up_ne (by decide)]; exact f5
      · rw [up_ne (by omega), h3 _ _ (by omega)]; exact hb j hj
      · rw [up_ne (by omega)]; exact h2 x y hx hy
      · rw [up_ne (by omega)]; exact h1 j y hj hy
      · rw [up_ne (by omega)]; exact h3 p i (by omega)
    · refine tr_Wy_layLane2 hN' f5 (c := c) (by omega) (by rw [h3 _ _ (by omega)]; exact hb c (by omega)) (fun g2 a1 a2 => ?_)
      apply sg_Wy_layAll2_71 (A := A)
      refine ⟨⟨by omega, by omega⟩, ih (by omega) g2 v (fun j y hj hy => ?_) (fun x y hx hy => ?_) (fun p i hp => ?_)⟩
      · by_cases hjc : j = c
        · subst hjc
          exact a1 y hy
        · rw [a2 _ _ (by omega)]
          exact h1 j y (by omega) hy
      · rw [a2 _ _ (by omega)]
        exact h2 x y hx hy
      · rw [a2 _ _ (by omega)]
        exact h3 p i hp
  have nodes : ∀ x, x ≤ nd A → ∀ (g' : jv_S) (v : jv_V), (∀ j y : Nat, j < x → y < nd A → g' 106 ((j : Int) * 6 + y) = tk A (10 + j) y) → (∀ p i, ¬ (p = 113 ∨ p = 106) → g' p i = g p i) → jv_At jv_T jv_ml kWy_layAll 2 [jv_P 104, jv_I x, v] [] (LL n l) g' Q := by
    apply loop_up
    intro x hx ih g' v h1 h2
    have f1 : g' 14 0 = nd A := by rw [h2 _ _ (by omega)]; exact hN.2.1
    apply sg_Wy_layAll2_2 (A := A)
    rw [f1]
    refine ⟨fun h => ?_, fun h => ?_⟩
    · have : x = nd A := by omega
      subst this
      exact lanes 0 (by omega) g' v (fun j y hj hy => by omega) (fun a y ha hy => h1 a y ha hy) h2
    · have inner : ∀ y, y ≤ nd A → ∀ (g' : jv_S), (∀ j k : Nat, (j < x ∧ k < nd A) ∨ (j = x ∧ k < y) → g' 106 ((j : Int) * 6 + k) = tk A (10 + j) k) → (∀ p i, ¬ (p = 113 ∨ p = 106) → g' p i = g p i) → jv_At jv_T jv_ml kWy_layAll 15 [jv_P 104, jv_I x, jv_I y] [] (LL n l) g' Q := by
        apply loop_up
        intro y hy ihy g' h1 h2
        have hN' : CN A g' := CN_fr hN (fun p i a b => h2 p i (by omega))
        have f1 := hN'.2.1
        have f5 : g' 104 4 = ru A := by rw [h2 _ _ (by omega)]; exact hr
        apply sg_Wy_layAll2_15 (A := A)
        rw [f1]
        refine ⟨fun h => ?_, fun h => ?_⟩
        · refine ⟨⟨by omega, by omega⟩, ih (by omega) g' _ (fun j k hj hk => h1 j k (by omega)) h2⟩
        · refine ⟨⟨by omega, by omega⟩, ⟨by decide, LLx_ok, hN', f5, ⟨by omega, by omega⟩, ⟨by omega, by omega⟩, by omega, by omega⟩, ⟨by omega, by omega⟩, ⟨by omega, by omega⟩, ?_⟩
          refine ihy (by omega) _ (fun j k hjk => ?_) (fun p i hp => ?_)
          · by_cases hjy : j = x ∧ k = y
            · obtain ⟨rfl, rfl⟩ := hjy
              rw [up_eq rfl rfl, show (0 : Int) = ((0 : Nat) : Int) from rfl, rlI_n, tk_out hw]
            · rw [up_ne (by omega)]
              exact h1 j k (by omega)
          · rw [up_ne (by omega)]
            exact h2 p i hp
      exact inner 0 (by omega) g' (fun j k hjk => h1 j k (by omega) (by omega)) h2
  exact sg_Wy_layAll2_0 (A := A) (nodes 0 (by omega) g _ (fun j y hj hy => by omega) (fun p i _ => rfl))
