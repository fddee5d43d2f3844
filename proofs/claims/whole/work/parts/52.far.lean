/-! ===== far; the class's net; the model's layFar ===== -/
/-- from x in k lanes to y -/
def wk (F T : Nat → Nat) (m y : Nat) : Nat → Nat → Prop
  | 0, x => x = y
  | k + 1, x => ∃ d, d < m ∧ F d = x ∧ wk F T m y k (T d)
def xk (F T : Nat → Nat) (m y k x : Nat) : Prop := wk F T m y k x ∧ ∀ j, j < k → ¬ wk F T m y j x
def FDp (F T : Nat → Nat) (m y x : Nat) (v : Int) : Prop := (v = -9 ∧ ∀ k, ¬ wk F T m y k x) ∨ ∃ k : Nat, v = k ∧ xk F T m y k x
theorem xk_min {F T : Nat → Nat} {m y x : Nat} : ∀ k, wk F T m y k x → ∃ i, i ≤ k ∧ xk F T m y i x := by
  intro k
  induction k using Nat.strongRecOn with
  | ind k ih =>
    intro h
    by_cases h1 : ∃ j, j < k ∧ wk F T m y j x
    · obtain ⟨j, h2, h3⟩ := h1
      obtain ⟨i, h4, h5⟩ := ih j h2 h3
      exact ⟨i, by omega, h5⟩
    · exact ⟨k, Nat.le_refl _, h, fun j hj hr => h1 ⟨j, hj, hr⟩⟩
theorem FDp_ex (F T : Nat → Nat) (m y x : Nat) : ∃ v, FDp F T m y x v := by
  by_cases h : ∃ k, wk F T m y k x
  · obtain ⟨k, hk⟩ := h
    obtain ⟨i, -, hi⟩ := xk_min k hk
    exact ⟨i, Or.inr ⟨i, rfl, hi⟩⟩
  · exact ⟨-9, Or.inl ⟨rfl, fun k hk => h ⟨k, hk⟩⟩⟩
noncomputable def fdv (F T : Nat → Nat) (m x y : Nat) : Int := Classical.choose (FDp_ex F T m y x)
theorem fdv_p (F T : Nat → Nat) (m x y : Nat) : FDp F T m y x (fdv F T m x y) := Classical.choose_spec (FDp_ex F T m y x)
theorem FDp_u {F T : Nat → Nat} {m y x : Nat} {v w : Int} (h : FDp F T m y x v) (h' : FDp F T m y x w) : v = w := by
  rcases h with ⟨h1, h2⟩ | ⟨k, h1, h2⟩ <;> rcases h' with ⟨k1, k2⟩ | ⟨j, k1, k2⟩
  · omega
  · exact absurd k2.1 (h2 j)
  · exact absurd h2.1 (k2 k)
  · rcases Nat.lt_trichotomy k j with h | h | h
    · exact absurd h2.1 (k2.2 k h)
    · omega
    · exact absurd k2.1 (h2.2 j h)
theorem xk_next {F T : Nat → Nat} {m y k x : Nat} (h : xk F T m y (k + 1) x) : ∃ d, d < m ∧ F d = x ∧ xk F T m y k (T d) := by
  obtain ⟨⟨d, h1, h2, h3⟩, h4⟩ := h
  exact ⟨d, h1, h2, h3, fun j hj hr => h4 (j + 1) (by omega) ⟨d, h1, h2, hr⟩⟩
/-- the levels are apart: no more than the nodes -/
theorem xk_lt {F T : Nat → Nat} {m y N : Nat} (hT : ∀ d, d < m → T d < N) : ∀ k x, x < N → xk F T m y k x → k + 1 ≤ pcr (mk (fun z => dc (∃ j, j ≤ k ∧ wk F T m y j z)) N) N := by
  intro k
  induction k with
  | zero =>
    intro x hx h
    have : mk (fun z => dc (∃ j, j ≤ 0 ∧ wk F T m y j z)) N ≠ 0 := fun h0 => by
      have hb := mk_bit (fun z => dc (∃ j, j ≤ 0 ∧ wk F T m y j z)) N x
      rw [h0, Nat.zero_testBit, decide_eq_true hx, dc_t.mpr ⟨0, Nat.le_refl _, h.1⟩] at hb
      cases hb
    have := pcr_lt (a := 0) (b := mk (fun z => dc (∃ j, j ≤ 0 ∧ wk F T m y j z)) N) (m := N) sb_zero (mk_lt _ _) (fun h => this h.symm)
    omega
  | succ k ih =>
    intro x hx h
    obtain ⟨d, h1, h2, h3⟩ := xk_next h
    have a := ih (T d) (hT d h1) h3
    have hsb : sb (mk (fun z => dc (∃ j, j ≤ k ∧ wk F T m y j z)) N) (mk (fun z => dc (∃ j, j ≤ k + 1 ∧ wk F T m y j z)) N) := by
      intro i hi
      rw [mk_bit, Bool.and_eq_true, decide_eq_true_iff, dc_t] at hi ⊢
      obtain ⟨e, j, j1, j2⟩ := hi
      exact ⟨e, j, by omega, j2⟩
    have b := pcr_lt1 hsb (i := x) (by rw [mk_bit, decide_eq_true hx, dc_t.mpr ⟨k + 1, Nat.le_refl _, h.1⟩]; rfl) (by
      rw [mk_bit, decide_eq_true hx, Bool.true_and]
      exact dc_f.mpr (fun ⟨j, j1, j2⟩ => h.2 j (by omega) j2)) N hx
    omega
theorem xk_le {F T : Nat → Nat} {m y N : Nat} (hT : ∀ d, d < m → T d < N) {k x : Nat} (hx : x < N) (h : xk F T m y k x) : k < N := by
  have := xk_lt hT k x hx h
  have := pcr_le (mk (fun z => dc (∃ j, j ≤ k ∧ wk F T m y j z)) N) N
  omega
theorem fdv_b {F T : Nat → Nat} {m y N x : Nat} (hT : ∀ d, d < m → T d < N) (hN : N ≤ 6) (hx : x < N) : -9 ≤ fdv F T m x y ∧ fdv F T m x y ≤ 5 := by
  rcases fdv_p F T m x y with ⟨h1, -⟩ | ⟨k, h1, h2⟩
  · omega
  · have := xk_le hT hx h2; omega
noncomputable def mkA (N m r : Nat) (F T R : Nat → Nat) : jA := (fun i c => match i, c with
  | 0, 0 => N
  | 0, 1 => m
  | 0, 2 => r
  | 1, c => F c
  | 2, c => T c
  | 3, c => R c
  | _, _ => 0, fdv F T m)
def okN (N m : Nat) (F T R : Nat → Nat) : Prop := N ≤ 6 ∧ m ≤ 10 ∧ ∀ c, c < m → F c < N ∧ T c < N ∧ F c ≠ T c ∧ 1 ≤ R c ∧ R c ≤ 2
theorem mkA_wf {N m r : Nat} {F T R : Nat → Nat} (h : okN N m F T R) (hr : r ≤ 2) : wf (mkA N m r F T R) := ⟨h.1, h.2.1, hr, fun c hc => ⟨(h.2.2 c hc).1, (h.2.2 c hc).2.1, (h.2.2 c hc).2.2.1, (h.2.2 c hc).2.2.2.1, (h.2.2 c hc).2.2.2.2, by show (0 : Nat) < 1024; decide⟩, fun x y hx _ => fdv_b (fun d hd => (h.2.2 d hd).2.1) h.1 hx⟩
set_option maxRecDepth 100000 in
theorem sg_N_measure_0 {A : jA} {n l : Nat} {g : jv_S} {Q : jv_V → jv_L → jv_S → Prop} {v1 : Int} (h :
   jv_At jv_T jv_ml kN_measure 2 [jv_P 14, jv_I v1, jv_I (0 : Int), jv_U] [] (LL n l) g Q) :
  jv_At jv_T jv_ml kN_measure 0 [jv_P 14, jv_I v1, jv_U, jv_U] [] (LL n l) g Q :=
  jv_of_wp (gok9 (A := A)) (md := []) (stop := [2, 37, 47]) (tab := jt_N_measure) rfl 400 _ _ _ _ _ h
set_option maxRecDepth 100000 in
theorem sg_N_measure_2 {A : jA} {n l : Nat} {g : jv_S} {Q : jv_V → jv_L → jv_S → Prop} {v1 v2 : Int} {v3 : jv_V} (h :
   ((g 14 0) ≤ v2 →
     jv_At jv_T jv_ml kN_measure 37 [jv_P 14, jv_I v1, jv_I (1 : Int), v3] [] (LL n l) g Q) ∧
    (¬ (g 14 0) ≤ v2 →
     (0 ≤ v2 ∧ v2 < 6) ∧
      (v2 = v1 →
       (0 ≤ v1 ∧ v1 < 6) ∧ 
        jv_r32 (v2 + (1 : Int)) ∧
        jv_At jv_T jv_ml kN_measure 2 [jv_P 14, jv_I v1, jv_I (v2 + (1 : Int)), v3] [] (LL n l) (jv_up g 18 (v2 * 6 + v1) (0 : Int)) Q) ∧
      (¬ v2 = v1 →
       (0 ≤ v1 ∧ v1 < 6) ∧ 
        jv_r32 (v2 + (1 : Int)) ∧
        jv_At jv_T jv_ml kN_measure 2 [jv_P 14, jv_I v1, jv_I (v2 + (1 : Int)), v3] [] (LL n l) (jv_up g 18 (v2 * 6 + v1) (-9 : Int)) Q))) :
  jv_At jv_T jv_ml kN_measure 2 [jv_P 14, jv_I v1, jv_I v2, v3] [] (LL n l) g Q :=
  jv_of_wp (gok9 (A := A)) (md := []) (stop := [2, 37, 47]) (tab := jt_N_measure) rfl 400 _ _ _ _ _ h
set_option maxRecDepth 100000 in
theorem sg_N_measure_37 {A : jA} {n l : Nat} {g : jv_S} {Q : jv_V → jv_L → jv_S → Prop} {v1 v2 : Int} {v3 : jv_V} (h :
   ((g 14 0) ≤ v2 →
     Q jv_U (LL n l) g) ∧
    (¬ (g 14 0) ≤ v2 →
     jv_At jv_T jv_ml kN_measure 47 [jv_P 14, jv_I v1, jv_I v2, jv_I (0 : Int)] [] (LL n l) g Q)) :
  jv_At jv_T jv_ml kN_measure 37 [jv_P 14, jv_I v1, jv_I v2, v3] [] (LL n l) g Q :=
  jv_of_wp (gok9 (A := A)) (md := []) (stop := [2, 37, 47]) (tab := jt_N_measure) rfl 400 _ _ _ _ _ h
set_option maxRecDepth 100000 in
theorem sg_N_measure_47 {A : jA} {n l : Nat} {g : jv_S} {Q : jv_V → jv_L → jv_S → Prop} {v1 v2 v3 : Int} (h :
   ((g 14 1) ≤ v3 →
     jv_r32 (v2 + (1 : Int)) ∧
      jv_At jv_T jv_ml kN_measure 37 [jv_P 14, jv_I v1, jv_I (v2 + (1 : Int)), jv_I v3] [] (LL n l) g Q) ∧
    (¬ (g 14 1) ≤ v3 →
     (0 ≤ v3 ∧ v3 < 10) ∧
      (0 ≤ (g 16 v3) ∧ (g 16 v3) < 6) ∧
      (0 ≤ v1 ∧ v1 < 6) ∧
      jv_r32 (v2 - (1 : Int)) ∧
      ((g 18 ((g 16 v3) * 6 + v1)) = (v2 - (1 : Int)) →
       (0 ≤ v3 ∧ v3 < 10) ∧
        (0 ≤ (g 15 v3) ∧ (g 15 v3) < 6) ∧
        (0 ≤ v1 ∧ v1 < 6) ∧
        ((g 18 ((g 15 v3) * 6 + v1)) = (-9 : Int) →
         (0 ≤ v3 ∧ v3 < 10) ∧
          (0 ≤ (g 15 v3) ∧ (g 15 v3) < 6) ∧
          (0 ≤ v1 ∧ v1 < 6) ∧ 
          jv_r32 (v3 + (1 : Int)) ∧
          jv_At jv_T jv_ml kN_measure 47 [jv_P 14, jv_I v1, jv_I v2, jv_I (v3 + (1 : Int))] [] (LL n l) (jv_up g 18 ((g 15 v3) * 6 + v1) v2) Q) ∧
        (¬ (g 18 ((g 15 v3) * 6 + v1)) = (-9 : Int) →
         jv_r32 (v3 + (1 : Int)) ∧
          jv_At jv_T jv_ml kN_measure 47 [jv_P 14, jv_I v1, jv_I v2, jv_I (v3 + (1 : Int))] [] (LL n l) g Q)) ∧
      (¬ (g 18 ((g 16 v3) * 6 + v1)) = (v2 - (1 : Int)) →
       jv_r32 (v3 + (1 : Int)) ∧
        jv_At jv_T jv_ml kN_measure 47 [jv_P 14, jv_I v1, jv_I v2, jv_I (v3 + (1 : Int))] [] (LL n l) g Q))) :
  jv_At jv_T jv_ml kN_measure 47 [jv_P 14, jv_I v1, jv_I v2, jv_I v3] [] (LL n l) g Q :=
  jv_of_wp (gok9 (A := A)) (md := []) (stop := [2, 37, 47]) (tab := jt_N_measure) rfl 400 _ _ _ _ _ h
theorem tr_N_measure {A : jA} {n l : Nat} {g : jv_S} {Q : jv_V → jv_L → jv_S → Prop} {N m y : Nat} {F T R : Nat → Nat} (ho : okN N m F T R) (f0 : g 14 0 = N) (f1 : g 14 1 = m) (hF : ∀ c : Nat, c < m → g 15 c = F c) (hT : ∀ c : Nat, c < m → g 16 c = T c) (hy : y < N)
  (hQ : ∀ g' : jv_S, (∀ x : Nat, x < N → g' 18 ((x : Int) * 6 + y) = fdv F T m x y) → (∀ (p : Nat) (i : Int), ¬ (p = 18 ∧ ∃ x : Nat, x < N ∧ i = (x : Int) * 6 + y) → g' p i = g p i) → Q jv_U (LL n l) g') :
  jv_Ca jv_T jv_ml kN_measure [jv_P 14, jv_I y] (LL n l) g Q := by
  obtain ⟨o1, o2, o3⟩ := ho
  have rounds : ∀ k, k ≤ N → 1 ≤ k → ∀ (g' : jv_S) (v : jv_V), (∀ x : Nat, x < N → (∃ j : Nat, j < k ∧ g' 18 ((x : Int) * 6 + y) = j ∧ xk F T m y j x) ∨ ((∀ j, j < k → ¬ wk F T m y j x) ∧ g' 18 ((x : Int) * 6 + y) = -9)) → (∀ (p : Nat) (i : Int), ¬ (p = 18 ∧ ∃ x : Nat, x < N ∧ i = (x : Int) * 6 + y) → g' p i = g p i) → jv_At jv_T jv_ml kN_measure 37 [jv_P 14, jv_I y, jv_I k, v] [] (LL n l) (g') Q := by
    apply loop_up
    intro k hk ih hk1 g' v h1 hf
    have f0' : g' 14 0 = N := by rw [hf _ _ (fun h => by omega)]; exact f0
    have f1' : g' 14 1 = m := by rw [hf _ _ (fun h => by omega)]; exact f1
    apply sg_N_measure_37 (A := A)
    refine ⟨fun h => hQ g' (fun x hx => ?_) hf, fun h => ?_⟩
    · refine FDp_u (F := F) (T := T) (m := m) (y := y) (x := x) ?_ (fdv_p F T m x y)
      rcases h1 x hx with ⟨j, j1, j2, j3⟩ | ⟨j1, j2⟩
      · exact Or.inr ⟨j, j2, j3⟩
      · refine Or.inl ⟨j2, fun q hq => ?_⟩
        obtain ⟨i, -, hi⟩ := xk_min q hq
        have := xk_le (fun d hd => (o3 d hd).2.1) hx hi
        exact j1 i (by omega) hi.1
    · -- one round
      have ds : ∀ d, d ≤ m → ∀ (g' : jv_S), (∀ x : Nat, x < N → (∃ j : Nat, j < k ∧ g' 18 ((x : Int) * 6 + y) = j ∧ xk F T m y j x) ∨ (g' 18 ((x : Int) * 6 + y) = k ∧ xk F T m y k x) ∨ ((∀ j, j < k → ¬ wk F T m y j x) ∧ g' 18 ((x : Int) * 6 + y) = -9 ∧ ∀ e, e < d → F e = x → ¬ wk F T m y (k - 1) (T e))) → (∀ (p : Nat) (i : Int), ¬ (p = 18 ∧ ∃ x : Nat, x < N ∧ i = (x : Int) * 6 + y) → g' p i = g p i) → jv_At jv_T jv_ml kN_measure 47 [jv_P 14, jv_I y, jv_I k, jv_I d] [] (LL n l) (g') Q := by
        apply loop_up
        intro d hd ihd g' h1 hf
        have f1' : g' 14 1 = m := by rw [hf _ _ (fun h => by omega)]; exact f1
        apply sg_N_measure_47 (A := A)
        refine ⟨fun h => ⟨⟨by omega, by omega⟩, ih (by omega) (by omega) g' _ (fun x hx => ?_) hf⟩, fun h => ?_⟩
        · rcases h1 x hx with ⟨j, j1, j2, j3⟩ | ⟨j2, j3⟩ | ⟨j1, j2, j3⟩
          · exact Or.inl ⟨j, by omega, j2, j3⟩
          · exact Or.inl ⟨k, by omega, j2, j3⟩
          · refine Or.inr ⟨fun j hj hw => ?_, j2⟩
            by_cases hjk : j = k
            · subst hjk
              rw [show j = j - 1 + 1 by omega] at hw
              obtain ⟨e, e1, e2, e3⟩ := hw
              exact j3 e (by omega) e2 e3
            · exact j1 j (by omega) hw
        · have hd' : d < m := by omega
          obtain ⟨q1, q2, q3, q4, q5⟩ := o3 d hd'
          have fF : g' 15 d = F d := by rw [hf _ _ (fun h => by omega)]; exact hF d hd'
          have fT : g' 16 d = T d := by rw [hf _ _ (fun h => by omega)]; exact hT d hd'
          have hTd := h1 (T d) q2
          have hFd := h1 (F d) q1
          rw [fF, fT]
          -- what stands at to[d]: k - 1 just if so far
          have hiff : g' 18 ((T d : Int) * 6 + y) = (k : Int) - 1 ↔ xk F T m y (k - 1) (T d) := by
            constructor
            · intro he
              rcases hTd with ⟨j, j1, j2, j3⟩ | ⟨j2, j3⟩ | ⟨j1, j2, j3⟩
              · rw [show k - 1 = j by omega]; exact j3
              · omega
              · omega
            · intro hx
              rcases hTd with ⟨j, j1, j2, j3⟩ | ⟨j2, j3⟩ | ⟨j1, j2, j3⟩
              · have : j = k - 1 := by
                  rcases Nat.lt_trichotomy j (k - 1) with h3 | h3 | h3
                  · exact absurd j3.1 (hx.2 j h3)
                  · exact h3
                  · exact absurd hx.1 (j3.2 _ h3)
                omega
              · exact absurd hx.1 (j3.2 _ (by omega))
              · exact absurd hx.1 (j1 _ (by omega))
          have nx : (g' 18 ((F d : Int) * 6 + y) = -9 → ¬ wk F T m y (k - 1) (T d)) → jv_At jv_T jv_ml kN_measure 47 [jv_P 14, jv_I y, jv_I k, jv_I (d + 1)] [] (LL n l) (g') Q := by
            intro hx
            refine ihd hd' g' (fun x hx' => ?_) hf
            rcases h1 x hx' with h3 | h3 | ⟨j1, j2, j3⟩
            · exact Or.inl h3
            · exact Or.inr (Or.inl h3)
            · refine Or.inr (Or.inr ⟨j1, j2, fun e he he2 => ?_⟩)
              by_cases hed : e = d
              · subst hed
                exact hx (by rw [he2]; exact j2)
              · exact j3 e (by omega) he2
          by_cases hx : xk F T m y (k - 1) (T d)
          · have hv := hiff.mpr hx
            by_cases h9 : g' 18 ((F d : Int) * 6 + y) = -9
            · have hxF : xk F T m y k (F d) := by
                rcases hFd with ⟨j, j1, j2, j3⟩ | ⟨j2, j3⟩ | ⟨j1, j2, j3⟩
                · omega
                · omega
                · refine ⟨?_, j1⟩
                  rw [show k = k - 1 + 1 by omega]
                  exact ⟨d, hd', rfl, hx.1⟩
              have := ihd hd' (jv_up g' 18 ((F d : Int) * 6 + y) k) (fun x hx' => ?_) (fun p i hp => by rw [up_ne (fun h => hp ⟨h.1, F d, q1, h.2⟩)]; exact hf p i hp)
              · repeat' (first | (with_reducible assumption) | apply And.intro | intro _)
                all_goals (first | omega | exact LLx_ok | assumption | skip)
              · by_cases hxF' : x = F d
                · subst hxF'
                  exact Or.inr (Or.inl ⟨up_eq rfl rfl, hxF⟩)
                · rw [up_ne (by omega)]
                  rcases h1 x hx' with h3 | h3 | ⟨j1, j2, j3⟩
                  · exact Or.inl h3
                  · exact Or.inr (Or.inl h3)
                  · refine Or.inr (Or.inr ⟨j1, j2, fun e he he2 => ?_⟩)
                    by_cases hed : e = d
                    · subst hed; exact absurd he2.symm hxF'
                    · exact j3 e (by omega) he2
            · have := nx (fun h => absurd h h9)
              repeat' (first | (with_reducible assumption) | apply And.intro | intro _)
              all_goals (first | omega | exact LLx_ok | assumption | skip)
          · have hv : ¬ g' 18 ((T d : Int) * 6 + y) = (k : Int) - 1 := fun h => hx (hiff.mp h)
            have := nx (fun h9 hw => ?_)
            · repeat' (first | (with_reducible assumption) | apply And.intro | intro _)
              all_goals (first | omega | exact LLx_ok | assumption | skip)
            · -- a walk shorter than k - 1 would have reached F d before
              obtain ⟨i, i1, i2⟩ := xk_min _ hw
              by_cases hik : i = k - 1
              · subst hik; exact hx i2
              · rcases hFd with ⟨j, j1, j2, j3⟩ | ⟨j2, j3⟩ | ⟨j1, j2, j3⟩
                · omega
                · omega
                · exact j1 (i + 1) (by omega) ⟨d, hd', rfl, i2.1⟩
      refine ds 0 (by omega) g' (fun x hx => ?_) hf
      rcases h1 x hx with h3 | ⟨j1, j2⟩
      · exact Or.inl h3
      · exact Or.inr (Or.inr ⟨j1, j2, fun e he => by omega⟩)
  have init : ∀ x, x ≤ N → ∀ (g' : jv_S) (v : jv_V), (∀ z : Nat, z < x → g' 18 ((z : Int) * 6 + y) = if z = y then 0 else -9) → (∀ (p : Nat) (i : Int), ¬ (p = 18 ∧ ∃ x : Nat, x < N ∧ i = (x : Int) * 6 + y) → g' p i = g p i) → jv_At jv_T jv_ml kN_measure 2 [jv_P 14, jv_I y, jv_I x, v] [] (LL n l) (g') Q := by
    apply loop_up
    intro x hx ih g' v h1 hf
    have f0' : g' 14 0 = N := by rw [hf _ _ (fun h => by omega)]; exact f0
    apply sg_N_measure_2 (A := A)
    have nx : ∀ w : Int, x < N → w = (if x = y then 0 else -9) → jv_At jv_T jv_ml kN_measure 2 [jv_P 14, jv_I y, jv_I (x + 1), v] [] (LL n l) (jv_up g' 18 ((x : Int) * 6 + y) w) Q := fun w hx' hw => ih hx' _ _ (fun z hz => by
      by_cases hzx : z = x
      · subst hzx; rw [up_eq rfl rfl]; exact hw
      · rw [up_ne (by omega)]; exact h1 z (by omega)) (fun p i hp => by rw [up_ne (fun h => hp ⟨h.1, x, hx', h.2⟩)]; exact hf p i hp)
    refine ⟨fun h => rounds 1 (by omega) (by omega) g' _ (fun z hz => ?_) hf, fun h => ⟨⟨by omega, by omega⟩, fun h2 => ⟨⟨by omega, by omega⟩, ⟨by omega, by omega⟩, nx 0 (by omega) (by rw [if_pos (by omega)])⟩, fun h2 => ⟨⟨by omega, by omega⟩, ⟨by omega, by omega⟩, nx (-9) (by omega) (by rw [if_neg (by omega)])⟩⟩⟩
    rw [h1 z (by omega)]
    by_cases hzy : z = y
    · exact Or.inl ⟨0, by omega, by rw [if_pos hzy]; rfl, hzy, fun j hj => by omega⟩
    · refine Or.inr ⟨fun j hj hw => ?_, if_neg hzy⟩
      rw [show j = 0 by omega] at hw
      exact hzy hw
  exact sg_N_measure_0 (A := A) (init 0 (by omega) g _ (fun z hz => by omega) (fun _ _ _ => rfl))
set_option maxRecDepth 100000 in
theorem sg_N_collect_0 {A : jA} {n l : Nat} {g : jv_S} {Q : jv_V → jv_L → jv_S → Prop} {v1 : Int} (h :
   (0 ≤ v1 ∧ v1 < 6) ∧ 
    jv_At jv_T jv_ml kN_collect 9 [jv_P 14, jv_I v1, jv_I (0 : Int), jv_U] [] (LL n l) (jv_up g 39 v1 (0 : Int)) Q) :
  jv_At jv_T jv_ml kN_collect 0 [jv_P 14, jv_I v1, jv_U, jv_U] [] (LL n l) g Q :=
  jv_of_wp (gok9 (A := A)) (md := []) (stop := [9, 43]) (tab := jt_N_collect) rfl 400 _ _ _ _ _ h
set_option maxRecDepth 100000 in
theorem sg_N_collect_9 {A : jA} {n l : Nat} {g : jv_S} {Q : jv_V → jv_L → jv_S → Prop} {v1 v2 : Int} {v3 : jv_V} (h :
   ((g 14 0) ≤ v2 →
     jv_At jv_T jv_ml kN_collect 43 [jv_P 14, jv_I v1, jv_I (0 : Int), v3] [] (LL n l) g Q) ∧
    (¬ (g 14 0) ≤ v2 →
     (0 ≤ v2 ∧ v2 < 6) ∧
      (0 ≤ v1 ∧ v1 < 6) ∧ 
      (0 ≤ v2 ∧ v2 < 6) ∧
      (0 ≤ v1 ∧ v1 < 6) ∧ 
      jv_r32 (v2 + (1 : Int)) ∧
      jv_At jv_T jv_ml kN_collect 9 [jv_P 14, jv_I v1, jv_I (v2 + (1 : Int)), v3] [] (LL n l) (jv_up (jv_up g 25 (v2 * 6 + v1) (0 : Int)) 32 (v2 * 6 + v1) (0 : Int)) Q)) :
  jv_At jv_T jv_ml kN_collect 9 [jv_P 14, jv_I v1, jv_I v2, v3] [] (LL n l) g Q :=
  jv_of_wp (gok9 (A := A)) (md := []) (stop := [9, 43]) (tab := jt_N_collect) rfl 400 _ _ _ _ _ h
set_option maxRecDepth 100000 in
theorem sg_N_collect_43 {A : jA} {n l : Nat} {g : jv_S} {Q : jv_V → jv_L → jv_S → Prop} {v1 v2 : Int} {v3 : jv_V} (h :
   ((g 14 1) ≤ v2 →
     Q jv_U (LL n l) g) ∧
    (¬ (g 14 1) ≤ v2 →
     (0 ≤ v2 ∧ v2 < 10) ∧
      (0 ≤ v2 ∧ v2 < 10) ∧
      ((g 16 v2) = v1 →
       (0 ≤ v1 ∧ v1 < 6) ∧
        (0 ≤ v1 ∧ v1 < 6) ∧ 
        ((g 15 v2) = v1 →
         jv_r32 (v2 + (1 : Int)) ∧
          jv_At jv_T jv_ml kN_collect 43 [jv_P 14, jv_I v1, jv_I (v2 + (1 : Int)), jv_I (g 15 v2)] [] (LL n l) (jv_up g 39 v1 (jv_or (g 39 v1) (jv_shl (1 : Int) v2))) Q) ∧
        (¬ (g 15 v2) = v1 →
         (0 ≤ v2 ∧ v2 < 10) ∧
          (0 ≤ (g 16 v2) ∧ (g 16 v2) < 6) ∧
          (0 ≤ v1 ∧ v1 < 6) ∧
          ((g 18 ((g 16 v2) * 6 + v1)) = (-9 : Int) →
           jv_r32 (v2 + (1 : Int)) ∧
            jv_At jv_T jv_ml kN_collect 43 [jv_P 14, jv_I v1, jv_I (v2 + (1 : Int)), jv_I (g 15 v2)] [] (LL n l) (jv_up g 39 v1 (jv_or (g 39 v1) (jv_shl (1 : Int) v2))) Q) ∧
          (¬ (g 18 ((g 16 v2) * 6 + v1)) = (-9 : Int) →
           (0 ≤ (g 15 v2) ∧ (g 15 v2) < 6) ∧
            (0 ≤ v1 ∧ v1 < 6) ∧
            (0 ≤ v1 ∧ v1 < 6) ∧ 
            (0 ≤ v2 ∧ v2 < 10) ∧
            (0 ≤ (g 16 v2) ∧ (g 16 v2) < 6) ∧
            (0 ≤ v1 ∧ v1 < 6) ∧
            (0 ≤ (g 15 v2) ∧ (g 15 v2) < 6) ∧
            (0 ≤ v1 ∧ v1 < 6) ∧
            jv_r32 ((g 18 ((g 15 v2) * 6 + v1)) - (1 : Int)) ∧
            ((g 18 ((g 16 v2) * 6 + v1)) = ((g 18 ((g 15 v2) * 6 + v1)) - (1 : Int)) →
             (0 ≤ (g 15 v2) ∧ (g 15 v2) < 6) ∧
              (0 ≤ v1 ∧ v1 < 6) ∧
              (0 ≤ v1 ∧ v1 < 6) ∧ 
              jv_r32 (v2 + (1 : Int)) ∧
              jv_At jv_T jv_ml kN_collect 43 [jv_P 14, jv_I v1, jv_I (v2 + (1 : Int)), jv_I (g 15 v2)] [] (LL n l) (jv_up (jv_up (jv_up g 39 v1 (jv_or (g 39 v1) (jv_shl (1 : Int) v2))) 32 ((g 15 v2) * 6 + v1) (jv_or (g 32 ((g 15 v2) * 6 + v1)) (jv_shl (1 : Int) v2))) 25 ((g 15 v2) * 6 + v1) (jv_or (g 25 ((g 15 v2) * 6 + v1)) (jv_shl (1 : Int) v2))) Q) ∧
            (¬ (g 18 ((g 16 v2) * 6 + v1)) = ((g 18 ((g 15 v2) * 6 + v1)) - (1 : Int)) →
             jv_r32 (v2 + (1 : Int)) ∧
              jv_At jv_T jv_ml kN_collect 43 [jv_P 14, jv_I v1, jv_I (v2 + (1 : Int)), jv_I (g 15 v2)] [] (LL n l) (jv_up (jv_up g 39 v1 (jv_or (g 39 v1) (jv_shl (1 : Int) v2))) 32 ((g 15 v2) * 6 + v1) (jv_or (g 32 ((g 15 v2) * 6 + v1)) (jv_shl (1 : Int) v2))) Q)))) ∧
      (¬ (g 16 v2) = v1 →
       ((g 15 v2) = v1 →
         jv_r32 (v2 + (1 : Int)) ∧
          jv_At jv_T jv_ml kN_collect 43 [jv_P 14, jv_I v1, jv_I (v2 + (1 : Int)), jv_I (g 15 v2)] [] (LL n l) g Q) ∧
        (¬ (g 15 v2) = v1 →
         (0 ≤ v2 ∧ v2 < 10) ∧
          (0 ≤ (g 16 v2) ∧ (g 16 v2) < 6) ∧
          (0 ≤ v1 ∧ v1 < 6) ∧
          ((g 18 ((g 16 v2) * 6 + v1)) = (-9 : Int) →
           jv_r32 (v2 + (1 : Int)) ∧
            jv_At jv_T jv_ml kN_collect 43 [jv_P 14, jv_I v1, jv_I (v2 + (1 : Int)), jv_I (g 15 v2)] [] (LL n l) g Q) ∧
          (¬ (g 18 ((g 16 v2) * 6 + v1)) = (-9 : Int) →
           (0 ≤ (g 15 v2) ∧ (g 15 v2) < 6) ∧
            (0 ≤ v1 ∧ v1 < 6) ∧
            (0 ≤ v1 ∧ v1 < 6) ∧ 
            (0 ≤ v2 ∧ v2 < 10) ∧
            (0 ≤ (g 16 v2) ∧ (g 16 v2) < 6) ∧
            (0 ≤ v1 ∧ v1 < 6) ∧
            (0 ≤ (g 15 v2) ∧ (g 15 v2) < 6) ∧
            (0 ≤ v1 ∧ v1 < 6) ∧
            jv_r32 ((g 18 ((g 15 v2) * 6 + v1)) - (1 : Int)) ∧
            ((g 18 ((g 16 v2) * 6 + v1)) = ((g 18 ((g 15 v2) * 6 + v1)) - (1 : Int)) →
             (0 ≤ (g 15 v2) ∧ (g 15 v2) < 6) ∧
              (0 ≤ v1 ∧ v1 < 6) ∧
              (0 ≤ v1 ∧ v1 < 6) ∧ 
              jv_r32 (v2 + (1 : Int)) ∧
              jv_At jv_T jv_ml kN_collect 43 [jv_P 14, jv_I v1, jv_I (v2 + (1 : Int)), jv_I (g 15 v2)] [] (LL n l) (jv_up (jv_up g 32 ((g 15 v2) * 6 + v1) (jv_or (g 32 ((g 15 v2) * 6 + v1)) (jv_shl (1 : Int) v2))) 25 ((g 15 v2) * 6 + v1) (jv_or (g 25 ((g 15 v2) * 6 + v1)) (jv_shl (1 : Int) v2))) Q) ∧
            (¬ (g 18 ((g 16 v2) * 6 + v1)) = ((g 18 ((g 15 v2) * 6 + v1)) - (1 : Int)) →
             jv_r32 (v2 + (1 : Int)) ∧
              jv_At jv_T jv_ml kN_collect 43 [jv_P 14, jv_I v1, jv_I (v2 + (1 : Int)), jv_I (g 15 v2)] [] (LL n l) (jv_up g 32 ((g 15 v2) * 6 + v1) (jv_or (g 32 ((g 15 v2) * 6 + v1)) (jv_shl (1 : Int) v2))) Q)))))) :
  jv_At jv_T jv_ml kN_collect 43 [jv_P 14, jv_I v1, jv_I v2, v3] [] (LL n l) g Q :=
  jv_of_wp (gok9 (A := A)) (md := []) (stop := [9, 43]) (tab := jt_N_collect) rfl 400 _ _ _ _ _ h
theorem tr_N_collect {A : jA} {n l : Nat} {g : jv_S} {Q : jv_V → jv_L → jv_S → Prop} {y : Nat} (hw : wf A) (f0 : g 14 0 = nd A) (f1 : g 14 1 = ln A) (hF : ∀ c : Nat, c < ln A → g 15 c = fr A c) (hT : ∀ c : Nat, c < ln A → g 16 c = tt A c) (hy : y < nd A) (h18 : ∀ x : Nat, x < nd A → g 18 ((x : Int) * 6 + y) = fa A x y)
  (hQ : ∀ g' : jv_S, (∀ x : Nat, x < nd A → g' 25 ((x : Int) * 6 + y) = mk (nr A x y) (ln A) ∧ g' 32 ((x : Int) * 6 + y) = mk (ld A x y) (ln A)) → g' 39 y = mk (fun d => decide (tt A d = y)) (ln A) → (∀ (p : Nat) (i : Int), ¬ (p = 39 ∧ i = y) → ¬ ((p = 25 ∨ p = 32) ∧ ∃ x : Nat, x < nd A ∧ i = (x : Int) * 6 + y) → g' p i = g p i) → Q jv_U (LL n l) g') :
  jv_Ca jv_T jv_ml kN_collect [jv_P 14, jv_I y] (LL n l) g Q := by
  have w1 := hw.1
  have w2 := hw.2.1
  have ds : ∀ d, d ≤ ln A → ∀ (g' : jv_S) (v : jv_V), (∀ x : Nat, x < nd A → g' 25 ((x : Int) * 6 + y) = mk (nr A x y) d ∧ g' 32 ((x : Int) * 6 + y) = mk (ld A x y) d) → g' 39 y = mk (fun d => decide (tt A d = y)) d → (∀ (p : Nat) (i : Int), ¬ (p = 39 ∧ i = y) → ¬ ((p = 25 ∨ p = 32) ∧ ∃ x : Nat, x < nd A ∧ i = (x : Int) * 6 + y) → g' p i = g p i) → jv_At jv_T jv_ml kN_collect 43 [jv_P 14, jv_I y, jv_I d, v] [] (LL n l) (g') Q := by
    apply loop_up
    intro d hd ih g' v h1 h2 hf
    have f1' : g' 14 1 = ln A := by rw [hf _ _ (by omega) (by omega)]; exact f1
    apply sg_N_collect_43 (A := A)
    refine ⟨fun h => ?_, fun h => ?_⟩
    · have hdl : d = ln A := by omega
      subst hdl
      exact hQ g' h1 h2 hf
    · have hd' : d < ln A := by omega
      obtain ⟨q1, q2, q3, -, -, -⟩ := hw.2.2.2.1 d hd'
      have fF : g' 15 d = fr A d := by rw [hf _ _ (by omega) (by omega)]; exact hF d hd'
      have fT : g' 16 d = tt A d := by rw [hf _ _ (by omega) (by omega)]; exact hT d hd'
      have fFT : g' 18 ((tt A d : Int) * 6 + y) = fa A (tt A d) y := by rw [hf _ _ (by omega) (by omega)]; exact h18 _ q2
      have fFF : g' 18 ((fr A d : Int) * 6 + y) = fa A (fr A d) y := by rw [hf _ _ (by omega) (by omega)]; exact h18 _ q1
      have bF := hw.2.2.2.2 (fr A d) y q1 hy
      rw [fF, fT, fFT, fFF]
      -- the row of fr d, changed or not
      have fin : ∀ (g2 : jv_S) (w : jv_V), g2 25 ((fr A d : Int) * 6 + y) = mk (nr A (fr A d) y) (d + 1) → g2 32 ((fr A d : Int) * 6 + y) = mk (ld A (fr A d) y) (d + 1) → g2 39 y = mk (fun d => decide (tt A d = y)) (d + 1) → (∀ (p : Nat) (i : Int), ¬ (p = 39 ∧ i = y) → ¬ ((p = 25 ∨ p = 32) ∧ i = (fr A d : Int) * 6 + y) → g2 p i = g' p i) → jv_At jv_T jv_ml kN_collect 43 [jv_P 14, jv_I y, jv_I (d + 1), w] [] (LL n l) g2 Q := by
        intro g2 w a1 a2 a3 a4
        refine ih hd' g2 w (fun x hx => ?_) a3 (fun p i hp hp2 => by rw [a4 _ _ hp (fun h => hp2 ⟨h.1, fr A d, q1, h.2⟩)]; exact hf p i hp hp2)
        by_cases hxF : x = fr A d
        · subst hxF; exact ⟨a1, a2⟩
        · obtain ⟨b1, b2⟩ := h1 x hx
          have e1 : ld A x y d = false := by unfold ld; rw [decide_eq_false (fun h => hxF h.symm)]; rfl
          have e2 : nr A x y d = false := by unfold nr; rw [e1]; rfl
          rw [a4 _ _ (by omega) (by omega), a4 _ _ (by omega) (by omega)]
          exact ⟨mk_no b1 e2, mk_no b2 e1⟩
      obtain ⟨c1, c2⟩ := h1 (fr A d) q1
      have nold : ¬ ld A (fr A d) y d = true → mk (nr A (fr A d) y) (d + 1) = mk (nr A (fr A d) y) d ∧ mk (ld A (fr A d) y) (d + 1) = mk (ld A (fr A d) y) d := fun h3 => by
        have h3 : ld A (fr A d) y d = false := by simpa using h3
        have h4 : nr A (fr A d) y d = false := by unfold nr; rw [h3]; rfl
        constructor
        · have := mk_no (p := nr A (fr A d) y) (d := d) rfl h4; omega
        · have := mk_no (p := ld A (fr A d) y) (d := d) rfl h3; omega
      have o39 : tt A d = y → jv_or (g' 39 y) (jv_shl (1 : Int) (d : Int)) = mk (fun d => decide (tt A d = y)) (d + 1) := fun h3 => mk_or (by omega) h2 (decide_eq_true h3)
      have n39 : tt A d ≠ y → g' 39 y = mk (fun d => decide (tt A d = y)) (d + 1) := fun h3 => mk_no h2 (decide_eq_false h3)
      have ldt : fr A d ≠ y → fa A (tt A d) y ≠ -9 → ld A (fr A d) y d = true := fun a b => by unfold ld; rw [decide_eq_true rfl, decide_eq_true a, decide_eq_true b]; rfl
      have o32 : fr A d ≠ y → fa A (tt A d) y ≠ -9 → jv_or (g' 32 ((fr A d : Int) * 6 + y)) (jv_shl (1 : Int) (d : Int)) = mk (ld A (fr A d) y) (d + 1) := fun a b => mk_or (by omega) c2 (ldt a b)
      have nrt : fr A d ≠ y → fa A (tt A d) y ≠ -9 → fa A (tt A d) y = fa A (fr A d) y - 1 → jv_or (g' 25 ((fr A d : Int) * 6 + y)) (jv_shl (1 : Int) (d : Int)) = mk (nr A (fr A d) y) (d + 1) := fun a b c => mk_or (by omega) c1 (by unfold nr; rw [ldt a b, decide_eq_true c]; rfl)
      have nrf : ¬ fa A (tt A d) y = fa A (fr A d) y - 1 → g' 25 ((fr A d : Int) * 6 + y) = mk (nr A (fr A d) y) (d + 1) := fun c => mk_no c1 (by unfold nr; rw [decide_eq_false c, Bool.and_false])
      refine ⟨⟨by omega, by omega⟩, ⟨by omega, by omega⟩, fun h3 => ⟨⟨by omega, by omega⟩, ⟨by omega, by omega⟩, fun h4 => by omega, fun h4 => ⟨⟨by omega, by omega⟩, ⟨by omega, by omega⟩, ⟨by omega, by omega⟩, fun h5 => ⟨⟨by omega, by omega⟩, ?_⟩, fun h5 => ⟨⟨by omega, by omega⟩, ⟨by omega, by omega⟩, ⟨by omega, by omega⟩, ⟨by omega, by omega⟩, ⟨by omega, by omega⟩, ⟨by omega, by omega⟩, ⟨by omega, by omega⟩, ⟨by omega, by omega⟩, ⟨by omega, by omega⟩, fun h6 => ⟨⟨by omega, by omega⟩, ⟨by omega, by omega⟩, ⟨by omega, by omega⟩, ⟨by omega, by omega⟩, ?_⟩, fun h6 => ⟨⟨by omega, by omega⟩, ?_⟩⟩⟩⟩, fun h3 => ⟨fun h4 => ⟨⟨by omega, by omega⟩, ?_⟩, fun h4 => ⟨⟨by omega, by omega⟩, ⟨by omega, by omega⟩, ⟨by omega, by omega⟩, fun h5 => ⟨⟨by omega, by omega⟩, ?_⟩, fun h5 => ⟨⟨by omega, by omega⟩, ⟨by omega, by omega⟩, ⟨by omega, by omega⟩, ⟨by omega, by omega⟩, ⟨by omega, by omega⟩, ⟨by omega, by omega⟩, ⟨by omega, by omega⟩, ⟨by omega, by omega⟩, ⟨by omega, by omega⟩, fun h6 => ⟨⟨by omega, by omega⟩, ⟨by omega, by omega⟩, ⟨by omega, by omega⟩, ⟨by omega, by omega⟩, ?_⟩, fun h6 => ⟨⟨by omega, by omega⟩, ?_⟩⟩⟩⟩⟩
      · obtain ⟨e1, e2⟩ := nold (fun hl => by unfold ld at hl; simp [h5] at hl)
        exact fin _ _ (by rw [up_ne (by omega), e1]; exact c1) (by rw [up_ne (by omega), e2]; exact c2) (by rw [up_eq rfl rfl]; exact o39 (by omega)) (fun p i hp hp2 => up_ne (by omega))
      · exact fin _ _ (by rw [up_eq rfl rfl]; exact nrt (by omega) h5 h6) (by rw [up_ne (by omega), up_eq rfl rfl]; exact o32 (by omega) h5) (by rw [up_ne (by omega), up_ne (by omega), up_eq rfl rfl]; exact o39 (by omega)) (fun p i hp hp2 => by rw [up_ne (by omega), up_ne (by omega), up_ne (by omega)])
      · exact fin _ _ (by rw [up_ne (by omega), up_ne (by omega)]; exact nrf h6) (by rw [up_eq rfl rfl]; exact o32 (by omega) h5) (by rw [up_ne (by omega), up_eq rfl rfl]; exact o39 (by omega)) (fun p i hp hp2 => by rw [up_ne (by omega), up_ne (by omega)])
      · obtain ⟨e1, e2⟩ := nold (fun hl => by unfold ld at hl; have : fr A d = y := (by omega); simp [this] at hl)
        exact fin _ _ (by rw [e1]; exact c1) (by rw [e2]; exact c2) (n39 (by omega)) (fun p i hp hp2 => rfl)
      · obtain ⟨e1, e2⟩ := nold (fun hl => by unfold ld at hl; simp [h5] at hl)
        exact fin _ _ (by rw [e1]; exact c1) (by rw [e2]; exact c2) (n39 (by omega)) (fun p i hp hp2 => rfl)
      · exact fin _ _ (by rw [up_eq rfl rfl]; exact nrt (by omega) h5 h6) (by rw [up_ne (by omega), up_eq rfl rfl]; exact o32 (by omega) h5) (by rw [up_ne (by omega), up_ne (by omega)]; exact n39 (by omega)) (fun p i hp hp2 => by rw [up_ne (by omega), up_ne (by omega)])
      · exact fin _ _ (by rw [up_ne (by omega)]; exact nrf h6) (by rw [up_eq rfl rfl]; exact o32 (by omega) h5) (by rw [up_ne (by omega)]; exact n39 (by omega)) (fun p i hp hp2 => by rw [up_ne (by omega)])
  have zs : ∀ x, x ≤ nd A → ∀ (g' : jv_S) (v : jv_V), (∀ z : Nat, z < x → g' 25 ((z : Int) * 6 + y) = 0 ∧ g' 32 ((z : Int) * 6 + y) = 0) → g' 39 y = 0 → (∀ (p : Nat) (i : Int), ¬ (p = 39 ∧ i = y) → ¬ ((p = 25 ∨ p = 32) ∧ ∃ x : Nat, x < nd A ∧ i = (x : Int) * 6 + y) → g' p i = g p i) → jv_At jv_T jv_ml kN_collect 9 [jv_P 14, jv_I y, jv_I x, v] [] (LL n l) (g') Q := by
    apply loop_up
    intro x hx ih g' v h1 h2 hf
    have f0' : g' 14 0 = nd A := by rw [hf _ _ (by omega) (by omega)]; exact f0
    apply sg_N_collect_9 (A := A)
    refine ⟨fun h => ds 0 (by omega) g' _ (fun z hz => ⟨(h1 z (by omega)).1, (h1 z (by omega)).2⟩) h2 hf, fun h => ⟨⟨by omega, by omega⟩, ⟨by omega, by omega⟩, ⟨by omega, by omega⟩, ⟨by omega, by omega⟩, ⟨by omega, by omega⟩, ih (by omega) _ _ (fun z hz => ?_) (by rw [up_ne (by omega), up_ne (by omega)]; exact h2) (fun p i hp hp2 => by rw [up_ne (fun h3 => hp2 ⟨Or.inr h3.1, x, by omega, h3.2⟩), up_ne (fun h3 => hp2 ⟨Or.inl h3.1, x, by omega, h3.2⟩)]; exact hf p i hp hp2)⟩⟩
    by_cases hzx : z = x
    · subst hzx
      exact ⟨by rw [up_ne (by omega), up_eq rfl rfl], up_eq rfl rfl⟩
    · exact ⟨by rw [up_ne (by omega), up_ne (by omega)]; exact (h1 z (by omega)).1, by rw [up_ne (by omega), up_ne (by omega)]; exact (h1 z (by omega)).2⟩
  exact sg_N_collect_0 (A := A) ⟨⟨by omega, by omega⟩, zs 0 (by omega) _ _ (fun z hz => by omega) (up_eq rfl rfl) (fun p i hp _ => up_ne (by omega))⟩
set_option maxRecDepth 100000 in
theorem sg_N_build_0 {A : jA} {n l : Nat} {g : jv_S} {Q : jv_V → jv_L → jv_S → Prop} (h :
   (0 ≤ (0 : Int) ∧ 0 ≤ (0 : Int) ∧ 0 ≤ (g 10 4) ∧ (0 : Int) + (g 10 4) ≤ 10 ∧ (0 : Int) + (g 10 4) ≤ 10) ∧
    (0 ≤ (0 : Int) ∧ 0 ≤ (0 : Int) ∧ 0 ≤ (g 10 4) ∧ (0 : Int) + (g 10 4) ≤ 10 ∧ (0 : Int) + (g 10 4) ≤ 10) ∧
    (0 ≤ (0 : Int) ∧ 0 ≤ (0 : Int) ∧ 0 ≤ (g 10 4) ∧ (0 : Int) + (g 10 4) ≤ 10 ∧ (0 : Int) + (g 10 4) ≤ 10) ∧
    jv_At jv_T jv_ml kN_build 69 [jv_P 14, jv_P 10, jv_I (0 : Int)] [] (LL n l) (jv_cp (jv_cp (jv_cp (jv_up (jv_up g 14 0 (g 10 3)) 14 1 (g 10 4)) 11 (0 + (0 : Int)) 15 (0 + (0 : Int)) (g 10 4)) 12 (0 + (0 : Int)) 16 (0 + (0 : Int)) (g 10 4)) 13 (0 + (0 : Int)) 17 (0 + (0 : Int)) (g 10 4)) Q) :
  jv_At jv_T jv_ml kN_build 0 [jv_P 14, jv_P 10, jv_U] [] (LL n l) g Q :=
  jv_of_wp (gok9 (A := A)) (md := []) (stop := [69]) (tab := jt_N_build) rfl 400 _ _ _ _ _ h
set_option maxRecDepth 100000 in
theorem sg_N_build_69 {A : jA} {n l : Nat} {g : jv_S} {Q : jv_V → jv_L → jv_S → Prop} {v2 : Int} (h :
   ((g 14 0) ≤ v2 →
     Q jv_U (LL n l) g) ∧
    (¬ (g 14 0) ≤ v2 →
     jv_Ca jv_T jv_ml kN_measure [jv_P 14, jv_I v2] (LL n l) g (fun r L2 g2 => jv_At jv_T jv_ml kN_build 82 [jv_P 14, jv_P 10, jv_I v2] (jv_pu r []) L2 g2 Q))) :
  jv_At jv_T jv_ml kN_build 69 [jv_P 14, jv_P 10, jv_I v2] [] (LL n l) g Q :=
  jv_of_wp (gok9 (A := A)) (md := []) (stop := [69]) (tab := jt_N_build) rfl 400 _ _ _ _ _ h
set_option maxRecDepth 100000 in
theorem sg_N_build_82 {A : jA} {n l : Nat} {g : jv_S} {Q : jv_V → jv_L → jv_S → Prop} {v2 : Int} (h :
   jv_Ca jv_T jv_ml kN_collect [jv_P 14, jv_I v2] (LL n l) g (fun r L2 g2 => jv_At jv_T jv_ml kN_build 87 [jv_P 14, jv_P 10, jv_I v2] (jv_pu r []) L2 g2 Q)) :
  jv_At jv_T jv_ml kN_build 82 [jv_P 14, jv_P 10, jv_I v2] [] (LL n l) g Q :=
  jv_of_wp (gok9 (A := A)) (md := []) (stop := [69]) (tab := jt_N_build) rfl 400 _ _ _ _ _ h
set_option maxRecDepth 100000 in
theorem sg_N_build_87 {A : jA} {n l : Nat} {g : jv_S} {Q : jv_V → jv_L → jv_S → Prop} {v2 : Int} (h :
   jv_r32 (v2 + (1 : Int)) ∧
    jv_At jv_T jv_ml kN_build 69 [jv_P 14, jv_P 10, jv_I (v2 + (1 : Int))] [] (LL n l) g Q) :
  jv_At jv_T jv_ml kN_build 87 [jv_P 14, jv_P 10, jv_I v2] [] (LL n l) g Q :=
  jv_of_wp (gok9 (A := A)) (md := []) (stop := [69]) (tab := jt_N_build) rfl 400 _ _ _ _ _ h
theorem cp_ne {g : jv_S} {ps pd q : Nat} {os od n j : Int} (h : q ≠ pd) : jv_cp g ps os pd od n q j = g q j := if_neg (fun h1 => h h1.1)
theorem cp_out {g : jv_S} {ps pd q : Nat} {os od n j : Int} (h : ¬ (q = pd ∧ od ≤ j ∧ j < od + n)) : jv_cp g ps os pd od n q j = g q j := if_neg h
theorem cp_in {g : jv_S} {ps pd : Nat} {os od n j : Int} (h1 : od ≤ j) (h2 : j < od + n) : jv_cp g ps os pd od n pd j = g ps (os + (j - od)) := if_pos ⟨rfl, h1, h2⟩
theorem tr_N_build {n l : Nat} {g : jv_S} {Q : jv_V → jv_L → jv_S → Prop} {N m r : Nat} {F T R : Nat → Nat} (ho : okN N m F T R) (hr : r ≤ 2) (f0 : g 10 3 = N) (f1 : g 10 4 = m) (hF : ∀ c : Nat, c < m → g 11 c = F c) (hT : ∀ c : Nat, c < m → g 12 c = T c) (hR : ∀ c : Nat, c < m → g 13 c = R c)
  (hQ : ∀ g' : jv_S, CN (mkA N m r F T R) g' → (∀ (p : Nat) (i : Int), ¬ (14 ≤ p ∧ p ≤ 39) → g' p i = g p i) → Q jv_U (LL n l) g') :
  jv_Ca jv_T jv_ml kN_build [jv_P 14, jv_P 10] (LL n l) g Q := by
  have hw := mkA_wf (r := r) ho hr
  obtain ⟨o1, o2, o3⟩ := id ho
  have A0 : jA := mkA N m r F T R
  apply sg_N_build_0 (A := mkA N m r F T R)
  rw [f0, f1]
  refine ⟨⟨by omega, by omega, by omega, by omega, by omega⟩, ⟨by omega, by omega, by omega, by omega, by omega⟩, ⟨by omega, by omega, by omega, by omega, by omega⟩, ?_⟩
  obtain ⟨G, hG⟩ : ∃ G, G = jv_cp (jv_cp (jv_cp (jv_up (jv_up g 14 0 N) 14 1 m) 11 (0 + 0) 15 (0 + 0) m) 12 (0 + 0) 16 (0 + 0) m) 13 (0 + 0) 17 (0 + 0) m := ⟨_, rfl⟩
  rw [← hG]
  have g0 : G 14 0 = N := by rw [hG, cp_ne (by decide), cp_ne (by decide), cp_ne (by decide), up_ne (by omega), up_eq rfl rfl]
  have g1 : G 14 1 = m := by rw [hG, cp_ne (by decide), cp_ne (by decide), cp_ne (by decide), up_eq rfl rfl]
  have gF : ∀ c : Nat, c < m → G 15 c = F c := fun c hc => by
    rw [hG, cp_ne (by decide), cp_ne (by decide), cp_in (by omega) (by omega), up_ne (by omega), up_ne (by omega), show (0 : Int) + 0 + ((c : Int) - (0 + 0)) = c by omega]
    exact hF c hc
  have gT : ∀ c : Nat, c < m → G 16 c = T c := fun c hc => by
    rw [hG, cp_ne (by decide), cp_in (by omega) (by omega), cp_ne (by decide), up_ne (by omega), up_ne (by omega), show (0 : Int) + 0 + ((c : Int) - (0 + 0)) = c by omega]
    exact hT c hc
  have gR : ∀ c : Nat, c < m → G 17 c = R c := fun c hc => by
    rw [hG, cp_in (by omega) (by omega), cp_ne (by decide), cp_ne (by decide), up_ne (by omega), up_ne (by omega), show (0 : Int) + 0 + ((c : Int) - (0 + 0)) = c by omega]
    exact hR c hc
  have gf : ∀ (p : Nat) (i : Int), ¬ (14 ≤ p ∧ p ≤ 39) → G p i = g p i := fun p i hp => by rw [hG, cp_ne (by omega), cp_ne (by omega), cp_ne (by omega), up_ne (by omega), up_ne (by omega)]
  have main : ∀ y, y ≤ N → ∀ g' : jv_S, (∀ x z : Nat, x < N → z < y → g' 18 ((x : Int) * 6 + z) = fdv F T m x z ∧ g' 25 ((x : Int) * 6 + z) = mk (nr (mkA N m r F T R) x z) m ∧ g' 32 ((x : Int) * 6 + z) = mk (ld (mkA N m r F T R) x z) m) → (∀ z : Nat, z < y → g' 39 z = mk (fun d => decide (T d = z)) m) → (∀ (p : Nat) (i : Int), ¬ (18 ≤ p ∧ p ≤ 39) → g' p i = G p i) → jv_At jv_T jv_ml kN_build 69 [jv_P 14, jv_P 10, jv_I y] [] (LL n l) (g') Q := by
    apply loop_up
    intro y hy ih g' h1 h2 hf
    have f0' : g' 14 0 = N := by rw [hf _ _ (by omega)]; exact g0
    have f1' : g' 14 1 = m := by rw [hf _ _ (by omega)]; exact g1
    have fF : ∀ c : Nat, c < m → g' 15 c = F c := fun c hc => by rw [hf _ _ (by omega)]; exact gF c hc
    have fT : ∀ c : Nat, c < m → g' 16 c = T c := fun c hc => by rw [hf _ _ (by omega)]; exact gT c hc
    apply sg_N_build_69 (A := mkA N m r F T R)
    refine ⟨fun h => ?_, fun h => ?_⟩
    · have hyl : y = N := by omega
      subst hyl
      refine hQ g' ⟨hw, f0', f1', fun c hc => ⟨fF c hc, fT c hc, by rw [hf _ _ (by omega)]; exact gR c hc⟩, fun x z hx hz => h1 x z hx hz, fun z hz => h2 z hz⟩ (fun p i hp => by rw [hf _ _ (by omega), gf _ _ hp])
    · refine tr_N_measure (A := mkA N m r F T R) ho f0' f1' fF fT (y := y) (by omega) (fun g2 a1 a2 => ?_)
      apply sg_N_build_82 (A := mkA N m r F T R)
      have k14 : ∀ (p : Nat) (i : Int), p ≠ 18 → g2 p i = g' p i := fun p i hp => a2 _ _ (fun h => hp h.1)
      refine tr_N_collect (A := mkA N m r F T R) hw (by rw [k14 _ _ (by decide)]; exact f0') (by rw [k14 _ _ (by decide)]; exact f1') (fun c hc => by rw [k14 _ _ (by decide)]; exact fF c hc) (fun c hc => by rw [k14 _ _ (by decide)]; exact fT c hc) (y := y) (show y < N by omega) a1 (fun g3 b1 b2 b3 => ?_)
      apply sg_N_build_87 (A := mkA N m r F T R)
      refine ⟨⟨by omega, by omega⟩, ih (by omega) g3 (fun x z hx hz => ?_) (fun z hz => ?_) (fun p i hp => by rw [b3 _ _ (by omega) (by omega), k14 _ _ (by omega)]; exact hf p i hp)⟩
      · by_cases hzy : z = y
        · subst hzy
          refine ⟨by rw [b3 _ _ (by omega) (by omega)]; exact a1 x hx, (b1 x hx).1, (b1 x hx).2⟩
        · obtain ⟨c1, c2, c3⟩ := h1 x z hx (by omega)
          refine ⟨?_, ?_, ?_⟩
          · rw [b3 _ _ (by omega) (by omega), a2 _ _ (fun ⟨_, x', _, h4⟩ => by omega)]; exact c1
          · rw [b3 _ _ (by omega) (fun ⟨_, x', h3, h4⟩ => by have h3 : x' < N := h3; omega), k14 _ _ (by decide)]; exact c2
          · rw [b3 _ _ (by omega) (fun ⟨_, x', h3, h4⟩ => by have h3 : x' < N := h3; omega), k14 _ _ (by decide)]; exact c3
      · by_cases hzy : z = y
        · subst hzy; exact b2
        · rw [b3 _ _ (by omega) (by omega), k14 _ _ (by decide)]; exact h2 z (by omega)
  exact main 0 (by omega) G (fun x z _ hz => by omega) (fun z hz => by omega) (fun _ _ _ => rfl)
set_option maxRecDepth 100000 in
theorem sg_Y_layFar_0 {A : jA} {n l : Nat} {g : jv_S} {Q : jv_V → jv_L → jv_S → Prop} (h :
   jv_At jv_T jv_ml kY_layFar 2 [jv_P 136, jv_I (0 : Int), jv_U, jv_U, jv_U, jv_U] [] (LL n l) g Q) :
  jv_At jv_T jv_ml kY_layFar 0 [jv_P 136, jv_U, jv_U, jv_U, jv_U, jv_U] [] (LL n l) g Q :=
  jv_of_wp (gok9 (A := A)) (md := []) (stop := [2, 39, 47, 57]) (tab := jt_Y_layFar) rfl 400 _ _ _ _ _ h
set_option maxRecDepth 100000 in
theorem sg_Y_layFar_2 {A : jA} {n l : Nat} {g : jv_S} {Q : jv_V → jv_L → jv_S → Prop} {v1 : Int} {v2 v3 v4 v5 : jv_V} (h :
   ((36 : Int) ≤ v1 →
     jv_At jv_T jv_ml kY_layFar 39 [jv_P 136, jv_I (0 : Int), v2, v3, v4, v5] [] (LL n l) g Q) ∧
    (¬ (36 : Int) ≤ v1 →
     (0 ≤ v1 ∧ 0 < (6 : Int)) ∧
      (0 ≤ v1 ∧ 0 < (6 : Int)) ∧
      ((v1 / (6 : Int)) = (v1 % (6 : Int)) →
       (0 ≤ v1 ∧ v1 < 36) ∧ 
        jv_r32 (v1 + (1 : Int)) ∧
        jv_At jv_T jv_ml kY_layFar 2 [jv_P 136, jv_I (v1 + (1 : Int)), v2, v3, v4, v5] [] (LL n l) (jv_up g 144 v1 (0 : Int)) Q) ∧
      (¬ (v1 / (6 : Int)) = (v1 % (6 : Int)) →
       (0 ≤ v1 ∧ v1 < 36) ∧ 
        jv_r32 (v1 + (1 : Int)) ∧
        jv_At jv_T jv_ml kY_layFar 2 [jv_P 136, jv_I (v1 + (1 : Int)), v2, v3, v4, v5] [] (LL n l) (jv_up g 144 v1 (-9 : Int)) Q))) :
  jv_At jv_T jv_ml kY_layFar 2 [jv_P 136, jv_I v1, v2, v3, v4, v5] [] (LL n l) g Q :=
  jv_of_wp (gok9 (A := A)) (md := []) (stop := [2, 39, 47, 57]) (tab := jt_Y_layFar) rfl 400 _ _ _ _ _ h
set_option maxRecDepth 100000 in
theorem sg_Y_layFar_39 {A : jA} {n l : Nat} {g : jv_S} {Q : jv_V → jv_L → jv_S → Prop} {v1 : Int} {v2 v3 v4 v5 : jv_V} (h :
   ((6 : Int) ≤ v1 →
     Q jv_U (LL n l) g) ∧
    (¬ (6 : Int) ≤ v1 →
     jv_At jv_T jv_ml kY_layFar 47 [jv_P 136, jv_I v1, jv_I (0 : Int), v3, v4, v5] [] (LL n l) g Q)) :
  jv_At jv_T jv_ml kY_layFar 39 [jv_P 136, jv_I v1, v2, v3, v4, v5] [] (LL n l) g Q :=
  jv_of_wp (gok9 (A := A)) (md := []) (stop := [2, 39, 47, 57]) (tab := jt_Y_layFar) rfl 400 _ _ _ _ _ h
set_option maxRecDepth 100000 in
theorem sg_Y_layFar_47 {A : jA} {n l : Nat} {g : jv_S} {Q : jv_V → jv_L → jv_S → Prop} {v1 v2 : Int} {v3 v4 v5 : jv_V} (h :
   ((g 136 6) ≤ v2 →
     jv_r32 (v1 + (1 : Int)) ∧
      jv_At jv_T jv_ml kY_layFar 39 [jv_P 136, jv_I (v1 + (1 : Int)), jv_I v2, v3, v4, v5] [] (LL n l) g Q) ∧
    (¬ (g 136 6) ≤ v2 →
     jv_At jv_T jv_ml kY_layFar 57 [jv_P 136, jv_I v1, jv_I v2, jv_I (0 : Int), v4, v5] [] (LL n l) g Q)) :
  jv_At jv_T jv_ml kY_layFar 47 [jv_P 136, jv_I v1, jv_I v2, v3, v4, v5] [] (LL n l) g Q :=
  jv_of_wp (gok9 (A := A)) (md := []) (stop := [2, 39, 47, 57]) (tab := jt_Y_layFar) rfl 400 _ _ _ _ _ h
set_option maxRecDepth 100000 in
theorem sg_Y_layFar_57 {A : jA} {n l : Nat} {g : jv_S} {Q : jv_V → jv_L → jv_S → Prop} {v1 v2 v3 : Int} {v4 v5 : jv_V} (h :
   ((g 136 5) ≤ v3 →
     jv_r32 (v2 + (1 : Int)) ∧
      jv_At jv_T jv_ml kY_layFar 47 [jv_P 136, jv_I v1, jv_I (v2 + (1 : Int)), jv_I v3, v4, v5] [] (LL n l) g Q) ∧
    (¬ (g 136 5) ≤ v3 →
     (0 ≤ v2 ∧ v2 < 10) ∧
      jv_r32 ((6 : Int) * (g 141 v2)) ∧
      jv_r32 (((6 : Int) * (g 141 v2)) + v3) ∧
      (0 ≤ (((6 : Int) * (g 141 v2)) + v3) ∧ (((6 : Int) * (g 141 v2)) + v3) < 36) ∧
      (0 ≤ v2 ∧ v2 < 10) ∧
      jv_r32 ((6 : Int) * (g 140 v2)) ∧
      jv_r32 (((6 : Int) * (g 140 v2)) + v3) ∧
      (0 ≤ (((6 : Int) * (g 140 v2)) + v3) ∧ (((6 : Int) * (g 140 v2)) + v3) < 36) ∧
      ((g 144 (((6 : Int) * (g 141 v2)) + v3)) = (-9 : Int) →
       jv_r32 (v3 + (1 : Int)) ∧
        jv_At jv_T jv_ml kY_layFar 57 [jv_P 136, jv_I v1, jv_I v2, jv_I (v3 + (1 : Int)), jv_I (g 144 (((6 : Int) * (g 141 v2)) + v3)), jv_I (g 144 (((6 : Int) * (g 140 v2)) + v3))] [] (LL n l) g Q) ∧
      (¬ (g 144 (((6 : Int) * (g 141 v2)) + v3)) = (-9 : Int) →
       ((g 144 (((6 : Int) * (g 140 v2)) + v3)) = (-9 : Int) →
         (0 ≤ v2 ∧ v2 < 10) ∧
          jv_r32 ((6 : Int) * (g 140 v2)) ∧
          jv_r32 (((6 : Int) * (g 140 v2)) + v3) ∧
          jv_r32 ((g 144 (((6 : Int) * (g 141 v2)) + v3)) + (1 : Int)) ∧
          (0 ≤ (((6 : Int) * (g 140 v2)) + v3) ∧ (((6 : Int) * (g 140 v2)) + v3) < 36) ∧ 
          jv_r32 (v3 + (1 : Int)) ∧
          jv_At jv_T jv_ml kY_layFar 57 [jv_P 136, jv_I v1, jv_I v2, jv_I (v3 + (1 : Int)), jv_I (g 144 (((6 : Int) * (g 141 v2)) + v3)), jv_I (g 144 (((6 : Int) * (g 140 v2)) + v3))] [] (LL n l) (jv_up g 144 (((6 : Int) * (g 140 v2)) + v3) ((g 144 (((6 : Int) * (g 141 v2)) + v3)) + (1 : Int))) Q) ∧
        (¬ (g 144 (((6 : Int) * (g 140 v2)) + v3)) = (-9 : Int) →
         jv_r32 ((g 144 (((6 : Int) * (g 141 v2)) + v3)) + (1 : Int)) ∧
          ((g 144 (((6 : Int) * (g 140 v2)) + v3)) ≤ ((g 144 (((6 : Int) * (g 141 v2)) + v3)) + (1 : Int)) →
           jv_r32 (v3 + (1 : Int)) ∧
            jv_At jv_T jv_ml kY_layFar 57 [jv_P 136, jv_I v1, jv_I v2, jv_I (v3 + (1 : Int)), jv_I (g 144 (((6 : Int) * (g 141 v2)) + v3)), jv_I (g 144 (((6 : Int) * (g 140 v2)) + v3))] [] (LL n l) g Q) ∧
          (¬ (g 144 (((6 : Int) * (g 140 v2)) + v3)) ≤ ((g 144 (((6 : Int) * (g 141 v2)) + v3)) + (1 : Int)) →
           (0 ≤ v2 ∧ v2 < 10) ∧
            jv_r32 ((6 : Int) * (g 140 v2)) ∧
            jv_r32 (((6 : Int) * (g 140 v2)) + v3) ∧
            jv_r32 ((g 144 (((6 : Int) * (g 141 v2)) + v3)) + (1 : Int)) ∧
            (0 ≤ (((6 : Int) * (g 140 v2)) + v3) ∧ (((6 : Int) * (g 140 v2)) + v3) < 36) ∧ 
            jv_r32 (v3 + (1 : Int)) ∧
            jv_At jv_T jv_ml kY_layFar 57 [jv_P 136, jv_I v1, jv_I v2, jv_I (v3 + (1 : Int)), jv_I (g 144 (((6 : Int) * (g 141 v2)) + v3)), jv_I (g 144 (((6 : Int) * (g 140 v2)) + v3))] [] (LL n l) (jv_up g 144 (((6 : Int) * (g 140 v2)) + v3) ((g 144 (((6 : Int) * (g 141 v2)) + v3)) + (1 : Int))) Q))))) :
  jv_At jv_T jv_ml kY_layFar 57 [jv_P 136, jv_I v1, jv_I v2, jv_I v3, v4, v5] [] (LL n l) g Q :=
  jv_of_wp (gok9 (A := A)) (md := []) (stop := [2, 39, 47, 57]) (tab := jt_Y_layFar) rfl 400 _ _ _ _ _ h
theorem tr_Y_layFar {A : jA} {n l : Nat} {g : jv_S} {Q : jv_V → jv_L → jv_S → Prop} {N m : Nat} {F T R : Nat → Nat} (ho : okN N m F T R) (f5 : g 136 5 = N) (f6 : g 136 6 = m) (hF : ∀ c : Nat, c < m → g 140 c = F c) (hT : ∀ c : Nat, c < m → g 141 c = T c)
  (hQ : ∀ g' : jv_S, (∀ x y : Nat, x < N → y < N → g' 144 (6 * (x : Int) + y) = fdv F T m x y) → (∀ (p : Nat) (i : Int), ¬ p = 144 → g' p i = g p i) → Q jv_U (LL n l) g') :
  jv_Ca jv_T jv_ml kY_layFar [jv_P 136] (LL n l) g Q := by
  obtain ⟨o1, o2, o3⟩ := ho
  -- what is known of all pairs; b bounds
  have rounds : ∀ r, r ≤ 6 → ∀ (g' : jv_S) (v w x u : jv_V), (∀ x y : Nat, x < N → y < N → (g' 144 (6 * (x : Int) + y) = -9 ∨ ∃ q : Nat, g' 144 (6 * (x : Int) + y) = q ∧ q ≤ 60 * r ∧ wk F T m y q x) ∧ ∀ j, j ≤ r → wk F T m y j x → g' 144 (6 * (x : Int) + y) ≠ -9 ∧ g' 144 (6 * (x : Int) + y) ≤ j) → (∀ (p : Nat) (i : Int), ¬ p = 144 → g' p i = g p i) → jv_At jv_T jv_ml kY_layFar 39 [jv_P 136, jv_I r, v, w, x, u] [] (LL n l) (g') Q := by
    apply loop_up
    intro r hr ih g' v w x u h1 hf
    apply sg_Y_layFar_39 (A := A)
    refine ⟨fun h => hQ g' (fun x y hx hy => ?_) hf, fun h => ?_⟩
    · obtain ⟨a, b⟩ := h1 x y hx hy
      refine FDp_u (F := F) (T := T) (m := m) (y := y) (x := x) ?_ (fdv_p F T m x y)
      rcases a with a | ⟨q, q1, q2, q3⟩
      · refine Or.inl ⟨a, fun k hk => ?_⟩
        obtain ⟨i, -, hi⟩ := xk_min k hk
        have := xk_le (fun d hd => (o3 d hd).2.1) hx hi
        exact (b i (by omega) hi.1).1 a
      · obtain ⟨i, i1, hi⟩ := xk_min q q3
        have := xk_le (fun d hd => (o3 d hd).2.1) hx hi
        have hb := (b i (by omega) hi.1).2
        exact Or.inr ⟨i, by omega, hi⟩
    · have lanes : ∀ c, c ≤ m → ∀ (g' : jv_S) (w x u : jv_V), (∀ x y : Nat, x < N → y < N → (g' 144 (6 * (x : Int) + y) = -9 ∨ ∃ q : Nat, g' 144 (6 * (x : Int) + y) = q ∧ q ≤ 60 * r + 6 * c ∧ wk F T m y q x) ∧ (∀ j, j ≤ r → wk F T m y j x → g' 144 (6 * (x : Int) + y) ≠ -9 ∧ g' 144 (6 * (x : Int) + y) ≤ j) ∧ ∀ e, e < c → F e = x → ∀ j, j ≤ r → wk F T m y j (T e) → g' 144 (6 * (x : Int) + y) ≠ -9 ∧ g' 144 (6 * (x : Int) + y) ≤ j + 1) → (∀ (p : Nat) (i : Int), ¬ p = 144 → g' p i = g p i) → jv_At jv_T jv_ml kY_layFar 47 [jv_P 136, jv_I r, jv_I c, w, x, u] [] (LL n l) (g') Q := by
        apply loop_up
        intro c hc ihc g' w x u h1 hf
        have f6' : g' 136 6 = m := by rw [hf _ _ (by decide)]; exact f6
        apply sg_Y_layFar_47 (A := A)
        refine ⟨fun h => ⟨⟨by omega, by omega⟩, ih (by omega) g' _ _ _ _ (fun x y hx hy => ?_) hf⟩, fun h => ?_⟩
        · obtain ⟨a, b, e⟩ := h1 x y hx hy
          refine ⟨?_, fun j hj hw => ?_⟩
          · rcases a with a | ⟨q, q1, q2, q3⟩
            · exact Or.inl a
            · exact Or.inr ⟨q, q1, by omega, q3⟩
          · by_cases hjr : j = r + 1
            · subst hjr
              obtain ⟨d, d1, d2, d3⟩ := hw
              have := e d (by omega) d2 r (Nat.le_refl _) d3
              exact ⟨this.1, by omega⟩
            · exact b j (by omega) hw
        · have hc' : c < m := by omega
          obtain ⟨q1, q2, q3, -, -⟩ := o3 c hc'
          have ys : ∀ y, y ≤ N → ∀ (g' : jv_S) (x u : jv_V), (∀ x y' : Nat, x < N → y' < N → (g' 144 (6 * (x : Int) + y') = -9 ∨ ∃ q : Nat, g' 144 (6 * (x : Int) + y') = q ∧ q ≤ 60 * r + 6 * c + y ∧ wk F T m y' q x) ∧ (∀ j, j ≤ r → wk F T m y' j x → g' 144 (6 * (x : Int) + y') ≠ -9 ∧ g' 144 (6 * (x : Int) + y') ≤ j) ∧ ∀ e, e < c ∨ (e = c ∧ y' < y) → F e = x → ∀ j, j ≤ r → wk F T m y' j (T e) → g' 144 (6 * (x : Int) + y') ≠ -9 ∧ g' 144 (6 * (x : Int) + y') ≤ j + 1) → (∀ (p : Nat) (i : Int), ¬ p = 144 → g' p i = g p i) → jv_At jv_T jv_ml kY_layFar 57 [jv_P 136, jv_I r, jv_I c, jv_I y, x, u] [] (LL n l) (g') Q := by
            apply loop_up
            intro y hy ihy g' x u h1 hf
            have f5' : g' 136 5 = N := by rw [hf _ _ (by decide)]; exact f5
            have fF : g' 140 c = F c := by rw [hf _ _ (by decide)]; exact hF c hc'
            have fT : g' 141 c = T c := by rw [hf _ _ (by decide)]; exact hT c hc'
            apply sg_Y_layFar_57 (A := A)
            refine ⟨fun h => ⟨⟨by omega, by omega⟩, ihc (by omega) g' _ _ _ (fun x y' hx hy' => ?_) hf⟩, fun h => ?_⟩
            · obtain ⟨a, b, e⟩ := h1 x y' hx hy'
              refine ⟨?_, b, fun d hd => e d (by omega)⟩
              rcases a with a | ⟨q, q1, q2, q3⟩
              · exact Or.inl a
              · exact Or.inr ⟨q, q1, by omega, q3⟩
            · have hy' : y < N := by omega
              obtain ⟨aT, bT, -⟩ := h1 (T c) y q2 hy'
              obtain ⟨aF, bF, eF⟩ := h1 (F c) y q1 hy'
              rw [fF, fT]
              obtain ⟨vT, hvT⟩ : ∃ v, v = g' 144 (6 * (T c : Int) + y) := ⟨_, rfl⟩
              obtain ⟨vF, hvF⟩ : ∃ v, v = g' 144 (6 * (F c : Int) + y) := ⟨_, rfl⟩
              rw [← hvT, ← hvF]
              rw [← hvT] at aT bT
              rw [← hvF] at aF bF
              -- nothing is changed
              have keep : (vT ≠ -9 → vF ≠ -9 ∧ vF ≤ vT + 1) → ∀ x u : jv_V, jv_At jv_T jv_ml kY_layFar 57 [jv_P 136, jv_I r, jv_I c, jv_I (y + 1), x, u] [] (LL n l) (g') Q := fun hk x u => ihy hy' g' x u (fun x y' hx hy2 => by
                obtain ⟨a, b, e⟩ := h1 x y' hx hy2
                refine ⟨?_, b, fun d hd hFd j hj hw => ?_⟩
                · rcases a with a | ⟨q, q1, q2, q3⟩
                  · exact Or.inl a
                  · exact Or.inr ⟨q, q1, by omega, q3⟩
                · by_cases hdc : d = c ∧ y' = y
                  · obtain ⟨rfl, rfl⟩ := hdc
                    subst hFd
                    have := bT j hj hw
                    have hk' := hk this.1
                    rw [← hvF]
                    exact ⟨hk'.1, by omega⟩
                  · exact e d (by omega) hFd j hj hw) hf
              have chg : vT ≠ -9 → (vF = -9 ∨ vT + 1 < vF) → ∀ x u : jv_V, jv_At jv_T jv_ml kY_layFar 57 [jv_P 136, jv_I r, jv_I c, jv_I (y + 1), x, u] [] (LL n l) (jv_up g' 144 (6 * (F c : Int) + y) (vT + 1)) Q := fun hT9 hF9 x u => ihy hy' _ x u (fun x y' hx hy2 => by
                obtain ⟨a, b, e⟩ := h1 x y' hx hy2
                rcases aT with aT | ⟨qT, t1, t2, t3⟩
                · exact absurd aT hT9
                by_cases hxy : x = F c ∧ y' = y
                · obtain ⟨rfl, rfl⟩ := hxy
                  rw [up_eq rfl rfl]
                  refine ⟨Or.inr ⟨qT + 1, by omega, by omega, c, hc', rfl, t3⟩, fun j hj hw => ?_, fun d hd hFd j hj hw => ?_⟩
                  · obtain ⟨k1, k2⟩ := bF j hj hw
                    rcases hF9 with h5 | h5
                    · exact absurd h5 k1
                    · clear hvF hvT
                      exact ⟨by omega, by omega⟩
                  · by_cases hdc : d = c
                    · subst hdc
                      obtain ⟨k1, k2⟩ := bT j hj hw
                      clear hvF hvT
                      exact ⟨by omega, by omega⟩
                    · obtain ⟨k1, k2⟩ := e d (by omega) hFd j hj hw
                      rw [← hvF] at k1 k2
                      rcases hF9 with h5 | h5
                      · exact absurd h5 k1
                      · clear hvF hvT
                        exact ⟨by omega, by omega⟩
                · rw [up_ne (by omega)]
                  refine ⟨?_, b, fun d hd hFd j hj hw => ?_⟩
                  · rcases a with a | ⟨q, q1, q2, q3⟩
                    · exact Or.inl a
                    · exact Or.inr ⟨q, q1, by omega, q3⟩
                  · refine e d ?_ hFd j hj hw
                    rcases hd with h6 | ⟨h6, h7⟩
                    · exact Or.inl h6
                    · have h8 : y' ≠ y := fun h9 => hxy ⟨by rw [← hFd, h6], h9⟩
                      exact Or.inr ⟨h6, by omega⟩) (fun p i hp => by rw [up_ne (by omega)]; exact hf p i hp)
              have bnd : ∀ v : Int, (v = -9 ∨ ∃ q : Nat, v = q ∧ q ≤ 60 * r + 6 * c + y ∧ True) → -9 ≤ v ∧ v ≤ 1000 := fun v hv => by
                rcases hv with hv | ⟨q, hv, hq, -⟩ <;> omega
              have bT1 := bnd vT (aT.imp id (fun ⟨q, a, b, _⟩ => ⟨q, a, b, trivial⟩))
              have bF1 := bnd vF (aF.imp id (fun ⟨q, a, b, _⟩ => ⟨q, a, b, trivial⟩))
              refine ⟨⟨by omega, by omega⟩, ⟨by omega, by omega⟩, ⟨by omega, by omega⟩, ⟨by omega, by omega⟩, ⟨by omega, by omega⟩, ⟨by omega, by omega⟩, ⟨by omega, by omega⟩, ⟨by omega, by omega⟩, fun h2 => ⟨⟨by omega, by omega⟩, keep (fun h3 => absurd h2 h3) _ _⟩, fun h2 => ⟨fun h3 => ⟨⟨by omega, by omega⟩, ⟨by omega, by omega⟩, ⟨by omega, by omega⟩, ⟨by omega, by omega⟩, ⟨by omega, by omega⟩, ⟨by omega, by omega⟩, chg h2 (Or.inl h3) _ _⟩, fun h3 => ⟨⟨by omega, by omega⟩, fun h4 => ⟨⟨by omega, by omega⟩, keep (fun _ => ⟨h3, h4⟩) _ _⟩, fun h4 => ⟨⟨by omega, by omega⟩, ⟨by omega, by omega⟩, ⟨by omega, by omega⟩, ⟨by omega, by omega⟩, ⟨by omega, by omega⟩, ⟨by omega, by omega⟩, chg h2 (Or.inr (by omega)) _ _⟩⟩⟩⟩
          refine ys 0 (by omega) g' _ _ (fun x y' hx hy' => ?_) hf
          obtain ⟨a, b, e⟩ := h1 x y' hx hy'
          exact ⟨a, b, fun d hd => e d (by omega)⟩
      refine lanes 0 (by omega) g' _ _ _ (fun x y hx hy => ?_) hf
      obtain ⟨a, b⟩ := h1 x y hx hy
      exact ⟨a, b, fun e he => by omega⟩
  have init : ∀ k, k ≤ 36 → ∀ (g' : jv_S) (v w x u : jv_V), (∀ i : Nat, i < k → g' 144 i = if i / 6 = i % 6 then 0 else -9) → (∀ (p : Nat) (i : Int), ¬ p = 144 → g' p i = g p i) → jv_At jv_T jv_ml kY_layFar 2 [jv_P 136, jv_I k, v, w, x, u] [] (LL n l) (g') Q := by
    apply loop_up
    intro k hk ih g' v w x u h1 hf
    apply sg_Y_layFar_2 (A := A)
    have nx : ∀ q : Int, k < 36 → q = (if k / 6 = k % 6 then 0 else -9) → jv_At jv_T jv_ml kY_layFar 2 [jv_P 136, jv_I (k + 1), v, w, x, u] [] (LL n l) (jv_up g' 144 k q) Q := fun q hk' hq => ih hk' _ _ _ _ _ (fun i hi => by
      by_cases hik : i = k
      · subst hik; rw [up_eq rfl rfl]; exact hq
      · rw [up_ne (by omega)]; exact h1 i (by omega)) (fun p i hp => by rw [up_ne (by omega)]; exact hf p i hp)
    refine ⟨fun h => rounds 0 (by omega) g' _ _ _ _ (fun x y hx hy => ?_) hf, fun h => ⟨⟨by omega, by omega⟩, ⟨by omega, by omega⟩, fun h2 => ⟨⟨by omega, by omega⟩, ⟨by omega, by omega⟩, nx 0 (by omega) (by rw [if_pos (by omega)])⟩, fun h2 => ⟨⟨by omega, by omega⟩, ⟨by omega, by omega⟩, nx (-9) (by omega) (by rw [if_neg (by omega)])⟩⟩⟩
    have e := h1 (6 * x + y) (by omega)
    rw [show (((6 * x + y : Nat)) : Int) = 6 * (x : Int) + y by omega] at e
    rw [e, show (6 * x + y) / 6 = x by omega, show (6 * x + y) % 6 = y by omega]
    by_cases hxy : x = y
    · rw [if_pos hxy]
      exact ⟨Or.inr ⟨0, rfl, by omega, hxy⟩, fun j hj _ => ⟨by omega, by omega⟩⟩
    · rw [if_neg hxy]
      refine ⟨Or.inl rfl, fun j hj hw => ?_⟩
      rw [show j = 0 by omega] at hw
      exact absurd hw hxy
  exact sg_Y_layFar_0 (A := A) (init 0 (by omega) g _ _ _ _ (fun i hi => by omega) (fun _ _ _ => rfl))
