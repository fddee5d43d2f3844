/-! ===== the model's mends ===== -/
theorem wb_MN {A : jA} {b b' : Nat → Nat} {g g' : jv_S} (h : MN (wb A b) g) (hb : ∀ c, c < ln A → b' c < 1024) (h1 : ∀ (p : Nat) (i : Int), 140 ≤ p → p ≤ 144 → p ≠ 143 → g' p i = g p i) (h5 : g' 136 5 = g 136 5) (h6 : g' 136 6 = g 136 6) (h12 : g' 136 12 = g 136 12) (h143 : ∀ c : Nat, c < ln A → g' 143 c = b' c) : MN (wb A b') g' := by
  obtain ⟨hw, c1, c2, c3, c4, c5⟩ := h
  have hw' : wf (wb A b') := by
    have := wb_wf (b := b') hw hb
    rw [wb_wb] at this
    exact this
  refine ⟨hw', ?_, ?_, ?_, fun c hc => ?_, fun x y hx hy => ?_⟩
  · rw [h5]; exact c1
  · rw [h6]; exact c2
  · rw [h12]; exact c3
  · rw [h1 140 _ (by decide) (by decide) (by decide), h1 141 _ (by decide) (by decide) (by decide), h1 142 _ (by decide) (by decide) (by decide)]
    exact ⟨(c4 c hc).1, (c4 c hc).2.1, (c4 c hc).2.2.1, h143 c hc⟩
  · rw [h1 144 _ (by decide) (by decide) (by decide)]; exact c5 x y hx hy
set_option maxRecDepth 100000 in
theorem sg_Y_barTurn_0 {A : jA} {n l : Nat} {g : jv_S} {Q : jv_V → jv_L → jv_S → Prop} {v1 : Int} (h :
   (0 ≤ v1 ∧ v1 < 100) ∧
    (0 ≤ (g 165 v1) ∧ (g 165 v1) < 10) ∧
    (0 ≤ v1 ∧ v1 < 100) ∧
    (0 ≤ (g 165 v1) ∧ (g 165 v1) < 10) ∧ 
    Q jv_U (LL n l) (jv_up g 143 (g 165 v1) (jv_xor (g 143 (g 165 v1)) (jv_shl (1 : Int) (g 166 v1))))) :
  jv_At jv_T jv_ml kY_barTurn 0 [jv_P 136, jv_I v1] [] (LL n l) g Q :=
  jv_of_wp (gok9 (A := A)) (md := []) (stop := []) (tab := jt_Y_barTurn) rfl 400 _ _ _ _ _ h
theorem tr_Y_barTurn {A : jA} {n l : Nat} {g : jv_S} {Q : jv_V → jv_L → jv_S → Prop} {b : Nat → Nat} {t : Nat} {q : Nat × Nat} (hM : MN (wb A b) g) (ht : t < 100) (h1 : g 165 t = q.1) (h2 : g 166 t = q.2) (hq1 : q.1 < ln A) (hq2 : q.2 < 10)
  (hQ : ∀ g' : jv_S, MN (wb A (xb b q)) g' → (∀ (p : Nat) (i : Int), ¬ p = 143 → g' p i = g p i) → Q jv_U (LL n l) g') :
  jv_Ca jv_T jv_ml kY_barTurn [jv_P 136, jv_I t] (LL n l) g Q := by
  have w2 : ln A ≤ 10 := hM.1.2.1
  have hbl : ∀ c, c < ln A → b c < 1024 := fun c hc => (hM.1.2.2.2.1 c hc).2.2.2.2.2
  have f3 : ∀ c : Nat, c < ln A → g 143 c = b c := fun c hc => (hM.2.2.2.2.1 c hc).2.2.2
  apply sg_Y_barTurn_0 (A := A)
  have h2d : 2 ^ q.2 < 2147483648 := Nat.lt_of_le_of_lt (Nat.pow_le_pow_right (n := 2) (by decide) (show q.2 ≤ 30 by omega)) (by decide)
  have hb1 := hbl q.1 hq1
  rw [h1, h2, f3 q.1 hq1, jb_shl1 (by omega), jb_xor (by omega) h2d]
  refine ⟨⟨by omega, by omega⟩, ⟨by omega, by omega⟩, ⟨by omega, by omega⟩, ⟨by omega, by omega⟩, hQ _ (wb_MN hM (xb_lt hbl hq2) (fun p i a b c => up_ne (by omega)) (up_ne (by omega)) (up_ne (by omega)) (up_ne (by omega)) (fun c hc => ?_)) (fun p i hp => up_ne (by omega))⟩
  unfold xb
  by_cases hcq : c = q.1
  · rw [up_eq rfl (by omega), if_pos hcq, hcq]
  · rw [up_ne (by omega), if_neg hcq]
    exact f3 c hc
set_option maxRecDepth 100000 in
theorem sg_Y_isMended_0 {A : jA} {n l : Nat} {g : jv_S} {Q : jv_V → jv_L → jv_S → Prop} (h :
   jv_Ca jv_T jv_ml kY_hasRing [jv_P 136] (LL n l) g (fun r L2 g2 => jv_At jv_T jv_ml kY_isMended 4 [jv_P 136] (jv_pu r []) L2 g2 Q)) :
  jv_At jv_T jv_ml kY_isMended 0 [jv_P 136] [] (LL n l) g Q :=
  jv_of_wp (gok9 (A := A)) (md := []) (stop := []) (tab := jt_Y_isMended) rfl 400 _ _ _ _ _ h
set_option maxRecDepth 100000 in
theorem sg_Y_isMended_4 {A : jA} {n l : Nat} {g : jv_S} {Q : jv_V → jv_L → jv_S → Prop} {s0 : Int} (h :
   (s0 = 0 →
     ((136 = 136) ∧ (LLx (LL n l)) ∧ (MN A g)) ∧
      ((aCb A) = 0 →
       ((0 : Int) = 0 ∨ (0 : Int) = 1) ∧ Q (jv_I (0 : Int)) (LL n l) g) ∧
      (¬ (aCb A) = 0 →
       ((1 : Int) = 0 ∨ (1 : Int) = 1) ∧ Q (jv_I (1 : Int)) (LL n l) g)) ∧
    (¬ s0 = 0 →
     ((0 : Int) = 0 ∨ (0 : Int) = 1) ∧ Q (jv_I (0 : Int)) (LL n l) g)) :
  jv_At jv_T jv_ml kY_isMended 4 [jv_P 136] [jv_I s0] (LL n l) g Q :=
  jv_of_wp (gok9 (A := A)) (md := []) (stop := []) (tab := jt_Y_isMended) rfl 400 _ _ _ _ _ h
theorem tr_Y_isMended {A : jA} {n l : Nat} {g : jv_S} {Q : jv_V → jv_L → jv_S → Prop} (hM : MN A g)
  (hQ : ∀ g' : jv_S, (∀ (p : Nat) (i : Int), ¬ (p = 148 ∨ p = 149) → g' p i = g p i) → Q (jv_I (jb_b (sd A))) (LL n l) g') :
  jv_Ca jv_T jv_ml kY_isMended [jv_P 136] (LL n l) g Q := by
  apply sg_Y_isMended_0 (A := A)
  refine tr_Y_hasRing hM (fun g1 c1 c2 c3 => ?_)
  have hM' : MN A g1 := MN_fr hM (fun p i a b => c3 _ _ (by omega)) (c3 _ _ (by decide)) (c3 _ _ (by decide)) (c3 _ _ (by decide))
  have hq := hQ g1 c3
  have e : sd A = (dc (aC A) && decide (kG A = 0)) := by
    unfold sd
    congr 1
    cases h : su A with
    | true => exact (dc_t.mpr (su_aC.mp h)).symm
    | false => exact (dc_f.mpr (fun h2 => by rw [su_aC.mpr h2] at h; cases h)).symm
  rw [e] at hq
  apply sg_Y_isMended_4 (A := A)
  unfold aCb
  rw [jp0, jb0]
  refine ⟨fun h => ⟨⟨rfl, LLx_ok, hM'⟩, fun h2 => ⟨Or.inl rfl, ?_⟩, fun h2 => ⟨Or.inr rfl, ?_⟩⟩, fun h => ⟨Or.inl rfl, ?_⟩⟩
  · rw [h2] at hq; exact hq
  · have h2 : dc (aC A) = true := by simpa using h2
    rw [h2, decide_eq_true (Classical.not_not.mp h)] at hq; exact hq
  · rw [decide_eq_false (Classical.not_not.mp h), Bool.and_false] at hq; exact hq
set_option maxRecDepth 100000 in
theorem sg_Y_layTurns_0 {A : jA} {n l : Nat} {g : jv_S} {Q : jv_V → jv_L → jv_S → Prop} (h :
   jv_Ca jv_T jv_ml kY_layWaiting [jv_P 136] (LL n l) g (fun r L2 g2 => jv_At jv_T jv_ml kY_layTurns 4 [jv_P 136, jv_U, jv_U] (jv_pu r []) L2 g2 Q)) :
  jv_At jv_T jv_ml kY_layTurns 0 [jv_P 136, jv_U, jv_U] [] (LL n l) g Q :=
  jv_of_wp (gok9 (A := A)) (md := []) (stop := [11, 21]) (tab := jt_Y_layTurns) rfl 400 _ _ _ _ _ h
set_option maxRecDepth 100000 in
theorem sg_Y_layTurns_4 {A : jA} {n l : Nat} {g : jv_S} {Q : jv_V → jv_L → jv_S → Prop} {v1 v2 : jv_V} (h :
   jv_At jv_T jv_ml kY_layTurns 11 [jv_P 136, jv_I (0 : Int), v2] [] (LL n l) (jv_up g 136 41 (0 : Int)) Q) :
  jv_At jv_T jv_ml kY_layTurns 4 [jv_P 136, v1, v2] [] (LL n l) g Q :=
  jv_of_wp (gok9 (A := A)) (md := []) (stop := [11, 21]) (tab := jt_Y_layTurns) rfl 400 _ _ _ _ _ h
set_option maxRecDepth 100000 in
theorem sg_Y_layTurns_11 {A : jA} {n l : Nat} {g : jv_S} {Q : jv_V → jv_L → jv_S → Prop} {v1 : Int} {v2 : jv_V} (h :
   ((g 136 6) ≤ v1 →
     Q jv_U (LL n l) g) ∧
    (¬ (g 136 6) ≤ v1 →
     jv_At jv_T jv_ml kY_layTurns 21 [jv_P 136, jv_I v1, jv_I (0 : Int)] [] (LL n l) g Q)) :
  jv_At jv_T jv_ml kY_layTurns 11 [jv_P 136, jv_I v1, v2] [] (LL n l) g Q :=
  jv_of_wp (gok9 (A := A)) (md := []) (stop := [11, 21]) (tab := jt_Y_layTurns) rfl 400 _ _ _ _ _ h
set_option maxRecDepth 100000 in
theorem sg_Y_layTurns_21 {A : jA} {n l : Nat} {g : jv_S} {Q : jv_V → jv_L → jv_S → Prop} {v1 v2 : Int} (h :
   ((g 136 6) ≤ v2 →
     jv_r32 (v1 + (1 : Int)) ∧
      jv_At jv_T jv_ml kY_layTurns 11 [jv_P 136, jv_I (v1 + (1 : Int)), jv_I v2] [] (LL n l) g Q) ∧
    (¬ (g 136 6) ≤ v2 →
     (0 ≤ v1 ∧ v1 < 10) ∧
      ((0 ≤ (g 149 v1) ∧ (g 149 v1) < 2147483648 ∧ 0 ≤ v2 ∧ v2 < 31)) ∧
      ((hb (g 149 v1) v2) = 0 →
       jv_r32 (v2 + (1 : Int)) ∧
        jv_At jv_T jv_ml kY_layTurns 21 [jv_P 136, jv_I v1, jv_I (v2 + (1 : Int))] [] (LL n l) g Q) ∧
      (¬ (hb (g 149 v1) v2) = 0 →
       (0 ≤ (g 136 41) ∧ (g 136 41) < 100) ∧ 
        (0 ≤ ((jv_up g 165 (g 136 41) v1) 136 41) ∧ ((jv_up g 165 (g 136 41) v1) 136 41) < 100) ∧ 
        jv_r32 (((jv_up (jv_up g 165 (g 136 41) v1) 166 ((jv_up g 165 (g 136 41) v1) 136 41) v2) 136 41) + (1 : Int)) ∧
        jv_r32 (v2 + (1 : Int)) ∧
        jv_At jv_T jv_ml kY_layTurns 21 [jv_P 136, jv_I v1, jv_I (v2 + (1 : Int))] [] (LL n l) (jv_up (jv_up (jv_up g 165 (g 136 41) v1) 166 ((jv_up g 165 (g 136 41) v1) 136 41) v2) 136 41 (((jv_up (jv_up g 165 (g 136 41) v1) 166 ((jv_up g 165 (g 136 41) v1) 136 41) v2) 136 41) + (1 : Int))) Q))) :
  jv_At jv_T jv_ml kY_layTurns 21 [jv_P 136, jv_I v1, jv_I v2] [] (LL n l) g Q :=
  jv_of_wp (gok9 (A := A)) (md := []) (stop := [11, 21]) (tab := jt_Y_layTurns) rfl 400 _ _ _ _ _ h
theorem tr_Y_layTurns {A : jA} {n l : Nat} {g : jv_S} {Q : jv_V → jv_L → jv_S → Prop} (hM : MN A g)
  (hQ : ∀ g' : jv_S, g' 136 41 = ((TS A).1 : Nat) → (∀ i : Nat, i < (TS A).1 → g' 165 i = ((TS A).2 i).1 ∧ g' 166 i = ((TS A).2 i).2) → (∀ (p : Nat) (i : Int), ¬ (p = 148 ∨ p = 149 ∨ p = 165 ∨ p = 166 ∨ (p = 136 ∧ i = 41)) → g' p i = g p i) → Q jv_U (LL n l) g') :
  jv_Ca jv_T jv_ml kY_layTurns [jv_P 136] (LL n l) g Q := by
  have hw := hM.1
  have w2 := hw.2.1
  apply sg_Y_layTurns_0 (A := A)
  refine tr_Y_layWaiting hM (fun g1 c1 c2 c3 => ?_)
  apply sg_Y_layTurns_4 (A := A)
  have f6 : g1 136 6 = ln A := by rw [c3 _ _ (by decide)]; exact hM.2.2.1
  have cs' : ∀ c, c ≤ ln A → ∀ (g' : jv_S) (v : jv_V), g' 136 41 = ((tsc (wt A) (ln A) c).1 : Nat) → (∀ i : Nat, i < (tsc (wt A) (ln A) c).1 → g' 165 i = ((tsc (wt A) (ln A) c).2 i).1 ∧ g' 166 i = ((tsc (wt A) (ln A) c).2 i).2) → (∀ (p : Nat) (i : Int), ¬ (p = 165 ∨ p = 166 ∨ (p = 136 ∧ i = 41)) → g' p i = g1 p i) → jv_At jv_T jv_ml kY_layTurns 11 [jv_P 136, jv_I c, v] [] (LL n l) (g') Q := by
    apply loop_up
    intro c hc ih g' v h0 h1 hf
    have f6' : g' 136 6 = ln A := by rw [hf _ _ (by decide)]; exact f6
    apply sg_Y_layTurns_11 (A := A)
    refine ⟨fun h => ?_, fun h => ?_⟩
    · have hcl : c = ln A := by omega
      subst hcl
      exact hQ g' h0 h1 (fun p i hp => by rw [hf _ _ (by omega), c3 _ _ (by omega)])
    · have ds : ∀ d, d ≤ ln A → ∀ (g' : jv_S), g' 136 41 = ((tsd (wt A) c (tsc (wt A) (ln A) c) d).1 : Nat) → (∀ i : Nat, i < (tsd (wt A) c (tsc (wt A) (ln A) c) d).1 → g' 165 i = ((tsd (wt A) c (tsc (wt A) (ln A) c) d).2 i).1 ∧ g' 166 i = ((tsd (wt A) c (tsc (wt A) (ln A) c) d).2 i).2) → (∀ (p : Nat) (i : Int), ¬ (p = 165 ∨ p = 166 ∨ (p = 136 ∧ i = 41)) → g' p i = g1 p i) → jv_At jv_T jv_ml kY_layTurns 21 [jv_P 136, jv_I c, jv_I d] [] (LL n l) (g') Q := by
        apply loop_up
        intro d hd ihd g' h0 h1 hf
        have f6' : g' 136 6 = ln A := by rw [hf _ _ (by decide)]; exact f6
        apply sg_Y_layTurns_21 (A := A)
        refine ⟨fun h => ⟨⟨by omega, by omega⟩, ?_⟩, fun h => ?_⟩
        · have hdl : d = ln A := by omega
          subst hdl
          exact ih (by omega) g' _ h0 h1 hf
        · have fx : g' 149 c = wt A c := by rw [hf _ _ (by omega)]; exact c2 c (by omega)
          have hW31 := i31 (wt_lt (A := A) c (by omega)) (by omega)
          have hK := ts_b w2 (show c < ln A by omega) (show d < ln A by omega) (tsd_G (by omega) (tsc_G (W := wt A) (m := ln A) c hc) d hd).1
          have ihd' := ihd (by omega)
          unfold tsd at ihd'
          rw [fx]
          cases hbit : (wt A c).testBit d with
          | false =>
            have e0 := hb_f hbit
            rw [hbit] at ihd'
            have := ihd' g' h0 h1 hf
            rw [e0]
            repeat' (first | (with_reducible assumption) | apply And.intro | intro _)
            all_goals (first | omega | exact LLx_ok | assumption | skip)
          | true =>
            have e0 := hb_t hbit
            rw [hbit] at ihd'
            have u1 : ∀ v : Int, jv_up g' 165 (g' 136 41) v 136 41 = g' 136 41 := fun v => up_ne (by omega)
            have u2 : ∀ (v w : Int), jv_up (jv_up g' 165 (g' 136 41) v) 166 (g' 136 41) w 136 41 = g' 136 41 := fun v w => by rw [up_ne (by omega), up_ne (by omega)]
            rw [e0, u1, u2, h0]
            refine ⟨⟨by omega, by omega⟩, ⟨by omega, by omega, by omega, by omega⟩, fun h => by omega, fun _ => ⟨⟨by omega, by omega⟩, ⟨by omega, by omega⟩, ⟨by omega, by omega⟩, ⟨by omega, by omega⟩, ?_⟩⟩
            refine ihd' _ (by rw [up_eq rfl rfl]; rfl) (fun i hi => ?_) (fun p i hp => by rw [up_ne (by omega), up_ne (by omega), up_ne (by omega)]; exact hf p i hp)
            have hi : i < (tsd (wt A) c (tsc (wt A) (ln A) c) d).1 + 1 := hi
            rw [up_ne (by omega), up_ne (by omega)]
            by_cases he : i = (tsd (wt A) c (tsc (wt A) (ln A) c) d).1
            · subst he
              rw [up_eq rfl rfl, up_ne (by omega), up_eq rfl rfl]
              show (c : Int) = ((((if _ = _ then (c, d) else _) : Nat × Nat).1 : Nat) : Int) ∧ (d : Int) = ((((if _ = _ then (c, d) else _) : Nat × Nat).2 : Nat) : Int)
              rw [if_pos rfl]
              exact ⟨rfl, rfl⟩
            · rw [up_ne (by omega), up_ne (by omega), up_ne (by omega)]
              show _ = ((((if i = _ then (c, d) else (tsd (wt A) c (tsc (wt A) (ln A) c) d).2 i) : Nat × Nat).1 : Nat) : Int) ∧ _ = ((((if i = _ then (c, d) else (tsd (wt A) c (tsc (wt A) (ln A) c) d).2 i) : Nat × Nat).2 : Nat) : Int)
              rw [if_neg he]
              exact h1 i (by omega)
      exact ds 0 (by omega) g' h0 h1 hf
  exact cs' 0 (by omega) _ _ (up_eq rfl rfl) (fun i hi => absurd hi (Nat.not_lt_zero _)) (fun p i hp => up_ne (by omega))
set_option maxRecDepth 100000 in
theorem sg_Y_findMends_0 {A : jA} {n l : Nat} {g : jv_S} {Q : jv_V → jv_L → jv_S → Prop} (h :
   jv_Ca jv_T jv_ml kY_isMended [jv_P 136] (LL n l) g (fun r L2 g2 => jv_At jv_T jv_ml kY_findMends 4 [jv_P 136, jv_U, jv_U, jv_U] (jv_pu r []) L2 g2 Q)) :
  jv_At jv_T jv_ml kY_findMends 0 [jv_P 136, jv_U, jv_U, jv_U] [] (LL n l) g Q :=
  jv_of_wp (gok9 (A := A)) (md := []) (stop := [18, 64, 87]) (tab := jt_Y_findMends) rfl 400 _ _ _ _ _ h
set_option maxRecDepth 100000 in
theorem sg_Y_findMends_4 {A : jA} {n l : Nat} {g : jv_S} {Q : jv_V → jv_L → jv_S → Prop} {s0 : Int} {v1 v2 v3 : jv_V} (h :
   (s0 = 0 →
     jv_Ca jv_T jv_ml kY_layTurns [jv_P 136] (LL n l) g (fun r L2 g2 => jv_At jv_T jv_ml kY_findMends 13 [jv_P 136, v1, v2, v3] (jv_pu r []) L2 g2 Q)) ∧
    (¬ s0 = 0 →
     Q (jv_I (0 : Int)) (LL n l) g)) :
  jv_At jv_T jv_ml kY_findMends 4 [jv_P 136, v1, v2, v3] [jv_I s0] (LL n l) g Q :=
  jv_of_wp (gok9 (A := A)) (md := []) (stop := [18, 64, 87]) (tab := jt_Y_findMends) rfl 400 _ _ _ _ _ h
set_option maxRecDepth 100000 in
theorem sg_Y_findMends_13 {A : jA} {n l : Nat} {g : jv_S} {Q : jv_V → jv_L → jv_S → Prop} {v1 v2 v3 : jv_V} (h :
   jv_At jv_T jv_ml kY_findMends 18 [jv_P 136, jv_I (-9 : Int), jv_I (0 : Int), v3] [] (LL n l) g Q) :
  jv_At jv_T jv_ml kY_findMends 13 [jv_P 136, v1, v2, v3] [] (LL n l) g Q :=
  jv_of_wp (gok9 (A := A)) (md := []) (stop := [18, 64, 87]) (tab := jt_Y_findMends) rfl 400 _ _ _ _ _ h
set_option maxRecDepth 100000 in
theorem sg_Y_findMends_18 {A : jA} {n l : Nat} {g : jv_S} {Q : jv_V → jv_L → jv_S → Prop} {v1 v2 : Int} {v3 : jv_V} (h :
   ((g 136 41) ≤ v2 →
     jv_At jv_T jv_ml kY_findMends 64 [jv_P 136, jv_I v1, jv_I (0 : Int), v3] [] (LL n l) g Q) ∧
    (¬ (g 136 41) ≤ v2 →
     (v1 = (-9 : Int) →
       jv_Ca jv_T jv_ml kY_barTurn [jv_P 136, jv_I v2] (LL n l) g (fun r L2 g2 => jv_At jv_T jv_ml kY_findMends 37 [jv_P 136, jv_I v1, jv_I v2, v3] (jv_pu r []) L2 g2 Q)) ∧
      (¬ v1 = (-9 : Int) →
       jv_At jv_T jv_ml kY_findMends 64 [jv_P 136, jv_I v1, jv_I (0 : Int), v3] [] (LL n l) g Q))) :
  jv_At jv_T jv_ml kY_findMends 18 [jv_P 136, jv_I v1, jv_I v2, v3] [] (LL n l) g Q :=
  jv_of_wp (gok9 (A := A)) (md := []) (stop := [18, 64, 87]) (tab := jt_Y_findMends) rfl 400 _ _ _ _ _ h
set_option maxRecDepth 100000 in
theorem sg_Y_findMends_37 {A : jA} {n l : Nat} {g : jv_S} {Q : jv_V → jv_L → jv_S → Prop} {v1 v2 : Int} {v3 : jv_V} (h :
   jv_Ca jv_T jv_ml kY_isMended [jv_P 136] (LL n l) g (fun r L2 g2 => jv_At jv_T jv_ml kY_findMends 41 [jv_P 136, jv_I v1, jv_I v2, v3] (jv_pu r []) L2 g2 Q)) :
  jv_At jv_T jv_ml kY_findMends 37 [jv_P 136, jv_I v1, jv_I v2, v3] [] (LL n l) g Q :=
  jv_of_wp (gok9 (A := A)) (md := []) (stop := [18, 64, 87]) (tab := jt_Y_findMends) rfl 400 _ _ _ _ _ h
set_option maxRecDepth 100000 in
theorem sg_Y_findMends_41 {A : jA} {n l : Nat} {g : jv_S} {Q : jv_V → jv_L → jv_S → Prop} {v1 v2 s0 : Int} {v3 : jv_V} (h :
   (s0 = 0 →
     jv_Ca jv_T jv_ml kY_barTurn [jv_P 136, jv_I v2] (LL n l) g (fun r L2 g2 => jv_At jv_T jv_ml kY_findMends 56 [jv_P 136, jv_I v1, jv_I v2, v3] (jv_pu r []) L2 g2 Q)) ∧
    (¬ s0 = 0 →
     jv_Ca jv_T jv_ml kY_barTurn [jv_P 136, jv_I v2] (LL n l) (jv_up g 136 42 v2) (fun r L2 g2 => jv_At jv_T jv_ml kY_findMends 56 [jv_P 136, jv_I (1 : Int), jv_I v2, v3] (jv_pu r []) L2 g2 Q))) :
  jv_At jv_T jv_ml kY_findMends 41 [jv_P 136, jv_I v1, jv_I v2, v3] [jv_I s0] (LL n l) g Q :=
  jv_of_wp (gok9 (A := A)) (md := []) (stop := [18, 64, 87]) (tab := jt_Y_findMends) rfl 400 _ _ _ _ _ h
set_option maxRecDepth 100000 in
theorem sg_Y_findMends_56 {A : jA} {n l : Nat} {g : jv_S} {Q : jv_V → jv_L → jv_S → Prop} {v1 v2 : Int} {v3 : jv_V} (h :
   jv_r32 (v2 + (1 : Int)) ∧
    jv_At jv_T jv_ml kY_findMends 18 [jv_P 136, jv_I v1, jv_I (v2 + (1 : Int)), v3] [] (LL n l) g Q) :
  jv_At jv_T jv_ml kY_findMends 56 [jv_P 136, jv_I v1, jv_I v2, v3] [] (LL n l) g Q :=
  jv_of_wp (gok9 (A := A)) (md := []) (stop := [18, 64, 87]) (tab := jt_Y_findMends) rfl 400 _ _ _ _ _ h
set_option maxRecDepth 100000 in
theorem sg_Y_findMends_64 {A : jA} {n l : Nat} {g : jv_S} {Q : jv_V → jv_L → jv_S → Prop} {v1 v2 : Int} {v3 : jv_V} (h :
   ((g 136 41) ≤ v2 →
     Q (jv_I v1) (LL n l) g) ∧
    (¬ (g 136 41) ≤ v2 →
     (v1 = (-9 : Int) →
       jv_Ca jv_T jv_ml kY_barTurn [jv_P 136, jv_I v2] (LL n l) g (fun r L2 g2 => jv_At jv_T jv_ml kY_findMends 83 [jv_P 136, jv_I v1, jv_I v2, v3] (jv_pu r []) L2 g2 Q)) ∧
      (¬ v1 = (-9 : Int) →
       Q (jv_I v1) (LL n l) g))) :
  jv_At jv_T jv_ml kY_findMends 64 [jv_P 136, jv_I v1, jv_I v2, v3] [] (LL n l) g Q :=
  jv_of_wp (gok9 (A := A)) (md := []) (stop := [18, 64, 87]) (tab := jt_Y_findMends) rfl 400 _ _ _ _ _ h
set_option maxRecDepth 100000 in
theorem sg_Y_findMends_83 {A : jA} {n l : Nat} {g : jv_S} {Q : jv_V → jv_L → jv_S → Prop} {v1 v2 : Int} {v3 : jv_V} (h :
   jv_r32 (v2 + (1 : Int)) ∧
    jv_At jv_T jv_ml kY_findMends 87 [jv_P 136, jv_I v1, jv_I v2, jv_I (v2 + (1 : Int))] [] (LL n l) g Q) :
  jv_At jv_T jv_ml kY_findMends 83 [jv_P 136, jv_I v1, jv_I v2, v3] [] (LL n l) g Q :=
  jv_of_wp (gok9 (A := A)) (md := []) (stop := [18, 64, 87]) (tab := jt_Y_findMends) rfl 400 _ _ _ _ _ h
set_option maxRecDepth 100000 in
theorem sg_Y_findMends_87 {A : jA} {n l : Nat} {g : jv_S} {Q : jv_V → jv_L → jv_S → Prop} {v1 v2 v3 : Int} (h :
   ((g 136 41) ≤ v3 →
     jv_Ca jv_T jv_ml kY_barTurn [jv_P 136, jv_I v2] (LL n l) g (fun r L2 g2 => jv_At jv_T jv_ml kY_findMends 141 [jv_P 136, jv_I v1, jv_I v2, jv_I v3] (jv_pu r []) L2 g2 Q)) ∧
    (¬ (g 136 41) ≤ v3 →
     (v1 = (-9 : Int) →
       jv_Ca jv_T jv_ml kY_barTurn [jv_P 136, jv_I v3] (LL n l) g (fun r L2 g2 => jv_At jv_T jv_ml kY_findMends 106 [jv_P 136, jv_I v1, jv_I v2, jv_I v3] (jv_pu r []) L2 g2 Q)) ∧
      (¬ v1 = (-9 : Int) →
       jv_Ca jv_T jv_ml kY_barTurn [jv_P 136, jv_I v2] (LL n l) g (fun r L2 g2 => jv_At jv_T jv_ml kY_findMends 141 [jv_P 136, jv_I v1, jv_I v2, jv_I v3] (jv_pu r []) L2 g2 Q)))) :
  jv_At jv_T jv_ml kY_findMends 87 [jv_P 136, jv_I v1, jv_I v2, jv_I v3] [] (LL n l) g Q :=
  jv_of_wp (gok9 (A := A)) (md := []) (stop := [18, 64, 87]) (tab := jt_Y_findMends) rfl 400 _ _ _ _ _ h
set_option maxRecDepth 100000 in
theorem sg_Y_findMends_106 {A : jA} {n l : Nat} {g : jv_S} {Q : jv_V → jv_L → jv_S → Prop} {v1 v2 v3 : Int} (h :
   jv_Ca jv_T jv_ml kY_isMended [jv_P 136] (LL n l) g (fun r L2 g2 => jv_At jv_T jv_ml kY_findMends 110 [jv_P 136, jv_I v1, jv_I v2, jv_I v3] (jv_pu r []) L2 g2 Q)) :
  jv_At jv_T jv_ml kY_findMends 106 [jv_P 136, jv_I v1, jv_I v2, jv_I v3] [] (LL n l) g Q :=
  jv_of_wp (gok9 (A := A)) (md := []) (stop := [18, 64, 87]) (tab := jt_Y_findMends) rfl 400 _ _ _ _ _ h
set_option maxRecDepth 100000 in
theorem sg_Y_findMends_110 {A : jA} {n l : Nat} {g : jv_S} {Q : jv_V → jv_L → jv_S → Prop} {v1 v2 v3 s0 : Int} (h :
   (s0 = 0 →
     jv_Ca jv_T jv_ml kY_barTurn [jv_P 136, jv_I v3] (LL n l) g (fun r L2 g2 => jv_At jv_T jv_ml kY_findMends 130 [jv_P 136, jv_I v1, jv_I v2, jv_I v3] (jv_pu r []) L2 g2 Q)) ∧
    (¬ s0 = 0 →
     jv_Ca jv_T jv_ml kY_barTurn [jv_P 136, jv_I v3] (LL n l) (jv_up (jv_up g 136 42 v2) 136 43 v3) (fun r L2 g2 => jv_At jv_T jv_ml kY_findMends 130 [jv_P 136, jv_I (2 : Int), jv_I v2, jv_I v3] (jv_pu r []) L2 g2 Q))) :
  jv_At jv_T jv_ml kY_findMends 110 [jv_P 136, jv_I v1, jv_I v2, jv_I v3] [jv_I s0] (LL n l) g Q :=
  jv_of_wp (gok9 (A := A)) (md := []) (stop := [18, 64, 87]) (tab := jt_Y_findMends) rfl 400 _ _ _ _ _ h
set_option maxRecDepth 100000 in
theorem sg_Y_findMends_130 {A : jA} {n l : Nat} {g : jv_S} {Q : jv_V → jv_L → jv_S → Prop} {v1 v2 v3 : Int} (h :
   jv_r32 (v3 + (1 : Int)) ∧
    jv_At jv_T jv_ml kY_findMends 87 [jv_P 136, jv_I v1, jv_I v2, jv_I (v3 + (1 : Int))] [] (LL n l) g Q) :
  jv_At jv_T jv_ml kY_findMends 130 [jv_P 136, jv_I v1, jv_I v2, jv_I v3] [] (LL n l) g Q :=
  jv_of_wp (gok9 (A := A)) (md := []) (stop := [18, 64, 87]) (tab := jt_Y_findMends) rfl 400 _ _ _ _ _ h
set_option maxRecDepth 100000 in
theorem sg_Y_findMends_141 {A : jA} {n l : Nat} {g : jv_S} {Q : jv_V → jv_L → jv_S → Prop} {v1 v2 v3 : Int} (h :
   jv_r32 (v2 + (1 : Int)) ∧
    jv_At jv_T jv_ml kY_findMends 64 [jv_P 136, jv_I v1, jv_I (v2 + (1 : Int)), jv_I v3] [] (LL n l) g Q) :
  jv_At jv_T jv_ml kY_findMends 141 [jv_P 136, jv_I v1, jv_I v2, jv_I v3] [] (LL n l) g Q :=
  jv_of_wp (gok9 (A := A)) (md := []) (stop := [18, 64, 87]) (tab := jt_Y_findMends) rfl 400 _ _ _ _ _ h
/-- what the model's search changes -/
def yF (g g' : jv_S) : Prop := ∀ (p : Nat) (i : Int), ¬ (p = 143 ∨ p = 148 ∨ p = 149 ∨ p = 165 ∨ p = 166 ∨ (p = 136 ∧ (i = 41 ∨ i = 42 ∨ i = 43))) → g' p i = g p i
def yT (A : jA) (g : jv_S) : Prop := g 136 41 = ((TS A).1 : Nat) ∧ ∀ i : Nat, i < (TS A).1 → g 165 i = ((TS A).2 i).1 ∧ g 166 i = ((TS A).2 i).2
theorem tr_Y_findMends {A : jA} {n l : Nat} {g : jv_S} {Q : jv_V → jv_L → jv_S → Prop} (hM : MN A g)
  (hQ : ∀ (g' : jv_S) (cnt : Int) (a b : Nat), MSp A cnt a b → MN A g' → (1 ≤ cnt → g' 136 42 = a ∧ yT A g') → (cnt = 2 → g' 136 43 = b) → yF g g' → Q (jv_I cnt) (LL n l) g') :
  jv_Ca jv_T jv_ml kY_findMends [jv_P 136] (LL n l) g Q := by
  have hw := hM.1
  have w2 := hw.2.1
  obtain ⟨t1, t2, t3⟩ := TS_G hw
  have hq2 : ∀ i, i < (TS A).1 → ((TS A).2 i).2 < 10 := fun i hi => Nat.lt_of_lt_of_le (t2 i hi).2.1 w2
  have toW : ∀ {g : jv_S}, MN A g → MN (wb A (ba A)) g := fun h => by rw [wb_self]; exact h
  have ofW : ∀ {g : jv_S}, MN (wb A (ba A)) g → MN A g := fun h => by rw [wb_self] at h; exact h
  -- a turn is barred or unbarred
  have bar : ∀ {Q : jv_V → jv_L → jv_S → Prop} {g1 : jv_S} {b : Nat → Nat} {t : Nat}, MN (wb A b) g1 → yT A g1 → yF g g1 → t < (TS A).1 → (∀ g' : jv_S, MN (wb A (xb b ((TS A).2 t))) g' → yT A g' → yF g g' → (∀ i, g' 136 i = g1 136 i) → Q jv_U (LL n l) g') → jv_Ca jv_T jv_ml kY_barTurn [jv_P 136, jv_I t] (LL n l) g1 Q := by
    intro Q g1 b t h1 h2 h3 ht h4
    refine tr_Y_barTurn h1 (by omega) (h2.2 t ht).1 (h2.2 t ht).2 (t2 t ht).1 (hq2 t ht) (fun g' a1 a2 => h4 g' a1 ⟨by rw [a2 _ _ (by decide)]; exact h2.1, fun i hi => by rw [a2 _ _ (by decide), a2 _ _ (by decide)]; exact h2.2 i hi⟩ (fun p i hp => by rw [a2 _ _ (by omega)]; exact h3 p i hp) (fun i => a2 _ _ (by decide)))
  have men : ∀ {Q : jv_V → jv_L → jv_S → Prop} {g1 : jv_S} {b : Nat → Nat}, MN (wb A b) g1 → yT A g1 → yF g g1 → (∀ g' : jv_S, MN (wb A b) g' → yT A g' → yF g g' → (∀ i, g' 136 i = g1 136 i) → Q (jv_I (jb_b (sd (wb A b)))) (LL n l) g') → jv_Ca jv_T jv_ml kY_isMended [jv_P 136] (LL n l) g1 Q := by
    intro Q g1 b h1 h2 h3 h4
    refine tr_Y_isMended h1 (fun g' a2 => h4 g' (MN_fr h1 (fun p i a b => a2 _ _ (by omega)) (a2 _ _ (by decide)) (a2 _ _ (by decide)) (a2 _ _ (by decide))) ⟨by rw [a2 _ _ (by decide)]; exact h2.1, fun i hi => by rw [a2 _ _ (by decide), a2 _ _ (by decide)]; exact h2.2 i hi⟩ (fun p i hp => by rw [a2 _ _ (by omega)]; exact h3 p i hp) (fun i => a2 _ _ (by decide)))
  apply sg_Y_findMends_0 (A := A)
  refine tr_Y_isMended hM (fun g0 z1 => ?_)
  have hM0 : MN A g0 := MN_fr hM (fun p i a b => z1 _ _ (by omega)) (z1 _ _ (by decide)) (z1 _ _ (by decide)) (z1 _ _ (by decide))
  apply sg_Y_findMends_4 (A := A)
  rw [jb0]
  refine ⟨fun hs => ?_, fun hs => hQ g0 0 0 0 (Or.inl ⟨rfl, by simpa using hs⟩) hM0 (fun h => by omega) (fun h => by omega) (fun p i hp => z1 _ _ (by omega))⟩
  refine tr_Y_layTurns hM0 (fun g1 k1 k2 k3 => ?_)
  have hM1 : MN A g1 := MN_fr hM0 (fun p i a b => k3 _ _ (by omega)) (k3 _ _ (by decide)) (k3 _ _ (by decide)) (k3 _ _ (by decide))
  apply sg_Y_findMends_13 (A := A)
  -- pairs
  have two : ∀ t, t ≤ (TS A).1 → ∀ (g' : jv_S) (v : jv_V), (∀ j, j < (TS A).1 → M1 A j = false) → (∀ i j, i < t → i < j → j < (TS A).1 → M2 A i j = false) → MN A g' → yT A g' → yF g g' → jv_At jv_T jv_ml kY_findMends 64 [jv_P 136, jv_I (-9), jv_I t, v] [] (LL n l) (g') Q := by
    apply loop_up
    intro t ht ih g' v p1 p2 c1 c2 hf
    have c21 := c2.1
    apply sg_Y_findMends_64 (A := A)
    refine ⟨fun h => hQ g' (-9) 0 0 (Or.inr (Or.inr (Or.inr ⟨hs, p1, fun i j hij hj => p2 i j (by omega) hij hj, rfl⟩))) c1 (fun h => by omega) (fun h => by omega) hf, fun h => ⟨fun _ => ?_, fun h => absurd rfl h⟩⟩
    have ht' : t < (TS A).1 := by omega
    refine bar (toW c1) c2 hf ht' (fun g2 a1 a2 a3 a4 => ?_)
    apply sg_Y_findMends_83 (A := A)
    refine ⟨⟨by omega, by omega⟩, ?_⟩
    have inner : ∀ u, u ≤ (TS A).1 → t < u → ∀ g' : jv_S, MN (wb A (b1 A t)) g' → yT A g' → yF g g' → (∀ j, t < j → j < u → M2 A t j = false) → jv_At jv_T jv_ml kY_findMends 87 [jv_P 136, jv_I (-9), jv_I t, jv_I u] [] (LL n l) (g') Q := by
      apply loop_up
      intro u hu ihu htu g' e1 e2 e3 hno
      have e21 := e2.1
      apply sg_Y_findMends_87 (A := A)
      refine ⟨fun h => ?_, fun h => ⟨fun _ => ?_, fun h => absurd rfl h⟩⟩
      · refine bar e1 e2 e3 ht' (fun g3 d1 d2 d3 d4 => ?_)
        rw [show xb (b1 A t) ((TS A).2 t) = ba A from xb_xb] at d1
        apply sg_Y_findMends_141 (A := A)
        refine ⟨⟨by omega, by omega⟩, ih ht' g3 _ p1 (fun i j hi hij hj => ?_) (ofW d1) d2 d3⟩
        by_cases hit : i = t
        · subst hit; exact hno j hij (by omega)
        · exact p2 i j (by omega) hij hj
      · have hu' : u < (TS A).1 := by omega
        refine bar e1 e2 e3 hu' (fun g3 d1 d2 d3 d4 => ?_)
        apply sg_Y_findMends_106 (A := A)
        refine men d1 d2 d3 (fun g4 m1 m2 m3 m4 => ?_)
        apply sg_Y_findMends_110 (A := A)
        rw [jb0]
        refine ⟨fun hx => ?_, fun hx => ?_⟩
        · refine bar m1 m2 m3 hu' (fun g5 n1 n2 n3 n4 => ?_)
          rw [xb_xb] at n1
          apply sg_Y_findMends_130 (A := A)
          refine ⟨⟨by omega, by omega⟩, ihu hu' (by omega) g5 n1 n2 n3 (fun j hj hj2 => ?_)⟩
          by_cases hju : j = u
          · subst hju; exact hx
          · exact hno j hj (by omega)
        · have m1' : MN (wb A (xb (b1 A t) ((TS A).2 u))) (jv_up (jv_up g4 136 42 t) 136 43 u) := MN_fr m1 (fun p i a b => by rw [up_ne (by omega), up_ne (by omega)]) (by rw [up_ne (by omega), up_ne (by omega)]) (by rw [up_ne (by omega), up_ne (by omega)]) (by rw [up_ne (by omega), up_ne (by omega)])
          have m2' : yT A (jv_up (jv_up g4 136 42 t) 136 43 u) := ⟨by rw [up_ne (by omega), up_ne (by omega)]; exact m2.1, fun i hi => by rw [up_ne (by omega), up_ne (by omega), up_ne (by omega), up_ne (by omega)]; exact m2.2 i hi⟩
          refine bar m1' m2' (fun p i hp => by rw [up_ne (by omega), up_ne (by omega)]; exact m3 p i hp) hu' (fun g5 n1 n2 n3 n4 => ?_)
          rw [xb_xb] at n1
          have n21 := n2.1
          apply sg_Y_findMends_130 (A := A)
          refine ⟨⟨by omega, by omega⟩, ?_⟩
          apply sg_Y_findMends_87 (A := A)
          have out : jv_Ca jv_T jv_ml kY_barTurn [jv_P 136, jv_I (t : Int)] (LL n l) g5 (fun r L2 g2 => jv_At jv_T jv_ml kY_findMends 141 [jv_P 136, jv_I 2, jv_I (t : Int), jv_I ((u : Int) + 1)] (jv_pu r []) L2 g2 Q) := by
            refine bar n1 n2 n3 ht' (fun g6 o1 o2 o3 o4 => ?_)
            rw [show xb (b1 A t) ((TS A).2 t) = ba A from xb_xb] at o1
            have o21 := o2.1
            apply sg_Y_findMends_141 (A := A)
            refine ⟨⟨by omega, by omega⟩, ?_⟩
            have fin : Q (jv_I 2) (LL n l) g6 := hQ g6 2 t u (Or.inr (Or.inr (Or.inl ⟨hs, p1, rfl, htu, hu', (by revert hx; show ¬ M2 A t u = false → M2 A t u = true; cases M2 A t u <;> simp), p2, hno⟩))) (ofW o1) (fun _ => ⟨by rw [o4, n4, up_ne (by omega), up_eq rfl rfl], o2⟩) (fun _ => by rw [o4, n4, up_eq rfl rfl]) o3
            apply sg_Y_findMends_64 (A := A)
            exact ⟨fun _ => fin, fun _ => ⟨fun h => by omega, fun _ => fin⟩⟩
          exact ⟨fun _ => out, fun _ => ⟨fun h => by omega, fun _ => out⟩⟩
    exact inner (t + 1) (by omega) (by omega) g2 a1 a2 a3 (fun j hj hj2 => by omega)
  -- one
  have one : ∀ t, t ≤ (TS A).1 → ∀ (g' : jv_S) (v : jv_V), (∀ j, j < t → M1 A j = false) → MN A g' → yT A g' → yF g g' → jv_At jv_T jv_ml kY_findMends 18 [jv_P 136, jv_I (-9), jv_I t, v] [] (LL n l) (g') Q := by
    apply loop_up
    intro t ht ih g' v p1 c1 c2 hf
    have c21 := c2.1
    apply sg_Y_findMends_18 (A := A)
    refine ⟨fun h => two 0 (by omega) g' _ (fun j hj => p1 j (by omega)) (fun i j hi => by omega) c1 c2 hf, fun h => ⟨fun _ => ?_, fun h => absurd rfl h⟩⟩
    have ht' : t < (TS A).1 := by omega
    refine bar (toW c1) c2 hf ht' (fun g2 a1 a2 a3 a4 => ?_)
    apply sg_Y_findMends_37 (A := A)
    refine men a1 a2 a3 (fun g4 m1 m2 m3 m4 => ?_)
    apply sg_Y_findMends_41 (A := A)
    rw [jb0]
    refine ⟨fun hx => ?_, fun hx => ?_⟩
    · refine bar m1 m2 m3 ht' (fun g5 n1 n2 n3 n4 => ?_)
      rw [xb_xb] at n1
      apply sg_Y_findMends_56 (A := A)
      refine ⟨⟨by omega, by omega⟩, ih ht' g5 _ (fun j hj => ?_) (ofW n1) n2 n3⟩
      by_cases hjt : j = t
      · subst hjt; exact hx
      · exact p1 j (by omega)
    · have m1' : MN (wb A (xb (ba A) ((TS A).2 t))) (jv_up g4 136 42 t) := MN_fr m1 (fun p i a b => up_ne (by omega)) (up_ne (by omega)) (up_ne (by omega)) (up_ne (by omega))
      have m2' : yT A (jv_up g4 136 42 t) := ⟨by rw [up_ne (by omega)]; exact m2.1, fun i hi => by rw [up_ne (by omega), up_ne (by omega)]; exact m2.2 i hi⟩
      refine bar m1' m2' (fun p i hp => by rw [up_ne (by omega)]; exact m3 p i hp) ht' (fun g5 n1 n2 n3 n4 => ?_)
      rw [xb_xb] at n1
      have n21 := n2.1
      have fin : Q (jv_I 1) (LL n l) g5 := hQ g5 1 t 0 (Or.inr (Or.inl ⟨hs, rfl, ht', (by revert hx; show ¬ M1 A t = false → M1 A t = true; cases M1 A t <;> simp), p1⟩)) (ofW n1) (fun _ => ⟨by rw [n4, up_eq rfl rfl], n2⟩) (fun h => by omega) n3
      have last : jv_At jv_T jv_ml kY_findMends 64 [jv_P 136, jv_I 1, jv_I 0, v] [] (LL n l) g5 Q := by
        apply sg_Y_findMends_64 (A := A)
        exact ⟨fun _ => fin, fun _ => ⟨fun h => by omega, fun _ => fin⟩⟩
      apply sg_Y_findMends_56 (A := A)
      refine ⟨⟨by omega, by omega⟩, ?_⟩
      apply sg_Y_findMends_18 (A := A)
      exact ⟨fun _ => last, fun _ => ⟨fun h => by omega, fun _ => last⟩⟩
  exact one 0 (by omega) g1 _ (fun j hj => by omega) hM1 ⟨k1, k2⟩ (fun p i hp => by rw [k3 _ _ (by omega), z1 _ _ (by omega)])
/-- what mend answers -/
noncomputable def mdv (A : jA) (cnt : Int) (a b : Nat) (k : Int) : Int := if k = -1 then cnt else if cnt ≤ k then -9 else tn ((TS A).2 (if k = 0 then a else b))
set_option maxRecDepth 100000 in
theorem sg_Y_mend_0 {A : jA} {n l : Nat} {g : jv_S} {Q : jv_V → jv_L → jv_S → Prop} {v1 : Int} (h :
   ((True)) ∧
    ((jb_p ((-1 : Int) ≤ v1 ∧ v1 ≤ (1 : Int))) = 0 →
     Q (jv_I (-1 : Int)) (LL n l) g) ∧
    (¬ (jb_p ((-1 : Int) ≤ v1 ∧ v1 ≤ (1 : Int))) = 0 →
     ((g 136 6) = 0 →
       Q (jv_I (-3 : Int)) (LL n l) g) ∧
      (¬ (g 136 6) = 0 →
       jv_Ca jv_T jv_ml kY_findMends [jv_P 136] (LL n l) g (fun r L2 g2 => jv_At jv_T jv_ml kY_mend 25 [jv_P 136, jv_I v1, jv_U, jv_U] (jv_pu r []) L2 g2 Q)))) :
  jv_At jv_T jv_ml kY_mend 0 [jv_P 136, jv_I v1, jv_U, jv_U] [] (LL n l) g Q :=
  jv_of_wp (gok9 (A := A)) (md := []) (stop := []) (tab := jt_Y_mend) rfl 400 _ _ _ _ _ h
set_option maxRecDepth 100000 in
theorem sg_Y_mend_25 {A : jA} {n l : Nat} {g : jv_S} {Q : jv_V → jv_L → jv_S → Prop} {v1 s0 : Int} {v2 v3 : jv_V} (h :
   (v1 = (-1 : Int) →
     Q (jv_I s0) (LL n l) g) ∧
    (¬ v1 = (-1 : Int) →
     (v1 = 0 →
       (s0 = (-9 : Int) →
         Q (jv_I (-9 : Int)) (LL n l) g) ∧
        (¬ s0 = (-9 : Int) →
         (v1 < s0 →
           (0 ≤ (g 136 42) ∧ (g 136 42) < 100) ∧
            jv_r32 ((10 : Int) * (g 165 (g 136 42))) ∧
            (0 ≤ (g 136 42) ∧ (g 136 42) < 100) ∧
            jv_r32 (((10 : Int) * (g 165 (g 136 42))) + (g 166 (g 136 42))) ∧
            Q (jv_I (((10 : Int) * (g 165 (g 136 42))) + (g 166 (g 136 42)))) (LL n l) g) ∧
          (¬ v1 < s0 →
           Q (jv_I (-9 : Int)) (LL n l) g))) ∧
      (¬ v1 = 0 →
       (s0 = (-9 : Int) →
         Q (jv_I (-9 : Int)) (LL n l) g) ∧
        (¬ s0 = (-9 : Int) →
         (v1 < s0 →
           (0 ≤ (g 136 43) ∧ (g 136 43) < 100) ∧
            jv_r32 ((10 : Int) * (g 165 (g 136 43))) ∧
            (0 ≤ (g 136 43) ∧ (g 136 43) < 100) ∧
            jv_r32 (((10 : Int) * (g 165 (g 136 43))) + (g 166 (g 136 43))) ∧
            Q (jv_I (((10 : Int) * (g 165 (g 136 43))) + (g 166 (g 136 43)))) (LL n l) g) ∧
          (¬ v1 < s0 →
           Q (jv_I (-9 : Int)) (LL n l) g))))) :
  jv_At jv_T jv_ml kY_mend 25 [jv_P 136, jv_I v1, v2, v3] [jv_I s0] (LL n l) g Q :=
  jv_of_wp (gok9 (A := A)) (md := []) (stop := []) (tab := jt_Y_mend) rfl 400 _ _ _ _ _ h
theorem tr_Y_mend {A : jA} {n l : Nat} {g : jv_S} {Q : jv_V → jv_L → jv_S → Prop} (hM : MN A g) {k : Int} {cnt : Int} {a b : Nat} (hc : MSp A cnt a b)
  (hQ : ∀ g' : jv_S, MN A g' → yF g g' → Q (jv_I (if ¬ (-1 ≤ k ∧ k ≤ 1) then -1 else if ln A = 0 then -3 else mdv A cnt a b k)) (LL n l) g') :
  jv_Ca jv_T jv_ml kY_mend [jv_P 136, jv_I k] (LL n l) g Q := by
  have hw := hM.1
  have w2 := hw.2.1
  have f2 := hM.2.2.1
  obtain ⟨t1, t2, t3⟩ := TS_G hw
  apply sg_Y_mend_0 (A := A)
  rw [jp0]
  refine ⟨trivial, fun h => ?_, fun h => ⟨fun h1 => ?_, fun h1 => ?_⟩⟩
  · have := hQ g hM (fun _ _ _ => rfl)
    rw [if_pos h] at this
    exact this
  · have := hQ g hM (fun _ _ _ => rfl)
    rw [if_neg h, if_pos (by omega)] at this
    exact this
  · refine tr_Y_findMends hM (fun g1 cnt' a' b' c1 c2 c3 c4 c5 => ?_)
    obtain ⟨u1, u2, u3⟩ := MSp_u hc c1
    subst u1
    have hq := hQ g1 c2 c5
    rw [if_neg h, if_neg (by omega)] at hq
    unfold mdv at hq
    have hcnt : cnt = -9 ∨ (0 ≤ cnt ∧ cnt ≤ 2) := by
      rcases c1 with h | h | h | h
      · omega
      · have := h.2.1; omega
      · have := h.2.2.1; omega
      · have := h.2.2.2; omega
    have hab : 1 ≤ cnt → a < (TS A).1 ∧ (cnt = 2 → b < (TS A).1) := by
      intro h1
      rcases hc with h | h | h | h
      · omega
      · have := h.2.1; exact ⟨h.2.2.1, fun h => by omega⟩
      · exact ⟨by have := h.2.2.2.1; have := h.2.2.2.2.1; omega, fun _ => h.2.2.2.2.1⟩
      · have := h.2.2.2; omega
    have rd : ∀ t, t < (TS A).1 → yT A g1 → (∀ p : Prop, (0 ≤ ((TS A).2 t).1 → ((TS A).2 t).1 < 10 → ((TS A).2 t).2 < 10 → g1 165 t = ((TS A).2 t).1 → g1 166 t = ((TS A).2 t).2 → p) → p) := fun t ht hy p hp => hp (by omega) (by have := (t2 t ht).1; omega) (by have := (t2 t ht).2.1; omega) (hy.2 t ht).1 (hy.2 t ht).2
    apply sg_Y_mend_25 (A := A)
    refine ⟨fun h2 => ?_, fun h2 => ⟨fun h3 => ⟨fun h4 => ?_, fun h4 => ⟨fun h5 => ?_, fun h5 => ?_⟩⟩, fun h3 => ⟨fun h4 => ?_, fun h4 => ⟨fun h5 => ?_, fun h5 => ?_⟩⟩⟩⟩
    · rw [if_pos h2] at hq; exact hq
    · rw [if_neg h2, if_pos (by omega)] at hq; exact hq
    · rw [if_neg h2, if_neg (by omega), if_pos h3] at hq
      obtain ⟨x1, x2⟩ := c3 (by omega)
      obtain ⟨y1, y2⟩ := hab (by omega)
      rw [← u2 (by omega)] at x1
      rw [x1]
      refine rd a y1 x2 _ (fun r1 r2 r3 r4 r5 => ?_)
      rw [r4, r5]
      exact ⟨⟨by omega, by omega⟩, ⟨by omega, by omega⟩, ⟨by omega, by omega⟩, ⟨by omega, by omega⟩, hq⟩
    · rw [if_neg h2, if_pos (by omega)] at hq; exact hq
    · rw [if_neg h2, if_pos (by omega)] at hq; exact hq
    · rw [if_neg h2, if_neg (by omega), if_neg h3] at hq
      obtain ⟨x1, x2⟩ := c3 (by omega)
      obtain ⟨y1, y2⟩ := hab (by omega)
      have x3 := c4 (by omega)
      rw [← u3 (by omega)] at x3
      rw [x3]
      refine rd b (y2 (by omega)) x2 _ (fun r1 r2 r3 r4 r5 => ?_)
      rw [r4, r5]
      exact ⟨⟨by omega, by omega⟩, ⟨by omega, by omega⟩, ⟨by omega, by omega⟩, ⟨by omega, by omega⟩, hq⟩
    · rw [if_neg h2, if_pos (by omega)] at hq; exact hq
