/-! ===== changes of the ways; sure is allCome; howItComes ===== -/
def wb (A : jA) (b : Nat → Nat) : jA := (fun i c => match i with
  | 4 => b c
  | i => A.1 i c, A.2)
theorem wb_tk {A : jA} {b : Nat → Nat} {p y : Nat} (h : p < 10 → b p = ba A p) : tk (wb A b) p y = tk A p y := by
  have hb : ∀ d, tb (wb A b) p y d = tb A p y d := by
    intro d
    have e : tb (wb A b) p y d = (decide (tx A p ≠ y) && decide (fr A d = tx A p) && !(decide (p < 10) && (b p).testBit d) && decide (fa A (tt A d) y ≠ -9) && (decide (2 ≤ ru A) || decide (fa A (tt A d) y + 1 = fa A (tx A p) y))) := rfl
    rw [e]
    unfold tb
    by_cases hp : p < 10
    · rw [h hp]
    · simp [hp]
  have hb' : tb (wb A b) p y = tb A p y := funext hb
  have hq : ∀ d, tq (wb A b) p y d = tq A p y d := by
    intro d
    have e : tq (wb A b) p y d = (tb (wb A b) p y d && (decide (ru A ≠ 1) || decide (mk (tb (wb A b) p y) d = 0))) := rfl
    rw [e, hb']
    rfl
  show mk (tq (wb A b) p y) (ln A) = _
  rw [show tq (wb A b) p y = tq A p y from funext hq]
  rfl
theorem wb_wf {A : jA} {b : Nat → Nat} (hw : wf A) (hb : ∀ c, c < ln A → b c < 1024) : wf (wb A b) := by
  obtain ⟨h1, h2, h3, h4, h5⟩ := hw
  exact ⟨h1, h2, h3, fun c hc => ⟨(h4 c hc).1, (h4 c hc).2.1, (h4 c hc).2.2.1, (h4 c hc).2.2.2.1, (h4 c hc).2.2.2.2.1, hb c hc⟩, h5⟩
theorem wb_CN {A : jA} {b : Nat → Nat} {g : jv_S} (h : CN A g) (hb : ∀ c, c < ln A → b c < 1024) : CN (wb A b) g := ⟨wb_wf h.1 hb, h.2⟩
/-- barred as before but for c -/
def sb1 (b : Nat → Nat) (c s : Nat) : Nat → Nat := fun i => if i = c then s else b i
def wr (A : jA) (r : Nat) : jA := (fun i c => match i, c with
  | 0, 2 => r
  | i, c => A.1 i c, A.2)
theorem wr_wf {A : jA} {r : Nat} (hw : wf A) (hr : r ≤ 2) : wf (wr A r) := by
  obtain ⟨h1, h2, h3, h4, h5⟩ := hw
  exact ⟨h1, h2, hr, h4, h5⟩
theorem wr_CN {A : jA} {r : Nat} {g : jv_S} (h : CN A g) (hr : r ≤ 2) : CN (wr A r) g := ⟨wr_wf h.1 hr, h.2⟩
set_option maxRecDepth 100000 in
theorem sg_Wy_setBarred_0 {A : jA} {n l : Nat} {g : jv_S} {Q : jv_V → jv_L → jv_S → Prop} {v1 v2 v3 : Int} (h :
   (v3 = 0 →
     (0 ≤ v1 ∧ v1 < 10) ∧
      (0 ≤ v1 ∧ v1 < 10) ∧ 
      jv_Ca jv_T jv_ml kWy_layLane [jv_P 40, jv_I v1] (LL n l) (jv_up g 41 v1 (jv_and (g 41 v1) (jv_xor (jv_shl (1 : Int) v2) (-1 : Int)))) (fun r L2 g2 => jv_At jv_T jv_ml kWy_setBarred 38 [jv_P 40, jv_I v1, jv_I v2, jv_I v3] (jv_pu r []) L2 g2 Q)) ∧
    (¬ v3 = 0 →
     (0 ≤ v1 ∧ v1 < 10) ∧
      (0 ≤ v1 ∧ v1 < 10) ∧ 
      jv_Ca jv_T jv_ml kWy_layLane [jv_P 40, jv_I v1] (LL n l) (jv_up g 41 v1 (jv_or (g 41 v1) (jv_shl (1 : Int) v2))) (fun r L2 g2 => jv_At jv_T jv_ml kWy_setBarred 38 [jv_P 40, jv_I v1, jv_I v2, jv_I v3] (jv_pu r []) L2 g2 Q))) :
  jv_At jv_T jv_ml kWy_setBarred 0 [jv_P 40, jv_I v1, jv_I v2, jv_I v3] [] (LL n l) g Q :=
  jv_of_wp (gok9 (A := A)) (md := []) (stop := []) (tab := jt_Wy_setBarred) rfl 400 _ _ _ _ _ h
set_option maxRecDepth 100000 in
theorem sg_Wy_setBarred_38 {A : jA} {n l : Nat} {g : jv_S} {Q : jv_V → jv_L → jv_S → Prop} {v1 v2 v3 : Int} (h :
   jv_r32 ((g 40 5) + (1 : Int)) ∧
    Q jv_U (LL n l) (jv_up g 40 5 ((g 40 5) + (1 : Int)))) :
  jv_At jv_T jv_ml kWy_setBarred 38 [jv_P 40, jv_I v1, jv_I v2, jv_I v3] [] (LL n l) g Q :=
  jv_of_wp (gok9 (A := A)) (md := []) (stop := []) (tab := jt_Wy_setBarred) rfl 400 _ _ _ _ _ h
theorem tr_Wy_setBarred {A : jA} {n l : Nat} {g : jv_S} {Q : jv_V → jv_L → jv_S → Prop} {c d s : Nat} {v : Int} (hN : CN A g) (hW : CW 40 A g) (hc : c < ln A) (hd : d < 10) (hs : s < 1024) (hv : (v = 0 ∧ s = bd (ba A c) (2 ^ d)) ∨ (v = 1 ∧ s = ba A c ||| 2 ^ d)) (hch : 0 ≤ g 40 5 ∧ g 40 5 < 2000000000)
  (hQ : ∀ g' : jv_S, CW 40 (wb A (sb1 (ba A) c s)) g' → g' 40 5 = g 40 5 + 1 → (∀ (p : Nat) (i : Int), ¬ (p = 49 ∨ p = 41 ∨ (p = 40 ∧ i = 5)) → g' p i = g p i) → Q jv_U (LL n l) g') :
  jv_Ca jv_T jv_ml kWy_setBarred [jv_P 40, jv_I c, jv_I d, jv_I v] (LL n l) g Q := by
  have hw := hN.1
  have w1 := hw.1
  have w2 := hw.2.1
  have hbl := (hw.2.2.2.1 c hc).2.2.2.2.2
  have hb4 : ba A c < 2147483648 := by omega
  have hbs : ∀ i, i < ln A → sb1 (ba A) c s i < 1024 := by
    intro i hi
    unfold sb1
    split
    · exact hs
    · exact (hw.2.2.2.1 i hi).2.2.2.2.2
  have fb : g 41 c = ba A c := hW.2.1 c hc
  have go : ∀ x : Int, x = (s : Int) → jv_Ca jv_T jv_ml kWy_layLane [jv_P 40, jv_I (c : Int)] (LL n l) (jv_up g 41 c x) (fun r L2 g2 => jv_At jv_T jv_ml kWy_setBarred 38 [jv_P 40, jv_I (c : Int), jv_I (d : Int), jv_I v] (jv_pu r []) L2 g2 Q) := by
    intro x hx
    have hN' : CN (wb A (sb1 (ba A) c s)) (jv_up g 41 c x) := wb_CN (CN_fr hN (fun p i a b => up_ne (by omega))) hbs
    refine tr_Wy_layLane hN' (by rw [up_ne (by omega)]; exact hW.1) hc (by rw [up_eq rfl rfl, hx]; show _ = ((sb1 (ba A) c s c : Nat) : Int); unfold sb1; rw [if_pos rfl]) (fun g1 a1 a2 => ?_)
    apply sg_Wy_setBarred_38 (A := A)
    have f5 : g1 40 5 = g 40 5 := by rw [a2 _ _ (by omega), up_ne (by omega)]
    rw [f5]
    refine ⟨⟨by omega, by omega⟩, hQ _ ⟨?_, fun i hi => ?_, fun x y hx' hy => ?_, fun i y hi hy => ?_⟩ (up_eq rfl rfl) (fun p i hp => by rw [up_ne (by omega), a2 _ _ (by omega), up_ne (by omega)])⟩
    · rw [up_ne (by omega), a2 _ _ (by omega), up_ne (by omega)]
      exact hW.1
    · show jv_up g1 40 5 (g 40 5 + 1) 41 i = ((sb1 (ba A) c s i : Nat) : Int)
      rw [up_ne (by omega), a2 _ _ (by omega)]
      unfold sb1
      by_cases hic : i = c
      · subst hic
        rw [up_eq rfl rfl, if_pos rfl, hx]
      · rw [up_ne (by omega), if_neg hic]
        exact hW.2.1 i hi
    · show jv_up g1 40 5 (g 40 5 + 1) 42 _ = _
      rw [up_ne (by omega), a2 _ _ (by omega), up_ne (by omega), wb_tk (fun h => by omega)]
      exact hW.2.2.1 x y hx' hy
    · show jv_up g1 40 5 (g 40 5 + 1) 49 _ = _
      rw [up_ne (by omega)]
      by_cases hic : i = c
      · subst hic
        exact a1 y hy
      · have hy' : y < nd A := hy
        rw [a2 _ _ (by omega), up_ne (by omega), wb_tk (fun h => by unfold sb1; rw [if_neg hic])]
        exact hW.2.2.2 i y hi hy
  apply sg_Wy_setBarred_0 (A := A)
  have h2d : 2 ^ d < 2147483648 := Nat.lt_of_le_of_lt (Nat.pow_le_pow_right (n := 2) (by decide) (show d ≤ 30 by omega)) (by decide)
  rw [fb, jb_shl1 (by omega)]
  refine ⟨fun h => ⟨⟨by omega, by omega⟩, ⟨by omega, by omega⟩, go _ ?_⟩, fun h => ⟨⟨by omega, by omega⟩, ⟨by omega, by omega⟩, go _ ?_⟩⟩
  · rcases hv with ⟨h1, h2⟩ | ⟨h1, h2⟩
    · rw [h2]; exact jb_andn hb4 h2d
    · omega
  · rcases hv with ⟨h1, h2⟩ | ⟨h1, h2⟩
    · omega
    · rw [h2]; exact jb_or hb4 h2d
set_option maxRecDepth 100000 in
theorem sg_Wy_ruleBy_0 {A : jA} {n l : Nat} {g : jv_S} {Q : jv_V → jv_L → jv_S → Prop} {v1 : Int} (h :
   jv_Ca jv_T jv_ml kWy_layAll [jv_P 40] (LL n l) (jv_up g 40 4 v1) (fun r L2 g2 => jv_At jv_T jv_ml kWy_ruleBy 9 [jv_P 40, jv_I v1] (jv_pu r []) L2 g2 Q)) :
  jv_At jv_T jv_ml kWy_ruleBy 0 [jv_P 40, jv_I v1] [] (LL n l) g Q :=
  jv_of_wp (gok9 (A := A)) (md := []) (stop := []) (tab := jt_Wy_ruleBy) rfl 400 _ _ _ _ _ h
set_option maxRecDepth 100000 in
theorem sg_Wy_ruleBy_9 {A : jA} {n l : Nat} {g : jv_S} {Q : jv_V → jv_L → jv_S → Prop} {v1 : Int} (h :
   Q jv_U (LL n l) g) :
  jv_At jv_T jv_ml kWy_ruleBy 9 [jv_P 40, jv_I v1] [] (LL n l) g Q :=
  jv_of_wp (gok9 (A := A)) (md := []) (stop := []) (tab := jt_Wy_ruleBy) rfl 400 _ _ _ _ _ h
theorem tr_Wy_ruleBy {A : jA} {n l : Nat} {g : jv_S} {Q : jv_V → jv_L → jv_S → Prop} {r : Nat} (hN : CN A g) (hr : r ≤ 2) (hb : ∀ c : Nat, c < ln A → g 41 c = ba A c) (hch : 0 ≤ g 40 5 ∧ g 40 5 < 2000000000)
  (hQ : ∀ g' : jv_S, CW 40 (wr A r) g' → g' 40 5 = g 40 5 + 1 → (∀ (p : Nat) (i : Int), ¬ (p = 49 ∨ p = 42 ∨ (p = 40 ∧ (i = 4 ∨ i = 5))) → g' p i = g p i) → Q jv_U (LL n l) g') :
  jv_Ca jv_T jv_ml kWy_ruleBy [jv_P 40, jv_I r] (LL n l) g Q := by
  apply sg_Wy_ruleBy_0 (A := A)
  have hN' : CN (wr A r) (jv_up g 40 4 r) := wr_CN (CN_fr hN (fun p i a b => up_ne (by omega))) hr
  refine tr_Wy_layAll hN' (up_eq rfl rfl) (fun c hc => by rw [up_ne (by omega)]; exact hb c hc) (by rw [up_ne (by omega)]; exact hch) (fun g1 a1 a2 a3 => ?_)
  apply sg_Wy_ruleBy_9 (A := A)
  exact hQ g1 a1 (by rw [a2, up_ne (by omega)]) (fun p i hp => by rw [a3 _ _ (by omega), up_ne (by omega)])
set_option maxRecDepth 100000 in
theorem sg_Wy_setBarred2_0 {A : jA} {n l : Nat} {g : jv_S} {Q : jv_V → jv_L → jv_S → Prop} {v1 v2 v3 : Int} (h :
   (v3 = 0 →
     (0 ≤ v1 ∧ v1 < 10) ∧
      (0 ≤ v1 ∧ v1 < 10) ∧ 
      jv_Ca jv_T jv_ml kWy_layLane [jv_P 104, jv_I v1] (LL n l) (jv_up g 105 v1 (jv_and (g 105 v1) (jv_xor (jv_shl (1 : Int) v2) (-1 : Int)))) (fun r L2 g2 => jv_At jv_T jv_ml kWy_setBarred 38 [jv_P 104, jv_I v1, jv_I v2, jv_I v3] (jv_pu r []) L2 g2 Q)) ∧
    (¬ v3 = 0 →
     (0 ≤ v1 ∧ v1 < 10) ∧
      (0 ≤ v1 ∧ v1 < 10) ∧ 
      jv_Ca jv_T jv_ml kWy_layLane [jv_P 104, jv_I v1] (LL n l) (jv_up g 105 v1 (jv_or (g 105 v1) (jv_shl (1 : Int) v2))) (fun r L2 g2 => jv_At jv_T jv_ml kWy_setBarred 38 [jv_P 104, jv_I v1, jv_I v2, jv_I v3] (jv_pu r []) L2 g2 Q))) :
  jv_At jv_T jv_ml kWy_setBarred 0 [jv_P 104, jv_I v1, jv_I v2, jv_I v3] [] (LL n l) g Q :=
  jv_of_wp (gok9 (A := A)) (md := []) (stop := []) (tab := jt_Wy_setBarred) rfl 400 _ _ _ _ _ h
set_option maxRecDepth 100000 in
theorem sg_Wy_setBarred2_38 {A : jA} {n l : Nat} {g : jv_S} {Q : jv_V → jv_L → jv_S → Prop} {v1 v2 v3 : Int} (h :
   jv_r32 ((g 104 5) + (1 : Int)) ∧
    Q jv_U (LL n l) (jv_up g 104 5 ((g 104 5) + (1 : Int)))) :
  jv_At jv_T jv_ml kWy_setBarred 38 [jv_P 104, jv_I v1, jv_I v2, jv_I v3] [] (LL n l) g Q :=
  jv_of_wp (gok9 (A := A)) (md := []) (stop := []) (tab := jt_Wy_setBarred) rfl 400 _ _ _ _ _ h
theorem tr_Wy_setBarred2 {A : jA} {n l : Nat} {g : jv_S} {Q : jv_V → jv_L → jv_S → Prop} {c d s : Nat} {v : Int} (hN : CN A g) (hW : CW 104 A g) (hc : c < ln A) (hd : d < 10) (hs : s < 1024) (hv : (v = 0 ∧ s = bd (ba A c) (2 ^ d)) ∨ (v = 1 ∧ s = ba A c ||| 2 ^ d)) (hch : 0 ≤ g 104 5 ∧ g 104 5 < 2000000000)
  (hQ : ∀ g' : jv_S, CW 104 (wb A (sb1 (ba A) c s)) g' → g' 104 5 = g 104 5 + 1 → (∀ (p : Nat) (i : Int), ¬ (p = 113 ∨ p = 105 ∨ (p = 104 ∧ i = 5)) → g' p i = g p i) → Q jv_U (LL n l) g') :
  jv_Ca jv_T jv_ml kWy_setBarred [jv_P 104, jv_I c, jv_I d, jv_I v] (LL n l) g Q := by
  have hw := hN.1
  have w1 := hw.1
  have w2 := hw.2.1
  have hbl := (hw.2.2.2.1 c hc).2.2.2.2.2
  have hb4 : ba A c < 2147483648 := by omega
  have hbs : ∀ i, i < ln A → sb1 (ba A) c s i < 1024 := by
    intro i hi
    unfold sb1
    split
    · exact hs
    · exact (hw.2.2.2.1 i hi).2.2.2.2.2
  have fb : g 105 c = ba A c := hW.2.1 c hc
  have go : ∀ x : Int, x = (s : Int) → jv_Ca jv_T jv_ml kWy_layLane [jv_P 104, jv_I (c : Int)] (LL n l) (jv_up g 105 c x) (fun r L2 g2 => jv_At jv_T jv_ml kWy_setBarred 38 [jv_P 104, jv_I (c : Int), jv_I (d : Int), jv_I v] (jv_pu r []) L2 g2 Q) := by
    intro x hx
    have hN' : CN (wb A (sb1 (ba A) c s)) (jv_up g 105 c x) := wb_CN (CN_fr hN (fun p i a b => up_ne (by omega))) hbs
    refine tr_Wy_layLane2 hN' (by rw [up_ne (by omega)]; exact hW.1) hc (by rw [up_eq rfl rfl, hx]; show _ = ((sb1 (ba A) c s c : Nat) : Int); unfold sb1; rw [if_pos rfl]) (fun g1 a1 a2 => ?_)
    apply sg_Wy_setBarred2_38 (A := A)
    have f5 : g1 104 5 = g 104 5 := by rw [a2 _ _ (by omega), up_ne (by omega)]
    rw [f5]
    refine ⟨⟨by omega, by omega⟩, hQ _ ⟨?_, fun i hi => ?_, fun x y hx' hy => ?_, fun i y hi hy => ?_⟩ (up_eq rfl rfl) (fun p i hp => by rw [up_ne (by omega), a2 _ _ (by omega), up_ne (by omega)])⟩
    · rw [up_ne (by omega), a2 _ _ (by omega), up_ne (by omega)]
      exact hW.1
    · show jv_up g1 104 5 (g 104 5 + 1) 105 i = ((sb1 (ba A) c s i : Nat) : Int)
      rw [up_ne (by omega), a2 _ _ (by omega)]
      unfold sb1
      by_cases hic : i = c
      · subst hic
        rw [up_eq rfl rfl, if_pos rfl, hx]
      · rw [up_ne (by omega), if_neg hic]
        exact hW.2.1 i hi
    · show jv_up g1 104 5 (g 104 5 + 1) 106 _ = _
      rw [up_ne (by omega), a2 _ _ (by omega), up_ne (by omega), wb_tk (fun h => by omega)]
      exact hW.2.2.1 x y hx' hy
    · show jv_up g1 104 5 (g 104 5 + 1) 113 _ = _
      rw [up_ne (by omega)]
      by_cases hic : i = c
      · subst hic
        exact a1 y hy
      · have hy' : y < nd A := hy
        rw [a2 _ _ (by omega), up_ne (by omega), wb_tk (fun h => by unfold sb1; rw [if_neg hic])]
        exact hW.2.2.2 i y hi hy
  apply sg_Wy_setBarred2_0 (A := A)
  have h2d : 2 ^ d < 2147483648 := Nat.lt_of_le_of_lt (Nat.pow_le_pow_right (n := 2) (by decide) (show d ≤ 30 by omega)) (by decide)
  rw [fb, jb_shl1 (by omega)]
  refine ⟨fun h => ⟨⟨by omega, by omega⟩, ⟨by omega, by omega⟩, go _ ?_⟩, fun h => ⟨⟨by omega, by omega⟩, ⟨by omega, by omega⟩, go _ ?_⟩⟩
  · rcases hv with ⟨h1, h2⟩ | ⟨h1, h2⟩
    · rw [h2]; exact jb_andn hb4 h2d
    · omega
  · rcases hv with ⟨h1, h2⟩ | ⟨h1, h2⟩
    · omega
    · rw [h2]; exact jb_or hb4 h2d
set_option maxRecDepth 100000 in
theorem sg_Wy_ruleBy2_0 {A : jA} {n l : Nat} {g : jv_S} {Q : jv_V → jv_L → jv_S → Prop} {v1 : Int} (h :
   jv_Ca jv_T jv_ml kWy_layAll [jv_P 104] (LL n l) (jv_up g 104 4 v1) (fun r L2 g2 => jv_At jv_T jv_ml kWy_ruleBy 9 [jv_P 104, jv_I v1] (jv_pu r []) L2 g2 Q)) :
  jv_At jv_T jv_ml kWy_ruleBy 0 [jv_P 104, jv_I v1] [] (LL n l) g Q :=
  jv_of_wp (gok9 (A := A)) (md := []) (stop := []) (tab := jt_Wy_ruleBy) rfl 400 _ _ _ _ _ h
set_option maxRecDepth 100000 in
theorem sg_Wy_ruleBy2_9 {A : jA} {n l : Nat} {g : jv_S} {Q : jv_V → jv_L → jv_S → Prop} {v1 : Int} (h :
   Q jv_U (LL n l) g) :
  jv_At jv_T jv_ml kWy_ruleBy 9 [jv_P 104, jv_I v1] [] (LL n l) g Q :=
  jv_of_wp (gok9 (A := A)) (md := []) (stop := []) (tab := jt_Wy_ruleBy) rfl 400 _ _ _ _ _ h
theorem tr_Wy_ruleBy2 {A : jA} {n l : Nat} {g : jv_S} {Q : jv_V → jv_L → jv_S → Prop} {r : Nat} (hN : CN A g) (hr : r ≤ 2) (hb : ∀ c : Nat, c < ln A → g 105 c = ba A c) (hch : 0 ≤ g 104 5 ∧ g 104 5 < 2000000000)
  (hQ : ∀ g' : jv_S, CW 104 (wr A r) g' → g' 104 5 = g 104 5 + 1 → (∀ (p : Nat) (i : Int), ¬ (p = 113 ∨ p = 106 ∨ (p = 104 ∧ (i = 4 ∨ i = 5))) → g' p i = g p i) → Q jv_U (LL n l) g') :
  jv_Ca jv_T jv_ml kWy_ruleBy [jv_P 104, jv_I r] (LL n l) g Q := by
  apply sg_Wy_ruleBy2_0 (A := A)
  have hN' : CN (wr A r) (jv_up g 104 4 r) := wr_CN (CN_fr hN (fun p i a b => up_ne (by omega))) hr
  refine tr_Wy_layAll2 hN' (up_eq rfl rfl) (fun c hc => by rw [up_ne (by omega)]; exact hb c hc) (by rw [up_ne (by omega)]; exact hch) (fun g1 a1 a2 a3 => ?_)
  apply sg_Wy_ruleBy2_9 (A := A)
  exact hQ g1 a1 (by rw [a2, up_ne (by omega)]) (fun p i hp => by rw [a3 _ _ (by omega), up_ne (by omega)])
set_option maxRecDepth 100000 in
theorem sg_Wy_unbarAll_0 {A : jA} {n l : Nat} {g : jv_S} {Q : jv_V → jv_L → jv_S → Prop} (h :
   jv_Ca jv_T jv_ml kAr_fill [jv_P 41, jv_I (0 : Int)] (LL n l) g (fun r L2 g2 => jv_At jv_T jv_ml kWy_unbarAll 8 [jv_P 40] (jv_pu r []) L2 g2 Q)) :
  jv_At jv_T jv_ml kWy_unbarAll 0 [jv_P 40] [] (LL n l) g Q :=
  jv_of_wp (gok9 (A := A)) (md := []) (stop := []) (tab := jt_Wy_unbarAll) rfl 400 _ _ _ _ _ h
set_option maxRecDepth 100000 in
theorem sg_Wy_unbarAll_8 {A : jA} {n l : Nat} {g : jv_S} {Q : jv_V → jv_L → jv_S → Prop} (h :
   jv_Ca jv_T jv_ml kWy_layAll [jv_P 40] (LL n l) g (fun r L2 g2 => jv_At jv_T jv_ml kWy_unbarAll 12 [jv_P 40] (jv_pu r []) L2 g2 Q)) :
  jv_At jv_T jv_ml kWy_unbarAll 8 [jv_P 40] [] (LL n l) g Q :=
  jv_of_wp (gok9 (A := A)) (md := []) (stop := []) (tab := jt_Wy_unbarAll) rfl 400 _ _ _ _ _ h
set_option maxRecDepth 100000 in
theorem sg_Wy_unbarAll_12 {A : jA} {n l : Nat} {g : jv_S} {Q : jv_V → jv_L → jv_S → Prop} (h :
   Q jv_U (LL n l) g) :
  jv_At jv_T jv_ml kWy_unbarAll 12 [jv_P 40] [] (LL n l) g Q :=
  jv_of_wp (gok9 (A := A)) (md := []) (stop := []) (tab := jt_Wy_unbarAll) rfl 400 _ _ _ _ _ h
theorem tr_Wy_unbarAll {A : jA} {n l : Nat} {g : jv_S} {Q : jv_V → jv_L → jv_S → Prop} (hN : CN A g) (hr : g 40 4 = ru A) (hb : ∀ c, c < ln A → ba A c = 0) (hch : 0 ≤ g 40 5 ∧ g 40 5 < 2000000000)
  (hQ : ∀ g' : jv_S, CW 40 A g' → g' 40 5 = g 40 5 + 1 → (∀ (p : Nat) (i : Int), ¬ (p = 41 ∨ p = 49 ∨ p = 42 ∨ (p = 40 ∧ i = 5)) → g' p i = g p i) → Q jv_U (LL n l) g') :
  jv_Ca jv_T jv_ml kWy_unbarAll [jv_P 40] (LL n l) g Q := by
  have w2 := hN.1.2.1
  apply sg_Wy_unbarAll_0 (A := A)
  refine tr_Ar_fill_41 (fun g0 z1 z2 => ?_)
  apply sg_Wy_unbarAll_8 (A := A)
  refine tr_Wy_layAll (CN_fr hN (fun p i a b => z2 _ _ (by omega))) (by rw [z2 _ _ (by omega)]; exact hr) (fun c hc => by rw [z1 c (by omega) (by omega), hb c hc]; rfl) (by rw [z2 _ _ (by omega)]; exact hch) (fun g1 a1 a2 a3 => ?_)
  apply sg_Wy_unbarAll_12 (A := A)
  exact hQ g1 a1 (by rw [a2, z2 _ _ (by omega)]) (fun p i hp => by rw [a3 _ _ (by omega), z2 _ _ (by omega)])
set_option maxRecDepth 100000 in
theorem sg_Wy_takeFrom_0 {A : jA} {n l : Nat} {g : jv_S} {Q : jv_V → jv_L → jv_S → Prop} (h :
   (0 ≤ (0 : Int) ∧ 0 ≤ (0 : Int) ∧ 0 ≤ (10 : Int) ∧ (0 : Int) + (10 : Int) ≤ 10 ∧ (0 : Int) + (10 : Int) ≤ 10) ∧
    jv_Ca jv_T jv_ml kWy_ruleBy [jv_P 104, jv_I ((jv_cp g 41 (0 + (0 : Int)) 105 (0 + (0 : Int)) (10 : Int)) 40 4)] (LL n l) (jv_cp g 41 (0 + (0 : Int)) 105 (0 + (0 : Int)) (10 : Int)) (fun r L2 g2 => jv_At jv_T jv_ml kWy_takeFrom 23 [jv_P 104, jv_P 40] (jv_pu r []) L2 g2 Q)) :
  jv_At jv_T jv_ml kWy_takeFrom 0 [jv_P 104, jv_P 40] [] (LL n l) g Q :=
  jv_of_wp (gok9 (A := A)) (md := []) (stop := []) (tab := jt_Wy_takeFrom) rfl 400 _ _ _ _ _ h
set_option maxRecDepth 100000 in
theorem sg_Wy_takeFrom_23 {A : jA} {n l : Nat} {g : jv_S} {Q : jv_V → jv_L → jv_S → Prop} (h :
   Q jv_U (LL n l) g) :
  jv_At jv_T jv_ml kWy_takeFrom 23 [jv_P 104, jv_P 40] [] (LL n l) g Q :=
  jv_of_wp (gok9 (A := A)) (md := []) (stop := []) (tab := jt_Wy_takeFrom) rfl 400 _ _ _ _ _ h
theorem wr_self {A : jA} : wr A (ru A) = A := by
  unfold wr
  refine Prod.ext (funext fun i => funext fun c => ?_) rfl
  show (match i, c with
  | 0, 2 => ru A
  | i, c => A.1 i c) = A.1 i c
  split
  · rfl
  · rfl
theorem tr_Wy_takeFrom {A : jA} {n l : Nat} {g : jv_S} {Q : jv_V → jv_L → jv_S → Prop} (hN : CN A g) (hW : CW 40 A g) (hch : 0 ≤ g 104 5 ∧ g 104 5 < 2000000000)
  (hQ : ∀ g' : jv_S, CW 104 A g' → g' 104 5 = g 104 5 + 1 → (∀ (p : Nat) (i : Int), ¬ (p = 113 ∨ p = 106 ∨ p = 105 ∨ (p = 104 ∧ (i = 4 ∨ i = 5))) → g' p i = g p i) → Q jv_U (LL n l) g') :
  jv_Ca jv_T jv_ml kWy_takeFrom [jv_P 104, jv_P 40] (LL n l) g Q := by
  have w2 := hN.1.2.1
  apply sg_Wy_takeFrom_0 (A := A)
  have cpn : ∀ (p : Nat) (i : Int), ¬ p = 105 → jv_cp g 41 (0 + 0) 105 (0 + 0) 10 p i = g p i := fun p i hp => if_neg (fun h => hp h.1)
  rw [cpn 40 4 (by decide), hW.1]
  refine ⟨⟨by omega, by omega, by omega, by omega, by omega⟩, ?_⟩
  refine tr_Wy_ruleBy2 (r := ru A) (CN_fr hN (fun p i a b => cpn _ _ (by omega))) hN.1.2.2.1 (fun c hc => ?_) (by rw [cpn _ _ (by decide)]; exact hch) (fun g1 a1 a2 a3 => ?_)
  · show (if 105 = 105 ∧ 0 + 0 ≤ (c : Int) ∧ (c : Int) < 0 + 0 + 10 then g 41 (0 + 0 + ((c : Int) - (0 + 0))) else g 105 c) = _
    rw [if_pos ⟨rfl, by omega, by omega⟩, show (0 : Int) + 0 + ((c : Int) - (0 + 0)) = c by omega]
    exact hW.2.1 c hc
  · apply sg_Wy_takeFrom_23 (A := A)
    rw [wr_self] at a1
    exact hQ g1 a1 (by rw [a2, cpn _ _ (by decide)]) (fun p i hp => by rw [a3 _ _ (by omega), cpn _ _ (by omega)])
theorem sv_t {A : jA} {y : Nat} : sv A y = true ↔ (∀ x, x < nd A → x ≠ y → tk A (10 + x) y ≠ 0) ∧ (∀ d, d < ln A → de A (cr A y) y d = false) ∧ gf (kn (on A y)) (ln A) (cr A y) = 0 := by
  unfold sv ew
  rw [Bool.and_eq_true, Bool.and_eq_true, Bool.not_eq_true', Bool.not_eq_true', anyB_f, anyB_f, decide_eq_true_iff]
  have : (∀ d, d < nd A → ns A y d = false) ↔ (∀ x, x < nd A → x ≠ y → tk A (10 + x) y ≠ 0) := by
    constructor
    · intro h x hx hxy h0
      have := h x hx
      unfold ns at this
      rw [decide_eq_false hxy, decide_eq_true h0] at this
      cases this
    · intro h x hx
      unfold ns
      by_cases hxy : x = y
      · rw [decide_eq_true hxy]; rfl
      · rw [decide_eq_false (h x hx hxy), Bool.and_false]
  rw [this]
theorem cb_2 {A : jA} {x y : Nat} : cb A x y = 2 ↔ (∃ d, d < ln A ∧ sm A (rc A x y) y d = true) ∧ rc A x y ≠ 0 ∧ (∀ d, d < ln A → de A (rc A x y) y d = false) ∧ gf (kn (on A y)) (ln A) (rc A x y) = 0 := by
  unfold cb
  rw [Bool.false_or, ← anyB_t, ← anyB_f]
  by_cases h1 : anyB (sm A (rc A x y) y) (ln A) = false
  · rw [if_pos h1, h1]
    simp
  · rw [if_neg h1]
    have h1' : anyB (sm A (rc A x y) y) (ln A) = true := by simpa using h1
    by_cases h2 : (decide (rc A x y = 0) || anyB (de A (rc A x y) y) (ln A)) = true ∨ gf (kn (on A y)) (ln A) (rc A x y) ≠ 0
    · rw [if_pos h2]
      constructor
      · intro h; omega
      · rintro ⟨-, a, b, c⟩
        rw [decide_eq_false a, b] at h2
        rcases h2 with h2 | h2
        · cases h2
        · exact absurd c h2
    · rw [if_neg h2]
      refine ⟨fun _ => ⟨h1', ?_, ?_, ?_⟩, fun _ => rfl⟩
      · intro h; exact h2 (Or.inl (by rw [decide_eq_true h]; rfl))
      · cases h3 : anyB (de A (rc A x y) y) (ln A) with
        | false => rfl
        | true => exact absurd (Or.inl (by rw [h3, Bool.or_true])) h2
      · apply Classical.byContradiction
        intro h
        exact h2 (Or.inr h)
theorem su_aC {A : jA} : su A = true ↔ aC A := by
  have e : su A = true ↔ ∀ y, y < nd A → sv A y = true := by
    unfold su
    rw [Bool.not_eq_true', anyB_f]
    exact ⟨fun h y hy => by simpa using h y hy, fun h y hy => by simpa using h y hy⟩
  rw [e]
  constructor
  · intro h x y hx hy hxy
    obtain ⟨h1, h2, h3⟩ := sv_t.mp (h y hy)
    have hsub : sb (rc A x y) (cr A y) := cl_mono on_lt so_lt (sb_un (f := fun x => tk A (10 + x) y) hx)
    have hne : rc A x y ≠ 0 := fun h0 => h1 x hx hxy (sb_z (by have := cl_sub (N := on A y) (tk_ltl (A := A) (10 + x) y); rw [show cl (on A y) (ln A) (tk A (10 + x) y) = 0 from h0] at this; exact this))
    have hde : ∀ d, d < ln A → de A (rc A x y) y d = false := by
      intro d hd
      cases hr : (rc A x y).testBit d with
      | false => unfold de; rw [hr]; rfl
      | true =>
        have := h2 d hd
        unfold de at this ⊢
        rw [hsub d hr] at this
        rw [hr]
        exact this
    have hgf : gf (kn (on A y)) (ln A) (rc A x y) = 0 := by
      have hP := gf_P (kn_mon (on A y)) (rc_lt (A := A) (x := x) (y := y))
      have := gf_max (cr_lt (A := A) (y := y)) (T := gf (kn (on A y)) (ln A) (rc A x y)) ⟨sb_trans hP.1 hsub, hP.2⟩
      rw [h3] at this
      exact sb_z this
    refine cb_2.mpr ⟨?_, hne, hde, hgf⟩
    apply Classical.byContradiction
    intro hno
    have hP : gfP (kn (on A y)) (rc A x y) (rc A x y) := by
      refine ⟨sb_refl _, fun d hd h0 => ?_⟩
      have hdl := bt_lt rc_lt hd
      have hty : tt A d ≠ y := fun h => hno ⟨d, hdl, by unfold sm; rw [hd, decide_eq_true h]; rfl⟩
      have hk : tk A d y ≠ 0 := fun h => by
        have := hde d hdl
        unfold de at this
        rw [hd, decide_eq_false hty, decide_eq_true h] at this
        cases this
      obtain ⟨i, hi⟩ := bt_of_nz hk
      exact and_z.mp h0 i ⟨hi, cl_clo on_lt d hdl hd i hi⟩
    have := gf_max rc_lt hP
    rw [hgf] at this
    exact hne (sb_z this)
  · intro h y hy
    refine sv_t.mpr ⟨fun x hx hxy h0 => ?_, fun d hd => ?_, ?_⟩
    · have := (cb_2.mp (h x y hx hy hxy)).2.1
      apply this
      show cl (on A y) (ln A) (tk A (10 + x) y) = 0
      rw [h0]
      exact sb_z (cl_min (sb_refl _) (fun c _ hc => by rw [Nat.zero_testBit] at hc; cases hc))
    · cases hr : (cr A y).testBit d with
      | false => unfold de; rw [hr]; rfl
      | true =>
        rw [← cr_un] at hr
        obtain ⟨x, hx, hxd⟩ := un_bit.mp hr
        unfold cin at hxd
        split at hxd
        · rw [Nat.zero_testBit] at hxd; cases hxd
        · next hxy =>
          have := (cb_2.mp (h x y hx hy hxy)).2.2.1 d hd
          unfold de at this ⊢
          rw [hxd] at this
          rw [← cr_un, hr]
          exact this
    · apply Classical.byContradiction
      intro hne
      obtain ⟨c, hc⟩ := bt_of_nz hne
      have hP := gf_P (kn_mon (on A y)) (cr_lt (A := A) (y := y))
      have hcc := hP.1 c hc
      rw [← cr_un] at hcc
      obtain ⟨x, hx, hxd⟩ := un_bit.mp hcc
      unfold cin at hxd
      split at hxd
      · rw [Nat.zero_testBit] at hxd; cases hxd
      · next hxy =>
        have h0 := (cb_2.mp (h x y hx hy hxy)).2.2.2
        have hT : gfP (kn (on A y)) (rc A x y) (gf (kn (on A y)) (ln A) (cr A y) &&& rc A x y) := by
          refine ⟨fun i hi => by rw [Nat.testBit_and, Bool.and_eq_true] at hi; exact hi.2, fun d hd hz => ?_⟩
          rw [Nat.testBit_and, Bool.and_eq_true] at hd
          obtain ⟨i, hi⟩ := bt_of_nz (hP.2 d hd.1)
          rw [Nat.testBit_and, Bool.and_eq_true] at hi
          refine and_z.mp hz i ⟨hi.1, ?_⟩
          have h5 : (rc A x y).testBit i = true := cl_clo on_lt d (bt_lt rc_lt hd.2) hd.2 i hi.1
          rw [Nat.testBit_and, hi.2, h5]
          rfl
        have := gf_max rc_lt hT c (by rw [Nat.testBit_and, hc, hxd]; rfl)
        rw [h0, Nat.zero_testBit] at this
        cases this
set_option maxRecDepth 100000 in
theorem sg_Wa_howItComes_0 {A : jA} {n l : Nat} {g : jv_S} {Q : jv_V → jv_L → jv_S → Prop} {v1 v2 : Int} (h :
   (0 ≤ v1 ∧ v1 < 6) ∧
    (0 ≤ v2 ∧ v2 < 6) ∧
    jv_Ca jv_T jv_ml kWa_reach [jv_P 60, jv_I (g 42 (v1 * 6 + v2)), jv_I v2] (LL n l) g (fun r L2 g2 => jv_At jv_T jv_ml kWa_howItComes 16 [jv_P 60, jv_I v1, jv_I v2, jv_U] (jv_pu r []) L2 g2 Q)) :
  jv_At jv_T jv_ml kWa_howItComes 0 [jv_P 60, jv_I v1, jv_I v2, jv_U] [] (LL n l) g Q :=
  jv_of_wp (gok9 (A := A)) (md := []) (stop := []) (tab := jt_Wa_howItComes) rfl 400 _ _ _ _ _ h
set_option maxRecDepth 100000 in
theorem sg_Wa_howItComes_16 {A : jA} {n l : Nat} {g : jv_S} {Q : jv_V → jv_L → jv_S → Prop} {v1 v2 s0 : Int} {v3 : jv_V} (h :
   (0 ≤ v2 ∧ v2 < 6) ∧
    ((jv_and s0 (g 39 v2)) = 0 →
     Q (jv_I (0 : Int)) (LL n l) g) ∧
    (¬ (jv_and s0 (g 39 v2)) = 0 →
     jv_Ca jv_T jv_ml kWa_endsWell [jv_P 60, jv_I s0, jv_I v2] (LL n l) g (fun r L2 g2 => jv_At jv_T jv_ml kWa_howItComes 39 [jv_P 60, jv_I v1, jv_I v2, jv_I s0] (jv_pu r []) L2 g2 Q))) :
  jv_At jv_T jv_ml kWa_howItComes 16 [jv_P 60, jv_I v1, jv_I v2, v3] [jv_I s0] (LL n l) g Q :=
  jv_of_wp (gok9 (A := A)) (md := []) (stop := []) (tab := jt_Wa_howItComes) rfl 400 _ _ _ _ _ h
set_option maxRecDepth 100000 in
theorem sg_Wa_howItComes_39 {A : jA} {n l : Nat} {g : jv_S} {Q : jv_V → jv_L → jv_S → Prop} {v1 v2 v3 s0 : Int} (h :
   (s0 = 0 →
     Q (jv_I (1 : Int)) (LL n l) g) ∧
    (¬ s0 = 0 →
     Q (jv_I (2 : Int)) (LL n l) g)) :
  jv_At jv_T jv_ml kWa_howItComes 39 [jv_P 60, jv_I v1, jv_I v2, jv_I v3] [jv_I s0] (LL n l) g Q :=
  jv_of_wp (gok9 (A := A)) (md := []) (stop := []) (tab := jt_Wa_howItComes) rfl 400 _ _ _ _ _ h
theorem into_z {A : jA} {s y : Nat} (hs : s < 2 ^ ln A) : s &&& mk (fun d => decide (tt A d = y)) (ln A) = 0 ↔ anyB (sm A s y) (ln A) = false := by
  rw [and_z, anyB_f]
  constructor
  · intro h d hd
    cases hb : s.testBit d with
    | false => unfold sm; rw [hb]; rfl
    | true =>
      unfold sm
      rw [hb, Bool.true_and]
      cases hd2 : decide (tt A d = y) with
      | false => rfl
      | true => exact absurd ⟨hb, by rw [mk_bit, decide_eq_true hd, hd2]; rfl⟩ (h d)
  · rintro h i ⟨h1, h2⟩
    have := h i (bt_lt hs h1)
    rw [mk_bit, Bool.and_eq_true] at h2
    unfold sm at this
    rw [h1, h2.2] at this
    cases this
theorem tr_Wa_howItComes {A : jA} {n l : Nat} {g : jv_S} {Q : jv_V → jv_L → jv_S → Prop} (hN : CN A g) (hW : CW 40 A g) {x y : Nat} (hx : x < nd A) (hy : y < nd A)
  (hQ : ∀ (g' : jv_S), (∀ (p : Nat) (i : Int), ¬ p = 65 → g' p i = g p i) → Q (jv_I (cb A x y)) (LL n l) g') :
  jv_Ca jv_T jv_ml kWa_howItComes [jv_P 60, jv_I x, jv_I y] (LL n l) g Q := by
  have hw := hN.1
  have w1 := hw.1
  have w2 := hw.2.1
  apply sg_Wa_howItComes_0 (A := A)
  have fw : g 42 ((x : Int) * 6 + y) = tk A (10 + x) y := hW.2.2.1 x y hx hy
  rw [fw]
  refine ⟨⟨by omega, by omega⟩, ⟨by omega, by omega⟩, tr_Wa_reach hN hW (tk_ltl _ _) hy (fun g1 a1 a2 => ?_)⟩
  have fi : g1 39 y = mk (fun d => decide (tt A d = y)) (ln A) := by rw [a2 _ _ (by decide)]; exact hN.2.2.2.2.2 y hy
  have hlt := rc_lt (A := A) (x := x) (y := y)
  have hml := mk_lt (fun d => decide (tt A d = y)) (ln A)
  apply sg_Wa_howItComes_16 (A := A)
  rw [show cl (on A y) (ln A) (tk A (10 + x) y) = rc A x y from rfl, fi, jb_and (i31 hlt (by omega)) (i31 hml (by omega))]
  have hQ' := hQ g1 a2
  unfold cb at hQ'
  refine ⟨⟨by omega, by omega⟩, fun h => ?_, fun h => ?_⟩
  · have h1 : anyB (sm A (rc A x y) y) (ln A) = false := (into_z hlt).mp (by have h' : ((rc A x y &&& mk (fun d => decide (tt A d = y)) (ln A) : Nat) : Int) = 0 := h; omega)
    rw [Bool.false_or, if_pos h1] at hQ'
    exact hQ'
  · have h1 : ¬ anyB (sm A (rc A x y) y) (ln A) = false := fun h2 => h (by have := (into_z hlt).mpr h2; show ((rc A x y &&& mk (fun d => decide (tt A d = y)) (ln A) : Nat) : Int) = 0; omega)
    rw [Bool.false_or, if_neg h1] at hQ'
    have hne : rc A x y ≠ 0 := fun h0 => h (by show ((rc A x y &&& mk (fun d => decide (tt A d = y)) (ln A) : Nat) : Int) = 0; rw [h0, Nat.zero_and]; rfl)
    rw [decide_eq_false hne, Bool.false_or] at hQ'
    refine tr_Wa_endsWell (CN_fr hN (fun p i a b => a2 _ _ (by omega))) hlt hy a1 ?_
    apply sg_Wa_howItComes_39 (A := A)
    unfold ew
    refine ⟨fun h2 => ?_, fun h2 => ?_⟩
    · rw [jb0] at h2
      rw [if_pos] at hQ'
      · exact hQ'
      · cases h3 : anyB (de A (rc A x y) y) (ln A) with
        | true => exact Or.inl rfl
        | false =>
          rw [h3, Bool.not_false, Bool.true_and, decide_eq_false_iff_not] at h2
          exact Or.inr h2
    · rw [jbn, Bool.and_eq_true, Bool.not_eq_true', decide_eq_true_iff] at h2
      rw [if_neg] at hQ'
      · exact hQ'
      · rintro (h3 | h3)
        · rw [h2.1] at h3; cases h3
        · exact h3 h2.2
