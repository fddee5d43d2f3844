/-! ===== the model's rings and ranks ===== -/
set_option maxRecDepth 100000 in
theorem sg_Y_isAhead_0 {A : jA} {n l : Nat} {g : jv_S} {Q : jv_V → jv_L → jv_S → Prop} {v1 v2 : Int} (h :
   jv_At jv_T jv_ml kY_isAhead 2 [jv_P 136, jv_I v1, jv_I v2, jv_I (0 : Int)] [] (LL n l) g Q) :
  jv_At jv_T jv_ml kY_isAhead 0 [jv_P 136, jv_I v1, jv_I v2, jv_U] [] (LL n l) g Q :=
  jv_of_wp (gok9 (A := A)) (md := []) (stop := [2]) (tab := jt_Y_isAhead) rfl 400 _ _ _ _ _ h
set_option maxRecDepth 100000 in
theorem sg_Y_isAhead_2 {A : jA} {n l : Nat} {g : jv_S} {Q : jv_V → jv_L → jv_S → Prop} {v1 v2 v3 : Int} (h :
   (v1 ≤ v3 →
     ((0 : Int) = 0 ∨ (0 : Int) = 1) ∧ Q (jv_I (0 : Int)) (LL n l) g) ∧
    (¬ v1 ≤ v3 →
     (0 ≤ v3 ∧ v3 < 10) ∧
      ((g 150 v3) = v2 →
       ((1 : Int) = 0 ∨ (1 : Int) = 1) ∧ Q (jv_I (1 : Int)) (LL n l) g) ∧
      (¬ (g 150 v3) = v2 →
       jv_r32 (v3 + (1 : Int)) ∧
        jv_At jv_T jv_ml kY_isAhead 2 [jv_P 136, jv_I v1, jv_I v2, jv_I (v3 + (1 : Int))] [] (LL n l) g Q))) :
  jv_At jv_T jv_ml kY_isAhead 2 [jv_P 136, jv_I v1, jv_I v2, jv_I v3] [] (LL n l) g Q :=
  jv_of_wp (gok9 (A := A)) (md := []) (stop := [2]) (tab := jt_Y_isAhead) rfl 400 _ _ _ _ _ h
theorem tr_Y_isAhead {A : jA} {n l : Nat} {g : jv_S} {Q : jv_V → jv_L → jv_S → Prop} {r : Nat → Nat} {d u : Nat} (hd : d ≤ 10) (hr : ∀ i : Nat, i < d → g 150 i = r i) (hQ1 : (∃ k, k < d ∧ r k = u) → Q (jv_I 1) (LL n l) g) (hQ0 : (∀ k, k < d → r k ≠ u) → Q (jv_I 0) (LL n l) g) :
  jv_Ca jv_T jv_ml kY_isAhead [jv_P 136, jv_I d, jv_I u] (LL n l) g Q := by
  have main : ∀ k, k ≤ d → (∀ j, j < k → r j ≠ u) → jv_At jv_T jv_ml kY_isAhead 2 [jv_P 136, jv_I d, jv_I u, jv_I k] [] (LL n l) g Q := by
    apply loop_up
    intro k hk ih h1
    apply sg_Y_isAhead_2 (A := A)
    refine ⟨fun h => ⟨Or.inl rfl, hQ0 (fun j hj => h1 j (by omega))⟩, fun h => ⟨⟨by omega, by omega⟩, fun h2 => ⟨Or.inr rfl, hQ1 ⟨k, by omega, by rw [hr k (by omega)] at h2; omega⟩⟩, fun h2 => ⟨⟨by omega, by omega⟩, ih (by omega) (fun j hj => ?_)⟩⟩⟩
    by_cases hjk : j = k
    · subst hjk
      rw [hr j (by omega)] at h2
      omega
    · exact h1 j (by omega)
  exact sg_Y_isAhead_0 (A := A) (main 0 (by omega) (fun j hj => by omega))
def PV (W : Nat → Nat) (m : Nat) (r : Nat → Nat) (d : Nat) : Prop := (∀ k, k < d → r k < m) ∧ (∀ k, 0 < k → k < d → r 0 < r k) ∧ (∀ j k, j < k → k < d → r j ≠ r k) ∧ ∀ k, k + 1 < d → (W (r k)).testBit (r (k + 1)) = true
def ag (r s : Nat → Nat) (d : Nat) : Prop := ∀ k, k < d → s k = r k
theorem PV_ext {W : Nat → Nat} {m d u : Nat} {r : Nat → Nat} (h : PV W m r d) (hu : u < m) (h0 : 0 < d → r 0 < u) (hn : ∀ k, k < d → r k ≠ u) (hw : 0 < d → (W (r (d - 1))).testBit u = true) : PV W m (fun i => if i = d then u else r i) (d + 1) := by
  obtain ⟨h1, h2, h3, h4⟩ := h
  refine ⟨fun k hk => ?_, fun k hk hk2 => ?_, fun j k hj hk => ?_, fun k hk => ?_⟩
  · (try dsimp only)
    split
    · exact hu
    · exact h1 k (by omega)
  · (try dsimp only)
    rw [if_neg (by omega)]
    split
    · exact h0 (by omega)
    · exact h2 k hk (by omega)
  · (try dsimp only)
    rw [if_neg (by omega)]
    split
    · exact hn j (by omega)
    · exact h3 j k hj (by omega)
  · (try dsimp only)
    rw [if_neg (by omega)]
    split
    · have := hw (by omega)
      rw [show d - 1 = k by omega] at this
      exact this
    · exact h4 k (by omega)
theorem ag_ext {r s : Nat → Nat} {d u : Nat} (h : ag r s d) (hu : s d = u) : ag (fun i => if i = d then u else r i) s (d + 1) := by
  intro k hk
  (try dsimp only)
  split
  · next h1 => rw [h1]; exact hu
  · exact h k (by omega)
theorem ag_cut {r s : Nat → Nat} {d u : Nat} (h : ag (fun i => if i = d then u else r i) s (d + 1)) : ag r s d ∧ s d = u := by
  constructor
  · intro k hk
    have := h k (by omega)
    dsimp only at this
    rw [if_neg (by omega)] at this
    exact this
  · have := h d (by omega)
    dsimp only at this
    rw [if_pos rfl] at this
    exact this
set_option maxRecDepth 100000 in
theorem sg_Y_findRing_0 {A : jA} {n l : Nat} {g : jv_S} {Q : jv_V → jv_L → jv_S → Prop} {v1 : Int} (h :
   (0 ≤ (0 : Int) ∧ (0 : Int) < 10) ∧ 
    jv_At jv_T jv_ml kY_findRing 9 [jv_P 136, jv_I v1, jv_I (0 : Int), jv_U] [] (LL n l) (jv_up g 150 (0 : Int) (-1 : Int)) Q) :
  jv_At jv_T jv_ml kY_findRing 0 [jv_P 136, jv_I v1, jv_U, jv_U] [] (LL n l) g Q :=
  jv_of_wp (gok9 (A := A)) (md := []) (stop := [9]) (tab := jt_Y_findRing) rfl 400 _ _ _ _ _ h
set_option maxRecDepth 100000 in
theorem sg_Y_findRing_9 {A : jA} {n l : Nat} {g : jv_S} {Q : jv_V → jv_L → jv_S → Prop} {v1 v2 : Int} {v3 : jv_V} (h :
   (v2 < 0 →
     ((0 : Int) = 0 ∨ (0 : Int) = 1) ∧ Q (jv_I (0 : Int)) (LL n l) g) ∧
    (¬ v2 < 0 →
     (0 ≤ v2 ∧ v2 < 10) ∧
      jv_r32 ((g 150 v2) + (1 : Int)) ∧
      (0 ≤ v2 ∧ v2 < 10) ∧ 
      (0 ≤ v2 ∧ v2 < 10) ∧
      (((jv_up g 150 v2 ((g 150 v2) + (1 : Int))) 150 v2) < ((jv_up g 150 v2 ((g 150 v2) + (1 : Int))) 136 6) →
       (v2 ≤ 0 →
         jv_r32 (v1 - (1 : Int)) ∧
          ((v1 - (1 : Int)) ≤ v2 →
           (0 ≤ ((jv_up g 150 v2 ((g 150 v2) + (1 : Int))) 150 v2) ∧ ((jv_up g 150 v2 ((g 150 v2) + (1 : Int))) 150 v2) < 10) ∧
            (0 ≤ (0 : Int) ∧ (0 : Int) < 10) ∧
            ((0 ≤ ((jv_up g 150 v2 ((g 150 v2) + (1 : Int))) 149 ((jv_up g 150 v2 ((g 150 v2) + (1 : Int))) 150 v2)) ∧ ((jv_up g 150 v2 ((g 150 v2) + (1 : Int))) 149 ((jv_up g 150 v2 ((g 150 v2) + (1 : Int))) 150 v2)) < 2147483648 ∧ 0 ≤ ((jv_up g 150 v2 ((g 150 v2) + (1 : Int))) 150 (0 : Int)) ∧ ((jv_up g 150 v2 ((g 150 v2) + (1 : Int))) 150 (0 : Int)) < 31)) ∧
            ((hb ((jv_up g 150 v2 ((g 150 v2) + (1 : Int))) 149 ((jv_up g 150 v2 ((g 150 v2) + (1 : Int))) 150 v2)) ((jv_up g 150 v2 ((g 150 v2) + (1 : Int))) 150 (0 : Int))) = 0 →
             jv_At jv_T jv_ml kY_findRing 9 [jv_P 136, jv_I v1, jv_I v2, jv_I ((jv_up g 150 v2 ((g 150 v2) + (1 : Int))) 150 v2)] [] (LL n l) (jv_up g 150 v2 ((g 150 v2) + (1 : Int))) Q) ∧
            (¬ (hb ((jv_up g 150 v2 ((g 150 v2) + (1 : Int))) 149 ((jv_up g 150 v2 ((g 150 v2) + (1 : Int))) 150 v2)) ((jv_up g 150 v2 ((g 150 v2) + (1 : Int))) 150 (0 : Int))) = 0 →
             ((1 : Int) = 0 ∨ (1 : Int) = 1) ∧ Q (jv_I (1 : Int)) (LL n l) (jv_up g 150 v2 ((g 150 v2) + (1 : Int))))) ∧
          (¬ (v1 - (1 : Int)) ≤ v2 →
           jv_r32 (v2 + (1 : Int)) ∧
            (0 ≤ (v2 + (1 : Int)) ∧ (v2 + (1 : Int)) < 10) ∧ 
            jv_At jv_T jv_ml kY_findRing 9 [jv_P 136, jv_I v1, jv_I (v2 + (1 : Int)), jv_I ((jv_up g 150 v2 ((g 150 v2) + (1 : Int))) 150 v2)] [] (LL n l) (jv_up (jv_up g 150 v2 ((g 150 v2) + (1 : Int))) 150 (v2 + (1 : Int)) (-1 : Int)) Q)) ∧
        (¬ v2 ≤ 0 →
         (0 ≤ (0 : Int) ∧ (0 : Int) < 10) ∧
          (((jv_up g 150 v2 ((g 150 v2) + (1 : Int))) 150 v2) < ((jv_up g 150 v2 ((g 150 v2) + (1 : Int))) 150 (0 : Int)) →
           jv_At jv_T jv_ml kY_findRing 9 [jv_P 136, jv_I v1, jv_I v2, jv_I ((jv_up g 150 v2 ((g 150 v2) + (1 : Int))) 150 v2)] [] (LL n l) (jv_up g 150 v2 ((g 150 v2) + (1 : Int))) Q) ∧
          (¬ ((jv_up g 150 v2 ((g 150 v2) + (1 : Int))) 150 v2) < ((jv_up g 150 v2 ((g 150 v2) + (1 : Int))) 150 (0 : Int)) →
           jv_Ca jv_T jv_ml kY_isAhead [jv_P 136, jv_I v2, jv_I ((jv_up g 150 v2 ((g 150 v2) + (1 : Int))) 150 v2)] (LL n l) (jv_up g 150 v2 ((g 150 v2) + (1 : Int))) (fun r L2 g2 => jv_At jv_T jv_ml kY_findRing 64 [jv_P 136, jv_I v1, jv_I v2, jv_I ((jv_up g 150 v2 ((g 150 v2) + (1 : Int))) 150 v2)] (jv_pu r []) L2 g2 Q)))) ∧
      (¬ ((jv_up g 150 v2 ((g 150 v2) + (1 : Int))) 150 v2) < ((jv_up g 150 v2 ((g 150 v2) + (1 : Int))) 136 6) →
       jv_r32 (v2 + (-1 : Int)) ∧
        jv_At jv_T jv_ml kY_findRing 9 [jv_P 136, jv_I v1, jv_I (v2 + (-1 : Int)), jv_I ((jv_up g 150 v2 ((g 150 v2) + (1 : Int))) 150 v2)] [] (LL n l) (jv_up g 150 v2 ((g 150 v2) + (1 : Int))) Q))) :
  jv_At jv_T jv_ml kY_findRing 9 [jv_P 136, jv_I v1, jv_I v2, v3] [] (LL n l) g Q :=
  jv_of_wp (gok9 (A := A)) (md := []) (stop := [9]) (tab := jt_Y_findRing) rfl 400 _ _ _ _ _ h
set_option maxRecDepth 100000 in
theorem sg_Y_findRing_64 {A : jA} {n l : Nat} {g : jv_S} {Q : jv_V → jv_L → jv_S → Prop} {v1 v2 v3 s0 : Int} (h :
   (s0 = 0 →
     jv_r32 (v2 - (1 : Int)) ∧
      (0 ≤ (v2 - (1 : Int)) ∧ (v2 - (1 : Int)) < 10) ∧
      (0 ≤ (g 150 (v2 - (1 : Int))) ∧ (g 150 (v2 - (1 : Int))) < 10) ∧
      ((0 ≤ (g 149 (g 150 (v2 - (1 : Int)))) ∧ (g 149 (g 150 (v2 - (1 : Int)))) < 2147483648 ∧ 0 ≤ v3 ∧ v3 < 31)) ∧
      ((hb (g 149 (g 150 (v2 - (1 : Int)))) v3) = 0 →
       jv_At jv_T jv_ml kY_findRing 9 [jv_P 136, jv_I v1, jv_I v2, jv_I v3] [] (LL n l) g Q) ∧
      (¬ (hb (g 149 (g 150 (v2 - (1 : Int)))) v3) = 0 →
       jv_r32 (v1 - (1 : Int)) ∧
        ((v1 - (1 : Int)) ≤ v2 →
         (0 ≤ v3 ∧ v3 < 10) ∧
          (0 ≤ (0 : Int) ∧ (0 : Int) < 10) ∧
          ((0 ≤ (g 149 v3) ∧ (g 149 v3) < 2147483648 ∧ 0 ≤ (g 150 (0 : Int)) ∧ (g 150 (0 : Int)) < 31)) ∧
          ((hb (g 149 v3) (g 150 (0 : Int))) = 0 →
           jv_At jv_T jv_ml kY_findRing 9 [jv_P 136, jv_I v1, jv_I v2, jv_I v3] [] (LL n l) g Q) ∧
          (¬ (hb (g 149 v3) (g 150 (0 : Int))) = 0 →
           ((1 : Int) = 0 ∨ (1 : Int) = 1) ∧ Q (jv_I (1 : Int)) (LL n l) g)) ∧
        (¬ (v1 - (1 : Int)) ≤ v2 →
         jv_r32 (v2 + (1 : Int)) ∧
          (0 ≤ (v2 + (1 : Int)) ∧ (v2 + (1 : Int)) < 10) ∧ 
          jv_At jv_T jv_ml kY_findRing 9 [jv_P 136, jv_I v1, jv_I (v2 + (1 : Int)), jv_I v3] [] (LL n l) (jv_up g 150 (v2 + (1 : Int)) (-1 : Int)) Q))) ∧
    (¬ s0 = 0 →
     jv_At jv_T jv_ml kY_findRing 9 [jv_P 136, jv_I v1, jv_I v2, jv_I v3] [] (LL n l) g Q)) :
  jv_At jv_T jv_ml kY_findRing 64 [jv_P 136, jv_I v1, jv_I v2, jv_I v3] [jv_I s0] (LL n l) g Q :=
  jv_of_wp (gok9 (A := A)) (md := []) (stop := [9]) (tab := jt_Y_findRing) rfl 400 _ _ _ _ _ h
theorem tr_Y_findRing {A : jA} {n l : Nat} {g : jv_S} {Q : jv_V → jv_L → jv_S → Prop} {W : Nat → Nat} {m M : Nat} (hm : m ≤ 10) (hM2 : 2 ≤ M) (hM10 : M ≤ 10) (f6 : g 136 6 = m) (hx : ∀ c : Nat, c < m → g 149 c = W c) (hl : ∀ c, c < m → W c < 2 ^ m)
  (hQ1 : ∀ (g' : jv_S) (s : Nat → Nat), VR W m M s → (∀ s', VR W m M s' → lexle M s s') → (∀ i : Nat, i < M → g' 150 i = s i) → (∀ (p : Nat) (i : Int), ¬ p = 150 → g' p i = g p i) → Q (jv_I 1) (LL n l) g')
  (hQ0 : (∀ s, ¬ VR W m M s) → ∀ g' : jv_S, (∀ (p : Nat) (i : Int), ¬ p = 150 → g' p i = g p i) → Q (jv_I 0) (LL n l) g') :
  jv_Ca jv_T jv_ml kY_findRing [jv_P 136, jv_I M] (LL n l) g Q := by
  have main : ∀ (e d : Nat), d + e + 1 = M → ∀ (r : Nat → Nat), PV W m r d → ∀ u, u ≤ m →
    (∀ (g' : jv_S) (v : jv_V), (∀ s, VR W m M s → ag r s d → ¬ u ≤ s d) → (∀ i : Nat, i < d → g' 150 i = r i) → (∀ (p : Nat) (i : Int), ¬ p = 150 → g' p i = g p i) → jv_At jv_T jv_ml kY_findRing 9 [jv_P 136, jv_I M, jv_I ((d : Int) + -1), v] [] (LL n l) (g') Q) →
    (∀ (g' : jv_S) (s : Nat → Nat), VR W m M s → ag r s d → u ≤ s d → (∀ s', VR W m M s' → ag r s' d → u ≤ s' d → lexle M s s') → (∀ i : Nat, i < M → g' 150 i = s i) → (∀ (p : Nat) (i : Int), ¬ p = 150 → g' p i = g p i) → Q (jv_I 1) (LL n l) g') →
    ∀ (g' : jv_S) (v : jv_V), (∀ i : Nat, i < d → g' 150 i = r i) → g' 150 d = (u : Int) - 1 → (∀ (p : Nat) (i : Int), ¬ p = 150 → g' p i = g p i) → jv_At jv_T jv_ml kY_findRing 9 [jv_P 136, jv_I M, jv_I d, v] [] (LL n l) (g') Q := by
    intro e
    induction e with
    | zero =>
      intro d hd r hr
      apply loop_up
      intro u hu ih hK hF g' v h1 h2 hf
      apply sg_Y_findRing_9 (A := A)
      obtain ⟨G1, hG⟩ : ∃ G1, G1 = jv_up g' 150 d (g' 150 d + 1) := ⟨_, rfl⟩
      have e1 : G1 150 d = u := by rw [hG, up_eq rfl rfl]; omega
      have hf1 : ∀ (p : Nat) (i : Int), ¬ p = 150 → G1 p i = g p i := fun p i hp => by rw [hG, up_ne (by omega)]; exact hf p i hp
      have e6 : G1 136 6 = m := by rw [hf1 _ _ (by decide)]; exact f6
      have h1' : ∀ i : Nat, i < d → G1 150 i = r i := fun i hi => by rw [hG, up_ne (by omega)]; exact h1 i hi
      have e0 : G1 150 0 = r 0 := h1' 0 (by omega)
      rw [← hG, e1, e6, e0]
      have cont : (∀ s, VR W m M s → ag r s d → s d ≠ u) → u < m → ∀ v : jv_V, jv_At jv_T jv_ml kY_findRing 9 [jv_P 136, jv_I M, jv_I d, v] [] (LL n l) G1 Q := by
        intro hno hum v
        refine ih hum (fun g'' v h3 => hK g'' v (fun s a b c => ?_)) (fun g'' s a b c dd => hF g'' s a b (by omega) (fun s' a' b' c' => dd s' a' b' ?_)) G1 v h1' (by rw [e1]; omega) hf1
        · by_cases hs : s d = u
          · exact hno s a b hs
          · exact h3 s a b (by omega)
        · have := hno s' a' b'
          omega
      refine ⟨fun h => by omega, fun h => ⟨⟨by omega, by omega⟩, ⟨by omega, by omega⟩, ⟨by omega, by omega⟩, ⟨by omega, by omega⟩, fun h3 => ⟨fun h4 => by omega, fun h4 => ⟨⟨by omega, by omega⟩, fun h5 => ?_, fun h5 => ?_⟩⟩, fun h3 => ⟨⟨by omega, by omega⟩, ?_⟩⟩⟩
      · exact cont (fun s a b c => by have := a.2.2.1 d (by omega) (by omega); rw [b 0 (by omega)] at this; omega) (by omega) _
      · refine tr_Y_isAhead (A := A) (by omega) h1' (fun ⟨k, k1, k2⟩ => ?_) (fun hna => ?_)
        · apply sg_Y_findRing_64 (A := A)
          refine ⟨fun h => by omega, fun _ => cont (fun s a b c => ?_) (by omega) _⟩
          have := a.2.2.2.1 k d k1 (by omega)
          rw [b k k1, k2, c] at this
          exact this rfl
        · have hr1 := hr.1 (d - 1) (by omega)
          have f3 : G1 150 ((d : Int) - 1) = r (d - 1) := by
            have := h1' (d - 1) (by omega)
            rw [show (((d - 1 : Nat)) : Int) = (d : Int) - 1 by omega] at this
            exact this
          have f4 : G1 149 (r (d - 1) : Nat) = W (r (d - 1)) := by rw [hf1 _ _ (by decide)]; exact hx _ hr1
          have f5 : G1 149 u = W u := by rw [hf1 _ _ (by decide)]; exact hx _ (by omega)
          have l1 := i31 (hl _ hr1) (by omega)
          have l2 := i31 (hl u (by omega)) (by omega)
          have hr0 := hr.1 0 (by omega)
          apply sg_Y_findRing_64 (A := A)
          rw [f3, f4, f5, e0]
          cases hb1 : (W (r (d - 1))).testBit u with
          | false =>
            have q1 := hb_f hb1
            have := cont (fun s a b c => by
              have := a.2.2.2.2.1 (d - 1) (by omega)
              rw [show d - 1 + 1 = d by omega, b (d - 1) (by omega), c, hb1] at this
              cases this) (by omega) (jv_I (u : Int))
            rw [q1]
            repeat' (first | (with_reducible assumption) | apply And.intro | intro _)
            all_goals (first | omega | exact LLx_ok | assumption | skip)
          | true =>
            have q1 := hb_t hb1
            cases hb2 : (W u).testBit (r 0) with
            | false =>
              have q2 := hb_f hb2
              have := cont (fun s a b c => by
                have := a.2.2.2.2.2
                rw [show M - 1 = d by omega, b 0 (by omega), c, hb2] at this
                cases this) (by omega) (jv_I (u : Int))
              rw [q1, q2]
              repeat' (first | (with_reducible assumption) | apply And.intro | intro _)
              all_goals (first | omega | exact LLx_ok | assumption | skip)
            | true =>
              have q2 := hb_t hb2
              have hp := PV_ext hr (u := u) (by omega) (fun _ => by have := hna 0 (by omega); omega) hna (fun _ => hb1)
              rw [show d + 1 = M by omega] at hp
              have hv : VR W m M (fun i => if i = d then u else r i) := ⟨hM2, hp.1, hp.2.1, hp.2.2.1, hp.2.2.2, by (try dsimp only); rw [if_pos (by omega), if_neg (by omega)]; exact hb2⟩
              have := hF G1 (fun i => if i = d then u else r i) hv (fun k hk => if_neg (by omega)) (by (try dsimp only); rw [if_pos rfl]; exact Nat.le_refl _) (fun s' a' b' c' => by
                by_cases hs : s' d = u
                · exact Or.inl (fun k hk => (ag_ext b' hs k (by omega)).symm)
                · refine Or.inr ⟨d, by omega, fun j hj => ?_, ?_⟩
                  · (try dsimp only); rw [if_neg (by omega)]; exact (b' j hj).symm
                  · (try dsimp only); rw [if_pos rfl]; omega) (fun i hi => by
                (try dsimp only)
                split
                · next hid => rw [hid]; exact e1
                · exact h1' i (by omega)) hf1
              rw [q1, q2]
              repeat' (first | (with_reducible assumption) | apply And.intro | intro _)
              all_goals (first | omega | exact LLx_ok | assumption | skip)
      · exact hK G1 _ (fun s a b c => by have := a.2.1 d (by omega); omega) h1' hf1
    | succ e ihe =>
      intro d hd r hr
      apply loop_up
      intro u hu ih hK hF g' v h1 h2 hf
      apply sg_Y_findRing_9 (A := A)
      obtain ⟨G1, hG⟩ : ∃ G1, G1 = jv_up g' 150 d (g' 150 d + 1) := ⟨_, rfl⟩
      have e1 : G1 150 d = u := by rw [hG, up_eq rfl rfl]; omega
      have hf1 : ∀ (p : Nat) (i : Int), ¬ p = 150 → G1 p i = g p i := fun p i hp => by rw [hG, up_ne (by omega)]; exact hf p i hp
      have e6 : G1 136 6 = m := by rw [hf1 _ _ (by decide)]; exact f6
      have h1' : ∀ i : Nat, i < d → G1 150 i = r i := fun i hi => by rw [hG, up_ne (by omega)]; exact h1 i hi
      rw [← hG, e1, e6]
      have cont : (∀ s, VR W m M s → ag r s d → s d ≠ u) → u < m → ∀ (g'' : jv_S) (v : jv_V), (∀ i : Nat, i < d → g'' 150 i = r i) → g'' 150 d = u → (∀ (p : Nat) (i : Int), ¬ p = 150 → g'' p i = g p i) → jv_At jv_T jv_ml kY_findRing 9 [jv_P 136, jv_I M, jv_I d, v] [] (LL n l) (g'') Q := by
        intro hno hum g'' v a1 a2 a3
        refine ih hum (fun g'' v h3 => hK g'' v (fun s a b c => ?_)) (fun g'' s a b c dd => hF g'' s a b (by omega) (fun s' a' b' c' => dd s' a' b' ?_)) g'' v a1 (by rw [a2]; omega) a3
        · by_cases hs : s d = u
          · exact hno s a b hs
          · exact h3 s a b (by omega)
        · have := hno s' a' b'
          omega
      have deep : u < m → PV W m (fun i => if i = d then u else r i) (d + 1) → ∀ v : jv_V, jv_At jv_T jv_ml kY_findRing 9 [jv_P 136, jv_I M, jv_I (d + 1), v] [] (LL n l) (jv_up G1 150 ((d : Int) + 1) (-1)) Q := by
        intro hum hp v
        refine ihe (d + 1) (by omega) (fun i => if i = d then u else r i) hp 0 (by omega) (fun g'' v a1 a2 a3 => ?_) (fun g'' s a b c dd => hF g'' s a (ag_cut b).1 (by have := (ag_cut b).2; omega) (fun s' a' b' c' => ?_)) _ v (fun i hi => ?_) (up_eq rfl rfl) (fun p i hp => by rw [up_ne (by omega)]; exact hf1 p i hp)
        · have := cont (fun s a b c => a1 s a (ag_ext b c) (by omega)) hum g'' v (fun i hi => by have := a2 i (by omega); (try dsimp only at this); rw [if_neg (by omega)] at this; exact this) (by have := a2 d (by omega); (try dsimp only at this); rw [if_pos rfl] at this; exact this) a3
          rw [show (((d + 1 : Nat)) : Int) + -1 = (d : Int) by omega]
          exact this
        · by_cases hs : s' d = u
          · exact dd s' a' (ag_ext b' hs) (by omega)
          · refine Or.inr ⟨d, by omega, fun j hj => ?_, ?_⟩
            · rw [(ag_cut b).1 j hj]; exact (b' j hj).symm
            · rw [(ag_cut b).2]; omega
        · (try dsimp only)
          rw [up_ne (by omega)]
          split
          · next hid => rw [hid]; exact e1
          · exact h1' i (by omega)
      refine ⟨fun h => by omega, fun h => ⟨⟨by omega, by omega⟩, ⟨by omega, by omega⟩, ⟨by omega, by omega⟩, ⟨by omega, by omega⟩, fun h3 => ⟨fun h4 => ⟨⟨by omega, by omega⟩, fun h5 => by omega, fun h5 => ⟨⟨by omega, by omega⟩, ⟨by omega, by omega⟩, ?_⟩⟩, fun h4 => ⟨⟨by omega, by omega⟩, fun h5 => ?_, fun h5 => ?_⟩⟩, fun h3 => ⟨⟨by omega, by omega⟩, ?_⟩⟩⟩
      · have hd0 : d = 0 := by omega
        subst hd0
        exact deep (by omega) (PV_ext hr (by omega) (fun h => by omega) (fun k hk => by omega) (fun h => by omega)) _
      · rw [show G1 150 0 = r 0 from h1' 0 (by omega)] at h5
        exact cont (fun s a b c => by have := a.2.2.1 d (by omega) (by omega); rw [b 0 (by omega)] at this; omega) (by omega) G1 _ h1' e1 hf1
      · rw [show G1 150 0 = r 0 from h1' 0 (by omega)] at h5
        refine tr_Y_isAhead (A := A) (by omega) h1' (fun ⟨k, k1, k2⟩ => ?_) (fun hna => ?_)
        · apply sg_Y_findRing_64 (A := A)
          refine ⟨fun h => by omega, fun _ => cont (fun s a b c => ?_) (by omega) G1 _ h1' e1 hf1⟩
          have := a.2.2.2.1 k d k1 (by omega)
          rw [b k k1, k2, c] at this
          exact this rfl
        · have hr1 := hr.1 (d - 1) (by omega)
          have f3 : G1 150 ((d : Int) - 1) = r (d - 1) := by
            have := h1' (d - 1) (by omega)
            rw [show (((d - 1 : Nat)) : Int) = (d : Int) - 1 by omega] at this
            exact this
          have f4 : G1 149 (r (d - 1) : Nat) = W (r (d - 1)) := by rw [hf1 _ _ (by decide)]; exact hx _ hr1
          have l1 := i31 (hl _ hr1) (by omega)
          apply sg_Y_findRing_64 (A := A)
          rw [f3, f4]
          cases hb1 : (W (r (d - 1))).testBit u with
          | false =>
            have q1 := hb_f hb1
            have := cont (fun s a b c => by
              have := a.2.2.2.2.1 (d - 1) (by omega)
              rw [show d - 1 + 1 = d by omega, b (d - 1) (by omega), c, hb1] at this
              cases this) (by omega) G1 (jv_I (u : Int)) h1' e1 hf1
            rw [q1]
            repeat' (first | (with_reducible assumption) | apply And.intro | intro _)
            all_goals (first | omega | exact LLx_ok | assumption | skip)
          | true =>
            have q1 := hb_t hb1
            have := deep (by omega) (PV_ext hr (by omega) (fun _ => by have := hna 0 (by omega); omega) hna (fun _ => hb1)) (jv_I (u : Int))
            rw [q1]
            repeat' (first | (with_reducible assumption) | apply And.intro | intro _)
            all_goals (first | omega | exact LLx_ok | assumption | skip)
      · exact hK G1 _ (fun s a b c => by have := a.2.1 d (by omega); omega) h1' hf1
  refine sg_Y_findRing_0 (A := A) ⟨⟨by omega, by omega⟩, ?_⟩
  refine main (M - 1) 0 (by omega) (fun _ => 0) ⟨fun k hk => by omega, fun k _ hk => by omega, fun j k _ hk => by omega, fun k hk => by omega⟩ 0 (by omega) (fun g' v a1 a2 a3 => ?_) (fun g' s a b c dd e1 e2 => hQ1 g' s a (fun s' a' => dd s' a' (fun k hk => by omega) (by omega)) e1 e2) _ _ (fun i hi => by omega) (up_eq rfl rfl) (fun p i hp => up_ne (by omega))
  apply sg_Y_findRing_9 (A := A)
  exact ⟨fun _ => ⟨Or.inl rfl, hQ0 (fun s hs => a1 s hs (fun k hk => by omega) (by omega)) g' a3⟩, fun h => by omega⟩
/-- what ring answers -/
def rgv (L : Nat) (s : Nat → Nat) (k : Int) : Int := if k = -1 then L else if (L : Int) ≤ k then -9 else s k.toNat
set_option maxRecDepth 100000 in
theorem sg_Y_ring_0 {A : jA} {n l : Nat} {g : jv_S} {Q : jv_V → jv_L → jv_S → Prop} {v1 : Int} (h :
   ((True)) ∧
    ((jb_p ((-1 : Int) ≤ v1 ∧ v1 ≤ (9 : Int))) = 0 →
     Q (jv_I (-1 : Int)) (LL n l) g) ∧
    (¬ (jb_p ((-1 : Int) ≤ v1 ∧ v1 ≤ (9 : Int))) = 0 →
     ((g 136 6) = 0 →
       Q (jv_I (-3 : Int)) (LL n l) g) ∧
      (¬ (g 136 6) = 0 →
       jv_Ca jv_T jv_ml kY_hasRing [jv_P 136] (LL n l) (jv_up g 136 21 (0 : Int)) (fun r L2 g2 => jv_At jv_T jv_ml kY_ring 31 [jv_P 136, jv_I v1] (jv_pu r []) L2 g2 Q)))) :
  jv_At jv_T jv_ml kY_ring 0 [jv_P 136, jv_I v1] [] (LL n l) g Q :=
  jv_of_wp (gok9 (A := A)) (md := []) (stop := [39]) (tab := jt_Y_ring) rfl 400 _ _ _ _ _ h
set_option maxRecDepth 100000 in
theorem sg_Y_ring_31 {A : jA} {n l : Nat} {g : jv_S} {Q : jv_V → jv_L → jv_S → Prop} {v1 s0 : Int} (h :
   (s0 = 0 →
     (v1 = (-1 : Int) →
       Q (jv_I (g 136 21)) (LL n l) g) ∧
      (¬ v1 = (-1 : Int) →
       ((g 136 21) ≤ v1 →
         Q (jv_I (-9 : Int)) (LL n l) g) ∧
        (¬ (g 136 21) ≤ v1 →
         (0 ≤ v1 ∧ v1 < 10) ∧
          Q (jv_I (g 150 v1)) (LL n l) g))) ∧
    (¬ s0 = 0 →
     jv_At jv_T jv_ml kY_ring 39 [jv_P 136, jv_I v1] [] (LL n l) (jv_up g 136 21 (2 : Int)) Q)) :
  jv_At jv_T jv_ml kY_ring 31 [jv_P 136, jv_I v1] [jv_I s0] (LL n l) g Q :=
  jv_of_wp (gok9 (A := A)) (md := []) (stop := [39]) (tab := jt_Y_ring) rfl 400 _ _ _ _ _ h
set_option maxRecDepth 100000 in
theorem sg_Y_ring_39 {A : jA} {n l : Nat} {g : jv_S} {Q : jv_V → jv_L → jv_S → Prop} {v1 : Int} (h :
   jv_Ca jv_T jv_ml kY_findRing [jv_P 136, jv_I (g 136 21)] (LL n l) g (fun r L2 g2 => jv_At jv_T jv_ml kY_ring 47 [jv_P 136, jv_I v1] (jv_pu r []) L2 g2 Q)) :
  jv_At jv_T jv_ml kY_ring 39 [jv_P 136, jv_I v1] [] (LL n l) g Q :=
  jv_of_wp (gok9 (A := A)) (md := []) (stop := [39]) (tab := jt_Y_ring) rfl 400 _ _ _ _ _ h
set_option maxRecDepth 100000 in
theorem sg_Y_ring_47 {A : jA} {n l : Nat} {g : jv_S} {Q : jv_V → jv_L → jv_S → Prop} {v1 s0 : Int} (h :
   (s0 = 0 →
     jv_r32 ((g 136 21) + (1 : Int)) ∧
      jv_At jv_T jv_ml kY_ring 39 [jv_P 136, jv_I v1] [] (LL n l) (jv_up g 136 21 ((g 136 21) + (1 : Int))) Q) ∧
    (¬ s0 = 0 →
     (v1 = (-1 : Int) →
       Q (jv_I (g 136 21)) (LL n l) g) ∧
      (¬ v1 = (-1 : Int) →
       ((g 136 21) ≤ v1 →
         Q (jv_I (-9 : Int)) (LL n l) g) ∧
        (¬ (g 136 21) ≤ v1 →
         (0 ≤ v1 ∧ v1 < 10) ∧
          Q (jv_I (g 150 v1)) (LL n l) g)))) :
  jv_At jv_T jv_ml kY_ring 47 [jv_P 136, jv_I v1] [jv_I s0] (LL n l) g Q :=
  jv_of_wp (gok9 (A := A)) (md := []) (stop := [39]) (tab := jt_Y_ring) rfl 400 _ _ _ _ _ h
theorem tr_Y_ring {A : jA} {n l : Nat} {g : jv_S} {Q : jv_V → jv_L → jv_S → Prop} (hM : MN A g) {k : Int} {L : Nat} {s : Nat → Nat} (hL : (L = 0 ∧ kG A = 0) ∨ (2 ≤ L ∧ L ≤ ln A ∧ kG A ≠ 0 ∧ RG (wt A) (ln A) L s))
  (hQ : ∀ g' : jv_S, (∀ (p : Nat) (i : Int), ¬ (p = 148 ∨ p = 149 ∨ p = 150 ∨ (p = 136 ∧ i = 21)) → g' p i = g p i) → Q (jv_I (if ¬ (-1 ≤ k ∧ k ≤ 9) then -1 else if ln A = 0 then -3 else rgv L s k)) (LL n l) g') :
  jv_Ca jv_T jv_ml kY_ring [jv_P 136, jv_I k] (LL n l) g Q := by
  have hw := hM.1
  have w2 := hw.2.1
  have f2 := hM.2.2.1
  apply sg_Y_ring_0 (A := A)
  rw [jp0]
  refine ⟨trivial, fun h => ?_, fun h => ⟨fun h1 => ?_, fun h1 => ?_⟩⟩
  · have := hQ g (fun _ _ _ => rfl)
    rw [if_pos h] at this
    exact this
  · have := hQ g (fun _ _ _ => rfl)
    rw [if_neg h, if_pos (by omega)] at this
    exact this
  · have hM1 : MN A (jv_up g 136 21 0) := MN_fr hM (fun p i a b => up_ne (by omega)) (up_ne (by decide)) (up_ne (by decide)) (up_ne (by decide))
    refine tr_Y_hasRing hM1 (fun g1 c1 c2 c3 => ?_)
    have f21 : g1 136 21 = 0 := by rw [c3 _ _ (by decide), up_eq rfl rfl]
    have f6 : g1 136 6 = ln A := by rw [c3 _ _ (by decide), up_ne (by decide)]; exact f2
    have hf1 : ∀ (p : Nat) (i : Int), ¬ (p = 148 ∨ p = 149 ∨ p = 150 ∨ (p = 136 ∧ i = 21)) → g1 p i = g p i := fun p i hp => by rw [c3 _ _ (by omega), up_ne (by omega)]
    apply sg_Y_ring_31 (A := A)
    rw [jp0]
    rcases hL with ⟨l1, l2⟩ | ⟨l1, l2, l3, l4⟩
    · have hq := hQ g1 hf1
      rw [if_neg h, if_neg (by omega)] at hq
      unfold rgv at hq
      subst l1
      refine ⟨fun h2 => ⟨fun h3 => ?_, fun h3 => ⟨fun h4 => ?_, fun h4 => by omega⟩⟩, fun h2 => absurd (fun h => h l2) h2⟩
      · rw [if_pos h3] at hq
        rw [f21]
        exact hq
      · rw [if_neg h3, if_pos (by omega)] at hq
        exact hq
    · refine ⟨fun h2 => absurd l3 h2, fun h2 => ?_⟩
      have main : ∀ (e M : Nat), M + e = L → 2 ≤ M → ∀ g' : jv_S, g' 136 21 = M → g' 136 6 = ln A → (∀ c : Nat, c < ln A → g' 149 c = wt A c) → (∀ (p : Nat) (i : Int), ¬ (p = 148 ∨ p = 149 ∨ p = 150 ∨ (p = 136 ∧ i = 21)) → g' p i = g p i) → jv_At jv_T jv_ml kY_ring 39 [jv_P 136, jv_I k] [] (LL n l) (g') Q := by
        intro e
        induction e with
        | zero =>
          intro M hM' hM2 g' a1 a2 a3 a4
          apply sg_Y_ring_39 (A := A)
          rw [a1]
          refine tr_Y_findRing (A := A) w2 hM2 (by omega) a2 a3 wt_lt (fun g2 s2 b1 b2 b3 b4 => ?_) (fun hno => absurd (by rw [show M = L by omega]; exact l4.1) (hno s))
          have b5 : g2 136 21 = M := by rw [b4 _ _ (by decide)]; exact a1
          have hML : M = L := by omega
          subst hML
          have hs := lexle_anti (l4.2.2 s2 b1) (b2 s l4.1)
          apply sg_Y_ring_47 (A := A)
          have hq := hQ g2 (fun p i hp => by rw [b4 _ _ (by omega)]; exact a4 p i hp)
          rw [if_neg h, if_neg (by omega)] at hq
          unfold rgv at hq
          refine ⟨fun h3 => by omega, fun _ => ⟨fun h3 => ?_, fun h3 => ⟨fun h4 => ?_, fun h4 => ⟨⟨by omega, by omega⟩, ?_⟩⟩⟩⟩
          · rw [if_pos h3] at hq
            rw [b5]
            exact hq
          · rw [if_neg h3, if_pos (by omega)] at hq
            exact hq
          · rw [if_neg h3, if_neg (by omega)] at hq
            obtain ⟨k, rfl⟩ := Int.eq_ofNat_of_zero_le (show 0 ≤ k by omega)
            rw [b3 k (by omega), ← hs k (by omega)]
            exact hq
        | succ e ih =>
          intro M hM' hM2 g' a1 a2 a3 a4
          apply sg_Y_ring_39 (A := A)
          rw [a1]
          refine tr_Y_findRing (A := A) w2 hM2 (by omega) a2 a3 wt_lt (fun g2 s2 b1 b2 b3 b4 => by have := l4.2.1 M s2 b1; omega) (fun hno g2 b4 => ?_)
          have b5 : g2 136 21 = M := by rw [b4 _ _ (by decide)]; exact a1
          apply sg_Y_ring_47 (A := A)
          refine ⟨fun _ => ⟨⟨by omega, by omega⟩, ?_⟩, fun h3 => absurd rfl h3⟩
          refine ih (M + 1) (by omega) (by omega) _ (by rw [up_eq rfl rfl]; omega) (by rw [up_ne (by decide), b4 _ _ (by decide)]; exact a2) (fun c hc => by rw [up_ne (by omega), b4 _ _ (by decide)]; exact a3 c hc) (fun p i hp => by rw [up_ne (by omega), b4 _ _ (by omega)]; exact a4 p i hp)
      exact main (L - 2) 2 (by omega) (by omega) _ (up_eq rfl rfl) (by rw [up_ne (by decide)]; exact f6) (fun c hc => by rw [up_ne (by omega)]; exact c2 c hc) (fun p i hp => by rw [up_ne (by omega)]; exact hf1 p i hp)
set_option maxRecDepth 100000 in
theorem sg_Y_rank_0 {A : jA} {n l : Nat} {g : jv_S} {Q : jv_V → jv_L → jv_S → Prop} {v1 : Int} (h :
   ((136 = 136) ∧ (LLx (LL n l)) ∧ (True)) ∧
    ((jb_p (0 ≤ v1 ∧ v1 < g 136 6)) = 0 →
     Q (jv_I (-1 : Int)) (LL n l) g) ∧
    (¬ (jb_p (0 ≤ v1 ∧ v1 < g 136 6)) = 0 →
     jv_Ca jv_T jv_ml kY_hasRing [jv_P 136] (LL n l) g (fun r L2 g2 => jv_At jv_T jv_ml kY_rank 14 [jv_P 136, jv_I v1, jv_U, jv_U, jv_U] (jv_pu r []) L2 g2 Q))) :
  jv_At jv_T jv_ml kY_rank 0 [jv_P 136, jv_I v1, jv_U, jv_U, jv_U] [] (LL n l) g Q :=
  jv_of_wp (gok9 (A := A)) (md := []) (stop := [22, 45, 55, 66]) (tab := jt_Y_rank) rfl 400 _ _ _ _ _ h
set_option maxRecDepth 100000 in
theorem sg_Y_rank_14 {A : jA} {n l : Nat} {g : jv_S} {Q : jv_V → jv_L → jv_S → Prop} {v1 s0 : Int} {v2 v3 v4 : jv_V} (h :
   (s0 = 0 →
     jv_At jv_T jv_ml kY_rank 22 [jv_P 136, jv_I v1, jv_I (0 : Int), v3, v4] [] (LL n l) g Q) ∧
    (¬ s0 = 0 →
     Q (jv_I (-3 : Int)) (LL n l) g)) :
  jv_At jv_T jv_ml kY_rank 14 [jv_P 136, jv_I v1, v2, v3, v4] [jv_I s0] (LL n l) g Q :=
  jv_of_wp (gok9 (A := A)) (md := []) (stop := [22, 45, 55, 66]) (tab := jt_Y_rank) rfl 400 _ _ _ _ _ h
set_option maxRecDepth 100000 in
theorem sg_Y_rank_22 {A : jA} {n l : Nat} {g : jv_S} {Q : jv_V → jv_L → jv_S → Prop} {v1 v2 : Int} {v3 v4 : jv_V} (h :
   ((g 136 6) ≤ v2 →
     jv_At jv_T jv_ml kY_rank 45 [jv_P 136, jv_I v1, jv_I (0 : Int), v3, v4] [] (LL n l) g Q) ∧
    (¬ (g 136 6) ≤ v2 →
     (0 ≤ v2 ∧ v2 < 10) ∧ 
      jv_r32 (v2 + (1 : Int)) ∧
      jv_At jv_T jv_ml kY_rank 22 [jv_P 136, jv_I v1, jv_I (v2 + (1 : Int)), v3, v4] [] (LL n l) (jv_up g 151 v2 (0 : Int)) Q)) :
  jv_At jv_T jv_ml kY_rank 22 [jv_P 136, jv_I v1, jv_I v2, v3, v4] [] (LL n l) g Q :=
  jv_of_wp (gok9 (A := A)) (md := []) (stop := [22, 45, 55, 66]) (tab := jt_Y_rank) rfl 400 _ _ _ _ _ h
set_option maxRecDepth 100000 in
theorem sg_Y_rank_45 {A : jA} {n l : Nat} {g : jv_S} {Q : jv_V → jv_L → jv_S → Prop} {v1 v2 : Int} {v3 v4 : jv_V} (h :
   ((g 136 6) ≤ v2 →
     (0 ≤ v1 ∧ v1 < 10) ∧
      Q (jv_I (g 151 v1)) (LL n l) g) ∧
    (¬ (g 136 6) ≤ v2 →
     jv_At jv_T jv_ml kY_rank 55 [jv_P 136, jv_I v1, jv_I v2, jv_I (0 : Int), v4] [] (LL n l) g Q)) :
  jv_At jv_T jv_ml kY_rank 45 [jv_P 136, jv_I v1, jv_I v2, v3, v4] [] (LL n l) g Q :=
  jv_of_wp (gok9 (A := A)) (md := []) (stop := [22, 45, 55, 66]) (tab := jt_Y_rank) rfl 400 _ _ _ _ _ h
set_option maxRecDepth 100000 in
theorem sg_Y_rank_55 {A : jA} {n l : Nat} {g : jv_S} {Q : jv_V → jv_L → jv_S → Prop} {v1 v2 v3 : Int} {v4 : jv_V} (h :
   ((g 136 6) ≤ v3 →
     jv_r32 (v2 + (1 : Int)) ∧
      jv_At jv_T jv_ml kY_rank 45 [jv_P 136, jv_I v1, jv_I (v2 + (1 : Int)), jv_I v3, v4] [] (LL n l) g Q) ∧
    (¬ (g 136 6) ≤ v3 →
     jv_At jv_T jv_ml kY_rank 66 [jv_P 136, jv_I v1, jv_I v2, jv_I v3, jv_I (0 : Int)] [] (LL n l) g Q)) :
  jv_At jv_T jv_ml kY_rank 55 [jv_P 136, jv_I v1, jv_I v2, jv_I v3, v4] [] (LL n l) g Q :=
  jv_of_wp (gok9 (A := A)) (md := []) (stop := [22, 45, 55, 66]) (tab := jt_Y_rank) rfl 400 _ _ _ _ _ h
set_option maxRecDepth 100000 in
theorem sg_Y_rank_66 {A : jA} {n l : Nat} {g : jv_S} {Q : jv_V → jv_L → jv_S → Prop} {v1 v2 v3 v4 : Int} (h :
   ((g 136 6) ≤ v4 →
     jv_r32 (v3 + (1 : Int)) ∧
      jv_At jv_T jv_ml kY_rank 55 [jv_P 136, jv_I v1, jv_I v2, jv_I (v3 + (1 : Int)), jv_I v4] [] (LL n l) g Q) ∧
    (¬ (g 136 6) ≤ v4 →
     (0 ≤ v3 ∧ v3 < 10) ∧
      ((0 ≤ (g 149 v3) ∧ (g 149 v3) < 2147483648 ∧ 0 ≤ v4 ∧ v4 < 31)) ∧
      ((hb (g 149 v3) v4) = 0 →
       jv_r32 (v4 + (1 : Int)) ∧
        jv_At jv_T jv_ml kY_rank 66 [jv_P 136, jv_I v1, jv_I v2, jv_I v3, jv_I (v4 + (1 : Int))] [] (LL n l) g Q) ∧
      (¬ (hb (g 149 v3) v4) = 0 →
       (0 ≤ v4 ∧ v4 < 10) ∧
        jv_r32 ((g 151 v4) + (1 : Int)) ∧
        (0 ≤ v3 ∧ v3 < 10) ∧
        (((g 151 v4) + (1 : Int)) ≤ (g 151 v3) →
         jv_r32 (v4 + (1 : Int)) ∧
          jv_At jv_T jv_ml kY_rank 66 [jv_P 136, jv_I v1, jv_I v2, jv_I v3, jv_I (v4 + (1 : Int))] [] (LL n l) g Q) ∧
        (¬ ((g 151 v4) + (1 : Int)) ≤ (g 151 v3) →
         (0 ≤ v4 ∧ v4 < 10) ∧
          jv_r32 ((g 151 v4) + (1 : Int)) ∧
          (0 ≤ v3 ∧ v3 < 10) ∧ 
          jv_r32 (v4 + (1 : Int)) ∧
          jv_At jv_T jv_ml kY_rank 66 [jv_P 136, jv_I v1, jv_I v2, jv_I v3, jv_I (v4 + (1 : Int))] [] (LL n l) (jv_up g 151 v3 ((g 151 v4) + (1 : Int))) Q)))) :
  jv_At jv_T jv_ml kY_rank 66 [jv_P 136, jv_I v1, jv_I v2, jv_I v3, jv_I v4] [] (LL n l) g Q :=
  jv_of_wp (gok9 (A := A)) (md := []) (stop := [22, 45, 55, 66]) (tab := jt_Y_rank) rfl 400 _ _ _ _ _ h
theorem tr_Y_rank {A : jA} {n l : Nat} {g : jv_S} {Q : jv_V → jv_L → jv_S → Prop} (hM : MN A g) {c : Int}
  (hQ : ∀ g' : jv_S, (∀ (p : Nat) (i : Int), ¬ (p = 148 ∨ p = 149 ∨ p = 151) → g' p i = g p i) → Q (jv_I (if ¬ (0 ≤ c ∧ c < ln A) then -1 else if kG A ≠ 0 then -3 else rkr (wt A) (ln A) (ln A) c.toNat)) (LL n l) g') :
  jv_Ca jv_T jv_ml kY_rank [jv_P 136, jv_I c] (LL n l) g Q := by
  have hw := hM.1
  have w2 := hw.2.1
  have f2 := hM.2.2.1
  apply sg_Y_rank_0 (A := A)
  rw [jp0, f2]
  refine ⟨⟨rfl, LLx_ok, trivial⟩, fun h => ?_, fun h => ?_⟩
  · have := hQ g (fun _ _ _ => rfl)
    rw [if_pos h] at this
    exact this
  · obtain ⟨c, rfl⟩ := Int.eq_ofNat_of_zero_le (show 0 ≤ c by omega)
    have hc0 : c < ln A := by omega
    refine tr_Y_hasRing hM (fun g1 c1 c2 c3 => ?_)
    apply sg_Y_rank_14 (A := A)
    rw [jp0]
    refine ⟨fun h1 => ?_, fun h1 => ?_⟩
    · have f6 : ∀ g' : jv_S, (∀ (p : Nat) (i : Int), ¬ p = 151 → g' p i = g1 p i) → g' 136 6 = ln A := fun g' hf => by rw [hf _ _ (by decide), c3 _ _ (by decide)]; exact f2
      have main : ∀ k, k ≤ ln A → ∀ (g' : jv_S) (v w : jv_V), (∀ i : Nat, i < ln A → g' 151 i = rkr (wt A) (ln A) k i) → (∀ (p : Nat) (i : Int), ¬ p = 151 → g' p i = g1 p i) → jv_At jv_T jv_ml kY_rank 45 [jv_P 136, jv_I c, jv_I k, v, w] [] (LL n l) (g') Q := by
        apply loop_up
        intro k hk ih g' v w a1 hf
        have f2' := f6 g' hf
        apply sg_Y_rank_45 (A := A)
        refine ⟨fun h2 => ⟨⟨by omega, by omega⟩, ?_⟩, fun h2 => ?_⟩
        · have := hQ g' (fun p i hp => by rw [hf _ _ (by omega), c3 _ _ (by omega)])
          rw [if_neg h, if_neg h1] at this
          rw [a1 c (by omega), show k = ln A by omega]
          exact this
        have cs' : ∀ d, d ≤ ln A → ∀ (g' : jv_S) (w : jv_V), (∀ i : Nat, i < ln A → g' 151 i = rkc (wt A) (ln A) (rkr (wt A) (ln A) k) d i) → (∀ (p : Nat) (i : Int), ¬ p = 151 → g' p i = g1 p i) → jv_At jv_T jv_ml kY_rank 55 [jv_P 136, jv_I c, jv_I k, jv_I d, w] [] (LL n l) (g') Q := by
          apply loop_up
          intro d hd ihc g' w a1 hf
          have f2' := f6 g' hf
          apply sg_Y_rank_55 (A := A)
          refine ⟨fun h => ⟨⟨by omega, by omega⟩, ih (by omega) g' _ _ (fun i hi => by rw [a1 i hi, show d = ln A by omega]; rfl) hf⟩, fun h => ?_⟩
          have ds : ∀ e, e ≤ ln A → ∀ (g' : jv_S), (∀ i : Nat, i < ln A → g' 151 i = rkd (wt A) d (rkc (wt A) (ln A) (rkr (wt A) (ln A) k) d) e i) → (∀ (p : Nat) (i : Int), ¬ p = 151 → g' p i = g1 p i) → jv_At jv_T jv_ml kY_rank 66 [jv_P 136, jv_I c, jv_I k, jv_I d, jv_I e] [] (LL n l) (g') Q := by
            apply loop_up
            intro e he ihd g' a1 hf
            have f2' := f6 g' hf
            have bnd := rkd_b (W := wt A) (c := d) (rkc_b (W := wt A) w2 (rkr_b (W := wt A) w2 k) d) e
            apply sg_Y_rank_66 (A := A)
            refine ⟨fun h => ⟨⟨by omega, by omega⟩, ihc (by omega) g' _ (fun i hi => by rw [a1 i hi, show e = ln A by omega]; rfl) hf⟩, fun h => ?_⟩
            have fx : g' 149 d = wt A d := by rw [hf _ _ (by decide)]; exact c2 d (by omega)
            have hW31 := i31 (wt_lt (A := A) d (by omega)) (by omega)
            have b1 := bnd d
            have b2 := bnd e
            have v1 := a1 d (by omega)
            have v2 := a1 e (by omega)
            rw [fx]
            cases hbit : (wt A d).testBit e with
            | false =>
              have e0 := hb_f hbit
              have := ihd (by omega) g' (fun i hi => by
                rw [a1 i hi]
                show _ = rs (wt A) (rkd (wt A) d (rkc (wt A) (ln A) (rkr (wt A) (ln A) k) d) e) d e i
                unfold rs
                rw [hbit]
                rfl) hf
              rw [e0]
              repeat' (first | (with_reducible assumption) | apply And.intro | intro _)
              all_goals (first | omega | exact LLx_ok | assumption | skip)
            | true =>
              have e0 := hb_t hbit
              rw [e0]
              by_cases hlt : g' 151 d < g' 151 e + 1
              · have := ihd (by omega) (jv_up g' 151 d (g' 151 e + 1)) (fun i hi => by
                  show _ = rs (wt A) (rkd (wt A) d (rkc (wt A) (ln A) (rkr (wt A) (ln A) k) d) e) d e i
                  unfold rs
                  rw [if_pos hbit]
                  by_cases hic : i = d
                  · subst hic
                    rw [up_eq rfl rfl, if_pos rfl, ← v1, ← v2, if_pos hlt]
                  · rw [up_ne (by omega), if_neg hic]
                    exact a1 i hi) (fun p i hp => by rw [up_ne (by omega)]; exact hf p i hp)
                repeat' (first | (with_reducible assumption) | apply And.intro | intro _)
                all_goals (first | omega | exact LLx_ok | assumption | skip)
              · have := ihd (by omega) g' (fun i hi => by
                  show _ = rs (wt A) (rkd (wt A) d (rkc (wt A) (ln A) (rkr (wt A) (ln A) k) d) e) d e i
                  unfold rs
                  rw [if_pos hbit]
                  by_cases hic : i = d
                  · subst hic
                    rw [if_pos rfl, ← v1, ← v2, if_neg hlt]
                  · rw [if_neg hic]
                    exact a1 i hi) hf
                repeat' (first | (with_reducible assumption) | apply And.intro | intro _)
                all_goals (first | omega | exact LLx_ok | assumption | skip)
          exact ds 0 (by omega) g' a1 hf
        exact cs' 0 (by omega) g' _ a1 hf
      have zs : ∀ d, d ≤ ln A → ∀ (g' : jv_S) (v w : jv_V), (∀ i : Nat, i < d → g' 151 i = 0) → (∀ (p : Nat) (i : Int), ¬ p = 151 → g' p i = g1 p i) → jv_At jv_T jv_ml kY_rank 22 [jv_P 136, jv_I c, jv_I d, v, w] [] (LL n l) (g') Q := by
        apply loop_up
        intro d hd ih g' v w a1 hf
        have f2' := f6 g' hf
        apply sg_Y_rank_22 (A := A)
        refine ⟨fun h => main 0 (by omega) g' _ _ (fun i hi => by rw [a1 i (by omega)]; rfl) hf, fun h => ⟨⟨by omega, by omega⟩, ⟨by omega, by omega⟩, ih (by omega) _ _ _ (fun i hi => ?_) (fun p i hp => by rw [up_ne (by omega)]; exact hf p i hp)⟩⟩
        by_cases hid : i = d
        · subst hid; rw [up_eq rfl rfl]
        · rw [up_ne (by omega)]; exact a1 i (by omega)
      exact zs 0 (by omega) g1 _ _ (fun i hi => by omega) (fun p i _ => rfl)
    · have := hQ g1 (fun p i hp => c3 _ _ (by omega))
      rw [if_neg h, if_pos (Classical.not_not.mp h1)] at this
      exact this
