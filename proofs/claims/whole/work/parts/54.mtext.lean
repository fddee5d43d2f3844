/-! ===== the model reads a text ===== -/
theorem ac_0 {S : jB} {x : Int} (h : S 0 0 = 0) : ac S x = (decide (x = 110), ub S 0 0 1) := by unfold ac; rw [if_pos h]
theorem ac_1 {S : jB} {x : Int} (h : S 0 0 = 1) : ac S x = (decide (50 ≤ x ∧ x ≤ 54), ub (ub S 0 0 2) 0 1 (x - 48)) := by unfold ac; rw [if_neg (by omega), if_pos h]
theorem ac_3 {S : jB} {x : Int} (h : S 0 0 = 3) : ac S x = (decide (48 ≤ x ∧ x - 48 < S 0 1), ub (ub S 0 0 4) 1 (S 0 2).toNat (x - 48)) := by unfold ac; rw [if_neg (by omega), if_neg (by omega), if_pos h]
theorem ac_4 {S : jB} {x : Int} (h : S 0 0 = 4) : ac S x = (decide (x = 62), ub S 0 0 5) := by unfold ac; rw [if_neg (by omega), if_neg (by omega), if_neg (by omega), if_pos h]
theorem ac_5 {S : jB} {x : Int} (h : S 0 0 = 5) : ac S x = (decide (48 ≤ x ∧ x - 48 < S 0 1 ∧ x - 48 ≠ S 1 (S 0 2).toNat), ub (ub (ub (ub S 0 0 6) 0 2 (S 0 2 + 1)) 2 (S 0 2).toNat (x - 48)) 3 (S 0 2).toNat 1) := by unfold ac; rw [if_neg (by omega), if_neg (by omega), if_neg (by omega), if_neg (by omega), if_pos h]
theorem ac_6 {S : jB} {x : Int} (h : S 0 0 = 6) (hx : x = 42) : ac S x = (true, ub S 0 0 7) := by unfold ac; rw [if_neg (by omega), if_neg (by omega), if_neg (by omega), if_neg (by omega), if_neg (by omega), if_pos ⟨h, hx⟩]
theorem ac_7 {S : jB} {x : Int} (h : S 0 0 = 7) : ac S x = (decide (49 ≤ x ∧ x ≤ 50), ub (ub S 0 0 8) 3 (S 0 2 - 1).toNat (x - 48)) := by unfold ac; rw [if_neg (by omega), if_neg (by omega), if_neg (by omega), if_neg (by omega), if_neg (by omega), if_neg (by omega), if_pos h]
theorem ac_l {S : jB} {x : Int} (h : S 0 0 = 2 ∨ S 0 0 = 8 ∨ (S 0 0 = 6 ∧ x ≠ 42)) : ac S x = (decide (x = 59 ∧ S 0 2 < 10), ub S 0 0 3) := by unfold ac; rw [if_neg (by omega), if_neg (by omega), if_neg (by omega), if_neg (by omega), if_neg (by omega), if_neg (by omega), if_neg (by omega)]
theorem ok_s {f : Nat → Int} {j : Nat} (h : okj f j) (h1 : (ac (aut f j) (f j)).1 = true) : okj f (j + 1) := fun i hi => by
  by_cases hij : i = j
  · subst hij; exact h1
  · exact h i (by omega)
theorem FF_f {f : Nat → Int} {j m : Nat} (h : okj f j) (hj : j < m) (h1 : (ac (aut f j) (f j)).1 = false) : FF f m j := Or.inl ⟨j, hj, h, h1, rfl⟩
theorem FF_e {f : Nat → Int} {m : Nat} (h : okj f m) (h1 : aut f m 0 0 ≠ 6) (h2 : aut f m 0 0 ≠ 8) : FF f m m := Or.inr (Or.inr ⟨h, fun h3 => h3.elim h1 h2, rfl⟩)
def dg (f : Nat → Int) (m j : Nat) : Int := if j < m ∧ 48 ≤ f j ∧ f j ≤ 57 then f j - 48 else -9
set_option maxRecDepth 100000 in
theorem sg_Y_digitAt_0 {A : jA} {n l : Nat} {g : jv_S} {Q : jv_V → jv_L → jv_S → Prop} {v1 v2 : Int} (h :
   (v2 ≤ v1 →
     Q (jv_I (-9 : Int)) (LL n l) g) ∧
    (¬ v2 ≤ v1 →
     (0 ≤ v1 ∧ v1 < 240) ∧
      ((True)) ∧
      ((jb_p ((48 : Int) ≤ (g 139 v1) ∧ (g 139 v1) ≤ (57 : Int))) = 0 →
       Q (jv_I (-9 : Int)) (LL n l) g) ∧
      (¬ (jb_p ((48 : Int) ≤ (g 139 v1) ∧ (g 139 v1) ≤ (57 : Int))) = 0 →
       (0 ≤ v1 ∧ v1 < 240) ∧
        jv_r32 ((g 139 v1) - (48 : Int)) ∧
        Q (jv_I ((g 139 v1) - (48 : Int))) (LL n l) g))) :
  jv_At jv_T jv_ml kY_digitAt 0 [jv_P 136, jv_I v1, jv_I v2] [] (LL n l) g Q :=
  jv_of_wp (gok9 (A := A)) (md := []) (stop := []) (tab := jt_Y_digitAt) rfl 400 _ _ _ _ _ h
theorem tr_Y_digitAt {A : jA} {n l : Nat} {g : jv_S} {Q : jv_V → jv_L → jv_S → Prop} {a m j : Nat} {f : Nat → Int} {v w : Int} (hv : v = (a : Int) + j) (hw : w = (a : Int) + m) (ham : a + m ≤ 240) (hf : ∀ j : Nat, j < m → g 139 ((a : Int) + j) = f j) (hQ : Q (jv_I (dg f m j)) (LL n l) g) :
  jv_Ca jv_T jv_ml kY_digitAt [jv_P 136, jv_I v, jv_I w] (LL n l) g Q := by
  subst hv
  subst hw
  apply sg_Y_digitAt_0 (A := A)
  unfold dg at hQ
  refine ⟨fun h => ?_, fun h => ⟨⟨by omega, by omega⟩, trivial, fun h2 => ?_, fun h2 => ⟨⟨by omega, by omega⟩, ?_⟩⟩⟩
  · rw [if_neg (by omega)] at hQ; exact hQ
  · rw [jp0, hf j (by omega)] at h2
    rw [if_neg (by omega)] at hQ; exact hQ
  · rw [jp0, hf j (by omega)] at h2
    rw [hf j (by omega)]
    rw [if_pos (by omega)] at hQ
    exact ⟨⟨by omega, by omega⟩, hQ⟩
def RN (S : jB) (g : jv_S) : Prop := g 136 13 = S 0 1 ∧ g 136 14 = S 0 2 ∧ ∀ c : Nat, (c : Int) < S 0 2 → g 145 c = S 1 c ∧ g 146 c = S 2 c ∧ g 147 c = S 3 c
set_option maxRecDepth 100000 in
theorem sg_Y_readNet_0 {A : jA} {n l : Nat} {g : jv_S} {Q : jv_V → jv_L → jv_S → Prop} {v1 v2 : Int} (h :
   jv_r32 (v1 + v2) ∧
    (v1 = (v1 + v2) →
     Q (jv_I (0 : Int)) (LL n l) (jv_up g 136 14 (0 : Int))) ∧
    (¬ v1 = (v1 + v2) →
     (0 ≤ v1 ∧ v1 < 240) ∧
      ((g 139 v1) = (110 : Int) →
       jv_r32 (v1 + (1 : Int)) ∧
        jv_Ca jv_T jv_ml kY_digitAt [jv_P 136, jv_I (v1 + (1 : Int)), jv_I (v1 + v2)] (LL n l) (jv_up g 136 14 (0 : Int)) (fun r L2 g2 => jv_At jv_T jv_ml kY_readNet 43 [jv_P 136, jv_I v1, jv_I v2, jv_I (v1 + v2), jv_I (v1 + (1 : Int)), jv_U, jv_U, jv_U] (jv_pu r [jv_P 136]) L2 g2 Q)) ∧
      (¬ (g 139 v1) = (110 : Int) →
       Q (jv_I (0 : Int)) (LL n l) (jv_up g 136 14 (0 : Int))))) :
  jv_At jv_T jv_ml kY_readNet 0 [jv_P 136, jv_I v1, jv_I v2, jv_U, jv_U, jv_U, jv_U, jv_U] [] (LL n l) g Q :=
  jv_of_wp (gok9 (A := A)) (md := []) (stop := [67]) (tab := jt_Y_readNet) rfl 400 _ _ _ _ _ h
set_option maxRecDepth 100000 in
theorem sg_Y_readNet_43 {A : jA} {n l : Nat} {g : jv_S} {Q : jv_V → jv_L → jv_S → Prop} {v1 v2 v3 v4 s1 : Int} {v5 v6 v7 : jv_V} (h :
   ((True)) ∧
    ((jb_p ((2 : Int) ≤ s1 ∧ s1 ≤ (6 : Int))) = 0 →
     jv_r32 (v4 - v1) ∧
      Q (jv_I (v4 - v1)) (LL n l) (jv_up g 136 13 s1)) ∧
    (¬ (jb_p ((2 : Int) ≤ s1 ∧ s1 ≤ (6 : Int))) = 0 →
     jv_r32 (v4 + (1 : Int)) ∧
      jv_At jv_T jv_ml kY_readNet 67 [jv_P 136, jv_I v1, jv_I v2, jv_I v3, jv_I (v4 + (1 : Int)), v5, v6, v7] [] (LL n l) (jv_up g 136 13 s1) Q)) :
  jv_At jv_T jv_ml kY_readNet 43 [jv_P 136, jv_I v1, jv_I v2, jv_I v3, jv_I v4, v5, v6, v7] [jv_I s1, jv_P 136] (LL n l) g Q :=
  jv_of_wp (gok9 (A := A)) (md := []) (stop := [67]) (tab := jt_Y_readNet) rfl 400 _ _ _ _ _ h
set_option maxRecDepth 100000 in
theorem sg_Y_readNet_67 {A : jA} {n l : Nat} {g : jv_S} {Q : jv_V → jv_L → jv_S → Prop} {v1 v2 v3 v4 : Int} {v5 v6 v7 : jv_V} (h :
   (v3 ≤ v4 →
     ((g 136 14) = 0 →
       Q (jv_I v2) (LL n l) g) ∧
      (¬ (g 136 14) = 0 →
       Q (jv_I (-9 : Int)) (LL n l) g)) ∧
    (¬ v3 ≤ v4 →
     (0 ≤ v4 ∧ v4 < 240) ∧
      ((g 139 v4) = (59 : Int) →
       ((g 136 14) = (10 : Int) →
         jv_r32 (v4 - v1) ∧
          Q (jv_I (v4 - v1)) (LL n l) g) ∧
        (¬ (g 136 14) = (10 : Int) →
         jv_r32 (v4 + (1 : Int)) ∧
          jv_Ca jv_T jv_ml kY_digitAt [jv_P 136, jv_I (v4 + (1 : Int)), jv_I v3] (LL n l) g (fun r L2 g2 => jv_At jv_T jv_ml kY_readNet 109 [jv_P 136, jv_I v1, jv_I v2, jv_I v3, jv_I (v4 + (1 : Int)), v5, v6, v7] (jv_pu r []) L2 g2 Q))) ∧
      (¬ (g 139 v4) = (59 : Int) →
       jv_r32 (v4 - v1) ∧
        Q (jv_I (v4 - v1)) (LL n l) g))) :
  jv_At jv_T jv_ml kY_readNet 67 [jv_P 136, jv_I v1, jv_I v2, jv_I v3, jv_I v4, v5, v6, v7] [] (LL n l) g Q :=
  jv_of_wp (gok9 (A := A)) (md := []) (stop := [67]) (tab := jt_Y_readNet) rfl 400 _ _ _ _ _ h
set_option maxRecDepth 100000 in
theorem sg_Y_readNet_109 {A : jA} {n l : Nat} {g : jv_S} {Q : jv_V → jv_L → jv_S → Prop} {v1 v2 v3 v4 s0 : Int} {v5 v6 v7 : jv_V} (h :
   jv_r32 ((g 136 13) - (1 : Int)) ∧
    ((True)) ∧
    ((jb_p ((0 : Int) ≤ s0 ∧ s0 ≤ ((g 136 13) - (1 : Int)))) = 0 →
     jv_r32 (v4 - v1) ∧
      Q (jv_I (v4 - v1)) (LL n l) g) ∧
    (¬ (jb_p ((0 : Int) ≤ s0 ∧ s0 ≤ ((g 136 13) - (1 : Int)))) = 0 →
     jv_r32 (v4 + (1 : Int)) ∧
      ((v4 + (1 : Int)) = v3 →
       jv_r32 ((v4 + (1 : Int)) - v1) ∧
        Q (jv_I ((v4 + (1 : Int)) - v1)) (LL n l) g) ∧
      (¬ (v4 + (1 : Int)) = v3 →
       (0 ≤ (v4 + (1 : Int)) ∧ (v4 + (1 : Int)) < 240) ∧
        ((g 139 (v4 + (1 : Int))) = (62 : Int) →
         jv_r32 ((v4 + (1 : Int)) + (1 : Int)) ∧
          jv_Ca jv_T jv_ml kY_digitAt [jv_P 136, jv_I ((v4 + (1 : Int)) + (1 : Int)), jv_I v3] (LL n l) g (fun r L2 g2 => jv_At jv_T jv_ml kY_readNet 167 [jv_P 136, jv_I v1, jv_I v2, jv_I v3, jv_I ((v4 + (1 : Int)) + (1 : Int)), jv_I s0, v6, v7] (jv_pu r []) L2 g2 Q)) ∧
        (¬ (g 139 (v4 + (1 : Int))) = (62 : Int) →
         jv_r32 ((v4 + (1 : Int)) - v1) ∧
          Q (jv_I ((v4 + (1 : Int)) - v1)) (LL n l) g)))) :
  jv_At jv_T jv_ml kY_readNet 109 [jv_P 136, jv_I v1, jv_I v2, jv_I v3, jv_I v4, v5, v6, v7] [jv_I s0] (LL n l) g Q :=
  jv_of_wp (gok9 (A := A)) (md := []) (stop := [67]) (tab := jt_Y_readNet) rfl 400 _ _ _ _ _ h
set_option maxRecDepth 100000 in
theorem sg_Y_readNet_167 {A : jA} {n l : Nat} {g : jv_S} {Q : jv_V → jv_L → jv_S → Prop} {v1 v2 v3 v4 v5 s0 : Int} {v6 v7 : jv_V} (h :
   jv_r32 ((g 136 13) - (1 : Int)) ∧
    ((True)) ∧
    ((jb_p ((0 : Int) ≤ s0 ∧ s0 ≤ ((g 136 13) - (1 : Int)))) = 0 →
     jv_r32 (v4 - v1) ∧
      Q (jv_I (v4 - v1)) (LL n l) g) ∧
    (¬ (jb_p ((0 : Int) ≤ s0 ∧ s0 ≤ ((g 136 13) - (1 : Int)))) = 0 →
     (s0 = v5 →
       jv_r32 (v4 - v1) ∧
        Q (jv_I (v4 - v1)) (LL n l) g) ∧
      (¬ s0 = v5 →
       jv_r32 (v4 + (1 : Int)) ∧
        (v3 ≤ (v4 + (1 : Int)) →
         (0 ≤ (g 136 14) ∧ (g 136 14) < 10) ∧ 
          (0 ≤ (g 136 14) ∧ (g 136 14) < 10) ∧ 
          (0 ≤ (g 136 14) ∧ (g 136 14) < 10) ∧ 
          jv_r32 ((g 136 14) + (1 : Int)) ∧
          jv_At jv_T jv_ml kY_readNet 67 [jv_P 136, jv_I v1, jv_I v2, jv_I v3, jv_I (v4 + (1 : Int)), jv_I v5, jv_I s0, jv_I (1 : Int)] [] (LL n l) (jv_up (jv_up (jv_up (jv_up g 145 (g 136 14) v5) 146 (g 136 14) s0) 147 (g 136 14) (1 : Int)) 136 14 ((g 136 14) + (1 : Int))) Q) ∧
        (¬ v3 ≤ (v4 + (1 : Int)) →
         (0 ≤ (v4 + (1 : Int)) ∧ (v4 + (1 : Int)) < 240) ∧
          ((g 139 (v4 + (1 : Int))) = (42 : Int) →
           jv_r32 ((v4 + (1 : Int)) + (1 : Int)) ∧
            jv_Ca jv_T jv_ml kY_digitAt [jv_P 136, jv_I ((v4 + (1 : Int)) + (1 : Int)), jv_I v3] (LL n l) g (fun r L2 g2 => jv_At jv_T jv_ml kY_readNet 230 [jv_P 136, jv_I v1, jv_I v2, jv_I v3, jv_I ((v4 + (1 : Int)) + (1 : Int)), jv_I v5, jv_I s0, jv_I (1 : Int)] (jv_pu r []) L2 g2 Q)) ∧
          (¬ (g 139 (v4 + (1 : Int))) = (42 : Int) →
           (0 ≤ (g 136 14) ∧ (g 136 14) < 10) ∧ 
            (0 ≤ (g 136 14) ∧ (g 136 14) < 10) ∧ 
            (0 ≤ (g 136 14) ∧ (g 136 14) < 10) ∧ 
            jv_r32 ((g 136 14) + (1 : Int)) ∧
            jv_At jv_T jv_ml kY_readNet 67 [jv_P 136, jv_I v1, jv_I v2, jv_I v3, jv_I (v4 + (1 : Int)), jv_I v5, jv_I s0, jv_I (1 : Int)] [] (LL n l) (jv_up (jv_up (jv_up (jv_up g 145 (g 136 14) v5) 146 (g 136 14) s0) 147 (g 136 14) (1 : Int)) 136 14 ((g 136 14) + (1 : Int))) Q))))) :
  jv_At jv_T jv_ml kY_readNet 167 [jv_P 136, jv_I v1, jv_I v2, jv_I v3, jv_I v4, jv_I v5, v6, v7] [jv_I s0] (LL n l) g Q :=
  jv_of_wp (gok9 (A := A)) (md := []) (stop := [67]) (tab := jt_Y_readNet) rfl 400 _ _ _ _ _ h
set_option maxRecDepth 100000 in
theorem sg_Y_readNet_230 {A : jA} {n l : Nat} {g : jv_S} {Q : jv_V → jv_L → jv_S → Prop} {v1 v2 v3 v4 v5 v6 v7 s0 : Int} (h :
   ((True)) ∧
    ((jb_p ((1 : Int) ≤ s0 ∧ s0 ≤ (2 : Int))) = 0 →
     jv_r32 (v4 - v1) ∧
      Q (jv_I (v4 - v1)) (LL n l) g) ∧
    (¬ (jb_p ((1 : Int) ≤ s0 ∧ s0 ≤ (2 : Int))) = 0 →
     jv_r32 (v4 + (1 : Int)) ∧
      (0 ≤ (g 136 14) ∧ (g 136 14) < 10) ∧ 
      (0 ≤ (g 136 14) ∧ (g 136 14) < 10) ∧ 
      (0 ≤ (g 136 14) ∧ (g 136 14) < 10) ∧ 
      jv_r32 ((g 136 14) + (1 : Int)) ∧
      jv_At jv_T jv_ml kY_readNet 67 [jv_P 136, jv_I v1, jv_I v2, jv_I v3, jv_I (v4 + (1 : Int)), jv_I v5, jv_I v6, jv_I s0] [] (LL n l) (jv_up (jv_up (jv_up (jv_up g 145 (g 136 14) v5) 146 (g 136 14) v6) 147 (g 136 14) s0) 136 14 ((g 136 14) + (1 : Int))) Q)) :
  jv_At jv_T jv_ml kY_readNet 230 [jv_P 136, jv_I v1, jv_I v2, jv_I v3, jv_I v4, jv_I v5, jv_I v6, jv_I v7] [jv_I s0] (LL n l) g Q :=
  jv_of_wp (gok9 (A := A)) (md := []) (stop := [67]) (tab := jt_Y_readNet) rfl 400 _ _ _ _ _ h
theorem tr_Y_readNet {A : jA} {n l : Nat} {g : jv_S} {Q : jv_V → jv_L → jv_S → Prop} {a m : Nat} {f : Nat → Int} (ham : a + m ≤ 240) (hf : ∀ j : Nat, j < m → g 139 ((a : Int) + j) = f j)
  (hQ : ∀ (g' : jv_S) (v : Int), FF f m v → (v = -9 → RN (aut f m) g') → (∀ (p : Nat) (i : Int), ¬ ((145 ≤ p ∧ p ≤ 147) ∨ (p = 136 ∧ (i = 13 ∨ i = 14))) → g' p i = g p i) → Q (jv_I v) (LL n l) g') :
  jv_Ca jv_T jv_ml kY_readNet [jv_P 136, jv_I a, jv_I m] (LL n l) g Q := by
  have main : ∀ (e j : Nat), m - j = e → j ≤ m → ∀ (g' : jv_S) (v5 v6 v7 : jv_V), okj f j → (aut f j 0 0 = 2 ∨ aut f j 0 0 = 8 ∨ (aut f j 0 0 = 6 ∧ (j = m ∨ f j ≠ 42))) → RN (aut f j) g' → (∀ (p : Nat) (i : Int), ¬ ((145 ≤ p ∧ p ≤ 147) ∨ (p = 136 ∧ (i = 13 ∨ i = 14))) → g' p i = g p i) → jv_At jv_T jv_ml kY_readNet 67 [jv_P 136, jv_I a, jv_I m, jv_I ((a : Int) + m), jv_I ((a : Int) + j), v5, v6, v7] [] (LL n l) (g') Q := by
    intro e
    induction e using Nat.strongRecOn with
    | ind e ih =>
      intro j he hjm g' v5 v6 v7 ok hst hR hfr
      have hA := AU_j j ok
      obtain ⟨S, hS⟩ : ∃ S, S = aut f j := ⟨_, rfl⟩
      rw [← hS] at hst hR hA
      obtain ⟨a1, a2, a3, a4, a5, a6, a7, a8⟩ := id hA
      obtain ⟨r1, r2, r3⟩ := id hR
      have n26 := a2 (by omega)
      have hf' : ∀ j : Nat, j < m → g' 139 ((a : Int) + j) = f j := fun j hj => by rw [hfr _ _ (by omega)]; exact hf j hj
      apply sg_Y_readNet_67 (A := A)
      rw [r2]
      refine ⟨fun h => ?_, fun h => ⟨⟨by omega, by omega⟩, ?_⟩⟩
      · have hjm' : j = m := by omega
        subst hjm'
        refine ⟨fun h2 => hQ g' j (FF_e ok (by rw [← hS]; omega) (by rw [← hS]; omega)) (fun h3 => by omega) hfr, fun h2 => hQ g' (-9) (Or.inr (Or.inl ⟨ok, by rw [← hS]; omega, rfl⟩)) (fun _ => by rw [← hS]; exact hR) hfr⟩
      · have hj : j < m := by omega
        rw [hf' j hj, show (a : Int) + j - a = j by omega]
        have hac : ac S (f j) = (decide (f j = 59 ∧ S 0 2 < 10), ub S 0 0 3) := ac_l (by omega)
        have bad : ¬ (f j = 59 ∧ S 0 2 < 10) → Q (jv_I (j : Int)) (LL n l) g' := fun hb => hQ g' j (FF_f ok hj (by rw [← hS, hac]; exact decide_eq_false hb)) (fun h3 => by omega) hfr
        refine ⟨fun h59 => ⟨fun h10 => ⟨⟨by omega, by omega⟩, bad (by omega)⟩, fun h10 => ⟨⟨by omega, by omega⟩, ?_⟩⟩, fun h59 => ⟨⟨by omega, by omega⟩, bad (by omega)⟩⟩
        -- the lane's from
        have ok1 : okj f (j + 1) := ok_s ok (by rw [← hS, hac]; exact decide_eq_true (by omega))
        have S1 : aut f (j + 1) = ub S 0 0 3 := by show (ac (aut f j) (f j)).2 = _; rw [← hS, hac]
        have s10 : aut f (j + 1) 0 0 = 3 := by rw [S1, ub_eq rfl rfl]
        have s1e : ∀ x y, ¬ (x = 0 ∧ y = 0) → aut f (j + 1) x y = S x y := fun x y h => by rw [S1, ub_ne h]
        have hac1 : ac (aut f (j + 1)) (f (j + 1)) = _ := ac_3 s10
        rw [s1e 0 1 (by omega), s1e 0 2 (by omega)] at hac1
        refine tr_Y_digitAt (A := A) (j := j + 1) (by omega) rfl ham hf' ?_
        apply sg_Y_readNet_109 (A := A)
        rw [r1, jp0]
        have stop : ∀ i : Nat, j < i → i ≤ m → okj f i → aut f i 0 0 ≠ 6 → aut f i 0 0 ≠ 8 → (i < m → (ac (aut f i) (f i)).1 = false) → ∀ w : Int, w = (i : Int) → Q (jv_I w) (LL n l) g' := by
          intro i hi1 hi2 oki h6 h8 hbad w hw
          subst hw
          by_cases him : i = m
          · subst him
            exact hQ g' i (FF_e oki h6 h8) (fun h3 => by omega) hfr
          · exact hQ g' i (FF_f oki (by omega) (hbad (by omega))) (fun h3 => by omega) hfr
        refine ⟨⟨by omega, by omega⟩, trivial, fun hd => ⟨⟨by omega, by omega⟩, ?_⟩, fun hd => ?_⟩
        · refine stop (j + 1) (by omega) (by omega) ok1 (by omega) (by omega) (fun h3 => ?_) _ (by omega)
          rw [hac1]
          refine decide_eq_false (fun h4 => hd ?_)
          unfold dg
          rw [if_pos (by omega)]
          omega
        · have hdg : j + 1 < m ∧ 48 ≤ f (j + 1) ∧ f (j + 1) ≤ 57 := by
            apply Classical.byContradiction
            intro hn
            unfold dg at hd
            rw [if_neg hn] at hd
            omega
          have hdv : dg f m (j + 1) = f (j + 1) - 48 := by unfold dg; rw [if_pos hdg]
          rw [hdv] at hd ⊢
          have ok2 : okj f (j + 2) := ok_s ok1 (by rw [hac1]; exact decide_eq_true (by omega))
          have S2 : aut f (j + 2) = ub (ub (aut f (j + 1)) 0 0 4) 1 (S 0 2).toNat (f (j + 1) - 48) := by show (ac (aut f (j + 1)) (f (j + 1))).2 = _; rw [hac1]
          have s20 : aut f (j + 2) 0 0 = 4 := by rw [S2, ub_ne (by omega), ub_eq rfl rfl]
          have hac2 : ac (aut f (j + 2)) (f (j + 2)) = _ := ac_4 s20
          rw [show (a : Int) + j + 1 + 1 = (a : Int) + (j + 2 : Nat) by omega]
          refine ⟨⟨by omega, by omega⟩, fun h2 => ⟨⟨by omega, by omega⟩, stop (j + 2) (by omega) (by omega) ok2 (by omega) (by omega) (fun h3 => by omega) _ (by omega)⟩, fun h2 => ⟨⟨by omega, by omega⟩, ?_⟩⟩
          rw [hf' (j + 2) (by omega)]
          refine ⟨fun h62 => ⟨⟨by omega, by omega⟩, ?_⟩, fun h62 => ⟨⟨by omega, by omega⟩, stop (j + 2) (by omega) (by omega) ok2 (by omega) (by omega) (fun h3 => by rw [hac2]; exact decide_eq_false h62) _ (by omega)⟩⟩
          -- its to
          have ok3 : okj f (j + 3) := ok_s ok2 (by rw [hac2]; exact decide_eq_true h62)
          have S3 : aut f (j + 3) = ub (aut f (j + 2)) 0 0 5 := by show (ac (aut f (j + 2)) (f (j + 2))).2 = _; rw [hac2]
          have s30 : aut f (j + 3) 0 0 = 5 := by rw [S3, ub_eq rfl rfl]
          have s3e : ∀ x y, ¬ (x = 0 ∧ y = 0) → ¬ (x = 1 ∧ y = (S 0 2).toNat) → aut f (j + 3) x y = S x y := fun x y h h2 => by rw [S3, ub_ne h, S2, ub_ne h2, ub_ne h, s1e x y h]
          have s3f : aut f (j + 3) 1 (S 0 2).toNat = f (j + 1) - 48 := by rw [S3, ub_ne (by omega), S2, ub_eq rfl rfl]
          have hac3 : ac (aut f (j + 3)) (f (j + 3)) = _ := ac_5 s30
          rw [s3e 0 1 (by omega) (by omega), s3e 0 2 (by omega) (by omega), s3f] at hac3
          refine tr_Y_digitAt (A := A) (j := j + 3) (by omega) rfl ham hf' ?_
          apply sg_Y_readNet_167 (A := A)
          rw [r1, r2, jp0]
          refine ⟨⟨by omega, by omega⟩, trivial, fun hd3 => ⟨⟨by omega, by omega⟩, ?_⟩, fun hd3 => ?_⟩
          · refine stop (j + 3) (by omega) (by omega) ok3 (by omega) (by omega) (fun h3 => ?_) _ (by omega)
            rw [hac3]
            refine decide_eq_false (fun h4 => hd3 ?_)
            unfold dg
            rw [if_pos (by omega)]
            omega
          · have hdg3 : j + 3 < m ∧ 48 ≤ f (j + 3) ∧ f (j + 3) ≤ 57 := by
              apply Classical.byContradiction
              intro hn
              unfold dg at hd3
              rw [if_neg hn] at hd3
              omega
            have hdv3 : dg f m (j + 3) = f (j + 3) - 48 := by unfold dg; rw [if_pos hdg3]
            rw [hdv3] at hd3 ⊢
            rw [show (a : Int) + (j + 2 : Nat) + 1 + 1 = (a : Int) + (j + 4 : Nat) by omega]
            refine ⟨fun hxy => ⟨⟨by omega, by omega⟩, stop (j + 3) (by omega) (by omega) ok3 (by omega) (by omega) (fun h3 => by rw [hac3]; exact decide_eq_false (fun h4 => h4.2.2 (by omega))) _ (by omega)⟩, fun hxy => ⟨⟨by omega, by omega⟩, ?_⟩⟩
            have ok4 : okj f (j + 4) := ok_s ok3 (by rw [hac3]; exact decide_eq_true (by omega))
            have S4 : aut f (j + 4) = ub (ub (ub (ub (aut f (j + 3)) 0 0 6) 0 2 (S 0 2 + 1)) 2 (S 0 2).toNat (f (j + 3) - 48)) 3 (S 0 2).toNat 1 := by show (ac (aut f (j + 3)) (f (j + 3))).2 = _; rw [hac3]
            have s40 : aut f (j + 4) 0 0 = 6 := by rw [S4, ub_ne (by omega), ub_ne (by omega), ub_ne (by omega), ub_eq rfl rfl]
            have s41 : aut f (j + 4) 0 1 = S 0 1 := by rw [S4, ub_ne (by omega), ub_ne (by omega), ub_ne (by omega), ub_ne (by omega), s3e _ _ (by omega) (by omega)]
            have s42 : aut f (j + 4) 0 2 = S 0 2 + 1 := by rw [S4, ub_ne (by omega), ub_ne (by omega), ub_eq rfl rfl]
            have s4l : aut f (j + 4) 1 (S 0 2).toNat = f (j + 1) - 48 ∧ aut f (j + 4) 2 (S 0 2).toNat = f (j + 3) - 48 ∧ aut f (j + 4) 3 (S 0 2).toNat = 1 := ⟨by rw [S4, ub_ne (by omega), ub_ne (by omega), ub_ne (by omega), ub_ne (by omega)]; exact s3f, by rw [S4, ub_ne (by omega), ub_eq rfl rfl], by rw [S4, ub_eq rfl rfl]⟩
            have s4e : ∀ x y, 1 ≤ x → y ≠ (S 0 2).toNat → aut f (j + 4) x y = S x y := fun x y h h2 => by rw [S4, ub_ne (by omega), ub_ne (by omega), ub_ne (by omega), ub_ne (by omega), s3e _ _ (by omega) (by omega)]
            -- the lane is laid down
            have put : ∀ (i : Nat) (w : Int) (x5 x6 x7 : jv_V), j < i → i ≤ m → okj f i → (aut f i 0 0 = 2 ∨ aut f i 0 0 = 8 ∨ (aut f i 0 0 = 6 ∧ (i = m ∨ f i ≠ 42))) → aut f i 0 1 = S 0 1 → aut f i 0 2 = S 0 2 + 1 → (aut f i 1 (S 0 2).toNat = f (j + 1) - 48 ∧ aut f i 2 (S 0 2).toNat = f (j + 3) - 48 ∧ aut f i 3 (S 0 2).toNat = w) → (∀ x y, 1 ≤ x → y ≠ (S 0 2).toNat → aut f i x y = S x y) → jv_At jv_T jv_ml kY_readNet 67 [jv_P 136, jv_I a, jv_I m, jv_I ((a : Int) + m), jv_I ((a : Int) + i), x5, x6, x7] [] (LL n l) (jv_up (jv_up (jv_up (jv_up g' 145 (S 0 2) (f (j + 1) - 48)) 146 (S 0 2) (f (j + 3) - 48)) 147 (S 0 2) w) 136 14 (S 0 2 + 1)) Q := by
              intro i w x5 x6 x7 hi1 hi2 oki hsti i1 i2 il ie
              refine ih (m - i) (by omega) i rfl hi2 _ _ _ _ oki hsti ⟨?_, ?_, fun c hc => ?_⟩ (fun p q hp => by rw [up_ne (by omega), up_ne (by omega), up_ne (by omega), up_ne (by omega)]; exact hfr p q hp)
              · rw [up_ne (by omega), up_ne (by omega), up_ne (by omega), up_ne (by omega), i1]; exact r1
              · rw [up_eq rfl rfl, i2]
              · rw [i2] at hc
                by_cases hcl : c = (S 0 2).toNat
                · rw [hcl, il.1, il.2.1, il.2.2]
                  refine ⟨?_, ?_, ?_⟩
                  · rw [up_ne (by omega), up_ne (by omega), up_ne (by omega), up_eq rfl (by omega)]
                  · rw [up_ne (by omega), up_ne (by omega), up_eq rfl (by omega)]
                  · rw [up_ne (by omega), up_eq rfl (by omega)]
                · rw [ie 1 c (by omega) hcl, ie 2 c (by omega) hcl, ie 3 c (by omega) hcl]
                  obtain ⟨z1, z2, z3⟩ := r3 c (by omega)
                  refine ⟨?_, ?_, ?_⟩
                  · rw [up_ne (by omega), up_ne (by omega), up_ne (by omega), up_ne (by omega)]; exact z1
                  · rw [up_ne (by omega), up_ne (by omega), up_ne (by omega), up_ne (by omega)]; exact z2
                  · rw [up_ne (by omega), up_ne (by omega), up_ne (by omega), up_ne (by omega)]; exact z3
            refine ⟨fun h4 => ⟨⟨by omega, by omega⟩, ⟨by omega, by omega⟩, ⟨by omega, by omega⟩, ⟨by omega, by omega⟩, put (j + 4) 1 _ _ _ (by omega) (by omega) ok4 (Or.inr (Or.inr ⟨s40, Or.inl (by omega)⟩)) s41 s42 s4l s4e⟩, fun h4 => ⟨⟨by omega, by omega⟩, ?_⟩⟩
            rw [hf' (j + 4) (by omega)]
            refine ⟨fun h42 => ⟨⟨by omega, by omega⟩, ?_⟩, fun h42 => ⟨⟨by omega, by omega⟩, ⟨by omega, by omega⟩, ⟨by omega, by omega⟩, ⟨by omega, by omega⟩, put (j + 4) 1 _ _ _ (by omega) (by omega) ok4 (Or.inr (Or.inr ⟨s40, Or.inr h42⟩)) s41 s42 s4l s4e⟩⟩
            -- its cells
            have hac4 := ac_6 s40 h42
            have ok5 : okj f (j + 5) := ok_s ok4 (by rw [hac4])
            have S5 : aut f (j + 5) = ub (aut f (j + 4)) 0 0 7 := by show (ac (aut f (j + 4)) (f (j + 4))).2 = _; rw [hac4]
            have s50 : aut f (j + 5) 0 0 = 7 := by rw [S5, ub_eq rfl rfl]
            have hac5 : ac (aut f (j + 5)) (f (j + 5)) = _ := ac_7 s50
            have s52 : aut f (j + 5) 0 2 = S 0 2 + 1 := by rw [S5, ub_ne (by omega)]; exact s42
            rw [s52, show (S 0 2 + 1 - 1).toNat = (S 0 2).toNat by omega] at hac5
            refine tr_Y_digitAt (A := A) (j := j + 5) (by omega) rfl ham hf' ?_
            apply sg_Y_readNet_230 (A := A)
            rw [r2, jp0]
            refine ⟨trivial, fun hd5 => ⟨⟨by omega, by omega⟩, ?_⟩, fun hd5 => ?_⟩
            · refine stop (j + 5) (by omega) (by omega) ok5 (by omega) (by omega) (fun h3 => ?_) _ (by omega)
              rw [hac5]
              refine decide_eq_false (fun h6 => hd5 ?_)
              unfold dg
              rw [if_pos (by omega)]
              omega
            · have hdg5 : j + 5 < m ∧ 48 ≤ f (j + 5) ∧ f (j + 5) ≤ 57 := by
                apply Classical.byContradiction
                intro hn
                unfold dg at hd5
                rw [if_neg hn] at hd5
                omega
              have hdv5 : dg f m (j + 5) = f (j + 5) - 48 := by unfold dg; rw [if_pos hdg5]
              rw [hdv5] at hd5 ⊢
              have ok6 : okj f (j + 6) := ok_s ok5 (by rw [hac5]; exact decide_eq_true (by omega))
              have S6 : aut f (j + 6) = ub (ub (aut f (j + 5)) 0 0 8) 3 (S 0 2).toNat (f (j + 5) - 48) := by show (ac (aut f (j + 5)) (f (j + 5))).2 = _; rw [hac5]
              have e6 : ∀ x y, ¬ (x = 0 ∧ y = 0) → ¬ (x = 3 ∧ y = (S 0 2).toNat) → aut f (j + 6) x y = aut f (j + 4) x y := fun x y h h2 => by rw [S6, ub_ne h2, ub_ne h, S5, ub_ne h]
              rw [show (a : Int) + (j + 4 : Nat) + 1 + 1 = (a : Int) + (j + 6 : Nat) by omega]
              exact ⟨⟨by omega, by omega⟩, ⟨by omega, by omega⟩, ⟨by omega, by omega⟩, ⟨by omega, by omega⟩, ⟨by omega, by omega⟩, put (j + 6) _ _ _ _ (by omega) (by omega) ok6 (Or.inr (Or.inl (by rw [S6, ub_ne (by omega), ub_eq rfl rfl]))) (by rw [e6 _ _ (by omega) (by omega)]; exact s41) (by rw [e6 _ _ (by omega) (by omega)]; exact s42) ⟨by rw [e6 _ _ (by omega) (by omega)]; exact s4l.1, by rw [e6 _ _ (by omega) (by omega)]; exact s4l.2.1, by rw [S6, ub_eq rfl rfl]⟩ (fun x y h h2 => by rw [e6 _ _ (by omega) (by omega)]; exact s4e x y h h2)⟩
  apply sg_Y_readNet_0 (A := A)
  have f14 : ∀ (p : Nat) (i : Int), ¬ (p = 136 ∧ i = 14) → jv_up g 136 14 0 p i = g p i := fun p i hp => up_ne (by omega)
  have ok0 : okj f 0 := fun i hi => by omega
  have a00 : aut f 0 0 0 = 0 := rfl
  have hac0 : ac (aut f 0) (f 0) = _ := ac_0 a00
  refine ⟨⟨by omega, by omega⟩, fun h => ?_, fun h => ⟨⟨by omega, by omega⟩, ?_⟩⟩
  · have hm : m = 0 := by omega
    subst hm
    exact hQ _ 0 (FF_e ok0 (by rw [a00]; omega) (by rw [a00]; omega)) (fun h => by omega) (fun p i hp => f14 _ _ (by omega))
  · have hg0 := hf 0 (by omega)
    rw [show (a : Int) + (0 : Nat) = a by omega] at hg0
    rw [hg0]
    refine ⟨fun h110 => ⟨⟨by omega, by omega⟩, ?_⟩, fun h110 => hQ _ ((0 : Nat) : Int) (FF_f (m := m) ok0 (show 0 < m by omega) (by rw [hac0]; exact decide_eq_false h110)) (fun h => by omega) (fun p i hp => f14 _ _ (by omega))⟩
    have ok1 : okj f 1 := ok_s ok0 (by rw [hac0]; exact decide_eq_true h110)
    have S1 : aut f 1 = ub (aut f 0) 0 0 1 := by show (ac (aut f 0) (f 0)).2 = _; rw [hac0]
    have s10 : aut f 1 0 0 = 1 := by rw [S1, ub_eq rfl rfl]
    have hac1 : ac (aut f 1) (f 1) = _ := ac_1 s10
    refine tr_Y_digitAt (A := A) (j := 1) (f := f) (by omega) rfl ham (fun j hj => by rw [f14 _ _ (by omega)]; exact hf j hj) ?_
    apply sg_Y_readNet_43 (A := A)
    rw [jp0]
    refine ⟨trivial, fun hd => ⟨⟨by omega, by omega⟩, ?_⟩, fun hd => ?_⟩
    · rw [show (a : Int) + 1 - a = ((1 : Nat) : Int) by omega]
      have ff : FF f m ((1 : Nat) : Int) := by
        by_cases hm1 : m = 1
        · subst hm1
          exact FF_e ok1 (by omega) (by omega)
        · refine FF_f ok1 (by omega) ?_
          rw [hac1]
          refine decide_eq_false (fun h4 => hd ?_)
          unfold dg
          rw [if_pos (by omega)]
          omega
      exact hQ _ _ ff (fun h => by omega) (fun p i hp => by rw [up_ne (by omega)]; exact f14 _ _ (by omega))
    · have hdg : 1 < m ∧ 48 ≤ f 1 ∧ f 1 ≤ 57 := by
        apply Classical.byContradiction
        intro hn
        unfold dg at hd
        rw [if_neg hn] at hd
        omega
      have hdv : dg f m 1 = f 1 - 48 := by unfold dg; rw [if_pos hdg]
      rw [hdv] at hd ⊢
      have ok2 : okj f 2 := ok_s ok1 (by rw [hac1]; exact decide_eq_true (by omega))
      have S2 : aut f 2 = ub (ub (aut f 1) 0 0 2) 0 1 (f 1 - 48) := by show (ac (aut f 1) (f 1)).2 = _; rw [hac1]
      have s22 : aut f 2 0 2 = 0 := by rw [S2, ub_ne (by omega), ub_ne (by omega), S1, ub_ne (by omega)]; rfl
      rw [show (a : Int) + 1 + 1 = (a : Int) + (2 : Nat) by omega]
      refine ⟨⟨by omega, by omega⟩, main _ 2 rfl (by omega) _ _ _ _ ok2 (Or.inl (by rw [S2, ub_ne (by omega), ub_eq rfl rfl])) ⟨?_, ?_, fun c hc => ?_⟩ (fun p i hp => by rw [up_ne (by omega)]; exact f14 _ _ (by omega))⟩
      · rw [up_eq rfl rfl, S2, ub_eq rfl rfl]
      · rw [up_ne (by omega), up_eq rfl rfl, s22]
      · rw [s22] at hc; omega
