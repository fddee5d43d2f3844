/-! ===== the class's parts: fill, spread, ledToFrom ===== -/
set_option maxRecDepth 100000 in
theorem sg_Ar_fillJ_132_0 {A : jA} {n l : Nat} {g : jv_S} {Q : jv_V → jv_L → jv_S → Prop} {v1 : Int} (h :
   jv_At jv_T jv_ml kAr_fillJ 6 [jv_P 132, jv_J v1, jv_U, jv_I (0 : Int), jv_I (10 : Int)] [] (LL n l) g Q) :
  jv_At jv_T jv_ml kAr_fillJ 0 [jv_P 132, jv_J v1, jv_U, jv_U, jv_U] [] (LL n l) g Q :=
  jv_of_wp (gok9 (A := A)) (md := []) (stop := [6]) (tab := jt_Ar_fillJ) rfl 400 _ _ _ _ _ h
set_option maxRecDepth 100000 in
theorem sg_Ar_fillJ_132_6 {A : jA} {n l : Nat} {g : jv_S} {Q : jv_V → jv_L → jv_S → Prop} {v1 v3 v4 : Int} (h :
   (v4 ≤ v3 →
     Q jv_U (LL n l) g) ∧
    (¬ v4 ≤ v3 →
     (0 ≤ v3 ∧ v3 < 10) ∧ 
      jv_r32 (v3 + (1 : Int)) ∧
      jv_At jv_T jv_ml kAr_fillJ 6 [jv_P 132, jv_J v1, jv_U, jv_I (v3 + (1 : Int)), jv_I v4] [] (LL n l) (jv_up g 132 v3 v1) Q)) :
  jv_At jv_T jv_ml kAr_fillJ 6 [jv_P 132, jv_J v1, jv_U, jv_I v3, jv_I v4] [] (LL n l) g Q :=
  jv_of_wp (gok9 (A := A)) (md := []) (stop := [6]) (tab := jt_Ar_fillJ) rfl 400 _ _ _ _ _ h
theorem tr_Ar_fillJ_132 {A : jA} {n l : Nat} {g : jv_S} {Q : jv_V → jv_L → jv_S → Prop} {v : Int} (hQ : ∀ g' : jv_S, (∀ i : Int, 0 ≤ i → i < 10 → g' 132 i = v) → (∀ q i, ¬ q = 132 → g' q i = g q i) → Q jv_U (LL n l) g') : jv_Ca jv_T jv_ml kAr_fillJ [jv_P 132, jv_J v] (LL n l) g Q := by
  have key : ∀ k : Nat, k ≤ 10 → ∀ g' : jv_S, (∀ i : Int, 0 ≤ i → i < k → g' 132 i = v) → (∀ q i, ¬ q = 132 → g' q i = g q i) → jv_At jv_T jv_ml kAr_fillJ 6 [jv_P 132, jv_J v, jv_U, jv_I (k : Int), jv_I (10 : Int)] [] (LL n l) (g') Q := by
    apply loop_up
    intro k hk ih g' h1 h2
    apply sg_Ar_fillJ_132_6 (A := A)
    refine ⟨fun h => hQ g' (fun i h3 h4 => h1 i h3 (by omega)) h2, fun h => ⟨⟨by omega, by omega⟩, ⟨by omega, by omega⟩, ih (by omega) _ (fun i h3 h4 => ?_) (fun q i hq => ?_)⟩⟩
    · by_cases hik : i = k
      · rw [up_eq rfl hik]
      · rw [up_ne (by omega)]
        exact h1 i h3 (by omega)
    · rw [up_ne (by omega)]
      exact h2 q i hq
  exact sg_Ar_fillJ_132_0 (A := A) (key 0 (by omega) g (fun i h1 h2 => by omega) (fun q i _ => rfl))
set_option maxRecDepth 100000 in
theorem sg_Ar_fillJ_133_0 {A : jA} {n l : Nat} {g : jv_S} {Q : jv_V → jv_L → jv_S → Prop} {v1 : Int} (h :
   jv_At jv_T jv_ml kAr_fillJ 6 [jv_P 133, jv_J v1, jv_U, jv_I (0 : Int), jv_I (10 : Int)] [] (LL n l) g Q) :
  jv_At jv_T jv_ml kAr_fillJ 0 [jv_P 133, jv_J v1, jv_U, jv_U, jv_U] [] (LL n l) g Q :=
  jv_of_wp (gok9 (A := A)) (md := []) (stop := [6]) (tab := jt_Ar_fillJ) rfl 400 _ _ _ _ _ h
set_option maxRecDepth 100000 in
theorem sg_Ar_fillJ_133_6 {A : jA} {n l : Nat} {g : jv_S} {Q : jv_V → jv_L → jv_S → Prop} {v1 v3 v4 : Int} (h :
   (v4 ≤ v3 →
     Q jv_U (LL n l) g) ∧
    (¬ v4 ≤ v3 →
     (0 ≤ v3 ∧ v3 < 10) ∧ 
      jv_r32 (v3 + (1 : Int)) ∧
      jv_At jv_T jv_ml kAr_fillJ 6 [jv_P 133, jv_J v1, jv_U, jv_I (v3 + (1 : Int)), jv_I v4] [] (LL n l) (jv_up g 133 v3 v1) Q)) :
  jv_At jv_T jv_ml kAr_fillJ 6 [jv_P 133, jv_J v1, jv_U, jv_I v3, jv_I v4] [] (LL n l) g Q :=
  jv_of_wp (gok9 (A := A)) (md := []) (stop := [6]) (tab := jt_Ar_fillJ) rfl 400 _ _ _ _ _ h
theorem tr_Ar_fillJ_133 {A : jA} {n l : Nat} {g : jv_S} {Q : jv_V → jv_L → jv_S → Prop} {v : Int} (hQ : ∀ g' : jv_S, (∀ i : Int, 0 ≤ i → i < 10 → g' 133 i = v) → (∀ q i, ¬ q = 133 → g' q i = g q i) → Q jv_U (LL n l) g') : jv_Ca jv_T jv_ml kAr_fillJ [jv_P 133, jv_J v] (LL n l) g Q := by
  have key : ∀ k : Nat, k ≤ 10 → ∀ g' : jv_S, (∀ i : Int, 0 ≤ i → i < k → g' 133 i = v) → (∀ q i, ¬ q = 133 → g' q i = g q i) → jv_At jv_T jv_ml kAr_fillJ 6 [jv_P 133, jv_J v, jv_U, jv_I (k : Int), jv_I (10 : Int)] [] (LL n l) (g') Q := by
    apply loop_up
    intro k hk ih g' h1 h2
    apply sg_Ar_fillJ_133_6 (A := A)
    refine ⟨fun h => hQ g' (fun i h3 h4 => h1 i h3 (by omega)) h2, fun h => ⟨⟨by omega, by omega⟩, ⟨by omega, by omega⟩, ih (by omega) _ (fun i h3 h4 => ?_) (fun q i hq => ?_)⟩⟩
    · by_cases hik : i = k
      · rw [up_eq rfl hik]
      · rw [up_ne (by omega)]
        exact h1 i h3 (by omega)
    · rw [up_ne (by omega)]
      exact h2 q i hq
  exact sg_Ar_fillJ_133_0 (A := A) (key 0 (by omega) g (fun i h1 h2 => by omega) (fun q i _ => rfl))
set_option maxRecDepth 100000 in
theorem sg_Ar_fillJ_134_0 {A : jA} {n l : Nat} {g : jv_S} {Q : jv_V → jv_L → jv_S → Prop} {v1 : Int} (h :
   jv_At jv_T jv_ml kAr_fillJ 6 [jv_P 134, jv_J v1, jv_U, jv_I (0 : Int), jv_I (10 : Int)] [] (LL n l) g Q) :
  jv_At jv_T jv_ml kAr_fillJ 0 [jv_P 134, jv_J v1, jv_U, jv_U, jv_U] [] (LL n l) g Q :=
  jv_of_wp (gok9 (A := A)) (md := []) (stop := [6]) (tab := jt_Ar_fillJ) rfl 400 _ _ _ _ _ h
set_option maxRecDepth 100000 in
theorem sg_Ar_fillJ_134_6 {A : jA} {n l : Nat} {g : jv_S} {Q : jv_V → jv_L → jv_S → Prop} {v1 v3 v4 : Int} (h :
   (v4 ≤ v3 →
     Q jv_U (LL n l) g) ∧
    (¬ v4 ≤ v3 →
     (0 ≤ v3 ∧ v3 < 10) ∧ 
      jv_r32 (v3 + (1 : Int)) ∧
      jv_At jv_T jv_ml kAr_fillJ 6 [jv_P 134, jv_J v1, jv_U, jv_I (v3 + (1 : Int)), jv_I v4] [] (LL n l) (jv_up g 134 v3 v1) Q)) :
  jv_At jv_T jv_ml kAr_fillJ 6 [jv_P 134, jv_J v1, jv_U, jv_I v3, jv_I v4] [] (LL n l) g Q :=
  jv_of_wp (gok9 (A := A)) (md := []) (stop := [6]) (tab := jt_Ar_fillJ) rfl 400 _ _ _ _ _ h
theorem tr_Ar_fillJ_134 {A : jA} {n l : Nat} {g : jv_S} {Q : jv_V → jv_L → jv_S → Prop} {v : Int} (hQ : ∀ g' : jv_S, (∀ i : Int, 0 ≤ i → i < 10 → g' 134 i = v) → (∀ q i, ¬ q = 134 → g' q i = g q i) → Q jv_U (LL n l) g') : jv_Ca jv_T jv_ml kAr_fillJ [jv_P 134, jv_J v] (LL n l) g Q := by
  have key : ∀ k : Nat, k ≤ 10 → ∀ g' : jv_S, (∀ i : Int, 0 ≤ i → i < k → g' 134 i = v) → (∀ q i, ¬ q = 134 → g' q i = g q i) → jv_At jv_T jv_ml kAr_fillJ 6 [jv_P 134, jv_J v, jv_U, jv_I (k : Int), jv_I (10 : Int)] [] (LL n l) (g') Q := by
    apply loop_up
    intro k hk ih g' h1 h2
    apply sg_Ar_fillJ_134_6 (A := A)
    refine ⟨fun h => hQ g' (fun i h3 h4 => h1 i h3 (by omega)) h2, fun h => ⟨⟨by omega, by omega⟩, ⟨by omega, by omega⟩, ih (by omega) _ (fun i h3 h4 => ?_) (fun q i hq => ?_)⟩⟩
    · by_cases hik : i = k
      · rw [up_eq rfl hik]
      · rw [up_ne (by omega)]
        exact h1 i h3 (by omega)
    · rw [up_ne (by omega)]
      exact h2 q i hq
  exact sg_Ar_fillJ_134_0 (A := A) (key 0 (by omega) g (fun i h1 h2 => by omega) (fun q i _ => rfl))
set_option maxRecDepth 100000 in
theorem sg_Ar_fillJ_135_0 {A : jA} {n l : Nat} {g : jv_S} {Q : jv_V → jv_L → jv_S → Prop} {v1 : Int} (h :
   jv_At jv_T jv_ml kAr_fillJ 6 [jv_P 135, jv_J v1, jv_U, jv_I (0 : Int), jv_I (10 : Int)] [] (LL n l) g Q) :
  jv_At jv_T jv_ml kAr_fillJ 0 [jv_P 135, jv_J v1, jv_U, jv_U, jv_U] [] (LL n l) g Q :=
  jv_of_wp (gok9 (A := A)) (md := []) (stop := [6]) (tab := jt_Ar_fillJ) rfl 400 _ _ _ _ _ h
set_option maxRecDepth 100000 in
theorem sg_Ar_fillJ_135_6 {A : jA} {n l : Nat} {g : jv_S} {Q : jv_V → jv_L → jv_S → Prop} {v1 v3 v4 : Int} (h :
   (v4 ≤ v3 →
     Q jv_U (LL n l) g) ∧
    (¬ v4 ≤ v3 →
     (0 ≤ v3 ∧ v3 < 10) ∧ 
      jv_r32 (v3 + (1 : Int)) ∧
      jv_At jv_T jv_ml kAr_fillJ 6 [jv_P 135, jv_J v1, jv_U, jv_I (v3 + (1 : Int)), jv_I v4] [] (LL n l) (jv_up g 135 v3 v1) Q)) :
  jv_At jv_T jv_ml kAr_fillJ 6 [jv_P 135, jv_J v1, jv_U, jv_I v3, jv_I v4] [] (LL n l) g Q :=
  jv_of_wp (gok9 (A := A)) (md := []) (stop := [6]) (tab := jt_Ar_fillJ) rfl 400 _ _ _ _ _ h
theorem tr_Ar_fillJ_135 {A : jA} {n l : Nat} {g : jv_S} {Q : jv_V → jv_L → jv_S → Prop} {v : Int} (hQ : ∀ g' : jv_S, (∀ i : Int, 0 ≤ i → i < 10 → g' 135 i = v) → (∀ q i, ¬ q = 135 → g' q i = g q i) → Q jv_U (LL n l) g') : jv_Ca jv_T jv_ml kAr_fillJ [jv_P 135, jv_J v] (LL n l) g Q := by
  have key : ∀ k : Nat, k ≤ 10 → ∀ g' : jv_S, (∀ i : Int, 0 ≤ i → i < k → g' 135 i = v) → (∀ q i, ¬ q = 135 → g' q i = g q i) → jv_At jv_T jv_ml kAr_fillJ 6 [jv_P 135, jv_J v, jv_U, jv_I (k : Int), jv_I (10 : Int)] [] (LL n l) (g') Q := by
    apply loop_up
    intro k hk ih g' h1 h2
    apply sg_Ar_fillJ_135_6 (A := A)
    refine ⟨fun h => hQ g' (fun i h3 h4 => h1 i h3 (by omega)) h2, fun h => ⟨⟨by omega, by omega⟩, ⟨by omega, by omega⟩, ih (by omega) _ (fun i h3 h4 => ?_) (fun q i hq => ?_)⟩⟩
    · by_cases hik : i = k
      · rw [up_eq rfl hik]
      · rw [up_ne (by omega)]
        exact h1 i h3 (by omega)
    · rw [up_ne (by omega)]
      exact h2 q i hq
  exact sg_Ar_fillJ_135_0 (A := A) (key 0 (by omega) g (fun i h1 h2 => by omega) (fun q i _ => rfl))
set_option maxRecDepth 100000 in
theorem sg_B_spread_0 {A : jA} {n l : Nat} {g : jv_S} {Q : jv_V → jv_L → jv_S → Prop} {v1 v2 v4 : Int} (h :
   ((0 ≤ v1 ∧ v1 < 1024)) ∧
    jv_At jv_T jv_ml kB_spread 9 [jv_P 131, jv_I v1, jv_J v2, jv_U, jv_J v4, jv_U, jv_I (pc v1.toNat : Int), jv_I (0 : Int)] [] (LL n l) g Q) :
  jv_At jv_T jv_ml kB_spread 0 [jv_P 131, jv_I v1, jv_J v2, jv_U, jv_J v4, jv_U, jv_U, jv_U] [] (LL n l) g Q :=
  jv_of_wp (gok9 (A := A)) (md := []) (stop := [9]) (tab := jt_B_spread) rfl 400 _ _ _ _ _ h
set_option maxRecDepth 100000 in
theorem sg_B_spread_9 {A : jA} {n l : Nat} {g : jv_S} {Q : jv_V → jv_L → jv_S → Prop} {v1 v2 v4 v6 v7 : Int} (h :
   ((g 14 1) ≤ v7 →
     Q jv_U (LL n l) g) ∧
    (¬ (g 14 1) ≤ v7 →
     ((0 ≤ v1 ∧ v1 < 2147483648 ∧ 0 ≤ v7 ∧ v7 < 31)) ∧
      ((hb v1 v7) = 0 →
       jv_r32 (v7 + (1 : Int)) ∧
        jv_At jv_T jv_ml kB_spread 9 [jv_P 131, jv_I v1, jv_J v2, jv_U, jv_J v4, jv_U, jv_I v6, jv_I (v7 + (1 : Int))] [] (LL n l) g Q) ∧
      (¬ (hb v1 v7) = 0 →
       jv_r64 (v4 * v6) ∧
        jv_Ca jv_T jv_ml kB_add [jv_P 134, jv_P 135, jv_I v7, jv_J v2, jv_J (v4 * v6)] (LL n l) g (fun r L2 g2 => jv_At jv_T jv_ml kB_spread 50 [jv_P 131, jv_I v1, jv_J v2, jv_U, jv_J v4, jv_U, jv_I v6, jv_I v7] (jv_pu r []) L2 g2 Q)))) :
  jv_At jv_T jv_ml kB_spread 9 [jv_P 131, jv_I v1, jv_J v2, jv_U, jv_J v4, jv_U, jv_I v6, jv_I v7] [] (LL n l) g Q :=
  jv_of_wp (gok9 (A := A)) (md := []) (stop := [9]) (tab := jt_B_spread) rfl 400 _ _ _ _ _ h
set_option maxRecDepth 100000 in
theorem sg_B_spread_50 {A : jA} {n l : Nat} {g : jv_S} {Q : jv_V → jv_L → jv_S → Prop} {v1 v2 v4 v6 v7 : Int} (h :
   jv_r32 (v7 + (1 : Int)) ∧
    jv_At jv_T jv_ml kB_spread 9 [jv_P 131, jv_I v1, jv_J v2, jv_U, jv_J v4, jv_U, jv_I v6, jv_I (v7 + (1 : Int))] [] (LL n l) g Q) :
  jv_At jv_T jv_ml kB_spread 50 [jv_P 131, jv_I v1, jv_J v2, jv_U, jv_J v4, jv_U, jv_I v6, jv_I v7] [] (LL n l) g Q :=
  jv_of_wp (gok9 (A := A)) (md := []) (stop := [9]) (tab := jt_B_spread) rfl 400 _ _ _ _ _ h
theorem tr_B_spread {A : jA} {n l : Nat} {g : jv_S} {Q : jv_V → jv_L → jv_S → Prop} {N s u d V : Nat} {X : Nat → Nat} (hC : CN A g) (hN : 0 < N) (bN : N < 4611686018427387904) (hs : s < 2 ^ ln A) (hV : (∃ c, s.testBit c = true) → RP N u (d * pcr s (ln A)) V) (h1 : SR 134 135 N X (ln A) g) (bX : ∀ c, c < ln A → X c + V < 4611686018427387904)
  (hQ : ∀ g' : jv_S, SR 134 135 N (fun c => X c + if s.testBit c = true then V else 0) (ln A) g' → (∀ (p : Nat) (i : Int), ¬ (p = 134 ∨ p = 135) → g' p i = g p i) → Q jv_U (LL n l) g') :
  jv_Ca jv_T jv_ml kB_spread [jv_P 131, jv_I s, jv_J (u : Nat), jv_J (d : Nat)] (LL n l) g Q := by
  have w2 := hC.1.2.1
  have f2 := hC.2.2.1
  have s10 : s < 1024 := Nat.lt_of_lt_of_le hs (Nat.le_trans (Nat.pow_le_pow_right (n := 2) (by decide) w2) (by decide))
  have hpc : ((pc (s : Int).toNat : Nat) : Int) = (pcr s (ln A) : Nat) := by rw [Int.toNat_natCast, pc_ln hs (by omega)]
  have main : ∀ c, c ≤ ln A → ∀ g' : jv_S, SR 134 135 N (fun i => X i + if i < c ∧ s.testBit i = true then V else 0) (ln A) g' → (∀ (p : Nat) (i : Int), ¬ (p = 134 ∨ p = 135) → g' p i = g p i) → jv_At jv_T jv_ml kB_spread 9 [jv_P 131, jv_I s, jv_J (u : Nat), jv_U, jv_J (d : Nat), jv_U, jv_I (pcr s (ln A) : Nat), jv_I c] [] (LL n l) (g') Q := by
    apply loop_up
    intro c hc ih g' a1 a3
    have f2' : g' 14 1 = ln A := by rw [a3 _ _ (by omega)]; exact f2
    apply sg_B_spread_9 (A := A)
    refine ⟨fun h => hQ g' (SR_ext a1 (fun i hi => ?_)) a3, fun h => ?_⟩
    · congr 1
      by_cases hb : s.testBit i = true
      · rw [if_pos hb, if_pos ⟨by omega, hb⟩]
      · rw [if_neg hb, if_neg (fun h => hb h.2)]
    · have hcl : c < ln A := by omega
      cases hbit : s.testBit c with
      | false =>
        have e0 := hb_f hbit
        rw [e0]
        have hsame : ∀ i, (if i < c ∧ s.testBit i = true then V else 0) = (if i < c + 1 ∧ s.testBit i = true then V else 0) := fun i => by
          by_cases hi : i = c
          · subst hi; rw [if_neg (fun h => by omega), if_neg (fun h => by rw [hbit] at h; cases h.2)]
          · by_cases hx : i < c ∧ s.testBit i = true
            · rw [if_pos hx, if_pos ⟨by omega, hx.2⟩]
            · rw [if_neg hx, if_neg (fun h => hx ⟨by omega, h.2⟩)]
        exact ⟨⟨by omega, by omega, by omega, by omega⟩, fun _ => ⟨⟨by omega, by omega⟩, ih hcl g' (SR_ext a1 (fun i _ => by rw [hsame])) a3⟩, fun h => absurd rfl h⟩
      | true =>
        have e0 := hb_t hbit
        have hR := hV ⟨c, hbit⟩
        have hle : d * pcr s (ln A) ≤ N := by obtain ⟨k, e, _⟩ := hR; exact Nat.le_of_dvd hN ⟨k, e⟩
        have em : (d : Int) * (pcr s (ln A) : Int) = ((d * pcr s (ln A) : Nat) : Int) := (Int.natCast_mul ..).symm
        have hsame : ∀ i, (if i < c ∧ s.testBit i = true then V else 0) + (if i = c then V else 0) = (if i < c + 1 ∧ s.testBit i = true then V else 0) := fun i => by
          by_cases hi : i = c
          · subst hi; rw [if_neg (fun h => by omega), if_pos rfl, if_pos ⟨by omega, hbit⟩, Nat.zero_add]
          · rw [if_neg hi, Nat.add_zero]
            by_cases hx : i < c ∧ s.testBit i = true
            · rw [if_pos hx, if_pos ⟨by omega, hx.2⟩]
            · rw [if_neg hx, if_neg (fun h => hx ⟨by omega, h.2⟩)]
        have hz : (if c < c ∧ s.testBit c = true then V else 0) = 0 := if_neg (fun h => by omega)
        rw [e0, em]
        refine ⟨⟨by omega, by omega, by omega, by omega⟩, fun h => by omega, fun _ => ⟨⟨by omega, by omega⟩, ?_⟩⟩
        have x1 := a1 c hcl
        have bx := bX c hcl
        refine tr_B_add_134 (A := A) (V1 := X c + if c < c ∧ s.testBit c = true then V else 0) (V2 := V) hN bN (by rw [hz]; omega) (by omega) x1.1 x1.2 hR ?_
        apply sg_B_spread_50 (A := A)
        have n1 := SR_up (d := c) (V := V) (show 134 ≠ 135 by decide) a1
        refine ⟨⟨by omega, by omega⟩, ih hcl _ (SR_ext n1 (fun i _ => ?_)) (fun p i hp => by rw [up_ne (by omega), up_ne (by omega)]; exact a3 p i hp)⟩
        show X i + _ + _ = _
        rw [Nat.add_assoc, hsame]
  apply sg_B_spread_0 (A := A)
  rw [hpc]
  have hz : ∀ i, (if i < 0 ∧ s.testBit i = true then V else 0) = 0 := fun i => if_neg (fun h => by omega)
  exact ⟨⟨by omega, by omega⟩, main 0 (by omega) g (SR_ext h1 (fun i _ => by rw [hz, Nat.add_zero])) (fun _ _ _ => rfl)⟩
/-- what the lanes of s lead to -/
def led (A : jA) (s y : Nat) : Nat → Nat := un (fun c => if s.testBit c = true then tk A c y else 0)
theorem led_lt {A : jA} {s y m : Nat} : led A s y m < 2 ^ ln A := un_lt (fun i _ => by
  show (if s.testBit i = true then tk A i y else 0) < 2 ^ ln A
  split
  · exact tk_ltl _ _
  · exact Nat.two_pow_pos _)
set_option maxRecDepth 100000 in
theorem sg_B_ledToFrom_0 {A : jA} {n l : Nat} {g : jv_S} {Q : jv_V → jv_L → jv_S → Prop} {v1 v2 : Int} (h :
   jv_At jv_T jv_ml kB_ledToFrom 5 [jv_P 131, jv_I v1, jv_I v2, jv_I (0 : Int), jv_I (0 : Int)] [] (LL n l) g Q) :
  jv_At jv_T jv_ml kB_ledToFrom 0 [jv_P 131, jv_I v1, jv_I v2, jv_U, jv_U] [] (LL n l) g Q :=
  jv_of_wp (gok9 (A := A)) (md := []) (stop := [5]) (tab := jt_B_ledToFrom) rfl 400 _ _ _ _ _ h
set_option maxRecDepth 100000 in
theorem sg_B_ledToFrom_5 {A : jA} {n l : Nat} {g : jv_S} {Q : jv_V → jv_L → jv_S → Prop} {v1 v2 v3 v4 : Int} (h :
   ((g 14 1) ≤ v4 →
     Q (jv_I v3) (LL n l) g) ∧
    (¬ (g 14 1) ≤ v4 →
     ((0 ≤ v1 ∧ v1 < 2147483648 ∧ 0 ≤ v4 ∧ v4 < 31)) ∧
      ((hb v1 v4) = 0 →
       jv_r32 (v4 + (1 : Int)) ∧
        jv_At jv_T jv_ml kB_ledToFrom 5 [jv_P 131, jv_I v1, jv_I v2, jv_I v3, jv_I (v4 + (1 : Int))] [] (LL n l) g Q) ∧
      (¬ (hb v1 v4) = 0 →
       (0 ≤ v4 ∧ v4 < 10) ∧
        (0 ≤ v2 ∧ v2 < 6) ∧
        jv_r32 (v4 + (1 : Int)) ∧
        jv_At jv_T jv_ml kB_ledToFrom 5 [jv_P 131, jv_I v1, jv_I v2, jv_I (jv_or v3 (g 49 (v4 * 6 + v2))), jv_I (v4 + (1 : Int))] [] (LL n l) g Q))) :
  jv_At jv_T jv_ml kB_ledToFrom 5 [jv_P 131, jv_I v1, jv_I v2, jv_I v3, jv_I v4] [] (LL n l) g Q :=
  jv_of_wp (gok9 (A := A)) (md := []) (stop := [5]) (tab := jt_B_ledToFrom) rfl 400 _ _ _ _ _ h
theorem tr_B_ledToFrom {A : jA} {n l : Nat} {g : jv_S} {Q : jv_V → jv_L → jv_S → Prop} {s y : Nat} (hC : CN A g) (hW : CW 40 A g) (hs : s < 2 ^ ln A) (hy : y < nd A) (hQ : Q (jv_I (led A s y (ln A) : Nat)) (LL n l) g) :
  jv_Ca jv_T jv_ml kB_ledToFrom [jv_P 131, jv_I s, jv_I y] (LL n l) g Q := by
  have w1 := hC.1.1
  have w2 := hC.1.2.1
  have f2 := hC.2.2.1
  have s31 := i31 hs (by omega)
  have main : ∀ c, c ≤ ln A → jv_At jv_T jv_ml kB_ledToFrom 5 [jv_P 131, jv_I s, jv_I y, jv_I (led A s y c : Nat), jv_I c] [] (LL n l) g Q := by
    apply loop_up
    intro c hc ih
    apply sg_B_ledToFrom_5 (A := A)
    refine ⟨fun h => by rw [show ln A = c by omega] at hQ; exact hQ, fun h => ?_⟩
    have hcl : c < ln A := by omega
    have := ih hcl
    cases hbit : s.testBit c with
    | false =>
      have e : led A s y (c + 1) = led A s y c := by
        show led A s y c ||| (if s.testBit c = true then tk A c y else 0) = _
        rw [hbit]
        simp
      rw [e] at this
      rw [hb_f hbit]
      exact ⟨⟨by omega, by omega, by omega, by omega⟩, fun _ => ⟨⟨by omega, by omega⟩, this⟩, fun h => absurd rfl h⟩
    | true =>
      have e : led A s y (c + 1) = led A s y c ||| tk A c y := by
        show led A s y c ||| (if s.testBit c = true then tk A c y else 0) = _
        rw [if_pos hbit]
      have fo : g 49 ((c : Int) * 6 + y) = tk A c y := hW.2.2.2 c y hcl hy
      rw [e] at this
      rw [hb_t hbit, fo, jb_or (i31 led_lt (by omega)) (i31 (tk_ltl _ _) (by omega))]
      exact ⟨⟨by omega, by omega, by omega, by omega⟩, fun h => by omega, fun _ => ⟨⟨by omega, by omega⟩, ⟨by omega, by omega⟩, ⟨by omega, by omega⟩, this⟩⟩
  exact sg_B_ledToFrom_0 (A := A) (main 0 (by omega))
