/-! ===== the model's parts ===== -/
/-- rows p, q hold X of N in least terms -/
def SR (p q N : Nat) (X : Nat → Nat) (m : Nat) (g : jv_S) : Prop := ∀ c : Nat, c < m → g p c = (rdu N (X c) : Nat) ∧ g q c = (rdd N (X c) : Nat)
theorem SR_fr {p q N m : Nat} {X : Nat → Nat} {g g' : jv_S} (h : SR p q N X m g) (h1 : ∀ i, g' p i = g p i) (h2 : ∀ i, g' q i = g q i) : SR p q N X m g' := fun c hc => ⟨by rw [h1]; exact (h c hc).1, by rw [h2]; exact (h c hc).2⟩
theorem SR_ext {p q N m : Nat} {X Y : Nat → Nat} {g : jv_S} (h : SR p q N X m g) (he : ∀ c, c < m → X c = Y c) : SR p q N Y m g := fun c hc => by rw [← he c hc]; exact h c hc
theorem SR_up {p q N m d V : Nat} {X : Nat → Nat} {g : jv_S} (hpq : p ≠ q) (h : SR p q N X m g) : SR p q N (fun i => X i + if i = d then V else 0) m (jv_up (jv_up g p d (rdu N (X d + V) : Nat)) q d (rdd N (X d + V) : Nat)) := fun c hc => by
  by_cases hcd : c = d
  · subst hcd
    simp only []
    rw [if_pos True.intro, up_ne (fun h => hpq h.1), up_eq rfl rfl, up_eq rfl rfl]
    exact ⟨rfl, rfl⟩
  · simp only []
    rw [if_neg hcd, Nat.add_zero, up_ne (by omega), up_ne (by omega), up_ne (by omega), up_ne (by omega)]
    exact h c hc
theorem pc_ln {s m : Nat} (h : s < 2 ^ m) (hm : m ≤ 30) : pc s = pcr s m := by
  have : ∀ k, pcr s (m + k) = pcr s m := by
    intro k
    induction k with
    | zero => rfl
    | succ k ih =>
      show pcr s (m + k) + (if s.testBit (m + k) then 1 else 0) = pcr s m
      rw [ih]
      cases hb : s.testBit (m + k) with
      | false => rfl
      | true => exact absurd (bt_lt h hb) (by omega)
  have := this (30 - m)
  rw [show m + (30 - m) = 30 by omega] at this
  exact this
set_option maxRecDepth 100000 in
theorem sg_Y_clear_169_0 {A : jA} {n l : Nat} {g : jv_S} {Q : jv_V → jv_L → jv_S → Prop} (h :
   jv_At jv_T jv_ml kY_clear 2 [jv_P 136, jv_P 169, jv_P 170, jv_I (0 : Int)] [] (LL n l) g Q) :
  jv_At jv_T jv_ml kY_clear 0 [jv_P 136, jv_P 169, jv_P 170, jv_U] [] (LL n l) g Q :=
  jv_of_wp (gok9 (A := A)) (md := []) (stop := [2]) (tab := jt_Y_clear) rfl 400 _ _ _ _ _ h
set_option maxRecDepth 100000 in
theorem sg_Y_clear_169_2 {A : jA} {n l : Nat} {g : jv_S} {Q : jv_V → jv_L → jv_S → Prop} {v3 : Int} (h :
   ((11 : Int) ≤ v3 →
     Q jv_U (LL n l) g) ∧
    (¬ (11 : Int) ≤ v3 →
     (0 ≤ v3 ∧ v3 < 11) ∧ 
      (0 ≤ v3 ∧ v3 < 11) ∧ 
      jv_r32 (v3 + (1 : Int)) ∧
      jv_At jv_T jv_ml kY_clear 2 [jv_P 136, jv_P 169, jv_P 170, jv_I (v3 + (1 : Int))] [] (LL n l) (jv_up (jv_up g 169 v3 (0 : Int)) 170 v3 (1 : Int)) Q)) :
  jv_At jv_T jv_ml kY_clear 2 [jv_P 136, jv_P 169, jv_P 170, jv_I v3] [] (LL n l) g Q :=
  jv_of_wp (gok9 (A := A)) (md := []) (stop := [2]) (tab := jt_Y_clear) rfl 400 _ _ _ _ _ h
theorem tr_Y_clear_169 {A : jA} {n l : Nat} {g : jv_S} {Q : jv_V → jv_L → jv_S → Prop} {N m : Nat} (hN : 0 < N) (hm : m ≤ 11) (hQ : ∀ g' : jv_S, SR 169 170 N (fun _ => 0) m g' → (∀ (p : Nat) (i : Int), ¬ (p = 169 ∨ p = 170) → g' p i = g p i) → Q jv_U (LL n l) g') :
  jv_Ca jv_T jv_ml kY_clear [jv_P 136, jv_P 169, jv_P 170] (LL n l) g Q := by
  have main : ∀ c, c ≤ 11 → ∀ g' : jv_S, SR 169 170 N (fun _ => 0) c g' → (∀ (p : Nat) (i : Int), ¬ (p = 169 ∨ p = 170) → g' p i = g p i) → jv_At jv_T jv_ml kY_clear 2 [jv_P 136, jv_P 169, jv_P 170, jv_I c] [] (LL n l) (g') Q := by
    apply loop_up
    intro c hc ih g' h1 h2
    apply sg_Y_clear_169_2 (A := A)
    refine ⟨fun h => hQ g' (fun d hd => h1 d (by omega)) h2, fun h => ⟨⟨by omega, by omega⟩, ⟨by omega, by omega⟩, ⟨by omega, by omega⟩, ih (by omega) _ (fun d hd => ?_) (fun p i hp => by rw [up_ne (by omega), up_ne (by omega)]; exact h2 p i hp)⟩⟩
    by_cases hdc : d = c
    · subst hdc
      rw [(rd_0 hN).1, (rd_0 hN).2, up_ne (by omega), up_eq rfl rfl, up_eq rfl rfl]
      exact ⟨rfl, rfl⟩
    · rw [up_ne (by omega), up_ne (by omega), up_ne (by omega), up_ne (by omega)]
      exact h1 d (by omega)
  exact sg_Y_clear_169_0 (A := A) (main 0 (by omega) g (fun d hd => by omega) (fun _ _ _ => rfl))
set_option maxRecDepth 100000 in
theorem sg_Y_clear_171_0 {A : jA} {n l : Nat} {g : jv_S} {Q : jv_V → jv_L → jv_S → Prop} (h :
   jv_At jv_T jv_ml kY_clear 2 [jv_P 136, jv_P 171, jv_P 172, jv_I (0 : Int)] [] (LL n l) g Q) :
  jv_At jv_T jv_ml kY_clear 0 [jv_P 136, jv_P 171, jv_P 172, jv_U] [] (LL n l) g Q :=
  jv_of_wp (gok9 (A := A)) (md := []) (stop := [2]) (tab := jt_Y_clear) rfl 400 _ _ _ _ _ h
set_option maxRecDepth 100000 in
theorem sg_Y_clear_171_2 {A : jA} {n l : Nat} {g : jv_S} {Q : jv_V → jv_L → jv_S → Prop} {v3 : Int} (h :
   ((11 : Int) ≤ v3 →
     Q jv_U (LL n l) g) ∧
    (¬ (11 : Int) ≤ v3 →
     (0 ≤ v3 ∧ v3 < 11) ∧ 
      (0 ≤ v3 ∧ v3 < 11) ∧ 
      jv_r32 (v3 + (1 : Int)) ∧
      jv_At jv_T jv_ml kY_clear 2 [jv_P 136, jv_P 171, jv_P 172, jv_I (v3 + (1 : Int))] [] (LL n l) (jv_up (jv_up g 171 v3 (0 : Int)) 172 v3 (1 : Int)) Q)) :
  jv_At jv_T jv_ml kY_clear 2 [jv_P 136, jv_P 171, jv_P 172, jv_I v3] [] (LL n l) g Q :=
  jv_of_wp (gok9 (A := A)) (md := []) (stop := [2]) (tab := jt_Y_clear) rfl 400 _ _ _ _ _ h
theorem tr_Y_clear_171 {A : jA} {n l : Nat} {g : jv_S} {Q : jv_V → jv_L → jv_S → Prop} {N m : Nat} (hN : 0 < N) (hm : m ≤ 11) (hQ : ∀ g' : jv_S, SR 171 172 N (fun _ => 0) m g' → (∀ (p : Nat) (i : Int), ¬ (p = 171 ∨ p = 172) → g' p i = g p i) → Q jv_U (LL n l) g') :
  jv_Ca jv_T jv_ml kY_clear [jv_P 136, jv_P 171, jv_P 172] (LL n l) g Q := by
  have main : ∀ c, c ≤ 11 → ∀ g' : jv_S, SR 171 172 N (fun _ => 0) c g' → (∀ (p : Nat) (i : Int), ¬ (p = 171 ∨ p = 172) → g' p i = g p i) → jv_At jv_T jv_ml kY_clear 2 [jv_P 136, jv_P 171, jv_P 172, jv_I c] [] (LL n l) (g') Q := by
    apply loop_up
    intro c hc ih g' h1 h2
    apply sg_Y_clear_171_2 (A := A)
    refine ⟨fun h => hQ g' (fun d hd => h1 d (by omega)) h2, fun h => ⟨⟨by omega, by omega⟩, ⟨by omega, by omega⟩, ⟨by omega, by omega⟩, ih (by omega) _ (fun d hd => ?_) (fun p i hp => by rw [up_ne (by omega), up_ne (by omega)]; exact h2 p i hp)⟩⟩
    by_cases hdc : d = c
    · subst hdc
      rw [(rd_0 hN).1, (rd_0 hN).2, up_ne (by omega), up_eq rfl rfl, up_eq rfl rfl]
      exact ⟨rfl, rfl⟩
    · rw [up_ne (by omega), up_ne (by omega), up_ne (by omega), up_ne (by omega)]
      exact h1 d (by omega)
  exact sg_Y_clear_171_0 (A := A) (main 0 (by omega) g (fun d hd => by omega) (fun _ _ _ => rfl))
set_option maxRecDepth 100000 in
theorem sg_Y_takeNext_0 {A : jA} {n l : Nat} {g : jv_S} {Q : jv_V → jv_L → jv_S → Prop} (h :
   jv_At jv_T jv_ml kY_takeNext 2 [jv_P 136, jv_I (0 : Int)] [] (LL n l) g Q) :
  jv_At jv_T jv_ml kY_takeNext 0 [jv_P 136, jv_U] [] (LL n l) g Q :=
  jv_of_wp (gok9 (A := A)) (md := []) (stop := [2]) (tab := jt_Y_takeNext) rfl 400 _ _ _ _ _ h
set_option maxRecDepth 100000 in
theorem sg_Y_takeNext_2 {A : jA} {n l : Nat} {g : jv_S} {Q : jv_V → jv_L → jv_S → Prop} {v1 : Int} (h :
   ((g 136 6) ≤ v1 →
     jv_Ca jv_T jv_ml kY_clear [jv_P 136, jv_P 169, jv_P 170] (LL n l) g (fun r L2 g2 => jv_At jv_T jv_ml kY_takeNext 52 [jv_P 136, jv_I v1] (jv_pu r []) L2 g2 Q)) ∧
    (¬ (g 136 6) ≤ v1 →
     (0 ≤ v1 ∧ v1 < 11) ∧
      (0 ≤ v1 ∧ v1 < 11) ∧ 
      (0 ≤ v1 ∧ v1 < 11) ∧
      (0 ≤ v1 ∧ v1 < 11) ∧ 
      jv_r32 (v1 + (1 : Int)) ∧
      jv_At jv_T jv_ml kY_takeNext 2 [jv_P 136, jv_I (v1 + (1 : Int))] [] (LL n l) (jv_up (jv_up g 167 v1 (g 169 v1)) 168 v1 (g 170 v1)) Q)) :
  jv_At jv_T jv_ml kY_takeNext 2 [jv_P 136, jv_I v1] [] (LL n l) g Q :=
  jv_of_wp (gok9 (A := A)) (md := []) (stop := [2]) (tab := jt_Y_takeNext) rfl 400 _ _ _ _ _ h
set_option maxRecDepth 100000 in
theorem sg_Y_takeNext_52 {A : jA} {n l : Nat} {g : jv_S} {Q : jv_V → jv_L → jv_S → Prop} {v1 : Int} (h :
   Q jv_U (LL n l) g) :
  jv_At jv_T jv_ml kY_takeNext 52 [jv_P 136, jv_I v1] [] (LL n l) g Q :=
  jv_of_wp (gok9 (A := A)) (md := []) (stop := [2]) (tab := jt_Y_takeNext) rfl 400 _ _ _ _ _ h
theorem tr_Y_takeNext {A : jA} {n l : Nat} {g : jv_S} {Q : jv_V → jv_L → jv_S → Prop} {N : Nat} {X : Nat → Nat} (hM : MN A g) (hN : 0 < N) (h1 : SR 169 170 N X (ln A) g) (hQ : ∀ g' : jv_S, SR 167 168 N X (ln A) g' → SR 169 170 N (fun _ => 0) (ln A) g' → (∀ (p : Nat) (i : Int), ¬ (167 ≤ p ∧ p ≤ 170) → g' p i = g p i) → Q jv_U (LL n l) g') :
  jv_Ca jv_T jv_ml kY_takeNext [jv_P 136] (LL n l) g Q := by
  have w2 := hM.1.2.1
  have f2 := hM.2.2.1
  have main : ∀ c, c ≤ ln A → ∀ g' : jv_S, SR 167 168 N X c g' → (∀ (p : Nat) (i : Int), ¬ (p = 167 ∨ p = 168) → g' p i = g p i) → jv_At jv_T jv_ml kY_takeNext 2 [jv_P 136, jv_I c] [] (LL n l) (g') Q := by
    apply loop_up
    intro c hc ih g' a1 a2
    have f2' : g' 136 6 = ln A := by rw [a2 _ _ (by omega)]; exact f2
    apply sg_Y_takeNext_2 (A := A)
    refine ⟨fun h => ?_, fun h => ⟨⟨by omega, by omega⟩, ⟨by omega, by omega⟩, ⟨by omega, by omega⟩, ⟨by omega, by omega⟩, ⟨by omega, by omega⟩, ih (by omega) _ (fun d hd => ?_) (fun p i hp => by rw [up_ne (by omega), up_ne (by omega)]; exact a2 p i hp)⟩⟩
    · refine tr_Y_clear_169 (A := A) (N := N) (m := ln A) hN (by omega) (fun g2 b1 b2 => ?_)
      apply sg_Y_takeNext_52 (A := A)
      exact hQ g2 (SR_fr (fun d hd => a1 d (by omega)) (fun i => b2 _ _ (by omega)) (fun i => b2 _ _ (by omega))) b1 (fun p i hp => by rw [b2 _ _ (by omega)]; exact a2 _ _ (by omega))
    · by_cases hdc : d = c
      · subst hdc
        rw [up_ne (by omega), up_eq rfl rfl, up_eq rfl rfl, a2 _ _ (by omega), a2 _ _ (by omega)]
        exact h1 d (by omega)
      · rw [up_ne (by omega), up_ne (by omega), up_ne (by omega), up_ne (by omega)]
        exact a1 d (by omega)
  exact sg_Y_takeNext_0 (A := A) (main 0 (by omega) g (fun d hd => by omega) (fun _ _ _ => rfl))
set_option maxRecDepth 100000 in
theorem sg_Y_part_0 {A : jA} {n l : Nat} {g : jv_S} {Q : jv_V → jv_L → jv_S → Prop} {v1 v2 v4 : Int} (h :
   ((0 ≤ v1 ∧ v1 < 2147483648)) ∧
    jv_At jv_T jv_ml kY_part 9 [jv_P 136, jv_I v1, jv_J v2, jv_U, jv_J v4, jv_U, jv_I (pc v1.toNat : Int), jv_I (0 : Int)] [] (LL n l) g Q) :
  jv_At jv_T jv_ml kY_part 0 [jv_P 136, jv_I v1, jv_J v2, jv_U, jv_J v4, jv_U, jv_U, jv_U] [] (LL n l) g Q :=
  jv_of_wp (gok9 (A := A)) (md := []) (stop := [9]) (tab := jt_Y_part) rfl 400 _ _ _ _ _ h
set_option maxRecDepth 100000 in
theorem sg_Y_part_9 {A : jA} {n l : Nat} {g : jv_S} {Q : jv_V → jv_L → jv_S → Prop} {v1 v2 v4 v6 v7 : Int} (h :
   ((g 136 6) ≤ v7 →
     Q jv_U (LL n l) g) ∧
    (¬ (g 136 6) ≤ v7 →
     ((0 ≤ v1 ∧ v1 < 2147483648 ∧ 0 ≤ v7 ∧ v7 < 31)) ∧
      ((hb v1 v7) = 0 →
       jv_r32 (v7 + (1 : Int)) ∧
        jv_At jv_T jv_ml kY_part 9 [jv_P 136, jv_I v1, jv_J v2, jv_U, jv_J v4, jv_U, jv_I v6, jv_I (v7 + (1 : Int))] [] (LL n l) g Q) ∧
      (¬ (hb v1 v7) = 0 →
       jv_r64 (v4 * v6) ∧
        jv_Ca jv_T jv_ml kY_add [jv_P 169, jv_P 170, jv_I v7, jv_J v2, jv_J (v4 * v6)] (LL n l) g (fun r L2 g2 => jv_At jv_T jv_ml kY_part 47 [jv_P 136, jv_I v1, jv_J v2, jv_U, jv_J v4, jv_U, jv_I v6, jv_I v7] (jv_pu r []) L2 g2 Q)))) :
  jv_At jv_T jv_ml kY_part 9 [jv_P 136, jv_I v1, jv_J v2, jv_U, jv_J v4, jv_U, jv_I v6, jv_I v7] [] (LL n l) g Q :=
  jv_of_wp (gok9 (A := A)) (md := []) (stop := [9]) (tab := jt_Y_part) rfl 400 _ _ _ _ _ h
set_option maxRecDepth 100000 in
theorem sg_Y_part_47 {A : jA} {n l : Nat} {g : jv_S} {Q : jv_V → jv_L → jv_S → Prop} {v1 v2 v4 v6 v7 : Int} (h :
   jv_r64 (v4 * v6) ∧
    jv_Ca jv_T jv_ml kY_add [jv_P 171, jv_P 172, jv_I v7, jv_J v2, jv_J (v4 * v6)] (LL n l) g (fun r L2 g2 => jv_At jv_T jv_ml kY_part 67 [jv_P 136, jv_I v1, jv_J v2, jv_U, jv_J v4, jv_U, jv_I v6, jv_I v7] (jv_pu r []) L2 g2 Q)) :
  jv_At jv_T jv_ml kY_part 47 [jv_P 136, jv_I v1, jv_J v2, jv_U, jv_J v4, jv_U, jv_I v6, jv_I v7] [] (LL n l) g Q :=
  jv_of_wp (gok9 (A := A)) (md := []) (stop := [9]) (tab := jt_Y_part) rfl 400 _ _ _ _ _ h
set_option maxRecDepth 100000 in
theorem sg_Y_part_67 {A : jA} {n l : Nat} {g : jv_S} {Q : jv_V → jv_L → jv_S → Prop} {v1 v2 v4 v6 v7 : Int} (h :
   jv_r32 (v7 + (1 : Int)) ∧
    jv_At jv_T jv_ml kY_part 9 [jv_P 136, jv_I v1, jv_J v2, jv_U, jv_J v4, jv_U, jv_I v6, jv_I (v7 + (1 : Int))] [] (LL n l) g Q) :
  jv_At jv_T jv_ml kY_part 67 [jv_P 136, jv_I v1, jv_J v2, jv_U, jv_J v4, jv_U, jv_I v6, jv_I v7] [] (LL n l) g Q :=
  jv_of_wp (gok9 (A := A)) (md := []) (stop := [9]) (tab := jt_Y_part) rfl 400 _ _ _ _ _ h
theorem tr_Y_part {A : jA} {n l : Nat} {g : jv_S} {Q : jv_V → jv_L → jv_S → Prop} {N s u d V : Nat} {X Y : Nat → Nat} (hM : MN A g) (hN : 0 < N) (bN : N < 4611686018427387904) (hs : s < 2 ^ ln A) (hV : (∃ c, s.testBit c = true) → RP N u (d * pcr s (ln A)) V) (h1 : SR 169 170 N X (ln A) g) (h2 : SR 171 172 N Y (ln A) g) (bX : ∀ c, c < ln A → X c + V < 4611686018427387904) (bY : ∀ c, c < ln A → Y c + V < 4611686018427387904)
  (hQ : ∀ g' : jv_S, SR 169 170 N (fun c => X c + if s.testBit c = true then V else 0) (ln A) g' → SR 171 172 N (fun c => Y c + if s.testBit c = true then V else 0) (ln A) g' → (∀ (p : Nat) (i : Int), ¬ (169 ≤ p ∧ p ≤ 172) → g' p i = g p i) → Q jv_U (LL n l) g') :
  jv_Ca jv_T jv_ml kY_part [jv_P 136, jv_I s, jv_J (u : Nat), jv_J (d : Nat)] (LL n l) g Q := by
  have w2 := hM.1.2.1
  have f2 := hM.2.2.1
  have s31 := i31 hs (by omega)
  have hpc : ((pc (s : Int).toNat : Nat) : Int) = (pcr s (ln A) : Nat) := by rw [Int.toNat_natCast, pc_ln hs (by omega)]
  have main : ∀ c, c ≤ ln A → ∀ g' : jv_S, SR 169 170 N (fun i => X i + if i < c ∧ s.testBit i = true then V else 0) (ln A) g' → SR 171 172 N (fun i => Y i + if i < c ∧ s.testBit i = true then V else 0) (ln A) g' → (∀ (p : Nat) (i : Int), ¬ (169 ≤ p ∧ p ≤ 172) → g' p i = g p i) → jv_At jv_T jv_ml kY_part 9 [jv_P 136, jv_I s, jv_J (u : Nat), jv_U, jv_J (d : Nat), jv_U, jv_I (pcr s (ln A) : Nat), jv_I c] [] (LL n l) (g') Q := by
    apply loop_up
    intro c hc ih g' a1 a2 a3
    have f2' : g' 136 6 = ln A := by rw [a3 _ _ (by omega)]; exact f2
    apply sg_Y_part_9 (A := A)
    refine ⟨fun h => hQ g' (SR_ext a1 (fun i hi => ?_)) (SR_ext a2 (fun i hi => ?_)) a3, fun h => ?_⟩
    · congr 1
      by_cases hb : s.testBit i = true
      · rw [if_pos hb, if_pos ⟨by omega, hb⟩]
      · rw [if_neg hb, if_neg (fun h => hb h.2)]
    · congr 1
      by_cases hb : s.testBit i = true
      · rw [if_pos hb, if_pos ⟨by omega, hb⟩]
      · rw [if_neg hb, if_neg (fun h => hb h.2)]
    · have hcl : c < ln A := by omega
      cases hbit : s.testBit c with
      | false =>
        have e0 := hb_f hbit
        rw [e0]
        have hsame : ∀ i, (if i < c ∧ s.testBit i = true then V else 0) = (if i < c + 1 ∧ s.testBit i = true then V else 0) := fun i => by
          by_cases hi : i = c
          · subst hi; rw [if_neg (fun h => by omega), if_neg (fun h => by rw [hbit] at h; cases h.2)]
          · by_cases hx : i < c ∧ s.testBit i = true
            · rw [if_pos hx, if_pos ⟨by omega, hx.2⟩]
            · rw [if_neg hx, if_neg (fun h => hx ⟨by omega, h.2⟩)]
        exact ⟨⟨by omega, by omega, by omega, by omega⟩, fun _ => ⟨⟨by omega, by omega⟩, ih hcl g' (SR_ext a1 (fun i _ => by rw [hsame])) (SR_ext a2 (fun i _ => by rw [hsame])) a3⟩, fun h => absurd rfl h⟩
      | true =>
        have e0 := hb_t hbit
        have hR := hV ⟨c, hbit⟩
        have hpos := RP_pos hN hR
        have hle : d * pcr s (ln A) ≤ N := by obtain ⟨k, e, _⟩ := hR; exact Nat.le_of_dvd hN ⟨k, e⟩
        have em : (d : Int) * (pcr s (ln A) : Int) = ((d * pcr s (ln A) : Nat) : Int) := (Int.natCast_mul ..).symm
        have hsame : ∀ i, (if i < c ∧ s.testBit i = true then V else 0) + (if i = c then V else 0) = (if i < c + 1 ∧ s.testBit i = true then V else 0) := fun i => by
          by_cases hi : i = c
          · subst hi; rw [if_neg (fun h => by omega), if_pos rfl, if_pos ⟨by omega, hbit⟩, Nat.zero_add]
          · rw [if_neg hi, Nat.add_zero]
            by_cases hx : i < c ∧ s.testBit i = true
            · rw [if_pos hx, if_pos ⟨by omega, hx.2⟩]
            · rw [if_neg hx, if_neg (fun h => hx ⟨by omega, h.2⟩)]
        have hz : (if c < c ∧ s.testBit c = true then V else 0) = 0 := if_neg (fun h => by omega)
        rw [e0, em]
        refine ⟨⟨by omega, by omega, by omega, by omega⟩, fun h => by omega, fun _ => ⟨⟨by omega, by omega⟩, ?_⟩⟩
        have x1 := a1 c hcl
        have y1 := a2 c hcl
        have bx := bX c hcl
        have bY' := bY c hcl
        refine tr_Y_add_169 (A := A) (V1 := X c + if c < c ∧ s.testBit c = true then V else 0) (V2 := V) hN bN (by rw [hz]; omega) (by omega) x1.1 x1.2 hR ?_
        apply sg_Y_part_47 (A := A)
        rw [em]
        refine ⟨⟨by omega, by omega⟩, ?_⟩
        have n1 := SR_up (d := c) (V := V) (show 169 ≠ 170 by decide) a1
        have n2 := SR_fr a2 (g' := jv_up (jv_up g' 169 c (rdu N ((X c + if c < c ∧ s.testBit c = true then V else 0) + V) : Nat)) 170 c (rdd N ((X c + if c < c ∧ s.testBit c = true then V else 0) + V) : Nat)) (fun i => by rw [up_ne (by omega), up_ne (by omega)]) (fun i => by rw [up_ne (by omega), up_ne (by omega)])
        have y2 := n2 c hcl
        refine tr_Y_add_171 (A := A) (V1 := Y c + if c < c ∧ s.testBit c = true then V else 0) (V2 := V) hN bN (by rw [hz]; omega) (by omega) y2.1 y2.2 hR ?_
        apply sg_Y_part_67 (A := A)
        have n3 := SR_up (d := c) (V := V) (show 171 ≠ 172 by decide) n2
        refine ⟨⟨by omega, by omega⟩, ih hcl _ (SR_ext (SR_fr n1 (fun i => by rw [up_ne (by omega), up_ne (by omega)]) (fun i => by rw [up_ne (by omega), up_ne (by omega)])) (fun i _ => ?_)) (SR_ext n3 (fun i _ => ?_)) (fun p i hp => by rw [up_ne (by omega), up_ne (by omega), up_ne (by omega), up_ne (by omega)]; exact a3 p i hp)⟩
        · show X i + _ + _ = _
          rw [Nat.add_assoc, hsame]
        · show Y i + _ + _ = _
          rw [Nat.add_assoc, hsame]
  apply sg_Y_part_0 (A := A)
  rw [hpc]
  have hz : ∀ i, (if i < 0 ∧ s.testBit i = true then V else 0) = 0 := fun i => if_neg (fun h => by omega)
  exact ⟨⟨by omega, by omega⟩, main 0 (by omega) g (SR_ext h1 (fun i _ => by rw [hz, Nat.add_zero])) (SR_ext h2 (fun i _ => by rw [hz, Nat.add_zero])) (fun _ _ _ => rfl)⟩
