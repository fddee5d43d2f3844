/-! ===== a text ===== -/
def ub (S : jB) (i j : Nat) (v : Int) : jB := fun a b => if a = i ∧ b = j then v else S a b
theorem ub_eq {S : jB} {i j a b : Nat} {v : Int} (h1 : a = i) (h2 : b = j) : ub S i j v a b = v := if_pos ⟨h1, h2⟩
theorem ub_ne {S : jB} {i j a b : Nat} {v : Int} (h : ¬ (a = i ∧ b = j)) : ub S i j v a b = S a b := if_neg h
/-- 0: step, nodes, lanes; of lanes: 1 from, 2 to, 3 cells: is a code taken, what comes of it -/
def ac (S : jB) (x : Int) : Bool × jB := if S 0 0 = 0 then (decide (x = 110), ub S 0 0 1) else if S 0 0 = 1 then (decide (50 ≤ x ∧ x ≤ 54), ub (ub S 0 0 2) 0 1 (x - 48)) else if S 0 0 = 3 then (decide (48 ≤ x ∧ x - 48 < S 0 1), ub (ub S 0 0 4) 1 (S 0 2).toNat (x - 48)) else if S 0 0 = 4 then (decide (x = 62), ub S 0 0 5) else if S 0 0 = 5 then (decide (48 ≤ x ∧ x - 48 < S 0 1 ∧ x - 48 ≠ S 1 (S 0 2).toNat), ub (ub (ub (ub S 0 0 6) 0 2 (S 0 2 + 1)) 2 (S 0 2).toNat (x - 48)) 3 (S 0 2).toNat 1) else if S 0 0 = 6 ∧ x = 42 then (true, ub S 0 0 7) else if S 0 0 = 7 then (decide (49 ≤ x ∧ x ≤ 50), ub (ub S 0 0 8) 3 (S 0 2 - 1).toNat (x - 48)) else (decide (x = 59 ∧ S 0 2 < 10), ub S 0 0 3)
def AU (S : jB) : Prop := (0 ≤ S 0 0 ∧ S 0 0 ≤ 8) ∧ (2 ≤ S 0 0 → 2 ≤ S 0 1 ∧ S 0 1 ≤ 6) ∧ (0 ≤ S 0 2 ∧ S 0 2 ≤ 10) ∧ (3 ≤ S 0 0 → S 0 0 ≤ 5 → S 0 2 < 10) ∧ (6 ≤ S 0 0 → 1 ≤ S 0 2) ∧ (S 0 0 ≤ 2 → S 0 2 = 0) ∧ (4 ≤ S 0 0 → S 0 0 ≤ 5 → 0 ≤ S 1 (S 0 2).toNat ∧ S 1 (S 0 2).toNat < S 0 1) ∧ ∀ c : Nat, (c : Int) < S 0 2 → (0 ≤ S 1 c ∧ S 1 c < S 0 1) ∧ (0 ≤ S 2 c ∧ S 2 c < S 0 1) ∧ S 1 c ≠ S 2 c ∧ 1 ≤ S 3 c ∧ S 3 c ≤ 2
theorem AU_ac {S : jB} {x : Int} (h : AU S) (hx : (ac S x).1 = true) : AU (ac S x).2 := by
  obtain ⟨h1, h2, h3, h4, h5, h6, h7, h8⟩ := h
  unfold ac at hx ⊢
  by_cases s0 : S 0 0 = 0
  · rw [if_pos s0] at hx ⊢
    refine ⟨?_, ?_, ?_, ?_, ?_, ?_, ?_, fun c hc => ?_⟩ <;> simp only [ub_eq (S := S) (i := 0) (j := 0) rfl rfl, ub_ne (S := S) (i := 0) (j := 0) (a := 0) (b := 1) (v := 1) (by omega), ub_ne (S := S) (i := 0) (j := 0) (a := 0) (b := 2) (v := 1) (by omega)] at * <;> (try omega)
  rw [if_neg s0] at hx ⊢
  by_cases s1 : S 0 0 = 1
  · rw [if_pos s1] at hx ⊢
    have hx := of_decide_eq_true hx
    have e0 : ub (ub S 0 0 2) 0 1 (x - 48) 0 0 = 2 := by rw [ub_ne (by omega), ub_eq rfl rfl]
    have e1 : ub (ub S 0 0 2) 0 1 (x - 48) 0 1 = x - 48 := ub_eq rfl rfl
    have e2 : ub (ub S 0 0 2) 0 1 (x - 48) 0 2 = S 0 2 := by rw [ub_ne (by omega), ub_ne (by omega)]
    refine ⟨?_, ?_, ?_, ?_, ?_, ?_, ?_, fun c hc => ?_⟩
    · show 0 ≤ ub (ub S 0 0 2) 0 1 (x - 48) 0 0 ∧ ub (ub S 0 0 2) 0 1 (x - 48) 0 0 ≤ 8
      omega
    · show 2 ≤ ub (ub S 0 0 2) 0 1 (x - 48) 0 0 → 2 ≤ ub (ub S 0 0 2) 0 1 (x - 48) 0 1 ∧ ub (ub S 0 0 2) 0 1 (x - 48) 0 1 ≤ 6
      omega
    · show 0 ≤ ub (ub S 0 0 2) 0 1 (x - 48) 0 2 ∧ ub (ub S 0 0 2) 0 1 (x - 48) 0 2 ≤ 10
      omega
    · show 3 ≤ ub (ub S 0 0 2) 0 1 (x - 48) 0 0 → _
      intro h; omega
    · show 6 ≤ ub (ub S 0 0 2) 0 1 (x - 48) 0 0 → _
      intro h; omega
    · show ub (ub S 0 0 2) 0 1 (x - 48) 0 0 ≤ 2 → ub (ub S 0 0 2) 0 1 (x - 48) 0 2 = 0
      intro h; have := h6 (by omega); omega
    · show 4 ≤ ub (ub S 0 0 2) 0 1 (x - 48) 0 0 → _
      intro h; omega
    · have hc : (c : Int) < ub (ub S 0 0 2) 0 1 (x - 48) 0 2 := hc
      have := h6 (by omega)
      omega
  rw [if_neg s1] at hx ⊢
  have n26 := h2 (by omega)
  by_cases s3 : S 0 0 = 3
  · rw [if_pos s3] at hx ⊢
    have hx := of_decide_eq_true hx
    have l10 := h4 (by omega) (by omega)
    obtain ⟨U, hU⟩ : ∃ U, U = ub (ub S 0 0 4) 1 (S 0 2).toNat (x - 48) := ⟨_, rfl⟩
    have e0 : U 0 0 = 4 := by rw [hU, ub_ne (by omega), ub_eq rfl rfl]
    have e1 : U 0 1 = S 0 1 := by rw [hU, ub_ne (by omega), ub_ne (by omega)]
    have e2 : U 0 2 = S 0 2 := by rw [hU, ub_ne (by omega), ub_ne (by omega)]
    show AU (ub (ub S 0 0 4) 1 (S 0 2).toNat (x - 48))
    rw [← hU]
    refine ⟨by omega, by omega, by omega, by omega, by omega, by omega, fun _ _ => ?_, fun c hc => ?_⟩
    · rw [e2, e1, hU, ub_eq rfl rfl]; omega
    · rw [e2] at hc
      rw [e1, hU, ub_ne (by omega), ub_ne (by omega), ub_ne (by omega), ub_ne (by omega), ub_ne (by omega), ub_ne (by omega)]
      exact h8 c hc
  rw [if_neg s3] at hx ⊢
  by_cases s4 : S 0 0 = 4
  · rw [if_pos s4] at hx ⊢
    obtain ⟨U, hU⟩ : ∃ U, U = ub S 0 0 5 := ⟨_, rfl⟩
    have e0 : U 0 0 = 5 := by rw [hU, ub_eq rfl rfl]
    have e : ∀ a b, ¬ (a = 0 ∧ b = 0) → U a b = S a b := fun a b h => by rw [hU, ub_ne h]
    show AU (ub S 0 0 5)
    rw [← hU]
    refine ⟨by omega, ?_, ?_, ?_, by omega, by omega, ?_, ?_⟩
    · rw [e 0 1 (by omega)]; omega
    · rw [e 0 2 (by omega)]; exact h3
    · rw [e 0 2 (by omega)]; intro _ _; exact h4 (by omega) (by omega)
    · rw [e 0 2 (by omega), e 0 1 (by omega), e 1 _ (by omega)]; intro _ _; exact h7 (by omega) (by omega)
    · rw [e 0 2 (by omega), e 0 1 (by omega)]
      intro c hc
      rw [e 1 c (by omega), e 2 c (by omega), e 3 c (by omega)]
      exact h8 c hc
  rw [if_neg s4] at hx ⊢
  by_cases s5 : S 0 0 = 5
  · rw [if_pos s5] at hx ⊢
    have hx := of_decide_eq_true hx
    have l10 := h4 (by omega) (by omega)
    have hf := h7 (by omega) (by omega)
    obtain ⟨U, hU⟩ : ∃ U, U = ub (ub (ub (ub S 0 0 6) 0 2 (S 0 2 + 1)) 2 (S 0 2).toNat (x - 48)) 3 (S 0 2).toNat 1 := ⟨_, rfl⟩
    have e0 : U 0 0 = 6 := by rw [hU, ub_ne (by omega), ub_ne (by omega), ub_ne (by omega), ub_eq rfl rfl]
    have e1 : U 0 1 = S 0 1 := by rw [hU, ub_ne (by omega), ub_ne (by omega), ub_ne (by omega), ub_ne (by omega)]
    have e2 : U 0 2 = S 0 2 + 1 := by rw [hU, ub_ne (by omega), ub_ne (by omega), ub_eq rfl rfl]
    have u1 : ∀ c, U 1 c = S 1 c := fun c => by rw [hU, ub_ne (by omega), ub_ne (by omega), ub_ne (by omega), ub_ne (by omega)]
    show AU (ub (ub (ub (ub S 0 0 6) 0 2 (S 0 2 + 1)) 2 (S 0 2).toNat (x - 48)) 3 (S 0 2).toNat 1)
    rw [← hU]
    refine ⟨by omega, by omega, by omega, by omega, by omega, by omega, by omega, fun c hc => ?_⟩
    rw [e2] at hc
    rw [e1, u1]
    by_cases hcl : c = (S 0 2).toNat
    · subst hcl
      rw [hU, ub_ne (by omega), ub_eq rfl rfl, ub_eq rfl rfl]
      exact ⟨hf, by omega, by omega, by omega, by omega⟩
    · rw [hU, ub_ne (by omega), ub_ne (by omega), ub_ne (by omega), ub_ne (by omega), ub_ne (by omega), ub_ne (by omega), ub_ne (by omega), ub_ne (by omega)]
      exact h8 c (by omega)
  rw [if_neg s5] at hx ⊢
  have simple : ∀ v : Int, (v = 7 ∧ 6 ≤ S 0 0) ∨ (v = 3 ∧ S 0 2 < 10) → AU (ub S 0 0 v) := by
    intro v hv
    obtain ⟨U, hU⟩ : ∃ U, U = ub S 0 0 v := ⟨_, rfl⟩
    have e0 : U 0 0 = v := by rw [hU, ub_eq rfl rfl]
    have e : ∀ a b, ¬ (a = 0 ∧ b = 0) → U a b = S a b := fun a b h => by rw [hU, ub_ne h]
    rw [← hU]
    refine ⟨by omega, ?_, ?_, ?_, ?_, by omega, by omega, ?_⟩
    · rw [e 0 1 (by omega)]; omega
    · rw [e 0 2 (by omega)]; exact h3
    · rw [e 0 2 (by omega)]; omega
    · rw [e 0 2 (by omega)]; intro _; exact h5 (by omega)
    · rw [e 0 2 (by omega), e 0 1 (by omega)]
      intro c hc
      rw [e 1 c (by omega), e 2 c (by omega), e 3 c (by omega)]
      exact h8 c hc
  by_cases s6 : S 0 0 = 6 ∧ x = 42
  · rw [if_pos s6] at hx ⊢
    exact simple 7 (Or.inl ⟨rfl, by omega⟩)
  rw [if_neg s6] at hx ⊢
  by_cases s7 : S 0 0 = 7
  · rw [if_pos s7] at hx ⊢
    have hx := of_decide_eq_true hx
    have l1 := h5 (by omega)
    obtain ⟨U, hU⟩ : ∃ U, U = ub (ub S 0 0 8) 3 (S 0 2 - 1).toNat (x - 48) := ⟨_, rfl⟩
    have e0 : U 0 0 = 8 := by rw [hU, ub_ne (by omega), ub_eq rfl rfl]
    have e : ∀ a b, a ≠ 3 → ¬ (a = 0 ∧ b = 0) → U a b = S a b := fun a b h h2 => by rw [hU, ub_ne (by omega), ub_ne h2]
    show AU (ub (ub S 0 0 8) 3 (S 0 2 - 1).toNat (x - 48))
    rw [← hU]
    refine ⟨by omega, ?_, ?_, by omega, ?_, by omega, by omega, ?_⟩
    · rw [e 0 1 (by omega) (by omega)]; omega
    · rw [e 0 2 (by omega) (by omega)]; exact h3
    · rw [e 0 2 (by omega) (by omega)]; omega
    · rw [e 0 2 (by omega) (by omega), e 0 1 (by omega) (by omega)]
      intro c hc
      rw [e 1 c (by omega) (by omega), e 2 c (by omega) (by omega)]
      obtain ⟨a1, a2, a3, a4⟩ := h8 c hc
      refine ⟨a1, a2, a3, ?_⟩
      by_cases hcl : c = (S 0 2 - 1).toNat
      · rw [hU, ub_eq rfl hcl]; omega
      · rw [hU, ub_ne (by omega), ub_ne (by omega)]; exact a4
  rw [if_neg s7] at hx ⊢
  have hx := of_decide_eq_true hx
  exact simple 3 (Or.inr ⟨rfl, hx.2⟩)
def au0 : jB := fun _ _ => 0
def aut (f : Nat → Int) : Nat → jB
  | 0 => au0
  | j + 1 => (ac (aut f j) (f j)).2
def okj (f : Nat → Int) (j : Nat) : Prop := ∀ i, i < j → (ac (aut f i) (f i)).1 = true
theorem AU_0 : AU au0 := ⟨by show (0 : Int) ≤ 0 ∧ (0 : Int) ≤ 8; omega, fun h => by have h : (2 : Int) ≤ 0 := h; omega, by show (0 : Int) ≤ 0 ∧ (0 : Int) ≤ 10; omega, fun h => by have h : (3 : Int) ≤ 0 := h; omega, fun h => by have h : (6 : Int) ≤ 0 := h; omega, fun _ => rfl, fun h => by have h : (4 : Int) ≤ 0 := h; omega, fun c hc => by have hc : (c : Int) < 0 := hc; omega⟩
theorem AU_j {f : Nat → Int} : ∀ j, okj f j → AU (aut f j) := by
  intro j
  induction j with
  | zero => intro _; exact AU_0
  | succ j ih => intro h; exact AU_ac (ih (fun i hi => h i (by omega))) (h j (by omega))
def FF (f : Nat → Int) (n : Nat) (v : Int) : Prop := (∃ j, j < n ∧ okj f j ∧ (ac (aut f j) (f j)).1 = false ∧ v = j) ∨ (okj f n ∧ (aut f n 0 0 = 6 ∨ aut f n 0 0 = 8) ∧ v = -9) ∨ (okj f n ∧ ¬ (aut f n 0 0 = 6 ∨ aut f n 0 0 = 8) ∧ v = n)
theorem FF_u {f : Nat → Int} {n : Nat} {v w : Int} (h : FF f n v) (h' : FF f n w) : v = w := by
  have cf : ∀ {p : Bool}, p = true → p = false → False := fun h1 h2 => by rw [h1] at h2; cases h2
  rcases h with ⟨j, h1, h2, h3, h4⟩ | ⟨h1, h2, h3⟩ | ⟨h1, h2, h3⟩ <;> rcases h' with ⟨i, k1, k2, k3, k4⟩ | ⟨k1, k2, k3⟩ | ⟨k1, k2, k3⟩
  · rcases Nat.lt_trichotomy i j with h | h | h
    · exact (cf (h2 i h) k3).elim
    · omega
    · exact (cf (k2 j h) h3).elim
  · exact (cf (k1 j h1) h3).elim
  · exact (cf (k1 j h1) h3).elim
  · exact (cf (h1 i k1) k3).elim
  · omega
  · exact absurd h2 k2
  · exact (cf (h1 i k1) k3).elim
  · exact absurd k2 h2
  · omega
/-- the class's text -/
def TXS (S : jB) (g : jv_S) : Prop := g 10 5 = S 0 0 ∧ g 10 3 = S 0 1 ∧ g 10 4 = S 0 2 ∧ (∀ c : Nat, (c : Int) < S 0 2 → g 11 c = S 1 c ∧ g 12 c = S 2 c ∧ g 13 c = S 3 c) ∧ (4 ≤ S 0 0 → S 0 0 ≤ 5 → g 11 (S 0 2) = S 1 (S 0 2).toNat)
theorem w48 {x : Int} (h : jv_r32 x) : (-2147483648 ≤ x - 48 ∧ jv_w32 (x - 48) = x - 48) ∨ (x - 48 < -2147483648 ∧ jv_w32 (x - 48) = x - 48 + 4294967296) := by
  unfold jv_r32 at h
  by_cases hx : -2147483648 ≤ x - 48
  · exact Or.inl ⟨hx, jv_w32_eq ⟨hx, by omega⟩⟩
  · refine Or.inr ⟨by omega, ?_⟩
    unfold jv_w32
    rw [Int32.toInt_ofInt]
    unfold Int.bmod
    simp only [Int32.size]
    split <;> omega
set_option maxRecDepth 100000 in
theorem sg_Tx_goesOn_0 {A : jA} {n l : Nat} {g : jv_S} {Q : jv_V → jv_L → jv_S → Prop} {v1 v2 : Int} (h :
   (v1 = 0 →
     (v1 = 0 ∨ v1 = 1) ∧ Q (jv_I v1) (LL n l) g) ∧
    (¬ v1 = 0 →
     (v1 = 0 ∨ v1 = 1) ∧ Q (jv_I v1) (LL n l) (jv_up g 10 5 v2))) :
  jv_At jv_T jv_ml kTx_goesOn 0 [jv_P 10, jv_I v1, jv_I v2] [] (LL n l) g Q :=
  jv_of_wp (gok9 (A := A)) (md := []) (stop := []) (tab := jt_Tx_goesOn) rfl 400 _ _ _ _ _ h
set_option maxRecDepth 100000 in
theorem sg_Tx_opensLane_0 {A : jA} {n l : Nat} {g : jv_S} {Q : jv_V → jv_L → jv_S → Prop} {v1 : Int} (h :
   (v1 = (59 : Int) →
     ((10 : Int) ≤ (g 10 4) →
       jv_Ca jv_T jv_ml kTx_goesOn [jv_P 10, jv_I (0 : Int), jv_I (3 : Int)] (LL n l) g (fun r L2 g2 => jv_At jv_T jv_ml kTx_opensLane 25 [jv_P 10, jv_I v1] (jv_pu r []) L2 g2 Q)) ∧
      (¬ (10 : Int) ≤ (g 10 4) →
       jv_Ca jv_T jv_ml kTx_goesOn [jv_P 10, jv_I (1 : Int), jv_I (3 : Int)] (LL n l) g (fun r L2 g2 => jv_At jv_T jv_ml kTx_opensLane 25 [jv_P 10, jv_I v1] (jv_pu r []) L2 g2 Q))) ∧
    (¬ v1 = (59 : Int) →
     jv_Ca jv_T jv_ml kTx_goesOn [jv_P 10, jv_I (0 : Int), jv_I (3 : Int)] (LL n l) g (fun r L2 g2 => jv_At jv_T jv_ml kTx_opensLane 25 [jv_P 10, jv_I v1] (jv_pu r []) L2 g2 Q))) :
  jv_At jv_T jv_ml kTx_opensLane 0 [jv_P 10, jv_I v1] [] (LL n l) g Q :=
  jv_of_wp (gok9 (A := A)) (md := []) (stop := []) (tab := jt_Tx_opensLane) rfl 400 _ _ _ _ _ h
set_option maxRecDepth 100000 in
theorem sg_Tx_opensLane_25 {A : jA} {n l : Nat} {g : jv_S} {Q : jv_V → jv_L → jv_S → Prop} {v1 s0 : Int} (h :
   (s0 = 0 ∨ s0 = 1) ∧ Q (jv_I s0) (LL n l) g) :
  jv_At jv_T jv_ml kTx_opensLane 25 [jv_P 10, jv_I v1] [jv_I s0] (LL n l) g Q :=
  jv_of_wp (gok9 (A := A)) (md := []) (stop := []) (tab := jt_Tx_opensLane) rfl 400 _ _ _ _ _ h
set_option maxRecDepth 100000 in
theorem sg_Tx_takesNodes_0 {A : jA} {n l : Nat} {g : jv_S} {Q : jv_V → jv_L → jv_S → Prop} {v1 : Int} (h :
   (v1 < (2 : Int) →
     jv_Ca jv_T jv_ml kTx_goesOn [jv_P 10, jv_I (0 : Int), jv_I (2 : Int)] (LL n l) (jv_up g 10 3 v1) (fun r L2 g2 => jv_At jv_T jv_ml kTx_takesNodes 26 [jv_P 10, jv_I v1] (jv_pu r []) L2 g2 Q)) ∧
    (¬ v1 < (2 : Int) →
     ((6 : Int) < v1 →
       jv_Ca jv_T jv_ml kTx_goesOn [jv_P 10, jv_I (0 : Int), jv_I (2 : Int)] (LL n l) (jv_up g 10 3 v1) (fun r L2 g2 => jv_At jv_T jv_ml kTx_takesNodes 26 [jv_P 10, jv_I v1] (jv_pu r []) L2 g2 Q)) ∧
      (¬ (6 : Int) < v1 →
       jv_Ca jv_T jv_ml kTx_goesOn [jv_P 10, jv_I (1 : Int), jv_I (2 : Int)] (LL n l) (jv_up g 10 3 v1) (fun r L2 g2 => jv_At jv_T jv_ml kTx_takesNodes 26 [jv_P 10, jv_I v1] (jv_pu r []) L2 g2 Q)))) :
  jv_At jv_T jv_ml kTx_takesNodes 0 [jv_P 10, jv_I v1] [] (LL n l) g Q :=
  jv_of_wp (gok9 (A := A)) (md := []) (stop := []) (tab := jt_Tx_takesNodes) rfl 400 _ _ _ _ _ h
set_option maxRecDepth 100000 in
theorem sg_Tx_takesNodes_26 {A : jA} {n l : Nat} {g : jv_S} {Q : jv_V → jv_L → jv_S → Prop} {v1 s0 : Int} (h :
   (s0 = 0 ∨ s0 = 1) ∧ Q (jv_I s0) (LL n l) g) :
  jv_At jv_T jv_ml kTx_takesNodes 26 [jv_P 10, jv_I v1] [jv_I s0] (LL n l) g Q :=
  jv_of_wp (gok9 (A := A)) (md := []) (stop := []) (tab := jt_Tx_takesNodes) rfl 400 _ _ _ _ _ h
set_option maxRecDepth 100000 in
theorem sg_Tx_takesFrom_0 {A : jA} {n l : Nat} {g : jv_S} {Q : jv_V → jv_L → jv_S → Prop} {v1 : Int} (h :
   (0 ≤ (g 10 4) ∧ (g 10 4) < 10) ∧ 
    (v1 < 0 →
     jv_Ca jv_T jv_ml kTx_goesOn [jv_P 10, jv_I (0 : Int), jv_I (4 : Int)] (LL n l) (jv_up g 11 (g 10 4) v1) (fun r L2 g2 => jv_At jv_T jv_ml kTx_takesFrom 32 [jv_P 10, jv_I v1] (jv_pu r []) L2 g2 Q)) ∧
    (¬ v1 < 0 →
     ((g 10 3) ≤ v1 →
       jv_Ca jv_T jv_ml kTx_goesOn [jv_P 10, jv_I (0 : Int), jv_I (4 : Int)] (LL n l) (jv_up g 11 (g 10 4) v1) (fun r L2 g2 => jv_At jv_T jv_ml kTx_takesFrom 32 [jv_P 10, jv_I v1] (jv_pu r []) L2 g2 Q)) ∧
      (¬ (g 10 3) ≤ v1 →
       jv_Ca jv_T jv_ml kTx_goesOn [jv_P 10, jv_I (1 : Int), jv_I (4 : Int)] (LL n l) (jv_up g 11 (g 10 4) v1) (fun r L2 g2 => jv_At jv_T jv_ml kTx_takesFrom 32 [jv_P 10, jv_I v1] (jv_pu r []) L2 g2 Q)))) :
  jv_At jv_T jv_ml kTx_takesFrom 0 [jv_P 10, jv_I v1] [] (LL n l) g Q :=
  jv_of_wp (gok9 (A := A)) (md := []) (stop := []) (tab := jt_Tx_takesFrom) rfl 400 _ _ _ _ _ h
set_option maxRecDepth 100000 in
theorem sg_Tx_takesFrom_32 {A : jA} {n l : Nat} {g : jv_S} {Q : jv_V → jv_L → jv_S → Prop} {v1 s0 : Int} (h :
   (s0 = 0 ∨ s0 = 1) ∧ Q (jv_I s0) (LL n l) g) :
  jv_At jv_T jv_ml kTx_takesFrom 32 [jv_P 10, jv_I v1] [jv_I s0] (LL n l) g Q :=
  jv_of_wp (gok9 (A := A)) (md := []) (stop := []) (tab := jt_Tx_takesFrom) rfl 400 _ _ _ _ _ h
set_option maxRecDepth 100000 in
theorem sg_Tx_takesTo_0 {A : jA} {n l : Nat} {g : jv_S} {Q : jv_V → jv_L → jv_S → Prop} {v1 : Int} (h :
   (v1 < 0 →
     ((0 : Int) = 0 ∨ (0 : Int) = 1) ∧ Q (jv_I (0 : Int)) (LL n l) g) ∧
    (¬ v1 < 0 →
     ((g 10 3) ≤ v1 →
       ((0 : Int) = 0 ∨ (0 : Int) = 1) ∧ Q (jv_I (0 : Int)) (LL n l) g) ∧
      (¬ (g 10 3) ≤ v1 →
       (0 ≤ (g 10 4) ∧ (g 10 4) < 10) ∧
        (v1 = (g 11 (g 10 4)) →
         ((0 : Int) = 0 ∨ (0 : Int) = 1) ∧ Q (jv_I (0 : Int)) (LL n l) g) ∧
        (¬ v1 = (g 11 (g 10 4)) →
         (0 ≤ (g 10 4) ∧ (g 10 4) < 10) ∧ 
          (0 ≤ (g 10 4) ∧ (g 10 4) < 10) ∧ 
          jv_r32 ((g 10 4) + (1 : Int)) ∧
          jv_Ca jv_T jv_ml kTx_goesOn [jv_P 10, jv_I (1 : Int), jv_I (6 : Int)] (LL n l) (jv_up (jv_up (jv_up g 12 (g 10 4) v1) 13 (g 10 4) (1 : Int)) 10 4 ((g 10 4) + (1 : Int))) (fun r L2 g2 => jv_At jv_T jv_ml kTx_takesTo 64 [jv_P 10, jv_I v1] (jv_pu r []) L2 g2 Q))))) :
  jv_At jv_T jv_ml kTx_takesTo 0 [jv_P 10, jv_I v1] [] (LL n l) g Q :=
  jv_of_wp (gok9 (A := A)) (md := []) (stop := []) (tab := jt_Tx_takesTo) rfl 400 _ _ _ _ _ h
set_option maxRecDepth 100000 in
theorem sg_Tx_takesTo_64 {A : jA} {n l : Nat} {g : jv_S} {Q : jv_V → jv_L → jv_S → Prop} {v1 s0 : Int} (h :
   (s0 = 0 ∨ s0 = 1) ∧ Q (jv_I s0) (LL n l) g) :
  jv_At jv_T jv_ml kTx_takesTo 64 [jv_P 10, jv_I v1] [jv_I s0] (LL n l) g Q :=
  jv_of_wp (gok9 (A := A)) (md := []) (stop := []) (tab := jt_Tx_takesTo) rfl 400 _ _ _ _ _ h
set_option maxRecDepth 100000 in
theorem sg_Tx_takesCells_0 {A : jA} {n l : Nat} {g : jv_S} {Q : jv_V → jv_L → jv_S → Prop} {v1 : Int} (h :
   (v1 < (1 : Int) →
     ((0 : Int) = 0 ∨ (0 : Int) = 1) ∧ Q (jv_I (0 : Int)) (LL n l) g) ∧
    (¬ v1 < (1 : Int) →
     (v1 ≤ (2 : Int) →
       jv_r32 ((g 10 4) - (1 : Int)) ∧
        (0 ≤ ((g 10 4) - (1 : Int)) ∧ ((g 10 4) - (1 : Int)) < 10) ∧ 
        jv_Ca jv_T jv_ml kTx_goesOn [jv_P 10, jv_I (1 : Int), jv_I (8 : Int)] (LL n l) (jv_up g 13 ((g 10 4) - (1 : Int)) v1) (fun r L2 g2 => jv_At jv_T jv_ml kTx_takesCells 31 [jv_P 10, jv_I v1] (jv_pu r []) L2 g2 Q)) ∧
      (¬ v1 ≤ (2 : Int) →
       ((0 : Int) = 0 ∨ (0 : Int) = 1) ∧ Q (jv_I (0 : Int)) (LL n l) g))) :
  jv_At jv_T jv_ml kTx_takesCells 0 [jv_P 10, jv_I v1] [] (LL n l) g Q :=
  jv_of_wp (gok9 (A := A)) (md := []) (stop := []) (tab := jt_Tx_takesCells) rfl 400 _ _ _ _ _ h
set_option maxRecDepth 100000 in
theorem sg_Tx_takesCells_31 {A : jA} {n l : Nat} {g : jv_S} {Q : jv_V → jv_L → jv_S → Prop} {v1 s0 : Int} (h :
   (s0 = 0 ∨ s0 = 1) ∧ Q (jv_I s0) (LL n l) g) :
  jv_At jv_T jv_ml kTx_takesCells 31 [jv_P 10, jv_I v1] [jv_I s0] (LL n l) g Q :=
  jv_of_wp (gok9 (A := A)) (md := []) (stop := []) (tab := jt_Tx_takesCells) rfl 400 _ _ _ _ _ h
set_option maxRecDepth 100000 in
theorem sg_Tx_takes_0 {A : jA} {n l : Nat} {g : jv_S} {Q : jv_V → jv_L → jv_S → Prop} {v1 : Int} (h :
   ((g 10 5) = (0 : Int) →
     (v1 = (110 : Int) →
       jv_Ca jv_T jv_ml kTx_goesOn [jv_P 10, jv_I (1 : Int), jv_I (1 : Int)] (LL n l) g (fun r L2 g2 => jv_At jv_T jv_ml kTx_takes 68 [jv_P 10, jv_I v1] (jv_pu r []) L2 g2 Q)) ∧
      (¬ v1 = (110 : Int) →
       jv_Ca jv_T jv_ml kTx_goesOn [jv_P 10, jv_I (0 : Int), jv_I (1 : Int)] (LL n l) g (fun r L2 g2 => jv_At jv_T jv_ml kTx_takes 68 [jv_P 10, jv_I v1] (jv_pu r []) L2 g2 Q))) ∧
    (¬ (g 10 5) = (0 : Int) →
     ((g 10 5) = (1 : Int) →
       jv_Ca jv_T jv_ml kTx_takesNodes [jv_P 10, jv_I (jv_w32 (v1 - (48 : Int)))] (LL n l) g (fun r L2 g2 => jv_At jv_T jv_ml kTx_takes 77 [jv_P 10, jv_I v1] (jv_pu r []) L2 g2 Q)) ∧
      (¬ (g 10 5) = (1 : Int) →
       ((g 10 5) = (2 : Int) →
         jv_Ca jv_T jv_ml kTx_opensLane [jv_P 10, jv_I v1] (LL n l) g (fun r L2 g2 => jv_At jv_T jv_ml kTx_takes 149 [jv_P 10, jv_I v1] (jv_pu r []) L2 g2 Q)) ∧
        (¬ (g 10 5) = (2 : Int) →
         ((g 10 5) = (3 : Int) →
           jv_Ca jv_T jv_ml kTx_takesFrom [jv_P 10, jv_I (jv_w32 (v1 - (48 : Int)))] (LL n l) g (fun r L2 g2 => jv_At jv_T jv_ml kTx_takes 86 [jv_P 10, jv_I v1] (jv_pu r []) L2 g2 Q)) ∧
          (¬ (g 10 5) = (3 : Int) →
           ((g 10 5) = (4 : Int) →
             (v1 = (62 : Int) →
               jv_Ca jv_T jv_ml kTx_goesOn [jv_P 10, jv_I (1 : Int), jv_I (5 : Int)] (LL n l) g (fun r L2 g2 => jv_At jv_T jv_ml kTx_takes 103 [jv_P 10, jv_I v1] (jv_pu r []) L2 g2 Q)) ∧
              (¬ v1 = (62 : Int) →
               jv_Ca jv_T jv_ml kTx_goesOn [jv_P 10, jv_I (0 : Int), jv_I (5 : Int)] (LL n l) g (fun r L2 g2 => jv_At jv_T jv_ml kTx_takes 103 [jv_P 10, jv_I v1] (jv_pu r []) L2 g2 Q))) ∧
            (¬ (g 10 5) = (4 : Int) →
             ((g 10 5) = (5 : Int) →
               jv_Ca jv_T jv_ml kTx_takesTo [jv_P 10, jv_I (jv_w32 (v1 - (48 : Int)))] (LL n l) g (fun r L2 g2 => jv_At jv_T jv_ml kTx_takes 112 [jv_P 10, jv_I v1] (jv_pu r []) L2 g2 Q)) ∧
              (¬ (g 10 5) = (5 : Int) →
               ((g 10 5) = (6 : Int) →
                 (v1 = (42 : Int) →
                   jv_Ca jv_T jv_ml kTx_goesOn [jv_P 10, jv_I (1 : Int), jv_I (7 : Int)] (LL n l) g (fun r L2 g2 => jv_At jv_T jv_ml kTx_takes 126 [jv_P 10, jv_I v1] (jv_pu r []) L2 g2 Q)) ∧
                  (¬ v1 = (42 : Int) →
                   jv_Ca jv_T jv_ml kTx_opensLane [jv_P 10, jv_I v1] (LL n l) g (fun r L2 g2 => jv_At jv_T jv_ml kTx_takes 134 [jv_P 10, jv_I v1] (jv_pu r []) L2 g2 Q))) ∧
                (¬ (g 10 5) = (6 : Int) →
                 ((g 10 5) = (7 : Int) →
                   jv_Ca jv_T jv_ml kTx_takesCells [jv_P 10, jv_I (jv_w32 (v1 - (48 : Int)))] (LL n l) g (fun r L2 g2 => jv_At jv_T jv_ml kTx_takes 143 [jv_P 10, jv_I v1] (jv_pu r []) L2 g2 Q)) ∧
                  (¬ (g 10 5) = (7 : Int) →
                   jv_Ca jv_T jv_ml kTx_opensLane [jv_P 10, jv_I v1] (LL n l) g (fun r L2 g2 => jv_At jv_T jv_ml kTx_takes 149 [jv_P 10, jv_I v1] (jv_pu r []) L2 g2 Q)))))))))) :
  jv_At jv_T jv_ml kTx_takes 0 [jv_P 10, jv_I v1] [] (LL n l) g Q :=
  jv_of_wp (gok9 (A := A)) (md := [73, 82, 108, 139]) (stop := []) (tab := jt_Tx_takes) rfl 400 _ _ _ _ _ h
set_option maxRecDepth 100000 in
theorem sg_Tx_takes_68 {A : jA} {n l : Nat} {g : jv_S} {Q : jv_V → jv_L → jv_S → Prop} {v1 s0 : Int} (h :
   (s0 = 0 ∨ s0 = 1) ∧ Q (jv_I s0) (LL n l) g) :
  jv_At jv_T jv_ml kTx_takes 68 [jv_P 10, jv_I v1] [jv_I s0] (LL n l) g Q :=
  jv_of_wp (gok9 (A := A)) (md := [73, 82, 108, 139]) (stop := []) (tab := jt_Tx_takes) rfl 400 _ _ _ _ _ h
set_option maxRecDepth 100000 in
theorem sg_Tx_takes_77 {A : jA} {n l : Nat} {g : jv_S} {Q : jv_V → jv_L → jv_S → Prop} {v1 s0 : Int} (h :
   (s0 = 0 ∨ s0 = 1) ∧ Q (jv_I s0) (LL n l) g) :
  jv_At jv_T jv_ml kTx_takes 77 [jv_P 10, jv_I v1] [jv_I s0] (LL n l) g Q :=
  jv_of_wp (gok9 (A := A)) (md := [73, 82, 108, 139]) (stop := []) (tab := jt_Tx_takes) rfl 400 _ _ _ _ _ h
set_option maxRecDepth 100000 in
theorem sg_Tx_takes_86 {A : jA} {n l : Nat} {g : jv_S} {Q : jv_V → jv_L → jv_S → Prop} {v1 s0 : Int} (h :
   (s0 = 0 ∨ s0 = 1) ∧ Q (jv_I s0) (LL n l) g) :
  jv_At jv_T jv_ml kTx_takes 86 [jv_P 10, jv_I v1] [jv_I s0] (LL n l) g Q :=
  jv_of_wp (gok9 (A := A)) (md := [73, 82, 108, 139]) (stop := []) (tab := jt_Tx_takes) rfl 400 _ _ _ _ _ h
set_option maxRecDepth 100000 in
theorem sg_Tx_takes_103 {A : jA} {n l : Nat} {g : jv_S} {Q : jv_V → jv_L → jv_S → Prop} {v1 s0 : Int} (h :
   (s0 = 0 ∨ s0 = 1) ∧ Q (jv_I s0) (LL n l) g) :
  jv_At jv_T jv_ml kTx_takes 103 [jv_P 10, jv_I v1] [jv_I s0] (LL n l) g Q :=
  jv_of_wp (gok9 (A := A)) (md := [73, 82, 108, 139]) (stop := []) (tab := jt_Tx_takes) rfl 400 _ _ _ _ _ h
set_option maxRecDepth 100000 in
theorem sg_Tx_takes_112 {A : jA} {n l : Nat} {g : jv_S} {Q : jv_V → jv_L → jv_S → Prop} {v1 s0 : Int} (h :
   (s0 = 0 ∨ s0 = 1) ∧ Q (jv_I s0) (LL n l) g) :
  jv_At jv_T jv_ml kTx_takes 112 [jv_P 10, jv_I v1] [jv_I s0] (LL n l) g Q :=
  jv_of_wp (gok9 (A := A)) (md := [73, 82, 108, 139]) (stop := []) (tab := jt_Tx_takes) rfl 400 _ _ _ _ _ h
set_option maxRecDepth 100000 in
theorem sg_Tx_takes_126 {A : jA} {n l : Nat} {g : jv_S} {Q : jv_V → jv_L → jv_S → Prop} {v1 s0 : Int} (h :
   (s0 = 0 ∨ s0 = 1) ∧ Q (jv_I s0) (LL n l) g) :
  jv_At jv_T jv_ml kTx_takes 126 [jv_P 10, jv_I v1] [jv_I s0] (LL n l) g Q :=
  jv_of_wp (gok9 (A := A)) (md := [73, 82, 108, 139]) (stop := []) (tab := jt_Tx_takes) rfl 400 _ _ _ _ _ h
set_option maxRecDepth 100000 in
theorem sg_Tx_takes_134 {A : jA} {n l : Nat} {g : jv_S} {Q : jv_V → jv_L → jv_S → Prop} {v1 s0 : Int} (h :
   (s0 = 0 ∨ s0 = 1) ∧ Q (jv_I s0) (LL n l) g) :
  jv_At jv_T jv_ml kTx_takes 134 [jv_P 10, jv_I v1] [jv_I s0] (LL n l) g Q :=
  jv_of_wp (gok9 (A := A)) (md := [73, 82, 108, 139]) (stop := []) (tab := jt_Tx_takes) rfl 400 _ _ _ _ _ h
set_option maxRecDepth 100000 in
theorem sg_Tx_takes_143 {A : jA} {n l : Nat} {g : jv_S} {Q : jv_V → jv_L → jv_S → Prop} {v1 s0 : Int} (h :
   (s0 = 0 ∨ s0 = 1) ∧ Q (jv_I s0) (LL n l) g) :
  jv_At jv_T jv_ml kTx_takes 143 [jv_P 10, jv_I v1] [jv_I s0] (LL n l) g Q :=
  jv_of_wp (gok9 (A := A)) (md := [73, 82, 108, 139]) (stop := []) (tab := jt_Tx_takes) rfl 400 _ _ _ _ _ h
set_option maxRecDepth 100000 in
theorem sg_Tx_takes_149 {A : jA} {n l : Nat} {g : jv_S} {Q : jv_V → jv_L → jv_S → Prop} {v1 s0 : Int} (h :
   (s0 = 0 ∨ s0 = 1) ∧ Q (jv_I s0) (LL n l) g) :
  jv_At jv_T jv_ml kTx_takes 149 [jv_P 10, jv_I v1] [jv_I s0] (LL n l) g Q :=
  jv_of_wp (gok9 (A := A)) (md := [73, 82, 108, 139]) (stop := []) (tab := jt_Tx_takes) rfl 400 _ _ _ _ _ h
theorem tr_Tx_takes {A : jA} {n l : Nat} {g : jv_S} {Q : jv_V → jv_L → jv_S → Prop} {S : jB} {x : Int} (hS : AU S) (hT : TXS S g) (hx : jv_r32 x)
  (hQ : ∀ g' : jv_S, ((ac S x).1 = true → TXS (ac S x).2 g') → (∀ (p : Nat) (i : Int), ¬ (10 ≤ p ∧ p ≤ 13) → g' p i = g p i) → Q (jv_I (jb_b (ac S x).1)) (LL n l) g') :
  jv_Ca jv_T jv_ml kTx_takes [jv_P 10, jv_I x] (LL n l) g Q := by
  obtain ⟨a1, a2, a3, a4, a5, a6, a7, a8⟩ := id hS
  obtain ⟨t1, t2, t3, t4, t5⟩ := id hT
  have hw := w48 hx
  unfold jv_r32 at hx
  -- a step alone
  have stepT : ∀ v : Int, ¬ (4 ≤ v ∧ v ≤ 5) ∨ (4 ≤ S 0 0 ∧ S 0 0 ≤ 5) → TXS (ub S 0 0 v) (jv_up g 10 5 v) := by
    intro v hv
    refine ⟨by rw [up_eq rfl rfl, ub_eq rfl rfl], by rw [up_ne (by omega), ub_ne (by omega)]; exact t2, by rw [up_ne (by omega), ub_ne (by omega)]; exact t3, fun c hc => ?_, fun h1 h2 => ?_⟩
    · rw [ub_ne (by omega)] at hc
      rw [up_ne (by omega), up_ne (by omega), up_ne (by omega), ub_ne (by omega), ub_ne (by omega), ub_ne (by omega)]
      exact t4 c hc
    · rw [ub_eq rfl rfl] at h1 h2
      rw [up_ne (by omega), ub_ne (by omega), ub_ne (by omega)]
      exact t5 (by omega) (by omega)
  unfold ac at hQ
  apply sg_Tx_takes_0 (A := A)
  rw [t1]
  have lane : ¬ (S 0 0 = 0) → ¬ (S 0 0 = 1) → ¬ (S 0 0 = 3) → ¬ (S 0 0 = 4) → ¬ (S 0 0 = 5) → ¬ (S 0 0 = 6 ∧ x = 42) → ¬ (S 0 0 = 7) → ∀ k : Nat, k = 134 ∨ k = 149 → jv_Ca jv_T jv_ml kTx_opensLane [jv_P 10, jv_I x] (LL n l) g (fun r L2 g2 => jv_At jv_T jv_ml kTx_takes k [jv_P 10, jv_I x] (jv_pu r []) L2 g2 Q) := by
    intro s0 s1 s3 s4 s5 s6 s7 k hk
    rw [if_neg s0, if_neg s1, if_neg s3, if_neg s4, if_neg s5, if_neg s6, if_neg s7] at hQ
    have fin : ∀ (g' : jv_S) (v : Int), v = 0 ∨ v = 1 → Q (jv_I v) (LL n l) g' → jv_At jv_T jv_ml kTx_takes k [jv_P 10, jv_I x] [jv_I v] (LL n l) g' Q := by
      intro g' v hv hq
      rcases hk with rfl | rfl
      · exact sg_Tx_takes_134 (A := A) ⟨hv, hq⟩
      · exact sg_Tx_takes_149 (A := A) ⟨hv, hq⟩
    apply sg_Tx_opensLane_0 (A := A)
    rw [t3]
    refine ⟨fun h => ⟨fun h2 => ?_, fun h2 => ?_⟩, fun h => ?_⟩
    · rw [decide_eq_false (fun h3 => by omega)] at hQ
      apply sg_Tx_goesOn_0 (A := A)
      refine ⟨fun _ => ⟨Or.inl rfl, sg_Tx_opensLane_25 (A := A) ⟨Or.inl rfl, fin g 0 (Or.inl rfl) (hQ g (fun h => by cases h) (fun _ _ _ => rfl))⟩⟩, fun h => absurd rfl h⟩
    · rw [decide_eq_true (show x = 59 ∧ S 0 2 < 10 by omega)] at hQ
      apply sg_Tx_goesOn_0 (A := A)
      refine ⟨fun h => by omega, fun _ => ⟨Or.inr rfl, sg_Tx_opensLane_25 (A := A) ⟨Or.inr rfl, fin _ 1 (Or.inr rfl) (hQ _ (fun _ => stepT 3 (Or.inl (by omega))) (fun p i hp => up_ne (by omega)))⟩⟩⟩
    · rw [decide_eq_false (fun h3 => by omega)] at hQ
      apply sg_Tx_goesOn_0 (A := A)
      refine ⟨fun _ => ⟨Or.inl rfl, sg_Tx_opensLane_25 (A := A) ⟨Or.inl rfl, fin g 0 (Or.inl rfl) (hQ g (fun h => by cases h) (fun _ _ _ => rfl))⟩⟩, fun h => absurd rfl h⟩
  refine ⟨fun s0 => ?_, fun s0 => ⟨fun s1 => ?_, fun s1 => ⟨fun s2 => lane s0 s1 (by omega) (by omega) (by omega) (by omega) (by omega) 149 (Or.inr rfl), fun s2 => ⟨fun s3 => ?_, fun s3 => ⟨fun s4 => ?_, fun s4 => ⟨fun s5 => ?_, fun s5 => ⟨fun s6 => ⟨fun h42 => ?_, fun h42 => lane s0 s1 s3 s4 s5 (fun h => h42 h.2) (by omega) 134 (Or.inl rfl)⟩, fun s6 => ⟨fun s7 => ?_, fun s7 => lane s0 s1 s3 s4 s5 (fun h => s6 h.1) s7 149 (Or.inr rfl)⟩⟩⟩⟩⟩⟩⟩⟩
  · rw [if_pos s0] at hQ
    refine ⟨fun h => ?_, fun h => ?_⟩
    · rw [decide_eq_true h] at hQ
      apply sg_Tx_goesOn_0 (A := A)
      exact ⟨fun h => by omega, fun _ => ⟨Or.inr rfl, sg_Tx_takes_68 (A := A) ⟨Or.inr rfl, hQ _ (fun _ => stepT 1 (Or.inl (by omega))) (fun p i hp => up_ne (by omega))⟩⟩⟩
    · rw [decide_eq_false h] at hQ
      apply sg_Tx_goesOn_0 (A := A)
      exact ⟨fun _ => ⟨Or.inl rfl, sg_Tx_takes_68 (A := A) ⟨Or.inl rfl, hQ g (fun h => by cases h) (fun _ _ _ => rfl)⟩⟩, fun h => absurd rfl h⟩
  · rw [if_neg s0, if_pos s1] at hQ
    apply sg_Tx_takesNodes_0 (A := A)
    have bad : ¬ (50 ≤ x ∧ x ≤ 54) → jv_Ca jv_T jv_ml kTx_goesOn [jv_P 10, jv_I 0, jv_I 2] (LL n l) (jv_up g 10 3 (jv_w32 (x - 48))) (fun r L2 g2 => jv_At jv_T jv_ml kTx_takesNodes 26 [jv_P 10, jv_I (jv_w32 (x - 48))] (jv_pu r []) L2 g2 (fun r L2 g2 => jv_At jv_T jv_ml kTx_takes 77 [jv_P 10, jv_I x] (jv_pu r []) L2 g2 Q)) := by
      intro hb
      rw [decide_eq_false hb] at hQ
      apply sg_Tx_goesOn_0 (A := A)
      exact ⟨fun _ => ⟨Or.inl rfl, sg_Tx_takesNodes_26 (A := A) ⟨Or.inl rfl, sg_Tx_takes_77 (A := A) ⟨Or.inl rfl, hQ _ (fun h => by cases h) (fun p i hp => up_ne (by omega))⟩⟩⟩, fun h => absurd rfl h⟩
    refine ⟨fun h => bad (by omega), fun h => ⟨fun h2 => bad (by omega), fun h2 => ?_⟩⟩
    have he : jv_w32 (x - 48) = x - 48 := by omega
    rw [he]
    rw [decide_eq_true (show 50 ≤ x ∧ x ≤ 54 by omega)] at hQ
    have hl := a6 (by omega)
    apply sg_Tx_goesOn_0 (A := A)
    refine ⟨fun h => by omega, fun _ => ⟨Or.inr rfl, sg_Tx_takesNodes_26 (A := A) ⟨Or.inr rfl, sg_Tx_takes_77 (A := A) ⟨Or.inr rfl, hQ _ (fun _ => ⟨?_, ?_, ?_, fun c hc => ?_, fun h3 => ?_⟩) (fun p i hp => by rw [up_ne (by omega), up_ne (by omega)])⟩⟩⟩⟩
    · rw [up_eq rfl rfl]
      show _ = ub (ub S 0 0 2) 0 1 (x - 48) 0 0
      rw [ub_ne (by omega), ub_eq rfl rfl]
    · rw [up_ne (by omega), up_eq rfl rfl]
      show _ = ub (ub S 0 0 2) 0 1 (x - 48) 0 1
      rw [ub_eq rfl rfl]
    · rw [up_ne (by omega), up_ne (by omega)]
      show _ = ub (ub S 0 0 2) 0 1 (x - 48) 0 2
      rw [ub_ne (by omega), ub_ne (by omega)]
      exact t3
    · have hc : (c : Int) < ub (ub S 0 0 2) 0 1 (x - 48) 0 2 := hc
      rw [ub_ne (by omega), ub_ne (by omega)] at hc
      omega
    · have h3 : 4 ≤ ub (ub S 0 0 2) 0 1 (x - 48) 0 0 := h3
      rw [ub_ne (by omega), ub_eq rfl rfl] at h3
      omega
  · rw [if_neg s0, if_neg s1, if_pos s3] at hQ
    have n26 := a2 (by omega)
    have l10 := a4 (by omega) (by omega)
    apply sg_Tx_takesFrom_0 (A := A)
    rw [t3, t2]
    have bad : ¬ (48 ≤ x ∧ x - 48 < S 0 1) → jv_Ca jv_T jv_ml kTx_goesOn [jv_P 10, jv_I 0, jv_I 4] (LL n l) (jv_up g 11 (S 0 2) (jv_w32 (x - 48))) (fun r L2 g2 => jv_At jv_T jv_ml kTx_takesFrom 32 [jv_P 10, jv_I (jv_w32 (x - 48))] (jv_pu r []) L2 g2 (fun r L2 g2 => jv_At jv_T jv_ml kTx_takes 86 [jv_P 10, jv_I x] (jv_pu r []) L2 g2 Q)) := by
      intro hb
      rw [decide_eq_false hb] at hQ
      apply sg_Tx_goesOn_0 (A := A)
      exact ⟨fun _ => ⟨Or.inl rfl, sg_Tx_takesFrom_32 (A := A) ⟨Or.inl rfl, sg_Tx_takes_86 (A := A) ⟨Or.inl rfl, hQ _ (fun h => by cases h) (fun p i hp => up_ne (by omega))⟩⟩⟩, fun h => absurd rfl h⟩
    refine ⟨⟨by omega, by omega⟩, fun h => bad (by omega), fun h => ⟨fun h2 => bad (by omega), fun h2 => ?_⟩⟩
    have he : jv_w32 (x - 48) = x - 48 := by omega
    rw [he]
    rw [decide_eq_true (show 48 ≤ x ∧ x - 48 < S 0 1 by omega)] at hQ
    apply sg_Tx_goesOn_0 (A := A)
    refine ⟨fun h => by omega, fun _ => ⟨Or.inr rfl, sg_Tx_takesFrom_32 (A := A) ⟨Or.inr rfl, sg_Tx_takes_86 (A := A) ⟨Or.inr rfl, hQ _ (fun _ => ?_) (fun p i hp => by rw [up_ne (by omega), up_ne (by omega)])⟩⟩⟩⟩
    show TXS (ub (ub S 0 0 4) 1 (S 0 2).toNat (x - 48)) _
    refine ⟨?_, ?_, ?_, fun c hc => ?_, fun _ _ => ?_⟩
    · rw [up_eq rfl rfl, ub_ne (by omega), ub_eq rfl rfl]
    · rw [up_ne (by omega), up_ne (by omega), ub_ne (by omega), ub_ne (by omega)]; exact t2
    · rw [up_ne (by omega), up_ne (by omega), ub_ne (by omega), ub_ne (by omega)]; exact t3
    · rw [ub_ne (by omega), ub_ne (by omega)] at hc
      rw [up_ne (by omega), up_ne (by omega), up_ne (by omega), up_ne (by omega), up_ne (by omega), up_ne (by omega), ub_ne (by omega), ub_ne (by omega), ub_ne (by omega), ub_ne (by omega), ub_ne (by omega), ub_ne (by omega)]
      exact t4 c hc
    · have e2 : ub (ub S 0 0 4) 1 (S 0 2).toNat (x - 48) 0 2 = S 0 2 := by rw [ub_ne (by omega), ub_ne (by omega)]
      rw [e2, up_ne (by omega), up_eq rfl rfl, ub_eq rfl rfl]
  · rw [if_neg s0, if_neg s1, if_neg s3, if_pos s4] at hQ
    refine ⟨fun h => ?_, fun h => ?_⟩
    · rw [decide_eq_true h] at hQ
      apply sg_Tx_goesOn_0 (A := A)
      exact ⟨fun h => by omega, fun _ => ⟨Or.inr rfl, sg_Tx_takes_103 (A := A) ⟨Or.inr rfl, hQ _ (fun _ => stepT 5 (Or.inr (by omega))) (fun p i hp => up_ne (by omega))⟩⟩⟩
    · rw [decide_eq_false h] at hQ
      apply sg_Tx_goesOn_0 (A := A)
      exact ⟨fun _ => ⟨Or.inl rfl, sg_Tx_takes_103 (A := A) ⟨Or.inl rfl, hQ g (fun h => by cases h) (fun _ _ _ => rfl)⟩⟩, fun h => absurd rfl h⟩
  · rw [if_neg s0, if_neg s1, if_neg s3, if_neg s4, if_pos s5] at hQ
    have n26 := a2 (by omega)
    have l10 := a4 (by omega) (by omega)
    have f11 := t5 (by omega) (by omega)
    apply sg_Tx_takesTo_0 (A := A)
    rw [t3, t2, f11]
    have bad : ¬ (48 ≤ x ∧ x - 48 < S 0 1 ∧ x - 48 ≠ S 1 (S 0 2).toNat) → jv_At jv_T jv_ml kTx_takes 112 [jv_P 10, jv_I x] [jv_I 0] (LL n l) g Q := by
      intro hb
      rw [decide_eq_false hb] at hQ
      exact sg_Tx_takes_112 (A := A) ⟨Or.inl rfl, hQ _ (fun h => by cases h) (fun _ _ _ => rfl)⟩
    refine ⟨fun h => ⟨Or.inl rfl, bad (by omega)⟩, fun h => ⟨fun h2 => ⟨Or.inl rfl, bad (by omega)⟩, fun h2 => ⟨⟨by omega, by omega⟩, fun h3 => ⟨Or.inl rfl, bad (by omega)⟩, fun h3 => ⟨⟨by omega, by omega⟩, ⟨by omega, by omega⟩, ⟨by omega, by omega⟩, ?_⟩⟩⟩⟩
    have he : jv_w32 (x - 48) = x - 48 := by omega
    rw [he] at h3 ⊢
    rw [decide_eq_true (show 48 ≤ x ∧ x - 48 < S 0 1 ∧ x - 48 ≠ S 1 (S 0 2).toNat by omega)] at hQ
    apply sg_Tx_goesOn_0 (A := A)
    refine ⟨fun h => by omega, fun _ => ⟨Or.inr rfl, sg_Tx_takesTo_64 (A := A) ⟨Or.inr rfl, sg_Tx_takes_112 (A := A) ⟨Or.inr rfl, hQ _ (fun _ => ?_) (fun p i hp => by rw [up_ne (by omega), up_ne (by omega), up_ne (by omega), up_ne (by omega)])⟩⟩⟩⟩
    show TXS (ub (ub (ub (ub S 0 0 6) 0 2 (S 0 2 + 1)) 2 (S 0 2).toNat (x - 48)) 3 (S 0 2).toNat 1) _
    obtain ⟨U, hU⟩ : ∃ U, U = ub (ub (ub (ub S 0 0 6) 0 2 (S 0 2 + 1)) 2 (S 0 2).toNat (x - 48)) 3 (S 0 2).toNat 1 := ⟨_, rfl⟩
    have e0 : U 0 0 = 6 := by rw [hU, ub_ne (by omega), ub_ne (by omega), ub_ne (by omega), ub_eq rfl rfl]
    have e1 : U 0 1 = S 0 1 := by rw [hU, ub_ne (by omega), ub_ne (by omega), ub_ne (by omega), ub_ne (by omega)]
    have e2 : U 0 2 = S 0 2 + 1 := by rw [hU, ub_ne (by omega), ub_ne (by omega), ub_eq rfl rfl]
    have u1 : ∀ c, U 1 c = S 1 c := fun c => by rw [hU, ub_ne (by omega), ub_ne (by omega), ub_ne (by omega), ub_ne (by omega)]
    rw [← hU]
    refine ⟨by rw [up_eq rfl rfl, e0], by rw [up_ne (by omega), up_ne (by omega), up_ne (by omega), up_ne (by omega), e1]; exact t2, by rw [up_ne (by omega), up_eq rfl rfl, e2], fun c hc => ?_, fun h4 => by omega⟩
    rw [e2] at hc
    rw [u1]
    by_cases hcl : c = (S 0 2).toNat
    · have hcl' : S 0 2 = (c : Int) := by omega
      subst hcl
      refine ⟨?_, ?_, ?_⟩
      · rw [up_ne (by omega), up_ne (by omega), up_ne (by omega), up_ne (by omega), ← hcl']; exact f11
      · rw [up_ne (by omega), up_ne (by omega), up_ne (by omega), up_eq rfl hcl'.symm, hU, ub_ne (by omega), ub_eq rfl rfl]
      · rw [up_ne (by omega), up_ne (by omega), up_eq rfl hcl'.symm, hU, ub_eq rfl rfl]
    · rw [up_ne (by omega), up_ne (by omega), up_ne (by omega), up_ne (by omega), up_ne (by omega), up_ne (by omega), up_ne (by omega), up_ne (by omega), up_ne (by omega), up_ne (by omega), up_ne (by omega), up_ne (by omega), hU, ub_ne (by omega), ub_ne (by omega), ub_ne (by omega), ub_ne (by omega), ub_ne (by omega), ub_ne (by omega), ub_ne (by omega), ub_ne (by omega)]
      exact t4 c (by omega)
  · rw [if_neg s0, if_neg s1, if_neg s3, if_neg s4, if_neg s5, if_pos ⟨s6, h42⟩] at hQ
    apply sg_Tx_goesOn_0 (A := A)
    exact ⟨fun h => by omega, fun _ => ⟨Or.inr rfl, sg_Tx_takes_126 (A := A) ⟨Or.inr rfl, hQ _ (fun _ => stepT 7 (Or.inl (by omega))) (fun p i hp => up_ne (by omega))⟩⟩⟩
  · rw [if_neg s0, if_neg s1, if_neg s3, if_neg s4, if_neg s5, if_neg (fun h => s6 h.1), if_pos s7] at hQ
    have l1 := a5 (by omega)
    apply sg_Tx_takesCells_0 (A := A)
    rw [t3]
    have bad : ¬ (49 ≤ x ∧ x ≤ 50) → jv_At jv_T jv_ml kTx_takes 143 [jv_P 10, jv_I x] [jv_I 0] (LL n l) g Q := by
      intro hb
      rw [decide_eq_false hb] at hQ
      exact sg_Tx_takes_143 (A := A) ⟨Or.inl rfl, hQ _ (fun h => by cases h) (fun _ _ _ => rfl)⟩
    refine ⟨fun h => ⟨Or.inl rfl, bad (by omega)⟩, fun h => ⟨fun h2 => ⟨⟨by omega, by omega⟩, ⟨by omega, by omega⟩, ?_⟩, fun h2 => ⟨Or.inl rfl, bad (by omega)⟩⟩⟩
    have he : jv_w32 (x - 48) = x - 48 := by omega
    rw [he]
    rw [decide_eq_true (show 49 ≤ x ∧ x ≤ 50 by omega)] at hQ
    apply sg_Tx_goesOn_0 (A := A)
    refine ⟨fun h => by omega, fun _ => ⟨Or.inr rfl, sg_Tx_takesCells_31 (A := A) ⟨Or.inr rfl, sg_Tx_takes_143 (A := A) ⟨Or.inr rfl, hQ _ (fun _ => ?_) (fun p i hp => by rw [up_ne (by omega), up_ne (by omega)])⟩⟩⟩⟩
    show TXS (ub (ub S 0 0 8) 3 (S 0 2 - 1).toNat (x - 48)) _
    obtain ⟨U, hU⟩ : ∃ U, U = ub (ub S 0 0 8) 3 (S 0 2 - 1).toNat (x - 48) := ⟨_, rfl⟩
    have e0 : U 0 0 = 8 := by rw [hU, ub_ne (by omega), ub_eq rfl rfl]
    have e : ∀ a b, a ≠ 3 → ¬ (a = 0 ∧ b = 0) → U a b = S a b := fun a b h h2 => by rw [hU, ub_ne (by omega), ub_ne h2]
    rw [← hU]
    refine ⟨by rw [up_eq rfl rfl, e0], by rw [up_ne (by omega), up_ne (by omega), e 0 1 (by omega) (by omega)]; exact t2, by rw [up_ne (by omega), up_ne (by omega), e 0 2 (by omega) (by omega)]; exact t3, fun c hc => ?_, fun h4 => by omega⟩
    rw [e 0 2 (by omega) (by omega)] at hc
    obtain ⟨b1, b2, b3⟩ := t4 c hc
    rw [e 1 c (by omega) (by omega), e 2 c (by omega) (by omega), up_ne (by omega), up_ne (by omega), up_ne (by omega), up_ne (by omega), up_ne (by omega)]
    refine ⟨b1, b2, ?_⟩
    by_cases hcl : c = (S 0 2 - 1).toNat
    · rw [up_eq rfl (by omega), hU, ub_eq rfl hcl]
    · rw [up_ne (by omega), hU, ub_ne (by omega), ub_ne (by omega)]; exact b3
set_option maxRecDepth 100000 in
theorem sg_Tx_firstFault_0 {A : jA} {n l : Nat} {g : jv_S} {Q : jv_V → jv_L → jv_S → Prop} {v1 v2 v3 : Int} (h :
   jv_At jv_T jv_ml kTx_firstFault 18 [jv_P 10, jv_R 3 v1, jv_I v2, jv_I v3, jv_I (0 : Int)] [] (LL n l) (jv_up (jv_up (jv_up g 10 5 (0 : Int)) 10 3 (0 : Int)) 10 4 (0 : Int)) Q) :
  jv_At jv_T jv_ml kTx_firstFault 0 [jv_P 10, jv_R 3 v1, jv_I v2, jv_I v3, jv_U] [] (LL n l) g Q :=
  jv_of_wp (gok9 (A := A)) (md := []) (stop := [18]) (tab := jt_Tx_firstFault) rfl 400 _ _ _ _ _ h
set_option maxRecDepth 100000 in
theorem sg_Tx_firstFault_18 {A : jA} {n l : Nat} {g : jv_S} {Q : jv_V → jv_L → jv_S → Prop} {v1 v2 v3 v4 : Int} (h :
   (v3 ≤ v4 →
     ((g 10 5) = (6 : Int) →
       Q (jv_I (-9 : Int)) (LL n l) g) ∧
      (¬ (g 10 5) = (6 : Int) →
       ((g 10 5) = (8 : Int) →
         Q (jv_I (-9 : Int)) (LL n l) g) ∧
        (¬ (g 10 5) = (8 : Int) →
         Q (jv_I v3) (LL n l) g))) ∧
    (¬ v3 ≤ v4 →
     jv_r32 (v2 + v4) ∧
      (0 ≤ (v2 + v4) ∧ (v2 + v4) < 60) ∧
      jv_Ca jv_T jv_ml kTx_takes [jv_P 10, jv_I (g 3 (v1 * 60 + (v2 + v4)))] (LL n l) g (fun r L2 g2 => jv_At jv_T jv_ml kTx_firstFault 34 [jv_P 10, jv_R 3 v1, jv_I v2, jv_I v3, jv_I v4] (jv_pu r []) L2 g2 Q))) :
  jv_At jv_T jv_ml kTx_firstFault 18 [jv_P 10, jv_R 3 v1, jv_I v2, jv_I v3, jv_I v4] [] (LL n l) g Q :=
  jv_of_wp (gok9 (A := A)) (md := []) (stop := [18]) (tab := jt_Tx_firstFault) rfl 400 _ _ _ _ _ h
set_option maxRecDepth 100000 in
theorem sg_Tx_firstFault_34 {A : jA} {n l : Nat} {g : jv_S} {Q : jv_V → jv_L → jv_S → Prop} {v1 v2 v3 v4 s0 : Int} (h :
   (s0 = 0 →
     Q (jv_I v4) (LL n l) g) ∧
    (¬ s0 = 0 →
     jv_r32 (v4 + (1 : Int)) ∧
      jv_At jv_T jv_ml kTx_firstFault 18 [jv_P 10, jv_R 3 v1, jv_I v2, jv_I v3, jv_I (v4 + (1 : Int))] [] (LL n l) g Q)) :
  jv_At jv_T jv_ml kTx_firstFault 34 [jv_P 10, jv_R 3 v1, jv_I v2, jv_I v3, jv_I v4] [jv_I s0] (LL n l) g Q :=
  jv_of_wp (gok9 (A := A)) (md := []) (stop := [18]) (tab := jt_Tx_firstFault) rfl 400 _ _ _ _ _ h
theorem tr_Tx_firstFault {A : jA} {n l : Nat} {g : jv_S} {Q : jv_V → jv_L → jv_S → Prop} {k i m : Nat} {f : Nat → Int} (him : i + m ≤ 60) (hf : ∀ j : Nat, j < m → g 3 ((k : Int) * 60 + ((i : Int) + j)) = f j) (hr : ∀ j : Nat, j < m → jv_r32 (f j))
  (hQ : ∀ (g' : jv_S) (v : Int), FF f m v → (v = -9 → TXS (aut f m) g') → (∀ (p : Nat) (i : Int), ¬ (10 ≤ p ∧ p ≤ 13) → g' p i = g p i) → Q (jv_I v) (LL n l) g') :
  jv_Ca jv_T jv_ml kTx_firstFault [jv_P 10, jv_R 3 k, jv_I i, jv_I m] (LL n l) g Q := by
  have main : ∀ j, j ≤ m → ∀ g' : jv_S, okj f j → TXS (aut f j) g' → (∀ (p : Nat) (i : Int), ¬ (10 ≤ p ∧ p ≤ 13) → g' p i = g p i) → jv_At jv_T jv_ml kTx_firstFault 18 [jv_P 10, jv_R 3 k, jv_I i, jv_I m, jv_I j] [] (LL n l) (g') Q := by
    apply loop_up
    intro j hj ih g' h1 h2 hfr
    apply sg_Tx_firstFault_18 (A := A)
    rw [h2.1]
    refine ⟨fun h => ?_, fun h => ⟨⟨by omega, by omega⟩, ⟨by omega, by omega⟩, ?_⟩⟩
    · have hjm : j = m := by omega
      subst hjm
      refine ⟨fun h3 => hQ g' (-9) (Or.inr (Or.inl ⟨h1, Or.inl h3, rfl⟩)) (fun _ => h2) hfr, fun h3 => ⟨fun h4 => hQ g' (-9) (Or.inr (Or.inl ⟨h1, Or.inr h4, rfl⟩)) (fun _ => h2) hfr, fun h4 => hQ g' j (Or.inr (Or.inr ⟨h1, fun h5 => h5.elim h3 h4, rfl⟩)) (fun h5 => by omega) hfr⟩⟩
    · rw [hfr _ _ (by omega), hf j (by omega)]
      refine tr_Tx_takes (A := A) (AU_j j h1) h2 (hr j (by omega)) (fun g2 a1 a2 => ?_)
      apply sg_Tx_firstFault_34 (A := A)
      rw [jb0]
      have hf2 : ∀ (p : Nat) (i : Int), ¬ (10 ≤ p ∧ p ≤ 13) → g2 p i = g p i := fun p i hp => by rw [a2 _ _ hp]; exact hfr p i hp
      refine ⟨fun h3 => hQ g2 j (Or.inl ⟨j, by omega, h1, h3, rfl⟩) (fun h => by omega) hf2, fun h3 => ⟨⟨by omega, by omega⟩, ih (by omega) g2 (fun e he => ?_) (a1 (by simpa using h3)) hf2⟩⟩
      by_cases hej : e = j
      · subst hej; simpa using h3
      · exact h1 e (by omega)
  apply sg_Tx_firstFault_0 (A := A)
  refine main 0 (by omega) _ (fun e he => by omega) ⟨?_, ?_, ?_, fun c hc => ?_, fun h => ?_⟩ (fun p i hp => by rw [up_ne (by omega), up_ne (by omega), up_ne (by omega)])
  · rw [up_ne (by omega), up_ne (by omega), up_eq rfl rfl]; rfl
  · rw [up_ne (by omega), up_eq rfl rfl]; rfl
  · rw [up_eq rfl rfl]; rfl
  · have hc : (c : Int) < 0 := hc
    omega
  · have h : (4 : Int) ≤ 0 := h
    omega
