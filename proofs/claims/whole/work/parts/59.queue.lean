/-! ===== the model goes through the states ===== -/
def mc (A : jA) (D : Nat → Nat) : Nat := hn 5 D 0 (ln A)
theorem mc_up {A : jA} {D : Nat → Nat} {c v : Nat} (hc : c < ln A) : mc A (up1 D c v) + D c * 5 ^ c = mc A D + v * 5 ^ c := by
  have := hn_up (b := 5) (D := D) (v := v) (ln A) c 0 (by omega) (by omega)
  rw [Nat.sub_zero] at this
  exact this
theorem mc_lt {A : jA} {D : Nat → Nat} (hn4 : nd A ≤ 4) (hl6 : ln A ≤ 6) (hD : vdC A D) : mc A D < 15625 := vd_lt (by omega) (by omega) hl6 hD
theorem mc_inj {A : jA} {D E : Nat → Nat} (hn4 : nd A ≤ 4) (hD : vdC A D) (hE : vdC A E) (h : mc A D = mc A E) : D = E := vd_inj (b := 5) (by omega) hD hE h
theorem hn_z {b : Nat} {D : Nat → Nat} : ∀ (f c : Nat), (∀ i, c ≤ i → D i = 0) → hn b D c f = 0 := by
  intro f
  induction f with
  | zero => intro c _; rfl
  | succ f ih =>
    intro c h
    show D c + b * hn b D (c + 1) f = 0
    rw [h c (Nat.le_refl _), ih (c + 1) (fun i hi => h i (by omega)), Nat.mul_zero]
theorem hn_pad {b : Nat} {D : Nat → Nat} {f : Nat} : ∀ (e c : Nat), (∀ i, c + e ≤ i → D i = 0) → hn b D c (e + f) = hn b D c e := by
  intro e
  induction e with
  | zero => intro c h; rw [Nat.zero_add, hn_z f c (fun i hi => h i (by omega))]; rfl
  | succ e ih =>
    intro c h
    rw [show e + 1 + f = (e + f) + 1 by omega]
    show D c + b * hn b D (c + 1) (e + f) = D c + b * hn b D (c + 1) e
    rw [ih (c + 1) (fun i hi => h i (by omega))]
theorem mc6 {A : jA} {D : Nat → Nat} (hl6 : ln A ≤ 6) (hD : vdC A D) : mc A D = hn 5 D 0 6 := by
  have := hn_pad (b := 5) (D := D) (f := 6 - ln A) (ln A) 0 (fun i hi => hD.2 i (by omega))
  rw [show ln A + (6 - ln A) = 6 by omega] at this
  exact this.symm
/-- the queue: without doubles, with exact numbers of steps -/
def QS (A : jA) (q : List (Nat → Nat)) (g : jv_S) : Prop := q.Nodup ∧ (∀ D, D ∈ q → ∃ k : Nat, xdC A k D ∧ g 152 ((mc A D : Nat) : Int) = (k : Int)) ∧ (∀ D, vdC A D → ¬ D ∈ q → g 152 ((mc A D : Nat) : Int) = -9) ∧ g 136 25 = (q.length : Nat) ∧ ∀ (i : Nat) (D : Nat → Nat), q[i]? = some D → g 153 (i : Int) = (mc A D : Nat)
theorem QS_fr {A : jA} {q : List (Nat → Nat)} {g g' : jv_S} (h : QS A q g) (h1 : ∀ i, g' 152 i = g 152 i) (h2 : g' 136 25 = g 136 25) (h3 : ∀ i, g' 153 i = g 153 i) : QS A q g' := by
  obtain ⟨a1, a2, a3, a4, a5⟩ := h
  exact ⟨a1, fun D hD => by rw [h1]; exact a2 D hD, fun D hv hD => by rw [h1]; exact a3 D hv hD, by rw [h2]; exact a4, fun i D hD => by rw [h3]; exact a5 i D hD⟩
def GQ (A : jA) (q : List (Nat → Nat)) (k : Nat) (S : (Nat → Nat) → Prop) (g : jv_S) : Prop := ∃ w : List (Nat → Nat), (∀ E, E ∈ w → xdC A k E) ∧ (∀ E, S E → E ∈ q ++ w) ∧ QS A (q ++ w) g
theorem GQ_ext {A : jA} {q : List (Nat → Nat)} {k : Nat} {S T : (Nat → Nat) → Prop} {g : jv_S} (h : GQ A q k S g) (he : ∀ E, T E → S E) : GQ A q k T g := by
  obtain ⟨w, a, b, c⟩ := h
  exact ⟨w, a, fun E hE => b E (he E hE), c⟩
theorem GQ_fr {A : jA} {q : List (Nat → Nat)} {k : Nat} {S : (Nat → Nat) → Prop} {g g' : jv_S} (h : GQ A q k S g) (h1 : ∀ i, g' 152 i = g 152 i) (h2 : g' 136 25 = g 136 25) (h3 : ∀ i, g' 153 i = g 153 i) : GQ A q k S g' := by
  obtain ⟨w, a, b, c⟩ := h
  exact ⟨w, a, b, QS_fr c h1 h2 h3⟩
set_option maxRecDepth 100000 in
theorem sg_Y_fives_0 {A : jA} {n l : Nat} {g : jv_S} {Q : jv_V → jv_L → jv_S → Prop} {v0 : Int} (h :
   jv_At jv_T jv_ml kY_fives 4 [jv_I v0, jv_I (1 : Int), jv_I (0 : Int)] [] (LL n l) g Q) :
  jv_At jv_T jv_ml kY_fives 0 [jv_I v0, jv_U, jv_U] [] (LL n l) g Q :=
  jv_of_wp (gok9 (A := A)) (md := []) (stop := [4]) (tab := jt_Y_fives) rfl 400 _ _ _ _ _ h
set_option maxRecDepth 100000 in
theorem sg_Y_fives_4 {A : jA} {n l : Nat} {g : jv_S} {Q : jv_V → jv_L → jv_S → Prop} {v0 v1 v2 : Int} (h :
   (v0 ≤ v2 →
     Q (jv_I v1) (LL n l) g) ∧
    (¬ v0 ≤ v2 →
     jv_r32 (v1 * (5 : Int)) ∧
      jv_r32 (v2 + (1 : Int)) ∧
      jv_At jv_T jv_ml kY_fives 4 [jv_I v0, jv_I (v1 * (5 : Int)), jv_I (v2 + (1 : Int))] [] (LL n l) g Q)) :
  jv_At jv_T jv_ml kY_fives 4 [jv_I v0, jv_I v1, jv_I v2] [] (LL n l) g Q :=
  jv_of_wp (gok9 (A := A)) (md := []) (stop := [4]) (tab := jt_Y_fives) rfl 400 _ _ _ _ _ h
theorem tr_Y_fives {A : jA} {n l : Nat} {g : jv_S} {Q : jv_V → jv_L → jv_S → Prop} {d : Nat} (hd : d ≤ 6) (hQ : Q (jv_I ((5 ^ d : Nat) : Int)) (LL n l) g) :
  jv_Ca jv_T jv_ml kY_fives [jv_I d] (LL n l) g Q := by
  have main : ∀ c, c ≤ d → jv_At jv_T jv_ml kY_fives 4 [jv_I d, jv_I ((5 ^ c : Nat) : Int), jv_I c] [] (LL n l) g Q := by
    apply loop_up
    intro c hc ih
    apply sg_Y_fives_4 (A := A)
    refine ⟨fun h => by rw [show c = d by omega]; exact hQ, fun h => ?_⟩
    have e : ((5 ^ c : Nat) : Int) * 5 = ((5 ^ (c + 1) : Nat) : Int) := by rw [Nat.pow_succ, Int.natCast_mul]; rfl
    have hp : 5 ^ (c + 1) ≤ 15625 := Nat.le_trans (Nat.pow_le_pow_right (by decide) (show c + 1 ≤ 6 by omega)) (by decide)
    have ihc := fun h => ih h
    rw [e]
    generalize 5 ^ (c + 1) = P at hp ihc ⊢
    exact ⟨⟨by omega, by omega⟩, ⟨by omega, by omega⟩, ihc (by omega)⟩
  exact sg_Y_fives_0 (A := A) (main 0 (by omega))
set_option maxRecDepth 100000 in
theorem sg_Y_layContent_0 {A : jA} {n l : Nat} {g : jv_S} {Q : jv_V → jv_L → jv_S → Prop} {v1 : Int} (h :
   jv_At jv_T jv_ml kY_layContent 4 [jv_P 136, jv_I v1, jv_I v1, jv_I (0 : Int)] [] (LL n l) g Q) :
  jv_At jv_T jv_ml kY_layContent 0 [jv_P 136, jv_I v1, jv_U, jv_U] [] (LL n l) g Q :=
  jv_of_wp (gok9 (A := A)) (md := []) (stop := [4]) (tab := jt_Y_layContent) rfl 400 _ _ _ _ _ h
set_option maxRecDepth 100000 in
theorem sg_Y_layContent_4 {A : jA} {n l : Nat} {g : jv_S} {Q : jv_V → jv_L → jv_S → Prop} {v1 v2 v3 : Int} (h :
   ((6 : Int) ≤ v3 →
     Q jv_U (LL n l) g) ∧
    (¬ (6 : Int) ≤ v3 →
     (0 ≤ v2 ∧ 0 < (5 : Int)) ∧
      jv_r32 ((v2 % (5 : Int)) - (1 : Int)) ∧
      (0 ≤ v3 ∧ v3 < 6) ∧ 
      (0 ≤ v2 ∧ 0 < (5 : Int)) ∧
      jv_r32 (v3 + (1 : Int)) ∧
      jv_At jv_T jv_ml kY_layContent 4 [jv_P 136, jv_I v1, jv_I (v2 / (5 : Int)), jv_I (v3 + (1 : Int))] [] (LL n l) (jv_up g 154 v3 ((v2 % (5 : Int)) - (1 : Int))) Q)) :
  jv_At jv_T jv_ml kY_layContent 4 [jv_P 136, jv_I v1, jv_I v2, jv_I v3] [] (LL n l) g Q :=
  jv_of_wp (gok9 (A := A)) (md := []) (stop := [4]) (tab := jt_Y_layContent) rfl 400 _ _ _ _ _ h
theorem tr_Y_layContent {A : jA} {n l : Nat} {g : jv_S} {Q : jv_V → jv_L → jv_S → Prop} {D : Nat → Nat} (hn4 : nd A ≤ 4) (hl6 : ln A ≤ 6) (hD : vdC A D)
  (hQ : ∀ g' : jv_S, (∀ c : Nat, c < 6 → g' 154 c = (D c : Int) - 1) → (∀ (p : Nat) (i : Int), p ≠ 154 → g' p i = g p i) → Q jv_U (LL n l) g') :
  jv_Ca jv_T jv_ml kY_layContent [jv_P 136, jv_I (mc A D : Nat)] (LL n l) g Q := by
  have hle : ∀ c, D c ≤ 4 := fun c => by
    by_cases hc : c < ln A
    · have := hD.1 c hc; omega
    · rw [hD.2 c (by omega)]; omega
  have main : ∀ c, c ≤ 6 → ∀ g' : jv_S, (∀ d : Nat, d < c → g' 154 d = (D d : Int) - 1) → (∀ (p : Nat) (i : Int), p ≠ 154 → g' p i = g p i) → jv_At jv_T jv_ml kY_layContent 4 [jv_P 136, jv_I (mc A D : Nat), jv_I (hn 5 D c (6 - c) : Nat), jv_I c] [] (LL n l) (g') Q := by
    apply loop_up
    intro c hc ih g' h1 h2
    apply sg_Y_layContent_4 (A := A)
    refine ⟨fun h => hQ g' (fun d hd => h1 d (by omega)) h2, fun h => ?_⟩
    obtain ⟨m1, m2⟩ := hn_dm (b := 5) (D := D) (c := c) (e := 6 - (c + 1)) (by have := hle c; omega)
    rw [show 6 - (c + 1) + 1 = 6 - c by omega] at m1 m2
    have e1 : (hn 5 D c (6 - c) : Int) % 5 = (D c : Int) := by
      have : ((hn 5 D c (6 - c) % 5 : Nat) : Int) = (D c : Int) := by rw [m1]
      rw [← this]
      rfl
    have e2 : (hn 5 D c (6 - c) : Int) / 5 = (hn 5 D (c + 1) (6 - (c + 1)) : Int) := by
      have : ((hn 5 D c (6 - c) / 5 : Nat) : Int) = (hn 5 D (c + 1) (6 - (c + 1)) : Int) := by rw [m2]
      rw [← this]
      rfl
    have hl := hle c
    rw [e1, e2]
    refine ⟨⟨by omega, by omega⟩, ⟨by omega, by omega⟩, ⟨by omega, by omega⟩, ⟨by omega, by omega⟩, ⟨by omega, by omega⟩, ih (by omega) _ (fun d hd => ?_) (fun p i hp => by rw [up_ne (by omega)]; exact h2 p i hp)⟩
    by_cases hdc : d = c
    · subst hdc; rw [up_eq rfl rfl]
    · rw [up_ne (by omega)]; exact h1 d (by omega)
  apply sg_Y_layContent_0 (A := A)
  have := main 0 (by omega) g (fun d hd => by omega) (fun _ _ _ => rfl)
  rw [Nat.sub_zero, ← mc6 hl6 hD] at this
  exact this
set_option maxRecDepth 100000 in
theorem sg_Y_enter_0 {A : jA} {n l : Nat} {g : jv_S} {Q : jv_V → jv_L → jv_S → Prop} {v1 v2 : Int} (h :
   (0 ≤ v1 ∧ v1 < 15625) ∧
    ((g 152 v1) = (-9 : Int) →
     (0 ≤ v1 ∧ v1 < 15625) ∧ 
      (0 ≤ (g 136 25) ∧ (g 136 25) < 15625) ∧ 
      jv_r32 ((g 136 25) + (1 : Int)) ∧
      Q jv_U (LL n l) (jv_up (jv_up (jv_up g 152 v1 v2) 153 (g 136 25) v1) 136 25 ((g 136 25) + (1 : Int)))) ∧
    (¬ (g 152 v1) = (-9 : Int) →
     Q jv_U (LL n l) g)) :
  jv_At jv_T jv_ml kY_enter 0 [jv_P 136, jv_I v1, jv_I v2] [] (LL n l) g Q :=
  jv_of_wp (gok9 (A := A)) (md := []) (stop := []) (tab := jt_Y_enter) rfl 400 _ _ _ _ _ h
theorem tr_Y_enter {A : jA} {n l : Nat} {g : jv_S} {Q : jv_V → jv_L → jv_S → Prop} {q : List (Nat → Nat)} {k : Nat} {S : (Nat → Nat) → Prop} {E : Nat → Nat} {v : Int} (hn4 : nd A ≤ 4) (hl6 : ln A ≤ 6) (hG : GQ A q k S g) (hv : v = (mc A E : Nat)) (hE : vdC A E) (hk : E ∈ q ∨ xdC A k E)
  (hQ : ∀ g' : jv_S, GQ A q k (fun F => S F ∨ F = E) g' → (∀ (p : Nat) (i : Int), ¬ (p = 152 ∨ p = 153 ∨ (p = 136 ∧ i = 25)) → g' p i = g p i) → Q jv_U (LL n l) g') :
  jv_Ca jv_T jv_ml kY_enter [jv_P 136, jv_I v, jv_I (k : Nat)] (LL n l) g Q := by
  obtain ⟨w, g1, g2, g3, g4, g5, g6, g7⟩ := hG
  have hlt := mc_lt hn4 hl6 hE
  subst hv
  have hvw : ∀ D, D ∈ q ++ w → vdC A D := fun D hD => by
    obtain ⟨j, hj, _⟩ := g4 D hD
    exact rk_vd hj.1
  apply sg_Y_enter_0 (A := A)
  by_cases hm : E ∈ q ++ w
  · obtain ⟨j, j1, j2⟩ := g4 E hm
    rw [j2]
    refine ⟨⟨by omega, by omega⟩, fun h => by omega, fun h => hQ g ⟨w, g1, fun F hF => ?_, g3, g4, g5, g6, g7⟩ (fun _ _ _ => rfl)⟩
    rcases hF with h | h
    · exact g2 F h
    · rw [h]; exact hm
  · have hx : xdC A k E := hk.resolve_left (fun h => hm (List.mem_append_left _ h))
    have hnd : (q ++ w ++ [E]).Nodup := by
      rw [List.nodup_append]
      refine ⟨g3, by simp, fun a ha b hb hab => ?_⟩
      rw [List.mem_singleton] at hb
      rw [hab, hb] at ha
      exact hm ha
    have hlen := nd_len (A := A) (b := 5) (by omega) (by omega) hl6 hnd (fun D hD => by
      rcases List.mem_append.mp hD with h | h
      · exact hvw D h
      · rw [List.mem_singleton] at h; rw [h]; exact hE)
    rw [List.length_append, List.length_singleton] at hlen
    rw [g5 E hE hm, g6]
    refine ⟨⟨by omega, by omega⟩, fun _ => ⟨⟨by omega, by omega⟩, ⟨by omega, by omega⟩, ⟨by omega, by omega⟩, hQ _ ⟨w ++ [E], fun F hF => ?_, fun F hF => ?_, ?_⟩ (fun p i hp => by rw [up_ne (by omega), up_ne (by omega), up_ne (by omega)])⟩, fun h => absurd rfl h⟩
    · rcases List.mem_append.mp hF with h | h
      · exact g1 F h
      · rw [List.mem_singleton] at h; rw [h]; exact hx
    · rw [← List.append_assoc]
      rcases hF with h | h
      · exact List.mem_append_left _ (g2 F h)
      · rw [h]; exact List.mem_append_right _ (by simp)
    · rw [← List.append_assoc]
      refine ⟨hnd, fun D hD => ?_, fun D hv hD => ?_, ?_, fun i D hD => ?_⟩
      · rw [up_ne (by omega), up_ne (by omega)]
        rcases List.mem_append.mp hD with h | h
        · obtain ⟨j, j1, j2⟩ := g4 D h
          refine ⟨j, j1, ?_⟩
          rw [up_ne (fun he => hm (by rw [← mc_inj hn4 (hvw D h) hE (by omega)]; exact h))]
          exact j2
        · rw [List.mem_singleton] at h
          rw [h, up_eq rfl rfl]
          exact ⟨k, hx, rfl⟩
      · rw [up_ne (by omega), up_ne (by omega)]
        have hne : D ≠ E := fun he => hD (by rw [he]; exact List.mem_append_right _ (by simp))
        rw [up_ne (fun he => hne (mc_inj hn4 hv hE (by omega)))]
        exact g5 D hv (fun h => hD (List.mem_append_left _ h))
      · rw [up_eq rfl rfl]; simp only [List.length_append, List.length_singleton]; omega
      · rw [up_ne (by omega)]
        by_cases hi : i < (q ++ w).length
        · rw [List.getElem?_append_left hi] at hD
          rw [up_ne (by omega), up_ne (by omega)]
          exact g7 i D hD
        · rw [List.getElem?_append_right (by omega)] at hD
          have hi0 : i - (q ++ w).length = 0 := by
            apply Classical.byContradiction
            intro h0
            rw [List.getElem?_eq_none (by rw [List.length_singleton]; omega)] at hD
            cases hD
          rw [hi0] at hD
          have hDE : E = D := by simpa using hD
          rw [up_eq rfl (by omega), hDE]
set_option maxRecDepth 100000 in
theorem sg_Y_goOn_0 {A : jA} {n l : Nat} {g : jv_S} {Q : jv_V → jv_L → jv_S → Prop} {v1 v2 v3 v4 : Int} (h :
   jv_At jv_T jv_ml kY_goOn 3 [jv_P 136, jv_I v1, jv_I v2, jv_I v3, jv_I v4, jv_I (0 : Int)] [] (LL n l) g Q) :
  jv_At jv_T jv_ml kY_goOn 0 [jv_P 136, jv_I v1, jv_I v2, jv_I v3, jv_I v4, jv_U] [] (LL n l) g Q :=
  jv_of_wp (gok9 (A := A)) (md := []) (stop := [3]) (tab := jt_Y_goOn) rfl 400 _ _ _ _ _ h
set_option maxRecDepth 100000 in
theorem sg_Y_goOn_3 {A : jA} {n l : Nat} {g : jv_S} {Q : jv_V → jv_L → jv_S → Prop} {v1 v2 v3 v4 v5 : Int} (h :
   ((g 136 6) ≤ v5 →
     Q jv_U (LL n l) g) ∧
    (¬ (g 136 6) ≤ v5 →
     ((0 ≤ v2 ∧ v2 < 2147483648 ∧ 0 ≤ v5 ∧ v5 < 31)) ∧
      ((hb v2 v5) = 0 →
       jv_r32 (v5 + (1 : Int)) ∧
        jv_At jv_T jv_ml kY_goOn 3 [jv_P 136, jv_I v1, jv_I v2, jv_I v3, jv_I v4, jv_I (v5 + (1 : Int))] [] (LL n l) g Q) ∧
      (¬ (hb v2 v5) = 0 →
       (0 ≤ v5 ∧ v5 < 6) ∧
        (0 ≤ (g 154 v5) →
         jv_r32 (v5 + (1 : Int)) ∧
          jv_At jv_T jv_ml kY_goOn 3 [jv_P 136, jv_I v1, jv_I v2, jv_I v3, jv_I v4, jv_I (v5 + (1 : Int))] [] (LL n l) g Q) ∧
        (¬ 0 ≤ (g 154 v5) →
         jv_r32 (v3 + (1 : Int)) ∧
          jv_Ca jv_T jv_ml kY_fives [jv_I v5] (LL n l) g (fun r L2 g2 => jv_At jv_T jv_ml kY_goOn 41 [jv_P 136, jv_I v1, jv_I v2, jv_I v3, jv_I v4, jv_I v5] (jv_pu r [jv_I (v3 + (1 : Int)), jv_I v1, jv_P 136]) L2 g2 Q))))) :
  jv_At jv_T jv_ml kY_goOn 3 [jv_P 136, jv_I v1, jv_I v2, jv_I v3, jv_I v4, jv_I v5] [] (LL n l) g Q :=
  jv_of_wp (gok9 (A := A)) (md := []) (stop := [3]) (tab := jt_Y_goOn) rfl 400 _ _ _ _ _ h
set_option maxRecDepth 100000 in
theorem sg_Y_goOn_41 {A : jA} {n l : Nat} {g : jv_S} {Q : jv_V → jv_L → jv_S → Prop} {v1 v2 v3 v4 v5 s1 s2 s3 : Int} (h :
   jv_r32 (s2 * s3) ∧
    jv_r32 (s1 + (s2 * s3)) ∧
    jv_Ca jv_T jv_ml kY_enter [jv_P 136, jv_I (s1 + (s2 * s3)), jv_I v4] (LL n l) g (fun r L2 g2 => jv_At jv_T jv_ml kY_goOn 48 [jv_P 136, jv_I v1, jv_I v2, jv_I v3, jv_I v4, jv_I v5] (jv_pu r []) L2 g2 Q)) :
  jv_At jv_T jv_ml kY_goOn 41 [jv_P 136, jv_I v1, jv_I v2, jv_I v3, jv_I v4, jv_I v5] [jv_I s3, jv_I s2, jv_I s1, jv_P 136] (LL n l) g Q :=
  jv_of_wp (gok9 (A := A)) (md := []) (stop := [3]) (tab := jt_Y_goOn) rfl 400 _ _ _ _ _ h
set_option maxRecDepth 100000 in
theorem sg_Y_goOn_48 {A : jA} {n l : Nat} {g : jv_S} {Q : jv_V → jv_L → jv_S → Prop} {v1 v2 v3 v4 v5 : Int} (h :
   jv_r32 (v5 + (1 : Int)) ∧
    jv_At jv_T jv_ml kY_goOn 3 [jv_P 136, jv_I v1, jv_I v2, jv_I v3, jv_I v4, jv_I (v5 + (1 : Int))] [] (LL n l) g Q) :
  jv_At jv_T jv_ml kY_goOn 48 [jv_P 136, jv_I v1, jv_I v2, jv_I v3, jv_I v4, jv_I v5] [] (LL n l) g Q :=
  jv_of_wp (gok9 (A := A)) (md := []) (stop := [3]) (tab := jt_Y_goOn) rfl 400 _ _ _ _ _ h
theorem tr_Y_goOn {A : jA} {n l : Nat} {g : jv_S} {Q : jv_V → jv_L → jv_S → Prop} {q : List (Nat → Nat)} {k : Nat} {S : (Nat → Nat) → Prop} {D F : Nat → Nat} {s y : Nat} {v : Int} (hM : MN A g) (hn4 : nd A ≤ 4) (hl6 : ln A ≤ 6) (hG : GQ A q k S g) (hc : ∀ c : Nat, c < 6 → g 154 c = (D c : Int) - 1) (hD : vdC A D) (hF : vdC A F) (hFD : ∀ d, D d = 0 → F d = 0) (hv : v = (mc A F : Nat)) (hs : s < 2 ^ ln A) (hy : y < nd A) (hk : ∀ d, d < ln A → s.testBit d = true → D d = 0 → up1 F d (y + 1) ∈ q ∨ xdC A k (up1 F d (y + 1)))
  (hQ : ∀ g' : jv_S, GQ A q k (fun E => S E ∨ ∃ d, d < ln A ∧ s.testBit d = true ∧ D d = 0 ∧ E = up1 F d (y + 1)) g' → (∀ (p : Nat) (i : Int), ¬ (p = 152 ∨ p = 153 ∨ (p = 136 ∧ i = 25)) → g' p i = g p i) → Q jv_U (LL n l) g') :
  jv_Ca jv_T jv_ml kY_goOn [jv_P 136, jv_I v, jv_I s, jv_I y, jv_I k] (LL n l) g Q := by
  subst hv
  have f2 := hM.2.2.1
  have s31 := i31 hs (by omega)
  have main : ∀ d, d ≤ ln A → ∀ g' : jv_S, GQ A q k (fun E => S E ∨ ∃ d', d' < d ∧ s.testBit d' = true ∧ D d' = 0 ∧ E = up1 F d' (y + 1)) g' → (∀ (p : Nat) (i : Int), ¬ (p = 152 ∨ p = 153 ∨ (p = 136 ∧ i = 25)) → g' p i = g p i) → jv_At jv_T jv_ml kY_goOn 3 [jv_P 136, jv_I (mc A F : Nat), jv_I s, jv_I y, jv_I k, jv_I d] [] (LL n l) (g') Q := by
    apply loop_up
    intro d hd ih g' h1 h2
    have f2' : g' 136 6 = ln A := by rw [h2 _ _ (by omega)]; exact f2
    apply sg_Y_goOn_3 (A := A)
    refine ⟨fun h => hQ g' (GQ_ext h1 (fun E hE => hE.imp id (fun ⟨d', a, b⟩ => ⟨d', by omega, b⟩))) h2, fun h => ?_⟩
    have fc : g' 154 d = (D d : Int) - 1 := by rw [h2 _ _ (by omega)]; exact hc d (by omega)
    rw [fc]
    by_cases hb : s.testBit d = true ∧ D d = 0
    · have e0 := hb_t hb.1
      rw [e0]
      have hu := mc_up (A := A) (D := F) (c := d) (v := y + 1) (by omega)
      rw [hFD d hb.2, Nat.zero_mul, Nat.add_zero] at hu
      have hE := up1_vd (A := A) (D := F) (c := d) (v := y + 1) hF (by omega) (by omega)
      have hlt := mc_lt hn4 hl6 hE
      have h0 := hb.2
      refine ⟨⟨by omega, by omega, by omega, by omega⟩, fun h => by omega, fun _ => ⟨⟨by omega, by omega⟩, fun h => by omega, fun _ => ⟨⟨by omega, by omega⟩, ?_⟩⟩⟩
      refine tr_Y_fives (A := A) (by omega) ?_
      apply sg_Y_goOn_41 (A := A)
      have e1 : ((y : Int) + 1) * ((5 ^ d : Nat) : Int) = (((y + 1) * 5 ^ d : Nat) : Int) := by rw [Int.natCast_mul]; rfl
      rw [e1]
      refine ⟨⟨by omega, by omega⟩, ⟨by omega, by omega⟩, ?_⟩
      refine tr_Y_enter (E := up1 F d (y + 1)) hn4 hl6 h1 (by omega) hE (hk d (by omega) hb.1 hb.2) (fun g2 a1 a2 => ?_)
      apply sg_Y_goOn_48 (A := A)
      refine ⟨⟨by omega, by omega⟩, ih (by omega) g2 (GQ_ext a1 (fun E hE => ?_)) (fun p i hp => by rw [a2 _ _ hp]; exact h2 p i hp)⟩
      rcases hE with a | ⟨d', a, b, c, e⟩
      · exact Or.inl (Or.inl a)
      · by_cases hdd : d' = d
        · subst hdd; exact Or.inr e
        · exact Or.inl (Or.inr ⟨d', by omega, b, c, e⟩)
    · have := ih (by omega) g' (GQ_ext h1 (fun E hE => hE.imp id (fun ⟨d', a, b, c, e⟩ => ⟨d', by
        by_cases hdd : d' = d
        · subst hdd; exact absurd ⟨b, c⟩ hb
        · omega, b, c, e⟩))) h2
      refine ⟨⟨by omega, by omega, by omega, by omega⟩, fun _ => ⟨⟨by omega, by omega⟩, this⟩, fun hbb => ⟨⟨by omega, by omega⟩, fun _ => ⟨⟨by omega, by omega⟩, this⟩, fun h3 => ?_⟩⟩
      cases hbit : s.testBit d with
      | false => exact absurd (hb_f hbit) hbb
      | true => exact absurd ⟨hbit, by omega⟩ hb
  exact sg_Y_goOn_0 (A := A) (main 0 (by omega) g (GQ_ext hG (fun E hE => hE.elim id (fun ⟨_, a, _⟩ => by omega))) (fun _ _ _ => rfl))
