/-! ===== the class goes through all states ===== -/
/-- the steps of lane c -/
def stL (A : jA) (D : Nat → Nat) (c : Nat) (E : Nat → Nat) : Prop := (∃ y, y < nd A ∧ D c = 0 ∧ (so A y).testBit c = true ∧ E = up1 D c (y + 1)) ∨ (∃ y, y < nd A ∧ D c = y + 1 ∧ tt A c = y ∧ E = up1 D c 0) ∨ ∃ y d, d < ln A ∧ y < nd A ∧ D c = y + 1 ∧ tt A c ≠ y ∧ (tk A c y).testBit d = true ∧ D d = 0 ∧ E = up1 (up1 D c 0) d (y + 1)
theorem stC_L {A : jA} {D E : Nat → Nat} : stC A D E ↔ ∃ c, c < ln A ∧ stL A D c E := by
  constructor
  · rintro (⟨c, y, h1, h2, h3, h4, h5⟩ | ⟨c, y, h1, h2, h3, h4, h5⟩ | ⟨c, y, d, h1, h2, h3, h4, h5, h6, h7, h8⟩)
    · exact ⟨c, h1, Or.inl ⟨y, h2, h3, h4, h5⟩⟩
    · exact ⟨c, h1, Or.inr (Or.inl ⟨y, h2, h3, h4, h5⟩)⟩
    · exact ⟨c, h1, Or.inr (Or.inr ⟨y, d, h2, h3, h4, h5, h6, h7, h8⟩)⟩
  · rintro ⟨c, h1, ⟨y, h2, h3, h4, h5⟩ | ⟨y, h2, h3, h4, h5⟩ | ⟨y, d, h2, h3, h4, h5, h6, h7, h8⟩⟩
    · exact Or.inl ⟨c, y, h1, h2, h3, h4, h5⟩
    · exact Or.inr (Or.inl ⟨c, y, h1, h2, h3, h4, h5⟩)
    · exact Or.inr (Or.inr ⟨c, y, d, h1, h2, h3, h4, h5, h6, h7, h8⟩)
theorem cn_up {A : jA} {D : Nat → Nat} {c v : Nat} (hc : c < ln A) : cn A (up1 D c v) + D c * (nd A + 1) ^ c = cn A D + v * (nd A + 1) ^ c := by
  have := hn_up (b := nd A + 1) (D := D) (v := v) (ln A) c 0 (by omega) (by omega)
  rw [Nat.sub_zero] at this
  exact this
/-- weights and what enters -/
def WE (A : jA) (g : jv_S) : Prop := (∀ c : Nat, c < ln A → g 84 c = (((nd A + 1) ^ c : Nat) : Int)) ∧ ∀ y : Nat, y < nd A → g 86 y = (so A y : Nat)
theorem WE_fr {A : jA} {g g' : jv_S} (h : WE A g) (h1 : ∀ i, g' 84 i = g 84 i) (h2 : ∀ i, g' 86 i = g 86 i) : WE A g' := ⟨fun c hc => by rw [h1]; exact h.1 c hc, fun y hy => by rw [h2]; exact h.2 y hy⟩
set_option maxRecDepth 100000 in
theorem sg_Sa_setOut_0 {A : jA} {n l : Nat} {g : jv_S} {Q : jv_V → jv_L → jv_S → Prop} {v1 v2 : Int} (h :
   jv_At jv_T jv_ml kSa_setOut 2 [jv_P 80, jv_I v1, jv_I v2, jv_I (0 : Int)] [] (LL n l) g Q) :
  jv_At jv_T jv_ml kSa_setOut 0 [jv_P 80, jv_I v1, jv_I v2, jv_U] [] (LL n l) g Q :=
  jv_of_wp (gok9 (A := A)) (md := []) (stop := [2]) (tab := jt_Sa_setOut) rfl 400 _ _ _ _ _ h
set_option maxRecDepth 100000 in
theorem sg_Sa_setOut_2 {A : jA} {n l : Nat} {g : jv_S} {Q : jv_V → jv_L → jv_S → Prop} {v1 v2 v3 : Int} (h :
   ((g 14 0) ≤ v3 →
     Q jv_U (LL n l) g) ∧
    (¬ (g 14 0) ≤ v3 →
     (0 ≤ v3 ∧ v3 < 4) ∧
      ((0 ≤ (g 86 v3) ∧ (g 86 v3) < 2147483648 ∧ 0 ≤ v2 ∧ v2 < 31)) ∧
      ((hb (g 86 v3) v2) = 0 →
       jv_r32 (v3 + (1 : Int)) ∧
        jv_At jv_T jv_ml kSa_setOut 2 [jv_P 80, jv_I v1, jv_I v2, jv_I (v3 + (1 : Int))] [] (LL n l) g Q) ∧
      (¬ (hb (g 86 v3) v2) = 0 →
       jv_r32 (v3 + (1 : Int)) ∧
        (0 ≤ v2 ∧ v2 < 6) ∧
        jv_r32 ((v3 + (1 : Int)) * (g 84 v2)) ∧
        jv_r32 (v1 + ((v3 + (1 : Int)) * (g 84 v2))) ∧
        jv_Ca jv_T jv_ml kSa_reach [jv_P 80, jv_I (v1 + ((v3 + (1 : Int)) * (g 84 v2)))] (LL n l) g (fun r L2 g2 => jv_At jv_T jv_ml kSa_setOut 42 [jv_P 80, jv_I v1, jv_I v2, jv_I v3] (jv_pu r []) L2 g2 Q)))) :
  jv_At jv_T jv_ml kSa_setOut 2 [jv_P 80, jv_I v1, jv_I v2, jv_I v3] [] (LL n l) g Q :=
  jv_of_wp (gok9 (A := A)) (md := []) (stop := [2]) (tab := jt_Sa_setOut) rfl 400 _ _ _ _ _ h
set_option maxRecDepth 100000 in
theorem sg_Sa_setOut_42 {A : jA} {n l : Nat} {g : jv_S} {Q : jv_V → jv_L → jv_S → Prop} {v1 v2 v3 : Int} (h :
   jv_r32 (v3 + (1 : Int)) ∧
    jv_At jv_T jv_ml kSa_setOut 2 [jv_P 80, jv_I v1, jv_I v2, jv_I (v3 + (1 : Int))] [] (LL n l) g Q) :
  jv_At jv_T jv_ml kSa_setOut 42 [jv_P 80, jv_I v1, jv_I v2, jv_I v3] [] (LL n l) g Q :=
  jv_of_wp (gok9 (A := A)) (md := []) (stop := [2]) (tab := jt_Sa_setOut) rfl 400 _ _ _ _ _ h
theorem tr_Sa_setOut {A : jA} {n l : Nat} {g : jv_S} {Q : jv_V → jv_L → jv_S → Prop} {X Z : (Nat → Nat) → Prop} {D : Nat → Nat} {c : Nat} (hN : CN A g) (hn4 : nd A ≤ 4) (hl6 : ln A ≤ 6) (hWE : WE A g) (hZ : ZS A X Z g) (hD : vdC A D) (hc : c < ln A) (h0 : D c = 0)
  (hQ : ∀ g' : jv_S, ZS A X (fun E => Z E ∨ stL A D c E) g' → (∀ w : Int, jv_r32 (g 83 w) → jv_r32 (g' 83 w)) → (∀ (p : Nat) (i : Int), ¬ (p = 81 ∨ p = 83 ∨ (p = 80 ∧ i = 8)) → g' p i = g p i) → Q jv_U (LL n l) g') :
  jv_Ca jv_T jv_ml kSa_setOut [jv_P 80, jv_I (cn A D : Nat), jv_I c] (LL n l) g Q := by
  have f1 := hN.2.1
  have main : ∀ y, y ≤ nd A → ∀ g' : jv_S, ZS A X (fun E => Z E ∨ ∃ z, z < y ∧ (so A z).testBit c = true ∧ E = up1 D c (z + 1)) g' → (∀ w : Int, jv_r32 (g 83 w) → jv_r32 (g' 83 w)) → (∀ (p : Nat) (i : Int), ¬ (p = 81 ∨ p = 83 ∨ (p = 80 ∧ i = 8)) → g' p i = g p i) → jv_At jv_T jv_ml kSa_setOut 2 [jv_P 80, jv_I (cn A D : Nat), jv_I c, jv_I y] [] (LL n l) (g') Q := by
    apply loop_up
    intro y hy ih g' h1 hr hf
    have f1' : g' 14 0 = nd A := by rw [hf _ _ (by omega)]; exact f1
    apply sg_Sa_setOut_2 (A := A)
    refine ⟨fun h => hQ g' (ZS_ext h1 (fun E _ => ?_)) hr hf, fun h => ?_⟩
    · constructor
      · rintro (a | ⟨z, a, b, d⟩)
        · exact Or.inl a
        · exact Or.inr (Or.inl ⟨z, by omega, h0, b, d⟩)
      · rintro (a | ⟨z, a, b, d, e⟩ | ⟨z, a, b, d⟩ | ⟨z, d, a, b, e, f⟩)
        · exact Or.inl a
        · exact Or.inr ⟨z, by omega, d, e⟩
        · omega
        · omega
    · have fe : g' 86 y = (so A y : Nat) := by rw [hf _ _ (by omega)]; exact hWE.2 y (by omega)
      have fw : g' 84 c = (((nd A + 1) ^ c : Nat) : Int) := by rw [hf _ _ (by omega)]; exact hWE.1 c hc
      have s31 := i31 (so_lt (A := A) (y := y)) (by omega)
      rw [fe, fw]
      cases hbit : (so A y).testBit c with
      | false =>
        have e0 := hb_f hbit
        have := ih (by omega) g' (ZS_ext h1 (fun E _ => ⟨fun h => h.imp id (fun ⟨z, a, b, d⟩ => ⟨z, by omega, b, d⟩), fun h => h.imp id (fun ⟨z, a, b, d⟩ => ⟨z, by
          by_cases hzy : z = y
          · subst hzy; rw [hbit] at b; cases b
          · omega, b, d⟩)⟩)) hr hf
        rw [e0]
        repeat' (first | (with_reducible assumption) | apply And.intro | intro _)
        all_goals (first | omega | exact LLx_ok | assumption | skip)
      | true =>
        have e0 := hb_t hbit
        have hu := cn_up (A := A) (D := D) (c := c) (v := y + 1) hc
        rw [h0, Nat.zero_mul, Nat.add_zero] at hu
        have hE := up1_vd (A := A) (D := D) (c := c) (v := y + 1) hD hc (by omega)
        have hlt : cn A (up1 D c (y + 1)) < 15625 := vd_lt (by omega) (by omega) hl6 hE
        have e1 : ((y : Int) + 1) * (((nd A + 1) ^ c : Nat) : Int) = (((y + 1) * (nd A + 1) ^ c : Nat) : Int) := by rw [Int.natCast_mul]; rfl
        rw [e0, e1]
        refine ⟨⟨by omega, by omega⟩, ⟨by omega, by omega, by omega, by omega⟩, fun h => by omega, fun _ => ⟨⟨by omega, by omega⟩, ⟨by omega, by omega⟩, ⟨by omega, by omega⟩, ⟨by omega, by omega⟩, ?_⟩⟩
        refine tr_Sa_reach hn4 hl6 h1 hE (by omega) (fun g2 a1 a3 a2 => ?_)
        apply sg_Sa_setOut_42 (A := A)
        refine ⟨⟨by omega, by omega⟩, ih (by omega) g2 (ZS_ext a1 (fun E _ => ?_)) (fun w hw => a3 w (hr w hw)) (fun p i hp => by rw [a2 _ _ hp]; exact hf p i hp)⟩
        constructor
        · rintro ((a | ⟨z, a, b, d⟩) | a)
          · exact Or.inl a
          · exact Or.inr ⟨z, by omega, b, d⟩
          · exact Or.inr ⟨y, by omega, hbit, a⟩
        · rintro (a | ⟨z, a, b, d⟩)
          · exact Or.inl (Or.inl a)
          · by_cases hzy : z = y
            · subst hzy; exact Or.inr d
            · exact Or.inl (Or.inr ⟨z, by omega, b, d⟩)
  exact sg_Sa_setOut_0 (A := A) (main 0 (by omega) g (ZS_ext hZ (fun E _ => ⟨fun h => Or.inl h, fun h => h.elim id (fun ⟨z, a, _⟩ => by omega)⟩)) (fun _ h => h) (fun _ _ _ => rfl))
set_option maxRecDepth 100000 in
theorem sg_Sa_goOn_0 {A : jA} {n l : Nat} {g : jv_S} {Q : jv_V → jv_L → jv_S → Prop} {v1 v2 v3 : Int} (h :
   (0 ≤ v2 ∧ v2 < 6) ∧
    (0 ≤ v2 ∧ v2 < 6) ∧
    jv_r32 ((g 85 v2) * (g 84 v2)) ∧
    jv_r32 (v1 - ((g 85 v2) * (g 84 v2))) ∧
    (0 ≤ v2 ∧ v2 < 10) ∧
    (0 ≤ v2 ∧ v2 < 6) ∧
    jv_r32 ((g 85 v2) - (1 : Int)) ∧
    ((g 16 v2) = ((g 85 v2) - (1 : Int)) →
     jv_Ca jv_T jv_ml kSa_reach [jv_P 80, jv_I (v1 - ((g 85 v2) * (g 84 v2)))] (LL n l) g (fun r L2 g2 => jv_At jv_T jv_ml kSa_goOn 43 [jv_P 80, jv_I v1, jv_I v2, jv_I v3, jv_I (v1 - ((g 85 v2) * (g 84 v2))), jv_U, jv_U] (jv_pu r []) L2 g2 Q)) ∧
    (¬ (g 16 v2) = ((g 85 v2) - (1 : Int)) →
     (0 ≤ v2 ∧ v2 < 10) ∧
      (0 ≤ v2 ∧ v2 < 6) ∧
      jv_r32 ((g 85 v2) - (1 : Int)) ∧
      (0 ≤ ((g 85 v2) - (1 : Int)) ∧ ((g 85 v2) - (1 : Int)) < 6) ∧
      jv_At jv_T jv_ml kSa_goOn 69 [jv_P 80, jv_I v1, jv_I v2, jv_I v3, jv_I (v1 - ((g 85 v2) * (g 84 v2))), jv_I (jv_and (g 49 (v2 * 6 + ((g 85 v2) - (1 : Int)))) v3), jv_I (0 : Int)] [] (LL n l) g Q)) :
  jv_At jv_T jv_ml kSa_goOn 0 [jv_P 80, jv_I v1, jv_I v2, jv_I v3, jv_U, jv_U, jv_U] [] (LL n l) g Q :=
  jv_of_wp (gok9 (A := A)) (md := []) (stop := [69]) (tab := jt_Sa_goOn) rfl 400 _ _ _ _ _ h
set_option maxRecDepth 100000 in
theorem sg_Sa_goOn_43 {A : jA} {n l : Nat} {g : jv_S} {Q : jv_V → jv_L → jv_S → Prop} {v1 v2 v3 v4 : Int} {v5 v6 : jv_V} (h :
   Q jv_U (LL n l) g) :
  jv_At jv_T jv_ml kSa_goOn 43 [jv_P 80, jv_I v1, jv_I v2, jv_I v3, jv_I v4, v5, v6] [] (LL n l) g Q :=
  jv_of_wp (gok9 (A := A)) (md := []) (stop := [69]) (tab := jt_Sa_goOn) rfl 400 _ _ _ _ _ h
set_option maxRecDepth 100000 in
theorem sg_Sa_goOn_69 {A : jA} {n l : Nat} {g : jv_S} {Q : jv_V → jv_L → jv_S → Prop} {v1 v2 v3 v4 v5 v6 : Int} (h :
   ((g 14 1) ≤ v6 →
     Q jv_U (LL n l) g) ∧
    (¬ (g 14 1) ≤ v6 →
     ((0 ≤ v5 ∧ v5 < 2147483648 ∧ 0 ≤ v6 ∧ v6 < 31)) ∧
      ((hb v5 v6) = 0 →
       jv_r32 (v6 + (1 : Int)) ∧
        jv_At jv_T jv_ml kSa_goOn 69 [jv_P 80, jv_I v1, jv_I v2, jv_I v3, jv_I v4, jv_I v5, jv_I (v6 + (1 : Int))] [] (LL n l) g Q) ∧
      (¬ (hb v5 v6) = 0 →
       (0 ≤ v2 ∧ v2 < 6) ∧
        (0 ≤ v6 ∧ v6 < 6) ∧
        jv_r32 ((g 85 v2) * (g 84 v6)) ∧
        jv_r32 (v4 + ((g 85 v2) * (g 84 v6))) ∧
        jv_Ca jv_T jv_ml kSa_reach [jv_P 80, jv_I (v4 + ((g 85 v2) * (g 84 v6)))] (LL n l) g (fun r L2 g2 => jv_At jv_T jv_ml kSa_goOn 112 [jv_P 80, jv_I v1, jv_I v2, jv_I v3, jv_I v4, jv_I v5, jv_I v6] (jv_pu r []) L2 g2 Q)))) :
  jv_At jv_T jv_ml kSa_goOn 69 [jv_P 80, jv_I v1, jv_I v2, jv_I v3, jv_I v4, jv_I v5, jv_I v6] [] (LL n l) g Q :=
  jv_of_wp (gok9 (A := A)) (md := []) (stop := [69]) (tab := jt_Sa_goOn) rfl 400 _ _ _ _ _ h
set_option maxRecDepth 100000 in
theorem sg_Sa_goOn_112 {A : jA} {n l : Nat} {g : jv_S} {Q : jv_V → jv_L → jv_S → Prop} {v1 v2 v3 v4 v5 v6 : Int} (h :
   jv_r32 (v6 + (1 : Int)) ∧
    jv_At jv_T jv_ml kSa_goOn 69 [jv_P 80, jv_I v1, jv_I v2, jv_I v3, jv_I v4, jv_I v5, jv_I (v6 + (1 : Int))] [] (LL n l) g Q) :
  jv_At jv_T jv_ml kSa_goOn 112 [jv_P 80, jv_I v1, jv_I v2, jv_I v3, jv_I v4, jv_I v5, jv_I v6] [] (LL n l) g Q :=
  jv_of_wp (gok9 (A := A)) (md := []) (stop := [69]) (tab := jt_Sa_goOn) rfl 400 _ _ _ _ _ h
def emp (A : jA) (D : Nat → Nat) : Nat := mk (fun c => decide (D c = 0)) (ln A)
theorem tr_Sa_goOn {A : jA} {n l : Nat} {g : jv_S} {Q : jv_V → jv_L → jv_S → Prop} {X Z : (Nat → Nat) → Prop} {D : Nat → Nat} {c : Nat} (hN : CN A g) (hW : CW 40 A g) (hn4 : nd A ≤ 4) (hl6 : ln A ≤ 6) (hWE : WE A g) (hZ : ZS A X Z g) (hD : vdC A D) (hd : ∀ c : Nat, c < ln A → g 85 c = D c) (hc : c < ln A) (h0 : D c ≠ 0)
  (hQ : ∀ g' : jv_S, ZS A X (fun E => Z E ∨ stL A D c E) g' → (∀ w : Int, jv_r32 (g 83 w) → jv_r32 (g' 83 w)) → (∀ (p : Nat) (i : Int), ¬ (p = 81 ∨ p = 83 ∨ (p = 80 ∧ i = 8)) → g' p i = g p i) → Q jv_U (LL n l) g') :
  jv_Ca jv_T jv_ml kSa_goOn [jv_P 80, jv_I (cn A D : Nat), jv_I c, jv_I (emp A D : Nat)] (LL n l) g Q := by
  have hw := hN.1
  have f1 := hN.2.1
  have f2 := hN.2.2.1
  have hle := hD.1 c hc
  obtain ⟨y, hy⟩ : ∃ y, D c = y + 1 := ⟨D c - 1, by omega⟩
  have fd := hd c hc
  have fw := hWE.1 c hc
  have ft := (hN.2.2.2.1 c hc).2.1
  have hu := cn_up (A := A) (D := D) (c := c) (v := 0) hc
  rw [Nat.zero_mul, Nat.add_zero, hy] at hu
  have hE0 := up1_vd (A := A) (D := D) (c := c) (v := 0) hD hc (by omega)
  have hltD : cn A D < 15625 := vd_lt (by omega) (by omega) hl6 hD
  have e1 : (((y + 1 : Nat)) : Int) * (((nd A + 1) ^ c : Nat) : Int) = (((y + 1) * (nd A + 1) ^ c : Nat) : Int) := by rw [Int.natCast_mul]
  have e2 : (cn A D : Int) - (((y + 1) * (nd A + 1) ^ c : Nat) : Int) = (cn A (up1 D c 0) : Nat) := by omega
  have fk : g 49 ((c : Int) * 6 + (((y + 1 : Nat) : Int) - 1)) = tk A c y := by
    have := hW.2.2.2 c y hc (by omega)
    rw [show (((y + 1 : Nat) : Int) - 1) = (y : Int) by omega]
    exact this
  have tk31 := i31 (tk_ltl (A := A) c y) (by omega)
  have em31 : emp A D < 2147483648 := i31 (mk_lt (fun c => decide (D c = 0)) (ln A)) (by omega)
  apply sg_Sa_goOn_0 (A := A)
  rw [fd, hy, fw, e1, e2, ft, fk, jb_and tk31 em31]
  refine ⟨⟨by omega, by omega⟩, ⟨by omega, by omega⟩, ⟨by omega, by omega⟩, ⟨by omega, by omega⟩, ⟨by omega, by omega⟩, ⟨by omega, by omega⟩, ⟨by omega, by omega⟩, fun h => ?_, fun h => ⟨⟨by omega, by omega⟩, ⟨by omega, by omega⟩, ⟨by omega, by omega⟩, ⟨by omega, by omega⟩, ?_⟩⟩
  · refine tr_Sa_reach hn4 hl6 hZ hE0 rfl (fun g2 a1 a3 a2 => ?_)
    apply sg_Sa_goOn_43 (A := A)
    refine hQ g2 (ZS_ext a1 (fun E _ => ?_)) a3 a2
    constructor
    · rintro (a | a)
      · exact Or.inl a
      · exact Or.inr (Or.inr (Or.inl ⟨y, by omega, hy, by omega, a⟩))
    · rintro (a | ⟨z, a, b, _⟩ | ⟨z, a, b, d, e⟩ | ⟨z, d, a, b, e, f, _⟩)
      · exact Or.inl a
      · omega
      · exact Or.inr e
      · omega
  · have main : ∀ d, d ≤ ln A → ∀ g' : jv_S, ZS A X (fun E => Z E ∨ ∃ d', d' < d ∧ (tk A c y).testBit d' = true ∧ D d' = 0 ∧ E = up1 (up1 D c 0) d' (y + 1)) g' → (∀ w : Int, jv_r32 (g 83 w) → jv_r32 (g' 83 w)) → (∀ (p : Nat) (i : Int), ¬ (p = 81 ∨ p = 83 ∨ (p = 80 ∧ i = 8)) → g' p i = g p i) → jv_At jv_T jv_ml kSa_goOn 69 [jv_P 80, jv_I (cn A D : Nat), jv_I c, jv_I (emp A D : Nat), jv_I (cn A (up1 D c 0) : Nat), jv_I ((tk A c y &&& emp A D : Nat) : Int), jv_I d] [] (LL n l) (g') Q := by
      apply loop_up
      intro d hdl ih g' h1 hr hf
      have f2' : g' 14 1 = ln A := by rw [hf _ _ (by omega)]; exact f2
      apply sg_Sa_goOn_69 (A := A)
      refine ⟨fun h3 => hQ g' (ZS_ext h1 (fun E _ => ?_)) hr hf, fun h3 => ?_⟩
      · constructor
        · rintro (a | ⟨d', a, b, e, f⟩)
          · exact Or.inl a
          · exact Or.inr (Or.inr (Or.inr ⟨y, d', by omega, by omega, hy, by omega, b, e, f⟩))
        · rintro (a | ⟨z, a, b, _⟩ | ⟨z, a, b, e, f⟩ | ⟨z, d', a, b, e, f, q, q2, q3⟩)
          · exact Or.inl a
          · omega
          · omega
          · have hzy : z = y := by omega
            subst hzy
            exact Or.inr ⟨d', by omega, q, q2, q3⟩
      · have fw' : g' 84 d = (((nd A + 1) ^ d : Nat) : Int) := by rw [hf _ _ (by omega)]; exact hWE.1 d (by omega)
        have fd' : g' 85 c = ((y + 1 : Nat) : Int) := by rw [hf _ _ (by omega), fd, hy]
        have l31 : tk A c y &&& emp A D < 2147483648 := Nat.lt_of_le_of_lt Nat.and_le_left tk31
        have hbd : (tk A c y &&& emp A D).testBit d = ((tk A c y).testBit d && decide (D d = 0)) := by unfold emp; rw [Nat.testBit_and, mk_bit, decide_eq_true (show d < ln A by omega), Bool.true_and]
        rw [fw', fd']
        by_cases hb : (tk A c y).testBit d = true ∧ D d = 0
        · have hbit : (tk A c y &&& emp A D).testBit d = true := by rw [hbd, hb.1, decide_eq_true hb.2]; rfl
          have e0 := hb_t hbit
          have hdc := tk_nc hw hc hb.1
          have hu2 := cn_up (A := A) (D := up1 D c 0) (c := d) (v := y + 1) (by omega)
          have hz : up1 D c 0 d = 0 := by unfold up1; rw [if_neg hdc]; exact hb.2
          rw [hz, Nat.zero_mul, Nat.add_zero] at hu2
          have hE := up1_vd (A := A) (D := up1 D c 0) (c := d) (v := y + 1) hE0 (by omega) (by omega)
          have hlt : cn A (up1 (up1 D c 0) d (y + 1)) < 15625 := vd_lt (by omega) (by omega) hl6 hE
          have e3 : ((y + 1 : Nat) : Int) * (((nd A + 1) ^ d : Nat) : Int) = (((y + 1) * (nd A + 1) ^ d : Nat) : Int) := by rw [Int.natCast_mul]
          rw [e0, e3]
          refine ⟨⟨by omega, by omega, by omega, by omega⟩, fun h => by omega, fun _ => ⟨⟨by omega, by omega⟩, ⟨by omega, by omega⟩, ⟨by omega, by omega⟩, ⟨by omega, by omega⟩, ?_⟩⟩
          refine tr_Sa_reach hn4 hl6 h1 hE (by omega) (fun g2 a1 a3 a2 => ?_)
          apply sg_Sa_goOn_112 (A := A)
          refine ⟨⟨by omega, by omega⟩, ih (by omega) g2 (ZS_ext a1 (fun E _ => ?_)) (fun w hw => a3 w (hr w hw)) (fun p i hp => by rw [a2 _ _ hp]; exact hf p i hp)⟩
          constructor
          · rintro ((a | ⟨z, a, b⟩) | a)
            · exact Or.inl a
            · exact Or.inr ⟨z, by omega, b⟩
            · exact Or.inr ⟨d, by omega, hb.1, hb.2, a⟩
          · rintro (a | ⟨z, a, b, e, f⟩)
            · exact Or.inl (Or.inl a)
            · by_cases hzd : z = d
              · subst hzd; exact Or.inr f
              · exact Or.inl (Or.inr ⟨z, by omega, b, e, f⟩)
        · have hbit : (tk A c y &&& emp A D).testBit d = false := by
            rw [hbd]
            cases hb1 : (tk A c y).testBit d with
            | false => rfl
            | true => rw [decide_eq_false (fun h => hb ⟨hb1, h⟩)]; rfl
          have e0 := hb_f hbit
          have := ih (by omega) g' (ZS_ext h1 (fun E _ => ⟨fun h => h.imp id (fun ⟨z, a, b⟩ => ⟨z, by omega, b⟩), fun h => h.imp id (fun ⟨z, a, b, e, f⟩ => ⟨z, by
            by_cases hzd : z = d
            · subst hzd; exact absurd ⟨b, e⟩ hb
            · omega, b, e, f⟩)⟩)) hr hf
          rw [e0]
          repeat' (first | (with_reducible assumption) | apply And.intro | intro _)
          all_goals (first | omega | exact LLx_ok | assumption | skip)
    exact main 0 (by omega) g (ZS_ext hZ (fun E _ => ⟨fun h => Or.inl h, fun h => h.elim id (fun ⟨z, a, _⟩ => by omega)⟩)) (fun _ h => h) (fun _ _ _ => rfl)
set_option maxRecDepth 100000 in
theorem sg_Sa_visit_0 {A : jA} {n l : Nat} {g : jv_S} {Q : jv_V → jv_L → jv_S → Prop} {v1 v2 : Int} (h :
   jv_At jv_T jv_ml kSa_visit 8 [jv_P 80, jv_I v1, jv_I v2, jv_I v1, jv_I (0 : Int), jv_I (0 : Int)] [] (LL n l) g Q) :
  jv_At jv_T jv_ml kSa_visit 0 [jv_P 80, jv_I v1, jv_I v2, jv_U, jv_U, jv_U] [] (LL n l) g Q :=
  jv_of_wp (gok9 (A := A)) (md := []) (stop := [8, 119]) (tab := jt_Sa_visit) rfl 400 _ _ _ _ _ h
set_option maxRecDepth 100000 in
theorem sg_Sa_visit_8 {A : jA} {n l : Nat} {g : jv_S} {Q : jv_V → jv_L → jv_S → Prop} {v1 v2 v3 v4 v5 : Int} (h :
   ((g 14 1) ≤ v5 →
     jv_r32 ((g 80 9) + (1 : Int)) ∧
      jv_Ca jv_T jv_ml kSa_isDead [jv_P 80] (LL n l) (jv_up g 80 9 ((g 80 9) + (1 : Int))) (fun r L2 g2 => jv_At jv_T jv_ml kSa_visit 89 [jv_P 80, jv_I v1, jv_I v2, jv_I v3, jv_I v4, jv_I v5] (jv_pu r []) L2 g2 Q)) ∧
    (¬ (g 14 1) ≤ v5 →
     jv_r32 ((g 14 0) + (1 : Int)) ∧
      (0 ≤ v3 ∧ 0 < ((g 14 0) + (1 : Int))) ∧
      (0 ≤ v5 ∧ v5 < 6) ∧ 
      jv_r32 ((g 14 0) + (1 : Int)) ∧
      (0 ≤ v3 ∧ 0 < ((g 14 0) + (1 : Int))) ∧
      (0 ≤ v5 ∧ v5 < 6) ∧
      (((jv_up g 85 v5 (v3 % ((g 14 0) + (1 : Int)))) 85 v5) = 0 →
       jv_r32 (v5 + (1 : Int)) ∧
        jv_At jv_T jv_ml kSa_visit 8 [jv_P 80, jv_I v1, jv_I v2, jv_I (v3 / ((g 14 0) + (1 : Int))), jv_I (jv_or v4 (jv_shl (1 : Int) v5)), jv_I (v5 + (1 : Int))] [] (LL n l) (jv_up g 85 v5 (v3 % ((g 14 0) + (1 : Int)))) Q) ∧
      (¬ ((jv_up g 85 v5 (v3 % ((g 14 0) + (1 : Int)))) 85 v5) = 0 →
       jv_r32 (v5 + (1 : Int)) ∧
        jv_At jv_T jv_ml kSa_visit 8 [jv_P 80, jv_I v1, jv_I v2, jv_I (v3 / ((g 14 0) + (1 : Int))), jv_I v4, jv_I (v5 + (1 : Int))] [] (LL n l) (jv_up g 85 v5 (v3 % ((g 14 0) + (1 : Int)))) Q))) :
  jv_At jv_T jv_ml kSa_visit 8 [jv_P 80, jv_I v1, jv_I v2, jv_I v3, jv_I v4, jv_I v5] [] (LL n l) g Q :=
  jv_of_wp (gok9 (A := A)) (md := []) (stop := [8, 119]) (tab := jt_Sa_visit) rfl 400 _ _ _ _ _ h
set_option maxRecDepth 100000 in
theorem sg_Sa_visit_89 {A : jA} {n l : Nat} {g : jv_S} {Q : jv_V → jv_L → jv_S → Prop} {v1 v2 v3 v4 v5 s0 : Int} (h :
   (s0 = 0 →
     jv_At jv_T jv_ml kSa_visit 119 [jv_P 80, jv_I v1, jv_I v2, jv_I v3, jv_I v4, jv_I (0 : Int)] [] (LL n l) g Q) ∧
    (¬ s0 = 0 →
     jv_r32 ((g 80 10) + (1 : Int)) ∧
      ((g 80 11) = (-9 : Int) →
       jv_At jv_T jv_ml kSa_visit 119 [jv_P 80, jv_I v1, jv_I v2, jv_I v3, jv_I v4, jv_I (0 : Int)] [] (LL n l) (jv_up (jv_up g 80 10 ((g 80 10) + (1 : Int))) 80 11 v2) Q) ∧
      (¬ (g 80 11) = (-9 : Int) →
       jv_At jv_T jv_ml kSa_visit 119 [jv_P 80, jv_I v1, jv_I v2, jv_I v3, jv_I v4, jv_I (0 : Int)] [] (LL n l) (jv_up g 80 10 ((g 80 10) + (1 : Int))) Q))) :
  jv_At jv_T jv_ml kSa_visit 89 [jv_P 80, jv_I v1, jv_I v2, jv_I v3, jv_I v4, jv_I v5] [jv_I s0] (LL n l) g Q :=
  jv_of_wp (gok9 (A := A)) (md := []) (stop := [8, 119]) (tab := jt_Sa_visit) rfl 400 _ _ _ _ _ h
set_option maxRecDepth 100000 in
theorem sg_Sa_visit_119 {A : jA} {n l : Nat} {g : jv_S} {Q : jv_V → jv_L → jv_S → Prop} {v1 v2 v3 v4 v5 : Int} (h :
   ((g 14 1) ≤ v5 →
     Q jv_U (LL n l) g) ∧
    (¬ (g 14 1) ≤ v5 →
     (0 ≤ v5 ∧ v5 < 6) ∧
      ((g 85 v5) = 0 →
       jv_Ca jv_T jv_ml kSa_setOut [jv_P 80, jv_I v1, jv_I v5] (LL n l) g (fun r L2 g2 => jv_At jv_T jv_ml kSa_visit 148 [jv_P 80, jv_I v1, jv_I v2, jv_I v3, jv_I v4, jv_I v5] (jv_pu r []) L2 g2 Q)) ∧
      (¬ (g 85 v5) = 0 →
       jv_Ca jv_T jv_ml kSa_goOn [jv_P 80, jv_I v1, jv_I v5, jv_I v4] (LL n l) g (fun r L2 g2 => jv_At jv_T jv_ml kSa_visit 160 [jv_P 80, jv_I v1, jv_I v2, jv_I v3, jv_I v4, jv_I v5] (jv_pu r []) L2 g2 Q)))) :
  jv_At jv_T jv_ml kSa_visit 119 [jv_P 80, jv_I v1, jv_I v2, jv_I v3, jv_I v4, jv_I v5] [] (LL n l) g Q :=
  jv_of_wp (gok9 (A := A)) (md := []) (stop := [8, 119]) (tab := jt_Sa_visit) rfl 400 _ _ _ _ _ h
set_option maxRecDepth 100000 in
theorem sg_Sa_visit_148 {A : jA} {n l : Nat} {g : jv_S} {Q : jv_V → jv_L → jv_S → Prop} {v1 v2 v3 v4 v5 : Int} (h :
   jv_r32 (v5 + (1 : Int)) ∧
    jv_At jv_T jv_ml kSa_visit 119 [jv_P 80, jv_I v1, jv_I v2, jv_I v3, jv_I v4, jv_I (v5 + (1 : Int))] [] (LL n l) g Q) :
  jv_At jv_T jv_ml kSa_visit 148 [jv_P 80, jv_I v1, jv_I v2, jv_I v3, jv_I v4, jv_I v5] [] (LL n l) g Q :=
  jv_of_wp (gok9 (A := A)) (md := []) (stop := [8, 119]) (tab := jt_Sa_visit) rfl 400 _ _ _ _ _ h
set_option maxRecDepth 100000 in
theorem sg_Sa_visit_160 {A : jA} {n l : Nat} {g : jv_S} {Q : jv_V → jv_L → jv_S → Prop} {v1 v2 v3 v4 v5 : Int} (h :
   jv_r32 (v5 + (1 : Int)) ∧
    jv_At jv_T jv_ml kSa_visit 119 [jv_P 80, jv_I v1, jv_I v2, jv_I v3, jv_I v4, jv_I (v5 + (1 : Int))] [] (LL n l) g Q) :
  jv_At jv_T jv_ml kSa_visit 160 [jv_P 80, jv_I v1, jv_I v2, jv_I v3, jv_I v4, jv_I v5] [] (LL n l) g Q :=
  jv_of_wp (gok9 (A := A)) (md := []) (stop := [8, 119]) (tab := jt_Sa_visit) rfl 400 _ _ _ _ _ h
theorem hn_dm {b : Nat} {D : Nat → Nat} {c e : Nat} (h : D c < b) : hn b D c (e + 1) % b = D c ∧ hn b D c (e + 1) / b = hn b D (c + 1) e := by
  have hb : 0 < b := by omega
  constructor
  · show (D c + b * hn b D (c + 1) e) % b = _
    rw [Nat.add_mul_mod_self_left]; exact Nat.mod_eq_of_lt h
  · show (D c + b * hn b D (c + 1) e) / b = _
    rw [Nat.add_mul_div_left _ _ hb, Nat.div_eq_of_lt h, Nat.zero_add]
theorem tr_Sa_visit {A : jA} {n l : Nat} {g : jv_S} {Q : jv_V → jv_L → jv_S → Prop} {X Z : (Nat → Nat) → Prop} {D : Nat → Nat} {k9 k10 k11 step : Int} (hN : CN A g) (hW : CW 40 A g) (hn4 : nd A ≤ 4) (hl6 : ln A ≤ 6) (hWE : WE A g) (hZ : ZS A X Z g) (hD : vdC A D) (h9 : g 80 9 = k9) (h10 : g 80 10 = k10) (h11 : g 80 11 = k11) (b9 : 0 ≤ k9 ∧ k9 ≤ 100000) (b10 : 0 ≤ k10 ∧ k10 ≤ 100000)
  (hQ : ∀ g' : jv_S, ZS A X (fun E => Z E ∨ stC A D E) g' → g' 80 9 = k9 + 1 → g' 80 10 = k10 + (if dD A D ≠ 0 then 1 else 0) → g' 80 11 = (if dD A D ≠ 0 ∧ k11 = -9 then step else k11) → (∀ w : Int, jv_r32 (g 83 w) → jv_r32 (g' 83 w)) → (∀ (p : Nat) (i : Int), ¬ (p = 81 ∨ p = 83 ∨ p = 85 ∨ (p = 80 ∧ 8 ≤ i ∧ i ≤ 11)) → g' p i = g p i) → Q jv_U (LL n l) g') :
  jv_Ca jv_T jv_ml kSa_visit [jv_P 80, jv_I (cn A D : Nat), jv_I step] (LL n l) g Q := by
  have f1 := hN.2.1
  have f2 := hN.2.2.1
  -- the lanes one by one
  have lanes : ∀ (v3 : Int) (g0 : jv_S), (∀ c : Nat, c < ln A → g0 85 c = D c) → (∀ (p : Nat) (i : Int), ¬ (p = 85 ∨ (p = 80 ∧ 9 ≤ i ∧ i ≤ 11)) → g0 p i = g p i) → g0 80 9 = k9 + 1 → g0 80 10 = k10 + (if dD A D ≠ 0 then 1 else 0) → g0 80 11 = (if dD A D ≠ 0 ∧ k11 = -9 then step else k11) → ∀ c, c ≤ ln A → ∀ g' : jv_S, ZS A X (fun E => Z E ∨ ∃ d, d < c ∧ stL A D d E) g' → (∀ w : Int, jv_r32 (g0 83 w) → jv_r32 (g' 83 w)) → (∀ (p : Nat) (i : Int), ¬ (p = 81 ∨ p = 83 ∨ (p = 80 ∧ i = 8)) → g' p i = g0 p i) → jv_At jv_T jv_ml kSa_visit 119 [jv_P 80, jv_I (cn A D : Nat), jv_I step, jv_I v3, jv_I (emp A D : Nat), jv_I c] [] (LL n l) (g') Q := by
    intro v3 g0 q85 qf q9 q10 q11
    apply loop_up
    intro c hc ih g' h1 hr hf
    have hN' : CN A g' := CN_fr hN (fun p i a b => by rw [hf _ _ (by omega), qf _ _ (by omega)])
    have hW' : CW 40 A g' := CW_fr hW (by rw [hf _ _ (by omega), qf _ _ (by omega)]) (fun i => by rw [hf _ _ (by omega), qf _ _ (by omega)]) (fun i => by rw [hf _ _ (by omega), qf _ _ (by omega)]) (fun i => by rw [hf _ _ (by omega), qf _ _ (by omega)])
    have hWE' : WE A g' := WE_fr hWE (fun i => by rw [hf _ _ (by omega), qf _ _ (by omega)]) (fun i => by rw [hf _ _ (by omega), qf _ _ (by omega)])
    have f2' := hN'.2.2.1
    have d85 : ∀ c : Nat, c < ln A → g' 85 c = D c := fun c hc => by rw [hf _ _ (by omega)]; exact q85 c hc
    apply sg_Sa_visit_119 (A := A)
    have ext : ∀ g2 : jv_S, c < ln A → ZS A X (fun E => (Z E ∨ ∃ d, d < c ∧ stL A D d E) ∨ stL A D c E) g2 → ZS A X (fun E => Z E ∨ ∃ d, d < c + 1 ∧ stL A D d E) g2 := fun g2 hc' hz => ZS_ext hz (fun E _ => ⟨fun h => by
        rcases h with (a | ⟨d, a, b⟩) | a
        · exact Or.inl a
        · exact Or.inr ⟨d, by omega, b⟩
        · exact Or.inr ⟨c, by omega, a⟩, fun h => by
        rcases h with a | ⟨d, a, b⟩
        · exact Or.inl (Or.inl a)
        · by_cases hdc : d = c
          · subst hdc; exact Or.inr b
          · exact Or.inl (Or.inr ⟨d, by omega, b⟩)⟩)
    refine ⟨fun h => hQ g' (ZS_ext h1 (fun E _ => ?_)) (by rw [hf _ _ (by omega)]; exact q9) (by rw [hf _ _ (by omega)]; exact q10) (by rw [hf _ _ (by omega)]; exact q11) (fun w hw => hr w (by rw [qf _ _ (by omega)]; exact hw)) (fun p i hp => by rw [hf _ _ (by omega), qf _ _ (by omega)]), fun h => ⟨⟨by omega, by omega⟩, ?_⟩⟩
    · rw [stC_L]
      exact ⟨fun h => h.imp id (fun ⟨d, a, b⟩ => ⟨d, by omega, b⟩), fun h => h.imp id (fun ⟨d, a, b⟩ => ⟨d, by omega, b⟩)⟩
    · have hc' : c < ln A := by omega
      rw [d85 c hc']
      refine ⟨fun h3 => ?_, fun h3 => ?_⟩
      · refine tr_Sa_setOut hN' hn4 hl6 hWE' h1 hD hc' (by omega) (fun g2 a1 a3 a2 => ?_)
        apply sg_Sa_visit_148 (A := A)
        exact ⟨⟨by omega, by omega⟩, ih hc' g2 (ext g2 hc' a1) (fun w hw => a3 w (hr w hw)) (fun p i hp => by rw [a2 _ _ hp]; exact hf p i hp)⟩
      · refine tr_Sa_goOn hN' hW' hn4 hl6 hWE' h1 hD d85 hc' (by omega) (fun g2 a1 a3 a2 => ?_)
        apply sg_Sa_visit_160 (A := A)
        exact ⟨⟨by omega, by omega⟩, ih hc' g2 (ext g2 hc' a1) (fun w hw => a3 w (hr w hw)) (fun p i hp => by rw [a2 _ _ hp]; exact hf p i hp)⟩
  have digits : ∀ c, c ≤ ln A → ∀ (g' : jv_S) (em : Int), em = (mk (fun c => decide (D c = 0)) c : Nat) → (∀ d : Nat, d < c → g' 85 d = D d) → (∀ (p : Nat) (i : Int), ¬ p = 85 → g' p i = g p i) → jv_At jv_T jv_ml kSa_visit 8 [jv_P 80, jv_I (cn A D : Nat), jv_I step, jv_I (hn (nd A + 1) D c (ln A - c) : Nat), jv_I em, jv_I c] [] (LL n l) (g') Q := by
    apply loop_up
    intro c hc ih g' em hem h1 hf
    have f1' : g' 14 0 = nd A := by rw [hf _ _ (by omega)]; exact f1
    have f2' : g' 14 1 = ln A := by rw [hf _ _ (by omega)]; exact f2
    apply sg_Sa_visit_8 (A := A)
    rw [f1']
    refine ⟨fun h => ?_, fun h => ?_⟩
    · have hcl : c = ln A := by omega
      subst hcl
      have e9 : g' 80 9 = k9 := by rw [hf _ _ (by omega)]; exact h9
      rw [e9]
      refine ⟨⟨by omega, by omega⟩, tr_Sa_isDead (CN_fr hN (fun p i a b => by rw [up_ne (by omega), hf _ _ (by omega)])) (CW_fr hW (by rw [up_ne (by omega), hf _ _ (by omega)]) (fun i => by rw [up_ne (by omega), hf _ _ (by omega)]) (fun i => by rw [up_ne (by omega), hf _ _ (by omega)]) (fun i => by rw [up_ne (by omega), hf _ _ (by omega)])) hl6 hD (fun c hc => by rw [up_ne (by omega)]; exact h1 c hc) ?_⟩
      have zz : ∀ g2 : jv_S, (∀ (p : Nat) (i : Int), ¬ (p = 85 ∨ (p = 80 ∧ 9 ≤ i ∧ i ≤ 11)) → g2 p i = g p i) → ZS A X (fun E => Z E ∨ ∃ d, d < 0 ∧ stL A D d E) g2 := fun g2 hq => by
        obtain ⟨z1, z2, z3, z4⟩ := ZS_ext (Z' := fun E => Z E ∨ ∃ d, d < 0 ∧ stL A D d E) hZ (fun E _ => ⟨fun h => Or.inl h, fun h => h.elim id (fun ⟨d, a, _⟩ => by omega)⟩)
        exact ⟨fun s hs => by rw [wbG_fr (g := g) (fun i => hq _ _ (by omega))]; exact z1 s hs, fun s hs => by rw [wbG_fr (g := g) (fun i => hq _ _ (by omega))]; exact z2 s hs, by rw [hq _ _ (by omega)]; exact z3, by rw [hq _ _ (by omega)]; exact z4⟩
      apply sg_Sa_visit_89 (A := A)
      rw [jp0]
      have e10 : jv_up g' 80 9 (k9 + 1) 80 10 = k10 := by rw [up_ne (by omega), hf _ _ (by omega)]; exact h10
      have e11 : jv_up g' 80 9 (k9 + 1) 80 11 = k11 := by rw [up_ne (by omega), hf _ _ (by omega)]; exact h11
      rw [e10, e11, hem]
      refine ⟨fun h3 => ?_, fun h3 => ⟨⟨by omega, by omega⟩, fun h4 => ?_, fun h4 => ?_⟩⟩
      · have hq : ∀ (p : Nat) (i : Int), ¬ (p = 85 ∨ (p = 80 ∧ 9 ≤ i ∧ i ≤ 11)) → jv_up g' 80 9 (k9 + 1) p i = g p i := fun p i hp => by rw [up_ne (by omega), hf _ _ (by omega)]
        exact lanes _ _ (fun c hc => by rw [up_ne (by omega)]; exact h1 c hc) hq (up_eq rfl rfl) (by rw [e10, if_neg h3]; omega) (by rw [e11, if_neg (fun h => h3 h.1)]) 0 (by omega) _ (zz _ hq) (fun _ h => h) (fun _ _ _ => rfl)
      · have hq : ∀ (p : Nat) (i : Int), ¬ (p = 85 ∨ (p = 80 ∧ 9 ≤ i ∧ i ≤ 11)) → jv_up (jv_up (jv_up g' 80 9 (k9 + 1)) 80 10 (k10 + 1)) 80 11 step p i = g p i := fun p i hp => by rw [up_ne (by omega), up_ne (by omega), up_ne (by omega), hf _ _ (by omega)]
        have h3' : dD A D ≠ 0 := Classical.not_not.mp h3
        exact lanes _ _ (fun c hc => by rw [up_ne (by omega), up_ne (by omega), up_ne (by omega)]; exact h1 c hc) hq (by rw [up_ne (by omega), up_ne (by omega), up_eq rfl rfl]) (by rw [up_ne (by omega), up_eq rfl rfl, if_pos h3']) (by rw [up_eq rfl rfl, if_pos ⟨h3', h4⟩]) 0 (by omega) _ (zz _ hq) (fun _ h => h) (fun _ _ _ => rfl)
      · have hq : ∀ (p : Nat) (i : Int), ¬ (p = 85 ∨ (p = 80 ∧ 9 ≤ i ∧ i ≤ 11)) → jv_up (jv_up g' 80 9 (k9 + 1)) 80 10 (k10 + 1) p i = g p i := fun p i hp => by rw [up_ne (by omega), up_ne (by omega), hf _ _ (by omega)]
        have h3' : dD A D ≠ 0 := Classical.not_not.mp h3
        exact lanes _ _ (fun c hc => by rw [up_ne (by omega), up_ne (by omega)]; exact h1 c hc) hq (by rw [up_ne (by omega), up_eq rfl rfl]) (by rw [up_eq rfl rfl, if_pos h3']) (by rw [up_ne (by omega), e11, if_neg (fun h => h4 h.2)]) 0 (by omega) _ (zz _ hq) (fun _ h => h) (fun _ _ _ => rfl)
    · have hc' : c < ln A := by omega
      have hle := hD.1 c hc'
      obtain ⟨m1, m2⟩ := hn_dm (b := nd A + 1) (D := D) (c := c) (e := ln A - (c + 1)) (by omega)
      rw [show ln A - (c + 1) + 1 = ln A - c by omega] at m1 m2
      have e1 : (hn (nd A + 1) D c (ln A - c) : Int) % ((nd A : Int) + 1) = (D c : Int) := by
        have : ((hn (nd A + 1) D c (ln A - c) % (nd A + 1) : Nat) : Int) = (D c : Int) := by rw [m1]
        rw [← this]
        rfl
      have e2 : (hn (nd A + 1) D c (ln A - c) : Int) / ((nd A : Int) + 1) = (hn (nd A + 1) D (c + 1) (ln A - (c + 1)) : Int) := by
        have : ((hn (nd A + 1) D c (ln A - c) / (nd A + 1) : Nat) : Int) = (hn (nd A + 1) D (c + 1) (ln A - (c + 1)) : Int) := by rw [m2]
        rw [← this]
        rfl
      rw [e1, e2, show jv_up g' 85 (c : Int) (D c : Int) 85 (c : Int) = (D c : Int) from up_eq rfl rfl]
      have nx : ∀ em' : Int, em' = (mk (fun c => decide (D c = 0)) (c + 1) : Nat) → jv_At jv_T jv_ml kSa_visit 8 [jv_P 80, jv_I (cn A D : Nat), jv_I step, jv_I (hn (nd A + 1) D (c + 1) (ln A - (c + 1)) : Nat), jv_I (em'), jv_I (c + 1)] [] (LL n l) (jv_up g' 85 c (D c)) Q := fun em' hem' => ih hc' _ em' hem' (fun d hd => by
        by_cases hdc : d = c
        · subst hdc; rw [up_eq rfl rfl]
        · rw [up_ne (by omega)]; exact h1 d (by omega)) (fun p i hp => by rw [up_ne (by omega)]; exact hf p i hp)
      refine ⟨⟨by omega, by omega⟩, ⟨by omega, by omega⟩, ⟨by omega, by omega⟩, ⟨by omega, by omega⟩, ⟨by omega, by omega⟩, ⟨by omega, by omega⟩, fun h3 => ⟨⟨by omega, by omega⟩, nx _ (mk_or (by omega) hem (decide_eq_true (show D c = 0 by omega)))⟩, fun h3 => ⟨⟨by omega, by omega⟩, nx _ (mk_no hem (decide_eq_false (show ¬ D c = 0 by omega)))⟩⟩
  exact sg_Sa_visit_0 (A := A) (digits 0 (by omega) g 0 rfl (fun d hd => by omega) (fun _ _ _ => rfl))
