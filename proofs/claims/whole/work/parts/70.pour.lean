/-! ===== the class pours ===== -/
theorem led_bit {A : jA} {s y m i : Nat} : (led A s y m).testBit i = true ↔ ∃ b, b < m ∧ s.testBit b = true ∧ (tk A b y).testBit i = true := by
  unfold led
  rw [un_bit]
  constructor
  · rintro ⟨k, k1, k2⟩
    by_cases hb : s.testBit k = true
    · rw [if_pos hb] at k2; exact ⟨k, k1, hb, k2⟩
    · rw [if_neg hb] at k2; simp at k2
  · rintro ⟨k, k1, k2, k3⟩
    exact ⟨k, k1, by rw [if_pos k2]; exact k3⟩
theorem bit_ex {s : Nat} (h : s ≠ 0) : ∃ c, s.testBit c = true := by
  apply Classical.byContradiction
  intro hn
  apply h
  apply Nat.eq_of_testBit_eq
  intro i
  cases hb : s.testBit i with
  | false => simp
  | true => exact absurd ⟨i, hb⟩ hn
set_option maxRecDepth 100000 in
theorem sg_B_pour_0 {A : jA} {n l : Nat} {g : jv_S} {Q : jv_V → jv_L → jv_S → Prop} {v1 : Int} (h :
   jv_Ca jv_T jv_ml kAr_fillJ [jv_P 134, jv_J (0 : Int)] (LL n l) g (fun r L2 g2 => jv_At jv_T jv_ml kB_pour 8 [jv_P 131, jv_I v1, jv_U, jv_U, jv_U, jv_U] (jv_pu r []) L2 g2 Q)) :
  jv_At jv_T jv_ml kB_pour 0 [jv_P 131, jv_I v1, jv_U, jv_U, jv_U, jv_U] [] (LL n l) g Q :=
  jv_of_wp (gok9 (A := A)) (md := []) (stop := [18, 64, 94]) (tab := jt_B_pour) rfl 400 _ _ _ _ _ h
set_option maxRecDepth 100000 in
theorem sg_B_pour_8 {A : jA} {n l : Nat} {g : jv_S} {Q : jv_V → jv_L → jv_S → Prop} {v1 : Int} {v2 v3 v4 v5 : jv_V} (h :
   jv_Ca jv_T jv_ml kAr_fillJ [jv_P 135, jv_J (1 : Int)] (LL n l) g (fun r L2 g2 => jv_At jv_T jv_ml kB_pour 16 [jv_P 131, jv_I v1, v2, v3, v4, v5] (jv_pu r []) L2 g2 Q)) :
  jv_At jv_T jv_ml kB_pour 8 [jv_P 131, jv_I v1, v2, v3, v4, v5] [] (LL n l) g Q :=
  jv_of_wp (gok9 (A := A)) (md := []) (stop := [18, 64, 94]) (tab := jt_B_pour) rfl 400 _ _ _ _ _ h
set_option maxRecDepth 100000 in
theorem sg_B_pour_16 {A : jA} {n l : Nat} {g : jv_S} {Q : jv_V → jv_L → jv_S → Prop} {v1 : Int} {v2 v3 v4 v5 : jv_V} (h :
   jv_At jv_T jv_ml kB_pour 18 [jv_P 131, jv_I v1, jv_I (0 : Int), v3, v4, v5] [] (LL n l) g Q) :
  jv_At jv_T jv_ml kB_pour 16 [jv_P 131, jv_I v1, v2, v3, v4, v5] [] (LL n l) g Q :=
  jv_of_wp (gok9 (A := A)) (md := []) (stop := [18, 64, 94]) (tab := jt_B_pour) rfl 400 _ _ _ _ _ h
set_option maxRecDepth 100000 in
theorem sg_B_pour_18 {A : jA} {n l : Nat} {g : jv_S} {Q : jv_V → jv_L → jv_S → Prop} {v1 v2 : Int} {v3 v4 v5 : jv_V} (h :
   ((g 14 0) ≤ v2 →
     (0 ≤ v1 ∧ v1 < 6) ∧
      jv_At jv_T jv_ml kB_pour 64 [jv_P 131, jv_I v1, jv_I (g 61 v1), jv_I (0 : Int), v4, v5] [] (LL n l) g Q) ∧
    (¬ (g 14 0) ≤ v2 →
     (0 ≤ v2 ∧ v2 < 6) ∧
      (0 ≤ v1 ∧ v1 < 6) ∧
      jv_Ca jv_T jv_ml kB_spread [jv_P 131, jv_I (g 42 (v2 * 6 + v1)), jv_J (1 : Int), jv_J (1 : Int)] (LL n l) g (fun r L2 g2 => jv_At jv_T jv_ml kB_pour 46 [jv_P 131, jv_I v1, jv_I v2, v3, v4, v5] (jv_pu r []) L2 g2 Q))) :
  jv_At jv_T jv_ml kB_pour 18 [jv_P 131, jv_I v1, jv_I v2, v3, v4, v5] [] (LL n l) g Q :=
  jv_of_wp (gok9 (A := A)) (md := []) (stop := [18, 64, 94]) (tab := jt_B_pour) rfl 400 _ _ _ _ _ h
set_option maxRecDepth 100000 in
theorem sg_B_pour_46 {A : jA} {n l : Nat} {g : jv_S} {Q : jv_V → jv_L → jv_S → Prop} {v1 v2 : Int} {v3 v4 v5 : jv_V} (h :
   jv_r32 (v2 + (1 : Int)) ∧
    jv_At jv_T jv_ml kB_pour 18 [jv_P 131, jv_I v1, jv_I (v2 + (1 : Int)), v3, v4, v5] [] (LL n l) g Q) :
  jv_At jv_T jv_ml kB_pour 46 [jv_P 131, jv_I v1, jv_I v2, v3, v4, v5] [] (LL n l) g Q :=
  jv_of_wp (gok9 (A := A)) (md := []) (stop := [18, 64, 94]) (tab := jt_B_pour) rfl 400 _ _ _ _ _ h
set_option maxRecDepth 100000 in
theorem sg_B_pour_64 {A : jA} {n l : Nat} {g : jv_S} {Q : jv_V → jv_L → jv_S → Prop} {v1 v2 v3 : Int} {v4 v5 : jv_V} (h :
   ((g 14 1) ≤ v3 →
     Q jv_U (LL n l) g) ∧
    (¬ (g 14 1) ≤ v3 →
     (v2 = 0 →
       Q jv_U (LL n l) g) ∧
      (¬ v2 = 0 →
       jv_Ca jv_T jv_ml kB_ledToFrom [jv_P 131, jv_I v2, jv_I v1] (LL n l) g (fun r L2 g2 => jv_At jv_T jv_ml kB_pour 86 [jv_P 131, jv_I v1, jv_I v2, jv_I v3, v4, v5] (jv_pu r [jv_I v2]) L2 g2 Q)))) :
  jv_At jv_T jv_ml kB_pour 64 [jv_P 131, jv_I v1, jv_I v2, jv_I v3, v4, v5] [] (LL n l) g Q :=
  jv_of_wp (gok9 (A := A)) (md := []) (stop := [18, 64, 94]) (tab := jt_B_pour) rfl 400 _ _ _ _ _ h
set_option maxRecDepth 100000 in
theorem sg_B_pour_86 {A : jA} {n l : Nat} {g : jv_S} {Q : jv_V → jv_L → jv_S → Prop} {v1 v2 v3 s0 s1 : Int} {v4 v5 : jv_V} (h :
   jv_At jv_T jv_ml kB_pour 94 [jv_P 131, jv_I v1, jv_I v2, jv_I v3, jv_I (jv_and s0 (jv_xor s1 (-1 : Int))), jv_I (0 : Int)] [] (LL n l) g Q) :
  jv_At jv_T jv_ml kB_pour 86 [jv_P 131, jv_I v1, jv_I v2, jv_I v3, v4, v5] [jv_I s1, jv_I s0] (LL n l) g Q :=
  jv_of_wp (gok9 (A := A)) (md := []) (stop := [18, 64, 94]) (tab := jt_B_pour) rfl 400 _ _ _ _ _ h
set_option maxRecDepth 100000 in
theorem sg_B_pour_94 {A : jA} {n l : Nat} {g : jv_S} {Q : jv_V → jv_L → jv_S → Prop} {v1 v2 v3 v4 v5 : Int} (h :
   ((g 14 1) ≤ v5 →
     jv_r32 (v3 + (1 : Int)) ∧
      jv_At jv_T jv_ml kB_pour 64 [jv_P 131, jv_I v1, jv_I (jv_and v2 (jv_xor v4 (-1 : Int))), jv_I (v3 + (1 : Int)), jv_I v4, jv_I v5] [] (LL n l) g Q) ∧
    (¬ (g 14 1) ≤ v5 →
     ((0 ≤ v4 ∧ v4 < 2147483648 ∧ 0 ≤ v5 ∧ v5 < 31)) ∧
      ((hb v4 v5) = 0 →
       jv_r32 (v5 + (1 : Int)) ∧
        jv_At jv_T jv_ml kB_pour 94 [jv_P 131, jv_I v1, jv_I v2, jv_I v3, jv_I v4, jv_I (v5 + (1 : Int))] [] (LL n l) g Q) ∧
      (¬ (hb v4 v5) = 0 →
       (0 ≤ v5 ∧ v5 < 10) ∧
        (0 ≤ v1 ∧ v1 < 6) ∧
        (0 ≤ v5 ∧ v5 < 10) ∧
        (0 ≤ v5 ∧ v5 < 10) ∧
        jv_Ca jv_T jv_ml kB_spread [jv_P 131, jv_I (g 49 (v5 * 6 + v1)), jv_J (g 134 v5), jv_J (g 135 v5)] (LL n l) g (fun r L2 g2 => jv_At jv_T jv_ml kB_pour 146 [jv_P 131, jv_I v1, jv_I v2, jv_I v3, jv_I v4, jv_I v5] (jv_pu r []) L2 g2 Q)))) :
  jv_At jv_T jv_ml kB_pour 94 [jv_P 131, jv_I v1, jv_I v2, jv_I v3, jv_I v4, jv_I v5] [] (LL n l) g Q :=
  jv_of_wp (gok9 (A := A)) (md := []) (stop := [18, 64, 94]) (tab := jt_B_pour) rfl 400 _ _ _ _ _ h
set_option maxRecDepth 100000 in
theorem sg_B_pour_146 {A : jA} {n l : Nat} {g : jv_S} {Q : jv_V → jv_L → jv_S → Prop} {v1 v2 v3 v4 v5 : Int} (h :
   jv_r32 (v5 + (1 : Int)) ∧
    jv_At jv_T jv_ml kB_pour 94 [jv_P 131, jv_I v1, jv_I v2, jv_I v3, jv_I v4, jv_I (v5 + (1 : Int))] [] (LL n l) g Q) :
  jv_At jv_T jv_ml kB_pour 146 [jv_P 131, jv_I v1, jv_I v2, jv_I v3, jv_I v4, jv_I v5] [] (LL n l) g Q :=
  jv_of_wp (gok9 (A := A)) (md := []) (stop := [18, 64, 94]) (tab := jt_B_pour) rfl 400 _ _ _ _ _ h
theorem tr_B_pour {A : jA} {n l : Nat} {g : jv_S} {Q : jv_V → jv_L → jv_S → Prop} {y : Nat} (hC : CN A g) (hW : CW 40 A g) (h61 : g 61 y = cr A y) (hy : y < nd A) (hr : NR A y) (hQ : ∀ g' : jv_S, SR 134 135 (NN A) (Sf A y) (ln A) g' → (∀ (p : Nat) (i : Int), ¬ (p = 134 ∨ p = 135) → g' p i = g p i) → Q jv_U (LL n l) g') :
  jv_Ca jv_T jv_ml kB_pour [jv_P 131, jv_I y] (LL n l) g Q := by
  have hw := hC.1
  have w1 := hw.1
  have w2 := hw.2.1
  have hN := NN_pos hw
  have bN := NN_le hw
  have f1 := hC.2.1
  have f2 := hC.2.2.1
  have CNf : ∀ g' : jv_S, (∀ (p : Nat) (i : Int), ¬ (p = 134 ∨ p = 135) → g' p i = g p i) → CN A g' := fun g' h => CN_fr hC (fun p i a b => h _ _ (by omega))
  have CWf : ∀ g' : jv_S, (∀ (p : Nat) (i : Int), ¬ (p = 134 ∨ p = 135) → g' p i = g p i) → CW 40 A g' := fun g' h => CW_fr hW (h _ _ (by omega)) (fun i => h _ _ (by omega)) (fun i => h _ _ (by omega)) (fun i => h _ _ (by omega))
  have rounds : ∀ r, r ≤ ln A → ∀ (L : Nat) (g' : jv_S) (v4 v5 : jv_V), pcr L (ln A) + r ≤ ln A → L < 2 ^ ln A → sb L (cr A y) → SR 134 135 (NN A) (PF A y L) (ln A) g' → (∀ (p : Nat) (i : Int), ¬ (p = 134 ∨ p = 135) → g' p i = g p i) → jv_At jv_T jv_ml kB_pour 64 [jv_P 131, jv_I y, jv_I L, jv_I r, v4, v5] [] (LL n l) (g') Q := by
    apply loop_up
    intro r hrl ih L g' v4 v5 hk hL hLc a1 a2
    have f2' : g' 14 1 = ln A := by rw [a2 _ _ (by omega)]; exact f2
    have fin : L = 0 → Q jv_U (LL n l) g' := fun h0 => hQ g' (SR_ext a1 (fun c _ => PF_full hw hr (fun b hb => by rw [h0] at hb; simp at hb))) a2
    apply sg_B_pour_64 (A := A)
    refine ⟨fun h => fin (pcr_z hL (by omega)), fun h => ⟨fun h0 => fin (by omega), fun h0 => ?_⟩⟩
    have hL0 : L ≠ 0 := by omega
    refine tr_B_ledToFrom (CNf g' a2) (CWf g' a2) hL hy ?_
    apply sg_B_pour_86 (A := A)
    rw [jb_andn (i31 hL (by omega)) (i31 led_lt (by omega))]
    obtain ⟨R, hR⟩ : ∃ R, R = bd L (led A L y (ln A)) := ⟨_, rfl⟩
    rw [← hR]
    have hRb : ∀ c, R.testBit c = true ↔ L.testBit c = true ∧ ¬ ∃ b, b < ln A ∧ L.testBit b = true ∧ (tk A b y).testBit c = true := fun c => by
      rw [hR, bd_bit, Bool.and_eq_true, Bool.not_eq_true', ← led_bit, Bool.not_eq_true]
    have hRL : sb R L := fun c hc => ((hRb c).mp hc).1
    have hRlt : R < 2 ^ ln A := sb_lt hRL hL
    have hne : bd L R ≠ L := fun he => by
      obtain ⟨c, hc⟩ := bit_ex hL0
      refine rdy_ne hr hLc hc (fun c hc => ?_)
      apply Classical.byContradiction
      intro hn
      have h1 : R.testBit c = true := (hRb c).mpr ⟨hc, fun ⟨b, _, b2, b3⟩ => hn ⟨b, b2, b3⟩⟩
      have h2 : (bd L R).testBit c = true := by rw [he]; exact hc
      rw [bd_bit, h1] at h2
      simp at h2
    have inner : ∀ c, c ≤ ln A → ∀ g2 : jv_S, SR 134 135 (NN A) (fun d => PF A y L d + sgm (fun c => if R.testBit c = true ∧ (tk A c y).testBit d = true then Sf A y c / szw A c y else 0) c) (ln A) g2 → (∀ (p : Nat) (i : Int), ¬ (p = 134 ∨ p = 135) → g2 p i = g p i) → jv_At jv_T jv_ml kB_pour 94 [jv_P 131, jv_I y, jv_I L, jv_I r, jv_I R, jv_I c] [] (LL n l) g2 Q := by
      apply loop_up
      intro c hc ihc g2 b1 b2
      have f2'' : g2 14 1 = ln A := by rw [b2 _ _ (by omega)]; exact f2
      apply sg_B_pour_94 (A := A)
      refine ⟨fun h3 => ⟨⟨by omega, by omega⟩, ?_⟩, fun h3 => ?_⟩
      · rw [jb_andn (i31 hL (by omega)) (i31 hRlt (by omega))]
        have hp := pcr_lt bd_sb hL hne
        exact ih (by omega) (bd L R) g2 _ _ (by omega) (bd_lt hL) (sb_trans bd_sb hLc) (SR_ext b1 (fun d _ => by rw [show c = ln A by omega]; exact PF_step hLc hRL)) b2
      have hcl : c < ln A := by omega
      cases hbit : R.testBit c with
      | false =>
        rw [hb_f hbit]
        have r31 := i31 hRlt (by omega)
        refine ⟨⟨by omega, by omega, by omega, by omega⟩, fun _ => ⟨⟨by omega, by omega⟩, ihc hcl g2 (SR_ext b1 (fun d _ => ?_)) b2⟩, fun h => absurd rfl h⟩
        show _ = PF A y L d + (sgm _ c + (if R.testBit c = true ∧ (tk A c y).testBit d = true then Sf A y c / szw A c y else 0))
        rw [if_neg (fun h => by rw [hbit] at h; cases h.1)]
        rfl
      | true =>
        have r31 := i31 hRlt (by omega)
        obtain ⟨c1, c2⟩ := (hRb c).mp hbit
        have hX : PF A y L c + sgm (fun b => if R.testBit b = true ∧ (tk A b y).testBit c = true then Sf A y b / szw A b y else 0) c = Sf A y c := by
          rw [sgm_ext (h := fun _ => 0) c (fun b hb => if_neg (fun h => c2 ⟨b, by omega, hRL b h.1, h.2⟩)), sgm_zero, Nat.add_zero]
          exact PF_full hw hr (fun b hb => by
            cases hx : (tk A b y).testBit c with
            | false => rfl
            | true => exact absurd ⟨b, bt_lt hL hb, hb, hx⟩ c2)
        obtain ⟨u1, u2⟩ := b1 c hcl
        rw [show (fun d => PF A y L d + sgm (fun c => if R.testBit c = true ∧ (tk A c y).testBit d = true then Sf A y c / szw A c y else 0) c) c = Sf A y c from hX] at u1 u2
        have fo : g2 49 ((c : Int) * 6 + y) = tk A c y := (CWf g2 b2).2.2.2 c y hcl hy
        rw [hb_t hbit, u1, u2, fo]
        refine ⟨⟨by omega, by omega, by omega, by omega⟩, fun h => by omega, fun _ => ⟨⟨by omega, by omega⟩, ⟨by omega, by omega⟩, ⟨by omega, by omega⟩, ⟨by omega, by omega⟩, ?_⟩⟩
        obtain ⟨x, q, x1, x2⟩ := cr_wlk (hLc c c1)
        have hV : Sf A y c / szw A c y ≤ 60 * NN A := Nat.le_trans (Nat.div_le_self _ _) (Sf_le hw hcl)
        refine tr_B_spread (V := Sf A y c / szw A c y) (CNf g2 b2) hN (by omega) (tk_ltl _ _) (fun ⟨d, hd⟩ => RP_div (szw_pos hd) (Sf_sz hw hr hd) (NN_szl hw hr x1 x2 hd)) b1 (fun d hd => by
          have h1 := Nat.le_trans (PF_le (L := L) (d := d) hw hr) (Sf_le hw hd)
          have h2 := sgm_pre (f := fun c => if R.testBit c = true ∧ (tk A c y).testBit d = true then Sf A y c / szw A c y else 0) (ln A) hc
          have h3 := PF_step (d := d) hLc hRL
          have h4 := Nat.le_trans (PF_le (L := bd L R) (d := d) hw hr) (Sf_le hw hd)
          omega) (fun g3 d1 d2 => ?_)
        apply sg_B_pour_146 (A := A)
        refine ⟨⟨by omega, by omega⟩, ihc hcl g3 (SR_ext d1 (fun d _ => ?_)) (fun p i hp => by rw [d2 _ _ hp]; exact b2 p i hp)⟩
        show _ = PF A y L d + (sgm _ c + (if R.testBit c = true ∧ (tk A c y).testBit d = true then Sf A y c / szw A c y else 0))
        rw [Nat.add_assoc]
        congr 2
        by_cases hd : (tk A c y).testBit d = true
        · rw [if_pos hd, if_pos ⟨hbit, hd⟩]
        · rw [if_neg hd, if_neg (fun h => hd h.2)]
    exact inner 0 (by omega) g' (SR_ext a1 (fun d _ => rfl)) a2
  have xs : ∀ x, x ≤ nd A → ∀ (g' : jv_S) (v3 v4 v5 : jv_V), SR 134 135 (NN A) (fun d => sgm (fun x => Wf A x y 0 d) x) (ln A) g' → (∀ (p : Nat) (i : Int), ¬ (p = 134 ∨ p = 135) → g' p i = g p i) → jv_At jv_T jv_ml kB_pour 18 [jv_P 131, jv_I y, jv_I x, v3, v4, v5] [] (LL n l) (g') Q := by
    apply loop_up
    intro x hx ih g' v3 v4 v5 a1 a2
    have f1' : g' 14 0 = nd A := by rw [a2 _ _ (by omega)]; exact f1
    have f61 : g' 61 y = cr A y := by rw [a2 _ _ (by omega)]; exact h61
    apply sg_B_pour_18 (A := A)
    refine ⟨fun h => ⟨⟨by omega, by omega⟩, ?_⟩, fun h => ?_⟩
    · rw [f61]
      exact rounds 0 (by omega) (cr A y) g' _ _ (by have := pcr_le (cr A y) (ln A); omega) cr_lt (sb_refl _) (SR_ext a1 (fun d _ => by rw [PF_all, show x = nd A by omega]; rfl)) a2
    · have hxl : x < nd A := by omega
      have fo : g' 42 ((x : Int) * 6 + y) = tk A (10 + x) y := (CWf g' a2).2.2.1 x y hxl hy
      have hdiv := Nat.div_le_self (NN A) (szw A (10 + x) y)
      rw [fo]
      refine ⟨⟨by omega, by omega⟩, ⟨by omega, by omega⟩, ?_⟩
      refine tr_B_spread (u := 1) (d := 1) (V := NN A / szw A (10 + x) y) (CNf g' a2) hN (by omega) (tk_ltl _ _) (fun ⟨c, hc⟩ => ⟨NN A / szw A (10 + x) y, ?_, (Nat.one_mul _).symm⟩) a1 (fun c hc => by
        have h1 : sgm (fun x => Wf A x y 0 c) x ≤ x * NN A := sgm_B _ (fun _ _ => Wf_le hc)
        have h2 : x * NN A ≤ 6 * NN A := Nat.mul_le_mul_right _ (by omega)
        omega) (fun g3 c1 c3 => ?_)
      · show NN A = 1 * szw A (10 + x) y * _
        rw [Nat.one_mul]
        exact (Nat.mul_div_cancel' (NN_sz hw hr hxl hc)).symm
      apply sg_B_pour_46 (A := A)
      exact ⟨⟨by omega, by omega⟩, ih hxl g3 _ _ _ (SR_ext c1 (fun d _ => rfl)) (fun p i hp => by rw [c3 _ _ hp]; exact a2 p i hp)⟩
  apply sg_B_pour_0 (A := A)
  refine tr_Ar_fillJ_134 (A := A) (fun g0 z1 z2 => ?_)
  apply sg_B_pour_8 (A := A)
  refine tr_Ar_fillJ_135 (A := A) (fun g1 y1 y2 => ?_)
  apply sg_B_pour_16 (A := A)
  refine xs 0 (by omega) g1 _ _ _ (fun c hc => ?_) (fun p i hp => by rw [y2 _ _ (by omega), z2 _ _ (by omega)])
  show g1 134 c = (rdu (NN A) 0 : Nat) ∧ g1 135 c = (rdd (NN A) 0 : Nat)
  rw [(rd_0 hN).1, (rd_0 hN).2, y2 _ _ (by omega), z1 _ (by omega) (by omega), y1 _ (by omega) (by omega)]
  exact ⟨rfl, rfl⟩
