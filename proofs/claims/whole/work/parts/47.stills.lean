/-! ===== sets that stand still ===== -/
def sN (A : jA) (c T : Nat) : Prop := ∃ y, y < nd A ∧ (cr A y).testBit c = true ∧ tt A c ≠ y ∧ sb (tk A c y) T
theorem sN_mon (A : jA) : mon (sN A) := fun _ _ _ h ⟨y, h1, h2, h3, h4⟩ => ⟨y, h1, h2, h3, sb_trans h4 h⟩
noncomputable def aS (A : jA) : Nat := gf (sN A) (ln A) (2 ^ ln A - 1)
theorem aS_lt {A : jA} : aS A < 2 ^ ln A := gf_lt
def isS (A : jA) (T : Nat) : Prop := T ≠ 0 ∧ gfP (sN A) (2 ^ ln A - 1) T
theorem isS_lt {A : jA} {T : Nat} (h : isS A T) : T < 2 ^ ln A := sb_lt h.2.1 full_lt
theorem isS_sb {A : jA} {T : Nat} (h : isS A T) : sb T (aS A) := gf_max full_lt h.2
theorem aS_isS {A : jA} (h : aS A ≠ 0) : isS A (aS A) := ⟨h, gf_P (sN_mon A) full_lt⟩
theorem full_sb {m T : Nat} (h : T < 2 ^ m) : sb T (2 ^ m - 1) := fun i hi => by rw [full_bit, decide_eq_true (bt_lt h hi)]
def bet (b T : Nat) : Prop := pc b < pc T ∨ (pc b = pc T ∧ b ≤ T)
def LSp (A : jA) (b : Nat) : Prop := (aS A = 0 ∧ b = 0) ∨ (isS A b ∧ ∀ T, isS A T → bet b T)
theorem LSp_u {A : jA} {b b' : Nat} (h : LSp A b) (h' : LSp A b') : b = b' := by
  have no : ∀ {T}, aS A = 0 → isS A T → False := fun h0 h1 => h1.1 (sb_z (by have := isS_sb h1; rw [h0] at this; exact this))
  rcases h with ⟨h1, h2⟩ | ⟨h1, h2⟩ <;> rcases h' with ⟨k1, k2⟩ | ⟨k1, k2⟩
  · omega
  · exact (no h1 k1).elim
  · exact (no k1 h1).elim
  · have a := h2 b' k1
    have c := k2 b h1
    unfold bet at a c
    omega
theorem pc_lt {A : jA} (hw : wf A) {a b : Nat} (h : sb a b) (hb : b < 2 ^ ln A) (hne : a ≠ b) : pc a < pc b := pcr_lt h (Nat.lt_of_lt_of_le hb (Nat.pow_le_pow_right (by decide) (by have := hw.2.1; omega))) hne
/-- what is kept of a lane's needs -/
def NE (A : jA) (c : Nat) (g : jv_S) (ym : Nat) : Prop := ∃ K : Nat, g 79 c = K ∧ K ≤ ym ∧ (∀ k : Nat, k < K → ∃ y, y < ym ∧ (cr A y).testBit c = true ∧ tt A c ≠ y ∧ g 68 ((c : Int) * 6 + k) = tk A c y) ∧ ∀ y, y < ym → (cr A y).testBit c = true → tt A c ≠ y → ∃ k : Nat, k < K ∧ g 68 ((c : Int) * 6 + k) = tk A c y
set_option maxRecDepth 100000 in
theorem sg_Sl_findNeeds_0 {A : jA} {n l : Nat} {g : jv_S} {Q : jv_V → jv_L → jv_S → Prop} {v1 : Int} (h :
   (0 ≤ v1 ∧ v1 < 10) ∧ 
    jv_At jv_T jv_ml kSl_findNeeds 9 [jv_P 67, jv_I v1, jv_I (0 : Int)] [] (LL n l) (jv_up g 79 v1 (0 : Int)) Q) :
  jv_At jv_T jv_ml kSl_findNeeds 0 [jv_P 67, jv_I v1, jv_U] [] (LL n l) g Q :=
  jv_of_wp (gok9 (A := A)) (md := []) (stop := [9]) (tab := jt_Sl_findNeeds) rfl 400 _ _ _ _ _ h
set_option maxRecDepth 100000 in
theorem sg_Sl_findNeeds_9 {A : jA} {n l : Nat} {g : jv_S} {Q : jv_V → jv_L → jv_S → Prop} {v1 v2 : Int} (h :
   ((g 14 0) ≤ v2 →
     Q jv_U (LL n l) g) ∧
    (¬ (g 14 0) ≤ v2 →
     (0 ≤ v2 ∧ v2 < 6) ∧
      ((0 ≤ (g 61 v2) ∧ (g 61 v2) < 2147483648 ∧ 0 ≤ v1 ∧ v1 < 31)) ∧
      ((hb (g 61 v2) v1) = 0 →
       jv_r32 (v2 + (1 : Int)) ∧
        jv_At jv_T jv_ml kSl_findNeeds 9 [jv_P 67, jv_I v1, jv_I (v2 + (1 : Int))] [] (LL n l) g Q) ∧
      (¬ (hb (g 61 v2) v1) = 0 →
       (0 ≤ v1 ∧ v1 < 10) ∧
        ((g 16 v1) = v2 →
         jv_r32 (v2 + (1 : Int)) ∧
          jv_At jv_T jv_ml kSl_findNeeds 9 [jv_P 67, jv_I v1, jv_I (v2 + (1 : Int))] [] (LL n l) g Q) ∧
        (¬ (g 16 v1) = v2 →
         (0 ≤ v1 ∧ v1 < 10) ∧
          (0 ≤ v1 ∧ v1 < 10) ∧
          (0 ≤ v1 ∧ v1 < 10) ∧
          (0 ≤ v2 ∧ v2 < 6) ∧
          (0 ≤ (g 79 v1) ∧ (g 79 v1) < 6) ∧ 
          (0 ≤ v1 ∧ v1 < 10) ∧
          jv_r32 (((jv_up g 68 (v1 * 6 + (g 79 v1)) (g 49 (v1 * 6 + v2))) 79 v1) + (1 : Int)) ∧
          (0 ≤ v1 ∧ v1 < 10) ∧ 
          jv_r32 (v2 + (1 : Int)) ∧
          jv_At jv_T jv_ml kSl_findNeeds 9 [jv_P 67, jv_I v1, jv_I (v2 + (1 : Int))] [] (LL n l) (jv_up (jv_up g 68 (v1 * 6 + (g 79 v1)) (g 49 (v1 * 6 + v2))) 79 v1 (((jv_up g 68 (v1 * 6 + (g 79 v1)) (g 49 (v1 * 6 + v2))) 79 v1) + (1 : Int))) Q)))) :
  jv_At jv_T jv_ml kSl_findNeeds 9 [jv_P 67, jv_I v1, jv_I v2] [] (LL n l) g Q :=
  jv_of_wp (gok9 (A := A)) (md := []) (stop := [9]) (tab := jt_Sl_findNeeds) rfl 400 _ _ _ _ _ h
theorem tr_Sl_findNeeds {A : jA} {n l : Nat} {g : jv_S} {Q : jv_V → jv_L → jv_S → Prop} {c : Nat} (hN : CN A g) (hW : CW 40 A g) (hc : c < ln A) (h61 : ∀ y : Nat, y < nd A → g 61 y = cr A y)
  (hQ : ∀ g' : jv_S, NE A c g' (nd A) → (∀ (p : Nat) (i : Int), ¬ ((p = 79 ∧ i = c) ∨ (p = 68 ∧ (c : Int) * 6 ≤ i ∧ i < (c : Int) * 6 + 6)) → g' p i = g p i) → Q jv_U (LL n l) g') :
  jv_Ca jv_T jv_ml kSl_findNeeds [jv_P 67, jv_I c] (LL n l) g Q := by
  have hw := hN.1
  have w1 := hw.1
  have w2 := hw.2.1
  refine sg_Sl_findNeeds_0 (A := A) ⟨⟨by omega, by omega⟩, ?_⟩
  have main : ∀ y, y ≤ nd A → ∀ g' : jv_S, NE A c g' y → (∀ (p : Nat) (i : Int), ¬ ((p = 79 ∧ i = c) ∨ (p = 68 ∧ (c : Int) * 6 ≤ i ∧ i < (c : Int) * 6 + 6)) → g' p i = g p i) → jv_At jv_T jv_ml kSl_findNeeds 9 [jv_P 67, jv_I c, jv_I y] [] (LL n l) (g') Q := by
    apply loop_up
    intro y hy ih g' hE hf
    have f1 : g' 14 0 = nd A := by rw [hf _ _ (by omega)]; exact hN.2.1
    apply sg_Sl_findNeeds_9 (A := A)
    refine ⟨fun h => ?_, fun h => ?_⟩
    · have : y = nd A := by omega
      subst this
      exact hQ g' hE hf
    · have f61 : g' 61 y = cr A y := by rw [hf _ _ (by omega)]; exact h61 y (by omega)
      have f16 : g' 16 c = tt A c := by rw [hf _ _ (by omega)]; exact (hN.2.2.2.1 c hc).2.1
      have f49 : g' 49 ((c : Int) * 6 + y) = tk A c y := by rw [hf _ _ (by omega)]; exact hW.2.2.2 c y hc (by omega)
      have c31 := i31 (cr_lt (A := A) (y := y)) (by omega)
      have skip : ¬ ((cr A y).testBit c = true ∧ tt A c ≠ y) → jv_At jv_T jv_ml kSl_findNeeds 9 [jv_P 67, jv_I c, jv_I (y + 1)] [] (LL n l) (g') Q := by
        intro hn
        obtain ⟨K, k1, k2, k3, k4⟩ := hE
        refine ih (by omega) g' ⟨K, k1, by omega, fun k hk => ?_, fun j hj h1 h2 => ?_⟩ hf
        · obtain ⟨j, j1, j2⟩ := k3 k hk
          exact ⟨j, by omega, j2⟩
        · by_cases hjy : j = y
          · subst hjy; exact absurd ⟨h1, h2⟩ hn
          · exact k4 j (by omega) h1 h2
      rw [f61]
      cases hbit : (cr A y).testBit c with
      | false =>
        have e0 := hb_f hbit
        have := skip (fun h => by rw [h.1] at hbit; cases hbit)
        rw [e0]
        repeat' (first | (with_reducible assumption) | apply And.intro | intro _)
        all_goals (first | omega | exact LLx_ok | assumption | skip)
      | true =>
        have e0 := hb_t hbit
        rw [e0]
        by_cases hty : tt A c = y
        · have := skip (fun h => h.2 hty)
          repeat' (first | (with_reducible assumption) | apply And.intro | intro _)
          all_goals (first | omega | exact LLx_ok | assumption | skip)
        · obtain ⟨K, k1, k2, k3, k4⟩ := hE
          have u1 : ∀ v w : Int, jv_up g' 68 v w 79 c = K := fun v w => by rw [up_ne (by omega)]; exact k1
          rw [u1, k1, f49]
          have := ih (by omega) (jv_up (jv_up g' 68 ((c : Int) * 6 + K) (tk A c y : Nat)) 79 c ((K : Int) + 1)) ⟨K + 1, by rw [up_eq rfl rfl]; rfl, by omega, fun k hk => ?_, fun j hj h1 h2 => ?_⟩ (fun p i hp => by rw [up_ne (by omega), up_ne (by omega)]; exact hf p i hp)
          · repeat' (first | (with_reducible assumption) | apply And.intro | intro _)
            all_goals (first | omega | exact LLx_ok | assumption | skip)
          · rw [up_ne (by omega)]
            by_cases hkK : k = K
            · subst hkK
              exact ⟨y, by omega, hbit, hty, up_eq rfl rfl⟩
            · obtain ⟨j, j1, j2, j3, j4⟩ := k3 k (by omega)
              exact ⟨j, by omega, j2, j3, by rw [up_ne (by omega)]; exact j4⟩
          · by_cases hjy : j = y
            · subst hjy
              exact ⟨K, by omega, by rw [up_ne (by omega), up_eq rfl rfl]⟩
            · obtain ⟨k, b1, b2⟩ := k4 j (by omega) h1 h2
              exact ⟨k, by omega, by rw [up_ne (by omega), up_ne (by omega)]; exact b2⟩
  refine main 0 (by omega) _ ⟨0, up_eq rfl rfl, by omega, fun k hk => by omega, fun y hy => by omega⟩ (fun p i hp => up_ne (by omega))
set_option maxRecDepth 100000 in
theorem sg_Sl_canStand_0 {A : jA} {n l : Nat} {g : jv_S} {Q : jv_V → jv_L → jv_S → Prop} {v1 v2 : Int} (h :
   jv_At jv_T jv_ml kSl_canStand 2 [jv_P 67, jv_I v1, jv_I v2, jv_I (0 : Int)] [] (LL n l) g Q) :
  jv_At jv_T jv_ml kSl_canStand 0 [jv_P 67, jv_I v1, jv_I v2, jv_U] [] (LL n l) g Q :=
  jv_of_wp (gok9 (A := A)) (md := []) (stop := [2]) (tab := jt_Sl_canStand) rfl 400 _ _ _ _ _ h
set_option maxRecDepth 100000 in
theorem sg_Sl_canStand_2 {A : jA} {n l : Nat} {g : jv_S} {Q : jv_V → jv_L → jv_S → Prop} {v1 v2 v3 : Int} (h :
   (0 ≤ v1 ∧ v1 < 10) ∧
    ((g 79 v1) ≤ v3 →
     ((0 : Int) = 0 ∨ (0 : Int) = 1) ∧ Q (jv_I (0 : Int)) (LL n l) g) ∧
    (¬ (g 79 v1) ≤ v3 →
     (0 ≤ v1 ∧ v1 < 10) ∧
      (0 ≤ v3 ∧ v3 < 6) ∧
      ((jv_and (g 68 (v1 * 6 + v3)) (jv_xor v2 (-1 : Int))) = 0 →
       ((1 : Int) = 0 ∨ (1 : Int) = 1) ∧ Q (jv_I (1 : Int)) (LL n l) g) ∧
      (¬ (jv_and (g 68 (v1 * 6 + v3)) (jv_xor v2 (-1 : Int))) = 0 →
       jv_r32 (v3 + (1 : Int)) ∧
        jv_At jv_T jv_ml kSl_canStand 2 [jv_P 67, jv_I v1, jv_I v2, jv_I (v3 + (1 : Int))] [] (LL n l) g Q))) :
  jv_At jv_T jv_ml kSl_canStand 2 [jv_P 67, jv_I v1, jv_I v2, jv_I v3] [] (LL n l) g Q :=
  jv_of_wp (gok9 (A := A)) (md := []) (stop := [2]) (tab := jt_Sl_canStand) rfl 400 _ _ _ _ _ h
theorem tr_Sl_canStand {A : jA} {n l : Nat} {g : jv_S} {Q : jv_V → jv_L → jv_S → Prop} {c T : Nat} (hw : wf A) (hc : c < ln A) (hT : T < 2 ^ ln A) (hE : NE A c g (nd A)) (hQ : Q (jv_I (jb_b (dc (sN A c T)))) (LL n l) g) :
  jv_Ca jv_T jv_ml kSl_canStand [jv_P 67, jv_I c, jv_I T] (LL n l) g Q := by
  have w1 := hw.1
  have w2 := hw.2.1
  obtain ⟨K, k1, k2, k3, k4⟩ := hE
  have main : ∀ k, k ≤ K → (∀ j : Nat, j < k → ∀ y, g 68 ((c : Int) * 6 + j) = tk A c y → ¬ sb (tk A c y) T) → jv_At jv_T jv_ml kSl_canStand 2 [jv_P 67, jv_I c, jv_I T, jv_I k] [] (LL n l) g Q := by
    apply loop_up
    intro k hk ih h1
    apply sg_Sl_canStand_2 (A := A)
    rw [k1]
    refine ⟨⟨by omega, by omega⟩, fun h => ⟨Or.inl rfl, ?_⟩, fun h => ⟨⟨by omega, by omega⟩, ⟨by omega, by omega⟩, ?_⟩⟩
    · rw [dc_f.mpr] at hQ
      · exact hQ
      · rintro ⟨y, a1, a2, a3, a4⟩
        obtain ⟨j, b1, b2⟩ := k4 y a1 a2 a3
        exact h1 j (by omega) y b2 a4
    · obtain ⟨y, a1, a2, a3, a4⟩ := k3 k (by omega)
      rw [a4, jb_andn (i31 (tk_ltl c y) (by omega)) (i31 hT (by omega))]
      refine ⟨fun h2 => ⟨Or.inr rfl, ?_⟩, fun h2 => ⟨⟨by omega, by omega⟩, ih (by omega) (fun j hj y' hy' => ?_)⟩⟩
      · rw [dc_t.mpr ⟨y, a1, a2, a3, bd_z.mp (by omega)⟩] at hQ
        exact hQ
      · by_cases hjk : j = k
        · subst hjk
          rw [a4] at hy'
          have : tk A c y = tk A c y' := by omega
          rw [← this]
          intro hs
          have := bd_z.mpr hs
          omega
        · exact h1 j (by omega) y' hy'
  exact sg_Sl_canStand_0 (A := A) (main 0 (by omega) (fun j hj => by omega))
set_option maxRecDepth 100000 in
theorem sg_Sl_stands_0 {A : jA} {n l : Nat} {g : jv_S} {Q : jv_V → jv_L → jv_S → Prop} {v1 : Int} (h :
   jv_At jv_T jv_ml kSl_stands 2 [jv_P 67, jv_I v1, jv_I (0 : Int)] [] (LL n l) g Q) :
  jv_At jv_T jv_ml kSl_stands 0 [jv_P 67, jv_I v1, jv_U] [] (LL n l) g Q :=
  jv_of_wp (gok9 (A := A)) (md := []) (stop := [2]) (tab := jt_Sl_stands) rfl 400 _ _ _ _ _ h
set_option maxRecDepth 100000 in
theorem sg_Sl_stands_2 {A : jA} {n l : Nat} {g : jv_S} {Q : jv_V → jv_L → jv_S → Prop} {v1 v2 : Int} (h :
   ((g 14 1) ≤ v2 →
     ((1 : Int) = 0 ∨ (1 : Int) = 1) ∧ Q (jv_I (1 : Int)) (LL n l) g) ∧
    (¬ (g 14 1) ≤ v2 →
     ((0 ≤ v1 ∧ v1 < 2147483648 ∧ 0 ≤ v2 ∧ v2 < 31)) ∧
      ((hb v1 v2) = 0 →
       jv_r32 (v2 + (1 : Int)) ∧
        jv_At jv_T jv_ml kSl_stands 2 [jv_P 67, jv_I v1, jv_I (v2 + (1 : Int))] [] (LL n l) g Q) ∧
      (¬ (hb v1 v2) = 0 →
       jv_Ca jv_T jv_ml kSl_canStand [jv_P 67, jv_I v2, jv_I v1] (LL n l) g (fun r L2 g2 => jv_At jv_T jv_ml kSl_stands 27 [jv_P 67, jv_I v1, jv_I v2] (jv_pu r []) L2 g2 Q)))) :
  jv_At jv_T jv_ml kSl_stands 2 [jv_P 67, jv_I v1, jv_I v2] [] (LL n l) g Q :=
  jv_of_wp (gok9 (A := A)) (md := []) (stop := [2]) (tab := jt_Sl_stands) rfl 400 _ _ _ _ _ h
set_option maxRecDepth 100000 in
theorem sg_Sl_stands_27 {A : jA} {n l : Nat} {g : jv_S} {Q : jv_V → jv_L → jv_S → Prop} {v1 v2 s0 : Int} (h :
   (s0 = 0 →
     ((0 : Int) = 0 ∨ (0 : Int) = 1) ∧ Q (jv_I (0 : Int)) (LL n l) g) ∧
    (¬ s0 = 0 →
     jv_r32 (v2 + (1 : Int)) ∧
      jv_At jv_T jv_ml kSl_stands 2 [jv_P 67, jv_I v1, jv_I (v2 + (1 : Int))] [] (LL n l) g Q)) :
  jv_At jv_T jv_ml kSl_stands 27 [jv_P 67, jv_I v1, jv_I v2] [jv_I s0] (LL n l) g Q :=
  jv_of_wp (gok9 (A := A)) (md := []) (stop := [2]) (tab := jt_Sl_stands) rfl 400 _ _ _ _ _ h
theorem tr_Sl_stands {A : jA} {n l : Nat} {g : jv_S} {Q : jv_V → jv_L → jv_S → Prop} {T : Nat} (hw : wf A) (f2 : g 14 1 = ln A) (hT : T < 2 ^ ln A) (hE : ∀ c, c < ln A → NE A c g (nd A)) (hQ : Q (jv_I (jb_b (dc (gfP (sN A) (2 ^ ln A - 1) T)))) (LL n l) g) :
  jv_Ca jv_T jv_ml kSl_stands [jv_P 67, jv_I T] (LL n l) g Q := by
  have w2 := hw.2.1
  have t31 := i31 hT (by omega)
  have main : ∀ c, c ≤ ln A → (∀ d, d < c → T.testBit d = true → sN A d T) → jv_At jv_T jv_ml kSl_stands 2 [jv_P 67, jv_I T, jv_I c] [] (LL n l) g Q := by
    apply loop_up
    intro c hc ih h1
    apply sg_Sl_stands_2 (A := A)
    refine ⟨fun h => ⟨Or.inr rfl, ?_⟩, fun h => ?_⟩
    · rw [dc_t.mpr ⟨full_sb hT, fun d hd => h1 d (by have := bt_lt hT hd; omega) hd⟩] at hQ
      exact hQ
    · have nx : (T.testBit c = true → sN A c T) → jv_At jv_T jv_ml kSl_stands 2 [jv_P 67, jv_I T, jv_I (c + 1)] [] (LL n l) g Q := fun hs => ih (by omega) (fun d hd hb => by
        by_cases hdc : d = c
        · subst hdc; exact hs hb
        · exact h1 d (by omega) hb)
      cases hbit : T.testBit c with
      | false =>
        have e0 := hb_f hbit
        have := nx (fun h => by rw [h] at hbit; cases hbit)
        rw [e0]
        repeat' (first | (with_reducible assumption) | apply And.intro | intro _)
        all_goals (first | omega | exact LLx_ok | assumption | skip)
      | true =>
        have e0 := hb_t hbit
        rw [e0]
        refine ⟨⟨by omega, by omega, by omega, by omega⟩, fun h => by omega, fun _ => tr_Sl_canStand hw (by omega) hT (hE c (by omega)) ?_⟩
        apply sg_Sl_stands_27 (A := A)
        rw [jb0]
        refine ⟨fun h2 => ⟨Or.inl rfl, ?_⟩, fun h2 => ⟨⟨by omega, by omega⟩, nx (fun _ => ?_)⟩⟩
        · rw [dc_f.mpr (fun h3 => dc_f.mp h2 (h3.2 c hbit))] at hQ
          exact hQ
        · apply Classical.byContradiction
          intro h3
          exact h2 (dc_f.mpr h3)
  exact sg_Sl_stands_0 (A := A) (main 0 (by omega) (fun d hd => by omega))
set_option maxRecDepth 100000 in
theorem sg_Sl_findAll_0 {A : jA} {n l : Nat} {g : jv_S} {Q : jv_V → jv_L → jv_S → Prop} (h :
   jv_r32 ((jv_shl (1 : Int) (g 14 1)) - (1 : Int)) ∧
    jv_At jv_T jv_ml kSl_findAll 17 [jv_P 67, jv_I (0 : Int), jv_U, jv_U] [] (LL n l) (jv_up g 67 5 ((jv_shl (1 : Int) (g 14 1)) - (1 : Int))) Q) :
  jv_At jv_T jv_ml kSl_findAll 0 [jv_P 67, jv_U, jv_U, jv_U] [] (LL n l) g Q :=
  jv_of_wp (gok9 (A := A)) (md := []) (stop := [17, 35]) (tab := jt_Sl_findAll) rfl 400 _ _ _ _ _ h
set_option maxRecDepth 100000 in
theorem sg_Sl_findAll_17 {A : jA} {n l : Nat} {g : jv_S} {Q : jv_V → jv_L → jv_S → Prop} {v1 : Int} {v2 v3 : jv_V} (h :
   ((g 14 1) ≤ v1 →
     Q jv_U (LL n l) g) ∧
    (¬ (g 14 1) ≤ v1 →
     jv_At jv_T jv_ml kSl_findAll 35 [jv_P 67, jv_I v1, jv_I (g 67 5), jv_I (0 : Int)] [] (LL n l) g Q)) :
  jv_At jv_T jv_ml kSl_findAll 17 [jv_P 67, jv_I v1, v2, v3] [] (LL n l) g Q :=
  jv_of_wp (gok9 (A := A)) (md := []) (stop := [17, 35]) (tab := jt_Sl_findAll) rfl 400 _ _ _ _ _ h
set_option maxRecDepth 100000 in
theorem sg_Sl_findAll_35 {A : jA} {n l : Nat} {g : jv_S} {Q : jv_V → jv_L → jv_S → Prop} {v1 v2 v3 : Int} (h :
   ((g 14 1) ≤ v3 →
     ((g 67 5) = v2 →
       Q jv_U (LL n l) g) ∧
      (¬ (g 67 5) = v2 →
       jv_r32 (v1 + (1 : Int)) ∧
        jv_At jv_T jv_ml kSl_findAll 17 [jv_P 67, jv_I (v1 + (1 : Int)), jv_I v2, jv_I v3] [] (LL n l) g Q)) ∧
    (¬ (g 14 1) ≤ v3 →
     ((0 ≤ (g 67 5) ∧ (g 67 5) < 2147483648 ∧ 0 ≤ v3 ∧ v3 < 31)) ∧
      ((hb (g 67 5) v3) = 0 →
       jv_r32 (v3 + (1 : Int)) ∧
        jv_At jv_T jv_ml kSl_findAll 35 [jv_P 67, jv_I v1, jv_I v2, jv_I (v3 + (1 : Int))] [] (LL n l) g Q) ∧
      (¬ (hb (g 67 5) v3) = 0 →
       jv_Ca jv_T jv_ml kSl_canStand [jv_P 67, jv_I v3, jv_I (g 67 5)] (LL n l) g (fun r L2 g2 => jv_At jv_T jv_ml kSl_findAll 66 [jv_P 67, jv_I v1, jv_I v2, jv_I v3] (jv_pu r []) L2 g2 Q)))) :
  jv_At jv_T jv_ml kSl_findAll 35 [jv_P 67, jv_I v1, jv_I v2, jv_I v3] [] (LL n l) g Q :=
  jv_of_wp (gok9 (A := A)) (md := []) (stop := [17, 35]) (tab := jt_Sl_findAll) rfl 400 _ _ _ _ _ h
set_option maxRecDepth 100000 in
theorem sg_Sl_findAll_66 {A : jA} {n l : Nat} {g : jv_S} {Q : jv_V → jv_L → jv_S → Prop} {v1 v2 v3 s0 : Int} (h :
   (s0 = 0 →
     jv_r32 (v3 + (1 : Int)) ∧
      jv_At jv_T jv_ml kSl_findAll 35 [jv_P 67, jv_I v1, jv_I v2, jv_I (v3 + (1 : Int))] [] (LL n l) (jv_up g 67 5 (jv_and (g 67 5) (jv_xor (jv_shl (1 : Int) v3) (-1 : Int)))) Q) ∧
    (¬ s0 = 0 →
     jv_r32 (v3 + (1 : Int)) ∧
      jv_At jv_T jv_ml kSl_findAll 35 [jv_P 67, jv_I v1, jv_I v2, jv_I (v3 + (1 : Int))] [] (LL n l) g Q)) :
  jv_At jv_T jv_ml kSl_findAll 66 [jv_P 67, jv_I v1, jv_I v2, jv_I v3] [jv_I s0] (LL n l) g Q :=
  jv_of_wp (gok9 (A := A)) (md := []) (stop := [17, 35]) (tab := jt_Sl_findAll) rfl 400 _ _ _ _ _ h
theorem NE_fr {A : jA} {c ym : Nat} {g g' : jv_S} (h : NE A c g ym) (h1 : ∀ i, g' 79 i = g 79 i) (h2 : ∀ i, g' 68 i = g 68 i) : NE A c g' ym := by
  obtain ⟨K, k1, k2, k3, k4⟩ := h
  refine ⟨K, by rw [h1]; exact k1, k2, fun k hk => ?_, fun y a b c => ?_⟩
  · obtain ⟨y, y1, y2, y3, y4⟩ := k3 k hk
    exact ⟨y, y1, y2, y3, by rw [h2]; exact y4⟩
  · obtain ⟨k, x1, x2⟩ := k4 y a b c
    exact ⟨k, x1, by rw [h2]; exact x2⟩
theorem tr_Sl_findAll {A : jA} {n l : Nat} {g : jv_S} {Q : jv_V → jv_L → jv_S → Prop} (hw : wf A) (f2 : g 14 1 = ln A) (hE : ∀ c, c < ln A → NE A c g (nd A))
  (hQ : ∀ g' : jv_S, g' 67 5 = (aS A : Nat) → (∀ (p : Nat) (i : Int), ¬ (p = 67 ∧ i = 5) → g' p i = g p i) → Q jv_U (LL n l) g') :
  jv_Ca jv_T jv_ml kSl_findAll [jv_P 67] (LL n l) g Q := by
  have w2 := hw.2.1
  have hp := Nat.two_pow_pos (ln A)
  have hp2 := pw10 w2
  obtain ⟨s1, -, s3⟩ := shl_full (show ln A ≤ 30 by omega)
  apply sg_Sl_findAll_0 (A := A)
  rw [f2, s1]
  refine ⟨⟨by omega, by omega⟩, ?_⟩
  have main : ∀ r, r ≤ ln A → ∀ (s : Nat) (g' : jv_S) (v w : jv_V), g' 67 5 = s → pcr s (ln A) + r ≤ ln A → s < 2 ^ ln A → GI (sN A) (2 ^ ln A - 1) s → (∀ (p : Nat) (i : Int), ¬ (p = 67 ∧ i = 5) → g' p i = g p i) → jv_At jv_T jv_ml kSl_findAll 17 [jv_P 67, jv_I r, v, w] [] (LL n l) (g') Q := by
    apply loop_up
    intro r hr ih s g' v w h0 hk h1 h2 hf
    have f2' : g' 14 1 = ln A := by rw [hf _ _ (by omega)]; exact f2
    apply sg_Sl_findAll_17 (A := A)
    refine ⟨fun h => ?_, fun h => ?_⟩
    · have hz : s = 0 := pcr_z h1 (by omega)
      subst hz
      exact hQ g' (by rw [h0]; exact congrArg _ (GI_zero (m := ln A) h2)) hf
    · rw [h0]
      have inner : ∀ c, c ≤ ln A → ∀ g' : jv_S, g' 67 5 = (rp (sN A) s c : Nat) → (∀ (p : Nat) (i : Int), ¬ (p = 67 ∧ i = 5) → g' p i = g p i) → jv_At jv_T jv_ml kSl_findAll 35 [jv_P 67, jv_I r, jv_I s, jv_I c] [] (LL n l) (g') Q := by
        apply loop_up
        intro c hc ihc g' h0 hf
        have f2' : g' 14 1 = ln A := by rw [hf _ _ (by omega)]; exact f2
        have hlt := rp_lt (nd := sN A) h1 c
        have hl := i31 hlt (by omega)
        apply sg_Sl_findAll_35 (A := A)
        refine ⟨fun h => ⟨fun h3 => ?_, fun h3 => ⟨⟨by omega, by omega⟩, ?_⟩⟩, fun h => ?_⟩
        · have hcl : c = ln A := by omega
          subst hcl
          have he : rp (sN A) s (ln A) = s := by omega
          exact hQ g' (by rw [h3]; exact congrArg _ (GI_fix h2 h1 he)) hf
        · have hcl : c = ln A := by omega
          subst hcl
          have he : ¬ rp (sN A) s (ln A) = s := by omega
          exact ih (by omega) _ g' _ _ h0 (by have := rp_ne h1 he; omega) hlt (rp_GI (sN_mon A) h2 _) hf
        · rw [h0]
          cases hbit : (rp (sN A) s c).testBit c with
          | false =>
            have e0 := hb_f hbit
            have e1 := rp_n (nd := sN A) (t := s) (c := c) (Or.inl hbit)
            have := ihc (by omega) g' (by rw [e1]; exact h0) hf
            rw [e0]
            repeat' (first | (with_reducible assumption) | apply And.intro | intro _)
            all_goals (first | omega | exact LLx_ok | assumption | skip)
          | true =>
            have e0 := hb_t hbit
            rw [e0]
            refine ⟨⟨by omega, by omega, by omega, by omega⟩, fun h => by omega, fun _ => tr_Sl_canStand hw (by omega) hlt (NE_fr (hE c (by omega)) (fun i => hf _ _ (by omega)) (fun i => hf _ _ (by omega))) ?_⟩
            apply sg_Sl_findAll_66 (A := A)
            rw [jb0]
            refine ⟨fun h3 => ⟨⟨by omega, by omega⟩, ?_⟩, fun h3 => ⟨⟨by omega, by omega⟩, ?_⟩⟩
            · obtain ⟨e3, e4⟩ := rp_y hbit (dc_f.mp h3)
              rw [h0, jb_clr hlt (by omega) (by omega)]
              exact ihc (by omega) _ (by rw [up_eq rfl rfl, e3]) (fun p i hp => by rw [up_ne (by omega)]; exact hf p i hp)
            · have e1 := rp_n (nd := sN A) (t := s) (c := c) (Or.inr (Classical.byContradiction (fun h4 => h3 (dc_f.mpr h4))))
              exact ihc (by omega) g' (by rw [e1]; exact h0) hf
      exact inner 0 (by omega) g' h0 hf
  exact main 0 (by omega) (2 ^ ln A - 1) _ _ _ (up_eq rfl rfl) (by have := pcr_le (2 ^ ln A - 1) (ln A); omega) full_lt GI_0 (fun p i hp => up_ne (by omega))
set_option maxRecDepth 100000 in
theorem sg_Sl_findLeast_0 {A : jA} {n l : Nat} {g : jv_S} {Q : jv_V → jv_L → jv_S → Prop} (h :
   ((0 ≤ ((jv_up g 67 6 (g 67 5)) 67 5) ∧ ((jv_up g 67 6 (g 67 5)) 67 5) < 1024)) ∧
    jv_At jv_T jv_ml kSl_findLeast 18 [jv_P 67, jv_I (pc ((jv_up g 67 6 (g 67 5)) 67 5).toNat : Int), jv_I (1 : Int), jv_U] [] (LL n l) (jv_up g 67 6 (g 67 5)) Q) :
  jv_At jv_T jv_ml kSl_findLeast 0 [jv_P 67, jv_U, jv_U, jv_U] [] (LL n l) g Q :=
  jv_of_wp (gok9 (A := A)) (md := []) (stop := [18]) (tab := jt_Sl_findLeast) rfl 400 _ _ _ _ _ h
set_option maxRecDepth 100000 in
theorem sg_Sl_findLeast_18 {A : jA} {n l : Nat} {g : jv_S} {Q : jv_V → jv_L → jv_S → Prop} {v1 v2 : Int} {v3 : jv_V} (h :
   ((g 67 5) ≤ v2 →
     Q jv_U (LL n l) g) ∧
    (¬ (g 67 5) ≤ v2 →
     ((0 ≤ v2 ∧ v2 < 1024)) ∧
      (v1 ≤ (pc v2.toNat : Int) →
       jv_r32 (v2 + (1 : Int)) ∧
        jv_At jv_T jv_ml kSl_findLeast 18 [jv_P 67, jv_I v1, jv_I (v2 + (1 : Int)), jv_I (pc v2.toNat : Int)] [] (LL n l) g Q) ∧
      (¬ v1 ≤ (pc v2.toNat : Int) →
       ((jv_and v2 (jv_xor (g 67 5) (-1 : Int))) = 0 →
         jv_Ca jv_T jv_ml kSl_stands [jv_P 67, jv_I v2] (LL n l) g (fun r L2 g2 => jv_At jv_T jv_ml kSl_findLeast 52 [jv_P 67, jv_I v1, jv_I v2, jv_I (pc v2.toNat : Int)] (jv_pu r []) L2 g2 Q)) ∧
        (¬ (jv_and v2 (jv_xor (g 67 5) (-1 : Int))) = 0 →
         jv_r32 (v2 + (1 : Int)) ∧
          jv_At jv_T jv_ml kSl_findLeast 18 [jv_P 67, jv_I v1, jv_I (v2 + (1 : Int)), jv_I (pc v2.toNat : Int)] [] (LL n l) g Q)))) :
  jv_At jv_T jv_ml kSl_findLeast 18 [jv_P 67, jv_I v1, jv_I v2, v3] [] (LL n l) g Q :=
  jv_of_wp (gok9 (A := A)) (md := []) (stop := [18]) (tab := jt_Sl_findLeast) rfl 400 _ _ _ _ _ h
set_option maxRecDepth 100000 in
theorem sg_Sl_findLeast_52 {A : jA} {n l : Nat} {g : jv_S} {Q : jv_V → jv_L → jv_S → Prop} {v1 v2 v3 s0 : Int} (h :
   (s0 = 0 →
     jv_r32 (v2 + (1 : Int)) ∧
      jv_At jv_T jv_ml kSl_findLeast 18 [jv_P 67, jv_I v1, jv_I (v2 + (1 : Int)), jv_I v3] [] (LL n l) g Q) ∧
    (¬ s0 = 0 →
     jv_r32 (v2 + (1 : Int)) ∧
      jv_At jv_T jv_ml kSl_findLeast 18 [jv_P 67, jv_I v3, jv_I (v2 + (1 : Int)), jv_I v3] [] (LL n l) (jv_up g 67 6 v2) Q)) :
  jv_At jv_T jv_ml kSl_findLeast 52 [jv_P 67, jv_I v1, jv_I v2, jv_I v3] [jv_I s0] (LL n l) g Q :=
  jv_of_wp (gok9 (A := A)) (md := []) (stop := [18]) (tab := jt_Sl_findLeast) rfl 400 _ _ _ _ _ h
theorem tr_Sl_findLeast {A : jA} {n l : Nat} {g : jv_S} {Q : jv_V → jv_L → jv_S → Prop} (hw : wf A) (f2 : g 14 1 = ln A) (hE : ∀ c, c < ln A → NE A c g (nd A)) (hA : g 67 5 = (aS A : Nat))
  (hQ : ∀ (g' : jv_S) (b : Nat), LSp A b → g' 67 6 = b → (∀ (p : Nat) (i : Int), ¬ (p = 67 ∧ i = 6) → g' p i = g p i) → Q jv_U (LL n l) g') :
  jv_Ca jv_T jv_ml kSl_findLeast [jv_P 67] (LL n l) g Q := by
  have w2 := hw.2.1
  have hp2 := pw10 w2
  have hal := aS_lt (A := A)
  have ha31 := i31 hal (by omega)
  apply sg_Sl_findLeast_0 (A := A)
  have u1 : jv_up g 67 6 (g 67 5) 67 5 = (aS A : Nat) := by rw [up_ne (by omega)]; exact hA
  rw [u1]
  refine ⟨⟨by omega, by omega⟩, ?_⟩
  rw [Int.toNat_natCast]
  have fr0 : ∀ (p : Nat) (i : Int), ¬ (p = 67 ∧ i = 6) → jv_up g 67 6 (g 67 5) p i = g p i := fun p i hp => up_ne (by omega)
  by_cases h0 : aS A = 0
  · apply sg_Sl_findLeast_18 (A := A)
    rw [u1]
    exact ⟨fun _ => hQ _ 0 (Or.inl ⟨h0, rfl⟩) (by rw [up_eq rfl rfl, hA, h0]) fr0, fun h => by omega⟩
  · have hS := aS_isS h0
    have main : ∀ v, v ≤ aS A → 1 ≤ v → ∀ (b : Nat) (g' : jv_S) (w : jv_V), isS A b → (b < v ∨ b = aS A) → (∀ T, isS A T → T < v → bet b T) → g' 67 6 = b → (∀ (p : Nat) (i : Int), ¬ (p = 67 ∧ i = 6) → g' p i = g p i) → jv_At jv_T jv_ml kSl_findLeast 18 [jv_P 67, jv_I (pc b : Nat), jv_I v, w] [] (LL n l) (g') Q := by
      apply loop_up
      intro v hv ih hv1 b g' w b1 b2 b3 b4 hf
      have f5 : g' 67 5 = (aS A : Nat) := by rw [hf _ _ (by omega)]; exact hA
      have hvl : v < 2 ^ ln A := by omega
      apply sg_Sl_findLeast_18 (A := A)
      rw [f5, Int.toNat_natCast]
      refine ⟨fun h => hQ g' b (Or.inr ⟨b1, fun T hT => ?_⟩) b4 hf, fun h => ⟨⟨by omega, by omega⟩, fun h2 => ⟨⟨by omega, by omega⟩, ?_⟩, fun h2 => ⟨fun h3 => ?_, fun h3 => ⟨⟨by omega, by omega⟩, ?_⟩⟩⟩⟩
      · by_cases hTv : T < v
        · exact b3 T hT hTv
        · have hTa : T = aS A := by have := sb_le (isS_sb hT); omega
          subst hTa
          rcases b2 with b2 | b2
          · exact Or.inl (pc_lt hw (isS_sb b1) hal (by omega))
          · exact Or.inr ⟨by rw [b2], by omega⟩
      · refine ih (by omega) (by omega) b g' _ b1 (by omega) (fun T hT hTv => ?_) b4 hf
        by_cases hTe : T = v
        · subst hTe
          rcases b2 with b2 | b2
          · unfold bet; omega
          · have := pc_lt hw (isS_sb hT) hal (by omega)
            rw [b2] at h2
            omega
        · exact b3 T hT (by omega)
      · rw [jb_andn (i31 hvl (by omega)) ha31] at h3
        refine tr_Sl_stands hw (by rw [hf _ _ (by omega)]; exact f2) hvl (fun c hc => NE_fr (hE c hc) (fun i => hf _ _ (by omega)) (fun i => hf _ _ (by omega))) ?_
        apply sg_Sl_findLeast_52 (A := A)
        rw [jb0]
        refine ⟨fun h4 => ⟨⟨by omega, by omega⟩, ?_⟩, fun h4 => ⟨⟨by omega, by omega⟩, ?_⟩⟩
        · refine ih (by omega) (by omega) b g' _ b1 (by omega) (fun T hT hTv => ?_) b4 hf
          by_cases hTe : T = v
          · subst hTe; exact absurd hT.2 (dc_f.mp h4)
          · exact b3 T hT (by omega)
        · have hvS : isS A v := ⟨by omega, Classical.byContradiction (fun h5 => h4 (dc_f.mpr h5))⟩
          refine ih (by omega) (by omega) v _ _ hvS (Or.inl (by omega)) (fun T hT hTv => ?_) (up_eq rfl rfl) (fun p i hp => by rw [up_ne (by omega)]; exact hf p i hp)
          by_cases hTe : T = v
          · subst hTe; exact Or.inr ⟨rfl, Nat.le_refl _⟩
          · have := b3 T hT (by omega)
            unfold bet at this ⊢
            omega
      · rw [jb_andn (i31 hvl (by omega)) ha31] at h3
        refine ih (by omega) (by omega) b g' _ b1 (by omega) (fun T hT hTv => ?_) b4 hf
        by_cases hTe : T = v
        · subst hTe
          exact absurd (by have := bd_z.mpr (isS_sb hT); omega) h3
        · exact b3 T hT (by omega)
    exact main 1 (by omega) (by omega) (aS A) _ _ hS (Or.inr rfl) (fun T hT hTv => absurd (show T = 0 by omega) hT.1) (by rw [up_eq rfl rfl]; exact hA) fr0
def SK (A : jA) (g : jv_S) : Prop := g 67 5 = (aS A : Nat) ∧ ∃ b : Nat, LSp A b ∧ g 67 6 = b
set_option maxRecDepth 100000 in
theorem sg_Sl_work_0 {A : jA} {n l : Nat} {g : jv_S} {Q : jv_V → jv_L → jv_S → Prop} (h :
   ((g 67 7) = (g 40 5) →
     Q jv_U (LL n l) g) ∧
    (¬ (g 67 7) = (g 40 5) →
     jv_Ca jv_T jv_ml kWa_work [jv_P 60] (LL n l) (jv_up g 67 7 (g 40 5)) (fun r L2 g2 => jv_At jv_T jv_ml kSl_work 33 [jv_P 67, jv_U] (jv_pu r []) L2 g2 Q))) :
  jv_At jv_T jv_ml kSl_work 0 [jv_P 67, jv_U] [] (LL n l) g Q :=
  jv_of_wp (gok9 (A := A)) (md := []) (stop := [35]) (tab := jt_Sl_work) rfl 400 _ _ _ _ _ h
set_option maxRecDepth 100000 in
theorem sg_Sl_work_33 {A : jA} {n l : Nat} {g : jv_S} {Q : jv_V → jv_L → jv_S → Prop} {v1 : jv_V} (h :
   jv_At jv_T jv_ml kSl_work 35 [jv_P 67, jv_I (0 : Int)] [] (LL n l) g Q) :
  jv_At jv_T jv_ml kSl_work 33 [jv_P 67, v1] [] (LL n l) g Q :=
  jv_of_wp (gok9 (A := A)) (md := []) (stop := [35]) (tab := jt_Sl_work) rfl 400 _ _ _ _ _ h
set_option maxRecDepth 100000 in
theorem sg_Sl_work_35 {A : jA} {n l : Nat} {g : jv_S} {Q : jv_V → jv_L → jv_S → Prop} {v1 : Int} (h :
   ((g 14 1) ≤ v1 →
     jv_Ca jv_T jv_ml kSl_findAll [jv_P 67] (LL n l) g (fun r L2 g2 => jv_At jv_T jv_ml kSl_work 61 [jv_P 67, jv_I v1] (jv_pu r []) L2 g2 Q)) ∧
    (¬ (g 14 1) ≤ v1 →
     jv_Ca jv_T jv_ml kSl_findNeeds [jv_P 67, jv_I v1] (LL n l) g (fun r L2 g2 => jv_At jv_T jv_ml kSl_work 51 [jv_P 67, jv_I v1] (jv_pu r []) L2 g2 Q))) :
  jv_At jv_T jv_ml kSl_work 35 [jv_P 67, jv_I v1] [] (LL n l) g Q :=
  jv_of_wp (gok9 (A := A)) (md := []) (stop := [35]) (tab := jt_Sl_work) rfl 400 _ _ _ _ _ h
set_option maxRecDepth 100000 in
theorem sg_Sl_work_51 {A : jA} {n l : Nat} {g : jv_S} {Q : jv_V → jv_L → jv_S → Prop} {v1 : Int} (h :
   jv_r32 (v1 + (1 : Int)) ∧
    jv_At jv_T jv_ml kSl_work 35 [jv_P 67, jv_I (v1 + (1 : Int))] [] (LL n l) g Q) :
  jv_At jv_T jv_ml kSl_work 51 [jv_P 67, jv_I v1] [] (LL n l) g Q :=
  jv_of_wp (gok9 (A := A)) (md := []) (stop := [35]) (tab := jt_Sl_work) rfl 400 _ _ _ _ _ h
set_option maxRecDepth 100000 in
theorem sg_Sl_work_61 {A : jA} {n l : Nat} {g : jv_S} {Q : jv_V → jv_L → jv_S → Prop} {v1 : Int} (h :
   jv_Ca jv_T jv_ml kSl_findLeast [jv_P 67] (LL n l) g (fun r L2 g2 => jv_At jv_T jv_ml kSl_work 65 [jv_P 67, jv_I v1] (jv_pu r []) L2 g2 Q)) :
  jv_At jv_T jv_ml kSl_work 61 [jv_P 67, jv_I v1] [] (LL n l) g Q :=
  jv_of_wp (gok9 (A := A)) (md := []) (stop := [35]) (tab := jt_Sl_work) rfl 400 _ _ _ _ _ h
set_option maxRecDepth 100000 in
theorem sg_Sl_work_65 {A : jA} {n l : Nat} {g : jv_S} {Q : jv_V → jv_L → jv_S → Prop} {v1 : Int} (h :
   Q jv_U (LL n l) g) :
  jv_At jv_T jv_ml kSl_work 65 [jv_P 67, jv_I v1] [] (LL n l) g Q :=
  jv_of_wp (gok9 (A := A)) (md := []) (stop := [35]) (tab := jt_Sl_work) rfl 400 _ _ _ _ _ h
theorem WK_fr {A : jA} {g g' : jv_S} (hf : ∀ (p : Nat) (i : Int), 60 ≤ p → p ≤ 66 → g' p i = g p i) (h : WK A g) : WK A g' := by
  obtain ⟨k1, k2, k3, k4, k5⟩ := h
  refine ⟨fun y hy => by rw [hf _ _ (by decide) (by decide)]; exact k1 y hy, fun c hc => by rw [hf _ _ (by decide) (by decide)]; exact k2 c hc, by rw [hf _ _ (by decide) (by decide)]; exact k3, ?_, fun h c hc => by rw [hf _ _ (by decide) (by decide)] at h ⊢; exact k5 h c hc⟩
  rcases k4 with ⟨a1, a2⟩ | ⟨L, s, a1, a2, a3, a4, a5, a6⟩
  · exact Or.inl ⟨by rw [hf _ _ (by decide) (by decide)]; exact a1, a2⟩
  · exact Or.inr ⟨L, s, by rw [hf _ _ (by decide) (by decide)]; exact a1, a2, a3, a4, a5, fun i hi => by rw [hf _ _ (by decide) (by decide)]; exact a6 i hi⟩
theorem tr_Sl_work {A : jA} {n l : Nat} {g : jv_S} {Q : jv_V → jv_L → jv_S → Prop} (hN : CN A g) (hW : CW 40 A g) (hk : g 60 10 = g 40 5 → WK A g) (hsk : g 67 7 = g 40 5 → SK A g)
  (hQ : ∀ (g' : jv_S), SK A g' → g' 67 7 = g 40 5 → (g' 60 10 = g 40 5 → WK A g') → (g' 60 10 = g 60 10 ∨ g' 60 10 = g 40 5) → (∀ (p : Nat) (i : Int), ¬ (60 ≤ p ∧ p ≤ 79) → g' p i = g p i) → Q jv_U (LL n l) g') :
  jv_Ca jv_T jv_ml kSl_work [jv_P 67] (LL n l) g Q := by
  have hw := hN.1
  have w2 := hw.2.1
  apply sg_Sl_work_0 (A := A)
  refine ⟨fun h => hQ g (hsk h) h hk (Or.inl rfl) (fun _ _ _ => rfl), fun h => ?_⟩
  have hN1 : CN A (jv_up g 67 7 (g 40 5)) := CN_fr hN (fun p i a b => up_ne (by omega))
  have hW1 : CW 40 A (jv_up g 67 7 (g 40 5)) := CW_fr hW (up_ne (by decide)) (fun i => up_ne (by omega)) (fun i => up_ne (by omega)) (fun i => up_ne (by omega))
  refine tr_Wa_work hN1 hW1 (fun h2 => WK_fr (fun p i a b => up_ne (by omega)) (hk (by rw [up_ne (by decide), up_ne (by decide)] at h2; exact h2))) (fun g1 k1 k2 k3 => ?_)
  have hf1 : ∀ (p : Nat) (i : Int), ¬ ((60 ≤ p ∧ p ≤ 66) ∨ p = 67) → g1 p i = g p i := fun p i hp => by rw [k3 _ _ (by omega), up_ne (by omega)]
  have c7 : g1 67 7 = g 40 5 := by rw [k3 _ _ (by omega), up_eq rfl rfl]
  have c10 : g1 60 10 = g 40 5 := by rw [k2, up_ne (by decide)]
  apply sg_Sl_work_33 (A := A)
  have main : ∀ c, c ≤ ln A → ∀ g' : jv_S, (∀ d, d < c → NE A d g' (nd A)) → (∀ (p : Nat) (i : Int), ¬ (68 ≤ p ∧ p ≤ 79) → g' p i = g1 p i) → jv_At jv_T jv_ml kSl_work 35 [jv_P 67, jv_I c] [] (LL n l) (g') Q := by
    apply loop_up
    intro c hc ih g' h1 hf
    have hN' : CN A g' := CN_fr hN (fun p i a b => by rw [hf _ _ (by omega), hf1 _ _ (by omega)])
    have hW' : CW 40 A g' := CW_fr hW (by rw [hf _ _ (by omega), hf1 _ _ (by omega)]) (fun i => by rw [hf _ _ (by omega), hf1 _ _ (by omega)]) (fun i => by rw [hf _ _ (by omega), hf1 _ _ (by omega)]) (fun i => by rw [hf _ _ (by omega), hf1 _ _ (by omega)])
    have f2 := hN'.2.2.1
    apply sg_Sl_work_35 (A := A)
    refine ⟨fun h => ?_, fun h => ?_⟩
    · have hcl : c = ln A := by omega
      subst hcl
      refine tr_Sl_findAll hw f2 h1 (fun g2 a1 a2 => ?_)
      apply sg_Sl_work_61 (A := A)
      refine tr_Sl_findLeast hw (by rw [a2 _ _ (by omega)]; exact f2) (fun d hd => NE_fr (h1 d hd) (fun i => a2 _ _ (by omega)) (fun i => a2 _ _ (by omega))) a1 (fun g3 b b1 b2 b3 => ?_)
      apply sg_Sl_work_65 (A := A)
      have hf3 : ∀ (p : Nat) (i : Int), ¬ (68 ≤ p ∧ p ≤ 79) → ¬ (p = 67 ∧ (i = 5 ∨ i = 6)) → g3 p i = g1 p i := fun p i hp hp2 => by rw [b3 _ _ (by omega), a2 _ _ (by omega), hf _ _ (by omega)]
      exact hQ g3 ⟨by rw [b3 _ _ (by omega)]; exact a1, b, b1, b2⟩ (by rw [hf3 _ _ (by omega) (by omega)]; exact c7) (fun _ => WK_fr (fun p i a b => hf3 _ _ (by omega) (by omega)) k1) (Or.inr (by rw [hf3 _ _ (by omega) (by omega)]; exact c10)) (fun p i hp => by rw [hf3 _ _ (by omega) (by omega), hf1 _ _ (by omega)])
    · refine tr_Sl_findNeeds hN' hW' (c := c) (by omega) (fun y hy => by rw [hf _ _ (by omega)]; exact k1.1 y hy) (fun g2 a1 a2 => ?_)
      apply sg_Sl_work_51 (A := A)
      refine ⟨⟨by omega, by omega⟩, ih (by omega) g2 (fun d hd => ?_) (fun p i hp => by rw [a2 _ _ (by omega)]; exact hf p i hp)⟩
      by_cases hdc : d = c
      · subst hdc; exact a1
      · obtain ⟨K, k1, k2, k3, k4⟩ := h1 d (by omega)
        have w1 := hw.1
        refine ⟨K, by rw [a2 _ _ (by omega)]; exact k1, k2, fun k hk => ?_, fun y x1 x2 x3 => ?_⟩
        · obtain ⟨y, y1, y2, y3, y4⟩ := k3 k hk
          exact ⟨y, y1, y2, y3, by rw [a2 _ _ (by omega)]; exact y4⟩
        · obtain ⟨k, z1, z2⟩ := k4 y x1 x2 x3
          exact ⟨k, z1, by rw [a2 _ _ (by omega)]; exact z2⟩
  exact main 0 (by omega) g1 (fun d hd => by omega) (fun p i _ => rfl)
set_option maxRecDepth 100000 in
theorem sg_Y_standsStill_0 {A : jA} {n l : Nat} {g : jv_S} {Q : jv_V → jv_L → jv_S → Prop} {v1 v2 : Int} (h :
   jv_At jv_T jv_ml kY_standsStill 2 [jv_P 136, jv_I v1, jv_I v2, jv_I (0 : Int)] [] (LL n l) g Q) :
  jv_At jv_T jv_ml kY_standsStill 0 [jv_P 136, jv_I v1, jv_I v2, jv_U] [] (LL n l) g Q :=
  jv_of_wp (gok9 (A := A)) (md := []) (stop := [2]) (tab := jt_Y_standsStill) rfl 400 _ _ _ _ _ h
set_option maxRecDepth 100000 in
theorem sg_Y_standsStill_2 {A : jA} {n l : Nat} {g : jv_S} {Q : jv_V → jv_L → jv_S → Prop} {v1 v2 v3 : Int} (h :
   ((g 136 5) ≤ v3 →
     ((0 : Int) = 0 ∨ (0 : Int) = 1) ∧ Q (jv_I (0 : Int)) (LL n l) g) ∧
    (¬ (g 136 5) ≤ v3 →
     (0 ≤ v1 ∧ v1 < 10) ∧
      ((0 ≤ (g 148 v1) ∧ (g 148 v1) < 2147483648 ∧ 0 ≤ v3 ∧ v3 < 31)) ∧
      ((hb (g 148 v1) v3) = 0 →
       jv_r32 (v3 + (1 : Int)) ∧
        jv_At jv_T jv_ml kY_standsStill 2 [jv_P 136, jv_I v1, jv_I v2, jv_I (v3 + (1 : Int))] [] (LL n l) g Q) ∧
      (¬ (hb (g 148 v1) v3) = 0 →
       (0 ≤ v1 ∧ v1 < 10) ∧
        ((g 141 v1) = v3 →
         jv_r32 (v3 + (1 : Int)) ∧
          jv_At jv_T jv_ml kY_standsStill 2 [jv_P 136, jv_I v1, jv_I v2, jv_I (v3 + (1 : Int))] [] (LL n l) g Q) ∧
        (¬ (g 141 v1) = v3 →
         ((136 = 136) ∧ (LLx (LL n l)) ∧ (MN A g ∧ (0 ≤ v3 ∧ v3 < nd A) ∧ 0 ≤ v1 ∧ (v1 < ln A ∨ (10 ≤ v1 ∧ v1 < 10 + nd A)))) ∧
          ((jv_and (tkI A v1 v3) (jv_xor v2 (-1 : Int))) = 0 →
           ((1 : Int) = 0 ∨ (1 : Int) = 1) ∧ Q (jv_I (1 : Int)) (LL n l) g) ∧
          (¬ (jv_and (tkI A v1 v3) (jv_xor v2 (-1 : Int))) = 0 →
           jv_r32 (v3 + (1 : Int)) ∧
            jv_At jv_T jv_ml kY_standsStill 2 [jv_P 136, jv_I v1, jv_I v2, jv_I (v3 + (1 : Int))] [] (LL n l) g Q))))) :
  jv_At jv_T jv_ml kY_standsStill 2 [jv_P 136, jv_I v1, jv_I v2, jv_I v3] [] (LL n l) g Q :=
  jv_of_wp (gok9 (A := A)) (md := []) (stop := [2]) (tab := jt_Y_standsStill) rfl 400 _ _ _ _ _ h
theorem tr_Y_standsStill {A : jA} {n l : Nat} {g : jv_S} {Q : jv_V → jv_L → jv_S → Prop} {c T : Nat} (hM : MN A g) (h148 : ∀ c : Nat, c < ln A → g 148 c = cs A c) (hc : c < ln A) (hT : T < 2 ^ ln A) (hQ : Q (jv_I (jb_b (dc (sN A c T)))) (LL n l) g) :
  jv_Ca jv_T jv_ml kY_standsStill [jv_P 136, jv_I c, jv_I T] (LL n l) g Q := by
  have hw := hM.1
  have w1 := hw.1
  have w2 := hw.2.1
  have f1 := hM.2.1
  have ft := (hM.2.2.2.2.1 c hc).2.1
  have t31 := i31 hT (by omega)
  have c31 := i31 (cs_lt (A := A) (c := c)) (by omega)
  have fc := h148 c hc
  have main : ∀ y, y ≤ nd A → (∀ j, j < y → (cr A j).testBit c = true → tt A c ≠ j → ¬ sb (tk A c j) T) → jv_At jv_T jv_ml kY_standsStill 2 [jv_P 136, jv_I c, jv_I T, jv_I y] [] (LL n l) g Q := by
    apply loop_up
    intro y hy ih h1
    apply sg_Y_standsStill_2 (A := A)
    refine ⟨fun h => ⟨Or.inl rfl, ?_⟩, fun h => ?_⟩
    · rw [dc_f.mpr] at hQ
      · exact hQ
      · rintro ⟨j, a1, a2, a3, a4⟩
        exact h1 j (by omega) a2 a3 a4
    · have hb' := cs_bit (A := A) (c := c) (y := y) (by omega)
      have nx : ((cr A y).testBit c = true → tt A c ≠ y → ¬ sb (tk A c y) T) → jv_At jv_T jv_ml kY_standsStill 2 [jv_P 136, jv_I c, jv_I T, jv_I (y + 1)] [] (LL n l) g Q := fun hs => ih (by omega) (fun j hj => by
        by_cases hjy : j = y
        · subst hjy; exact hs
        · exact h1 j (by omega))
      rw [fc]
      cases hbit : (cr A y).testBit c with
      | false =>
        rw [hbit] at hb'
        have e0 := hb_f hb'
        have := nx (fun h => by rw [h] at hbit; cases hbit)
        rw [e0]
        repeat' (first | (with_reducible assumption) | apply And.intro | intro _)
        all_goals (first | omega | exact LLx_ok | assumption | skip)
      | true =>
        rw [hbit] at hb'
        have e0 := hb_t hb'
        rw [e0, tkI_c, jb_andn (i31 (tk_ltl c y) (by omega)) t31]
        by_cases hty : tt A c = y
        · have := nx (fun _ h => absurd hty h)
          repeat' (first | (with_reducible assumption) | apply And.intro | intro _)
          all_goals (first | omega | exact LLx_ok | assumption | skip)
        · by_cases hs : sb (tk A c y) T
          · have hz := bd_z.mpr hs
            rw [dc_t.mpr ⟨y, by omega, hbit, hty, hs⟩] at hQ
            have hQ' : Q (jv_I 1) (LL n l) g := hQ
            repeat' (first | (with_reducible assumption) | apply And.intro | intro _)
            all_goals (first | omega | exact LLx_ok | assumption | skip)
          · have hz : bd (tk A c y) T ≠ 0 := fun h => hs (bd_z.mp h)
            have := nx (fun _ _ => hs)
            repeat' (first | (with_reducible assumption) | apply And.intro | intro _)
            all_goals (first | omega | exact LLx_ok | assumption | skip)
  exact sg_Y_standsStill_0 (A := A) (main 0 (by omega) (fun j hj => by omega))
set_option maxRecDepth 100000 in
theorem sg_Y_isStill_0 {A : jA} {n l : Nat} {g : jv_S} {Q : jv_V → jv_L → jv_S → Prop} {v1 : Int} (h :
   jv_At jv_T jv_ml kY_isStill 2 [jv_P 136, jv_I v1, jv_I (0 : Int)] [] (LL n l) g Q) :
  jv_At jv_T jv_ml kY_isStill 0 [jv_P 136, jv_I v1, jv_U] [] (LL n l) g Q :=
  jv_of_wp (gok9 (A := A)) (md := []) (stop := [2]) (tab := jt_Y_isStill) rfl 400 _ _ _ _ _ h
set_option maxRecDepth 100000 in
theorem sg_Y_isStill_2 {A : jA} {n l : Nat} {g : jv_S} {Q : jv_V → jv_L → jv_S → Prop} {v1 v2 : Int} (h :
   ((g 136 6) ≤ v2 →
     ((1 : Int) = 0 ∨ (1 : Int) = 1) ∧ Q (jv_I (1 : Int)) (LL n l) g) ∧
    (¬ (g 136 6) ≤ v2 →
     ((0 ≤ v1 ∧ v1 < 2147483648 ∧ 0 ≤ v2 ∧ v2 < 31)) ∧
      ((hb v1 v2) = 0 →
       jv_r32 (v2 + (1 : Int)) ∧
        jv_At jv_T jv_ml kY_isStill 2 [jv_P 136, jv_I v1, jv_I (v2 + (1 : Int))] [] (LL n l) g Q) ∧
      (¬ (hb v1 v2) = 0 →
       jv_Ca jv_T jv_ml kY_standsStill [jv_P 136, jv_I v2, jv_I v1] (LL n l) g (fun r L2 g2 => jv_At jv_T jv_ml kY_isStill 24 [jv_P 136, jv_I v1, jv_I v2] (jv_pu r []) L2 g2 Q)))) :
  jv_At jv_T jv_ml kY_isStill 2 [jv_P 136, jv_I v1, jv_I v2] [] (LL n l) g Q :=
  jv_of_wp (gok9 (A := A)) (md := []) (stop := [2]) (tab := jt_Y_isStill) rfl 400 _ _ _ _ _ h
set_option maxRecDepth 100000 in
theorem sg_Y_isStill_24 {A : jA} {n l : Nat} {g : jv_S} {Q : jv_V → jv_L → jv_S → Prop} {v1 v2 s0 : Int} (h :
   (s0 = 0 →
     ((0 : Int) = 0 ∨ (0 : Int) = 1) ∧ Q (jv_I (0 : Int)) (LL n l) g) ∧
    (¬ s0 = 0 →
     jv_r32 (v2 + (1 : Int)) ∧
      jv_At jv_T jv_ml kY_isStill 2 [jv_P 136, jv_I v1, jv_I (v2 + (1 : Int))] [] (LL n l) g Q)) :
  jv_At jv_T jv_ml kY_isStill 24 [jv_P 136, jv_I v1, jv_I v2] [jv_I s0] (LL n l) g Q :=
  jv_of_wp (gok9 (A := A)) (md := []) (stop := [2]) (tab := jt_Y_isStill) rfl 400 _ _ _ _ _ h
theorem tr_Y_isStill {A : jA} {n l : Nat} {g : jv_S} {Q : jv_V → jv_L → jv_S → Prop} {T : Nat} (hM : MN A g) (h148 : ∀ c : Nat, c < ln A → g 148 c = cs A c) (hT : T < 2 ^ ln A) (hQ : Q (jv_I (jb_b (dc (gfP (sN A) (2 ^ ln A - 1) T)))) (LL n l) g) :
  jv_Ca jv_T jv_ml kY_isStill [jv_P 136, jv_I T] (LL n l) g Q := by
  have hw := hM.1
  have w2 := hw.2.1
  have f2 := hM.2.2.1
  have t31 := i31 hT (by omega)
  have main : ∀ c, c ≤ ln A → (∀ d, d < c → T.testBit d = true → sN A d T) → jv_At jv_T jv_ml kY_isStill 2 [jv_P 136, jv_I T, jv_I c] [] (LL n l) g Q := by
    apply loop_up
    intro c hc ih h1
    apply sg_Y_isStill_2 (A := A)
    refine ⟨fun h => ⟨Or.inr rfl, ?_⟩, fun h => ?_⟩
    · rw [dc_t.mpr ⟨full_sb hT, fun d hd => h1 d (by have := bt_lt hT hd; omega) hd⟩] at hQ
      exact hQ
    · have nx : (T.testBit c = true → sN A c T) → jv_At jv_T jv_ml kY_isStill 2 [jv_P 136, jv_I T, jv_I (c + 1)] [] (LL n l) g Q := fun hs => ih (by omega) (fun d hd hb => by
        by_cases hdc : d = c
        · subst hdc; exact hs hb
        · exact h1 d (by omega) hb)
      cases hbit : T.testBit c with
      | false =>
        have e0 := hb_f hbit
        have := nx (fun h => by rw [h] at hbit; cases hbit)
        rw [e0]
        repeat' (first | (with_reducible assumption) | apply And.intro | intro _)
        all_goals (first | omega | exact LLx_ok | assumption | skip)
      | true =>
        have e0 := hb_t hbit
        rw [e0]
        refine ⟨⟨by omega, by omega, by omega, by omega⟩, fun h => by omega, fun _ => tr_Y_standsStill hM h148 (by omega) hT ?_⟩
        apply sg_Y_isStill_24 (A := A)
        rw [jb0]
        refine ⟨fun h2 => ⟨Or.inl rfl, ?_⟩, fun h2 => ⟨⟨by omega, by omega⟩, nx (fun _ => ?_)⟩⟩
        · rw [dc_f.mpr (fun h3 => dc_f.mp h2 (h3.2 c hbit))] at hQ
          exact hQ
        · apply Classical.byContradiction
          intro h3
          exact h2 (dc_f.mpr h3)
  exact sg_Y_isStill_0 (A := A) (main 0 (by omega) (fun d hd => by omega))
set_option maxRecDepth 100000 in
theorem sg_Y_allStill_0 {A : jA} {n l : Nat} {g : jv_S} {Q : jv_V → jv_L → jv_S → Prop} (h :
   jv_r32 ((jv_shl (1 : Int) (g 136 6)) - (1 : Int)) ∧
    jv_At jv_T jv_ml kY_allStill 11 [jv_P 136, jv_I ((jv_shl (1 : Int) (g 136 6)) - (1 : Int)), jv_I (1 : Int), jv_U] [] (LL n l) g Q) :
  jv_At jv_T jv_ml kY_allStill 0 [jv_P 136, jv_U, jv_U, jv_U] [] (LL n l) g Q :=
  jv_of_wp (gok9 (A := A)) (md := []) (stop := [11, 19]) (tab := jt_Y_allStill) rfl 400 _ _ _ _ _ h
set_option maxRecDepth 100000 in
theorem sg_Y_allStill_11 {A : jA} {n l : Nat} {g : jv_S} {Q : jv_V → jv_L → jv_S → Prop} {v1 v2 : Int} {v3 : jv_V} (h :
   (v2 = 0 →
     Q (jv_I v1) (LL n l) g) ∧
    (¬ v2 = 0 →
     jv_At jv_T jv_ml kY_allStill 19 [jv_P 136, jv_I v1, jv_I (0 : Int), jv_I (0 : Int)] [] (LL n l) g Q)) :
  jv_At jv_T jv_ml kY_allStill 11 [jv_P 136, jv_I v1, jv_I v2, v3] [] (LL n l) g Q :=
  jv_of_wp (gok9 (A := A)) (md := []) (stop := [11, 19]) (tab := jt_Y_allStill) rfl 400 _ _ _ _ _ h
set_option maxRecDepth 100000 in
theorem sg_Y_allStill_19 {A : jA} {n l : Nat} {g : jv_S} {Q : jv_V → jv_L → jv_S → Prop} {v1 v2 v3 : Int} (h :
   ((g 136 6) ≤ v3 →
     jv_At jv_T jv_ml kY_allStill 11 [jv_P 136, jv_I v1, jv_I v2, jv_I v3] [] (LL n l) g Q) ∧
    (¬ (g 136 6) ≤ v3 →
     ((0 ≤ v1 ∧ v1 < 2147483648 ∧ 0 ≤ v3 ∧ v3 < 31)) ∧
      ((hb v1 v3) = 0 →
       jv_r32 (v3 + (1 : Int)) ∧
        jv_At jv_T jv_ml kY_allStill 19 [jv_P 136, jv_I v1, jv_I v2, jv_I (v3 + (1 : Int))] [] (LL n l) g Q) ∧
      (¬ (hb v1 v3) = 0 →
       jv_Ca jv_T jv_ml kY_standsStill [jv_P 136, jv_I v3, jv_I v1] (LL n l) g (fun r L2 g2 => jv_At jv_T jv_ml kY_allStill 41 [jv_P 136, jv_I v1, jv_I v2, jv_I v3] (jv_pu r []) L2 g2 Q)))) :
  jv_At jv_T jv_ml kY_allStill 19 [jv_P 136, jv_I v1, jv_I v2, jv_I v3] [] (LL n l) g Q :=
  jv_of_wp (gok9 (A := A)) (md := []) (stop := [11, 19]) (tab := jt_Y_allStill) rfl 400 _ _ _ _ _ h
set_option maxRecDepth 100000 in
theorem sg_Y_allStill_41 {A : jA} {n l : Nat} {g : jv_S} {Q : jv_V → jv_L → jv_S → Prop} {v1 v2 v3 s0 : Int} (h :
   (s0 = 0 →
     jv_r32 (v3 + (1 : Int)) ∧
      jv_At jv_T jv_ml kY_allStill 19 [jv_P 136, jv_I (jv_and v1 (jv_xor (jv_shl (1 : Int) v3) (-1 : Int))), jv_I (1 : Int), jv_I (v3 + (1 : Int))] [] (LL n l) g Q) ∧
    (¬ s0 = 0 →
     jv_r32 (v3 + (1 : Int)) ∧
      jv_At jv_T jv_ml kY_allStill 19 [jv_P 136, jv_I v1, jv_I v2, jv_I (v3 + (1 : Int))] [] (LL n l) g Q)) :
  jv_At jv_T jv_ml kY_allStill 41 [jv_P 136, jv_I v1, jv_I v2, jv_I v3] [jv_I s0] (LL n l) g Q :=
  jv_of_wp (gok9 (A := A)) (md := []) (stop := [11, 19]) (tab := jt_Y_allStill) rfl 400 _ _ _ _ _ h
theorem tr_Y_allStill {A : jA} {n l : Nat} {g : jv_S} {Q : jv_V → jv_L → jv_S → Prop} (hM : MN A g) (h148 : ∀ c : Nat, c < ln A → g 148 c = cs A c) (hQ : Q (jv_I (aS A : Nat)) (LL n l) g) :
  jv_Ca jv_T jv_ml kY_allStill [jv_P 136] (LL n l) g Q := by
  have hw := hM.1
  have w2 := hw.2.1
  have f2 := hM.2.2.1
  have hp := Nat.two_pow_pos (ln A)
  have hp2 := pw10 w2
  obtain ⟨s1, -, s3⟩ := shl_full (show ln A ≤ 30 by omega)
  apply sg_Y_allStill_0 (A := A)
  rw [f2, s1]
  refine ⟨⟨by omega, by omega⟩, ?_⟩
  have exit : ∀ (s : Nat) (v : jv_V), s = aS A → jv_At jv_T jv_ml kY_allStill 11 [jv_P 136, jv_I s, jv_I 0, v] [] (LL n l) g Q := by
    intro s v h1
    apply sg_Y_allStill_11 (A := A)
    exact ⟨fun _ => by rw [h1]; exact hQ, fun h => absurd rfl h⟩
  have main : ∀ (k s : Nat) (v : jv_V), pcr s (ln A) = k → s < 2 ^ ln A → GI (sN A) (2 ^ ln A - 1) s → jv_At jv_T jv_ml kY_allStill 11 [jv_P 136, jv_I s, jv_I 1, v] [] (LL n l) g Q := by
    intro k
    induction k using Nat.strongRecOn with
    | ind k ih =>
      intro s v hk h1 h2
      apply sg_Y_allStill_11 (A := A)
      refine ⟨fun h => by omega, fun _ => ?_⟩
      have inner : ∀ c, c ≤ ln A → ∀ mo : Int, (mo = if rp (sN A) s c = s then 0 else 1) → jv_At jv_T jv_ml kY_allStill 19 [jv_P 136, jv_I (rp (sN A) s c : Nat), jv_I mo, jv_I c] [] (LL n l) g Q := by
        apply loop_up
        intro c hc ihc mo hmo
        have hlt := rp_lt (nd := sN A) h1 c
        have hl := i31 hlt (by omega)
        apply sg_Y_allStill_19 (A := A)
        refine ⟨fun h => ?_, fun h => ?_⟩
        · have hcl : c = ln A := by omega
          subst hcl
          by_cases he : rp (sN A) s (ln A) = s
          · rw [if_pos he] at hmo
            rw [hmo, he]
            exact exit s _ (GI_fix h2 h1 he)
          · rw [if_neg he] at hmo
            rw [hmo]
            exact ih _ (by have := rp_ne h1 he; omega) _ _ rfl hlt (rp_GI (sN_mon A) h2 _)
        · cases hbit : (rp (sN A) s c).testBit c with
          | false =>
            have e0 := hb_f hbit
            have e1 := rp_n (nd := sN A) (t := s) (c := c) (Or.inl hbit)
            have := ihc (by omega) mo (by rw [e1]; exact hmo)
            rw [e1] at this
            rw [e0]
            repeat' (first | (with_reducible assumption) | apply And.intro | intro _)
            all_goals (first | omega | exact LLx_ok | assumption | skip)
          | true =>
            have e0 := hb_t hbit
            rw [e0]
            refine ⟨⟨by omega, by omega, by omega, by omega⟩, fun h => by omega, fun _ => tr_Y_standsStill hM h148 (by omega) hlt ?_⟩
            apply sg_Y_allStill_41 (A := A)
            rw [jb0]
            refine ⟨fun h3 => ⟨⟨by omega, by omega⟩, ?_⟩, fun h3 => ⟨⟨by omega, by omega⟩, ?_⟩⟩
            · obtain ⟨e3, e4⟩ := rp_y hbit (dc_f.mp h3)
              have := ihc (by omega) 1 (by rw [if_neg e4])
              rw [e3] at this
              rw [jb_clr hlt (by omega) (by omega)]
              exact this
            · have e1 := rp_n (nd := sN A) (t := s) (c := c) (Or.inr (Classical.byContradiction (fun h4 => h3 (dc_f.mpr h4))))
              have := ihc (by omega) mo (by rw [e1]; exact hmo)
              rw [e1] at this
              exact this
      exact inner 0 (by omega) 0 (by rw [show rp (sN A) s 0 = s from rfl, if_pos rfl])
  exact main _ _ _ rfl full_lt GI_0
set_option maxRecDepth 100000 in
theorem sg_Y_still_0 {A : jA} {n l : Nat} {g : jv_S} {Q : jv_V → jv_L → jv_S → Prop} {v1 : Int} (h :
   ((True)) ∧
    ((jb_p ((0 : Int) ≤ v1 ∧ v1 ≤ (1 : Int))) = 0 →
     Q (jv_I (-2 : Int)) (LL n l) g) ∧
    (¬ (jb_p ((0 : Int) ≤ v1 ∧ v1 ≤ (1 : Int))) = 0 →
     ((g 136 6) = 0 →
       Q (jv_I (-3 : Int)) (LL n l) g) ∧
      (¬ (g 136 6) = 0 →
       jv_Ca jv_T jv_ml kY_layCarried [jv_P 136] (LL n l) g (fun r L2 g2 => jv_At jv_T jv_ml kY_still 26 [jv_P 136, jv_I v1, jv_U, jv_U] (jv_pu r []) L2 g2 Q)))) :
  jv_At jv_T jv_ml kY_still 0 [jv_P 136, jv_I v1, jv_U, jv_U] [] (LL n l) g Q :=
  jv_of_wp (gok9 (A := A)) (md := []) (stop := [39]) (tab := jt_Y_still) rfl 400 _ _ _ _ _ h
set_option maxRecDepth 100000 in
theorem sg_Y_still_26 {A : jA} {n l : Nat} {g : jv_S} {Q : jv_V → jv_L → jv_S → Prop} {v1 : Int} {v2 v3 : jv_V} (h :
   (v1 = 0 →
     jv_Ca jv_T jv_ml kY_allStill [jv_P 136] (LL n l) g (fun r L2 g2 => jv_At jv_T jv_ml kY_still 34 [jv_P 136, jv_I v1, v2, v3] (jv_pu r []) L2 g2 Q)) ∧
    (¬ v1 = 0 →
     jv_At jv_T jv_ml kY_still 39 [jv_P 136, jv_I v1, jv_I (0 : Int), jv_I (1 : Int)] [] (LL n l) g Q)) :
  jv_At jv_T jv_ml kY_still 26 [jv_P 136, jv_I v1, v2, v3] [] (LL n l) g Q :=
  jv_of_wp (gok9 (A := A)) (md := []) (stop := [39]) (tab := jt_Y_still) rfl 400 _ _ _ _ _ h
set_option maxRecDepth 100000 in
theorem sg_Y_still_34 {A : jA} {n l : Nat} {g : jv_S} {Q : jv_V → jv_L → jv_S → Prop} {v1 s0 : Int} {v2 v3 : jv_V} (h :
   Q (jv_I s0) (LL n l) g) :
  jv_At jv_T jv_ml kY_still 34 [jv_P 136, jv_I v1, v2, v3] [jv_I s0] (LL n l) g Q :=
  jv_of_wp (gok9 (A := A)) (md := []) (stop := [39]) (tab := jt_Y_still) rfl 400 _ _ _ _ _ h
set_option maxRecDepth 100000 in
theorem sg_Y_still_39 {A : jA} {n l : Nat} {g : jv_S} {Q : jv_V → jv_L → jv_S → Prop} {v1 v2 v3 : Int} (h :
   ((jv_shl (1 : Int) (g 136 6)) ≤ v3 →
     Q (jv_I v2) (LL n l) g) ∧
    (¬ (jv_shl (1 : Int) (g 136 6)) ≤ v3 →
     (v2 = 0 →
       jv_Ca jv_T jv_ml kY_isStill [jv_P 136, jv_I v3] (LL n l) g (fun r L2 g2 => jv_At jv_T jv_ml kY_still 69 [jv_P 136, jv_I v1, jv_I v2, jv_I v3] (jv_pu r []) L2 g2 Q)) ∧
      (¬ v2 = 0 →
       ((0 ≤ v3 ∧ v3 < 2147483648)) ∧
        ((0 ≤ v2 ∧ v2 < 2147483648)) ∧
        ((pc v2.toNat : Int) ≤ (pc v3.toNat : Int) →
         jv_r32 (v3 + (1 : Int)) ∧
          jv_At jv_T jv_ml kY_still 39 [jv_P 136, jv_I v1, jv_I v2, jv_I (v3 + (1 : Int))] [] (LL n l) g Q) ∧
        (¬ (pc v2.toNat : Int) ≤ (pc v3.toNat : Int) →
         jv_Ca jv_T jv_ml kY_isStill [jv_P 136, jv_I v3] (LL n l) g (fun r L2 g2 => jv_At jv_T jv_ml kY_still 69 [jv_P 136, jv_I v1, jv_I v2, jv_I v3] (jv_pu r []) L2 g2 Q))))) :
  jv_At jv_T jv_ml kY_still 39 [jv_P 136, jv_I v1, jv_I v2, jv_I v3] [] (LL n l) g Q :=
  jv_of_wp (gok9 (A := A)) (md := []) (stop := [39]) (tab := jt_Y_still) rfl 400 _ _ _ _ _ h
set_option maxRecDepth 100000 in
theorem sg_Y_still_69 {A : jA} {n l : Nat} {g : jv_S} {Q : jv_V → jv_L → jv_S → Prop} {v1 v2 v3 s0 : Int} (h :
   (s0 = 0 →
     jv_r32 (v3 + (1 : Int)) ∧
      jv_At jv_T jv_ml kY_still 39 [jv_P 136, jv_I v1, jv_I v2, jv_I (v3 + (1 : Int))] [] (LL n l) g Q) ∧
    (¬ s0 = 0 →
     jv_r32 (v3 + (1 : Int)) ∧
      jv_At jv_T jv_ml kY_still 39 [jv_P 136, jv_I v1, jv_I v3, jv_I (v3 + (1 : Int))] [] (LL n l) g Q)) :
  jv_At jv_T jv_ml kY_still 69 [jv_P 136, jv_I v1, jv_I v2, jv_I v3] [jv_I s0] (LL n l) g Q :=
  jv_of_wp (gok9 (A := A)) (md := []) (stop := [39]) (tab := jt_Y_still) rfl 400 _ _ _ _ _ h
theorem tr_Y_still {A : jA} {n l : Nat} {g : jv_S} {Q : jv_V → jv_L → jv_S → Prop} (hM : MN A g) {k : Int} {b : Nat} (hb : LSp A b)
  (hQ : ∀ g' : jv_S, (∀ (p : Nat) (i : Int), ¬ p = 148 → g' p i = g p i) → Q (jv_I (if ¬ (0 ≤ k ∧ k ≤ 1) then -2 else if ln A = 0 then -3 else if k = 0 then (aS A : Nat) else b)) (LL n l) g') :
  jv_Ca jv_T jv_ml kY_still [jv_P 136, jv_I k] (LL n l) g Q := by
  have hw := hM.1
  have w2 := hw.2.1
  have f2 := hM.2.2.1
  have hp2 := pw10 w2
  obtain ⟨-, -, s3⟩ := shl_full (show ln A ≤ 30 by omega)
  apply sg_Y_still_0 (A := A)
  rw [jp0]
  refine ⟨trivial, fun h => ?_, fun h => ⟨fun h1 => ?_, fun h1 => ?_⟩⟩
  · have := hQ g (fun _ _ _ => rfl)
    rw [if_pos h] at this
    exact this
  · have := hQ g (fun _ _ _ => rfl)
    rw [if_neg h, if_pos (by omega)] at this
    exact this
  · refine tr_Y_layCarried hM (fun g1 c1 c2 => ?_)
    have hM1 : MN A g1 := MN_fr hM (fun p i a b => c2 _ _ (by omega)) (c2 _ _ (by decide)) (c2 _ _ (by decide)) (c2 _ _ (by decide))
    have f2' := hM1.2.2.1
    have hq := hQ g1 c2
    rw [if_neg h, if_neg (by omega)] at hq
    apply sg_Y_still_26 (A := A)
    refine ⟨fun h2 => ?_, fun h2 => ?_⟩
    · rw [if_pos h2] at hq
      refine tr_Y_allStill hM1 c1 ?_
      apply sg_Y_still_34 (A := A)
      exact hq
    · rw [if_neg h2] at hq
      have main : ∀ v, v ≤ 2 ^ ln A → 1 ≤ v → ∀ e : Nat, ((e = 0 ∧ ∀ T, isS A T → ¬ T < v) ∨ (isS A e ∧ e < v ∧ ∀ T, isS A T → T < v → bet e T)) → jv_At jv_T jv_ml kY_still 39 [jv_P 136, jv_I k, jv_I e, jv_I v] [] (LL n l) g1 Q := by
        apply loop_up
        intro v hv ih hv1 e he
        have hel : e < 2 ^ ln A := by
          rcases he with ⟨h3, -⟩ | ⟨h3, -, -⟩
          · rw [h3]; exact Nat.two_pow_pos _
          · exact isS_lt h3
        have e31 := i31 hel (by omega)
        apply sg_Y_still_39 (A := A)
        rw [f2', s3]
        have try1 : ¬ (v : Nat) ≥ 2 ^ ln A → (e = 0 ∨ pc v < pc e) → jv_Ca jv_T jv_ml kY_isStill [jv_P 136, jv_I (v : Int)] (LL n l) g1 (fun r L2 g2 => jv_At jv_T jv_ml kY_still 69 [jv_P 136, jv_I k, jv_I (e : Int), jv_I (v : Int)] (jv_pu r []) L2 g2 Q) := by
          intro hvl hor
          refine tr_Y_isStill hM1 c1 (by omega) ?_
          apply sg_Y_still_69 (A := A)
          rw [jb0]
          refine ⟨fun h4 => ⟨⟨by omega, by omega⟩, ih (by omega) (by omega) e ?_⟩, fun h4 => ⟨⟨by omega, by omega⟩, ih (by omega) (by omega) v (Or.inr ?_)⟩⟩
          · have hnv : ¬ isS A v := fun h5 => dc_f.mp h4 h5.2
            rcases he with ⟨h3, h5⟩ | ⟨h3, h5, h6⟩
            · refine Or.inl ⟨h3, fun T hT hTv => ?_⟩
              by_cases hTe : T = v
              · subst hTe; exact hnv hT
              · exact h5 T hT (by omega)
            · refine Or.inr ⟨h3, by omega, fun T hT hTv => ?_⟩
              by_cases hTe : T = v
              · subst hTe; exact absurd hT hnv
              · exact h6 T hT (by omega)
          · refine ⟨⟨by omega, Classical.byContradiction (fun h5 => h4 (dc_f.mpr h5))⟩, by omega, fun T hT hTv => ?_⟩
            by_cases hTe : T = v
            · subst hTe; exact Or.inr ⟨rfl, Nat.le_refl _⟩
            · rcases he with ⟨h3, h5⟩ | ⟨h3, h5, h6⟩
              · exact absurd (show T < v by omega) (h5 T hT)
              · have := h6 T hT (by omega)
                have h7 := h3.1
                unfold bet at this ⊢
                omega
        refine ⟨fun h3 => ?_, fun h3 => ⟨fun h4 => try1 (by omega) (Or.inl (by omega)), fun h4 => ⟨⟨by omega, by omega⟩, ⟨by omega, by omega⟩, fun h5 => ⟨⟨by omega, by omega⟩, ih (by omega) (by omega) e ?_⟩, fun h5 => try1 (by omega) (Or.inr (by rw [Int.toNat_natCast, Int.toNat_natCast] at h5; omega))⟩⟩⟩
        · have hve : v = 2 ^ ln A := by omega
          have : LSp A e := by
            rcases he with ⟨h4, h5⟩ | ⟨h4, h5, h6⟩
            · refine Or.inl ⟨Classical.byContradiction (fun h6 => ?_), h4⟩
              exact h5 _ (aS_isS h6) (by have := aS_lt (A := A); omega)
            · exact Or.inr ⟨h4, fun T hT => h6 T hT (by have := isS_lt hT; omega)⟩
          rw [LSp_u this hb]
          exact hq
        · rw [Int.toNat_natCast, Int.toNat_natCast] at h5
          rcases he with ⟨h6, -⟩ | ⟨h6, h7, h8⟩
          · omega
          · refine Or.inr ⟨h6, by omega, fun T hT hTv => ?_⟩
            by_cases hTe : T = v
            · subst hTe; unfold bet; omega
            · exact h8 T hT (by omega)
      exact main 1 (by have := Nat.two_pow_pos (ln A); omega) (by omega) 0 (Or.inl ⟨rfl, fun T hT hTv => hT.1 (by omega)⟩)
