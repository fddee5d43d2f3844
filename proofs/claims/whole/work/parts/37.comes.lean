/-! ===== the model's comesInto, goesRound, comesBy, allCome ===== -/
theorem bd_lt {a b m : Nat} (h : a < 2 ^ m) : bd a b < 2 ^ m := sb_lt bd_sb h
theorem i31 {s m : Nat} (h : s < 2 ^ m) (hm : m ≤ 30) : s < 2147483648 := Nat.lt_of_lt_of_le h (Nat.le_trans (Nat.pow_le_pow_right (n := 2) (by decide) hm) (by decide))
theorem jb_clr {s c m : Nat} (hs : s < 2 ^ m) (hm : m ≤ 30) (hc : c < 31) : jv_and (s : Int) (jv_xor (jv_shl (1 : Int) (c : Int)) (-1 : Int)) = ((bd s (2 ^ c) : Nat) : Int) := by
  rw [jb_shl1 hc]
  exact jb_andn (i31 hs hm) (Nat.lt_of_le_of_lt (Nat.pow_le_pow_right (n := 2) (by decide) (show c ≤ 30 by omega)) (by decide))
theorem hb_t {s k : Nat} (h : s.testBit k = true) : hb (s : Int) (k : Int) = 1 := by rw [hb_nat, h]; rfl
theorem hb_f {s k : Nat} (h : s.testBit k = false) : hb (s : Int) (k : Int) = 0 := by rw [hb_nat, h]; rfl
def kn (N : Nat → Nat) (c T : Nat) : Prop := N c &&& T ≠ 0
theorem kn_mon (N : Nat → Nat) : mon (kn N) := by
  intro c S T h h1 h2
  apply h1
  rw [and_z] at h2 ⊢
  exact fun i hi => h2 i ⟨hi.1, h i hi.2⟩
def on (A : jA) (y c : Nat) : Nat := tk A c y
noncomputable def rc (A : jA) (x y : Nat) : Nat := cl (on A y) (ln A) (tk A (10 + x) y)
noncomputable def rcI (A : jA) (x y : Int) : Int := (rc A x.toNat y.toNat : Int)
theorem rc_lt {A : jA} {x y : Nat} : rc A x y < 2 ^ ln A := cl_lt
theorem on_lt {A : jA} {y : Nat} : ∀ c, c < ln A → on A y c < 2 ^ ln A := fun c _ => tk_ltl c y
set_option maxRecDepth 100000 in
theorem sg_Y_comesInto_0 {A : jA} {n l : Nat} {g : jv_S} {Q : jv_V → jv_L → jv_S → Prop} {v1 v2 : Int} (h :
   jv_r32 ((10 : Int) + v1) ∧
    ((136 = 136) ∧ (LLx (LL n l)) ∧ (MN A g ∧ (0 ≤ v2 ∧ v2 < nd A) ∧ 0 ≤ ((10 : Int) + v1) ∧ (((10 : Int) + v1) < ln A ∨ (10 ≤ ((10 : Int) + v1) ∧ ((10 : Int) + v1) < 10 + nd A)))) ∧
    jv_At jv_T jv_ml kY_comesInto 13 [jv_P 136, jv_I v1, jv_I v2, jv_I (tkI A ((10 : Int) + v1) v2), jv_I (0 : Int), jv_U] [] (LL n l) g Q) :
  jv_At jv_T jv_ml kY_comesInto 0 [jv_P 136, jv_I v1, jv_I v2, jv_U, jv_U, jv_U] [] (LL n l) g Q :=
  jv_of_wp (gok6 (A := A)) (md := []) (stop := [13, 25]) (tab := jt_Y_comesInto) rfl 400 _ _ _ _ _ h
set_option maxRecDepth 100000 in
theorem sg_Y_comesInto_13 {A : jA} {n l : Nat} {g : jv_S} {Q : jv_V → jv_L → jv_S → Prop} {v1 v2 v3 v4 : Int} {v5 : jv_V} (h :
   (v3 = v4 →
     Q (jv_I v3) (LL n l) g) ∧
    (¬ v3 = v4 →
     jv_At jv_T jv_ml kY_comesInto 25 [jv_P 136, jv_I v1, jv_I v2, jv_I v3, jv_I v3, jv_I (0 : Int)] [] (LL n l) g Q)) :
  jv_At jv_T jv_ml kY_comesInto 13 [jv_P 136, jv_I v1, jv_I v2, jv_I v3, jv_I v4, v5] [] (LL n l) g Q :=
  jv_of_wp (gok6 (A := A)) (md := []) (stop := [13, 25]) (tab := jt_Y_comesInto) rfl 400 _ _ _ _ _ h
set_option maxRecDepth 100000 in
theorem sg_Y_comesInto_25 {A : jA} {n l : Nat} {g : jv_S} {Q : jv_V → jv_L → jv_S → Prop} {v1 v2 v3 v4 v5 : Int} (h :
   ((g 136 6) ≤ v5 →
     jv_At jv_T jv_ml kY_comesInto 13 [jv_P 136, jv_I v1, jv_I v2, jv_I v3, jv_I v4, jv_I v5] [] (LL n l) g Q) ∧
    (¬ (g 136 6) ≤ v5 →
     ((0 ≤ v4 ∧ v4 < 2147483648 ∧ 0 ≤ v5 ∧ v5 < 31)) ∧
      ((hb v4 v5) = 0 →
       jv_r32 (v5 + (1 : Int)) ∧
        jv_At jv_T jv_ml kY_comesInto 25 [jv_P 136, jv_I v1, jv_I v2, jv_I (jv_or v3 (0 : Int)), jv_I v4, jv_I (v5 + (1 : Int))] [] (LL n l) g Q) ∧
      (¬ (hb v4 v5) = 0 →
       ((136 = 136) ∧ (LLx (LL n l)) ∧ (MN A g ∧ (0 ≤ v2 ∧ v2 < nd A) ∧ 0 ≤ v5 ∧ (v5 < ln A ∨ (10 ≤ v5 ∧ v5 < 10 + nd A)))) ∧
        jv_r32 (v5 + (1 : Int)) ∧
        jv_At jv_T jv_ml kY_comesInto 25 [jv_P 136, jv_I v1, jv_I v2, jv_I (jv_or v3 (tkI A v5 v2)), jv_I v4, jv_I (v5 + (1 : Int))] [] (LL n l) g Q))) :
  jv_At jv_T jv_ml kY_comesInto 25 [jv_P 136, jv_I v1, jv_I v2, jv_I v3, jv_I v4, jv_I v5] [] (LL n l) g Q :=
  jv_of_wp (gok6 (A := A)) (md := []) (stop := [13, 25]) (tab := jt_Y_comesInto) rfl 400 _ _ _ _ _ h
theorem tr_Y_comesInto {A : jA} {n l : Nat} {g : jv_S} {Q : jv_V → jv_L → jv_S → Prop} (hM : MN A g) {x y : Nat} (hx : x < nd A) (hy : y < nd A) (hQ : Q (jv_I (rc A x y)) (LL n l) g) :
  jv_Ca jv_T jv_ml kY_comesInto [jv_P 136, jv_I x, jv_I y] (LL n l) g Q := by
  have hw := hM.1
  have w1 := hw.1
  have w2 := hw.2.1
  have f2 := hM.2.2.1
  have exit : ∀ (s : Nat) (v : jv_V), s < 2 ^ ln A → sb (tk A (10 + x) y) s → (∀ T, sb (tk A (10 + x) y) T → clo (on A y) (ln A) T → sb s T) → clo (on A y) (ln A) s → jv_At jv_T jv_ml kY_comesInto 13 [jv_P 136, jv_I x, jv_I y, jv_I s, jv_I s, v] [] (LL n l) g Q := by
    intro s v h1 h2 h3 h4
    apply sg_Y_comesInto_13 (A := A)
    refine ⟨fun _ => ?_, fun h => absurd rfl h⟩
    rw [cl_eq h1 h2 h4 h3]
    exact hQ
  have main : ∀ (k s : Nat) (was : Int) (v : jv_V), ln A - pcr s (ln A) = k → (s : Int) ≠ was → s < 2 ^ ln A → sb (tk A (10 + x) y) s → (∀ T, sb (tk A (10 + x) y) T → clo (on A y) (ln A) T → sb s T) → jv_At jv_T jv_ml kY_comesInto 13 [jv_P 136, jv_I x, jv_I y, jv_I s, jv_I was, v] [] (LL n l) g Q := by
    intro k
    induction k using Nat.strongRecOn with
    | ind k ih =>
      intro s was v hk hne h1 h2 h3
      apply sg_Y_comesInto_13 (A := A)
      refine ⟨fun h => absurd h hne, fun _ => ?_⟩
      have inner : ∀ c, c ≤ ln A → jv_At jv_T jv_ml kY_comesInto 25 [jv_P 136, jv_I x, jv_I y, jv_I (gq (on A y) s c : Nat), jv_I s, jv_I c] [] (LL n l) g Q := by
        apply loop_up
        intro c hc ihc
        apply sg_Y_comesInto_25 (A := A)
        refine ⟨fun h => ?_, fun h => ?_⟩
        · have hcl : c = ln A := by omega
          subst hcl
          by_cases he : gq (on A y) s (ln A) = s
          · rw [he]
            exact exit s _ h1 h2 h3 (gq_fix he)
          · have hlt := gq_lt (N := on A y) h1 on_lt (ln A) (Nat.le_refl _)
            have hp := pcr_lt (gq_sub (N := on A y) (s := s) (ln A)) hlt (fun h => he h.symm)
            have hp2 := pcr_le (gq (on A y) s (ln A)) (ln A)
            exact ih _ (by omega) _ _ _ rfl (fun h => he (by omega)) hlt (sb_trans h2 (gq_sub _)) (fun T a b => gq_in (h3 T a b) b _ (Nat.le_refl _))
        · have hlt := i31 (gq_lt (N := on A y) h1 on_lt c hc) (by omega)
          have hs := i31 h1 (by omega)
          cases hbit : s.testBit c with
          | false =>
            have e0 := hb_f hbit
            have e1 : jv_or (gq (on A y) s c : Nat) 0 = ((gq (on A y) s (c + 1) : Nat) : Int) := by
              rw [show (0 : Int) = ((0 : Nat) : Int) from rfl, jb_or hlt (by decide)]
              show _ = ((gq (on A y) s c ||| (if s.testBit c then on A y c else 0) : Nat) : Int)
              rw [hbit]
              rfl
            have := ihc (by omega)
            rw [e1, e0]
            repeat' (first | assumption | apply And.intro | intro _)
            all_goals (first | omega | exact LLx_ok | skip)
          | true =>
            have e0 := hb_t hbit
            have e1 : jv_or (gq (on A y) s c : Nat) (tkI A (c : Int) (y : Int)) = ((gq (on A y) s (c + 1) : Nat) : Int) := by
              rw [tkI_c, jb_or hlt (i31 (tk_ltl c y) (by omega))]
              show _ = ((gq (on A y) s c ||| (if s.testBit c then on A y c else 0) : Nat) : Int)
              rw [hbit]
              rfl
            have := ihc (by omega)
            rw [e1, e0]
            repeat' (first | assumption | apply And.intro | intro _)
            all_goals (first | omega | exact LLx_ok | skip)
      exact inner 0 (by omega)
  refine sg_Y_comesInto_0 (A := A) ⟨⟨by omega, by omega⟩, ⟨rfl, LLx_ok, hM, ⟨by omega, by omega⟩, by omega, by omega⟩, ?_⟩
  rw [tkI_x]
  by_cases h0 : tk A (10 + x) y = 0
  · rw [h0]
    exact exit 0 _ (Nat.two_pow_pos _) (by rw [h0]; exact sb_refl _) (fun T _ _ => sb_zero) (fun c _ h => by rw [Nat.zero_testBit] at h; cases h)
  · exact main _ _ 0 _ rfl (by omega) (tk_ltl _ _) (sb_refl _) (fun T h _ => h)
noncomputable def pr_Y_comesInto (A : jA) : List jv_V → jv_L → jv_S → Prop := fun as L g => match as with
  | [.inr (.inr (.inl q0)), .inl x, .inl y] => (q0 = 136) ∧ (LLx L) ∧ (MN A g ∧ (0 ≤ x ∧ x < nd A) ∧ 0 ≤ y ∧ y < nd A)
  | _ => False
noncomputable def re_Y_comesInto (A : jA) : List jv_V → jv_S → jv_V := fun as g => match as with
  | [.inr (.inr (.inl q0)), .inl x, .inl y] => jv_I (rcI A x y)
  | _ => jv_U
theorem pu_Y_comesInto {A : jA} : jp_S kY_comesInto (pr_Y_comesInto A) (re_Y_comesInto A) := by
  intro as L g h
  unfold pr_Y_comesInto at h
  split at h
  · rename_i q0 x y
    obtain ⟨rfl, ⟨n, l, rfl⟩, h⟩ := h
    apply jp_of
    obtain ⟨hM, ⟨hx1, hx2⟩, hy1, hy2⟩ := h
    obtain ⟨x, rfl⟩ := Int.eq_ofNat_of_zero_le hx1
    obtain ⟨y, rfl⟩ := Int.eq_ofNat_of_zero_le hy1
    exact tr_Y_comesInto hM (by omega) (by omega) ⟨rfl, rfl, rfl⟩
  · exact h.elim
set_option maxRecDepth 100000 in
theorem sg_Y_goesRound_0 {A : jA} {n l : Nat} {g : jv_S} {Q : jv_V → jv_L → jv_S → Prop} {v1 v2 : Int} (h :
   jv_At jv_T jv_ml kY_goesRound 5 [jv_P 136, jv_I v1, jv_I v2, jv_I v1, jv_I (1 : Int), jv_U] [] (LL n l) g Q) :
  jv_At jv_T jv_ml kY_goesRound 0 [jv_P 136, jv_I v1, jv_I v2, jv_U, jv_U, jv_U] [] (LL n l) g Q :=
  jv_of_wp (gok6 (A := A)) (md := []) (stop := [5, 16]) (tab := jt_Y_goesRound) rfl 400 _ _ _ _ _ h
set_option maxRecDepth 100000 in
theorem sg_Y_goesRound_5 {A : jA} {n l : Nat} {g : jv_S} {Q : jv_V → jv_L → jv_S → Prop} {v1 v2 v3 v4 : Int} {v5 : jv_V} (h :
   (v4 = 0 →
     (v3 = 0 →
       ((0 : Int) = 0 ∨ (0 : Int) = 1) ∧ Q (jv_I (0 : Int)) (LL n l) g) ∧
      (¬ v3 = 0 →
       ((1 : Int) = 0 ∨ (1 : Int) = 1) ∧ Q (jv_I (1 : Int)) (LL n l) g)) ∧
    (¬ v4 = 0 →
     jv_At jv_T jv_ml kY_goesRound 16 [jv_P 136, jv_I v1, jv_I v2, jv_I v3, jv_I (0 : Int), jv_I (0 : Int)] [] (LL n l) g Q)) :
  jv_At jv_T jv_ml kY_goesRound 5 [jv_P 136, jv_I v1, jv_I v2, jv_I v3, jv_I v4, v5] [] (LL n l) g Q :=
  jv_of_wp (gok6 (A := A)) (md := []) (stop := [5, 16]) (tab := jt_Y_goesRound) rfl 400 _ _ _ _ _ h
set_option maxRecDepth 100000 in
theorem sg_Y_goesRound_16 {A : jA} {n l : Nat} {g : jv_S} {Q : jv_V → jv_L → jv_S → Prop} {v1 v2 v3 v4 v5 : Int} (h :
   ((g 136 6) ≤ v5 →
     jv_At jv_T jv_ml kY_goesRound 5 [jv_P 136, jv_I v1, jv_I v2, jv_I v3, jv_I v4, jv_I v5] [] (LL n l) g Q) ∧
    (¬ (g 136 6) ≤ v5 →
     ((0 ≤ v3 ∧ v3 < 2147483648 ∧ 0 ≤ v5 ∧ v5 < 31)) ∧
      ((hb v3 v5) = 0 →
       jv_r32 (v5 + (1 : Int)) ∧
        jv_At jv_T jv_ml kY_goesRound 16 [jv_P 136, jv_I v1, jv_I v2, jv_I v3, jv_I v4, jv_I (v5 + (1 : Int))] [] (LL n l) g Q) ∧
      (¬ (hb v3 v5) = 0 →
       ((136 = 136) ∧ (LLx (LL n l)) ∧ (MN A g ∧ (0 ≤ v2 ∧ v2 < nd A) ∧ 0 ≤ v5 ∧ (v5 < ln A ∨ (10 ≤ v5 ∧ v5 < 10 + nd A)))) ∧
        ((jv_and (tkI A v5 v2) v3) = 0 →
         jv_r32 (v5 + (1 : Int)) ∧
          jv_At jv_T jv_ml kY_goesRound 16 [jv_P 136, jv_I v1, jv_I v2, jv_I (jv_and v3 (jv_xor (jv_shl (1 : Int) v5) (-1 : Int))), jv_I (1 : Int), jv_I (v5 + (1 : Int))] [] (LL n l) g Q) ∧
        (¬ (jv_and (tkI A v5 v2) v3) = 0 →
         jv_r32 (v5 + (1 : Int)) ∧
          jv_At jv_T jv_ml kY_goesRound 16 [jv_P 136, jv_I v1, jv_I v2, jv_I v3, jv_I v4, jv_I (v5 + (1 : Int))] [] (LL n l) g Q)))) :
  jv_At jv_T jv_ml kY_goesRound 16 [jv_P 136, jv_I v1, jv_I v2, jv_I v3, jv_I v4, jv_I v5] [] (LL n l) g Q :=
  jv_of_wp (gok6 (A := A)) (md := []) (stop := [5, 16]) (tab := jt_Y_goesRound) rfl 400 _ _ _ _ _ h
theorem tr_Y_goesRound {A : jA} {n l : Nat} {g : jv_S} {Q : jv_V → jv_L → jv_S → Prop} (hM : MN A g) {s0 y : Nat} (hs0 : s0 < 2 ^ ln A) (hy : y < nd A) (hQ : Q (jv_I (jb_p (gf (kn (on A y)) (ln A) s0 ≠ 0))) (LL n l) g) :
  jv_Ca jv_T jv_ml kY_goesRound [jv_P 136, jv_I s0, jv_I y] (LL n l) g Q := by
  have hw := hM.1
  have w1 := hw.1
  have w2 := hw.2.1
  have f2 := hM.2.2.1
  have exit : ∀ (s : Nat) (v : jv_V), s = gf (kn (on A y)) (ln A) s0 → jv_At jv_T jv_ml kY_goesRound 5 [jv_P 136, jv_I s0, jv_I y, jv_I s, jv_I 0, v] [] (LL n l) g Q := by
    intro s v h1
    apply sg_Y_goesRound_5 (A := A)
    rw [← h1] at hQ
    refine ⟨fun _ => ⟨fun h => ⟨Or.inl rfl, ?_⟩, fun h => ⟨Or.inr rfl, ?_⟩⟩, fun h => absurd rfl h⟩
    · rw [jp_f (by omega)] at hQ; exact hQ
    · rw [jp_t (by omega)] at hQ; exact hQ
  have main : ∀ (k s : Nat) (v : jv_V), pcr s (ln A) = k → s < 2 ^ ln A → GI (kn (on A y)) s0 s → jv_At jv_T jv_ml kY_goesRound 5 [jv_P 136, jv_I s0, jv_I y, jv_I s, jv_I 1, v] [] (LL n l) g Q := by
    intro k
    induction k using Nat.strongRecOn with
    | ind k ih =>
      intro s v hk h1 h2
      apply sg_Y_goesRound_5 (A := A)
      refine ⟨fun h => by omega, fun _ => ?_⟩
      have inner : ∀ c, c ≤ ln A → ∀ mo : Int, (mo = if rp (kn (on A y)) s c = s then 0 else 1) → jv_At jv_T jv_ml kY_goesRound 16 [jv_P 136, jv_I s0, jv_I y, jv_I (rp (kn (on A y)) s c : Nat), jv_I mo, jv_I c] [] (LL n l) g Q := by
        apply loop_up
        intro c hc ihc mo hmo
        have hlt := rp_lt (nd := kn (on A y)) h1 c
        apply sg_Y_goesRound_16 (A := A)
        refine ⟨fun h => ?_, fun h => ?_⟩
        · have hcl : c = ln A := by omega
          subst hcl
          by_cases he : rp (kn (on A y)) s (ln A) = s
          · rw [if_pos he] at hmo
            rw [hmo, he]
            exact exit s _ (GI_fix h2 h1 he)
          · rw [if_neg he] at hmo
            rw [hmo]
            exact ih _ (by have := rp_ne h1 he; omega) _ _ rfl hlt (rp_GI (kn_mon _) h2 _)
        · have hl := i31 hlt (by omega)
          have ht := i31 (on_lt (A := A) (y := y) c (by omega)) (by omega)
          cases hbit : (rp (kn (on A y)) s c).testBit c with
          | false =>
            have e0 := hb_f hbit
            have e1 := rp_n (nd := kn (on A y)) (t := s) (c := c) (Or.inl hbit)
            have := ihc (by omega) mo (by rw [e1]; exact hmo)
            rw [e1] at this
            rw [e0]
            repeat' (first | assumption | apply And.intro | intro _)
            all_goals (first | omega | exact LLx_ok | skip)
          | true =>
            have e0 := hb_t hbit
            have e2 : jv_and (tkI A (c : Int) (y : Int)) ((rp (kn (on A y)) s c : Nat) : Int) = ((on A y c &&& rp (kn (on A y)) s c : Nat) : Int) := by
              rw [tkI_c]
              exact jb_and ht hl
            rw [e0, e2]
            by_cases hn : on A y c &&& rp (kn (on A y)) s c = 0
            · obtain ⟨e3, e4⟩ := rp_y hbit (show ¬ kn (on A y) c _ from fun h => h hn)
              have := ihc (by omega) 1 (by rw [if_neg e4])
              rw [e3] at this
              rw [jb_clr hlt (by omega) (by omega)]
              repeat' (first | assumption | apply And.intro | intro _)
              all_goals (first | omega | exact LLx_ok | skip)
            · have e1 := rp_n (nd := kn (on A y)) (t := s) (c := c) (Or.inr hn)
              have := ihc (by omega) mo (by rw [e1]; exact hmo)
              rw [e1] at this
              repeat' (first | assumption | apply And.intro | intro _)
              all_goals (first | omega | exact LLx_ok | skip)
      exact inner 0 (by omega) 0 (by rw [show rp (kn (on A y)) s 0 = s from rfl, if_pos rfl])
  exact sg_Y_goesRound_0 (A := A) (main _ _ _ rfl hs0 GI_0)
noncomputable def grI (A : jA) (s y : Int) : Int := jb_p (gf (kn (on A y.toNat)) (ln A) s.toNat ≠ 0)
noncomputable def pr_Y_goesRound (A : jA) : List jv_V → jv_L → jv_S → Prop := fun as L g => match as with
  | [.inr (.inr (.inl q0)), .inl x, .inl y] => (q0 = 136) ∧ (LLx L) ∧ (MN A g ∧ (0 ≤ x ∧ x.toNat < 2 ^ ln A) ∧ 0 ≤ y ∧ y < nd A)
  | _ => False
noncomputable def re_Y_goesRound (A : jA) : List jv_V → jv_S → jv_V := fun as g => match as with
  | [.inr (.inr (.inl q0)), .inl x, .inl y] => jv_I (grI A x y)
  | _ => jv_U
theorem pu_Y_goesRound {A : jA} : jp_S kY_goesRound (pr_Y_goesRound A) (re_Y_goesRound A) := by
  intro as L g h
  unfold pr_Y_goesRound at h
  split at h
  · rename_i q0 x y
    obtain ⟨rfl, ⟨n, l, rfl⟩, h⟩ := h
    apply jp_of
    obtain ⟨hM, ⟨hx1, hx2⟩, hy1, hy2⟩ := h
    obtain ⟨x, rfl⟩ := Int.eq_ofNat_of_zero_le hx1
    obtain ⟨y, rfl⟩ := Int.eq_ofNat_of_zero_le hy1
    exact tr_Y_goesRound hM hx2 (by omega) ⟨rfl, rfl, rfl⟩
  · exact h.elim
noncomputable def jG7 (A : jA) : jv_G := (kY_comesInto, pr_Y_comesInto A, re_Y_comesInto A) :: (kY_goesRound, pr_Y_goesRound A, re_Y_goesRound A) :: jG6 A
theorem gok7 {A : jA} : jv_GOk jv_T jv_ml (jG7 A) := jp_cons pu_Y_comesInto (jp_cons pu_Y_goesRound (gok6))
