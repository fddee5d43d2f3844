/-! ===== the class's knot, reach, endsWell, survey, howItComes ===== -/
theorem an_f {s c m : Nat} (hs : s < 2 ^ m) (hm : m ≤ 30) (hc : c < 31) (h : s.testBit c = false) : jv_and (s : Int) (jv_shl (1 : Int) (c : Int)) = 0 := by
  rw [jb_shl1 hc, jb_and (i31 hs hm) (Nat.lt_of_le_of_lt (Nat.pow_le_pow_right (n := 2) (by decide) (show c ≤ 30 by omega)) (by decide))]
  have : s &&& 2 ^ c = 0 := by
    rw [and_z]
    intro i hi
    rw [Nat.testBit_two_pow, decide_eq_true_iff] at hi
    rw [← hi.2, h] at hi
    cases hi.1
  rw [this]
  rfl
theorem an_t {s c m : Nat} (hs : s < 2 ^ m) (hm : m ≤ 30) (hc : c < 31) (h : s.testBit c = true) : ¬ jv_and (s : Int) (jv_shl (1 : Int) (c : Int)) = 0 := by
  rw [jb_shl1 hc, jb_and (i31 hs hm) (Nat.lt_of_le_of_lt (Nat.pow_le_pow_right (n := 2) (by decide) (show c ≤ 30 by omega)) (by decide))]
  intro h1
  have h2 : s &&& 2 ^ c = 0 := by omega
  rw [and_z] at h2
  exact h2 c ⟨h, by rw [Nat.testBit_two_pow]; simp⟩
def un (f : Nat → Nat) : Nat → Nat
  | 0 => 0
  | m + 1 => un f m ||| f m
theorem un_bit {f : Nat → Nat} {m i : Nat} : (un f m).testBit i = true ↔ ∃ k, k < m ∧ (f k).testBit i = true := by
  induction m with
  | zero => simp [un]
  | succ m ih =>
    unfold un
    rw [Nat.testBit_or, Bool.or_eq_true, ih]
    constructor
    · rintro (⟨k, h1, h2⟩ | h)
      · exact ⟨k, by omega, h2⟩
      · exact ⟨m, by omega, h⟩
    · rintro ⟨k, h1, h2⟩
      by_cases h : k = m
      · subst h; exact Or.inr h2
      · exact Or.inl ⟨k, by omega, h2⟩
theorem un_lt {f : Nat → Nat} {m k : Nat} (h : ∀ i, i < k → f i < 2 ^ m) : un f k < 2 ^ m := lt_of_bt (fun i hi => by obtain ⟨j, h1, h2⟩ := un_bit.mp hi; exact bt_lt (h j h1) h2)
/-- all that set out for y -/
def so (A : jA) (y : Nat) : Nat := un (fun x => tk A (10 + x) y) (nd A)
theorem so_lt {A : jA} {y : Nat} : so A y < 2 ^ ln A := un_lt (fun _ _ => tk_ltl _ _)
/-- the lanes that carry y -/
noncomputable def cr (A : jA) (y : Nat) : Nat := cl (on A y) (ln A) (so A y)
theorem cr_lt {A : jA} {y : Nat} : cr A y < 2 ^ ln A := cl_lt
noncomputable def ew (A : jA) (s y : Nat) : Bool := !anyB (de A s y) (ln A) && decide (gf (kn (on A y)) (ln A) s = 0)
def ns (A : jA) (y x : Nat) : Bool := !decide (x = y) && decide (tk A (10 + x) y = 0)
noncomputable def sv (A : jA) (y : Nat) : Bool := !anyB (ns A y) (nd A) && ew A (cr A y) y
set_option maxRecDepth 100000 in
theorem sg_X_knot_65_0 {A : jA} {n l : Nat} {g : jv_S} {Q : jv_V → jv_L → jv_S → Prop} {v1 v2 : Int} (h :
   jv_At jv_T jv_ml kX_knot 5 [jv_P 65, jv_I v1, jv_I v2, jv_I v2, jv_I (0 : Int), jv_U, jv_U] [] (LL n l) g Q) :
  jv_At jv_T jv_ml kX_knot 0 [jv_P 65, jv_I v1, jv_I v2, jv_U, jv_U, jv_U, jv_U] [] (LL n l) g Q :=
  jv_of_wp (gok9 (A := A)) (md := []) (stop := [5, 21]) (tab := jt_X_knot) rfl 400 _ _ _ _ _ h
set_option maxRecDepth 100000 in
theorem sg_X_knot_65_5 {A : jA} {n l : Nat} {g : jv_S} {Q : jv_V → jv_L → jv_S → Prop} {v1 v2 v3 v4 : Int} {v5 v6 : jv_V} (h :
   (v1 ≤ v4 →
     Q (jv_I v3) (LL n l) g) ∧
    (¬ v1 ≤ v4 →
     (v3 = 0 →
       Q (jv_I v3) (LL n l) g) ∧
      (¬ v3 = 0 →
       jv_At jv_T jv_ml kX_knot 21 [jv_P 65, jv_I v1, jv_I v2, jv_I v3, jv_I v4, jv_I v3, jv_I (0 : Int)] [] (LL n l) g Q))) :
  jv_At jv_T jv_ml kX_knot 5 [jv_P 65, jv_I v1, jv_I v2, jv_I v3, jv_I v4, v5, v6] [] (LL n l) g Q :=
  jv_of_wp (gok9 (A := A)) (md := []) (stop := [5, 21]) (tab := jt_X_knot) rfl 400 _ _ _ _ _ h
set_option maxRecDepth 100000 in
theorem sg_X_knot_65_21 {A : jA} {n l : Nat} {g : jv_S} {Q : jv_V → jv_L → jv_S → Prop} {v1 v2 v3 v4 v5 v6 : Int} (h :
   (v1 ≤ v6 →
     (v3 = v5 →
       Q (jv_I v3) (LL n l) g) ∧
      (¬ v3 = v5 →
       jv_r32 (v4 + (1 : Int)) ∧
        jv_At jv_T jv_ml kX_knot 5 [jv_P 65, jv_I v1, jv_I v2, jv_I v3, jv_I (v4 + (1 : Int)), jv_I v5, jv_I v6] [] (LL n l) g Q)) ∧
    (¬ v1 ≤ v6 →
     ((jv_and v3 (jv_shl (1 : Int) v6)) = 0 →
       jv_r32 (v6 + (1 : Int)) ∧
        jv_At jv_T jv_ml kX_knot 21 [jv_P 65, jv_I v1, jv_I v2, jv_I v3, jv_I v4, jv_I v5, jv_I (v6 + (1 : Int))] [] (LL n l) g Q) ∧
      (¬ (jv_and v3 (jv_shl (1 : Int) v6)) = 0 →
       (0 ≤ v6 ∧ v6 < 10) ∧
        ((jv_and (g 65 v6) v3) = 0 →
         jv_r32 (v6 + (1 : Int)) ∧
          jv_At jv_T jv_ml kX_knot 21 [jv_P 65, jv_I v1, jv_I v2, jv_I (jv_and v3 (jv_xor (jv_shl (1 : Int) v6) (-1 : Int))), jv_I v4, jv_I v5, jv_I (v6 + (1 : Int))] [] (LL n l) g Q) ∧
        (¬ (jv_and (g 65 v6) v3) = 0 →
         jv_r32 (v6 + (1 : Int)) ∧
          jv_At jv_T jv_ml kX_knot 21 [jv_P 65, jv_I v1, jv_I v2, jv_I v3, jv_I v4, jv_I v5, jv_I (v6 + (1 : Int))] [] (LL n l) g Q)))) :
  jv_At jv_T jv_ml kX_knot 21 [jv_P 65, jv_I v1, jv_I v2, jv_I v3, jv_I v4, jv_I v5, jv_I v6] [] (LL n l) g Q :=
  jv_of_wp (gok9 (A := A)) (md := []) (stop := [5, 21]) (tab := jt_X_knot) rfl 400 _ _ _ _ _ h
theorem tr_X_knot_65 {A : jA} {n l : Nat} {g : jv_S} {Q : jv_V → jv_L → jv_S → Prop} {N : Nat → Nat} {m s0 : Nat} (hm : m ≤ 10) (hN : ∀ c : Nat, c < m → g 65 c = N c) (hl : ∀ c, c < m → N c < 2 ^ m) (hs0 : s0 < 2 ^ m) (hQ : Q (jv_I (gf (kn N) m s0 : Nat)) (LL n l) g) :
  jv_Ca jv_T jv_ml kX_knot [jv_P 65, jv_I m, jv_I s0] (LL n l) g Q := by
  have main : ∀ r, r ≤ m → ∀ (s : Nat) (v w : jv_V), pcr s m + r ≤ m → s < 2 ^ m → GI (kn N) s0 s → jv_At jv_T jv_ml kX_knot 5 [jv_P 65, jv_I m, jv_I s0, jv_I s, jv_I r, v, w] [] (LL n l) g Q := by
    apply loop_up
    intro r hr ih s v w hk h1 h2
    apply sg_X_knot_65_5 (A := A)
    have hz : s = 0 → Q (jv_I s) (LL n l) g := by
      intro h
      subst h
      rw [GI_zero (m := m) h2]
      exact hQ
    refine ⟨fun h => hz (pcr_z h1 (by omega)), fun h => ⟨fun h => hz (by omega), fun h3 => ?_⟩⟩
    have inner : ∀ c, c ≤ m → jv_At jv_T jv_ml kX_knot 21 [jv_P 65, jv_I m, jv_I s0, jv_I (rp (kn N) s c : Nat), jv_I r, jv_I s, jv_I c] [] (LL n l) g Q := by
      apply loop_up
      intro c hc ihc
      have hlt := rp_lt (nd := kn N) h1 c
      apply sg_X_knot_65_21 (A := A)
      refine ⟨fun h => ?_, fun h => ?_⟩
      · have hcl : c = m := by omega
        subst hcl
        refine ⟨fun h4 => ?_, fun h4 => ⟨⟨by omega, by omega⟩, ?_⟩⟩
        · have he : rp (kn N) s c = s := by omega
          rw [he, GI_fix h2 h1 he]
          exact hQ
        · have he : ¬ rp (kn N) s c = s := by omega
          exact ih (by omega) _ _ _ (by have := rp_ne h1 he; omega) hlt (rp_GI (kn_mon _) h2 _)
      · have hl1 := i31 hlt (by omega)
        have ht := i31 (hl c (by omega)) (by omega)
        have fN := hN c (by omega)
        cases hbit : (rp (kn N) s c).testBit c with
        | false =>
          have e0 := an_f hlt (by omega) (by omega) hbit
          have e1 := rp_n (nd := kn N) (t := s) (c := c) (Or.inl hbit)
          have := ihc (by omega)
          rw [e1] at this
          rw [e0]
          repeat' (first | assumption | apply And.intro | intro _)
          all_goals (first | omega | exact LLx_ok | skip)
        | true =>
          have e0 := an_t hlt (by omega) (by omega) hbit
          have e2 : jv_and (g 65 c) ((rp (kn N) s c : Nat) : Int) = ((N c &&& rp (kn N) s c : Nat) : Int) := by
            rw [fN]
            exact jb_and ht hl1
          rw [e2]
          by_cases hn : N c &&& rp (kn N) s c = 0
          · obtain ⟨e3, e4⟩ := rp_y hbit (show ¬ kn N c _ from fun h => h hn)
            have := ihc (by omega)
            rw [e3] at this
            rw [jb_clr hlt (by omega) (by omega)]
            repeat' (first | assumption | apply And.intro | intro _)
            all_goals (first | omega | exact LLx_ok | skip)
          · have e1 := rp_n (nd := kn N) (t := s) (c := c) (Or.inr hn)
            have := ihc (by omega)
            rw [e1] at this
            repeat' (first | assumption | apply And.intro | intro _)
            all_goals (first | omega | exact LLx_ok | skip)
    exact inner 0 (by omega)
  exact sg_X_knot_65_0 (A := A) (main 0 (by omega) _ _ _ (by have := pcr_le s0 m; omega) hs0 GI_0)
set_option maxRecDepth 100000 in
theorem sg_X_knot_129_0 {A : jA} {n l : Nat} {g : jv_S} {Q : jv_V → jv_L → jv_S → Prop} {v1 v2 : Int} (h :
   jv_At jv_T jv_ml kX_knot 5 [jv_P 129, jv_I v1, jv_I v2, jv_I v2, jv_I (0 : Int), jv_U, jv_U] [] (LL n l) g Q) :
  jv_At jv_T jv_ml kX_knot 0 [jv_P 129, jv_I v1, jv_I v2, jv_U, jv_U, jv_U, jv_U] [] (LL n l) g Q :=
  jv_of_wp (gok9 (A := A)) (md := []) (stop := [5, 21]) (tab := jt_X_knot) rfl 400 _ _ _ _ _ h
set_option maxRecDepth 100000 in
theorem sg_X_knot_129_5 {A : jA} {n l : Nat} {g : jv_S} {Q : jv_V → jv_L → jv_S → Prop} {v1 v2 v3 v4 : Int} {v5 v6 : jv_V} (h :
   (v1 ≤ v4 →
     Q (jv_I v3) (LL n l) g) ∧
    (¬ v1 ≤ v4 →
     (v3 = 0 →
       Q (jv_I v3) (LL n l) g) ∧
      (¬ v3 = 0 →
       jv_At jv_T jv_ml kX_knot 21 [jv_P 129, jv_I v1, jv_I v2, jv_I v3, jv_I v4, jv_I v3, jv_I (0 : Int)] [] (LL n l) g Q))) :
  jv_At jv_T jv_ml kX_knot 5 [jv_P 129, jv_I v1, jv_I v2, jv_I v3, jv_I v4, v5, v6] [] (LL n l) g Q :=
  jv_of_wp (gok9 (A := A)) (md := []) (stop := [5, 21]) (tab := jt_X_knot) rfl 400 _ _ _ _ _ h
set_option maxRecDepth 100000 in
theorem sg_X_knot_129_21 {A : jA} {n l : Nat} {g : jv_S} {Q : jv_V → jv_L → jv_S → Prop} {v1 v2 v3 v4 v5 v6 : Int} (h :
   (v1 ≤ v6 →
     (v3 = v5 →
       Q (jv_I v3) (LL n l) g) ∧
      (¬ v3 = v5 →
       jv_r32 (v4 + (1 : Int)) ∧
        jv_At jv_T jv_ml kX_knot 5 [jv_P 129, jv_I v1, jv_I v2, jv_I v3, jv_I (v4 + (1 : Int)), jv_I v5, jv_I v6] [] (LL n l) g Q)) ∧
    (¬ v1 ≤ v6 →
     ((jv_and v3 (jv_shl (1 : Int) v6)) = 0 →
       jv_r32 (v6 + (1 : Int)) ∧
        jv_At jv_T jv_ml kX_knot 21 [jv_P 129, jv_I v1, jv_I v2, jv_I v3, jv_I v4, jv_I v5, jv_I (v6 + (1 : Int))] [] (LL n l) g Q) ∧
      (¬ (jv_and v3 (jv_shl (1 : Int) v6)) = 0 →
       (0 ≤ v6 ∧ v6 < 10) ∧
        ((jv_and (g 129 v6) v3) = 0 →
         jv_r32 (v6 + (1 : Int)) ∧
          jv_At jv_T jv_ml kX_knot 21 [jv_P 129, jv_I v1, jv_I v2, jv_I (jv_and v3 (jv_xor (jv_shl (1 : Int) v6) (-1 : Int))), jv_I v4, jv_I v5, jv_I (v6 + (1 : Int))] [] (LL n l) g Q) ∧
        (¬ (jv_and (g 129 v6) v3) = 0 →
         jv_r32 (v6 + (1 : Int)) ∧
          jv_At jv_T jv_ml kX_knot 21 [jv_P 129, jv_I v1, jv_I v2, jv_I v3, jv_I v4, jv_I v5, jv_I (v6 + (1 : Int))] [] (LL n l) g Q)))) :
  jv_At jv_T jv_ml kX_knot 21 [jv_P 129, jv_I v1, jv_I v2, jv_I v3, jv_I v4, jv_I v5, jv_I v6] [] (LL n l) g Q :=
  jv_of_wp (gok9 (A := A)) (md := []) (stop := [5, 21]) (tab := jt_X_knot) rfl 400 _ _ _ _ _ h
theorem tr_X_knot_129 {A : jA} {n l : Nat} {g : jv_S} {Q : jv_V → jv_L → jv_S → Prop} {N : Nat → Nat} {m s0 : Nat} (hm : m ≤ 10) (hN : ∀ c : Nat, c < m → g 129 c = N c) (hl : ∀ c, c < m → N c < 2 ^ m) (hs0 : s0 < 2 ^ m) (hQ : Q (jv_I (gf (kn N) m s0 : Nat)) (LL n l) g) :
  jv_Ca jv_T jv_ml kX_knot [jv_P 129, jv_I m, jv_I s0] (LL n l) g Q := by
  have main : ∀ r, r ≤ m → ∀ (s : Nat) (v w : jv_V), pcr s m + r ≤ m → s < 2 ^ m → GI (kn N) s0 s → jv_At jv_T jv_ml kX_knot 5 [jv_P 129, jv_I m, jv_I s0, jv_I s, jv_I r, v, w] [] (LL n l) g Q := by
    apply loop_up
    intro r hr ih s v w hk h1 h2
    apply sg_X_knot_129_5 (A := A)
    have hz : s = 0 → Q (jv_I s) (LL n l) g := by
      intro h
      subst h
      rw [GI_zero (m := m) h2]
      exact hQ
    refine ⟨fun h => hz (pcr_z h1 (by omega)), fun h => ⟨fun h => hz (by omega), fun h3 => ?_⟩⟩
    have inner : ∀ c, c ≤ m → jv_At jv_T jv_ml kX_knot 21 [jv_P 129, jv_I m, jv_I s0, jv_I (rp (kn N) s c : Nat), jv_I r, jv_I s, jv_I c] [] (LL n l) g Q := by
      apply loop_up
      intro c hc ihc
      have hlt := rp_lt (nd := kn N) h1 c
      apply sg_X_knot_129_21 (A := A)
      refine ⟨fun h => ?_, fun h => ?_⟩
      · have hcl : c = m := by omega
        subst hcl
        refine ⟨fun h4 => ?_, fun h4 => ⟨⟨by omega, by omega⟩, ?_⟩⟩
        · have he : rp (kn N) s c = s := by omega
          rw [he, GI_fix h2 h1 he]
          exact hQ
        · have he : ¬ rp (kn N) s c = s := by omega
          exact ih (by omega) _ _ _ (by have := rp_ne h1 he; omega) hlt (rp_GI (kn_mon _) h2 _)
      · have hl1 := i31 hlt (by omega)
        have ht := i31 (hl c (by omega)) (by omega)
        have fN := hN c (by omega)
        cases hbit : (rp (kn N) s c).testBit c with
        | false =>
          have e0 := an_f hlt (by omega) (by omega) hbit
          have e1 := rp_n (nd := kn N) (t := s) (c := c) (Or.inl hbit)
          have := ihc (by omega)
          rw [e1] at this
          rw [e0]
          repeat' (first | assumption | apply And.intro | intro _)
          all_goals (first | omega | exact LLx_ok | skip)
        | true =>
          have e0 := an_t hlt (by omega) (by omega) hbit
          have e2 : jv_and (g 129 c) ((rp (kn N) s c : Nat) : Int) = ((N c &&& rp (kn N) s c : Nat) : Int) := by
            rw [fN]
            exact jb_and ht hl1
          rw [e2]
          by_cases hn : N c &&& rp (kn N) s c = 0
          · obtain ⟨e3, e4⟩ := rp_y hbit (show ¬ kn N c _ from fun h => h hn)
            have := ihc (by omega)
            rw [e3] at this
            rw [jb_clr hlt (by omega) (by omega)]
            repeat' (first | assumption | apply And.intro | intro _)
            all_goals (first | omega | exact LLx_ok | skip)
          · have e1 := rp_n (nd := kn N) (t := s) (c := c) (Or.inr hn)
            have := ihc (by omega)
            rw [e1] at this
            repeat' (first | assumption | apply And.intro | intro _)
            all_goals (first | omega | exact LLx_ok | skip)
    exact inner 0 (by omega)
  exact sg_X_knot_129_0 (A := A) (main 0 (by omega) _ _ _ (by have := pcr_le s0 m; omega) hs0 GI_0)
set_option maxRecDepth 100000 in
theorem sg_X_knot_62_0 {A : jA} {n l : Nat} {g : jv_S} {Q : jv_V → jv_L → jv_S → Prop} {v1 v2 : Int} (h :
   jv_At jv_T jv_ml kX_knot 5 [jv_P 62, jv_I v1, jv_I v2, jv_I v2, jv_I (0 : Int), jv_U, jv_U] [] (LL n l) g Q) :
  jv_At jv_T jv_ml kX_knot 0 [jv_P 62, jv_I v1, jv_I v2, jv_U, jv_U, jv_U, jv_U] [] (LL n l) g Q :=
  jv_of_wp (gok9 (A := A)) (md := []) (stop := [5, 21]) (tab := jt_X_knot) rfl 400 _ _ _ _ _ h
set_option maxRecDepth 100000 in
theorem sg_X_knot_62_5 {A : jA} {n l : Nat} {g : jv_S} {Q : jv_V → jv_L → jv_S → Prop} {v1 v2 v3 v4 : Int} {v5 v6 : jv_V} (h :
   (v1 ≤ v4 →
     Q (jv_I v3) (LL n l) g) ∧
    (¬ v1 ≤ v4 →
     (v3 = 0 →
       Q (jv_I v3) (LL n l) g) ∧
      (¬ v3 = 0 →
       jv_At jv_T jv_ml kX_knot 21 [jv_P 62, jv_I v1, jv_I v2, jv_I v3, jv_I v4, jv_I v3, jv_I (0 : Int)] [] (LL n l) g Q))) :
  jv_At jv_T jv_ml kX_knot 5 [jv_P 62, jv_I v1, jv_I v2, jv_I v3, jv_I v4, v5, v6] [] (LL n l) g Q :=
  jv_of_wp (gok9 (A := A)) (md := []) (stop := [5, 21]) (tab := jt_X_knot) rfl 400 _ _ _ _ _ h
set_option maxRecDepth 100000 in
theorem sg_X_knot_62_21 {A : jA} {n l : Nat} {g : jv_S} {Q : jv_V → jv_L → jv_S → Prop} {v1 v2 v3 v4 v5 v6 : Int} (h :
   (v1 ≤ v6 →
     (v3 = v5 →
       Q (jv_I v3) (LL n l) g) ∧
      (¬ v3 = v5 →
       jv_r32 (v4 + (1 : Int)) ∧
        jv_At jv_T jv_ml kX_knot 5 [jv_P 62, jv_I v1, jv_I v2, jv_I v3, jv_I (v4 + (1 : Int)), jv_I v5, jv_I v6] [] (LL n l) g Q)) ∧
    (¬ v1 ≤ v6 →
     ((jv_and v3 (jv_shl (1 : Int) v6)) = 0 →
       jv_r32 (v6 + (1 : Int)) ∧
        jv_At jv_T jv_ml kX_knot 21 [jv_P 62, jv_I v1, jv_I v2, jv_I v3, jv_I v4, jv_I v5, jv_I (v6 + (1 : Int))] [] (LL n l) g Q) ∧
      (¬ (jv_and v3 (jv_shl (1 : Int) v6)) = 0 →
       (0 ≤ v6 ∧ v6 < 10) ∧
        ((jv_and (g 62 v6) v3) = 0 →
         jv_r32 (v6 + (1 : Int)) ∧
          jv_At jv_T jv_ml kX_knot 21 [jv_P 62, jv_I v1, jv_I v2, jv_I (jv_and v3 (jv_xor (jv_shl (1 : Int) v6) (-1 : Int))), jv_I v4, jv_I v5, jv_I (v6 + (1 : Int))] [] (LL n l) g Q) ∧
        (¬ (jv_and (g 62 v6) v3) = 0 →
         jv_r32 (v6 + (1 : Int)) ∧
          jv_At jv_T jv_ml kX_knot 21 [jv_P 62, jv_I v1, jv_I v2, jv_I v3, jv_I v4, jv_I v5, jv_I (v6 + (1 : Int))] [] (LL n l) g Q)))) :
  jv_At jv_T jv_ml kX_knot 21 [jv_P 62, jv_I v1, jv_I v2, jv_I v3, jv_I v4, jv_I v5, jv_I v6] [] (LL n l) g Q :=
  jv_of_wp (gok9 (A := A)) (md := []) (stop := [5, 21]) (tab := jt_X_knot) rfl 400 _ _ _ _ _ h
theorem tr_X_knot_62 {A : jA} {n l : Nat} {g : jv_S} {Q : jv_V → jv_L → jv_S → Prop} {N : Nat → Nat} {m s0 : Nat} (hm : m ≤ 10) (hN : ∀ c : Nat, c < m → g 62 c = N c) (hl : ∀ c, c < m → N c < 2 ^ m) (hs0 : s0 < 2 ^ m) (hQ : Q (jv_I (gf (kn N) m s0 : Nat)) (LL n l) g) :
  jv_Ca jv_T jv_ml kX_knot [jv_P 62, jv_I m, jv_I s0] (LL n l) g Q := by
  have main : ∀ r, r ≤ m → ∀ (s : Nat) (v w : jv_V), pcr s m + r ≤ m → s < 2 ^ m → GI (kn N) s0 s → jv_At jv_T jv_ml kX_knot 5 [jv_P 62, jv_I m, jv_I s0, jv_I s, jv_I r, v, w] [] (LL n l) g Q := by
    apply loop_up
    intro r hr ih s v w hk h1 h2
    apply sg_X_knot_62_5 (A := A)
    have hz : s = 0 → Q (jv_I s) (LL n l) g := by
      intro h
      subst h
      rw [GI_zero (m := m) h2]
      exact hQ
    refine ⟨fun h => hz (pcr_z h1 (by omega)), fun h => ⟨fun h => hz (by omega), fun h3 => ?_⟩⟩
    have inner : ∀ c, c ≤ m → jv_At jv_T jv_ml kX_knot 21 [jv_P 62, jv_I m, jv_I s0, jv_I (rp (kn N) s c : Nat), jv_I r, jv_I s, jv_I c] [] (LL n l) g Q := by
      apply loop_up
      intro c hc ihc
      have hlt := rp_lt (nd := kn N) h1 c
      apply sg_X_knot_62_21 (A := A)
      refine ⟨fun h => ?_, fun h => ?_⟩
      · have hcl : c = m := by omega
        subst hcl
        refine ⟨fun h4 => ?_, fun h4 => ⟨⟨by omega, by omega⟩, ?_⟩⟩
        · have he : rp (kn N) s c = s := by omega
          rw [he, GI_fix h2 h1 he]
          exact hQ
        · have he : ¬ rp (kn N) s c = s := by omega
          exact ih (by omega) _ _ _ (by have := rp_ne h1 he; omega) hlt (rp_GI (kn_mon _) h2 _)
      · have hl1 := i31 hlt (by omega)
        have ht := i31 (hl c (by omega)) (by omega)
        have fN := hN c (by omega)
        cases hbit : (rp (kn N) s c).testBit c with
        | false =>
          have e0 := an_f hlt (by omega) (by omega) hbit
          have e1 := rp_n (nd := kn N) (t := s) (c := c) (Or.inl hbit)
          have := ihc (by omega)
          rw [e1] at this
          rw [e0]
          repeat' (first | assumption | apply And.intro | intro _)
          all_goals (first | omega | exact LLx_ok | skip)
        | true =>
          have e0 := an_t hlt (by omega) (by omega) hbit
          have e2 : jv_and (g 62 c) ((rp (kn N) s c : Nat) : Int) = ((N c &&& rp (kn N) s c : Nat) : Int) := by
            rw [fN]
            exact jb_and ht hl1
          rw [e2]
          by_cases hn : N c &&& rp (kn N) s c = 0
          · obtain ⟨e3, e4⟩ := rp_y hbit (show ¬ kn N c _ from fun h => h hn)
            have := ihc (by omega)
            rw [e3] at this
            rw [jb_clr hlt (by omega) (by omega)]
            repeat' (first | assumption | apply And.intro | intro _)
            all_goals (first | omega | exact LLx_ok | skip)
          · have e1 := rp_n (nd := kn N) (t := s) (c := c) (Or.inr hn)
            have := ihc (by omega)
            rw [e1] at this
            repeat' (first | assumption | apply And.intro | intro _)
            all_goals (first | omega | exact LLx_ok | skip)
    exact inner 0 (by omega)
  exact sg_X_knot_62_0 (A := A) (main 0 (by omega) _ _ _ (by have := pcr_le s0 m; omega) hs0 GI_0)
set_option maxRecDepth 100000 in
theorem sg_X_knot_126_0 {A : jA} {n l : Nat} {g : jv_S} {Q : jv_V → jv_L → jv_S → Prop} {v1 v2 : Int} (h :
   jv_At jv_T jv_ml kX_knot 5 [jv_P 126, jv_I v1, jv_I v2, jv_I v2, jv_I (0 : Int), jv_U, jv_U] [] (LL n l) g Q) :
  jv_At jv_T jv_ml kX_knot 0 [jv_P 126, jv_I v1, jv_I v2, jv_U, jv_U, jv_U, jv_U] [] (LL n l) g Q :=
  jv_of_wp (gok9 (A := A)) (md := []) (stop := [5, 21]) (tab := jt_X_knot) rfl 400 _ _ _ _ _ h
set_option maxRecDepth 100000 in
theorem sg_X_knot_126_5 {A : jA} {n l : Nat} {g : jv_S} {Q : jv_V → jv_L → jv_S → Prop} {v1 v2 v3 v4 : Int} {v5 v6 : jv_V} (h :
   (v1 ≤ v4 →
     Q (jv_I v3) (LL n l) g) ∧
    (¬ v1 ≤ v4 →
     (v3 = 0 →
       Q (jv_I v3) (LL n l) g) ∧
      (¬ v3 = 0 →
       jv_At jv_T jv_ml kX_knot 21 [jv_P 126, jv_I v1, jv_I v2, jv_I v3, jv_I v4, jv_I v3, jv_I (0 : Int)] [] (LL n l) g Q))) :
  jv_At jv_T jv_ml kX_knot 5 [jv_P 126, jv_I v1, jv_I v2, jv_I v3, jv_I v4, v5, v6] [] (LL n l) g Q :=
  jv_of_wp (gok9 (A := A)) (md := []) (stop := [5, 21]) (tab := jt_X_knot) rfl 400 _ _ _ _ _ h
set_option maxRecDepth 100000 in
theorem sg_X_knot_126_21 {A : jA} {n l : Nat} {g : jv_S} {Q : jv_V → jv_L → jv_S → Prop} {v1 v2 v3 v4 v5 v6 : Int} (h :
   (v1 ≤ v6 →
     (v3 = v5 →
       Q (jv_I v3) (LL n l) g) ∧
      (¬ v3 = v5 →
       jv_r32 (v4 + (1 : Int)) ∧
        jv_At jv_T jv_ml kX_knot 5 [jv_P 126, jv_I v1, jv_I v2, jv_I v3, jv_I (v4 + (1 : Int)), jv_I v5, jv_I v6] [] (LL n l) g Q)) ∧
    (¬ v1 ≤ v6 →
     ((jv_and v3 (jv_shl (1 : Int) v6)) = 0 →
       jv_r32 (v6 + (1 : Int)) ∧
        jv_At jv_T jv_ml kX_knot 21 [jv_P 126, jv_I v1, jv_I v2, jv_I v3, jv_I v4, jv_I v5, jv_I (v6 + (1 : Int))] [] (LL n l) g Q) ∧
      (¬ (jv_and v3 (jv_shl (1 : Int) v6)) = 0 →
       (0 ≤ v6 ∧ v6 < 10) ∧
        ((jv_and (g 126 v6) v3) = 0 →
         jv_r32 (v6 + (1 : Int)) ∧
          jv_At jv_T jv_ml kX_knot 21 [jv_P 126, jv_I v1, jv_I v2, jv_I (jv_and v3 (jv_xor (jv_shl (1 : Int) v6) (-1 : Int))), jv_I v4, jv_I v5, jv_I (v6 + (1 : Int))] [] (LL n l) g Q) ∧
        (¬ (jv_and (g 126 v6) v3) = 0 →
         jv_r32 (v6 + (1 : Int)) ∧
          jv_At jv_T jv_ml kX_knot 21 [jv_P 126, jv_I v1, jv_I v2, jv_I v3, jv_I v4, jv_I v5, jv_I (v6 + (1 : Int))] [] (LL n l) g Q)))) :
  jv_At jv_T jv_ml kX_knot 21 [jv_P 126, jv_I v1, jv_I v2, jv_I v3, jv_I v4, jv_I v5, jv_I v6] [] (LL n l) g Q :=
  jv_of_wp (gok9 (A := A)) (md := []) (stop := [5, 21]) (tab := jt_X_knot) rfl 400 _ _ _ _ _ h
theorem tr_X_knot_126 {A : jA} {n l : Nat} {g : jv_S} {Q : jv_V → jv_L → jv_S → Prop} {N : Nat → Nat} {m s0 : Nat} (hm : m ≤ 10) (hN : ∀ c : Nat, c < m → g 126 c = N c) (hl : ∀ c, c < m → N c < 2 ^ m) (hs0 : s0 < 2 ^ m) (hQ : Q (jv_I (gf (kn N) m s0 : Nat)) (LL n l) g) :
  jv_Ca jv_T jv_ml kX_knot [jv_P 126, jv_I m, jv_I s0] (LL n l) g Q := by
  have main : ∀ r, r ≤ m → ∀ (s : Nat) (v w : jv_V), pcr s m + r ≤ m → s < 2 ^ m → GI (kn N) s0 s → jv_At jv_T jv_ml kX_knot 5 [jv_P 126, jv_I m, jv_I s0, jv_I s, jv_I r, v, w] [] (LL n l) g Q := by
    apply loop_up
    intro r hr ih s v w hk h1 h2
    apply sg_X_knot_126_5 (A := A)
    have hz : s = 0 → Q (jv_I s) (LL n l) g := by
      intro h
      subst h
      rw [GI_zero (m := m) h2]
      exact hQ
    refine ⟨fun h => hz (pcr_z h1 (by omega)), fun h => ⟨fun h => hz (by omega), fun h3 => ?_⟩⟩
    have inner : ∀ c, c ≤ m → jv_At jv_T jv_ml kX_knot 21 [jv_P 126, jv_I m, jv_I s0, jv_I (rp (kn N) s c : Nat), jv_I r, jv_I s, jv_I c] [] (LL n l) g Q := by
      apply loop_up
      intro c hc ihc
      have hlt := rp_lt (nd := kn N) h1 c
      apply sg_X_knot_126_21 (A := A)
      refine ⟨fun h => ?_, fun h => ?_⟩
      · have hcl : c = m := by omega
        subst hcl
        refine ⟨fun h4 => ?_, fun h4 => ⟨⟨by omega, by omega⟩, ?_⟩⟩
        · have he : rp (kn N) s c = s := by omega
          rw [he, GI_fix h2 h1 he]
          exact hQ
        · have he : ¬ rp (kn N) s c = s := by omega
          exact ih (by omega) _ _ _ (by have := rp_ne h1 he; omega) hlt (rp_GI (kn_mon _) h2 _)
      · have hl1 := i31 hlt (by omega)
        have ht := i31 (hl c (by omega)) (by omega)
        have fN := hN c (by omega)
        cases hbit : (rp (kn N) s c).testBit c with
        | false =>
          have e0 := an_f hlt (by omega) (by omega) hbit
          have e1 := rp_n (nd := kn N) (t := s) (c := c) (Or.inl hbit)
          have := ihc (by omega)
          rw [e1] at this
          rw [e0]
          repeat' (first | assumption | apply And.intro | intro _)
          all_goals (first | omega | exact LLx_ok | skip)
        | true =>
          have e0 := an_t hlt (by omega) (by omega) hbit
          have e2 : jv_and (g 126 c) ((rp (kn N) s c : Nat) : Int) = ((N c &&& rp (kn N) s c : Nat) : Int) := by
            rw [fN]
            exact jb_and ht hl1
          rw [e2]
          by_cases hn : N c &&& rp (kn N) s c = 0
          · obtain ⟨e3, e4⟩ := rp_y hbit (show ¬ kn N c _ from fun h => h hn)
            have := ihc (by omega)
            rw [e3] at this
            rw [jb_clr hlt (by omega) (by omega)]
            repeat' (first | assumption | apply And.intro | intro _)
            all_goals (first | omega | exact LLx_ok | skip)
          · have e1 := rp_n (nd := kn N) (t := s) (c := c) (Or.inr hn)
            have := ihc (by omega)
            rw [e1] at this
            repeat' (first | assumption | apply And.intro | intro _)
            all_goals (first | omega | exact LLx_ok | skip)
    exact inner 0 (by omega)
  exact sg_X_knot_126_0 (A := A) (main 0 (by omega) _ _ _ (by have := pcr_le s0 m; omega) hs0 GI_0)
set_option maxRecDepth 100000 in
theorem sg_Wa_reach_0 {A : jA} {n l : Nat} {g : jv_S} {Q : jv_V → jv_L → jv_S → Prop} {v1 v2 : Int} (h :
   jv_At jv_T jv_ml kWa_reach 2 [jv_P 60, jv_I v1, jv_I v2, jv_I (0 : Int), jv_U, jv_U, jv_U] [] (LL n l) g Q) :
  jv_At jv_T jv_ml kWa_reach 0 [jv_P 60, jv_I v1, jv_I v2, jv_U, jv_U, jv_U, jv_U] [] (LL n l) g Q :=
  jv_of_wp (gok9 (A := A)) (md := []) (stop := [2, 41, 59]) (tab := jt_Wa_reach) rfl 400 _ _ _ _ _ h
set_option maxRecDepth 100000 in
theorem sg_Wa_reach_2 {A : jA} {n l : Nat} {g : jv_S} {Q : jv_V → jv_L → jv_S → Prop} {v1 v2 v3 : Int} {v4 v5 v6 : jv_V} (h :
   ((g 14 1) ≤ v3 →
     jv_At jv_T jv_ml kWa_reach 41 [jv_P 60, jv_I v1, jv_I v2, jv_I v1, jv_I (0 : Int), v5, v6] [] (LL n l) g Q) ∧
    (¬ (g 14 1) ≤ v3 →
     (0 ≤ v3 ∧ v3 < 10) ∧
      (0 ≤ v2 ∧ v2 < 6) ∧
      (0 ≤ v3 ∧ v3 < 10) ∧ 
      jv_r32 (v3 + (1 : Int)) ∧
      jv_At jv_T jv_ml kWa_reach 2 [jv_P 60, jv_I v1, jv_I v2, jv_I (v3 + (1 : Int)), v4, v5, v6] [] (LL n l) (jv_up g 65 v3 (g 49 (v3 * 6 + v2))) Q)) :
  jv_At jv_T jv_ml kWa_reach 2 [jv_P 60, jv_I v1, jv_I v2, jv_I v3, v4, v5, v6] [] (LL n l) g Q :=
  jv_of_wp (gok9 (A := A)) (md := []) (stop := [2, 41, 59]) (tab := jt_Wa_reach) rfl 400 _ _ _ _ _ h
set_option maxRecDepth 100000 in
theorem sg_Wa_reach_41 {A : jA} {n l : Nat} {g : jv_S} {Q : jv_V → jv_L → jv_S → Prop} {v1 v2 v3 v4 : Int} {v5 v6 : jv_V} (h :
   ((g 14 1) ≤ v4 →
     Q (jv_I v3) (LL n l) g) ∧
    (¬ (g 14 1) ≤ v4 →
     jv_At jv_T jv_ml kWa_reach 59 [jv_P 60, jv_I v1, jv_I v2, jv_I v3, jv_I v4, jv_I v3, jv_I (0 : Int)] [] (LL n l) g Q)) :
  jv_At jv_T jv_ml kWa_reach 41 [jv_P 60, jv_I v1, jv_I v2, jv_I v3, jv_I v4, v5, v6] [] (LL n l) g Q :=
  jv_of_wp (gok9 (A := A)) (md := []) (stop := [2, 41, 59]) (tab := jt_Wa_reach) rfl 400 _ _ _ _ _ h
set_option maxRecDepth 100000 in
theorem sg_Wa_reach_59 {A : jA} {n l : Nat} {g : jv_S} {Q : jv_V → jv_L → jv_S → Prop} {v1 v2 v3 v4 v5 v6 : Int} (h :
   ((g 14 1) ≤ v6 →
     (v3 = v5 →
       Q (jv_I v3) (LL n l) g) ∧
      (¬ v3 = v5 →
       jv_r32 (v4 + (1 : Int)) ∧
        jv_At jv_T jv_ml kWa_reach 41 [jv_P 60, jv_I v1, jv_I v2, jv_I v3, jv_I (v4 + (1 : Int)), jv_I v5, jv_I v6] [] (LL n l) g Q)) ∧
    (¬ (g 14 1) ≤ v6 →
     ((0 ≤ v3 ∧ v3 < 2147483648 ∧ 0 ≤ v6 ∧ v6 < 31)) ∧
      ((hb v3 v6) = 0 →
       jv_r32 (v6 + (1 : Int)) ∧
        jv_At jv_T jv_ml kWa_reach 59 [jv_P 60, jv_I v1, jv_I v2, jv_I v3, jv_I v4, jv_I v5, jv_I (v6 + (1 : Int))] [] (LL n l) g Q) ∧
      (¬ (hb v3 v6) = 0 →
       (0 ≤ v6 ∧ v6 < 10) ∧
        jv_r32 (v6 + (1 : Int)) ∧
        jv_At jv_T jv_ml kWa_reach 59 [jv_P 60, jv_I v1, jv_I v2, jv_I (jv_or v3 (g 65 v6)), jv_I v4, jv_I v5, jv_I (v6 + (1 : Int))] [] (LL n l) g Q))) :
  jv_At jv_T jv_ml kWa_reach 59 [jv_P 60, jv_I v1, jv_I v2, jv_I v3, jv_I v4, jv_I v5, jv_I v6] [] (LL n l) g Q :=
  jv_of_wp (gok9 (A := A)) (md := []) (stop := [2, 41, 59]) (tab := jt_Wa_reach) rfl 400 _ _ _ _ _ h
theorem tr_Wa_reach {A : jA} {n l : Nat} {g : jv_S} {Q : jv_V → jv_L → jv_S → Prop} (hN : CN A g) (hW : CW 40 A g) {s0 y : Nat} (hs0 : s0 < 2 ^ ln A) (hy : y < nd A)
  (hQ : ∀ g' : jv_S, (∀ c : Nat, c < ln A → g' 65 c = on A y c) → (∀ p i, ¬ (p = 65) → g' p i = g p i) → Q (jv_I (cl (on A y) (ln A) s0 : Nat)) (LL n l) g') :
  jv_Ca jv_T jv_ml kWa_reach [jv_P 60, jv_I s0, jv_I y] (LL n l) g Q := by
  have hw := hN.1
  have w1 := hw.1
  have w2 := hw.2.1
  have f2 := hN.2.2.1
  have rest : ∀ g' : jv_S, (∀ c : Nat, c < ln A → g' 65 c = on A y c) → (∀ p i, ¬ (p = 65) → g' p i = g p i) → ∀ r, r ≤ ln A → ∀ (s : Nat) (v w : jv_V), r ≤ pcr s (ln A) → s < 2 ^ ln A → sb s0 s → (∀ T, sb s0 T → clo (on A y) (ln A) T → sb s T) → jv_At jv_T jv_ml kWa_reach 41 [jv_P 60, jv_I s0, jv_I y, jv_I s, jv_I r, v, w] [] (LL n l) (g') Q := by
    intro g' ho hf
    have f2' : g' 14 1 = ln A := by rw [hf _ _ (by decide)]; exact f2
    have fin : ∀ s, s < 2 ^ ln A → sb s0 s → (∀ T, sb s0 T → clo (on A y) (ln A) T → sb s T) → clo (on A y) (ln A) s → Q (jv_I s) (LL n l) g' := by
      intro s h1 h2 h3 h4
      rw [cl_eq h1 h2 h4 h3]
      exact hQ g' ho hf
    apply loop_up
    intro r hr ih s v w hk h1 h2 h3
    apply sg_Wa_reach_41 (A := A)
    refine ⟨fun h => ?_, fun h => ?_⟩
    · have hp := pcr_le s (ln A)
      exact fin s h1 h2 h3 (fun c hc _ i hi => pcr_full (m := ln A) (by omega) i (bt_lt (on_lt c hc) hi))
    · have inner : ∀ c, c ≤ ln A → jv_At jv_T jv_ml kWa_reach 59 [jv_P 60, jv_I s0, jv_I y, jv_I (gp (on A y) s c : Nat), jv_I r, jv_I s, jv_I c] [] (LL n l) (g') Q := by
        apply loop_up
        intro c hc ihc
        have hlt := gp_lt (N := on A y) h1 on_lt c hc
        apply sg_Wa_reach_59 (A := A)
        refine ⟨fun h => ?_, fun h => ?_⟩
        · have hcl : c = ln A := by omega
          subst hcl
          refine ⟨fun h4 => ?_, fun h4 => ⟨⟨by omega, by omega⟩, ?_⟩⟩
          · have he : gp (on A y) s (ln A) = s := by omega
            rw [he]
            exact fin s h1 h2 h3 (gp_fix he)
          · have he : s ≠ gp (on A y) s (ln A) := by omega
            have hp := pcr_lt (gp_sub (N := on A y) (s := s) (ln A)) hlt he
            exact ih (by omega) _ _ _ (by omega) hlt (sb_trans h2 (gp_sub _)) (fun T a b => gp_in (h3 T a b) b _ (Nat.le_refl _))
        · have hl1 := i31 hlt (by omega)
          have fo := ho c (by omega)
          cases hbit : (gp (on A y) s c).testBit c with
          | false =>
            have e0 := hb_f hbit
            have e1 : gp (on A y) s (c + 1) = gp (on A y) s c := by
              show (if (gp (on A y) s c).testBit c then _ else _) = _
              rw [hbit]
              rfl
            have := ihc (by omega)
            rw [e1] at this
            rw [e0]
            repeat' (first | assumption | apply And.intro | intro _)
            all_goals (first | omega | exact LLx_ok | skip)
          | true =>
            have e0 := hb_t hbit
            have e1 : jv_or (gp (on A y) s c : Nat) (g' 65 c) = ((gp (on A y) s (c + 1) : Nat) : Int) := by
              rw [fo, jb_or hl1 (i31 (on_lt c (by omega)) (by omega))]
              show _ = (((if (gp (on A y) s c).testBit c then _ else _) : Nat) : Int)
              rw [hbit]
              rfl
            have := ihc (by omega)
            rw [e1, e0]
            repeat' (first | assumption | apply And.intro | intro _)
            all_goals (first | omega | exact LLx_ok | skip)
      exact inner 0 (by omega)
  have fill : ∀ c, c ≤ ln A → ∀ (g' : jv_S) (v w u : jv_V), (∀ d : Nat, d < c → g' 65 d = on A y d) → (∀ p i, ¬ (p = 65) → g' p i = g p i) → jv_At jv_T jv_ml kWa_reach 2 [jv_P 60, jv_I s0, jv_I y, jv_I c, v, w, u] [] (LL n l) (g') Q := by
    apply loop_up
    intro c hc ih g' v w u h1 h2
    have f2' : g' 14 1 = ln A := by rw [h2 _ _ (by decide)]; exact f2
    apply sg_Wa_reach_2 (A := A)
    refine ⟨fun h => ?_, fun h => ?_⟩
    · exact rest g' (fun d hd => h1 d (by omega)) h2 0 (by omega) s0 _ _ (by omega) hs0 (sb_refl _) (fun T h _ => h)
    · have fw := hW.2.2.2 c y (by omega) hy
      rw [← h2 _ _ (by decide)] at fw
      refine ⟨⟨by omega, by omega⟩, ⟨by omega, by omega⟩, ⟨by omega, by omega⟩, ⟨by omega, by omega⟩, ih (by omega) _ _ _ _ (fun d hd => ?_) (fun p i hp => ?_)⟩
      · by_cases hdc : d = c
        · subst hdc
          rw [up_eq rfl rfl]
          exact fw
        · rw [up_ne (by omega)]
          exact h1 d (by omega)
      · rw [up_ne (by omega)]
        exact h2 p i hp
  exact sg_Wa_reach_0 (A := A) (fill 0 (by omega) g _ _ _ (fun d hd => by omega) (fun p i _ => rfl))
set_option maxRecDepth 100000 in
theorem sg_Wa_endsWell_0 {A : jA} {n l : Nat} {g : jv_S} {Q : jv_V → jv_L → jv_S → Prop} {v1 v2 : Int} (h :
   jv_At jv_T jv_ml kWa_endsWell 2 [jv_P 60, jv_I v1, jv_I v2, jv_I (0 : Int)] [] (LL n l) g Q) :
  jv_At jv_T jv_ml kWa_endsWell 0 [jv_P 60, jv_I v1, jv_I v2, jv_U] [] (LL n l) g Q :=
  jv_of_wp (gok9 (A := A)) (md := []) (stop := [2]) (tab := jt_Wa_endsWell) rfl 400 _ _ _ _ _ h
set_option maxRecDepth 100000 in
theorem sg_Wa_endsWell_2 {A : jA} {n l : Nat} {g : jv_S} {Q : jv_V → jv_L → jv_S → Prop} {v1 v2 v3 : Int} (h :
   ((g 14 1) ≤ v3 →
     jv_Ca jv_T jv_ml kX_knot [jv_P 65, jv_I (g 14 1), jv_I v1] (LL n l) g (fun r L2 g2 => jv_At jv_T jv_ml kWa_endsWell 66 [jv_P 60, jv_I v1, jv_I v2, jv_I v3] (jv_pu r []) L2 g2 Q)) ∧
    (¬ (g 14 1) ≤ v3 →
     ((0 ≤ v1 ∧ v1 < 2147483648 ∧ 0 ≤ v3 ∧ v3 < 31)) ∧
      ((hb v1 v3) = 0 →
       jv_r32 (v3 + (1 : Int)) ∧
        jv_At jv_T jv_ml kWa_endsWell 2 [jv_P 60, jv_I v1, jv_I v2, jv_I (v3 + (1 : Int))] [] (LL n l) g Q) ∧
      (¬ (hb v1 v3) = 0 →
       (0 ≤ v3 ∧ v3 < 10) ∧
        ((g 16 v3) = v2 →
         jv_r32 (v3 + (1 : Int)) ∧
          jv_At jv_T jv_ml kWa_endsWell 2 [jv_P 60, jv_I v1, jv_I v2, jv_I (v3 + (1 : Int))] [] (LL n l) g Q) ∧
        (¬ (g 16 v3) = v2 →
         (0 ≤ v3 ∧ v3 < 10) ∧
          ((g 65 v3) = 0 →
           ((0 : Int) = 0 ∨ (0 : Int) = 1) ∧ Q (jv_I (0 : Int)) (LL n l) g) ∧
          (¬ (g 65 v3) = 0 →
           jv_r32 (v3 + (1 : Int)) ∧
            jv_At jv_T jv_ml kWa_endsWell 2 [jv_P 60, jv_I v1, jv_I v2, jv_I (v3 + (1 : Int))] [] (LL n l) g Q))))) :
  jv_At jv_T jv_ml kWa_endsWell 2 [jv_P 60, jv_I v1, jv_I v2, jv_I v3] [] (LL n l) g Q :=
  jv_of_wp (gok9 (A := A)) (md := []) (stop := [2]) (tab := jt_Wa_endsWell) rfl 400 _ _ _ _ _ h
set_option maxRecDepth 100000 in
theorem sg_Wa_endsWell_66 {A : jA} {n l : Nat} {g : jv_S} {Q : jv_V → jv_L → jv_S → Prop} {v1 v2 v3 s0 : Int} (h :
   (s0 = 0 →
     ((1 : Int) = 0 ∨ (1 : Int) = 1) ∧ Q (jv_I (1 : Int)) (LL n l) g) ∧
    (¬ s0 = 0 →
     ((0 : Int) = 0 ∨ (0 : Int) = 1) ∧ Q (jv_I (0 : Int)) (LL n l) g)) :
  jv_At jv_T jv_ml kWa_endsWell 66 [jv_P 60, jv_I v1, jv_I v2, jv_I v3] [jv_I s0] (LL n l) g Q :=
  jv_of_wp (gok9 (A := A)) (md := []) (stop := [2]) (tab := jt_Wa_endsWell) rfl 400 _ _ _ _ _ h
theorem tr_Wa_endsWell {A : jA} {n l : Nat} {g : jv_S} {Q : jv_V → jv_L → jv_S → Prop} (hN : CN A g) {s y : Nat} (hs : s < 2 ^ ln A) (hy : y < nd A) (ho : ∀ c : Nat, c < ln A → g 65 c = on A y c) (hQ : Q (jv_I (jb_b (ew A s y))) (LL n l) g) :
  jv_Ca jv_T jv_ml kWa_endsWell [jv_P 60, jv_I s, jv_I y] (LL n l) g Q := by
  have hw := hN.1
  have w1 := hw.1
  have w2 := hw.2.1
  have f2 := hN.2.2.1
  have hl := i31 hs (by omega)
  have key : ∀ c, c ≤ ln A → anyB (de A s y) c = false → jv_At jv_T jv_ml kWa_endsWell 2 [jv_P 60, jv_I s, jv_I y, jv_I c] [] (LL n l) g Q := by
    apply loop_up
    intro c hc ih h1
    apply sg_Wa_endsWell_2 (A := A)
    refine ⟨fun h => ?_, fun h => ?_⟩
    · have hcl : c = ln A := by omega
      subst hcl
      rw [f2]
      refine tr_X_knot_65 (A := A) w2 ho on_lt hs ?_
      apply sg_Wa_endsWell_66 (A := A)
      unfold ew at hQ
      rw [h1] at hQ
      refine ⟨fun h => ⟨Or.inr rfl, ?_⟩, fun h => ⟨Or.inl rfl, ?_⟩⟩
      · rw [decide_eq_true (by omega)] at hQ; exact hQ
      · rw [decide_eq_false (by omega)] at hQ; exact hQ
    · have ft := (hN.2.2.2.1 c (by omega)).2.1
      have fo := ho c (by omega)
      have nx : de A s y c = false → jv_At jv_T jv_ml kWa_endsWell 2 [jv_P 60, jv_I s, jv_I y, jv_I (c + 1)] [] (LL n l) g Q := fun h => ih (by omega) (by show (anyB (de A s y) c || de A s y c) = false; rw [h1, h]; rfl)
      cases hbit : s.testBit c with
      | false =>
        have e0 := hb_f hbit
        have := nx (by simp [de, hbit])
        rw [e0]
        repeat' (first | assumption | apply And.intro | intro _)
        all_goals (first | omega | exact LLx_ok | skip)
      | true =>
        have e0 := hb_t hbit
        rw [e0]
        by_cases hty : tt A c = y
        · have := nx (by simp [de, hty])
          repeat' (first | assumption | apply And.intro | intro _)
          all_goals (first | omega | exact LLx_ok | skip)
        · by_cases hk : tk A c y = 0
          · have hd : de A s y c = true := by simp [de, hbit, hty, hk]
            have ha : anyB (de A s y) (ln A) = true := anyB_t.mpr ⟨c, by omega, hd⟩
            unfold ew at hQ
            rw [ha] at hQ
            have hz : on A y c = 0 := hk
            have hQ' : Q (jv_I 0) (LL n l) g := hQ
            repeat' (first | assumption | apply And.intro | intro _)
            all_goals (first | omega | exact LLx_ok | skip)
          · have hz : on A y c ≠ 0 := hk
            have := nx (by simp [de, hk])
            repeat' (first | assumption | apply And.intro | intro _)
            all_goals (first | omega | exact LLx_ok | skip)
  exact sg_Wa_endsWell_0 (A := A) (key 0 (by omega) rfl)
set_option maxRecDepth 100000 in
theorem sg_Wa_survey_0 {A : jA} {n l : Nat} {g : jv_S} {Q : jv_V → jv_L → jv_S → Prop} {v1 : Int} (h :
   jv_At jv_T jv_ml kWa_survey 7 [jv_P 60, jv_I v1, jv_I (0 : Int), jv_I (1 : Int), jv_I (0 : Int), jv_U] [] (LL n l) g Q) :
  jv_At jv_T jv_ml kWa_survey 0 [jv_P 60, jv_I v1, jv_U, jv_U, jv_U, jv_U] [] (LL n l) g Q :=
  jv_of_wp (gok9 (A := A)) (md := []) (stop := [7, 72]) (tab := jt_Wa_survey) rfl 400 _ _ _ _ _ h
set_option maxRecDepth 100000 in
theorem sg_Wa_survey_7 {A : jA} {n l : Nat} {g : jv_S} {Q : jv_V → jv_L → jv_S → Prop} {v1 v2 v3 v4 : Int} {v5 : jv_V} (h :
   ((g 14 0) ≤ v4 →
     jv_Ca jv_T jv_ml kWa_reach [jv_P 60, jv_I v2, jv_I v1] (LL n l) g (fun r L2 g2 => jv_At jv_T jv_ml kWa_survey 68 [jv_P 60, jv_I v1, jv_I v2, jv_I v3, jv_I v4, v5] (jv_pu r [jv_I v1, jv_P 61]) L2 g2 Q)) ∧
    (¬ (g 14 0) ≤ v4 →
     (0 ≤ v4 ∧ v4 < 6) ∧
      (0 ≤ v1 ∧ v1 < 6) ∧
      (v4 = v1 →
       jv_r32 (v4 + (1 : Int)) ∧
        jv_At jv_T jv_ml kWa_survey 7 [jv_P 60, jv_I v1, jv_I (jv_or v2 (g 42 (v4 * 6 + v1))), jv_I v3, jv_I (v4 + (1 : Int)), jv_I (g 42 (v4 * 6 + v1))] [] (LL n l) g Q) ∧
      (¬ v4 = v1 →
       ((g 42 (v4 * 6 + v1)) = 0 →
         jv_r32 (v4 + (1 : Int)) ∧
          jv_At jv_T jv_ml kWa_survey 7 [jv_P 60, jv_I v1, jv_I (jv_or v2 (g 42 (v4 * 6 + v1))), jv_I (0 : Int), jv_I (v4 + (1 : Int)), jv_I (g 42 (v4 * 6 + v1))] [] (LL n l) g Q) ∧
        (¬ (g 42 (v4 * 6 + v1)) = 0 →
         jv_r32 (v4 + (1 : Int)) ∧
          jv_At jv_T jv_ml kWa_survey 7 [jv_P 60, jv_I v1, jv_I (jv_or v2 (g 42 (v4 * 6 + v1))), jv_I v3, jv_I (v4 + (1 : Int)), jv_I (g 42 (v4 * 6 + v1))] [] (LL n l) g Q)))) :
  jv_At jv_T jv_ml kWa_survey 7 [jv_P 60, jv_I v1, jv_I v2, jv_I v3, jv_I v4, v5] [] (LL n l) g Q :=
  jv_of_wp (gok9 (A := A)) (md := []) (stop := [7, 72]) (tab := jt_Wa_survey) rfl 400 _ _ _ _ _ h
set_option maxRecDepth 100000 in
theorem sg_Wa_survey_68 {A : jA} {n l : Nat} {g : jv_S} {Q : jv_V → jv_L → jv_S → Prop} {v1 v2 v3 v4 s1 s2 : Int} {v5 : jv_V} (h :
   (0 ≤ s1 ∧ s1 < 6) ∧ 
    jv_At jv_T jv_ml kWa_survey 72 [jv_P 60, jv_I v1, jv_I v2, jv_I v3, jv_I (0 : Int), v5] [] (LL n l) (jv_up g 61 s1 s2) Q) :
  jv_At jv_T jv_ml kWa_survey 68 [jv_P 60, jv_I v1, jv_I v2, jv_I v3, jv_I v4, v5] [jv_I s2, jv_I s1, jv_P 61] (LL n l) g Q :=
  jv_of_wp (gok9 (A := A)) (md := []) (stop := [7, 72]) (tab := jt_Wa_survey) rfl 400 _ _ _ _ _ h
set_option maxRecDepth 100000 in
theorem sg_Wa_survey_72 {A : jA} {n l : Nat} {g : jv_S} {Q : jv_V → jv_L → jv_S → Prop} {v1 v2 v3 v4 : Int} {v5 : jv_V} (h :
   ((g 14 1) ≤ v4 →
     (v3 = 0 →
       ((0 : Int) = 0 ∨ (0 : Int) = 1) ∧ Q (jv_I (0 : Int)) (LL n l) g) ∧
      (¬ v3 = 0 →
       (0 ≤ v1 ∧ v1 < 6) ∧
        jv_Ca jv_T jv_ml kWa_endsWell [jv_P 60, jv_I (g 61 v1), jv_I v1] (LL n l) g (fun r L2 g2 => jv_At jv_T jv_ml kWa_survey 136 [jv_P 60, jv_I v1, jv_I v2, jv_I v3, jv_I v4, v5] (jv_pu r []) L2 g2 Q))) ∧
    (¬ (g 14 1) ≤ v4 →
     (0 ≤ v1 ∧ v1 < 6) ∧
      ((0 ≤ (g 61 v1) ∧ (g 61 v1) < 2147483648 ∧ 0 ≤ v4 ∧ v4 < 31)) ∧
      ((hb (g 61 v1) v4) = 0 →
       jv_r32 (v4 + (1 : Int)) ∧
        jv_At jv_T jv_ml kWa_survey 72 [jv_P 60, jv_I v1, jv_I v2, jv_I v3, jv_I (v4 + (1 : Int)), v5] [] (LL n l) g Q) ∧
      (¬ (hb (g 61 v1) v4) = 0 →
       (0 ≤ v4 ∧ v4 < 10) ∧
        (0 ≤ v4 ∧ v4 < 10) ∧
        (0 ≤ v4 ∧ v4 < 10) ∧ 
        jv_r32 (v4 + (1 : Int)) ∧
        jv_At jv_T jv_ml kWa_survey 72 [jv_P 60, jv_I v1, jv_I v2, jv_I v3, jv_I (v4 + (1 : Int)), v5] [] (LL n l) (jv_up g 62 v4 (jv_or (g 62 v4) (g 65 v4))) Q))) :
  jv_At jv_T jv_ml kWa_survey 72 [jv_P 60, jv_I v1, jv_I v2, jv_I v3, jv_I v4, v5] [] (LL n l) g Q :=
  jv_of_wp (gok9 (A := A)) (md := []) (stop := [7, 72]) (tab := jt_Wa_survey) rfl 400 _ _ _ _ _ h
set_option maxRecDepth 100000 in
theorem sg_Wa_survey_136 {A : jA} {n l : Nat} {g : jv_S} {Q : jv_V → jv_L → jv_S → Prop} {v1 v2 v3 v4 s0 : Int} {v5 : jv_V} (h :
   (s0 = 0 →
     ((0 : Int) = 0 ∨ (0 : Int) = 1) ∧ Q (jv_I (0 : Int)) (LL n l) g) ∧
    (¬ s0 = 0 →
     ((1 : Int) = 0 ∨ (1 : Int) = 1) ∧ Q (jv_I (1 : Int)) (LL n l) g)) :
  jv_At jv_T jv_ml kWa_survey 136 [jv_P 60, jv_I v1, jv_I v2, jv_I v3, jv_I v4, v5] [jv_I s0] (LL n l) g Q :=
  jv_of_wp (gok9 (A := A)) (md := []) (stop := [7, 72]) (tab := jt_Wa_survey) rfl 400 _ _ _ _ _ h
theorem tr_Wa_survey {A : jA} {n l : Nat} {g : jv_S} {Q : jv_V → jv_L → jv_S → Prop} (hN : CN A g) (hW : CW 40 A g) {y : Nat} {nx : Nat → Nat} (hy : y < nd A) (hx : ∀ c : Nat, c < ln A → g 62 c = nx c) (hxl : ∀ c, c < ln A → nx c < 2 ^ ln A)
  (hQ : ∀ g' : jv_S, g' 61 y = cr A y → (∀ c : Nat, c < ln A → g' 62 c = (nx c ||| (if (cr A y).testBit c then on A y c else 0) : Nat)) → (∀ (p : Nat) (i : Int), ¬ (p = 65 ∨ p = 62 ∨ (p = 61 ∧ i = y)) → g' p i = g p i) → Q (jv_I (jb_b (sv A y))) (LL n l) g') :
  jv_Ca jv_T jv_ml kWa_survey [jv_P 60, jv_I y] (LL n l) g Q := by
  have hw := hN.1
  have w1 := hw.1
  have w2 := hw.2.1
  have f1 := hN.2.1
  have f2 := hN.2.2.1
  have hc31 := i31 (cr_lt (A := A) (y := y)) (by omega)
  have rest : ∀ (v2 v4 : Int) (v5 : jv_V) (g0 : jv_S), (∀ c : Nat, c < ln A → g0 65 c = on A y c) → (∀ p i, ¬ (p = 65) → g0 p i = g p i) → ∀ c, c ≤ ln A → ∀ (g' : jv_S), (∀ d : Nat, d < ln A → g' 62 d = (nx d ||| (if d < c ∧ (cr A y).testBit d then on A y d else 0) : Nat)) → g' 61 y = cr A y → (∀ (p : Nat) (i : Int), ¬ (p = 62 ∨ (p = 61 ∧ i = y)) → g' p i = g0 p i) → jv_At jv_T jv_ml kWa_survey 72 [jv_P 60, jv_I y, jv_I v2, jv_I (jb_b (!anyB (ns A y) (nd A))), jv_I c, v5] [] (LL n l) (g') Q := by
    intro v2 v4 v5 g0 ho0 hf0
    apply loop_up
    intro c hc ih g' h2 h3 h4
    have hf : ∀ (p : Nat) (i : Int), ¬ (p = 65 ∨ p = 62 ∨ (p = 61 ∧ i = y)) → g' p i = g p i := fun p i hp => by rw [h4 p i (by omega), hf0 p i (by omega)]
    have f2' : g' 14 1 = ln A := by rw [hf _ _ (by omega)]; exact f2
    have ho : ∀ c : Nat, c < ln A → g' 65 c = on A y c := fun c hc => by rw [h4 _ _ (by omega)]; exact ho0 c hc
    have hN' : CN A g' := CN_fr hN (fun p i a b => hf p i (by omega))
    apply sg_Wa_survey_72 (A := A)
    refine ⟨fun h => ?_, fun h => ?_⟩
    · have hcl : c = ln A := by omega
      subst hcl
      have hQ' := hQ g' h3 (fun d hd => by rw [h2 d hd]; simp [hd]) hf
      unfold sv at hQ'
      refine ⟨fun h => ⟨Or.inl rfl, ?_⟩, fun h => ⟨⟨by omega, by omega⟩, ?_⟩⟩
      · rw [jb0] at h
        rw [h] at hQ'
        exact hQ'
      · rw [jbn] at h
        rw [h] at hQ'
        rw [h3]
        refine tr_Wa_endsWell hN' cr_lt hy ho ?_
        apply sg_Wa_survey_136 (A := A)
        refine ⟨fun h => ⟨Or.inl rfl, ?_⟩, fun h => ⟨Or.inr rfl, ?_⟩⟩
        · rw [jb0] at h
          rw [h] at hQ'
          exact hQ'
        · rw [jbn] at h
          rw [h] at hQ'
          exact hQ'
    · have fo := ho c (by omega)
      have f2c := h2 c (by omega)
      cases hbit : (cr A y).testBit c with
      | false =>
        have e0 := hb_f hbit
        have := ih (by omega) g' (fun d hd => by
          rw [h2 d hd]
          by_cases hdc : d = c
          · subst hdc; simp [hbit]
          · simp [show (d < c + 1) ↔ d < c by omega]) h3 h4
        rw [h3, e0]
        repeat' (first | assumption | apply And.intro | intro _)
        all_goals (first | omega | exact LLx_ok | skip)
      | true =>
        have e0 := hb_t hbit
        have e1 : jv_or (g' 62 c) (g' 65 c) = ((nx c ||| on A y c : Nat) : Int) := by
          rw [f2c, fo]
          simp only [Nat.lt_irrefl, false_and, if_false, Nat.or_zero]
          exact jb_or (i31 (hxl c (by omega)) (by omega)) (i31 (on_lt c (by omega)) (by omega))
        have := ih (by omega) (jv_up g' 62 c (jv_or (g' 62 c) (g' 65 c))) (fun d hd => by
          by_cases hdc : d = c
          · subst hdc; rw [up_eq rfl rfl, e1]; simp [hbit]
          · rw [up_ne (by omega), h2 d hd]; simp [show (d < c + 1) ↔ d < c by omega]) (by rw [up_ne (by omega)]; exact h3) (fun p i hp => by rw [up_ne (by omega)]; exact h4 p i hp)
        rw [h3, e0]
        repeat' (first | assumption | apply And.intro | intro _)
        all_goals (first | omega | exact LLx_ok | skip)
  have outs : ∀ x, x ≤ nd A → ∀ (v5 : jv_V), jv_At jv_T jv_ml kWa_survey 7 [jv_P 60, jv_I y, jv_I (un (fun x => tk A (10 + x) y) x : Nat), jv_I (jb_b (!anyB (ns A y) x)), jv_I x, v5] [] (LL n l) g Q := by
    apply loop_up
    intro x hx' ih v5
    apply sg_Wa_survey_7 (A := A)
    refine ⟨fun h => ?_, fun h => ?_⟩
    · have hxl' : x = nd A := by omega
      subst hxl'
      refine tr_Wa_reach hN hW (s0 := so A y) so_lt hy (fun g0 h1 h2 => ?_)
      apply sg_Wa_survey_68 (A := A)
      refine ⟨⟨by omega, by omega⟩, rest _ 0 v5 g0 h1 h2 0 (by omega) _ (fun d hd => ?_) (up_eq rfl rfl) (fun p i hp => up_ne (by omega))⟩
      rw [up_ne (by omega), h2 _ _ (by omega), hx d hd]
      simp
    · have fw : g 42 ((x : Int) * 6 + y) = tk A (10 + x) y := hW.2.2.1 x y (by omega) hy
      have hu := i31 (un_lt (f := fun x => tk A (10 + x) y) (k := x) (fun _ _ => tk_ltl (A := A) _ _)) (by omega)
      have e1 : jv_or (un (fun x => tk A (10 + x) y) x : Nat) (g 42 ((x : Int) * 6 + y)) = ((un (fun x => tk A (10 + x) y) (x + 1) : Nat) : Int) := by
        rw [fw, jb_or hu (i31 (tk_ltl _ _) (by omega))]
        rfl
      have := ih (by omega)
      have e2 : (!anyB (ns A y) (x + 1)) = (!anyB (ns A y) x && !ns A y x) := by show (!(anyB (ns A y) x || ns A y x)) = _; cases anyB (ns A y) x <;> cases ns A y x <;> rfl
      rw [e1]
      refine ⟨⟨by omega, by omega⟩, ⟨by omega, by omega⟩, fun h1 => ⟨⟨by omega, by omega⟩, ?_⟩, fun h1 => ⟨fun h2 => ⟨⟨by omega, by omega⟩, ?_⟩, fun h2 => ⟨⟨by omega, by omega⟩, ?_⟩⟩⟩
      · have : ns A y x = false := by unfold ns; rw [decide_eq_true (show x = y by omega)]; rfl
        have ih' := ih (by omega) (jv_I (g 42 ((x : Int) * 6 + y)))
        rw [e2, this, Bool.not_false, Bool.and_true] at ih'
        exact ih'
      · have : ns A y x = true := by unfold ns; rw [decide_eq_false (show ¬ x = y by omega), decide_eq_true (by omega)]; rfl
        have ih' := ih (by omega) (jv_I (g 42 ((x : Int) * 6 + y)))
        rw [e2, this, Bool.not_true, Bool.and_false] at ih'
        exact ih'
      · have : ns A y x = false := by unfold ns; rw [decide_eq_false (show ¬ tk A (10 + x) y = 0 by omega), Bool.and_false]
        have ih' := ih (by omega) (jv_I (g 42 ((x : Int) * 6 + y)))
        rw [e2, this, Bool.not_false, Bool.and_true] at ih'
        exact ih'
  exact sg_Wa_survey_0 (A := A) (outs 0 (by omega) _)
set_option maxRecDepth 100000 in
theorem sg_Wa_reach2_0 {A : jA} {n l : Nat} {g : jv_S} {Q : jv_V → jv_L → jv_S → Prop} {v1 v2 : Int} (h :
   jv_At jv_T jv_ml kWa_reach 2 [jv_P 124, jv_I v1, jv_I v2, jv_I (0 : Int), jv_U, jv_U, jv_U] [] (LL n l) g Q) :
  jv_At jv_T jv_ml kWa_reach 0 [jv_P 124, jv_I v1, jv_I v2, jv_U, jv_U, jv_U, jv_U] [] (LL n l) g Q :=
  jv_of_wp (gok9 (A := A)) (md := []) (stop := [2, 41, 59]) (tab := jt_Wa_reach) rfl 400 _ _ _ _ _ h
set_option maxRecDepth 100000 in
theorem sg_Wa_reach2_2 {A : jA} {n l : Nat} {g : jv_S} {Q : jv_V → jv_L → jv_S → Prop} {v1 v2 v3 : Int} {v4 v5 v6 : jv_V} (h :
   ((g 14 1) ≤ v3 →
     jv_At jv_T jv_ml kWa_reach 41 [jv_P 124, jv_I v1, jv_I v2, jv_I v1, jv_I (0 : Int), v5, v6] [] (LL n l) g Q) ∧
    (¬ (g 14 1) ≤ v3 →
     (0 ≤ v3 ∧ v3 < 10) ∧
      (0 ≤ v2 ∧ v2 < 6) ∧
      (0 ≤ v3 ∧ v3 < 10) ∧ 
      jv_r32 (v3 + (1 : Int)) ∧
      jv_At jv_T jv_ml kWa_reach 2 [jv_P 124, jv_I v1, jv_I v2, jv_I (v3 + (1 : Int)), v4, v5, v6] [] (LL n l) (jv_up g 129 v3 (g 113 (v3 * 6 + v2))) Q)) :
  jv_At jv_T jv_ml kWa_reach 2 [jv_P 124, jv_I v1, jv_I v2, jv_I v3, v4, v5, v6] [] (LL n l) g Q :=
  jv_of_wp (gok9 (A := A)) (md := []) (stop := [2, 41, 59]) (tab := jt_Wa_reach) rfl 400 _ _ _ _ _ h
set_option maxRecDepth 100000 in
theorem sg_Wa_reach2_41 {A : jA} {n l : Nat} {g : jv_S} {Q : jv_V → jv_L → jv_S → Prop} {v1 v2 v3 v4 : Int} {v5 v6 : jv_V} (h :
   ((g 14 1) ≤ v4 →
     Q (jv_I v3) (LL n l) g) ∧
    (¬ (g 14 1) ≤ v4 →
     jv_At jv_T jv_ml kWa_reach 59 [jv_P 124, jv_I v1, jv_I v2, jv_I v3, jv_I v4, jv_I v3, jv_I (0 : Int)] [] (LL n l) g Q)) :
  jv_At jv_T jv_ml kWa_reach 41 [jv_P 124, jv_I v1, jv_I v2, jv_I v3, jv_I v4, v5, v6] [] (LL n l) g Q :=
  jv_of_wp (gok9 (A := A)) (md := []) (stop := [2, 41, 59]) (tab := jt_Wa_reach) rfl 400 _ _ _ _ _ h
set_option maxRecDepth 100000 in
theorem sg_Wa_reach2_59 {A : jA} {n l : Nat} {g : jv_S} {Q : jv_V → jv_L → jv_S → Prop} {v1 v2 v3 v4 v5 v6 : Int} (h :
   ((g 14 1) ≤ v6 →
     (v3 = v5 →
       Q (jv_I v3) (LL n l) g) ∧
      (¬ v3 = v5 →
       jv_r32 (v4 + (1 : Int)) ∧
        jv_At jv_T jv_ml kWa_reach 41 [jv_P 124, jv_I v1, jv_I v2, jv_I v3, jv_I (v4 + (1 : Int)), jv_I v5, jv_I v6] [] (LL n l) g Q)) ∧
    (¬ (g 14 1) ≤ v6 →
     ((0 ≤ v3 ∧ v3 < 2147483648 ∧ 0 ≤ v6 ∧ v6 < 31)) ∧
      ((hb v3 v6) = 0 →
       jv_r32 (v6 + (1 : Int)) ∧
        jv_At jv_T jv_ml kWa_reach 59 [jv_P 124, jv_I v1, jv_I v2, jv_I v3, jv_I v4, jv_I v5, jv_I (v6 + (1 : Int))] [] (LL n l) g Q) ∧
      (¬ (hb v3 v6) = 0 →
       (0 ≤ v6 ∧ v6 < 10) ∧
        jv_r32 (v6 + (1 : Int)) ∧
        jv_At jv_T jv_ml kWa_reach 59 [jv_P 124, jv_I v1, jv_I v2, jv_I (jv_or v3 (g 129 v6)), jv_I v4, jv_I v5, jv_I (v6 + (1 : Int))] [] (LL n l) g Q))) :
  jv_At jv_T jv_ml kWa_reach 59 [jv_P 124, jv_I v1, jv_I v2, jv_I v3, jv_I v4, jv_I v5, jv_I v6] [] (LL n l) g Q :=
  jv_of_wp (gok9 (A := A)) (md := []) (stop := [2, 41, 59]) (tab := jt_Wa_reach) rfl 400 _ _ _ _ _ h
theorem tr_Wa_reach2 {A : jA} {n l : Nat} {g : jv_S} {Q : jv_V → jv_L → jv_S → Prop} (hN : CN A g) (hW : CW 104 A g) {s0 y : Nat} (hs0 : s0 < 2 ^ ln A) (hy : y < nd A)
  (hQ : ∀ g' : jv_S, (∀ c : Nat, c < ln A → g' 129 c = on A y c) → (∀ p i, ¬ (p = 129) → g' p i = g p i) → Q (jv_I (cl (on A y) (ln A) s0 : Nat)) (LL n l) g') :
  jv_Ca jv_T jv_ml kWa_reach [jv_P 124, jv_I s0, jv_I y] (LL n l) g Q := by
  have hw := hN.1
  have w1 := hw.1
  have w2 := hw.2.1
  have f2 := hN.2.2.1
  have rest : ∀ g' : jv_S, (∀ c : Nat, c < ln A → g' 129 c = on A y c) → (∀ p i, ¬ (p = 129) → g' p i = g p i) → ∀ r, r ≤ ln A → ∀ (s : Nat) (v w : jv_V), r ≤ pcr s (ln A) → s < 2 ^ ln A → sb s0 s → (∀ T, sb s0 T → clo (on A y) (ln A) T → sb s T) → jv_At jv_T jv_ml kWa_reach 41 [jv_P 124, jv_I s0, jv_I y, jv_I s, jv_I r, v, w] [] (LL n l) (g') Q := by
    intro g' ho hf
    have f2' : g' 14 1 = ln A := by rw [hf _ _ (by decide)]; exact f2
    have fin : ∀ s, s < 2 ^ ln A → sb s0 s → (∀ T, sb s0 T → clo (on A y) (ln A) T → sb s T) → clo (on A y) (ln A) s → Q (jv_I s) (LL n l) g' := by
      intro s h1 h2 h3 h4
      rw [cl_eq h1 h2 h4 h3]
      exact hQ g' ho hf
    apply loop_up
    intro r hr ih s v w hk h1 h2 h3
    apply sg_Wa_reach2_41 (A := A)
    refine ⟨fun h => ?_, fun h => ?_⟩
    · have hp := pcr_le s (ln A)
      exact fin s h1 h2 h3 (fun c hc _ i hi => pcr_full (m := ln A) (by omega) i (bt_lt (on_lt c hc) hi))
    · have inner : ∀ c, c ≤ ln A → jv_At jv_T jv_ml kWa_reach 59 [jv_P 124, jv_I s0, jv_I y, jv_I (gp (on A y) s c : Nat), jv_I r, jv_I s, jv_I c] [] (LL n l) (g') Q := by
        apply loop_up
        intro c hc ihc
        have hlt := gp_lt (N := on A y) h1 on_lt c hc
        apply sg_Wa_reach2_59 (A := A)
        refine ⟨fun h => ?_, fun h => ?_⟩
        · have hcl : c = ln A := by omega
          subst hcl
          refine ⟨fun h4 => ?_, fun h4 => ⟨⟨by omega, by omega⟩, ?_⟩⟩
          · have he : gp (on A y) s (ln A) = s := by omega
            rw [he]
            exact fin s h1 h2 h3 (gp_fix he)
          · have he : s ≠ gp (on A y) s (ln A) := by omega
            have hp := pcr_lt (gp_sub (N := on A y) (s := s) (ln A)) hlt he
            exact ih (by omega) _ _ _ (by omega) hlt (sb_trans h2 (gp_sub _)) (fun T a b => gp_in (h3 T a b) b _ (Nat.le_refl _))
        · have hl1 := i31 hlt (by omega)
          have fo := ho c (by omega)
          cases hbit : (gp (on A y) s c).testBit c with
          | false =>
            have e0 := hb_f hbit
            have e1 : gp (on A y) s (c + 1) = gp (on A y) s c := by
              show (if (gp (on A y) s c).testBit c then _ else _) = _
              rw [hbit]
              rfl
            have := ihc (by omega)
            rw [e1] at this
            rw [e0]
            repeat' (first | assumption | apply And.intro | intro _)
            all_goals (first | omega | exact LLx_ok | skip)
          | true =>
            have e0 := hb_t hbit
            have e1 : jv_or (gp (on A y) s c : Nat) (g' 129 c) = ((gp (on A y) s (c + 1) : Nat) : Int) := by
              rw [fo, jb_or hl1 (i31 (on_lt c (by omega)) (by omega))]
              show _ = (((if (gp (on A y) s c).testBit c then _ else _) : Nat) : Int)
              rw [hbit]
              rfl
            have := ihc (by omega)
            rw [e1, e0]
            repeat' (first | assumption | apply And.intro | intro _)
            all_goals (first | omega | exact LLx_ok | skip)
      exact inner 0 (by omega)
  have fill : ∀ c, c ≤ ln A → ∀ (g' : jv_S) (v w u : jv_V), (∀ d : Nat, d < c → g' 129 d = on A y d) → (∀ p i, ¬ (p = 129) → g' p i = g p i) → jv_At jv_T jv_ml kWa_reach 2 [jv_P 124, jv_I s0, jv_I y, jv_I c, v, w, u] [] (LL n l) (g') Q := by
    apply loop_up
    intro c hc ih g' v w u h1 h2
    have f2' : g' 14 1 = ln A := by rw [h2 _ _ (by decide)]; exact f2
    apply sg_Wa_reach2_2 (A := A)
    refine ⟨fun h => ?_, fun h => ?_⟩
    · exact rest g' (fun d hd => h1 d (by omega)) h2 0 (by omega) s0 _ _ (by omega) hs0 (sb_refl _) (fun T h _ => h)
    · have fw := hW.2.2.2 c y (by omega) hy
      rw [← h2 _ _ (by decide)] at fw
      refine ⟨⟨by omega, by omega⟩, ⟨by omega, by omega⟩, ⟨by omega, by omega⟩, ⟨by omega, by omega⟩, ih (by omega) _ _ _ _ (fun d hd => ?_) (fun p i hp => ?_)⟩
      · by_cases hdc : d = c
        · subst hdc
          rw [up_eq rfl rfl]
          exact fw
        · rw [up_ne (by omega)]
          exact h1 d (by omega)
      · rw [up_ne (by omega)]
        exact h2 p i hp
  exact sg_Wa_reach2_0 (A := A) (fill 0 (by omega) g _ _ _ (fun d hd => by omega) (fun p i _ => rfl))
set_option maxRecDepth 100000 in
theorem sg_Wa_endsWell2_0 {A : jA} {n l : Nat} {g : jv_S} {Q : jv_V → jv_L → jv_S → Prop} {v1 v2 : Int} (h :
   jv_At jv_T jv_ml kWa_endsWell 2 [jv_P 124, jv_I v1, jv_I v2, jv_I (0 : Int)] [] (LL n l) g Q) :
  jv_At jv_T jv_ml kWa_endsWell 0 [jv_P 124, jv_I v1, jv_I v2, jv_U] [] (LL n l) g Q :=
  jv_of_wp (gok9 (A := A)) (md := []) (stop := [2]) (tab := jt_Wa_endsWell) rfl 400 _ _ _ _ _ h
set_option maxRecDepth 100000 in
theorem sg_Wa_endsWell2_2 {A : jA} {n l : Nat} {g : jv_S} {Q : jv_V → jv_L → jv_S → Prop} {v1 v2 v3 : Int} (h :
   ((g 14 1) ≤ v3 →
     jv_Ca jv_T jv_ml kX_knot [jv_P 129, jv_I (g 14 1), jv_I v1] (LL n l) g (fun r L2 g2 => jv_At jv_T jv_ml kWa_endsWell 66 [jv_P 124, jv_I v1, jv_I v2, jv_I v3] (jv_pu r []) L2 g2 Q)) ∧
    (¬ (g 14 1) ≤ v3 →
     ((0 ≤ v1 ∧ v1 < 2147483648 ∧ 0 ≤ v3 ∧ v3 < 31)) ∧
      ((hb v1 v3) = 0 →
       jv_r32 (v3 + (1 : Int)) ∧
        jv_At jv_T jv_ml kWa_endsWell 2 [jv_P 124, jv_I v1, jv_I v2, jv_I (v3 + (1 : Int))] [] (LL n l) g Q) ∧
      (¬ (hb v1 v3) = 0 →
       (0 ≤ v3 ∧ v3 < 10) ∧
        ((g 16 v3) = v2 →
         jv_r32 (v3 + (1 : Int)) ∧
          jv_At jv_T jv_ml kWa_endsWell 2 [jv_P 124, jv_I v1, jv_I v2, jv_I (v3 + (1 : Int))] [] (LL n l) g Q) ∧
        (¬ (g 16 v3) = v2 →
         (0 ≤ v3 ∧ v3 < 10) ∧
          ((g 129 v3) = 0 →
           ((0 : Int) = 0 ∨ (0 : Int) = 1) ∧ Q (jv_I (0 : Int)) (LL n l) g) ∧
          (¬ (g 129 v3) = 0 →
           jv_r32 (v3 + (1 : Int)) ∧
            jv_At jv_T jv_ml kWa_endsWell 2 [jv_P 124, jv_I v1, jv_I v2, jv_I (v3 + (1 : Int))] [] (LL n l) g Q))))) :
  jv_At jv_T jv_ml kWa_endsWell 2 [jv_P 124, jv_I v1, jv_I v2, jv_I v3] [] (LL n l) g Q :=
  jv_of_wp (gok9 (A := A)) (md := []) (stop := [2]) (tab := jt_Wa_endsWell) rfl 400 _ _ _ _ _ h
set_option maxRecDepth 100000 in
theorem sg_Wa_endsWell2_66 {A : jA} {n l : Nat} {g : jv_S} {Q : jv_V → jv_L → jv_S → Prop} {v1 v2 v3 s0 : Int} (h :
   (s0 = 0 →
     ((1 : Int) = 0 ∨ (1 : Int) = 1) ∧ Q (jv_I (1 : Int)) (LL n l) g) ∧
    (¬ s0 = 0 →
     ((0 : Int) = 0 ∨ (0 : Int) = 1) ∧ Q (jv_I (0 : Int)) (LL n l) g)) :
  jv_At jv_T jv_ml kWa_endsWell 66 [jv_P 124, jv_I v1, jv_I v2, jv_I v3] [jv_I s0] (LL n l) g Q :=
  jv_of_wp (gok9 (A := A)) (md := []) (stop := [2]) (tab := jt_Wa_endsWell) rfl 400 _ _ _ _ _ h
theorem tr_Wa_endsWell2 {A : jA} {n l : Nat} {g : jv_S} {Q : jv_V → jv_L → jv_S → Prop} (hN : CN A g) {s y : Nat} (hs : s < 2 ^ ln A) (hy : y < nd A) (ho : ∀ c : Nat, c < ln A → g 129 c = on A y c) (hQ : Q (jv_I (jb_b (ew A s y))) (LL n l) g) :
  jv_Ca jv_T jv_ml kWa_endsWell [jv_P 124, jv_I s, jv_I y] (LL n l) g Q := by
  have hw := hN.1
  have w1 := hw.1
  have w2 := hw.2.1
  have f2 := hN.2.2.1
  have hl := i31 hs (by omega)
  have key : ∀ c, c ≤ ln A → anyB (de A s y) c = false → jv_At jv_T jv_ml kWa_endsWell 2 [jv_P 124, jv_I s, jv_I y, jv_I c] [] (LL n l) g Q := by
    apply loop_up
    intro c hc ih h1
    apply sg_Wa_endsWell2_2 (A := A)
    refine ⟨fun h => ?_, fun h => ?_⟩
    · have hcl : c = ln A := by omega
      subst hcl
      rw [f2]
      refine tr_X_knot_129 (A := A) w2 ho on_lt hs ?_
      apply sg_Wa_endsWell2_66 (A := A)
      unfold ew at hQ
      rw [h1] at hQ
      refine ⟨fun h => ⟨Or.inr rfl, ?_⟩, fun h => ⟨Or.inl rfl, ?_⟩⟩
      · rw [decide_eq_true (by omega)] at hQ; exact hQ
      · rw [decide_eq_false (by omega)] at hQ; exact hQ
    · have ft := (hN.2.2.2.1 c (by omega)).2.1
      have fo := ho c (by omega)
      have nx : de A s y c = false → jv_At jv_T jv_ml kWa_endsWell 2 [jv_P 124, jv_I s, jv_I y, jv_I (c + 1)] [] (LL n l) g Q := fun h => ih (by omega) (by show (anyB (de A s y) c || de A s y c) = false; rw [h1, h]; rfl)
      cases hbit : s.testBit c with
      | false =>
        have e0 := hb_f hbit
        have := nx (by simp [de, hbit])
        rw [e0]
        repeat' (first | assumption | apply And.intro | intro _)
        all_goals (first | omega | exact LLx_ok | skip)
      | true =>
        have e0 := hb_t hbit
        rw [e0]
        by_cases hty : tt A c = y
        · have := nx (by simp [de, hty])
          repeat' (first | assumption | apply And.intro | intro _)
          all_goals (first | omega | exact LLx_ok | skip)
        · by_cases hk : tk A c y = 0
          · have hd : de A s y c = true := by simp [de, hbit, hty, hk]
            have ha : anyB (de A s y) (ln A) = true := anyB_t.mpr ⟨c, by omega, hd⟩
            unfold ew at hQ
            rw [ha] at hQ
            have hz : on A y c = 0 := hk
            have hQ' : Q (jv_I 0) (LL n l) g := hQ
            repeat' (first | assumption | apply And.intro | intro _)
            all_goals (first | omega | exact LLx_ok | skip)
          · have hz : on A y c ≠ 0 := hk
            have := nx (by simp [de, hk])
            repeat' (first | assumption | apply And.intro | intro _)
            all_goals (first | omega | exact LLx_ok | skip)
  exact sg_Wa_endsWell2_0 (A := A) (key 0 (by omega) rfl)
set_option maxRecDepth 100000 in
theorem sg_Wa_survey2_0 {A : jA} {n l : Nat} {g : jv_S} {Q : jv_V → jv_L → jv_S → Prop} {v1 : Int} (h :
   jv_At jv_T jv_ml kWa_survey 7 [jv_P 124, jv_I v1, jv_I (0 : Int), jv_I (1 : Int), jv_I (0 : Int), jv_U] [] (LL n l) g Q) :
  jv_At jv_T jv_ml kWa_survey 0 [jv_P 124, jv_I v1, jv_U, jv_U, jv_U, jv_U] [] (LL n l) g Q :=
  jv_of_wp (gok9 (A := A)) (md := []) (stop := [7, 72]) (tab := jt_Wa_survey) rfl 400 _ _ _ _ _ h
set_option maxRecDepth 100000 in
theorem sg_Wa_survey2_7 {A : jA} {n l : Nat} {g : jv_S} {Q : jv_V → jv_L → jv_S → Prop} {v1 v2 v3 v4 : Int} {v5 : jv_V} (h :
   ((g 14 0) ≤ v4 →
     jv_Ca jv_T jv_ml kWa_reach [jv_P 124, jv_I v2, jv_I v1] (LL n l) g (fun r L2 g2 => jv_At jv_T jv_ml kWa_survey 68 [jv_P 124, jv_I v1, jv_I v2, jv_I v3, jv_I v4, v5] (jv_pu r [jv_I v1, jv_P 125]) L2 g2 Q)) ∧
    (¬ (g 14 0) ≤ v4 →
     (0 ≤ v4 ∧ v4 < 6) ∧
      (0 ≤ v1 ∧ v1 < 6) ∧
      (v4 = v1 →
       jv_r32 (v4 + (1 : Int)) ∧
        jv_At jv_T jv_ml kWa_survey 7 [jv_P 124, jv_I v1, jv_I (jv_or v2 (g 106 (v4 * 6 + v1))), jv_I v3, jv_I (v4 + (1 : Int)), jv_I (g 106 (v4 * 6 + v1))] [] (LL n l) g Q) ∧
      (¬ v4 = v1 →
       ((g 106 (v4 * 6 + v1)) = 0 →
         jv_r32 (v4 + (1 : Int)) ∧
          jv_At jv_T jv_ml kWa_survey 7 [jv_P 124, jv_I v1, jv_I (jv_or v2 (g 106 (v4 * 6 + v1))), jv_I (0 : Int), jv_I (v4 + (1 : Int)), jv_I (g 106 (v4 * 6 + v1))] [] (LL n l) g Q) ∧
        (¬ (g 106 (v4 * 6 + v1)) = 0 →
         jv_r32 (v4 + (1 : Int)) ∧
          jv_At jv_T jv_ml kWa_survey 7 [jv_P 124, jv_I v1, jv_I (jv_or v2 (g 106 (v4 * 6 + v1))), jv_I v3, jv_I (v4 + (1 : Int)), jv_I (g 106 (v4 * 6 + v1))] [] (LL n l) g Q)))) :
  jv_At jv_T jv_ml kWa_survey 7 [jv_P 124, jv_I v1, jv_I v2, jv_I v3, jv_I v4, v5] [] (LL n l) g Q :=
  jv_of_wp (gok9 (A := A)) (md := []) (stop := [7, 72]) (tab := jt_Wa_survey) rfl 400 _ _ _ _ _ h
set_option maxRecDepth 100000 in
theorem sg_Wa_survey2_68 {A : jA} {n l : Nat} {g : jv_S} {Q : jv_V → jv_L → jv_S → Prop} {v1 v2 v3 v4 s1 s2 : Int} {v5 : jv_V} (h :
   (0 ≤ s1 ∧ s1 < 6) ∧ 
    jv_At jv_T jv_ml kWa_survey 72 [jv_P 124, jv_I v1, jv_I v2, jv_I v3, jv_I (0 : Int), v5] [] (LL n l) (jv_up g 125 s1 s2) Q) :
  jv_At jv_T jv_ml kWa_survey 68 [jv_P 124, jv_I v1, jv_I v2, jv_I v3, jv_I v4, v5] [jv_I s2, jv_I s1, jv_P 125] (LL n l) g Q :=
  jv_of_wp (gok9 (A := A)) (md := []) (stop := [7, 72]) (tab := jt_Wa_survey) rfl 400 _ _ _ _ _ h
set_option maxRecDepth 100000 in
theorem sg_Wa_survey2_72 {A : jA} {n l : Nat} {g : jv_S} {Q : jv_V → jv_L → jv_S → Prop} {v1 v2 v3 v4 : Int} {v5 : jv_V} (h :
   ((g 14 1) ≤ v4 →
     (v3 = 0 →
       ((0 : Int) = 0 ∨ (0 : Int) = 1) ∧ Q (jv_I (0 : Int)) (LL n l) g) ∧
      (¬ v3 = 0 →
       (0 ≤ v1 ∧ v1 < 6) ∧
        jv_Ca jv_T jv_ml kWa_endsWell [jv_P 124, jv_I (g 125 v1), jv_I v1] (LL n l) g (fun r L2 g2 => jv_At jv_T jv_ml kWa_survey 136 [jv_P 124, jv_I v1, jv_I v2, jv_I v3, jv_I v4, v5] (jv_pu r []) L2 g2 Q))) ∧
    (¬ (g 14 1) ≤ v4 →
     (0 ≤ v1 ∧ v1 < 6) ∧
      ((0 ≤ (g 125 v1) ∧ (g 125 v1) < 2147483648 ∧ 0 ≤ v4 ∧ v4 < 31)) ∧
      ((hb (g 125 v1) v4) = 0 →
       jv_r32 (v4 + (1 : Int)) ∧
        jv_At jv_T jv_ml kWa_survey 72 [jv_P 124, jv_I v1, jv_I v2, jv_I v3, jv_I (v4 + (1 : Int)), v5] [] (LL n l) g Q) ∧
      (¬ (hb (g 125 v1) v4) = 0 →
       (0 ≤ v4 ∧ v4 < 10) ∧
        (0 ≤ v4 ∧ v4 < 10) ∧
        (0 ≤ v4 ∧ v4 < 10) ∧ 
        jv_r32 (v4 + (1 : Int)) ∧
        jv_At jv_T jv_ml kWa_survey 72 [jv_P 124, jv_I v1, jv_I v2, jv_I v3, jv_I (v4 + (1 : Int)), v5] [] (LL n l) (jv_up g 126 v4 (jv_or (g 126 v4) (g 129 v4))) Q))) :
  jv_At jv_T jv_ml kWa_survey 72 [jv_P 124, jv_I v1, jv_I v2, jv_I v3, jv_I v4, v5] [] (LL n l) g Q :=
  jv_of_wp (gok9 (A := A)) (md := []) (stop := [7, 72]) (tab := jt_Wa_survey) rfl 400 _ _ _ _ _ h
set_option maxRecDepth 100000 in
theorem sg_Wa_survey2_136 {A : jA} {n l : Nat} {g : jv_S} {Q : jv_V → jv_L → jv_S → Prop} {v1 v2 v3 v4 s0 : Int} {v5 : jv_V} (h :
   (s0 = 0 →
     ((0 : Int) = 0 ∨ (0 : Int) = 1) ∧ Q (jv_I (0 : Int)) (LL n l) g) ∧
    (¬ s0 = 0 →
     ((1 : Int) = 0 ∨ (1 : Int) = 1) ∧ Q (jv_I (1 : Int)) (LL n l) g)) :
  jv_At jv_T jv_ml kWa_survey 136 [jv_P 124, jv_I v1, jv_I v2, jv_I v3, jv_I v4, v5] [jv_I s0] (LL n l) g Q :=
  jv_of_wp (gok9 (A := A)) (md := []) (stop := [7, 72]) (tab := jt_Wa_survey) rfl 400 _ _ _ _ _ h
theorem tr_Wa_survey2 {A : jA} {n l : Nat} {g : jv_S} {Q : jv_V → jv_L → jv_S → Prop} (hN : CN A g) (hW : CW 104 A g) {y : Nat} {nx : Nat → Nat} (hy : y < nd A) (hx : ∀ c : Nat, c < ln A → g 126 c = nx c) (hxl : ∀ c, c < ln A → nx c < 2 ^ ln A)
  (hQ : ∀ g' : jv_S, g' 125 y = cr A y → (∀ c : Nat, c < ln A → g' 126 c = (nx c ||| (if (cr A y).testBit c then on A y c else 0) : Nat)) → (∀ (p : Nat) (i : Int), ¬ (p = 129 ∨ p = 126 ∨ (p = 125 ∧ i = y)) → g' p i = g p i) → Q (jv_I (jb_b (sv A y))) (LL n l) g') :
  jv_Ca jv_T jv_ml kWa_survey [jv_P 124, jv_I y] (LL n l) g Q := by
  have hw := hN.1
  have w1 := hw.1
  have w2 := hw.2.1
  have f1 := hN.2.1
  have f2 := hN.2.2.1
  have hc31 := i31 (cr_lt (A := A) (y := y)) (by omega)
  have rest : ∀ (v2 v4 : Int) (v5 : jv_V) (g0 : jv_S), (∀ c : Nat, c < ln A → g0 129 c = on A y c) → (∀ p i, ¬ (p = 129) → g0 p i = g p i) → ∀ c, c ≤ ln A → ∀ (g' : jv_S), (∀ d : Nat, d < ln A → g' 126 d = (nx d ||| (if d < c ∧ (cr A y).testBit d then on A y d else 0) : Nat)) → g' 125 y = cr A y → (∀ (p : Nat) (i : Int), ¬ (p = 126 ∨ (p = 125 ∧ i = y)) → g' p i = g0 p i) → jv_At jv_T jv_ml kWa_survey 72 [jv_P 124, jv_I y, jv_I v2, jv_I (jb_b (!anyB (ns A y) (nd A))), jv_I c, v5] [] (LL n l) (g') Q := by
    intro v2 v4 v5 g0 ho0 hf0
    apply loop_up
    intro c hc ih g' h2 h3 h4
    have hf : ∀ (p : Nat) (i : Int), ¬ (p = 129 ∨ p = 126 ∨ (p = 125 ∧ i = y)) → g' p i = g p i := fun p i hp => by rw [h4 p i (by omega), hf0 p i (by omega)]
    have f2' : g' 14 1 = ln A := by rw [hf _ _ (by omega)]; exact f2
    have ho : ∀ c : Nat, c < ln A → g' 129 c = on A y c := fun c hc => by rw [h4 _ _ (by omega)]; exact ho0 c hc
    have hN' : CN A g' := CN_fr hN (fun p i a b => hf p i (by omega))
    apply sg_Wa_survey2_72 (A := A)
    refine ⟨fun h => ?_, fun h => ?_⟩
    · have hcl : c = ln A := by omega
      subst hcl
      have hQ' := hQ g' h3 (fun d hd => by rw [h2 d hd]; simp [hd]) hf
      unfold sv at hQ'
      refine ⟨fun h => ⟨Or.inl rfl, ?_⟩, fun h => ⟨⟨by omega, by omega⟩, ?_⟩⟩
      · rw [jb0] at h
        rw [h] at hQ'
        exact hQ'
      · rw [jbn] at h
        rw [h] at hQ'
        rw [h3]
        refine tr_Wa_endsWell2 hN' cr_lt hy ho ?_
        apply sg_Wa_survey2_136 (A := A)
        refine ⟨fun h => ⟨Or.inl rfl, ?_⟩, fun h => ⟨Or.inr rfl, ?_⟩⟩
        · rw [jb0] at h
          rw [h] at hQ'
          exact hQ'
        · rw [jbn] at h
          rw [h] at hQ'
          exact hQ'
    · have fo := ho c (by omega)
      have f2c := h2 c (by omega)
      cases hbit : (cr A y).testBit c with
      | false =>
        have e0 := hb_f hbit
        have := ih (by omega) g' (fun d hd => by
          rw [h2 d hd]
          by_cases hdc : d = c
          · subst hdc; simp [hbit]
          · simp [show (d < c + 1) ↔ d < c by omega]) h3 h4
        rw [h3, e0]
        repeat' (first | assumption | apply And.intro | intro _)
        all_goals (first | omega | exact LLx_ok | skip)
      | true =>
        have e0 := hb_t hbit
        have e1 : jv_or (g' 126 c) (g' 129 c) = ((nx c ||| on A y c : Nat) : Int) := by
          rw [f2c, fo]
          simp only [Nat.lt_irrefl, false_and, if_false, Nat.or_zero]
          exact jb_or (i31 (hxl c (by omega)) (by omega)) (i31 (on_lt c (by omega)) (by omega))
        have := ih (by omega) (jv_up g' 126 c (jv_or (g' 126 c) (g' 129 c))) (fun d hd => by
          by_cases hdc : d = c
          · subst hdc; rw [up_eq rfl rfl, e1]; simp [hbit]
          · rw [up_ne (by omega), h2 d hd]; simp [show (d < c + 1) ↔ d < c by omega]) (by rw [up_ne (by omega)]; exact h3) (fun p i hp => by rw [up_ne (by omega)]; exact h4 p i hp)
        rw [h3, e0]
        repeat' (first | assumption | apply And.intro | intro _)
        all_goals (first | omega | exact LLx_ok | skip)
  have outs : ∀ x, x ≤ nd A → ∀ (v5 : jv_V), jv_At jv_T jv_ml kWa_survey 7 [jv_P 124, jv_I y, jv_I (un (fun x => tk A (10 + x) y) x : Nat), jv_I (jb_b (!anyB (ns A y) x)), jv_I x, v5] [] (LL n l) g Q := by
    apply loop_up
    intro x hx' ih v5
    apply sg_Wa_survey2_7 (A := A)
    refine ⟨fun h => ?_, fun h => ?_⟩
    · have hxl' : x = nd A := by omega
      subst hxl'
      refine tr_Wa_reach2 hN hW (s0 := so A y) so_lt hy (fun g0 h1 h2 => ?_)
      apply sg_Wa_survey2_68 (A := A)
      refine ⟨⟨by omega, by omega⟩, rest _ 0 v5 g0 h1 h2 0 (by omega) _ (fun d hd => ?_) (up_eq rfl rfl) (fun p i hp => up_ne (by omega))⟩
      rw [up_ne (by omega), h2 _ _ (by omega), hx d hd]
      simp
    · have fw : g 106 ((x : Int) * 6 + y) = tk A (10 + x) y := hW.2.2.1 x y (by omega) hy
      have hu := i31 (un_lt (f := fun x => tk A (10 + x) y) (k := x) (fun _ _ => tk_ltl (A := A) _ _)) (by omega)
      have e1 : jv_or (un (fun x => tk A (10 + x) y) x : Nat) (g 106 ((x : Int) * 6 + y)) = ((un (fun x => tk A (10 + x) y) (x + 1) : Nat) : Int) := by
        rw [fw, jb_or hu (i31 (tk_ltl _ _) (by omega))]
        rfl
      have := ih (by omega)
      have e2 : (!anyB (ns A y) (x + 1)) = (!anyB (ns A y) x && !ns A y x) := by show (!(anyB (ns A y) x || ns A y x)) = _; cases anyB (ns A y) x <;> cases ns A y x <;> rfl
      rw [e1]
      refine ⟨⟨by omega, by omega⟩, ⟨by omega, by omega⟩, fun h1 => ⟨⟨by omega, by omega⟩, ?_⟩, fun h1 => ⟨fun h2 => ⟨⟨by omega, by omega⟩, ?_⟩, fun h2 => ⟨⟨by omega, by omega⟩, ?_⟩⟩⟩
      · have : ns A y x = false := by unfold ns; rw [decide_eq_true (show x = y by omega)]; rfl
        have ih' := ih (by omega) (jv_I (g 106 ((x : Int) * 6 + y)))
        rw [e2, this, Bool.not_false, Bool.and_true] at ih'
        exact ih'
      · have : ns A y x = true := by unfold ns; rw [decide_eq_false (show ¬ x = y by omega), decide_eq_true (by omega)]; rfl
        have ih' := ih (by omega) (jv_I (g 106 ((x : Int) * 6 + y)))
        rw [e2, this, Bool.not_true, Bool.and_false] at ih'
        exact ih'
      · have : ns A y x = false := by unfold ns; rw [decide_eq_false (show ¬ tk A (10 + x) y = 0 by omega), Bool.and_false]
        have ih' := ih (by omega) (jv_I (g 106 ((x : Int) * 6 + y)))
        rw [e2, this, Bool.not_false, Bool.and_true] at ih'
        exact ih'
  exact sg_Wa_survey2_0 (A := A) (outs 0 (by omega) _)
