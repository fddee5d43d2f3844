/-! ===== mends ===== -/
theorem wb_wb {A : jA} {b b' : Nat → Nat} : wb (wb A b) b' = wb A b' := by
  unfold wb
  refine Prod.ext (funext fun i => funext fun c => ?_) rfl
  match i with
  | 0 => rfl
  | 1 => rfl
  | 2 => rfl
  | 3 => rfl
  | 4 => rfl
  | _ + 5 => rfl
theorem wb_self {A : jA} : wb A (ba A) = A := by
  unfold wb
  refine Prod.ext (funext fun i => funext fun c => ?_) rfl
  show (match i with
  | 4 => ba A c
  | i => A.1 i c) = A.1 i c
  split
  · rfl
  · rfl
def xb (b : Nat → Nat) (q : Nat × Nat) : Nat → Nat := fun i => if i = q.1 then b i ^^^ 2 ^ q.2 else b i
theorem xb_xb {b : Nat → Nat} {q : Nat × Nat} : xb (xb b q) q = b := by
  funext i
  unfold xb
  by_cases h : i = q.1
  · rw [if_pos h, if_pos h, Nat.xor_assoc, Nat.xor_self, Nat.xor_zero]
  · rw [if_neg h, if_neg h]
theorem or_xor {b d : Nat} (h : b.testBit d = false) : b ||| 2 ^ d = b ^^^ 2 ^ d := by
  apply Nat.eq_of_testBit_eq
  intro i
  rw [Nat.testBit_or, Nat.testBit_xor, Nat.testBit_two_pow]
  by_cases hi : d = i
  · subst hi; simp [h]
  · simp [hi]
theorem bd_xor {b d : Nat} (h : b.testBit d = true) : bd b (2 ^ d) = b ^^^ 2 ^ d := by
  apply Nat.eq_of_testBit_eq
  intro i
  rw [bd_bit, Nat.testBit_xor, Nat.testBit_two_pow]
  by_cases hi : d = i
  · subst hi; simp [h]
  · simp [hi]
theorem or_same {b d : Nat} (h : b.testBit d = true) : b ||| 2 ^ d = b := by
  apply Nat.eq_of_testBit_eq
  intro i
  rw [Nat.testBit_or, Nat.testBit_two_pow]
  by_cases hi : d = i
  · subst hi; simp [h]
  · simp [hi]
theorem bd_same {b d : Nat} (h : b.testBit d = false) : bd b (2 ^ d) = b := by
  apply Nat.eq_of_testBit_eq
  intro i
  rw [bd_bit, Nat.testBit_two_pow]
  by_cases hi : d = i
  · subst hi; simp [h]
  · simp [hi]
theorem sb1_self {b : Nat → Nat} {c s : Nat} (h : s = b c) : sb1 b c s = b := by
  funext i
  unfold sb1
  by_cases hi : i = c
  · rw [if_pos hi, hi, h]
  · rw [if_neg hi]
theorem sb1_xb {b : Nat → Nat} {q : Nat × Nat} {s : Nat} (h : s = b q.1 ^^^ 2 ^ q.2) : sb1 b q.1 s = xb b q := by
  funext i
  unfold sb1 xb
  by_cases hi : i = q.1
  · rw [if_pos hi, if_pos hi, hi, h]
  · rw [if_neg hi, if_neg hi]
theorem xb_lt {b : Nat → Nat} {q : Nat × Nat} {m : Nat} (hb : ∀ c, c < m → b c < 1024) (hq : q.2 < 10) : ∀ c, c < m → xb b q c < 1024 := by
  intro c hc
  unfold xb
  split
  · exact Nat.xor_lt_two_pow (n := 10) (hb c hc) (Nat.pow_lt_pow_right (by decide) hq)
  · exact hb c hc
theorem xb_bit {b : Nat → Nat} {q r : Nat × Nat} : (xb b q r.1).testBit r.2 = ((b r.1).testBit r.2 ^^ decide (q = r)) := by
  unfold xb
  by_cases h1 : r.1 = q.1
  · rw [if_pos h1, Nat.testBit_xor, Nat.testBit_two_pow]
    congr 1
    apply decide_eq_decide.mpr
    exact ⟨fun h => Prod.ext h1.symm h, fun h => by rw [h]⟩
  · rw [if_neg h1, decide_eq_false (fun h => h1 (by rw [h])), Bool.xor_false]
theorem jb_xor {a b : Nat} (ha : a < 2147483648) (hb : b < 2147483648) : jv_xor (a : Int) (b : Int) = ((a ^^^ b : Nat) : Int) := by
  unfold jv_xor
  refine jb_i ?_ (Nat.xor_lt_two_pow (n := 31) ha hb)
  rw [Int32.toBitVec_xor, jb_v, jb_v, BitVec.toNat_xor, jb_n a (by omega), jb_n b (by omega)]
/-- the turns that may be barred, in order: how many, which -/
abbrev jTS : Type := Nat × (Nat → Nat × Nat)
def tpu (S : jTS) (q : Nat × Nat) : jTS := (S.1 + 1, fun i => if i = S.1 then q else S.2 i)
def tsd (W : Nat → Nat) (c : Nat) (S : jTS) : Nat → jTS
  | 0 => S
  | d + 1 => if (W c).testBit d then tpu (tsd W c S d) (c, d) else tsd W c S d
def tsc (W : Nat → Nat) (m : Nat) : Nat → jTS
  | 0 => (0, fun _ => (0, 0))
  | c + 1 => tsd W c (tsc W m c) m
/-- what is known of a part of them: all before (c, d) -/
def TG (W : Nat → Nat) (m c d : Nat) (S : jTS) : Prop := S.1 ≤ c * m + d ∧ (∀ i, i < S.1 → (S.2 i).1 < m ∧ (S.2 i).2 < m ∧ (W (S.2 i).1).testBit (S.2 i).2 = true ∧ ((S.2 i).1 < c ∨ ((S.2 i).1 = c ∧ (S.2 i).2 < d))) ∧ ∀ i j, i < j → j < S.1 → S.2 i ≠ S.2 j
theorem tsd_G {W : Nat → Nat} {m c : Nat} {S : jTS} (hc : c < m) (h : TG W m c 0 S) : ∀ d, d ≤ m → TG W m c d (tsd W c S d) := by
  intro d
  induction d with
  | zero => exact fun _ => h
  | succ d ih =>
    intro hd
    obtain ⟨h1, h2, h3⟩ := ih (by omega)
    unfold tsd
    by_cases hb : (W c).testBit d = true
    · rw [if_pos hb]
      refine ⟨?_, fun i hi => ?_, fun i j hij hj => ?_⟩
      · show (tsd W c S d).1 + 1 ≤ _
        omega
      · show ((if i = (tsd W c S d).1 then (c, d) else (tsd W c S d).2 i) : Nat × Nat).1 < m ∧ _
        have hi : i < (tsd W c S d).1 + 1 := hi
        unfold tpu
        by_cases he : i = (tsd W c S d).1
        · simp only [if_pos he]
          refine ⟨hc, by omega, hb, Or.inr ⟨?_, by omega⟩⟩
          first | trivial | rfl
        · simp only [if_neg he]
          obtain ⟨a1, a2, a3, a4⟩ := h2 i (by omega)
          exact ⟨a1, a2, a3, by omega⟩
      · have hj : j < (tsd W c S d).1 + 1 := hj
        show (if i = (tsd W c S d).1 then (c, d) else (tsd W c S d).2 i) ≠ (if j = (tsd W c S d).1 then (c, d) else (tsd W c S d).2 j)
        rw [if_neg (by omega)]
        by_cases he : j = (tsd W c S d).1
        · rw [if_pos he]
          intro h4
          obtain ⟨a1, a2, a3, a4⟩ := h2 i (by omega)
          rw [h4] at a4
          dsimp only at a4
          omega
        · rw [if_neg he]
          exact h3 i j hij (by omega)
    · rw [if_neg hb]
      exact ⟨by omega, fun i hi => by obtain ⟨a1, a2, a3, a4⟩ := h2 i hi; exact ⟨a1, a2, a3, by omega⟩, h3⟩
theorem tsc_G {W : Nat → Nat} {m : Nat} : ∀ c, c ≤ m → TG W m c 0 (tsc W m c) := by
  intro c
  induction c with
  | zero => intro _; exact ⟨by show 0 ≤ _; omega, fun i hi => absurd hi (Nat.not_lt_zero _), fun i j _ hj => absurd hj (Nat.not_lt_zero _)⟩
  | succ c ih =>
    intro hc
    obtain ⟨h1, h2, h3⟩ := tsd_G (by omega) (ih (by omega)) m (Nat.le_refl _)
    refine ⟨?_, fun i hi => ?_, h3⟩
    · show (tsd W c (tsc W m c) m).1 ≤ _
      rw [Nat.add_mul]
      omega
    · obtain ⟨a1, a2, a3, a4⟩ := h2 i hi
      exact ⟨a1, a2, a3, Or.inl (by
        show ((tsd W c (tsc W m c) m).2 i).1 < c + 1
        omega)⟩
noncomputable def TS (A : jA) : jTS := tsc (wt A) (ln A) (ln A)
theorem ts_b {m c d k : Nat} (hm : m ≤ 10) (hc : c < m) (hd : d < m) (h : k ≤ c * m + d) : k < 100 := by
  have : c * m ≤ 9 * m := Nat.mul_le_mul_right m (by omega)
  omega
theorem TS_G {A : jA} (hw : wf A) : (TS A).1 ≤ 100 ∧ (∀ i, i < (TS A).1 → ((TS A).2 i).1 < ln A ∧ ((TS A).2 i).2 < ln A ∧ (wt A ((TS A).2 i).1).testBit ((TS A).2 i).2 = true) ∧ ∀ i j, i < j → j < (TS A).1 → (TS A).2 i ≠ (TS A).2 j := by
  obtain ⟨h1, h2, h3⟩ := tsc_G (W := wt A) (m := ln A) (ln A) (Nat.le_refl _)
  have w2 := hw.2.1
  have : ln A * ln A ≤ 10 * 10 := Nat.mul_le_mul w2 w2
  exact ⟨by show (tsc (wt A) (ln A) (ln A)).1 ≤ 100; omega, fun i hi => ⟨(h2 i hi).1, (h2 i hi).2.1, (h2 i hi).2.2.1⟩, h3⟩
theorem wt_nb {A : jA} {c d : Nat} (hc : c < 10) (h : (wt A c).testBit d = true) : (ba A c).testBit d = false := by
  obtain ⟨y, h1, h2⟩ := un_bit.mp h
  unfold wy at h2
  split at h2
  · unfold on tk at h2
    rw [mk_bit, Bool.and_eq_true] at h2
    have h3 := h2.2
    unfold tq tb at h3
    cases hb : (ba A c).testBit d with
    | false => rfl
    | true => simp [hb, hc] at h3
  · rw [Nat.zero_testBit] at h2; cases h2
noncomputable def b1 (A : jA) (t : Nat) : Nat → Nat := xb (ba A) ((TS A).2 t)
noncomputable def b2 (A : jA) (t u : Nat) : Nat → Nat := xb (b1 A t) ((TS A).2 u)
noncomputable def M1 (A : jA) (t : Nat) : Bool := sd (wb A (b1 A t))
noncomputable def M2 (A : jA) (t u : Nat) : Bool := sd (wb A (b2 A t u))
def MSp (A : jA) (cnt : Int) (a b : Nat) : Prop := (cnt = 0 ∧ sd A = true) ∨ (sd A = false ∧ cnt = 1 ∧ a < (TS A).1 ∧ M1 A a = true ∧ ∀ j, j < a → M1 A j = false) ∨ (sd A = false ∧ (∀ j, j < (TS A).1 → M1 A j = false) ∧ cnt = 2 ∧ a < b ∧ b < (TS A).1 ∧ M2 A a b = true ∧ (∀ i j, i < a → i < j → j < (TS A).1 → M2 A i j = false) ∧ ∀ j, a < j → j < b → M2 A a j = false) ∨ (sd A = false ∧ (∀ j, j < (TS A).1 → M1 A j = false) ∧ (∀ i j, i < j → j < (TS A).1 → M2 A i j = false) ∧ cnt = -9)
theorem MSp_u {A : jA} {cnt cnt' : Int} {a b a' b' : Nat} (h : MSp A cnt a b) (h' : MSp A cnt' a' b') : cnt = cnt' ∧ (1 ≤ cnt → a = a') ∧ (cnt = 2 → b = b') := by
  have cf : ∀ {p : Bool}, p = true → p = false → False := fun h1 h2 => by rw [h1] at h2; cases h2
  rcases h with ⟨h1, h2⟩ | ⟨h1, h2, h3, h4, h5⟩ | ⟨h1, h2, h3, h4, h5, h6, h7, h8⟩ | ⟨h1, h2, h3, h4⟩ <;> rcases h' with ⟨k1, k2⟩ | ⟨k1, k2, k3, k4, k5⟩ | ⟨k1, k2, k3, k4, k5, k6, k7, k8⟩ | ⟨k1, k2, k3, k4⟩
  · exact ⟨by omega, by omega, by omega⟩
  · exact (cf h2 k1).elim
  · exact (cf h2 k1).elim
  · exact (cf h2 k1).elim
  · exact (cf k2 h1).elim
  · refine ⟨by omega, fun _ => ?_, by omega⟩
    rcases Nat.lt_trichotomy a a' with h | h | h
    · exact (cf h4 (k5 a h)).elim
    · exact h
    · exact (cf k4 (h5 a' h)).elim
  · exact (cf h4 (k2 a h3)).elim
  · exact (cf h4 (k2 a h3)).elim
  · exact (cf k2 h1).elim
  · exact (cf k4 (h2 a' k3)).elim
  · have ha : a = a' := by
      rcases Nat.lt_trichotomy a a' with h | h | h
      · exact (cf h6 (k7 a b h h4 h5)).elim
      · exact h
      · exact (cf k6 (h7 a' b' h k4 k5)).elim
    subst ha
    refine ⟨by omega, fun _ => rfl, fun _ => ?_⟩
    rcases Nat.lt_trichotomy b b' with h | h | h
    · exact (cf h6 (k8 b h4 h)).elim
    · exact h
    · exact (cf k6 (h8 b' k4 h)).elim
  · exact (cf h6 (k3 a b h4 h5)).elim
  · exact (cf k2 h1).elim
  · exact (cf k4 (h2 a' k3)).elim
  · exact (cf k6 (h3 a' b' k4 k5)).elim
  · exact ⟨by omega, by omega, by omega⟩
/-- a turn as a number -/
def tn (q : Nat × Nat) : Int := 10 * (q.1 : Int) + q.2
set_option maxRecDepth 100000 in
theorem sg_M_gather_0 {A : jA} {n l : Nat} {g : jv_S} {Q : jv_V → jv_L → jv_S → Prop} (h :
   jv_At jv_T jv_ml kM_gather 4 [jv_P 101, jv_I (0 : Int), jv_I (0 : Int), jv_U] [] (LL n l) g Q) :
  jv_At jv_T jv_ml kM_gather 0 [jv_P 101, jv_U, jv_U, jv_U] [] (LL n l) g Q :=
  jv_of_wp (gok9 (A := A)) (md := []) (stop := [4, 17]) (tab := jt_M_gather) rfl 400 _ _ _ _ _ h
set_option maxRecDepth 100000 in
theorem sg_M_gather_4 {A : jA} {n l : Nat} {g : jv_S} {Q : jv_V → jv_L → jv_S → Prop} {v1 v2 : Int} {v3 : jv_V} (h :
   ((g 14 1) ≤ v2 →
     Q (jv_I v1) (LL n l) g) ∧
    (¬ (g 14 1) ≤ v2 →
     jv_At jv_T jv_ml kM_gather 17 [jv_P 101, jv_I v1, jv_I v2, jv_I (0 : Int)] [] (LL n l) g Q)) :
  jv_At jv_T jv_ml kM_gather 4 [jv_P 101, jv_I v1, jv_I v2, v3] [] (LL n l) g Q :=
  jv_of_wp (gok9 (A := A)) (md := []) (stop := [4, 17]) (tab := jt_M_gather) rfl 400 _ _ _ _ _ h
set_option maxRecDepth 100000 in
theorem sg_M_gather_17 {A : jA} {n l : Nat} {g : jv_S} {Q : jv_V → jv_L → jv_S → Prop} {v1 v2 v3 : Int} (h :
   ((g 14 1) ≤ v3 →
     jv_r32 (v2 + (1 : Int)) ∧
      jv_At jv_T jv_ml kM_gather 4 [jv_P 101, jv_I v1, jv_I (v2 + (1 : Int)), jv_I v3] [] (LL n l) g Q) ∧
    (¬ (g 14 1) ≤ v3 →
     (0 ≤ v2 ∧ v2 < 10) ∧
      ((0 ≤ (g 62 v2) ∧ (g 62 v2) < 2147483648 ∧ 0 ≤ v3 ∧ v3 < 31)) ∧
      ((hb (g 62 v2) v3) = 0 →
       jv_r32 (v3 + (1 : Int)) ∧
        jv_At jv_T jv_ml kM_gather 17 [jv_P 101, jv_I v1, jv_I v2, jv_I (v3 + (1 : Int))] [] (LL n l) g Q) ∧
      (¬ (hb (g 62 v2) v3) = 0 →
       jv_r32 ((10 : Int) * v2) ∧
        jv_r32 (((10 : Int) * v2) + v3) ∧
        (0 ≤ v1 ∧ v1 < 100) ∧ 
        jv_r32 (v1 + (1 : Int)) ∧
        jv_r32 (v3 + (1 : Int)) ∧
        jv_At jv_T jv_ml kM_gather 17 [jv_P 101, jv_I (v1 + (1 : Int)), jv_I v2, jv_I (v3 + (1 : Int))] [] (LL n l) (jv_up g 102 v1 (((10 : Int) * v2) + v3)) Q))) :
  jv_At jv_T jv_ml kM_gather 17 [jv_P 101, jv_I v1, jv_I v2, jv_I v3] [] (LL n l) g Q :=
  jv_of_wp (gok9 (A := A)) (md := []) (stop := [4, 17]) (tab := jt_M_gather) rfl 400 _ _ _ _ _ h
theorem tr_M_gather {A : jA} {n l : Nat} {g : jv_S} {Q : jv_V → jv_L → jv_S → Prop} (hw : wf A) (f2 : g 14 1 = ln A) (hx : ∀ c : Nat, c < ln A → g 62 c = wt A c)
  (hQ : ∀ (g' : jv_S), (∀ i : Nat, i < (TS A).1 → g' 102 i = tn ((TS A).2 i)) → (∀ (p : Nat) (i : Int), ¬ p = 102 → g' p i = g p i) → Q (jv_I ((TS A).1 : Nat)) (LL n l) g') :
  jv_Ca jv_T jv_ml kM_gather [jv_P 101] (LL n l) g Q := by
  have w2 := hw.2.1
  have cs' : ∀ c, c ≤ ln A → ∀ (g' : jv_S) (v : jv_V), (∀ i : Nat, i < (tsc (wt A) (ln A) c).1 → g' 102 i = tn ((tsc (wt A) (ln A) c).2 i)) → (∀ (p : Nat) (i : Int), ¬ p = 102 → g' p i = g p i) → jv_At jv_T jv_ml kM_gather 4 [jv_P 101, jv_I ((tsc (wt A) (ln A) c).1 : Nat), jv_I c, v] [] (LL n l) (g') Q := by
    apply loop_up
    intro c hc ih g' v h1 hf
    have f2' : g' 14 1 = ln A := by rw [hf _ _ (by decide)]; exact f2
    apply sg_M_gather_4 (A := A)
    refine ⟨fun h => ?_, fun h => ?_⟩
    · have hcl : c = ln A := by omega
      subst hcl
      exact hQ g' h1 hf
    · have ds : ∀ d, d ≤ ln A → ∀ (g' : jv_S), (∀ i : Nat, i < (tsd (wt A) c (tsc (wt A) (ln A) c) d).1 → g' 102 i = tn ((tsd (wt A) c (tsc (wt A) (ln A) c) d).2 i)) → (∀ (p : Nat) (i : Int), ¬ p = 102 → g' p i = g p i) → jv_At jv_T jv_ml kM_gather 17 [jv_P 101, jv_I ((tsd (wt A) c (tsc (wt A) (ln A) c) d).1 : Nat), jv_I c, jv_I d] [] (LL n l) (g') Q := by
        apply loop_up
        intro d hd ihd g' h1 hf
        have f2' : g' 14 1 = ln A := by rw [hf _ _ (by decide)]; exact f2
        apply sg_M_gather_17 (A := A)
        refine ⟨fun h => ⟨⟨by omega, by omega⟩, ?_⟩, fun h => ?_⟩
        · have hdl : d = ln A := by omega
          subst hdl
          exact ih (by omega) g' _ h1 hf
        · have fx : g' 62 c = wt A c := by rw [hf _ _ (by decide)]; exact hx c (by omega)
          have hW31 := i31 (wt_lt (A := A) c (by omega)) (by omega)
          have hK := ts_b w2 (show c < ln A by omega) (show d < ln A by omega) (tsd_G (by omega) (tsc_G (W := wt A) (m := ln A) c hc) d hd).1
          have ihd' := ihd (by omega)
          unfold tsd at ihd'
          rw [fx]
          cases hbit : (wt A c).testBit d with
          | false =>
            have e0 := hb_f hbit
            rw [hbit] at ihd'
            have := ihd' g' h1 hf
            rw [e0]
            repeat' (first | (with_reducible assumption) | apply And.intro | intro _)
            all_goals (first | omega | exact LLx_ok | assumption | skip)
          | true =>
            have e0 := hb_t hbit
            rw [hbit] at ihd'
            have := ihd' (jv_up g' 102 ((tsd (wt A) c (tsc (wt A) (ln A) c) d).1 : Nat) (10 * c + d)) (fun i hi => by
              have hi : i < (tsd (wt A) c (tsc (wt A) (ln A) c) d).1 + 1 := hi
              show _ = tn (if i = (tsd (wt A) c (tsc (wt A) (ln A) c) d).1 then (c, d) else (tsd (wt A) c (tsc (wt A) (ln A) c) d).2 i)
              by_cases he : i = (tsd (wt A) c (tsc (wt A) (ln A) c) d).1
              · rw [up_eq rfl (by omega), if_pos he]
                rfl
              · rw [up_ne (by omega), if_neg he]
                exact h1 i (by omega)) (fun p i hp => by rw [up_ne (by omega)]; exact hf p i hp)
            rw [e0]
            repeat' (first | (with_reducible assumption) | apply And.intro | intro _)
            all_goals (first | omega | exact LLx_ok | assumption | skip)
      exact ds 0 (by omega) g' h1 hf
  exact sg_M_gather_0 (A := A) (cs' 0 (by omega) g _ (fun i hi => absurd hi (Nat.not_lt_zero _)) (fun p i _ => rfl))
set_option maxRecDepth 100000 in
theorem sg_M_setTried_0 {A : jA} {n l : Nat} {g : jv_S} {Q : jv_V → jv_L → jv_S → Prop} {v1 v2 : Int} (h :
   (0 ≤ v1 ∧ v1 < 100) ∧
    (0 ≤ (g 102 v1) ∧ 0 < (10 : Int)) ∧
    (0 ≤ v1 ∧ v1 < 100) ∧
    (0 ≤ (g 102 v1) ∧ 0 < (10 : Int)) ∧
    jv_Ca jv_T jv_ml kWy_setBarred [jv_P 104, jv_I ((g 102 v1) / (10 : Int)), jv_I ((g 102 v1) % (10 : Int)), jv_I v2] (LL n l) g (fun r L2 g2 => jv_At jv_T jv_ml kM_setTried 26 [jv_P 101, jv_I v1, jv_I v2] (jv_pu r []) L2 g2 Q)) :
  jv_At jv_T jv_ml kM_setTried 0 [jv_P 101, jv_I v1, jv_I v2] [] (LL n l) g Q :=
  jv_of_wp (gok9 (A := A)) (md := []) (stop := []) (tab := jt_M_setTried) rfl 400 _ _ _ _ _ h
set_option maxRecDepth 100000 in
theorem sg_M_setTried_26 {A : jA} {n l : Nat} {g : jv_S} {Q : jv_V → jv_L → jv_S → Prop} {v1 v2 : Int} (h :
   Q jv_U (LL n l) g) :
  jv_At jv_T jv_ml kM_setTried 26 [jv_P 101, jv_I v1, jv_I v2] [] (LL n l) g Q :=
  jv_of_wp (gok9 (A := A)) (md := []) (stop := []) (tab := jt_M_setTried) rfl 400 _ _ _ _ _ h
theorem tr_M_setTried {A : jA} {n l : Nat} {g : jv_S} {Q : jv_V → jv_L → jv_S → Prop} {b : Nat → Nat} {i s : Nat} {v : Int} {q : Nat × Nat} (hN : CN (wb A b) g) (hW : CW 104 (wb A b) g) (hi : i < 100) (hc : g 102 i = tn q) (h1 : q.1 < ln A) (h2 : q.2 < 10) (hs : s < 1024) (hv : (v = 0 ∧ s = bd (b q.1) (2 ^ q.2)) ∨ (v = 1 ∧ s = b q.1 ||| 2 ^ q.2)) (hch : 0 ≤ g 104 5 ∧ g 104 5 < 2000000000)
  (hQ : ∀ g' : jv_S, CN (wb A (sb1 b q.1 s)) g' → CW 104 (wb A (sb1 b q.1 s)) g' → g' 104 5 = g 104 5 + 1 → (∀ (p : Nat) (i : Int), ¬ (p = 113 ∨ p = 105 ∨ (p = 104 ∧ i = 5)) → g' p i = g p i) → Q jv_U (LL n l) g') :
  jv_Ca jv_T jv_ml kM_setTried [jv_P 101, jv_I i, jv_I v] (LL n l) g Q := by
  have w2 : ln A ≤ 10 := hN.1.2.1
  apply sg_M_setTried_0 (A := A)
  have e1 : tn q / 10 = (q.1 : Int) := by unfold tn; omega
  have e2 : tn q % 10 = (q.2 : Int) := by unfold tn; omega
  have e3 : 0 ≤ tn q := by unfold tn; omega
  rw [hc, e1, e2]
  refine ⟨⟨by omega, by omega⟩, ⟨e3, by omega⟩, ⟨by omega, by omega⟩, ⟨e3, by omega⟩, ?_⟩
  have hbs : ∀ c, c < ln A → sb1 b q.1 s c < 1024 := by
    intro c hc
    unfold sb1
    split
    · exact hs
    · exact (hN.1.2.2.2.1 c hc).2.2.2.2.2
  refine tr_Wy_setBarred2 (A := wb A b) hN hW (c := q.1) (d := q.2) (s := s) h1 h2 hs hv hch (fun g' a1 a2 a3 => ?_)
  apply sg_M_setTried_26 (A := A)
  have e : wb (wb A b) (sb1 b q.1 s) = wb A (sb1 b q.1 s) := wb_wb
  have a1 : CW 104 (wb (wb A b) (sb1 b q.1 s)) g' := a1
  rw [e] at a1
  have hN' : CN (wb A (sb1 b q.1 s)) g' := by
    rw [← e]
    exact wb_CN (CN_fr hN (fun p i a b => a3 _ _ (by omega))) hbs
  exact hQ g' hN' a1 a2 a3
set_option maxRecDepth 100000 in
theorem sg_M_isFound_0 {A : jA} {n l : Nat} {g : jv_S} {Q : jv_V → jv_L → jv_S → Prop} {v1 v2 : Int} (h :
   jv_At jv_T jv_ml kM_isFound 2 [jv_P 101, jv_I v1, jv_I v2, jv_I (0 : Int), jv_U, jv_U] [] (LL n l) g Q) :
  jv_At jv_T jv_ml kM_isFound 0 [jv_P 101, jv_I v1, jv_I v2, jv_U, jv_U, jv_U] [] (LL n l) g Q :=
  jv_of_wp (gok9 (A := A)) (md := []) (stop := [2, 34]) (tab := jt_M_isFound) rfl 400 _ _ _ _ _ h
set_option maxRecDepth 100000 in
theorem sg_M_isFound_2 {A : jA} {n l : Nat} {g : jv_S} {Q : jv_V → jv_L → jv_S → Prop} {v1 v2 v3 : Int} {v4 v5 : jv_V} (h :
   (v2 ≤ v3 →
     ((0 : Int) = 0 ∨ (0 : Int) = 1) ∧ Q (jv_I (0 : Int)) (LL n l) g) ∧
    (¬ v2 ≤ v3 →
     jv_Ca jv_T jv_ml kM_setTried [jv_P 101, jv_I v3, jv_I (1 : Int)] (LL n l) g (fun r L2 g2 => jv_At jv_T jv_ml kM_isFound 13 [jv_P 101, jv_I v1, jv_I v2, jv_I v3, v4, v5] (jv_pu r []) L2 g2 Q))) :
  jv_At jv_T jv_ml kM_isFound 2 [jv_P 101, jv_I v1, jv_I v2, jv_I v3, v4, v5] [] (LL n l) g Q :=
  jv_of_wp (gok9 (A := A)) (md := []) (stop := [2, 34]) (tab := jt_M_isFound) rfl 400 _ _ _ _ _ h
set_option maxRecDepth 100000 in
theorem sg_M_isFound_13 {A : jA} {n l : Nat} {g : jv_S} {Q : jv_V → jv_L → jv_S → Prop} {v1 v2 v3 : Int} {v4 v5 : jv_V} (h :
   (v1 = (1 : Int) →
     jv_r32 (v3 + (1 : Int)) ∧
      jv_r32 (v3 + v1) ∧
      jv_r32 ((v3 + v1) - (1 : Int)) ∧
      jv_At jv_T jv_ml kM_isFound 34 [jv_P 101, jv_I v1, jv_I v2, jv_I v3, jv_I (v3 + (1 : Int)), jv_I ((v3 + v1) - (1 : Int))] [] (LL n l) g Q) ∧
    (¬ v1 = (1 : Int) →
     jv_r32 (v3 + v1) ∧
      jv_r32 ((v3 + v1) - (1 : Int)) ∧
      jv_At jv_T jv_ml kM_isFound 34 [jv_P 101, jv_I v1, jv_I v2, jv_I v3, jv_I v2, jv_I ((v3 + v1) - (1 : Int))] [] (LL n l) g Q)) :
  jv_At jv_T jv_ml kM_isFound 13 [jv_P 101, jv_I v1, jv_I v2, jv_I v3, v4, v5] [] (LL n l) g Q :=
  jv_of_wp (gok9 (A := A)) (md := []) (stop := [2, 34]) (tab := jt_M_isFound) rfl 400 _ _ _ _ _ h
set_option maxRecDepth 100000 in
theorem sg_M_isFound_34 {A : jA} {n l : Nat} {g : jv_S} {Q : jv_V → jv_L → jv_S → Prop} {v1 v2 v3 v4 v5 : Int} (h :
   (v4 ≤ v5 →
     jv_Ca jv_T jv_ml kM_setTried [jv_P 101, jv_I v3, jv_I (0 : Int)] (LL n l) g (fun r L2 g2 => jv_At jv_T jv_ml kM_isFound 104 [jv_P 101, jv_I v1, jv_I v2, jv_I v3, jv_I v4, jv_I v5] (jv_pu r []) L2 g2 Q)) ∧
    (¬ v4 ≤ v5 →
     jv_Ca jv_T jv_ml kM_setTried [jv_P 101, jv_I v5, jv_I (1 : Int)] (LL n l) g (fun r L2 g2 => jv_At jv_T jv_ml kM_isFound 48 [jv_P 101, jv_I v1, jv_I v2, jv_I v3, jv_I v4, jv_I v5] (jv_pu r []) L2 g2 Q))) :
  jv_At jv_T jv_ml kM_isFound 34 [jv_P 101, jv_I v1, jv_I v2, jv_I v3, jv_I v4, jv_I v5] [] (LL n l) g Q :=
  jv_of_wp (gok9 (A := A)) (md := []) (stop := [2, 34]) (tab := jt_M_isFound) rfl 400 _ _ _ _ _ h
set_option maxRecDepth 100000 in
theorem sg_M_isFound_48 {A : jA} {n l : Nat} {g : jv_S} {Q : jv_V → jv_L → jv_S → Prop} {v1 v2 v3 v4 v5 : Int} (h :
   jv_Ca jv_T jv_ml kWa_isSound [jv_P 124] (LL n l) g (fun r L2 g2 => jv_At jv_T jv_ml kM_isFound 55 [jv_P 101, jv_I v1, jv_I v2, jv_I v3, jv_I v4, jv_I v5] (jv_pu r []) L2 g2 Q)) :
  jv_At jv_T jv_ml kM_isFound 48 [jv_P 101, jv_I v1, jv_I v2, jv_I v3, jv_I v4, jv_I v5] [] (LL n l) g Q :=
  jv_of_wp (gok9 (A := A)) (md := []) (stop := [2, 34]) (tab := jt_M_isFound) rfl 400 _ _ _ _ _ h
set_option maxRecDepth 100000 in
theorem sg_M_isFound_55 {A : jA} {n l : Nat} {g : jv_S} {Q : jv_V → jv_L → jv_S → Prop} {v1 v2 v3 v4 v5 s0 : Int} (h :
   (s0 = 0 →
     jv_Ca jv_T jv_ml kM_setTried [jv_P 101, jv_I v5, jv_I (0 : Int)] (LL n l) g (fun r L2 g2 => jv_At jv_T jv_ml kM_isFound 92 [jv_P 101, jv_I v1, jv_I v2, jv_I v3, jv_I v4, jv_I v5] (jv_pu r []) L2 g2 Q)) ∧
    (¬ s0 = 0 →
     (0 ≤ v3 ∧ v3 < 100) ∧
      (0 ≤ (0 : Int) ∧ (0 : Int) < 2) ∧ 
      (0 ≤ v5 ∧ v5 < 100) ∧
      (0 ≤ (1 : Int) ∧ (1 : Int) < 2) ∧ 
      ((1 : Int) = 0 ∨ (1 : Int) = 1) ∧ Q (jv_I (1 : Int)) (LL n l) (jv_up (jv_up g 103 (0 : Int) (g 102 v3)) 103 (1 : Int) ((jv_up g 103 (0 : Int) (g 102 v3)) 102 v5)))) :
  jv_At jv_T jv_ml kM_isFound 55 [jv_P 101, jv_I v1, jv_I v2, jv_I v3, jv_I v4, jv_I v5] [jv_I s0] (LL n l) g Q :=
  jv_of_wp (gok9 (A := A)) (md := []) (stop := [2, 34]) (tab := jt_M_isFound) rfl 400 _ _ _ _ _ h
set_option maxRecDepth 100000 in
theorem sg_M_isFound_92 {A : jA} {n l : Nat} {g : jv_S} {Q : jv_V → jv_L → jv_S → Prop} {v1 v2 v3 v4 v5 : Int} (h :
   jv_r32 (v5 + (1 : Int)) ∧
    jv_At jv_T jv_ml kM_isFound 34 [jv_P 101, jv_I v1, jv_I v2, jv_I v3, jv_I v4, jv_I (v5 + (1 : Int))] [] (LL n l) g Q) :
  jv_At jv_T jv_ml kM_isFound 92 [jv_P 101, jv_I v1, jv_I v2, jv_I v3, jv_I v4, jv_I v5] [] (LL n l) g Q :=
  jv_of_wp (gok9 (A := A)) (md := []) (stop := [2, 34]) (tab := jt_M_isFound) rfl 400 _ _ _ _ _ h
set_option maxRecDepth 100000 in
theorem sg_M_isFound_104 {A : jA} {n l : Nat} {g : jv_S} {Q : jv_V → jv_L → jv_S → Prop} {v1 v2 v3 v4 v5 : Int} (h :
   jv_r32 (v3 + (1 : Int)) ∧
    jv_At jv_T jv_ml kM_isFound 2 [jv_P 101, jv_I v1, jv_I v2, jv_I (v3 + (1 : Int)), jv_I v4, jv_I v5] [] (LL n l) g Q) :
  jv_At jv_T jv_ml kM_isFound 104 [jv_P 101, jv_I v1, jv_I v2, jv_I v3, jv_I v4, jv_I v5] [] (LL n l) g Q :=
  jv_of_wp (gok9 (A := A)) (md := []) (stop := [2, 34]) (tab := jt_M_isFound) rfl 400 _ _ _ _ _ h
/-- what the class's search leaves alone -/
def mF (g g' : jv_S) : Prop := ∀ (p : Nat) (i : Int), ¬ (p = 113 ∨ p = 105 ∨ p = 106 ∨ p = 104 ∨ p = 103 ∨ (124 ≤ p ∧ p ≤ 130)) → g' p i = g p i
theorem tr_M_isFound {A : jA} {n l : Nat} {g : jv_S} {Q : jv_V → jv_L → jv_S → Prop} {hM : Nat} (hN : CN A g) (hW : CW 104 A g) (hh : hM = 1 ∨ hM = 2) (hT : ∀ i : Nat, i < (TS A).1 → g 102 i = tn ((TS A).2 i)) (hch : 0 ≤ g 104 5 ∧ g 104 5 < 1000000000)
  (hQ0 : ∀ g' : jv_S, (hM = 1 → ∀ j, j < (TS A).1 → M1 A j = false) → (hM = 2 → ∀ i j, i < j → j < (TS A).1 → M2 A i j = false) → CN A g' → CW 104 A g' → 0 ≤ g' 104 5 → g' 104 5 ≤ g 104 5 + 30000 → mF g g' → Q (jv_I 0) (LL n l) g')
  (hQ1 : ∀ (g' : jv_S) (a b : Nat), (hM = 1 → a < (TS A).1 ∧ M1 A a = true ∧ ∀ j, j < a → M1 A j = false) → (hM = 2 → a < b ∧ b < (TS A).1 ∧ M2 A a b = true ∧ (∀ i j, i < a → i < j → j < (TS A).1 → M2 A i j = false) ∧ ∀ j, a < j → j < b → M2 A a j = false) → g' 103 0 = tn ((TS A).2 a) → (hM = 2 → g' 103 1 = tn ((TS A).2 b)) → 0 ≤ g' 104 5 → g' 104 5 ≤ g 104 5 + 30000 → mF g g' → Q (jv_I 1) (LL n l) g') :
  jv_Ca jv_T jv_ml kM_isFound [jv_P 101, jv_I hM, jv_I ((TS A).1 : Nat)] (LL n l) g Q := by
  have hw := hN.1
  have w2 := hw.2.1
  obtain ⟨t1, t2, t3⟩ := TS_G hw
  have hbl : ∀ c, c < ln A → ba A c < 1024 := fun c hc => (hw.2.2.2.1 c hc).2.2.2.2.2
  have hnb : ∀ i, i < (TS A).1 → (ba A ((TS A).2 i).1).testBit ((TS A).2 i).2 = false := fun i hi => wt_nb (Nat.lt_of_lt_of_le (t2 i hi).1 w2) (t2 i hi).2.2
  have hT' : ∀ g' : jv_S, mF g g' → ∀ i : Nat, i < (TS A).1 → g' 102 i = tn ((TS A).2 i) := fun g' hf i hi => by rw [hf _ _ (by omega)]; exact hT i hi
  have hq2 : ∀ i, i < (TS A).1 → ((TS A).2 i).2 < 10 := fun i hi => Nat.lt_of_lt_of_le (t2 i hi).2.1 w2
  have hb1l : ∀ t, t < (TS A).1 → ∀ c, c < ln A → b1 A t c < 1024 := fun t ht => xb_lt hbl (hq2 t ht)
  have main : ∀ a, a ≤ (TS A).1 → ∀ (g' : jv_S) (v w : jv_V), (hM = 1 → ∀ j, j < a → M1 A j = false) → (hM = 2 → ∀ i j, i < a → i < j → j < (TS A).1 → M2 A i j = false) → CN A g' → CW 104 A g' → 0 ≤ g' 104 5 → g' 104 5 ≤ g 104 5 + 300 * a → mF g g' → jv_At jv_T jv_ml kM_isFound 2 [jv_P 101, jv_I hM, jv_I ((TS A).1 : Nat), jv_I a, v, w] [] (LL n l) (g') Q := by
    apply loop_up
    intro a ha ih g' v w p1 p2 c1 c2 c3 c4 hf
    apply sg_M_isFound_2 (A := A)
    refine ⟨fun h => ⟨Or.inl rfl, hQ0 g' (fun h1 j hj => p1 h1 j (by omega)) (fun h1 i j hij hj => p2 h1 i j (by omega) hij hj) c1 c2 c3 (by omega) hf⟩, fun h => ?_⟩
    have ha' : a < (TS A).1 := by omega
    have c1' : CN (wb A (ba A)) g' := by rw [wb_self]; exact c1
    have c2' : CW 104 (wb A (ba A)) g' := by rw [wb_self]; exact c2
    have eor := or_xor (hnb a ha')
    have l1 : ba A ((TS A).2 a).1 ||| 2 ^ ((TS A).2 a).2 < 1024 := Nat.or_lt_two_pow (n := 10) (hbl _ (t2 a ha').1) (Nat.pow_lt_pow_right (by decide) (hq2 a ha'))
    have bit1 : (b1 A a ((TS A).2 a).1).testBit ((TS A).2 a).2 = true := by unfold b1; rw [xb_bit, hnb a ha', decide_eq_true rfl]; rfl
    refine tr_M_setTried c1' c2' (by omega) (hT' g' hf a ha') (t2 a ha').1 (hq2 a ha') l1 (Or.inr ⟨rfl, rfl⟩) ⟨c3, by omega⟩ (fun g1 a1 a2 a3 a4 => ?_)
    rw [sb1_xb eor] at a1 a2
    have a1 : CN (wb A (b1 A a)) g1 := a1
    have a2 : CW 104 (wb A (b1 A a)) g1 := a2
    have hf1 : mF g g1 := fun p i hp => by rw [a4 _ _ (by omega)]; exact hf p i hp
    -- the end of a's turn
    have fin : ∀ (g2 : jv_S) (v4 v5 : Int), CN (wb A (b1 A a)) g2 → CW 104 (wb A (b1 A a)) g2 → 0 ≤ g2 104 5 → g2 104 5 ≤ g 104 5 + 300 * a + 299 → mF g g2 → (hM = 1 → M1 A a = false) → (hM = 2 → ∀ j, a < j → j < (TS A).1 → M2 A a j = false) → jv_Ca jv_T jv_ml kM_setTried [jv_P 101, jv_I (a : Int), jv_I (0 : Int)] (LL n l) g2 (fun r L2 g2 => jv_At jv_T jv_ml kM_isFound 104 [jv_P 101, jv_I (hM : Int), jv_I ((TS A).1 : Nat), jv_I (a : Int), jv_I v4, jv_I v5] (jv_pu r []) L2 g2 Q) := by
      intro g2 v4 v5 e1 e2 e3 e4 hf2 n1 n2
      refine tr_M_setTried e1 e2 (by omega) (hT' g2 hf2 a ha') (t2 a ha').1 (hq2 a ha') (s := bd (b1 A a ((TS A).2 a).1) (2 ^ ((TS A).2 a).2)) (bd_lt (m := 10) (hb1l a ha' _ (t2 a ha').1)) (Or.inl ⟨rfl, rfl⟩) ⟨e3, by omega⟩ (fun g3 d1 d2 d3 d4 => ?_)
      rw [sb1_xb (bd_xor bit1), show xb (b1 A a) ((TS A).2 a) = ba A from xb_xb, wb_self] at d1 d2
      apply sg_M_isFound_104 (A := A)
      refine ⟨⟨by omega, by omega⟩, ih (by omega) g3 _ _ (fun h1 j hj => ?_) (fun h1 i j hi hij hj => ?_) d1 d2 (by omega) (by omega) (fun p i hp => by rw [d4 _ _ (by omega)]; exact hf2 p i hp)⟩
      · by_cases hja : j = a
        · subst hja; exact n1 h1
        · exact p1 h1 j (by omega)
      · by_cases hja : i = a
        · subst hja; exact n2 h1 j hij hj
        · exact p2 h1 i j (by omega) hij hj
    apply sg_M_isFound_13 (A := A)
    rcases hh with h1 | h1
    · subst h1
      refine ⟨fun _ => ⟨⟨by omega, by omega⟩, ⟨by omega, by omega⟩, ⟨by omega, by omega⟩, ?_⟩, fun h => by omega⟩
      apply sg_M_isFound_34 (A := A)
      rw [show (a : Int) + ((1 : Nat) : Int) - 1 = a by omega]
      refine ⟨fun h => by omega, fun _ => ?_⟩
      have es : b1 A a ((TS A).2 a).1 ||| 2 ^ ((TS A).2 a).2 = b1 A a ((TS A).2 a).1 := or_same bit1
      refine tr_M_setTried (s := b1 A a ((TS A).2 a).1 ||| 2 ^ ((TS A).2 a).2) a1 a2 (by omega) (hT' g1 hf1 a ha') (t2 a ha').1 (hq2 a ha') (by rw [es]; exact hb1l a ha' _ (t2 a ha').1) (Or.inr ⟨rfl, rfl⟩) ⟨by omega, by omega⟩ (fun g2 e1 e2 e3 e4 => ?_)
      rw [sb1_self es] at e1 e2
      have hf2 : mF g g2 := fun p i hp => by rw [e4 _ _ (by omega)]; exact hf1 p i hp
      apply sg_M_isFound_48 (A := A)
      refine tr_Wa_isSound e1 e2 (fun g3 k3 => ?_)
      have k1 : CN (wb A (b1 A a)) g3 := CN_fr e1 (fun p i a b => k3 _ _ (by omega))
      have k2 : CW 104 (wb A (b1 A a)) g3 := CW_fr e2 (k3 _ _ (by decide)) (fun i => k3 _ _ (by decide)) (fun i => k3 _ _ (by decide)) (fun i => k3 _ _ (by decide))
      have k5 : g3 104 5 = g2 104 5 := k3 _ _ (by decide)
      have hf3 : mF g g3 := fun p i hp => by rw [k3 _ _ (by omega)]; exact hf2 p i hp
      apply sg_M_isFound_55 (A := A)
      refine ⟨fun h => ?_, fun h => ⟨⟨by omega, by omega⟩, ⟨by omega, by omega⟩, ⟨by omega, by omega⟩, ⟨by omega, by omega⟩, Or.inr rfl, ?_⟩⟩
      · rw [jb0] at h
        refine tr_M_setTried k1 k2 (by omega) (hT' g3 hf3 a ha') (t2 a ha').1 (hq2 a ha') (s := bd (b1 A a ((TS A).2 a).1) (2 ^ ((TS A).2 a).2)) (bd_lt (m := 10) (hb1l a ha' _ (t2 a ha').1)) (Or.inl ⟨rfl, rfl⟩) ⟨by omega, by omega⟩ (fun g4 d1 d2 d3 d4 => ?_)
        rw [sb1_xb (bd_xor bit1), show xb (b1 A a) ((TS A).2 a) = ba A from xb_xb] at d1 d2
        have hf4 : mF g g4 := fun p i hp => by rw [d4 _ _ (by omega)]; exact hf3 p i hp
        apply sg_M_isFound_92 (A := A)
        refine ⟨⟨by omega, by omega⟩, ?_⟩
        apply sg_M_isFound_34 (A := A)
        refine ⟨fun _ => ?_, fun h => by omega⟩
        refine tr_M_setTried d1 d2 (by omega) (hT' g4 hf4 a ha') (t2 a ha').1 (hq2 a ha') (s := bd (ba A ((TS A).2 a).1) (2 ^ ((TS A).2 a).2)) (bd_lt (m := 10) (hbl _ (t2 a ha').1)) (Or.inl ⟨rfl, rfl⟩) ⟨by omega, by omega⟩ (fun g5 m1 m2 m3 m4 => ?_)
        rw [sb1_self (bd_same (hnb a ha')), wb_self] at m1 m2
        apply sg_M_isFound_104 (A := A)
        refine ⟨⟨by omega, by omega⟩, ih (by omega) g5 _ _ (fun _ j hj => ?_) (fun h => by omega) m1 m2 (by omega) (by omega) (fun p i hp => by rw [m4 _ _ (by omega)]; exact hf4 p i hp)⟩
        by_cases hja : j = a
        · subst hja; exact h
        · exact p1 rfl j (by omega)
      · rw [jbn] at h
        refine hQ1 _ a a (fun _ => ⟨ha', h, p1 rfl⟩) (fun h => by omega) ?_ (fun h => by omega) ?_ ?_ (fun p i hp => ?_)
        · rw [up_ne (by decide), up_eq rfl rfl]; exact hT' g3 hf3 a ha'
        · rw [up_ne (by decide), up_ne (by decide)]; omega
        · rw [up_ne (by decide), up_ne (by decide)]; omega
        · rw [up_ne (by omega), up_ne (by omega)]; exact hf3 p i hp
    · subst h1
      refine ⟨fun h => by omega, fun _ => ⟨⟨by omega, by omega⟩, ⟨by omega, by omega⟩, ?_⟩⟩
      rw [show (a : Int) + ((2 : Nat) : Int) - 1 = ((a + 1 : Nat) : Int) by omega]
      have inner : ∀ b, b ≤ (TS A).1 → a < b → ∀ g2 : jv_S, CN (wb A (b1 A a)) g2 → CW 104 (wb A (b1 A a)) g2 → 0 ≤ g2 104 5 → g2 104 5 ≤ g 104 5 + 300 * a + 1 + 2 * b → mF g g2 → (∀ j, a < j → j < b → M2 A a j = false) → jv_At jv_T jv_ml kM_isFound 34 [jv_P 101, jv_I ((2 : Nat) : Int), jv_I ((TS A).1 : Nat), jv_I a, jv_I ((TS A).1 : Nat), jv_I b] [] (LL n l) g2 Q := by
        apply loop_up
        intro b hb ihb hab g2 e1 e2 e3 e4 hf2 hno
        apply sg_M_isFound_34 (A := A)
        refine ⟨fun h => fin g2 _ _ e1 e2 e3 (by omega) hf2 (fun h => by omega) (fun _ j hj hj2 => hno j hj (by omega)), fun h => ?_⟩
        have hb' : b < (TS A).1 := by omega
        have nb : (b1 A a ((TS A).2 b).1).testBit ((TS A).2 b).2 = false := by
          unfold b1
          rw [xb_bit, hnb b hb', decide_eq_false (t3 a b hab hb')]
          rfl
        have bit2 : (b2 A a b ((TS A).2 b).1).testBit ((TS A).2 b).2 = true := by unfold b2; rw [xb_bit, nb, decide_eq_true rfl]; rfl
        have hb2l : ∀ c, c < ln A → b2 A a b c < 1024 := xb_lt (hb1l a ha') (hq2 b hb')
        refine tr_M_setTried (s := b1 A a ((TS A).2 b).1 ||| 2 ^ ((TS A).2 b).2) e1 e2 (by omega) (hT' g2 hf2 b hb') (t2 b hb').1 (hq2 b hb') (Nat.or_lt_two_pow (n := 10) (hb1l a ha' _ (t2 b hb').1) (Nat.pow_lt_pow_right (by decide) (hq2 b hb'))) (Or.inr ⟨rfl, rfl⟩) ⟨by omega, by omega⟩ (fun g3 d1 d2 d3 d4 => ?_)
        rw [sb1_xb (or_xor nb)] at d1 d2
        have hf3 : mF g g3 := fun p i hp => by rw [d4 _ _ (by omega)]; exact hf2 p i hp
        apply sg_M_isFound_48 (A := A)
        refine tr_Wa_isSound d1 d2 (fun g4 k3 => ?_)
        have k1 : CN (wb A (b2 A a b)) g4 := CN_fr d1 (fun p i a b => k3 _ _ (by omega))
        have k2 : CW 104 (wb A (b2 A a b)) g4 := CW_fr d2 (k3 _ _ (by decide)) (fun i => k3 _ _ (by decide)) (fun i => k3 _ _ (by decide)) (fun i => k3 _ _ (by decide))
        have k5 : g4 104 5 = g3 104 5 := k3 _ _ (by decide)
        have hf4 : mF g g4 := fun p i hp => by rw [k3 _ _ (by omega)]; exact hf3 p i hp
        apply sg_M_isFound_55 (A := A)
        refine ⟨fun h => ?_, fun h => ⟨⟨by omega, by omega⟩, ⟨by omega, by omega⟩, ⟨by omega, by omega⟩, ⟨by omega, by omega⟩, Or.inr rfl, ?_⟩⟩
        · rw [jb0] at h
          refine tr_M_setTried k1 k2 (by omega) (hT' g4 hf4 b hb') (t2 b hb').1 (hq2 b hb') (s := bd (b2 A a b ((TS A).2 b).1) (2 ^ ((TS A).2 b).2)) (bd_lt (m := 10) (hb2l _ (t2 b hb').1)) (Or.inl ⟨rfl, rfl⟩) ⟨by omega, by omega⟩ (fun g5 m1 m2 m3 m4 => ?_)
          rw [sb1_xb (bd_xor bit2), show xb (b2 A a b) ((TS A).2 b) = b1 A a from xb_xb] at m1 m2
          apply sg_M_isFound_92 (A := A)
          refine ⟨⟨by omega, by omega⟩, ihb (by omega) (by omega) g5 m1 m2 (by omega) (by omega) (fun p i hp => by rw [m4 _ _ (by omega)]; exact hf4 p i hp) (fun j hj hj2 => ?_)⟩
          by_cases hjb : j = b
          · subst hjb; exact h
          · exact hno j hj (by omega)
        · rw [jbn] at h
          refine hQ1 _ a b (fun h => by omega) (fun _ => ⟨hab, hb', h, p2 rfl, hno⟩) ?_ (fun _ => ?_) ?_ ?_ (fun p i hp => ?_)
          · rw [up_ne (by decide), up_eq rfl rfl]; exact hT' g4 hf4 a ha'
          · rw [up_eq rfl rfl, up_ne (by omega)]; exact hT' g4 hf4 b hb'
          · rw [up_ne (by decide), up_ne (by decide)]; omega
          · rw [up_ne (by decide), up_ne (by decide)]; omega
          · rw [up_ne (by omega), up_ne (by omega)]; exact hf4 p i hp
      exact inner (a + 1) (by omega) (by omega) g1 a1 a2 (by omega) (by omega) hf1 (fun j hj hj2 => by omega)
  exact sg_M_isFound_0 (A := A) (main 0 (by omega) g _ _ (fun _ j hj => by omega) (fun _ i j hi => by omega) hN hW hch.1 (by omega) (fun p i _ => rfl))
/-- what the class has found of mends is so -/
def MK (A : jA) (g : jv_S) : Prop := ∃ (cnt : Int) (a b : Nat), MSp A cnt a b ∧ g 101 7 = cnt ∧ (1 ≤ cnt → g 103 0 = tn ((TS A).2 a)) ∧ (cnt = 2 → g 103 1 = tn ((TS A).2 b))
set_option maxRecDepth 100000 in
theorem sg_M_work_0 {A : jA} {n l : Nat} {g : jv_S} {Q : jv_V → jv_L → jv_S → Prop} (h :
   ((g 101 8) = (g 40 5) →
     Q jv_U (LL n l) g) ∧
    (¬ (g 101 8) = (g 40 5) →
     jv_Ca jv_T jv_ml kWa_work [jv_P 60] (LL n l) (jv_up g 101 8 (g 40 5)) (fun r L2 g2 => jv_At jv_T jv_ml kM_work 33 [jv_P 101, jv_U, jv_U] (jv_pu r []) L2 g2 Q))) :
  jv_At jv_T jv_ml kM_work 0 [jv_P 101, jv_U, jv_U] [] (LL n l) g Q :=
  jv_of_wp (gok9 (A := A)) (md := []) (stop := [81]) (tab := jt_M_work) rfl 400 _ _ _ _ _ h
set_option maxRecDepth 100000 in
theorem sg_M_work_33 {A : jA} {n l : Nat} {g : jv_S} {Q : jv_V → jv_L → jv_S → Prop} {v1 v2 : jv_V} (h :
   jv_Ca jv_T jv_ml kWy_takeFrom [jv_P 104, jv_P 40] (LL n l) g (fun r L2 g2 => jv_At jv_T jv_ml kM_work 44 [jv_P 101, v1, v2] (jv_pu r []) L2 g2 Q)) :
  jv_At jv_T jv_ml kM_work 33 [jv_P 101, v1, v2] [] (LL n l) g Q :=
  jv_of_wp (gok9 (A := A)) (md := []) (stop := [81]) (tab := jt_M_work) rfl 400 _ _ _ _ _ h
set_option maxRecDepth 100000 in
theorem sg_M_work_44 {A : jA} {n l : Nat} {g : jv_S} {Q : jv_V → jv_L → jv_S → Prop} {v1 v2 : jv_V} (h :
   jv_Ca jv_T jv_ml kM_gather [jv_P 101] (LL n l) g (fun r L2 g2 => jv_At jv_T jv_ml kM_work 48 [jv_P 101, v1, v2] (jv_pu r []) L2 g2 Q)) :
  jv_At jv_T jv_ml kM_work 44 [jv_P 101, v1, v2] [] (LL n l) g Q :=
  jv_of_wp (gok9 (A := A)) (md := []) (stop := [81]) (tab := jt_M_work) rfl 400 _ _ _ _ _ h
set_option maxRecDepth 100000 in
theorem sg_M_work_48 {A : jA} {n l : Nat} {g : jv_S} {Q : jv_V → jv_L → jv_S → Prop} {s0 : Int} {v1 v2 : jv_V} (h :
   ((g 60 8) = 0 →
     jv_At jv_T jv_ml kM_work 81 [jv_P 101, jv_I s0, jv_I (1 : Int)] [] (LL n l) (jv_up g 101 7 (-9 : Int)) Q) ∧
    (¬ (g 60 8) = 0 →
     ((g 60 9) = 0 →
       jv_At jv_T jv_ml kM_work 81 [jv_P 101, jv_I s0, jv_I (1 : Int)] [] (LL n l) (jv_up g 101 7 (0 : Int)) Q) ∧
      (¬ (g 60 9) = 0 →
       jv_At jv_T jv_ml kM_work 81 [jv_P 101, jv_I s0, jv_I (1 : Int)] [] (LL n l) (jv_up g 101 7 (-9 : Int)) Q))) :
  jv_At jv_T jv_ml kM_work 48 [jv_P 101, v1, v2] [jv_I s0] (LL n l) g Q :=
  jv_of_wp (gok9 (A := A)) (md := []) (stop := [81]) (tab := jt_M_work) rfl 400 _ _ _ _ _ h
set_option maxRecDepth 100000 in
theorem sg_M_work_81 {A : jA} {n l : Nat} {g : jv_S} {Q : jv_V → jv_L → jv_S → Prop} {v1 v2 : Int} (h :
   ((2 : Int) < v2 →
     Q jv_U (LL n l) g) ∧
    (¬ (2 : Int) < v2 →
     ((g 101 7) = (-9 : Int) →
       jv_Ca jv_T jv_ml kM_isFound [jv_P 101, jv_I v2, jv_I v1] (LL n l) g (fun r L2 g2 => jv_At jv_T jv_ml kM_work 101 [jv_P 101, jv_I v1, jv_I v2] (jv_pu r []) L2 g2 Q)) ∧
      (¬ (g 101 7) = (-9 : Int) →
       Q jv_U (LL n l) g))) :
  jv_At jv_T jv_ml kM_work 81 [jv_P 101, jv_I v1, jv_I v2] [] (LL n l) g Q :=
  jv_of_wp (gok9 (A := A)) (md := []) (stop := [81]) (tab := jt_M_work) rfl 400 _ _ _ _ _ h
set_option maxRecDepth 100000 in
theorem sg_M_work_101 {A : jA} {n l : Nat} {g : jv_S} {Q : jv_V → jv_L → jv_S → Prop} {v1 v2 s0 : Int} (h :
   (s0 = 0 →
     jv_r32 (v2 + (1 : Int)) ∧
      jv_At jv_T jv_ml kM_work 81 [jv_P 101, jv_I v1, jv_I (v2 + (1 : Int))] [] (LL n l) g Q) ∧
    (¬ s0 = 0 →
     jv_r32 (v2 + (1 : Int)) ∧
      jv_At jv_T jv_ml kM_work 81 [jv_P 101, jv_I v1, jv_I (v2 + (1 : Int))] [] (LL n l) (jv_up g 101 7 v2) Q)) :
  jv_At jv_T jv_ml kM_work 101 [jv_P 101, jv_I v1, jv_I v2] [jv_I s0] (LL n l) g Q :=
  jv_of_wp (gok9 (A := A)) (md := []) (stop := [81]) (tab := jt_M_work) rfl 400 _ _ _ _ _ h
theorem tr_M_work {A : jA} {n l : Nat} {g : jv_S} {Q : jv_V → jv_L → jv_S → Prop} (hN : CN A g) (hW : CW 40 A g) (hk : g 60 10 = g 40 5 → WK A g) (hmk : g 101 8 = g 40 5 → MK A g) (hch : 0 ≤ g 104 5 ∧ g 104 5 < 900000000)
  (hQ : ∀ (g' : jv_S), MK A g' → g' 101 8 = g 40 5 → (g' 60 10 = g 40 5 → WK A g') → (g' 60 10 = g 60 10 ∨ g' 60 10 = g 40 5) → 0 ≤ g' 104 5 → g' 104 5 ≤ g 104 5 + 70000 → (∀ (p : Nat) (i : Int), ¬ ((60 ≤ p ∧ p ≤ 66) ∨ (101 ≤ p ∧ p ≤ 130)) → g' p i = g p i) → Q jv_U (LL n l) g') :
  jv_Ca jv_T jv_ml kM_work [jv_P 101] (LL n l) g Q := by
  have hw := hN.1
  apply sg_M_work_0 (A := A)
  refine ⟨fun h => hQ g (hmk h) h hk (Or.inl rfl) hch.1 (by omega) (fun _ _ _ => rfl), fun h => ?_⟩
  have hN1 : CN A (jv_up g 101 8 (g 40 5)) := CN_fr hN (fun p i a b => up_ne (by omega))
  have hW1 : CW 40 A (jv_up g 101 8 (g 40 5)) := CW_fr hW (up_ne (by decide)) (fun i => up_ne (by omega)) (fun i => up_ne (by omega)) (fun i => up_ne (by omega))
  have frW : ∀ (g g' : jv_S), (∀ (p : Nat) (i : Int), 60 ≤ p → p ≤ 66 → g' p i = g p i) → WK A g → WK A g' := by
    intro g g' hf ⟨k1, k2, k3, k4, k5⟩
    refine ⟨fun y hy => by rw [hf _ _ (by decide) (by decide)]; exact k1 y hy, fun c hc => by rw [hf _ _ (by decide) (by decide)]; exact k2 c hc, by rw [hf _ _ (by decide) (by decide)]; exact k3, ?_, fun h c hc => by rw [hf _ _ (by decide) (by decide)] at h ⊢; exact k5 h c hc⟩
    rcases k4 with ⟨a1, a2⟩ | ⟨L, s, a1, a2, a3, a4, a5, a6⟩
    · exact Or.inl ⟨by rw [hf _ _ (by decide) (by decide)]; exact a1, a2⟩
    · exact Or.inr ⟨L, s, by rw [hf _ _ (by decide) (by decide)]; exact a1, a2, a3, a4, a5, fun i hi => by rw [hf _ _ (by decide) (by decide)]; exact a6 i hi⟩
  refine tr_Wa_work hN1 hW1 (fun h2 => frW g _ (fun p i a b => up_ne (by omega)) (hk (by rw [up_ne (by decide), up_ne (by decide)] at h2; exact h2))) (fun g1 k1 k2 k3 => ?_)
  apply sg_M_work_33 (A := A)
  have c5 : g1 104 5 = g 104 5 := by rw [k3 _ _ (by decide), up_ne (by decide)]
  refine tr_Wy_takeFrom (CN_fr hN1 (fun p i a b => k3 _ _ (by omega))) (CW_fr hW1 (k3 _ _ (by decide)) (fun i => k3 _ _ (by decide)) (fun i => k3 _ _ (by decide)) (fun i => k3 _ _ (by decide))) (by omega) (fun g2 t1 t2 t3 => ?_)
  have hf2 : ∀ (p : Nat) (i : Int), ¬ ((60 ≤ p ∧ p ≤ 66) ∨ (101 ≤ p ∧ p ≤ 130)) → g2 p i = g p i := fun p i hp => by rw [t3 _ _ (by omega), k3 _ _ (by omega), up_ne (by omega)]
  have hN2 : CN A g2 := CN_fr hN (fun p i a b => hf2 _ _ (by omega))
  have wk2 : WK A g2 := frW g1 g2 (fun p i a b => t3 _ _ (by omega)) k1
  apply sg_M_work_44 (A := A)
  refine tr_M_gather hw hN2.2.2.1 wk2.2.1 (fun g3 m1 m2 => ?_)
  have hN3 : CN A g3 := CN_fr hN2 (fun p i a b => m2 _ _ (by omega))
  have hW3 : CW 104 A g3 := CW_fr t1 (m2 _ _ (by decide)) (fun i => m2 _ _ (by decide)) (fun i => m2 _ _ (by decide)) (fun i => m2 _ _ (by decide))
  have wk3 : WK A g3 := frW g2 g3 (fun p i a b => m2 _ _ (by omega)) wk2
  have c6 : g3 104 5 = g 104 5 + 1 := by rw [m2 _ _ (by decide), t2, c5]
  have c7 : g3 101 8 = g 40 5 := by rw [m2 _ _ (by decide), t3 _ _ (by decide), k3 _ _ (by decide), up_eq rfl rfl]
  have c8 : g3 60 10 = g 40 5 := by rw [m2 _ _ (by decide), t3 _ _ (by decide), k2, up_ne (by decide)]
  have hf3 : ∀ (p : Nat) (i : Int), ¬ ((60 ≤ p ∧ p ≤ 66) ∨ (101 ≤ p ∧ p ≤ 130)) → g3 p i = g p i := fun p i hp => by rw [m2 _ _ (by omega)]; exact hf2 p i hp
  have hsd : sd A = (su A && decide (kG A = 0)) := rfl
  have wk3' := wk3
  obtain ⟨-, -, w8, wR, -⟩ := wk3'
  have wR0 : g3 60 9 = 0 ↔ kG A = 0 := by
    rcases wR with ⟨a1, a2⟩ | ⟨L, s, a1, a2, a3, a4, -⟩
    · exact ⟨fun _ => a2, fun _ => a1⟩
    · exact ⟨fun h => by omega, fun h => absurd h a4⟩
  -- done: the count stands
  have done : ∀ (g4 : jv_S) (cnt : Int) (a b : Nat), MSp A cnt a b → g4 101 7 = cnt → (1 ≤ cnt → g4 103 0 = tn ((TS A).2 a)) → (cnt = 2 → g4 103 1 = tn ((TS A).2 b)) → 0 ≤ g4 104 5 → g4 104 5 ≤ g 104 5 + 70000 → (∀ (p : Nat) (i : Int), ¬ (101 ≤ p ∧ p ≤ 130) → g4 p i = g3 p i) → g4 101 8 = g 40 5 → Q jv_U (LL n l) g4 := by
    intro g4 cnt a b s1 s2 s3 s4 s5 s6 s7 s8
    exact hQ g4 ⟨cnt, a, b, s1, s2, s3, s4⟩ s8 (fun _ => frW g3 g4 (fun p i a b => s7 _ _ (by omega)) wk3) (Or.inr (by rw [s7 _ _ (by decide)]; exact c8)) s5 s6 (fun p i hp => by rw [s7 _ _ (by omega)]; exact hf3 p i hp)
  have search : sd A = false → ∀ v2 : Int, v2 = 1 → jv_At jv_T jv_ml kM_work 81 [jv_P 101, jv_I ((TS A).1 : Nat), jv_I v2] [] (LL n l) (jv_up g3 101 7 (-9)) Q := by
    intro hs v2 hv2
    subst hv2
    apply sg_M_work_81 (A := A)
    refine ⟨fun h => by omega, fun _ => ⟨fun _ => ?_, fun h => absurd (up_eq rfl rfl) h⟩⟩
    have u5 : jv_up g3 101 7 (-9) 104 5 = g 104 5 + 1 := by rw [up_ne (by decide)]; exact c6
    refine tr_M_isFound (hM := 1) (CN_fr hN3 (fun p i a b => up_ne (by omega))) (CW_fr hW3 (up_ne (by decide)) (fun i => up_ne (by omega)) (fun i => up_ne (by omega)) (fun i => up_ne (by omega))) (Or.inl rfl) (fun i hi => by rw [up_ne (by omega)]; exact m1 i hi) (by omega) (fun g4 n1 _ d1 d2 d3 d4 d5 => ?_) (fun g4 a b n1 _ n3 _ d3 d4 d5 => ?_)
    · apply sg_M_work_101 (A := A)
      refine ⟨fun _ => ⟨⟨by omega, by omega⟩, ?_⟩, fun h => absurd rfl h⟩
      have e7 : g4 101 7 = -9 := by rw [d5 _ _ (by omega), up_eq rfl rfl]
      apply sg_M_work_81 (A := A)
      refine ⟨fun h => by omega, fun _ => ⟨fun _ => ?_, fun h => absurd e7 h⟩⟩
      refine tr_M_isFound (hM := 2) d1 d2 (Or.inr rfl) (fun i hi => by rw [d5 _ _ (by omega), up_ne (by omega)]; exact m1 i hi) (by omega) (fun g5 _ q1 f1 f2 f3 f4 f5 => ?_) (fun g5 a b _ q1 q3 q4 f3 f4 f5 => ?_)
      · apply sg_M_work_101 (A := A)
        refine ⟨fun _ => ⟨⟨by omega, by omega⟩, ?_⟩, fun h => absurd rfl h⟩
        apply sg_M_work_81 (A := A)
        refine ⟨fun _ => ?_, fun h => by omega⟩
        exact done g5 (-9) 0 0 (Or.inr (Or.inr (Or.inr ⟨hs, n1 rfl, q1 rfl, rfl⟩))) (by rw [f5 _ _ (by omega)]; exact e7) (fun h => by omega) (fun h => by omega) f3 (by omega) (fun p i hp => by rw [f5 _ _ (by omega), d5 _ _ (by omega), up_ne (by omega)]) (by rw [f5 _ _ (by omega), d5 _ _ (by omega), up_ne (by omega)]; exact c7)
      · apply sg_M_work_101 (A := A)
        refine ⟨fun h => by omega, fun _ => ⟨⟨by omega, by omega⟩, ?_⟩⟩
        apply sg_M_work_81 (A := A)
        refine ⟨fun _ => ?_, fun h => by omega⟩
        obtain ⟨z1, z2, z3, z4, z5⟩ := q1 rfl
        exact done _ 2 a b (Or.inr (Or.inr (Or.inl ⟨hs, n1 rfl, rfl, z1, z2, z3, z4, z5⟩))) (up_eq rfl rfl) (fun _ => by rw [up_ne (by omega)]; exact q3) (fun _ => by rw [up_ne (by omega)]; exact q4 rfl) (by rw [up_ne (by omega)]; exact f3) (by rw [up_ne (by omega)]; omega) (fun p i hp => by rw [up_ne (by omega), f5 _ _ (by omega), d5 _ _ (by omega), up_ne (by omega)]) (by rw [up_ne (by omega), f5 _ _ (by omega), d5 _ _ (by omega), up_ne (by omega)]; exact c7)
    · apply sg_M_work_101 (A := A)
      refine ⟨fun h => by omega, fun _ => ⟨⟨by omega, by omega⟩, ?_⟩⟩
      apply sg_M_work_81 (A := A)
      refine ⟨fun h => by omega, fun _ => ⟨fun h => by rw [up_eq rfl rfl] at h; omega, fun _ => ?_⟩⟩
      obtain ⟨z1, z2, z3⟩ := n1 rfl
      exact done _ 1 a b (Or.inr (Or.inl ⟨hs, rfl, z1, z2, z3⟩)) (up_eq rfl rfl) (fun _ => by rw [up_ne (by omega)]; exact n3) (fun h => by omega) (by rw [up_ne (by omega)]; exact d3) (by rw [up_ne (by omega)]; omega) (fun p i hp => by rw [up_ne (by omega), d5 _ _ (by omega), up_ne (by omega)]) (by rw [up_ne (by omega), d5 _ _ (by omega), up_ne (by omega)]; exact c7)
  apply sg_M_work_48 (A := A)
  rw [w8]
  refine ⟨fun h => ?_, fun h => ⟨fun h2 => ?_, fun h2 => ?_⟩⟩
  · rw [jb0] at h
    exact search (by rw [hsd, h]; rfl) 1 rfl
  · rw [jbn] at h
    apply sg_M_work_81 (A := A)
    refine ⟨fun h => by omega, fun _ => ⟨fun h => by rw [up_eq rfl rfl] at h; omega, fun _ => ?_⟩⟩
    exact done _ 0 0 0 (Or.inl ⟨rfl, by rw [hsd, h, decide_eq_true (wR0.mp h2)]; rfl⟩) (up_eq rfl rfl) (fun h => by omega) (fun h => by omega) (by rw [up_ne (by decide)]; omega) (by rw [up_ne (by decide)]; omega) (fun p i hp => up_ne (by omega)) (by rw [up_ne (by decide)]; exact c7)
  · exact search (by rw [hsd, decide_eq_false (fun h3 => h2 (wR0.mpr h3)), Bool.and_false]) 1 rfl
