/-! ===== rings: walks back to a lane, the shortest, the first of them ===== -/
/-- from c in k steps to a, by lanes behind a -/
def RB (W : Nat → Nat) (m a : Nat) : Nat → Nat → Prop
  | 0, c => c = a
  | k + 1, c => a < c ∧ c < m ∧ ∃ d, (W c).testBit d = true ∧ RB W m a k d
def XD (W : Nat → Nat) (m a k c : Nat) : Prop := RB W m a k c ∧ ∀ j, j < k → ¬ RB W m a j c
/-- from a in k + 1 steps to a -/
def CK (W : Nat → Nat) (m a k : Nat) : Prop := ∃ d, (W a).testBit d = true ∧ RB W m a k d
def VR (W : Nat → Nat) (m L : Nat) (s : Nat → Nat) : Prop := 2 ≤ L ∧ (∀ k, k < L → s k < m) ∧ (∀ k, 0 < k → k < L → s 0 < s k) ∧ (∀ j k, j < k → k < L → s j ≠ s k) ∧ (∀ k, k + 1 < L → (W (s k)).testBit (s (k + 1)) = true) ∧ (W (s (L - 1))).testBit (s 0) = true
def lexle (L : Nat) (r s : Nat → Nat) : Prop := (∀ k, k < L → r k = s k) ∨ ∃ k, k < L ∧ (∀ j, j < k → r j = s j) ∧ r k < s k
def RG (W : Nat → Nat) (m L : Nat) (s : Nat → Nat) : Prop := VR W m L s ∧ (∀ L' s', VR W m L' s' → L ≤ L') ∧ ∀ s', VR W m L s' → lexle L s s'
theorem lexle_anti {L : Nat} {r s : Nat → Nat} (h1 : lexle L r s) (h2 : lexle L s r) : ∀ k, k < L → r k = s k := by
  rcases h1 with h1 | ⟨k, a1, a2, a3⟩
  · exact h1
  · rcases h2 with h2 | ⟨j, b1, b2, b3⟩
    · have := h2 k a1; omega
    · rcases Nat.lt_trichotomy j k with h | h | h
      · have := a2 j h; omega
      · subst h; omega
      · have := b2 k h; omega
theorem RG_u {W : Nat → Nat} {m L L' : Nat} {s s' : Nat → Nat} (h : RG W m L s) (h' : RG W m L' s') : L = L' ∧ ∀ k, k < L → s k = s' k := by
  have e : L = L' := Nat.le_antisymm (h.2.1 L' s' h'.1) (h'.2.1 L s h.1)
  subst e
  exact ⟨rfl, lexle_anti (h.2.2 s' h'.1) (h'.2.2 s h.1)⟩
theorem RB_min {W : Nat → Nat} {m a c : Nat} : ∀ k, RB W m a k c → ∃ i, i ≤ k ∧ XD W m a i c := by
  intro k
  induction k using Nat.strongRecOn with
  | ind k ih =>
    intro h
    by_cases h1 : ∃ j, j < k ∧ RB W m a j c
    · obtain ⟨j, h2, h3⟩ := h1
      obtain ⟨i, h4, h5⟩ := ih j h2 h3
      exact ⟨i, by omega, h5⟩
    · exact ⟨k, Nat.le_refl _, h, fun j hj hr => h1 ⟨j, hj, hr⟩⟩
theorem XD_next {W : Nat → Nat} {m a k c : Nat} (h : XD W m a (k + 1) c) : ∃ d, (W c).testBit d = true ∧ XD W m a k d := by
  obtain ⟨⟨h1, h2, d, h3, h4⟩, h5⟩ := h
  exact ⟨d, h3, h4, fun j hj hr => h5 (j + 1) (by omega) ⟨h1, h2, d, h3, hr⟩⟩
theorem CK_next {W : Nat → Nat} {m a k : Nat} (h : CK W m a k) (hm : ∀ j, j < k → ¬ CK W m a j) : ∃ d, (W a).testBit d = true ∧ XD W m a k d := by
  obtain ⟨d, h3, h4⟩ := h
  exact ⟨d, h3, h4, fun j hj hr => hm j hj ⟨d, h3, hr⟩⟩
theorem XD_end {W : Nat → Nat} {m a k : Nat} (h : ∀ c, ¬ XD W m a k c) : ∀ j, k ≤ j → ∀ c, ¬ XD W m a j c := by
  intro j hj
  induction hj with
  | refl => exact h
  | step _ ih =>
    intro c hx
    obtain ⟨d, -, h2⟩ := XD_next hx
    exact ih d h2
theorem CK_end {W : Nat → Nat} {m a k : Nat} (h : ∀ c, ¬ XD W m a k c) (hm : ∀ j, j < k → ¬ CK W m a j) : ∀ j, ¬ CK W m a j := by
  intro j ⟨d, h1, h2⟩
  obtain ⟨i, h3, h4⟩ := RB_min j h2
  by_cases hi : i < k
  · exact hm i hi ⟨d, h1, h4.1⟩
  · exact XD_end h i (by omega) d h4
/-- the next level -/
theorem XD_succ {W : Nat → Nat} {m a k T c : Nat} (hT : ∀ d, T.testBit d = true ↔ XD W m a k d) : XD W m a (k + 1) c ↔ (a < c ∧ c < m ∧ ∀ j, j ≤ k → ¬ RB W m a j c) ∧ W c &&& T ≠ 0 := by
  constructor
  · intro h
    refine ⟨⟨h.1.1, h.1.2.1, fun j hj => h.2 j (by omega)⟩, fun h0 => ?_⟩
    obtain ⟨d, h1, h2⟩ := XD_next h
    exact and_z.mp h0 d ⟨h1, (hT d).mpr h2⟩
  · rintro ⟨⟨h1, h2, h3⟩, h4⟩
    obtain ⟨d, h5⟩ := bt_of_nz h4
    rw [Nat.testBit_and, Bool.and_eq_true] at h5
    exact ⟨⟨h1, h2, d, h5.1, ((hT d).mp h5.2).1⟩, fun j hj => h3 j (by omega)⟩
theorem vr_rb {W : Nat → Nat} {m L : Nat} {s : Nat → Nat} (h : VR W m L s) : ∀ e k, k + (e + 1) = L → 1 ≤ k → RB W m (s 0) (e + 1) (s k) := by
  obtain ⟨h1, h2, h3, h4, h5, h6⟩ := h
  intro e
  induction e with
  | zero => intro k hk hk1; exact ⟨h3 k hk1 (by omega), h2 k (by omega), s 0, by rw [show k = L - 1 by omega]; exact h6, rfl⟩
  | succ e ih => intro k hk hk1; exact ⟨h3 k hk1 (by omega), h2 k (by omega), s (k + 1), h5 k (by omega), ih (k + 1) (by omega) (by omega)⟩
theorem vr_ck {W : Nat → Nat} {m L : Nat} {s : Nat → Nat} (h : VR W m L s) : CK W m (s 0) (L - 1) := by
  have h1 := h.1
  have := vr_rb h (L - 2) 1 (by omega) (by omega)
  rw [show L - 2 + 1 = L - 1 by omega] at this
  exact ⟨s 1, h.2.2.2.2.1 0 (by omega), this⟩
theorem vr_pre {W : Nat → Nat} {m L : Nat} {s : Nat → Nat} (h : VR W m L s) : ∀ k, k + 1 < L → ∀ j, RB W m (s 0) j (s (k + 1)) → CK W m (s 0) (k + j) := by
  intro k
  induction k with
  | zero => intro hk j hr; rw [Nat.zero_add]; exact ⟨s 1, h.2.2.2.2.1 0 hk, hr⟩
  | succ k ih =>
    intro hk j hr
    have := ih (by omega) (j + 1) ⟨h.2.2.1 (k + 1) (by omega) (by omega), h.2.1 (k + 1) (by omega), s (k + 2), h.2.2.2.2.1 (k + 1) hk, hr⟩
    rw [show k + 1 + j = k + (j + 1) by omega]
    exact this
/-- the row that is found from a on -/
def GR (W : Nat → Nat) (m a L : Nat) (s : Nat → Nat) : Prop := 2 ≤ L ∧ s 0 = a ∧ a < m ∧ ∀ k, k + 1 < L → a < s (k + 1) ∧ s (k + 1) < m ∧ (W (s k)).testBit (s (k + 1)) = true ∧ XD W m a (L - (k + 1)) (s (k + 1)) ∧ ∀ c, a < c → c < s (k + 1) → (W (s k)).testBit c = true → ¬ XD W m a (L - (k + 1)) c
theorem GR_VR {W : Nat → Nat} {m a L : Nat} {s : Nat → Nat} (h : GR W m a L s) : VR W m L s := by
  obtain ⟨h1, h2, h3, h4⟩ := h
  refine ⟨h1, fun k hk => ?_, fun k hk hk2 => ?_, fun j k hj hk => ?_, fun k hk => (h4 k hk).2.2.1, ?_⟩
  · cases k with
    | zero => omega
    | succ k => exact (h4 k hk).2.1
  · cases k with
    | zero => omega
    | succ k => rw [h2]; exact (h4 k hk2).1
  · cases k with
    | zero => omega
    | succ k =>
      have hx := h4 k hk
      cases j with
      | zero => rw [h2]; have := hx.1; omega
      | succ j =>
        have hy := h4 j (by omega)
        intro he
        refine hy.2.2.2.1.2 (L - (k + 1)) (by omega) ?_
        rw [he]
        exact hx.2.2.2.1.1
  · have := (h4 (L - 2) (by omega)).2.2.2.1.1
    rw [show L - (L - 2 + 1) = 0 + 1 by omega, show L - 2 + 1 = L - 1 by omega] at this
    obtain ⟨-, -, d, h5, h6⟩ := this
    have h6 : d = a := h6
    rw [h2, ← h6]
    exact h5
theorem GR_RG {W : Nat → Nat} {m a L : Nat} {s : Nat → Nat} (h : GR W m a L s) (hmin : ∀ a' k, a' < m → CK W m a' k → L ≤ k + 1) (hlt : ∀ a' k, a' < a → CK W m a' k → L < k + 1) : RG W m L s := by
  have hv := GR_VR h
  obtain ⟨h1, h2, h3, h4⟩ := h
  refine ⟨hv, fun L' s' h' => ?_, fun s' h' => ?_⟩
  · have := hmin _ _ (h'.2.1 0 (by have := h'.1; omega)) (vr_ck h')
    have := h'.1
    omega
  · have hc := vr_ck h'
    rcases Nat.lt_trichotomy (s' 0) a with ha | ha | ha
    · have := hlt _ _ ha hc
      omega
    · have key : ∀ k, k ≤ L → (∀ j, j < k → s j = s' j) ∨ ∃ j, j < k ∧ (∀ i, i < j → s i = s' i) ∧ s j < s' j := by
        intro k
        induction k with
        | zero => intro _; exact Or.inl (fun j hj => by omega)
        | succ k ih =>
          intro hk
          rcases ih (by omega) with h5 | ⟨j, h5, h6, h7⟩
          · cases k with
            | zero => exact Or.inl (fun j hj => by rw [show j = 0 by omega, h2, ha])
            | succ k =>
              obtain ⟨g1, g2, g3, g4, g5⟩ := h4 k (by omega)
              have r1 := vr_rb h' (L - (k + 1) - 1) (k + 1) (by omega) (by omega)
              rw [show L - (k + 1) - 1 + 1 = L - (k + 1) by omega, ha] at r1
              have r2 : XD W m a (L - (k + 1)) (s' (k + 1)) := ⟨r1, fun j hj hr => by
                rw [← ha] at hr
                have := hmin _ _ (by omega) (vr_pre h' k (by omega) j hr)
                omega⟩
              have r3 : ¬ s' (k + 1) < s (k + 1) := by
                intro hlt'
                refine g5 _ (by rw [← ha]; exact h'.2.2.1 (k + 1) (by omega) (by omega)) hlt' ?_ r2
                rw [h5 k (by omega)]
                exact h'.2.2.2.2.1 k (by omega)
              by_cases he : s (k + 1) = s' (k + 1)
              · refine Or.inl (fun j hj => ?_)
                by_cases hjk : j = k + 1
                · rw [hjk]; exact he
                · exact h5 j (by omega)
              · exact Or.inr ⟨k + 1, by omega, h5, by omega⟩
          · exact Or.inr ⟨j, by omega, h6, h7⟩
      exact key L (Nat.le_refl _)
    · exact Or.inr ⟨0, by omega, fun j hj => by omega, by omega⟩
theorem full_bit {m i : Nat} : (2 ^ m - 1).testBit i = decide (i < m) := Nat.testBit_two_pow_sub_one m i
/-- where something is left there is a walk back -/
theorem CK_ex {W : Nat → Nat} {m : Nat} (h : gf (kn W) m (2 ^ m - 1) ≠ 0) : ∃ a k, a < m ∧ CK W m a k := by
  apply Classical.byContradiction
  intro hno
  have key : ∀ e a, a + e = m → ∀ T, gfP (kn W) (2 ^ m - 1) T → (∀ c, T.testBit c = true → a ≤ c) → T = 0 := by
    intro e
    induction e with
    | zero =>
      intro a ha T hT hge
      apply Classical.byContradiction
      intro hne
      obtain ⟨c, hc⟩ := bt_of_nz hne
      have h1 := hge c hc
      have h2 := hT.1 c hc
      rw [full_bit, decide_eq_true_iff] at h2
      omega
    | succ e ih =>
      intro a ha T hT hge
      cases hTa : T.testBit a with
      | false =>
        refine ih (a + 1) (by omega) T hT (fun c hc => ?_)
        have := hge c hc
        by_cases hca : c = a
        · subst hca; rw [hc] at hTa; cases hTa
        · omega
      | true =>
        exfalso
        have hTm : ∀ c, T.testBit c = true → c < m := fun c hc => by
          have h2 := hT.1 c hc
          rw [full_bit, decide_eq_true_iff] at h2
          exact h2
        let p : Nat → Bool := fun c => T.testBit c && decide (a < c) && dc (¬ ∃ k, RB W m a k c)
        have hp : ∀ c, (mk p m).testBit c = true ↔ T.testBit c = true ∧ a < c ∧ ¬ ∃ k, RB W m a k c := by
          intro c
          rw [mk_bit, Bool.and_eq_true, decide_eq_true_iff]
          show c < m ∧ (T.testBit c && decide (a < c) && dc (¬ ∃ k, RB W m a k c)) = true ↔ _
          rw [Bool.and_eq_true, Bool.and_eq_true, decide_eq_true_iff, dc_t]
          exact ⟨fun ⟨_, ⟨x, y⟩, z⟩ => ⟨x, y, z⟩, fun ⟨x, y, z⟩ => ⟨hTm c x, ⟨x, y⟩, z⟩⟩
        have hB : mk p m = 0 := by
          refine ih (a + 1) (by omega) _ ⟨fun c hc => ?_, fun c hc => ?_⟩ (fun c hc => ((hp c).mp hc).2.1)
          · rw [full_bit, decide_eq_true_iff]
            exact hTm c ((hp c).mp hc).1
          · obtain ⟨h1, h2, h3⟩ := (hp c).mp hc
            have h4 := hT.2 c h1
            obtain ⟨d, h5⟩ := bt_of_nz h4
            rw [Nat.testBit_and, Bool.and_eq_true] at h5
            have h6 := hge d h5.2
            intro h0
            refine and_z.mp h0 d ⟨h5.1, (hp d).mpr ⟨h5.2, ?_, ?_⟩⟩
            · by_cases hda : d = a
              · exact absurd ⟨1, h2, hTm c h1, d, h5.1, hda⟩ h3
              · omega
            · rintro ⟨k, hk⟩
              exact h3 ⟨k + 1, h2, hTm c h1, d, h5.1, hk⟩
        have h4 := hT.2 a hTa
        obtain ⟨d, h5⟩ := bt_of_nz h4
        rw [Nat.testBit_and, Bool.and_eq_true] at h5
        have h6 := hge d h5.2
        by_cases hda : d = a
        · exact hno ⟨a, 0, by omega, d, h5.1, hda⟩
        · have h7 : ∃ k, RB W m a k d := by
            apply Classical.byContradiction
            intro hn
            have := (hp d).mpr ⟨h5.2, by omega, hn⟩
            rw [hB, Nat.zero_testBit] at this
            cases this
          obtain ⟨k, hk⟩ := h7
          exact hno ⟨a, k, by omega, d, h5.1, hk⟩
  exact h (key m 0 (by omega) _ (gf_P (kn_mon W) full_lt) (fun c _ => by omega))
/-- ranks, step by step -/
def rs (W : Nat → Nat) (r : Nat → Int) (c d : Nat) : Nat → Int := if (W c).testBit d then (fun i => if i = c then (if r c < r d + 1 then r d + 1 else r c) else r i) else r
def rkd (W : Nat → Nat) (c : Nat) (r : Nat → Int) : Nat → Nat → Int
  | 0 => r
  | d + 1 => rs W (rkd W c r d) c d
def rkc (W : Nat → Nat) (m : Nat) (r : Nat → Int) : Nat → Nat → Int
  | 0 => r
  | c + 1 => rkd W c (rkc W m r c) m
def rkr (W : Nat → Nat) (m : Nat) : Nat → Nat → Int
  | 0 => fun _ => 0
  | k + 1 => rkc W m (rkr W m k) m
theorem rs_b {W : Nat → Nat} {r : Nat → Int} {B : Int} (h : ∀ i, 0 ≤ r i ∧ r i ≤ B) (c d : Nat) : ∀ i, 0 ≤ rs W r c d i ∧ rs W r c d i ≤ B + 1 := by
  intro i
  unfold rs
  have h1 := h i
  have h2 := h c
  have h3 := h d
  split
  · dsimp only
    split
    · split <;> omega
    · omega
  · omega
theorem rkd_b {W : Nat → Nat} {r : Nat → Int} {B : Int} {c : Nat} (h : ∀ i, 0 ≤ r i ∧ r i ≤ B) : ∀ d : Nat, ∀ i, 0 ≤ rkd W c r d i ∧ rkd W c r d i ≤ B + d := by
  intro d
  induction d with
  | zero => intro i; have := h i; unfold rkd; omega
  | succ d ih => intro i; have := rs_b (W := W) ih c d i; unfold rkd; omega
theorem rkc_b {W : Nat → Nat} {m : Nat} {r : Nat → Int} {B : Int} (hm : m ≤ 10) (h : ∀ i, 0 ≤ r i ∧ r i ≤ B) : ∀ c : Nat, ∀ i, 0 ≤ rkc W m r c i ∧ rkc W m r c i ≤ B + 10 * c := by
  intro c
  induction c with
  | zero => intro i; have := h i; unfold rkc; omega
  | succ c ih => intro i; have := rkd_b (W := W) (c := c) ih m i; unfold rkc; omega
theorem rkr_b {W : Nat → Nat} {m : Nat} (hm : m ≤ 10) : ∀ k : Nat, ∀ i, 0 ≤ rkr W m k i ∧ rkr W m k i ≤ 100 * k := by
  intro k
  induction k with
  | zero => intro i; unfold rkr; omega
  | succ k ih => intro i; have := rkc_b (W := W) hm ih m i; unfold rkr; omega
