/-! ===== states: steps, numbers, dead ones ===== -/
def zC : Nat → Nat := fun _ => 0
def up1 (D : Nat → Nat) (c v : Nat) : Nat → Nat := fun i => if i = c then v else D i
def stC (A : jA) (D E : Nat → Nat) : Prop := (∃ c y, c < ln A ∧ y < nd A ∧ D c = 0 ∧ (so A y).testBit c = true ∧ E = up1 D c (y + 1)) ∨ (∃ c y, c < ln A ∧ y < nd A ∧ D c = y + 1 ∧ tt A c = y ∧ E = up1 D c 0) ∨ ∃ c y d, c < ln A ∧ d < ln A ∧ y < nd A ∧ D c = y + 1 ∧ tt A c ≠ y ∧ (tk A c y).testBit d = true ∧ D d = 0 ∧ E = up1 (up1 D c 0) d (y + 1)
def rkC (A : jA) : Nat → (Nat → Nat) → Prop
  | 0, D => D = zC
  | k + 1, D => ∃ E, rkC A k E ∧ stC A E D
def xdC (A : jA) (k : Nat) (D : Nat → Nat) : Prop := rkC A k D ∧ ∀ j, j < k → ¬ rkC A j D
def vdC (A : jA) (D : Nat → Nat) : Prop := (∀ c, c < ln A → D c ≤ nd A) ∧ ∀ c, ln A ≤ c → D c = 0
theorem up1_vd {A : jA} {D : Nat → Nat} {c v : Nat} (h : vdC A D) (hc : c < ln A) (hv : v ≤ nd A) : vdC A (up1 D c v) := by
  refine ⟨fun i hi => ?_, fun i hi => ?_⟩
  · unfold up1; split
    · exact hv
    · exact h.1 i hi
  · unfold up1; rw [if_neg (by omega)]; exact h.2 i hi
theorem st_vd {A : jA} {D E : Nat → Nat} (h : vdC A D) (hs : stC A D E) : vdC A E := by
  rcases hs with ⟨c, y, h1, h2, h3, h4, rfl⟩ | ⟨c, y, h1, h2, h3, h4, rfl⟩ | ⟨c, y, d, h1, h2, h3, h4, h5, h6, h7, rfl⟩
  · exact up1_vd h h1 (by omega)
  · exact up1_vd h h1 (by omega)
  · exact up1_vd (up1_vd h h1 (by omega)) h2 (by omega)
theorem rk_vd {A : jA} : ∀ {k : Nat} {D : Nat → Nat}, rkC A k D → vdC A D := by
  intro k
  induction k with
  | zero => intro D h; have h : D = zC := h; subst h; exact ⟨fun c _ => Nat.zero_le _, fun c _ => rfl⟩
  | succ k ih => rintro D ⟨E, h1, h2⟩; exact st_vd (ih h1) h2
theorem xdC_min {A : jA} {D : Nat → Nat} : ∀ k, rkC A k D → ∃ i, i ≤ k ∧ xdC A i D := by
  intro k
  induction k using Nat.strongRecOn with
  | ind k ih =>
    intro h
    by_cases h1 : ∃ j, j < k ∧ rkC A j D
    · obtain ⟨j, h2, h3⟩ := h1
      obtain ⟨i, h4, h5⟩ := ih j h2 h3
      exact ⟨i, by omega, h5⟩
    · exact ⟨k, Nat.le_refl _, h, fun j hj hr => h1 ⟨j, hj, hr⟩⟩
/-- the number of the digits from c on, e of them -/
def hn (b : Nat) (D : Nat → Nat) : Nat → Nat → Nat
  | _, 0 => 0
  | c, e + 1 => D c + b * hn b D (c + 1) e
theorem hn_lt {b : Nat} {D : Nat → Nat} : ∀ (e c : Nat), (∀ i, c ≤ i → i < c + e → D i < b) → hn b D c e < b ^ e := by
  intro e
  induction e with
  | zero => intro c _; exact Nat.one_pos
  | succ e ih =>
    intro c h
    have h1 := ih (c + 1) (fun i a b => h i (by omega) (by omega))
    have h2 := h c (Nat.le_refl _) (by omega)
    unfold hn
    rw [Nat.pow_succ, Nat.mul_comm (b ^ e) b]
    calc D c + b * hn b D (c + 1) e < b + b * hn b D (c + 1) e := by omega
      _ = b * (hn b D (c + 1) e + 1) := by rw [Nat.mul_add]; omega
      _ ≤ b * b ^ e := Nat.mul_le_mul_left b (by omega)
theorem hn_ext {b : Nat} {D E : Nat → Nat} : ∀ (e c : Nat), (∀ i, c ≤ i → i < c + e → D i = E i) → hn b D c e = hn b E c e := by
  intro e
  induction e with
  | zero => intro c _; rfl
  | succ e ih =>
    intro c h
    unfold hn
    rw [h c (Nat.le_refl _) (by omega), ih (c + 1) (fun i a b => h i (by omega) (by omega))]
theorem hn_up {b : Nat} {D : Nat → Nat} {v : Nat} : ∀ (e c c0 : Nat), c0 ≤ c → c < c0 + e → hn b (up1 D c v) c0 e + D c * b ^ (c - c0) = hn b D c0 e + v * b ^ (c - c0) := by
  intro e
  induction e with
  | zero => intro c c0 h1 h2; omega
  | succ e ih =>
    intro c c0 h1 h2
    unfold hn
    by_cases hc : c = c0
    · subst hc
      rw [Nat.sub_self, Nat.pow_zero, Nat.mul_one, Nat.mul_one, hn_ext (D := up1 D c v) (E := D) e (c + 1) (fun i a _ => by unfold up1; rw [if_neg (by omega)])]
      have : up1 D c v c = v := by unfold up1; rw [if_pos rfl]
      rw [this]
      omega
    · have hi := ih c (c0 + 1) (by omega) (by omega)
      have e1 : up1 D c v c0 = D c0 := by unfold up1; rw [if_neg (by omega)]
      rw [e1, show c - c0 = (c - (c0 + 1)) + 1 by omega, Nat.pow_succ]
      have hb := congrArg (fun z => b * z) hi
      simp only [Nat.mul_add] at hb
      have a1 : D c * (b ^ (c - (c0 + 1)) * b) = b * (D c * b ^ (c - (c0 + 1))) := by rw [← Nat.mul_assoc, Nat.mul_comm b]
      have a2 : v * (b ^ (c - (c0 + 1)) * b) = b * (v * b ^ (c - (c0 + 1))) := by rw [← Nat.mul_assoc, Nat.mul_comm b]
      rw [a1, a2]
      omega
theorem hn_inj {b : Nat} {D E : Nat → Nat} : ∀ (e c : Nat), (∀ i, c ≤ i → i < c + e → D i < b ∧ E i < b) → hn b D c e = hn b E c e → ∀ i, c ≤ i → i < c + e → D i = E i := by
  intro e
  induction e with
  | zero => intro c _ _ i h1 h2; omega
  | succ e ih =>
    intro c h he i h1 h2
    unfold hn at he
    obtain ⟨d1, d2⟩ := h c (Nat.le_refl _) (by omega)
    have m1 : (D c + b * hn b D (c + 1) e) % b = D c := by rw [Nat.add_mul_mod_self_left]; exact Nat.mod_eq_of_lt d1
    have m2 : (E c + b * hn b E (c + 1) e) % b = E c := by rw [Nat.add_mul_mod_self_left]; exact Nat.mod_eq_of_lt d2
    have hc : D c = E c := by rw [← m1, ← m2, he]
    by_cases hic : i = c
    · subst hic; exact hc
    · have hb : 0 < b := by omega
      have hm : b * hn b D (c + 1) e = b * hn b E (c + 1) e := by omega
      exact ih (c + 1) (fun i a b => h i (by omega) (by omega)) (Nat.eq_of_mul_eq_mul_left hb hm) i (by omega) (by omega)
theorem vd_inj {A : jA} {b : Nat} {D E : Nat → Nat} (hb : nd A < b) (hD : vdC A D) (hE : vdC A E) (h : hn b D 0 (ln A) = hn b E 0 (ln A)) : D = E := by
  funext i
  by_cases hi : i < ln A
  · exact hn_inj (ln A) 0 (fun i _ hi => ⟨by have := hD.1 i (by omega); omega, by have := hE.1 i (by omega); omega⟩) h i (by omega) (by omega)
  · rw [hD.2 i (by omega), hE.2 i (by omega)]
theorem vd_lt {A : jA} {b : Nat} {D : Nat → Nat} (hb : nd A < b) (hb5 : b ≤ 5) (hl : ln A ≤ 6) (hD : vdC A D) : hn b D 0 (ln A) < 15625 := by
  have h1 := hn_lt (b := b) (D := D) (ln A) 0 (fun i _ hi => by have := hD.1 i (by omega); omega)
  have h2 : b ^ ln A ≤ 5 ^ ln A := Nat.pow_le_pow_left hb5 _
  have h3 : 5 ^ ln A ≤ 5 ^ 6 := Nat.pow_le_pow_right (by decide) hl
  omega
/-- dead -/
def dS (A : jA) (D : Nat → Nat) : Nat := mk (fun c => decide (D c ≠ 0) && decide (D c - 1 ≠ tt A c)) (ln A)
def dN (A : jA) (D : Nat → Nat) (c T : Nat) : Prop := sb (tk A c (D c - 1)) T
theorem dN_mon (A : jA) (D : Nat → Nat) : mon (dN A D) := fun _ _ _ h h1 => sb_trans h1 h
theorem dS_lt {A : jA} {D : Nat → Nat} : dS A D < 2 ^ ln A := mk_lt _ _
noncomputable def dD (A : jA) (D : Nat → Nat) : Nat := gf (dN A D) (ln A) (dS A D)
theorem dS_bit {A : jA} {D : Nat → Nat} {c : Nat} (h : (dS A D).testBit c = true) : c < ln A ∧ D c ≠ 0 := by
  unfold dS at h
  rw [mk_bit, Bool.and_eq_true, Bool.and_eq_true, decide_eq_true_iff, decide_eq_true_iff] at h
  exact ⟨h.1, h.2.1⟩
set_option maxRecDepth 100000 in
theorem sg_Sa_isDead_0 {A : jA} {n l : Nat} {g : jv_S} {Q : jv_V → jv_L → jv_S → Prop} (h :
   jv_At jv_T jv_ml kSa_isDead 4 [jv_P 80, jv_I (0 : Int), jv_I (0 : Int), jv_U, jv_U] [] (LL n l) g Q) :
  jv_At jv_T jv_ml kSa_isDead 0 [jv_P 80, jv_U, jv_U, jv_U, jv_U] [] (LL n l) g Q :=
  jv_of_wp (gok9 (A := A)) (md := []) (stop := [4, 58, 78]) (tab := jt_Sa_isDead) rfl 400 _ _ _ _ _ h
set_option maxRecDepth 100000 in
theorem sg_Sa_isDead_4 {A : jA} {n l : Nat} {g : jv_S} {Q : jv_V → jv_L → jv_S → Prop} {v1 v2 : Int} {v3 v4 : jv_V} (h :
   ((g 14 1) ≤ v2 →
     jv_At jv_T jv_ml kSa_isDead 58 [jv_P 80, jv_I v1, jv_I (0 : Int), v3, v4] [] (LL n l) g Q) ∧
    (¬ (g 14 1) ≤ v2 →
     (0 ≤ v2 ∧ v2 < 6) ∧
      ((g 85 v2) = 0 →
       jv_r32 (v2 + (1 : Int)) ∧
        jv_At jv_T jv_ml kSa_isDead 4 [jv_P 80, jv_I v1, jv_I (v2 + (1 : Int)), v3, v4] [] (LL n l) g Q) ∧
      (¬ (g 85 v2) = 0 →
       (0 ≤ v2 ∧ v2 < 6) ∧
        jv_r32 ((g 85 v2) - (1 : Int)) ∧
        (0 ≤ v2 ∧ v2 < 10) ∧
        (((g 85 v2) - (1 : Int)) = (g 16 v2) →
         jv_r32 (v2 + (1 : Int)) ∧
          jv_At jv_T jv_ml kSa_isDead 4 [jv_P 80, jv_I v1, jv_I (v2 + (1 : Int)), v3, v4] [] (LL n l) g Q) ∧
        (¬ ((g 85 v2) - (1 : Int)) = (g 16 v2) →
         jv_r32 (v2 + (1 : Int)) ∧
          jv_At jv_T jv_ml kSa_isDead 4 [jv_P 80, jv_I (jv_or v1 (jv_shl (1 : Int) v2)), jv_I (v2 + (1 : Int)), v3, v4] [] (LL n l) g Q)))) :
  jv_At jv_T jv_ml kSa_isDead 4 [jv_P 80, jv_I v1, jv_I v2, v3, v4] [] (LL n l) g Q :=
  jv_of_wp (gok9 (A := A)) (md := []) (stop := [4, 58, 78]) (tab := jt_Sa_isDead) rfl 400 _ _ _ _ _ h
set_option maxRecDepth 100000 in
theorem sg_Sa_isDead_58 {A : jA} {n l : Nat} {g : jv_S} {Q : jv_V → jv_L → jv_S → Prop} {v1 v2 : Int} {v3 v4 : jv_V} (h :
   ((g 14 1) ≤ v2 →
     (v1 = 0 →
       ((0 : Int) = 0 ∨ (0 : Int) = 1) ∧ Q (jv_I (0 : Int)) (LL n l) g) ∧
      (¬ v1 = 0 →
       ((1 : Int) = 0 ∨ (1 : Int) = 1) ∧ Q (jv_I (1 : Int)) (LL n l) g)) ∧
    (¬ (g 14 1) ≤ v2 →
     (v1 = 0 →
       (v1 = 0 →
         ((0 : Int) = 0 ∨ (0 : Int) = 1) ∧ Q (jv_I (0 : Int)) (LL n l) g) ∧
        (¬ v1 = 0 →
         ((1 : Int) = 0 ∨ (1 : Int) = 1) ∧ Q (jv_I (1 : Int)) (LL n l) g)) ∧
      (¬ v1 = 0 →
       jv_At jv_T jv_ml kSa_isDead 78 [jv_P 80, jv_I v1, jv_I v2, jv_I v1, jv_I (0 : Int)] [] (LL n l) g Q))) :
  jv_At jv_T jv_ml kSa_isDead 58 [jv_P 80, jv_I v1, jv_I v2, v3, v4] [] (LL n l) g Q :=
  jv_of_wp (gok9 (A := A)) (md := []) (stop := [4, 58, 78]) (tab := jt_Sa_isDead) rfl 400 _ _ _ _ _ h
set_option maxRecDepth 100000 in
theorem sg_Sa_isDead_78 {A : jA} {n l : Nat} {g : jv_S} {Q : jv_V → jv_L → jv_S → Prop} {v1 v2 v3 v4 : Int} (h :
   ((g 14 1) ≤ v4 →
     (v1 = v3 →
       ((1 : Int) = 0 ∨ (1 : Int) = 1) ∧ Q (jv_I (1 : Int)) (LL n l) g) ∧
      (¬ v1 = v3 →
       jv_r32 (v2 + (1 : Int)) ∧
        jv_At jv_T jv_ml kSa_isDead 58 [jv_P 80, jv_I v1, jv_I (v2 + (1 : Int)), jv_I v3, jv_I v4] [] (LL n l) g Q)) ∧
    (¬ (g 14 1) ≤ v4 →
     ((0 ≤ v1 ∧ v1 < 2147483648 ∧ 0 ≤ v4 ∧ v4 < 31)) ∧
      ((hb v1 v4) = 0 →
       jv_r32 (v4 + (1 : Int)) ∧
        jv_At jv_T jv_ml kSa_isDead 78 [jv_P 80, jv_I v1, jv_I v2, jv_I v3, jv_I (v4 + (1 : Int))] [] (LL n l) g Q) ∧
      (¬ (hb v1 v4) = 0 →
       (0 ≤ v4 ∧ v4 < 10) ∧
        (0 ≤ v4 ∧ v4 < 6) ∧
        jv_r32 ((g 85 v4) - (1 : Int)) ∧
        (0 ≤ ((g 85 v4) - (1 : Int)) ∧ ((g 85 v4) - (1 : Int)) < 6) ∧
        ((jv_and (g 49 (v4 * 6 + ((g 85 v4) - (1 : Int)))) (jv_xor v1 (-1 : Int))) = 0 →
         jv_r32 (v4 + (1 : Int)) ∧
          jv_At jv_T jv_ml kSa_isDead 78 [jv_P 80, jv_I v1, jv_I v2, jv_I v3, jv_I (v4 + (1 : Int))] [] (LL n l) g Q) ∧
        (¬ (jv_and (g 49 (v4 * 6 + ((g 85 v4) - (1 : Int)))) (jv_xor v1 (-1 : Int))) = 0 →
         jv_r32 (v4 + (1 : Int)) ∧
          jv_At jv_T jv_ml kSa_isDead 78 [jv_P 80, jv_I (jv_and v1 (jv_xor (jv_shl (1 : Int) v4) (-1 : Int))), jv_I v2, jv_I v3, jv_I (v4 + (1 : Int))] [] (LL n l) g Q)))) :
  jv_At jv_T jv_ml kSa_isDead 78 [jv_P 80, jv_I v1, jv_I v2, jv_I v3, jv_I v4] [] (LL n l) g Q :=
  jv_of_wp (gok9 (A := A)) (md := []) (stop := [4, 58, 78]) (tab := jt_Sa_isDead) rfl 400 _ _ _ _ _ h
theorem tr_Sa_isDead {A : jA} {n l : Nat} {g : jv_S} {Q : jv_V → jv_L → jv_S → Prop} {D : Nat → Nat} (hN : CN A g) (hW : CW 40 A g) (hl : ln A ≤ 6) (hD : vdC A D) (hd : ∀ c : Nat, c < ln A → g 85 c = D c) (hQ : Q (jv_I (jb_p (dD A D ≠ 0))) (LL n l) g) :
  jv_Ca jv_T jv_ml kSa_isDead [jv_P 80] (LL n l) g Q := by
  have hw := hN.1
  have w1 := hw.1
  have f2 := hN.2.2.1
  have fin0 : ∀ s : Nat, s = dD A D → s = 0 → Q (jv_I 0) (LL n l) g := fun s h h0 => by rw [jp_f (by omega)] at hQ; exact hQ
  have fin1 : ∀ s : Nat, s = dD A D → s ≠ 0 → Q (jv_I 1) (LL n l) g := fun s h h0 => by rw [jp_t (by omega)] at hQ; exact hQ
  have main : ∀ r, r ≤ ln A → ∀ (s : Nat) (v w : jv_V), pcr s (ln A) + r ≤ ln A → s < 2 ^ ln A → GI (dN A D) (dS A D) s → jv_At jv_T jv_ml kSa_isDead 58 [jv_P 80, jv_I s, jv_I r, v, w] [] (LL n l) g Q := by
    apply loop_up
    intro r hr ih s v w hk h1 h2
    have hz : s = 0 → s = dD A D := fun h => by subst h; exact GI_zero (m := ln A) h2
    apply sg_Sa_isDead_58 (A := A)
    refine ⟨fun h => ⟨fun h3 => ⟨Or.inl rfl, fin0 s (hz (by omega)) (by omega)⟩, fun h3 => absurd (pcr_z h1 (by omega)) (by omega)⟩, fun h => ⟨fun h3 => ⟨fun _ => ⟨Or.inl rfl, fin0 s (hz (by omega)) (by omega)⟩, fun h4 => absurd h3 h4⟩, fun h3 => ?_⟩⟩
    have inner : ∀ c, c ≤ ln A → jv_At jv_T jv_ml kSa_isDead 78 [jv_P 80, jv_I (rp (dN A D) s c : Nat), jv_I r, jv_I s, jv_I c] [] (LL n l) g Q := by
      apply loop_up
      intro c hc ihc
      have hlt := rp_lt (nd := dN A D) h1 c
      have hl1 := i31 hlt (by omega)
      apply sg_Sa_isDead_78 (A := A)
      refine ⟨fun h => ⟨fun h4 => ?_, fun h4 => ⟨⟨by omega, by omega⟩, ?_⟩⟩, fun h => ?_⟩
      · have hcl : c = ln A := by omega
        subst hcl
        have he : rp (dN A D) s (ln A) = s := by omega
        exact ⟨Or.inr rfl, fin1 s (GI_fix h2 h1 he) (by omega)⟩
      · have hcl : c = ln A := by omega
        subst hcl
        have he : ¬ rp (dN A D) s (ln A) = s := by omega
        exact ih (by omega) _ _ _ (by have := rp_ne h1 he; omega) hlt (rp_GI (dN_mon A D) h2 _)
      · cases hbit : (rp (dN A D) s c).testBit c with
        | false =>
          have e0 := hb_f hbit
          have e1 := rp_n (nd := dN A D) (t := s) (c := c) (Or.inl hbit)
          have := ihc (by omega)
          rw [e1] at this
          rw [e0]
          repeat' (first | (with_reducible assumption) | apply And.intro | intro _)
          all_goals (first | omega | exact LLx_ok | assumption | skip)
        | true =>
          have e0 := hb_t hbit
          have hnz := (dS_bit (h2.1 c (rp_sub c c hbit))).2
          have hle := hD.1 c (by omega)
          have fd := hd c (by omega)
          have fw : g 49 ((c : Int) * 6 + ((D c : Int) - 1)) = tk A c (D c - 1) := by
            have := hW.2.2.2 c (D c - 1) (by omega) (by omega)
            rw [show (((D c - 1 : Nat)) : Int) = (D c : Int) - 1 by omega] at this
            exact this
          rw [fd, fw, e0, jb_andn (i31 (tk_ltl c (D c - 1)) (by omega)) hl1]
          by_cases hn : bd (tk A c (D c - 1)) (rp (dN A D) s c) = 0
          · have e1 := rp_n (nd := dN A D) (t := s) (c := c) (Or.inr (bd_z.mp hn))
            have := ihc (by omega)
            rw [e1] at this
            repeat' (first | (with_reducible assumption) | apply And.intro | intro _)
            all_goals (first | omega | exact LLx_ok | assumption | skip)
          · obtain ⟨e3, e4⟩ := rp_y hbit (show ¬ dN A D c _ from fun h => hn (bd_z.mpr h))
            have := ihc (by omega)
            rw [e3] at this
            rw [jb_clr hlt (by omega) (by omega)]
            repeat' (first | (with_reducible assumption) | apply And.intro | intro _)
            all_goals (first | omega | exact LLx_ok | assumption | skip)
    exact inner 0 (by omega)
  have start : ∀ c, c ≤ ln A → ∀ (s : Int) (v w : jv_V), s = (mk (fun c => decide (D c ≠ 0) && decide (D c - 1 ≠ tt A c)) c : Nat) → jv_At jv_T jv_ml kSa_isDead 4 [jv_P 80, jv_I s, jv_I c, v, w] [] (LL n l) g Q := by
    apply loop_up
    intro c hc ih s v w hs
    apply sg_Sa_isDead_4 (A := A)
    refine ⟨fun h => ?_, fun h => ?_⟩
    · have hcl : c = ln A := by omega
      subst hcl
      rw [hs]
      exact main 0 (by omega) _ _ _ (by have := pcr_le (dS A D) (ln A); exact this) dS_lt GI_0
    · have fd := hd c (by omega)
      have ft := (hN.2.2.2.1 c (by omega)).2.1
      have hle := hD.1 c (by omega)
      rw [fd, ft]
      refine ⟨⟨by omega, by omega⟩, fun h2 => ⟨⟨by omega, by omega⟩, ih (by omega) _ _ _ (mk_no hs (by rw [decide_eq_false (show ¬ D c ≠ 0 by omega)]; rfl))⟩, fun h2 => ⟨⟨by omega, by omega⟩, ⟨by omega, by omega⟩, ⟨by omega, by omega⟩, fun h3 => ⟨⟨by omega, by omega⟩, ih (by omega) _ _ _ (mk_no hs (by rw [decide_eq_false (show ¬ D c - 1 ≠ tt A c by omega), Bool.and_false]))⟩, fun h3 => ⟨⟨by omega, by omega⟩, ih (by omega) _ _ _ (mk_or (by omega) hs (by rw [decide_eq_true (show D c ≠ 0 by omega), decide_eq_true (show D c - 1 ≠ tt A c by omega)]; rfl))⟩⟩⟩
  exact sg_Sa_isDead_0 (A := A) (start 0 (by omega) 0 _ _ rfl)
/-- the bit s of a row of words -/
def wbG (g : jv_S) (p s : Nat) : Bool := wbt (g p ((s / 32 : Nat) : Int)) (s % 32)
/-- the class's number of a state -/
def cn (A : jA) (D : Nat → Nat) : Nat := hn (nd A + 1) D 0 (ln A)
/-- seen: X and Z; later: of Z what isn't in X -/
def ZS (A : jA) (X Z : (Nat → Nat) → Prop) (g : jv_S) : Prop := (∀ s, s < 15648 → (wbG g 81 s = true ↔ ∃ D, vdC A D ∧ cn A D = s ∧ (X D ∨ Z D))) ∧ (∀ s, s < 15648 → (wbG g 83 s = true ↔ ∃ D, vdC A D ∧ cn A D = s ∧ Z D ∧ ¬ X D)) ∧ (g 80 8 = 0 ∨ g 80 8 = 1) ∧ (g 80 8 = 1 ↔ ∃ D, vdC A D ∧ Z D ∧ ¬ X D)
theorem ZS_ext {A : jA} {X Z Z' : (Nat → Nat) → Prop} {g : jv_S} (h : ZS A X Z g) (he : ∀ D, vdC A D → (Z D ↔ Z' D)) : ZS A X Z' g := by
  obtain ⟨h1, h2, h3, h4⟩ := h
  refine ⟨fun s hs => ?_, fun s hs => ?_, h3, ?_⟩
  · rw [h1 s hs]
    exact ⟨fun ⟨D, a, b, c⟩ => ⟨D, a, b, c.imp id (he D a).mp⟩, fun ⟨D, a, b, c⟩ => ⟨D, a, b, c.imp id (he D a).mpr⟩⟩
  · rw [h2 s hs]
    exact ⟨fun ⟨D, a, b, c, d⟩ => ⟨D, a, b, (he D a).mp c, d⟩, fun ⟨D, a, b, c, d⟩ => ⟨D, a, b, (he D a).mpr c, d⟩⟩
  · rw [h4]
    exact ⟨fun ⟨D, a, c, d⟩ => ⟨D, a, (he D a).mp c, d⟩, fun ⟨D, a, c, d⟩ => ⟨D, a, (he D a).mpr c, d⟩⟩
theorem wbG_up {g : jv_S} {p s t : Nat} : wbG (jv_up g p ((s / 32 : Nat) : Int) (jv_or (g p ((s / 32 : Nat) : Int)) (jv_shl 1 ((s % 32 : Nat) : Int)))) p t = (wbG g p t || decide (s = t)) := by
  unfold wbG
  by_cases h : t / 32 = s / 32
  · rw [up_eq rfl (by omega), wbt_or (by omega) (by omega), h]
    congr 1
    apply decide_eq_decide.mpr
    omega
  · rw [up_ne (by omega), decide_eq_false (show ¬ s = t from fun he => h (by rw [he])), Bool.or_false]
theorem r32_or {a b : Int} : jv_r32 (jv_or a b) := by
  unfold jv_or jv_r32
  have h1 := Int32.le_toInt (Int32.ofInt a ||| Int32.ofInt b)
  have h2 := Int32.toInt_le (Int32.ofInt a ||| Int32.ofInt b)
  have e : Int32.maxValue.toInt = 2147483647 := by decide
  rw [e] at h2
  exact ⟨by simpa using h1, h2⟩
theorem wbG_fr {g g' : jv_S} {p t : Nat} (h : ∀ i : Int, g' p i = g p i) : wbG g' p t = wbG g p t := by unfold wbG; rw [h]
set_option maxRecDepth 100000 in
theorem sg_Sa_reach_0 {A : jA} {n l : Nat} {g : jv_S} {Q : jv_V → jv_L → jv_S → Prop} {v1 : Int} (h :
   (0 ≤ (jv_shr v1 (5 : Int)) ∧ (jv_shr v1 (5 : Int)) < 489) ∧
    ((jv_and (g 81 (jv_shr v1 (5 : Int))) (jv_shl (1 : Int) (jv_and v1 (31 : Int)))) = 0 →
     (0 ≤ (jv_shr v1 (5 : Int)) ∧ (jv_shr v1 (5 : Int)) < 489) ∧
      (0 ≤ (jv_shr v1 (5 : Int)) ∧ (jv_shr v1 (5 : Int)) < 489) ∧ 
      (0 ≤ (jv_shr v1 (5 : Int)) ∧ (jv_shr v1 (5 : Int)) < 489) ∧
      (0 ≤ (jv_shr v1 (5 : Int)) ∧ (jv_shr v1 (5 : Int)) < 489) ∧ 
      ((1 : Int) = 0 ∨ (1 : Int) = 1) ∧
      Q jv_U (LL n l) (jv_up (jv_up (jv_up g 81 (jv_shr v1 (5 : Int)) (jv_or (g 81 (jv_shr v1 (5 : Int))) (jv_shl (1 : Int) (jv_and v1 (31 : Int))))) 83 (jv_shr v1 (5 : Int)) (jv_or (g 83 (jv_shr v1 (5 : Int))) (jv_shl (1 : Int) (jv_and v1 (31 : Int))))) 80 8 (1 : Int))) ∧
    (¬ (jv_and (g 81 (jv_shr v1 (5 : Int))) (jv_shl (1 : Int) (jv_and v1 (31 : Int)))) = 0 →
     Q jv_U (LL n l) g)) :
  jv_At jv_T jv_ml kSa_reach 0 [jv_P 80, jv_I v1, jv_U, jv_U] [] (LL n l) g Q :=
  jv_of_wp (gok9 (A := A)) (md := []) (stop := []) (tab := jt_Sa_reach) rfl 400 _ _ _ _ _ h
theorem tr_Sa_reach {A : jA} {n l : Nat} {g : jv_S} {Q : jv_V → jv_L → jv_S → Prop} {X Z : (Nat → Nat) → Prop} {E : Nat → Nat} {v : Int} (hn4 : nd A ≤ 4) (hl6 : ln A ≤ 6) (hZ : ZS A X Z g) (hE : vdC A E) (hv : v = (cn A E : Nat))
  (hQ : ∀ g' : jv_S, ZS A X (fun D => Z D ∨ D = E) g' → (∀ w : Int, jv_r32 (g 83 w) → jv_r32 (g' 83 w)) → (∀ (p : Nat) (i : Int), ¬ (p = 81 ∨ p = 83 ∨ (p = 80 ∧ i = 8)) → g' p i = g p i) → Q jv_U (LL n l) g') :
  jv_Ca jv_T jv_ml kSa_reach [jv_P 80, jv_I v] (LL n l) g Q := by
  have hlt : cn A E < 15625 := vd_lt (by omega) (by omega) hl6 hE
  obtain ⟨z1, z2, z3, z4⟩ := hZ
  subst hv
  apply sg_Sa_reach_0 (A := A)
  rw [shr5 (by omega), and31 (by omega), wbt_and (by omega)]
  have hb := z1 (cn A E) (by omega)
  refine ⟨⟨by omega, by omega⟩, fun h => ⟨⟨by omega, by omega⟩, ⟨by omega, by omega⟩, ⟨by omega, by omega⟩, ⟨by omega, by omega⟩, Or.inr rfl, ?_⟩, fun h => ?_⟩
  · have hno : ¬ (X E ∨ Z E) := fun hx => by
      have := hb.mpr ⟨E, hE, rfl, hx⟩
      unfold wbG at this
      rw [h] at this
      cases this
    refine hQ _ ⟨fun s hs => ?_, fun s hs => ?_, Or.inr (up_eq rfl rfl), ?_⟩ (fun w hw => ?_) (fun p i hp => by rw [up_ne (by omega), up_ne (by omega), up_ne (by omega)])
    · rw [wbG_fr (g := jv_up g 81 _ _) (fun i => by rw [up_ne (by omega), up_ne (by omega)]), wbG_up, Bool.or_eq_true, z1 s hs, decide_eq_true_iff]
      constructor
      · rintro (⟨D, a, b, c⟩ | hs')
        · exact ⟨D, a, b, c.imp id Or.inl⟩
        · exact ⟨E, hE, hs', Or.inr (Or.inr rfl)⟩
      · rintro ⟨D, a, b, c | c | c⟩
        · exact Or.inl ⟨D, a, b, Or.inl c⟩
        · exact Or.inl ⟨D, a, b, Or.inr c⟩
        · subst c; exact Or.inr b
    · have e83 : wbG (jv_up (jv_up (jv_up g 81 ((cn A E / 32 : Nat) : Int) (jv_or (g 81 ((cn A E / 32 : Nat) : Int)) (jv_shl 1 ((cn A E % 32 : Nat) : Int)))) 83 ((cn A E / 32 : Nat) : Int) (jv_or (g 83 ((cn A E / 32 : Nat) : Int)) (jv_shl 1 ((cn A E % 32 : Nat) : Int)))) 80 8 1) 83 s = (wbG g 83 s || decide (cn A E = s)) := by
        have q : ∀ i : Int, jv_up (jv_up (jv_up g 81 ((cn A E / 32 : Nat) : Int) (jv_or (g 81 ((cn A E / 32 : Nat) : Int)) (jv_shl 1 ((cn A E % 32 : Nat) : Int)))) 83 ((cn A E / 32 : Nat) : Int) (jv_or (g 83 ((cn A E / 32 : Nat) : Int)) (jv_shl 1 ((cn A E % 32 : Nat) : Int)))) 80 8 1 83 i = jv_up g 83 ((cn A E / 32 : Nat) : Int) (jv_or (g 83 ((cn A E / 32 : Nat) : Int)) (jv_shl 1 ((cn A E % 32 : Nat) : Int))) 83 i := by
          intro i
          rw [up_ne (by omega)]
          by_cases hi : i = ((cn A E / 32 : Nat) : Int)
          · rw [up_eq rfl hi, up_eq rfl hi]
          · rw [up_ne (by omega), up_ne (by omega), up_ne (by omega)]
        rw [wbG_fr q, wbG_up]
      rw [e83, Bool.or_eq_true, z2 s hs, decide_eq_true_iff]
      constructor
      · rintro (⟨D, a, b, c, d⟩ | hs')
        · exact ⟨D, a, b, Or.inl c, d⟩
        · exact ⟨E, hE, hs', Or.inr rfl, fun hx => hno (Or.inl hx)⟩
      · rintro ⟨D, a, b, c | c, d⟩
        · exact Or.inl ⟨D, a, b, c, d⟩
        · subst c; exact Or.inr b
    · rw [up_eq rfl rfl]
      exact ⟨fun _ => ⟨E, hE, Or.inr rfl, fun hx => hno (Or.inl hx)⟩, fun _ => rfl⟩
    · rw [up_ne (by omega)]
      by_cases hi : w = ((cn A E / 32 : Nat) : Int)
      · rw [up_eq rfl hi]; exact r32_or
      · rw [up_ne (by omega), up_ne (by omega)]; exact hw
  · have hyes : X E ∨ Z E := by
      have ht : wbG g 81 (cn A E) = true := by unfold wbG; simpa using h
      obtain ⟨D, a, b, c⟩ := hb.mp ht
      rw [← vd_inj (b := nd A + 1) (by omega) a hE b]
      exact c
    refine hQ g ⟨fun s hs => ?_, fun s hs => ?_, z3, ?_⟩ (fun _ h => h) (fun _ _ _ => rfl)
    · rw [z1 s hs]
      constructor
      · rintro ⟨D, a, b, c⟩
        exact ⟨D, a, b, c.imp id Or.inl⟩
      · rintro ⟨D, a, b, c | c | c⟩
        · exact ⟨D, a, b, Or.inl c⟩
        · exact ⟨D, a, b, Or.inr c⟩
        · subst c; exact ⟨D, a, b, hyes⟩
    · rw [z2 s hs]
      constructor
      · rintro ⟨D, a, b, c, d⟩
        exact ⟨D, a, b, Or.inl c, d⟩
      · rintro ⟨D, a, b, c | c, d⟩
        · exact ⟨D, a, b, c, d⟩
        · subst c; exact ⟨D, a, b, hyes.resolve_left d, d⟩
    · rw [z4]
      constructor
      · rintro ⟨D, a, c, d⟩
        exact ⟨D, a, Or.inl c, d⟩
      · rintro ⟨D, a, c | c, d⟩
        · exact ⟨D, a, c, d⟩
        · subst c; exact ⟨D, a, hyes.resolve_left d, d⟩
