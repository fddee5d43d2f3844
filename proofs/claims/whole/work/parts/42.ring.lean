/-! ===== the class's rings, ranks, work, isSound ===== -/
theorem shl2 {a : Nat} (h : a < 10) : jv_shl (2 : Int) (a : Int) = ((2 ^ (a + 1) : Nat) : Int) := by
  have : ∀ k : Fin 10, jv_shl 2 ((k.val : Nat) : Int) = ((2 ^ (k.val + 1) : Nat) : Int) := by decide +kernel
  exact this ⟨a, h⟩
theorem opn {a m : Nat} (hm : m ≤ 10) (ha : a < m) : 2 ^ m - 2 ^ (a + 1) = mk (fun c => decide (a < c)) m ∧ 2 ^ (a + 1) ≤ 2 ^ m := by
  have : ∀ m : Fin 11, ∀ a : Fin 10, a.val < m.val → 2 ^ m.val - 2 ^ (a.val + 1) = mk (fun c => decide (a.val < c)) m.val := by decide +kernel
  exact ⟨this ⟨m, by omega⟩ ⟨a, by omega⟩ ha, Nat.pow_le_pow_right (by decide) (by omega)⟩
theorem wt_ns {A : jA} (hw : wf A) : ∀ c, c < ln A → (wt A c).testBit c = false := by
  intro c hc
  cases h : (wt A c).testBit c with
  | false => rfl
  | true =>
    exfalso
    obtain ⟨y, h1, h2⟩ := un_bit.mp h
    unfold wy at h2
    split at h2
    · unfold on tk at h2
      rw [mk_bit, Bool.and_eq_true] at h2
      have h3 := h2.2
      unfold tq tb at h3
      rw [tx_c (Nat.lt_of_lt_of_le hc hw.2.1)] at h3
      have h4 := (hw.2.2.2.1 c hc).2.2.1
      simp [h4] at h3
    · rw [Nat.zero_testBit] at h2; cases h2
/-- how many lanes the shortest walk back to a has, and how far each is -/
def MR (W : Nat → Nat) (m a L : Nat) (g : jv_S) : Prop := (L = 0 ∧ ∀ k, ¬ CK W m a k) ∨ ∃ k, L = k + 1 ∧ L ≤ m ∧ CK W m a k ∧ (∀ j, j < k → ¬ CK W m a j) ∧ ∀ c e : Nat, a < c → c < m → 1 ≤ e → e ≤ k → (g 66 c = e ↔ XD W m a e c)
set_option maxRecDepth 100000 in
theorem sg_Wa_measureRing_0 {A : jA} {n l : Nat} {g : jv_S} {Q : jv_V → jv_L → jv_S → Prop} {v1 : Int} (h :
   jv_Ca jv_T jv_ml kAr_fill [jv_P 66, jv_I (0 : Int)] (LL n l) g (fun r L2 g2 => jv_At jv_T jv_ml kWa_measureRing 8 [jv_P 60, jv_I v1, jv_U, jv_U, jv_U, jv_U, jv_U] (jv_pu r []) L2 g2 Q)) :
  jv_At jv_T jv_ml kWa_measureRing 0 [jv_P 60, jv_I v1, jv_U, jv_U, jv_U, jv_U, jv_U] [] (LL n l) g Q :=
  jv_of_wp (gok9 (A := A)) (md := []) (stop := [29, 67]) (tab := jt_Wa_measureRing) rfl 400 _ _ _ _ _ h
set_option maxRecDepth 100000 in
theorem sg_Wa_measureRing_8 {A : jA} {n l : Nat} {g : jv_S} {Q : jv_V → jv_L → jv_S → Prop} {v1 : Int} {v2 v3 v4 v5 v6 : jv_V} (h :
   jv_r32 ((jv_shl (1 : Int) (g 14 1)) - (jv_shl (2 : Int) v1)) ∧
    jv_At jv_T jv_ml kWa_measureRing 29 [jv_P 60, jv_I v1, jv_I (jv_shl (1 : Int) v1), jv_I ((jv_shl (1 : Int) (g 14 1)) - (jv_shl (2 : Int) v1)), jv_I (1 : Int), v5, v6] [] (LL n l) g Q) :
  jv_At jv_T jv_ml kWa_measureRing 8 [jv_P 60, jv_I v1, v2, v3, v4, v5, v6] [] (LL n l) g Q :=
  jv_of_wp (gok9 (A := A)) (md := []) (stop := [29, 67]) (tab := jt_Wa_measureRing) rfl 400 _ _ _ _ _ h
set_option maxRecDepth 100000 in
theorem sg_Wa_measureRing_29 {A : jA} {n l : Nat} {g : jv_S} {Q : jv_V → jv_L → jv_S → Prop} {v1 v2 v3 v4 : Int} {v5 v6 : jv_V} (h :
   ((g 14 1) < v4 →
     Q (jv_I (0 : Int)) (LL n l) g) ∧
    (¬ (g 14 1) < v4 →
     (v2 = 0 →
       Q (jv_I (0 : Int)) (LL n l) g) ∧
      (¬ v2 = 0 →
       (0 ≤ v1 ∧ v1 < 10) ∧
        ((jv_and (g 62 v1) v2) = 0 →
         jv_r32 (v1 + (1 : Int)) ∧
          jv_At jv_T jv_ml kWa_measureRing 67 [jv_P 60, jv_I v1, jv_I v2, jv_I v3, jv_I v4, jv_I (0 : Int), jv_I (v1 + (1 : Int))] [] (LL n l) g Q) ∧
        (¬ (jv_and (g 62 v1) v2) = 0 →
         Q (jv_I v4) (LL n l) g)))) :
  jv_At jv_T jv_ml kWa_measureRing 29 [jv_P 60, jv_I v1, jv_I v2, jv_I v3, jv_I v4, v5, v6] [] (LL n l) g Q :=
  jv_of_wp (gok9 (A := A)) (md := []) (stop := [29, 67]) (tab := jt_Wa_measureRing) rfl 400 _ _ _ _ _ h
set_option maxRecDepth 100000 in
theorem sg_Wa_measureRing_67 {A : jA} {n l : Nat} {g : jv_S} {Q : jv_V → jv_L → jv_S → Prop} {v1 v2 v3 v4 v5 v6 : Int} (h :
   ((g 14 1) ≤ v6 →
     jv_r32 (v4 + (1 : Int)) ∧
      jv_At jv_T jv_ml kWa_measureRing 29 [jv_P 60, jv_I v1, jv_I v5, jv_I (jv_and v3 (jv_xor v5 (-1 : Int))), jv_I (v4 + (1 : Int)), jv_I v5, jv_I v6] [] (LL n l) g Q) ∧
    (¬ (g 14 1) ≤ v6 →
     ((0 ≤ v3 ∧ v3 < 2147483648 ∧ 0 ≤ v6 ∧ v6 < 31)) ∧
      ((hb v3 v6) = 0 →
       jv_r32 (v6 + (1 : Int)) ∧
        jv_At jv_T jv_ml kWa_measureRing 67 [jv_P 60, jv_I v1, jv_I v2, jv_I v3, jv_I v4, jv_I v5, jv_I (v6 + (1 : Int))] [] (LL n l) g Q) ∧
      (¬ (hb v3 v6) = 0 →
       (0 ≤ v6 ∧ v6 < 10) ∧
        ((jv_and (g 62 v6) v2) = 0 →
         jv_r32 (v6 + (1 : Int)) ∧
          jv_At jv_T jv_ml kWa_measureRing 67 [jv_P 60, jv_I v1, jv_I v2, jv_I v3, jv_I v4, jv_I v5, jv_I (v6 + (1 : Int))] [] (LL n l) g Q) ∧
        (¬ (jv_and (g 62 v6) v2) = 0 →
         (0 ≤ v6 ∧ v6 < 10) ∧ 
          jv_r32 (v6 + (1 : Int)) ∧
          jv_At jv_T jv_ml kWa_measureRing 67 [jv_P 60, jv_I v1, jv_I v2, jv_I v3, jv_I v4, jv_I (jv_or v5 (jv_shl (1 : Int) v6)), jv_I (v6 + (1 : Int))] [] (LL n l) (jv_up g 66 v6 v4) Q)))) :
  jv_At jv_T jv_ml kWa_measureRing 67 [jv_P 60, jv_I v1, jv_I v2, jv_I v3, jv_I v4, jv_I v5, jv_I v6] [] (LL n l) g Q :=
  jv_of_wp (gok9 (A := A)) (md := []) (stop := [29, 67]) (tab := jt_Wa_measureRing) rfl 400 _ _ _ _ _ h
theorem tr_Wa_measureRing {A : jA} {n l : Nat} {g : jv_S} {Q : jv_V → jv_L → jv_S → Prop} {W : Nat → Nat} {m a : Nat} (hm : m ≤ 10) (f2 : g 14 1 = m) (hx : ∀ c : Nat, c < m → g 62 c = W c) (hl : ∀ c, c < m → W c < 2 ^ m) (ha : a < m)
  (hQ : ∀ (g' : jv_S) (L : Nat), MR W m a L g' → (∀ (p : Nat) (i : Int), ¬ p = 66 → g' p i = g p i) → Q (jv_I L) (LL n l) g') :
  jv_Ca jv_T jv_ml kWa_measureRing [jv_P 60, jv_I a] (LL n l) g Q := by
  have hp2 := pw10 hm
  apply sg_Wa_measureRing_0 (A := A)
  refine tr_Ar_fill_66 (fun g0 z1 z2 => ?_)
  have f2' : g0 14 1 = m := by rw [z2 _ _ (by omega)]; exact f2
  apply sg_Wa_measureRing_8 (A := A)
  obtain ⟨o1, o2⟩ := opn hm ha
  obtain ⟨-, -, s3⟩ := shl_full (show m ≤ 30 by omega)
  have eo : jv_shl (1 : Int) (g0 14 1) - jv_shl (2 : Int) (a : Int) = ((mk (fun c => decide (a < c)) m : Nat) : Int) := by
    rw [f2', s3, shl2 (by omega), ← o1]
    omega
  have hol := mk_lt (fun c => decide (a < c)) m
  rw [eo, jb_shl1 (by omega)]
  have main : ∀ k, k ≤ m → ∀ (T O : Nat) (g' : jv_S) (v5 v6 : jv_V), (∀ d, T.testBit d = true ↔ XD W m a k d) → (∀ d, O.testBit d = true ↔ a < d ∧ d < m ∧ ∀ j, j ≤ k → ¬ RB W m a j d) → T < 2 ^ m → (∀ j, j < k → ¬ CK W m a j) → (∀ c : Nat, a < c → c < m → 0 ≤ g' 66 c ∧ g' 66 c ≤ k ∧ ∀ e : Nat, 1 ≤ e → e ≤ k → (g' 66 c = e ↔ XD W m a e c)) → (T = 0 ∨ pcr O m + (k + 1) ≤ m) → (∀ (p : Nat) (i : Int), ¬ p = 66 → g' p i = g p i) → jv_At jv_T jv_ml kWa_measureRing 29 [jv_P 60, jv_I a, jv_I T, jv_I O, jv_I (k + 1), v5, v6] [] (LL n l) (g') Q := by
    apply loop_up
    intro k hk ih T O g' v5 v6 hT hO hTl hno hbk hpc hf
    have f2'' : g' 14 1 = m := by rw [hf _ _ (by decide)]; exact f2
    have hx' : ∀ c : Nat, c < m → g' 62 c = W c := fun c hc => by rw [hf _ _ (by decide)]; exact hx c hc
    have hOl : O < 2 ^ m := lt_of_bt (fun i hi => ((hO i).mp hi).2.1)
    have e0 : T = 0 → Q (jv_I 0) (LL n l) g' := fun h => hQ g' 0 (Or.inl ⟨rfl, CK_end (k := k) (fun c hc => by have := (hT c).mpr hc; rw [h, Nat.zero_testBit] at this; cases this) hno⟩) hf
    apply sg_Wa_measureRing_29 (A := A)
    refine ⟨fun h => e0 (by omega), fun h => ⟨fun h1 => e0 (by omega), fun h1 => ⟨⟨by omega, by omega⟩, fun h2 => ⟨⟨by omega, by omega⟩, ?_⟩, fun h2 => ?_⟩⟩⟩
    · rw [hx' a ha, jb_and (i31 (hl a ha) (by omega)) (i31 hTl (by omega))] at h2
      have hnk : ¬ CK W m a k := fun hc => by
        obtain ⟨d, d1, d2⟩ := CK_next hc hno
        exact and_z.mp (show W a &&& T = 0 by omega) d ⟨d1, (hT d).mpr d2⟩
      have inner : ∀ c, c ≤ m → a < c → ∀ g' : jv_S, (∀ d : Nat, a < d → d < m → 0 ≤ g' 66 d ∧ g' 66 d ≤ k + 1 ∧ (c ≤ d → g' 66 d ≤ k) ∧ (∀ e : Nat, 1 ≤ e → e ≤ k → (g' 66 d = e ↔ XD W m a e d)) ∧ (d < c → (g' 66 d = k + 1 ↔ XD W m a (k + 1) d))) → (∀ (p : Nat) (i : Int), ¬ p = 66 → g' p i = g p i) → jv_At jv_T jv_ml kWa_measureRing 67 [jv_P 60, jv_I a, jv_I T, jv_I O, jv_I (k + 1), jv_I (mk (fun d => dc (XD W m a (k + 1) d)) c : Nat), jv_I c] [] (LL n l) (g') Q := by
        apply loop_up
        intro c hc ihc hac g' hbk hf
        have f2'' : g' 14 1 = m := by rw [hf _ _ (by decide)]; exact f2
        have hx' : ∀ c : Nat, c < m → g' 62 c = W c := fun c hc => by rw [hf _ _ (by decide)]; exact hx c hc
        apply sg_Wa_measureRing_67 (A := A)
        refine ⟨fun h3 => ⟨⟨by omega, by omega⟩, ?_⟩, fun h3 => ?_⟩
        · have hcm : c = m := by omega
          subst hcm
          have hFl := mk_lt (fun d => dc (XD W c a (k + 1) d)) c
          have hF : ∀ d, (mk (fun d => dc (XD W c a (k + 1) d)) c).testBit d = true ↔ XD W c a (k + 1) d := by
            intro d
            rw [mk_bit, Bool.and_eq_true, decide_eq_true_iff, dc_t]
            exact ⟨fun h => h.2, fun h => ⟨h.1.2.1, h⟩⟩
          rw [jb_andn (i31 hOl (by omega)) (i31 hFl (by omega))]
          have hO' : ∀ d, (bd O (mk (fun d => dc (XD W c a (k + 1) d)) c)).testBit d = true ↔ a < d ∧ d < c ∧ ∀ j, j ≤ k + 1 → ¬ RB W c a j d := by
            intro d
            rw [bd_bit, Bool.and_eq_true, hO, Bool.not_eq_true', ← Bool.not_eq_true, hF]
            constructor
            · rintro ⟨⟨b1, b2, b3⟩, b4⟩
              refine ⟨b1, b2, fun j hj hr => ?_⟩
              by_cases hjk : j = k + 1
              · subst hjk
                exact b4 ⟨hr, fun i hi => b3 i (by omega)⟩
              · exact b3 j (by omega) hr
            · rintro ⟨b1, b2, b3⟩
              exact ⟨⟨b1, b2, fun j hj => b3 j (by omega)⟩, fun hx => b3 (k + 1) (Nat.le_refl _) hx.1⟩
          refine ih (by omega) _ _ g' _ _ hF hO' hFl (fun j hj => ?_) (fun d d1 d2 => ?_) ?_ hf
          · by_cases hjk : j = k
            · subst hjk; exact hnk
            · exact hno j (by omega)
          · obtain ⟨b1, b2, b3, b4, b5⟩ := hbk d d1 d2
            refine ⟨b1, by omega, fun e e1 e2 => ?_⟩
            by_cases hek : e = k + 1
            · subst hek
              exact b5 (by omega)
            · exact b4 e e1 (by omega)
          · by_cases hF0 : mk (fun d => dc (XD W c a (k + 1) d)) c = 0
            · exact Or.inl hF0
            · refine Or.inr ?_
              obtain ⟨d, hd⟩ := bt_of_nz hF0
              have hdO : O.testBit d = true := (hO d).mpr ((XD_succ hT).mp ((hF d).mp hd)).1
              have := pcr_lt1 (a := bd O (mk (fun d => dc (XD W c a (k + 1) d)) c)) (b := O) bd_sb hdO (by rw [bd_bit, hd, hdO]; rfl) c ((hO d).mp hdO).2.1
              omega
        · have hcx := XD_succ (c := c) hT
          have fx := hx' c (by omega)
          have hW31 := i31 (hl c (by omega)) (by omega)
          have hT31 := i31 hTl (by omega)
          have hO31 := i31 hOl (by omega)
          have e2 : jv_and (g' 62 c) (T : Int) = ((W c &&& T : Nat) : Int) := by rw [fx]; exact jb_and hW31 hT31
          have nno : ¬ XD W m a (k + 1) c → jv_At jv_T jv_ml kWa_measureRing 67 [jv_P 60, jv_I a, jv_I T, jv_I O, jv_I (k + 1), jv_I (mk (fun d => dc (XD W m a (k + 1) d)) c : Nat), jv_I (c + 1)] [] (LL n l) (g') Q := by
            intro hnx
            have := ihc (by omega) (by omega) g' (fun d d1 d2 => ?_) hf
            · rw [← mk_no (p := fun d => dc (XD W m a (k + 1) d)) (d := c) rfl (dc_f.mpr hnx)] at this
              exact this
            · obtain ⟨b1, b2, b3, b4, b5⟩ := hbk d d1 d2
              refine ⟨b1, b2, fun h => b3 (by omega), b4, fun h => ?_⟩
              by_cases hdc : d = c
              · subst hdc
                have := b3 (Nat.le_refl _)
                exact ⟨fun h => by omega, fun h => absurd h hnx⟩
              · exact b5 (by omega)
          cases hbit : O.testBit c with
          | false =>
            have := nno (fun hx => by rw [(hO c).mpr (hcx.mp hx).1] at hbit; cases hbit)
            have e0 := hb_f hbit
            rw [e0]
            repeat' (first | (with_reducible assumption) | apply And.intro | intro _)
            all_goals (first | omega | exact LLx_ok | assumption | skip)
          | true =>
            have e0 := hb_t hbit
            rw [e0, e2]
            by_cases hz : W c &&& T = 0
            · have := nno (fun hx => (hcx.mp hx).2 hz)
              repeat' (first | (with_reducible assumption) | apply And.intro | intro _)
              all_goals (first | omega | exact LLx_ok | assumption | skip)
            · have hxd : XD W m a (k + 1) c := hcx.mpr ⟨(hO c).mp hbit, hz⟩
              have := ihc (by omega) (by omega) (jv_up g' 66 c (k + 1)) (fun d d1 d2 => ?_) (fun p i hp => by rw [up_ne (by omega)]; exact hf p i hp)
              · rw [← mk_or (p := fun d => dc (XD W m a (k + 1) d)) (d := c) (by omega) rfl (dc_t.mpr hxd)] at this
                repeat' (first | (with_reducible assumption) | apply And.intro | intro _)
                all_goals (first | omega | exact LLx_ok | assumption | skip)
              · obtain ⟨b1, b2, b3, b4, b5⟩ := hbk d d1 d2
                by_cases hdc : d = c
                · subst hdc
                  rw [up_eq rfl rfl]
                  exact ⟨by omega, by omega, fun h => by omega, fun e e1 e2 => ⟨fun h => by omega, fun h => absurd h.1 (hxd.2 e (by omega))⟩, fun _ => ⟨fun _ => hxd, fun _ => rfl⟩⟩
                · rw [up_ne (by omega)]
                  exact ⟨b1, b2, fun h => b3 (by omega), b4, fun h => b5 (by omega)⟩
      have := inner (a + 1) (by omega) (by omega) g' (fun d d1 d2 => ?_) hf
      · rw [show mk (fun d => dc (XD W m a (k + 1) d)) (a + 1) = 0 from mk_zero.mpr (fun i hi => dc_f.mpr (fun hx => by have := hx.1.1; omega))] at this
        exact this
      · obtain ⟨b1, b2, b3⟩ := hbk d d1 d2
        exact ⟨b1, by omega, fun _ => b2, b3, fun h => by omega⟩
    · refine hQ g' (k + 1) (Or.inr ⟨k, rfl, by omega, ?_, hno, fun c e c1 c2 e1 e2 => (hbk c c1 c2).2.2 e e1 e2⟩) hf
      rw [hx' a ha, jb_and (i31 (hl a ha) (by omega)) (i31 hTl (by omega))] at h2
      obtain ⟨d, hd⟩ := bt_of_nz (show W a &&& T ≠ 0 by omega)
      rw [Nat.testBit_and, Bool.and_eq_true] at hd
      exact ⟨d, hd.1, ((hT d).mp hd.2).1⟩
  refine ⟨⟨by omega, by omega⟩, ?_⟩
  refine main 0 (by omega) (2 ^ a) _ g0 _ _ (fun d => ?_) (fun d => ?_) (Nat.pow_lt_pow_right (by decide) ha) (fun j hj => by omega) (fun c c1 c2 => ?_) (Or.inr ?_) (fun p i hp => z2 p i (by omega))
  · rw [Nat.testBit_two_pow, decide_eq_true_iff]
    exact ⟨fun h => ⟨h.symm, fun j hj => by omega⟩, fun h => h.1.symm⟩
  · rw [mk_bit, Bool.and_eq_true, decide_eq_true_iff, decide_eq_true_iff]
    constructor
    · rintro ⟨h1, h2⟩
      refine ⟨h2, h1, fun j hj hr => ?_⟩
      rw [show j = 0 by omega] at hr
      have hr : d = a := hr
      omega
    · rintro ⟨h1, h2, -⟩
      exact ⟨h2, h1⟩
  · have := z1 c (by omega) (by omega)
    exact ⟨by omega, by omega, fun e e1 e2 => by omega⟩
  · have := pcr_lt1 (a := mk (fun c => decide (a < c)) m) (b := 2 ^ m - 1) (fun i hi => by rw [mk_bit, Bool.and_eq_true] at hi; rw [full_bit]; exact hi.1) (i := a) (by rw [full_bit, decide_eq_true ha]) (by rw [mk_bit]; simp) m ha
    have := pcr_le (2 ^ m - 1) m
    omega
set_option maxRecDepth 100000 in
theorem sg_Wa_layRing_0 {A : jA} {n l : Nat} {g : jv_S} {Q : jv_V → jv_L → jv_S → Prop} {v1 : Int} (h :
   (0 ≤ (0 : Int) ∧ (0 : Int) < 10) ∧ 
    jv_At jv_T jv_ml kWa_layRing 11 [jv_P 60, jv_I v1, jv_I v1, jv_I (1 : Int), jv_U] [] (LL n l) (jv_up g 63 (0 : Int) v1) Q) :
  jv_At jv_T jv_ml kWa_layRing 0 [jv_P 60, jv_I v1, jv_U, jv_U, jv_U] [] (LL n l) g Q :=
  jv_of_wp (gok9 (A := A)) (md := []) (stop := [11, 24]) (tab := jt_Wa_layRing) rfl 400 _ _ _ _ _ h
set_option maxRecDepth 100000 in
theorem sg_Wa_layRing_11 {A : jA} {n l : Nat} {g : jv_S} {Q : jv_V → jv_L → jv_S → Prop} {v1 v2 v3 : Int} {v4 : jv_V} (h :
   ((g 60 9) ≤ v3 →
     Q jv_U (LL n l) g) ∧
    (¬ (g 60 9) ≤ v3 →
     jv_r32 (v1 + (1 : Int)) ∧
      jv_At jv_T jv_ml kWa_layRing 24 [jv_P 60, jv_I v1, jv_I v2, jv_I v3, jv_I (v1 + (1 : Int))] [] (LL n l) g Q)) :
  jv_At jv_T jv_ml kWa_layRing 11 [jv_P 60, jv_I v1, jv_I v2, jv_I v3, v4] [] (LL n l) g Q :=
  jv_of_wp (gok9 (A := A)) (md := []) (stop := [11, 24]) (tab := jt_Wa_layRing) rfl 400 _ _ _ _ _ h
set_option maxRecDepth 100000 in
theorem sg_Wa_layRing_24 {A : jA} {n l : Nat} {g : jv_S} {Q : jv_V → jv_L → jv_S → Prop} {v1 v2 v3 v4 : Int} (h :
   ((g 14 1) ≤ v4 →
     (0 ≤ v3 ∧ v3 < 10) ∧ 
      jv_r32 (v3 + (1 : Int)) ∧
      jv_At jv_T jv_ml kWa_layRing 11 [jv_P 60, jv_I v1, jv_I v2, jv_I (v3 + (1 : Int)), jv_I v4] [] (LL n l) (jv_up g 63 v3 v2) Q) ∧
    (¬ (g 14 1) ≤ v4 →
     (0 ≤ v2 ∧ v2 < 10) ∧
      ((0 ≤ (g 62 v2) ∧ (g 62 v2) < 2147483648 ∧ 0 ≤ v4 ∧ v4 < 31)) ∧
      ((hb (g 62 v2) v4) = 0 →
       jv_r32 (v4 + (1 : Int)) ∧
        jv_At jv_T jv_ml kWa_layRing 24 [jv_P 60, jv_I v1, jv_I v2, jv_I v3, jv_I (v4 + (1 : Int))] [] (LL n l) g Q) ∧
      (¬ (hb (g 62 v2) v4) = 0 →
       (0 ≤ v4 ∧ v4 < 10) ∧
        jv_r32 ((g 60 9) - v3) ∧
        ((g 66 v4) = ((g 60 9) - v3) →
         (0 ≤ v3 ∧ v3 < 10) ∧ 
          jv_r32 (v3 + (1 : Int)) ∧
          jv_At jv_T jv_ml kWa_layRing 11 [jv_P 60, jv_I v1, jv_I v4, jv_I (v3 + (1 : Int)), jv_I v4] [] (LL n l) (jv_up g 63 v3 v4) Q) ∧
        (¬ (g 66 v4) = ((g 60 9) - v3) →
         jv_r32 (v4 + (1 : Int)) ∧
          jv_At jv_T jv_ml kWa_layRing 24 [jv_P 60, jv_I v1, jv_I v2, jv_I v3, jv_I (v4 + (1 : Int))] [] (LL n l) g Q)))) :
  jv_At jv_T jv_ml kWa_layRing 24 [jv_P 60, jv_I v1, jv_I v2, jv_I v3, jv_I v4] [] (LL n l) g Q :=
  jv_of_wp (gok9 (A := A)) (md := []) (stop := [11, 24]) (tab := jt_Wa_layRing) rfl 400 _ _ _ _ _ h
theorem tr_Wa_layRing {A : jA} {n l : Nat} {g : jv_S} {Q : jv_V → jv_L → jv_S → Prop} {W : Nat → Nat} {m a k : Nat} (hm : m ≤ 10) (f2 : g 14 1 = m) (hx : ∀ c : Nat, c < m → g 62 c = W c) (hl : ∀ c, c < m → W c < 2 ^ m) (ha : a < m) (hk1 : 1 ≤ k) (hkm : k + 1 ≤ m) (hL : g 60 9 = ((k + 1 : Nat) : Int)) (hck : CK W m a k) (hno : ∀ j, j < k → ¬ CK W m a j) (hbk : ∀ c e : Nat, a < c → c < m → 1 ≤ e → e ≤ k → (g 66 c = e ↔ XD W m a e c))
  (hQ : ∀ (g' : jv_S) (s : Nat → Nat), GR W m a (k + 1) s → (∀ i : Nat, i < k + 1 → g' 63 i = s i) → (∀ (p : Nat) (i : Int), ¬ p = 63 → g' p i = g p i) → Q jv_U (LL n l) g') :
  jv_Ca jv_T jv_ml kWa_layRing [jv_P 60, jv_I a] (LL n l) g Q := by
  have main : ∀ q, q ≤ k → ∀ (g' : jv_S) (s : Nat → Nat) (v4 : jv_V), s 0 = a → (∀ j, j < q → a < s (j + 1) ∧ s (j + 1) < m ∧ (W (s j)).testBit (s (j + 1)) = true ∧ XD W m a (k + 1 - (j + 1)) (s (j + 1)) ∧ ∀ c, a < c → c < s (j + 1) → (W (s j)).testBit c = true → ¬ XD W m a (k + 1 - (j + 1)) c) → (∀ i : Nat, i < q + 1 → g' 63 i = s i) → (∀ (p : Nat) (i : Int), ¬ p = 63 → g' p i = g p i) → jv_At jv_T jv_ml kWa_layRing 11 [jv_P 60, jv_I a, jv_I (s q : Nat), jv_I (q + 1), v4] [] (LL n l) (g') Q := by
    apply loop_up
    intro q hq ih g' s v4 h0 h1 h2 hf
    have f2' : g' 14 1 = m := by rw [hf _ _ (by decide)]; exact f2
    have fL : g' 60 9 = ((k + 1 : Nat) : Int) := by rw [hf _ _ (by decide)]; exact hL
    have hx' : ∀ c : Nat, c < m → g' 62 c = W c := fun c hc => by rw [hf _ _ (by decide)]; exact hx c hc
    apply sg_Wa_layRing_11 (A := A)
    refine ⟨fun h => hQ g' s ⟨by omega, h0, ha, fun j hj => h1 j (by omega)⟩ (fun i hi => h2 i (by omega)) hf, fun h => ⟨⟨by omega, by omega⟩, ?_⟩⟩
    have hsq : s q < m := by
      cases q with
      | zero => omega
      | succ q => exact (h1 q (by omega)).2.1
    have hex : ∃ d, (W (s q)).testBit d = true ∧ XD W m a (k - q) d := by
      cases q with
      | zero =>
        obtain ⟨d, d1, d2⟩ := CK_next hck hno
        exact ⟨d, by rw [h0]; exact d1, d2⟩
      | succ q =>
        have := (h1 q (by omega)).2.2.2.1
        rw [show k + 1 - (q + 1) = k - (q + 1) + 1 by omega] at this
        exact XD_next this
    have inner : ∀ c, c ≤ m → a < c → (∀ d, a < d → d < c → (W (s q)).testBit d = true → ¬ XD W m a (k - q) d) → jv_At jv_T jv_ml kWa_layRing 24 [jv_P 60, jv_I a, jv_I (s q : Nat), jv_I (q + 1), jv_I c] [] (LL n l) (g') Q := by
      apply loop_up
      intro c hc ihc hac hnone
      apply sg_Wa_layRing_24 (A := A)
      refine ⟨fun h3 => ?_, fun h3 => ?_⟩
      · exfalso
        obtain ⟨d, d1, d2⟩ := hex
        have d3 := d2.1
        rw [show k - q = k - q - 1 + 1 by omega] at d3
        exact hnone d d3.1 (by have := d3.2.1; omega) d1 d2
      · have fx := hx' (s q) hsq
        have hW31 := i31 (hl _ hsq) (by omega)
        have hb := hbk c (k - q) hac (by omega) (by omega) (by omega)
        have f66 : g' 66 c = g 66 c := hf _ _ (by decide)
        have nno : ¬ ((W (s q)).testBit c = true ∧ XD W m a (k - q) c) → jv_At jv_T jv_ml kWa_layRing 24 [jv_P 60, jv_I a, jv_I (s q : Nat), jv_I (q + 1), jv_I (c + 1)] [] (LL n l) (g') Q := fun hn => ihc (by omega) (by omega) (fun d d1 d2 d3 d4 => by
          by_cases hdc : d = c
          · subst hdc; exact hn ⟨d3, d4⟩
          · exact hnone d d1 (by omega) d3 d4)
        rw [fx]
        cases hbit : (W (s q)).testBit c with
        | false =>
          have e0 := hb_f hbit
          have := nno (fun h => by rw [h.1] at hbit; cases hbit)
          rw [e0]
          repeat' (first | (with_reducible assumption) | apply And.intro | intro _)
          all_goals (first | omega | exact LLx_ok | assumption | skip)
        | true =>
          have e0 := hb_t hbit
          rw [e0]
          by_cases hxd : XD W m a (k - q) c
          · have hb' := hb.mpr hxd
            have := ih (by omega) (jv_up g' 63 (q + 1) c) (fun i => if i = q + 1 then c else s i) (jv_I c) (by simp [h0]) (fun j hj => ?_) (fun i hi => ?_) (fun p i hp => by rw [up_ne (by omega)]; exact hf p i hp)
            · rw [if_pos rfl] at this
              repeat' (first | (with_reducible assumption) | apply And.intro | intro _)
              all_goals (first | omega | exact LLx_ok | assumption | skip)
            · by_cases hjq : j = q
              · subst hjq
                rw [if_pos rfl, if_neg (by omega), show k + 1 - (j + 1) = k - j by omega]
                exact ⟨hac, by omega, hbit, hxd, hnone⟩
              · rw [if_neg (by omega), if_neg (by omega)]
                exact h1 j (by omega)
            · by_cases hiq : i = q + 1
              · subst hiq
                rw [up_eq rfl (by omega), if_pos rfl]
              · rw [up_ne (by omega), if_neg hiq]
                exact h2 i (by omega)
          · have hb' : ¬ g 66 c = ((k - q : Nat) : Int) := fun h => hxd (hb.mp h)
            have := nno (fun h => hxd h.2)
            repeat' (first | (with_reducible assumption) | apply And.intro | intro _)
            all_goals (first | omega | exact LLx_ok | assumption | skip)
    exact inner (a + 1) (by omega) (by omega) (fun d d1 d2 => by omega)
  refine sg_Wa_layRing_0 (A := A) ⟨⟨by omega, by omega⟩, ?_⟩
  exact main 0 (by omega) _ (fun _ => a) _ rfl (fun j hj => by omega) (fun i hi => by rw [up_eq rfl (by omega)]) (fun p i hp => by rw [up_ne (by omega)])
/-- what is held of the ring -/
def RI (W : Nat → Nat) (m : Nat) (g : jv_S) : Prop := (g 60 9 = 0 ∧ gf (kn W) m (2 ^ m - 1) = 0) ∨ ∃ (L : Nat) (s : Nat → Nat), g 60 9 = L ∧ 2 ≤ L ∧ L ≤ m ∧ gf (kn W) m (2 ^ m - 1) ≠ 0 ∧ RG W m L s ∧ ∀ i : Nat, i < L → g 63 i = s i
set_option maxRecDepth 100000 in
theorem sg_Wa_findRing_0 {A : jA} {n l : Nat} {g : jv_S} {Q : jv_V → jv_L → jv_S → Prop} (h :
   jv_r32 ((jv_shl (1 : Int) ((jv_up g 60 9 (0 : Int)) 14 1)) - (1 : Int)) ∧
    jv_Ca jv_T jv_ml kX_knot [jv_P 62, jv_I ((jv_up g 60 9 (0 : Int)) 14 1), jv_I ((jv_shl (1 : Int) ((jv_up g 60 9 (0 : Int)) 14 1)) - (1 : Int))] (LL n l) (jv_up g 60 9 (0 : Int)) (fun r L2 g2 => jv_At jv_T jv_ml kWa_findRing 30 [jv_P 60, jv_U, jv_U] (jv_pu r []) L2 g2 Q)) :
  jv_At jv_T jv_ml kWa_findRing 0 [jv_P 60, jv_U, jv_U] [] (LL n l) g Q :=
  jv_of_wp (gok9 (A := A)) (md := []) (stop := [36]) (tab := jt_Wa_findRing) rfl 400 _ _ _ _ _ h
set_option maxRecDepth 100000 in
theorem sg_Wa_findRing_30 {A : jA} {n l : Nat} {g : jv_S} {Q : jv_V → jv_L → jv_S → Prop} {s0 : Int} {v1 v2 : jv_V} (h :
   (s0 = 0 →
     Q jv_U (LL n l) g) ∧
    (¬ s0 = 0 →
     jv_At jv_T jv_ml kWa_findRing 36 [jv_P 60, jv_I (0 : Int), v2] [] (LL n l) g Q)) :
  jv_At jv_T jv_ml kWa_findRing 30 [jv_P 60, v1, v2] [jv_I s0] (LL n l) g Q :=
  jv_of_wp (gok9 (A := A)) (md := []) (stop := [36]) (tab := jt_Wa_findRing) rfl 400 _ _ _ _ _ h
set_option maxRecDepth 100000 in
theorem sg_Wa_findRing_36 {A : jA} {n l : Nat} {g : jv_S} {Q : jv_V → jv_L → jv_S → Prop} {v1 : Int} {v2 : jv_V} (h :
   ((g 14 1) ≤ v1 →
     Q jv_U (LL n l) g) ∧
    (¬ (g 14 1) ≤ v1 →
     jv_Ca jv_T jv_ml kWa_measureRing [jv_P 60, jv_I v1] (LL n l) g (fun r L2 g2 => jv_At jv_T jv_ml kWa_findRing 52 [jv_P 60, jv_I v1, v2] (jv_pu r []) L2 g2 Q))) :
  jv_At jv_T jv_ml kWa_findRing 36 [jv_P 60, jv_I v1, v2] [] (LL n l) g Q :=
  jv_of_wp (gok9 (A := A)) (md := []) (stop := [36]) (tab := jt_Wa_findRing) rfl 400 _ _ _ _ _ h
set_option maxRecDepth 100000 in
theorem sg_Wa_findRing_52 {A : jA} {n l : Nat} {g : jv_S} {Q : jv_V → jv_L → jv_S → Prop} {v1 s0 : Int} {v2 : jv_V} (h :
   (s0 ≤ 0 →
     jv_r32 (v1 + (1 : Int)) ∧
      jv_At jv_T jv_ml kWa_findRing 36 [jv_P 60, jv_I (v1 + (1 : Int)), jv_I s0] [] (LL n l) g Q) ∧
    (¬ s0 ≤ 0 →
     ((g 60 9) = 0 →
       jv_Ca jv_T jv_ml kWa_layRing [jv_P 60, jv_I v1] (LL n l) (jv_up g 60 9 s0) (fun r L2 g2 => jv_At jv_T jv_ml kWa_findRing 82 [jv_P 60, jv_I v1, jv_I s0] (jv_pu r []) L2 g2 Q)) ∧
      (¬ (g 60 9) = 0 →
       ((g 60 9) ≤ s0 →
         jv_r32 (v1 + (1 : Int)) ∧
          jv_At jv_T jv_ml kWa_findRing 36 [jv_P 60, jv_I (v1 + (1 : Int)), jv_I s0] [] (LL n l) g Q) ∧
        (¬ (g 60 9) ≤ s0 →
         jv_Ca jv_T jv_ml kWa_layRing [jv_P 60, jv_I v1] (LL n l) (jv_up g 60 9 s0) (fun r L2 g2 => jv_At jv_T jv_ml kWa_findRing 82 [jv_P 60, jv_I v1, jv_I s0] (jv_pu r []) L2 g2 Q))))) :
  jv_At jv_T jv_ml kWa_findRing 52 [jv_P 60, jv_I v1, v2] [jv_I s0] (LL n l) g Q :=
  jv_of_wp (gok9 (A := A)) (md := []) (stop := [36]) (tab := jt_Wa_findRing) rfl 400 _ _ _ _ _ h
set_option maxRecDepth 100000 in
theorem sg_Wa_findRing_82 {A : jA} {n l : Nat} {g : jv_S} {Q : jv_V → jv_L → jv_S → Prop} {v1 v2 : Int} (h :
   jv_r32 (v1 + (1 : Int)) ∧
    jv_At jv_T jv_ml kWa_findRing 36 [jv_P 60, jv_I (v1 + (1 : Int)), jv_I v2] [] (LL n l) g Q) :
  jv_At jv_T jv_ml kWa_findRing 82 [jv_P 60, jv_I v1, jv_I v2] [] (LL n l) g Q :=
  jv_of_wp (gok9 (A := A)) (md := []) (stop := [36]) (tab := jt_Wa_findRing) rfl 400 _ _ _ _ _ h
theorem tr_Wa_findRing {A : jA} {n l : Nat} {g : jv_S} {Q : jv_V → jv_L → jv_S → Prop} {W : Nat → Nat} {m : Nat} (hm : m ≤ 10) (f2 : g 14 1 = m) (hx : ∀ c : Nat, c < m → g 62 c = W c) (hl : ∀ c, c < m → W c < 2 ^ m) (hns : ∀ c, c < m → (W c).testBit c = false)
  (hQ : ∀ (g' : jv_S), RI W m g' → (∀ (p : Nat) (i : Int), ¬ (p = 63 ∨ p = 66 ∨ (p = 60 ∧ i = 9)) → g' p i = g p i) → Q jv_U (LL n l) g') :
  jv_Ca jv_T jv_ml kWa_findRing [jv_P 60] (LL n l) g Q := by
  have hp2 := pw10 hm
  have hp := Nat.two_pow_pos m
  apply sg_Wa_findRing_0 (A := A)
  have e14 : jv_up g 60 9 0 14 1 = m := by rw [up_ne (by decide)]; exact f2
  obtain ⟨s1, -, s3⟩ := shl_full (show m ≤ 30 by omega)
  rw [e14, s1]
  refine ⟨⟨by omega, by omega⟩, ?_⟩
  refine tr_X_knot_62 (A := A) hm (fun c hc => by rw [up_ne (by omega)]; exact hx c hc) hl full_lt ?_
  apply sg_Wa_findRing_30 (A := A)
  refine ⟨fun h => hQ _ (Or.inl ⟨up_eq rfl rfl, by omega⟩) (fun p i hp => up_ne (by omega)), fun h => ?_⟩
  have hgf : gf (kn W) m (2 ^ m - 1) ≠ 0 := by omega
  have main : ∀ a, a ≤ m → ∀ (g' : jv_S) (v : jv_V), ((g' 60 9 = 0 ∧ ∀ a' k, a' < a → ¬ CK W m a' k) ∨ ∃ (L a0 : Nat) (s : Nat → Nat), g' 60 9 = L ∧ L ≤ m ∧ a0 < a ∧ GR W m a0 L s ∧ (∀ i : Nat, i < L → g' 63 i = s i) ∧ (∀ a' k, a' < a → CK W m a' k → L ≤ k + 1) ∧ ∀ a' k, a' < a0 → CK W m a' k → L < k + 1) → (∀ (p : Nat) (i : Int), ¬ (p = 63 ∨ p = 66 ∨ (p = 60 ∧ i = 9)) → g' p i = g p i) → jv_At jv_T jv_ml kWa_findRing 36 [jv_P 60, jv_I a, v] [] (LL n l) (g') Q := by
    apply loop_up
    intro a ha ih g' v hI hf
    have f2' : g' 14 1 = m := by rw [hf _ _ (by decide)]; exact f2
    have hx' : ∀ c : Nat, c < m → g' 62 c = W c := fun c hc => by rw [hf _ _ (by omega)]; exact hx c hc
    apply sg_Wa_findRing_36 (A := A)
    refine ⟨fun h => hQ g' (Or.inr ?_) hf, fun h => ?_⟩
    · rcases hI with ⟨h1, h2⟩ | ⟨L, a0, s, h1, h2, h3, h4, h5, h6, h7⟩
      · exfalso
        obtain ⟨a', k, h3, h4⟩ := CK_ex hgf
        exact h2 a' k (by omega) h4
      · exact ⟨L, s, h1, h4.1, h2, hgf, GR_RG h4 (fun a' k h => h6 a' k (by omega)) h7, h5⟩
    · refine tr_Wa_measureRing (A := A) hm f2' hx' hl (a := a) (by omega) (fun g1 L1 hMR hf1 => ?_)
      have f3 : g1 60 9 = g' 60 9 := hf1 _ _ (by decide)
      have hf1' : ∀ (p : Nat) (i : Int), ¬ (p = 63 ∨ p = 66 ∨ (p = 60 ∧ i = 9)) → g1 p i = g p i := fun p i hp => by rw [hf1 p i (by omega), hf p i hp]
      apply sg_Wa_findRing_52 (A := A)
      rcases hMR with ⟨m1, m2⟩ | ⟨k, m1, m2, m3, m4, m5⟩
      · have hI' : (g1 60 9 = 0 ∧ ∀ a' k, a' < a + 1 → ¬ CK W m a' k) ∨ ∃ (L a0 : Nat) (s : Nat → Nat), g1 60 9 = L ∧ L ≤ m ∧ a0 < a + 1 ∧ GR W m a0 L s ∧ (∀ i : Nat, i < L → g1 63 i = s i) ∧ (∀ a' k, a' < a + 1 → CK W m a' k → L ≤ k + 1) ∧ ∀ a' k, a' < a0 → CK W m a' k → L < k + 1 := by
          rcases hI with ⟨h1, h2⟩ | ⟨L, a0, s, h1, h2, h3, h4, h5, h6, h7⟩
          · refine Or.inl ⟨by omega, fun a' k hlt hck => ?_⟩
            by_cases haa : a' = a
            · subst haa; exact m2 k hck
            · exact h2 a' k (by omega) hck
          · refine Or.inr ⟨L, a0, s, by omega, h2, by omega, h4, fun i hi => by rw [hf1 _ _ (by decide)]; exact h5 i hi, fun a' k hlt hck => ?_, h7⟩
            by_cases haa : a' = a
            · subst haa; exact absurd hck (m2 k)
            · exact h6 a' k (by omega) hck
        have := ih (by omega) g1 (jv_I (L1 : Int)) hI' hf1'
        exact ⟨fun h1 => ⟨⟨by omega, by omega⟩, this⟩, fun h1 => by omega⟩
      · have hk1 : 1 ≤ k := by
          cases k with
          | zero =>
            exfalso
            obtain ⟨d, d1, d2⟩ := m3
            have d2 : d = a := d2
            rw [d2, hns a (by omega)] at d1
            cases d1
          | succ k => omega
        have hmin : ∀ j, CK W m a j → L1 ≤ j + 1 := fun j hj => by
          by_cases hlt : j < k
          · exact absurd hj (m4 j hlt)
          · omega
        have lay : (g' 60 9 = 0 ∨ (L1 : Int) < g' 60 9) → jv_Ca jv_T jv_ml kWa_layRing [jv_P 60, jv_I (a : Int)] (LL n l) (jv_up g1 60 9 (L1 : Int)) (fun r L2 g2 => jv_At jv_T jv_ml kWa_findRing 82 [jv_P 60, jv_I (a : Int), jv_I (L1 : Int)] (jv_pu r []) L2 g2 Q) := by
          intro hcase
          refine tr_Wa_layRing (A := A) (k := k) hm (by rw [up_ne (by decide), hf1 _ _ (by decide)]; exact f2') (fun c hc => by rw [up_ne (by omega), hf1 _ _ (by decide)]; exact hx' c hc) hl (by omega) hk1 (by omega) (by rw [up_eq rfl rfl, m1]) m3 m4 (fun c e c1 c2 e1 e2 => by rw [up_ne (by omega)]; exact m5 c e c1 c2 e1 e2) (fun g2 s r1 r2 r3 => ?_)
          apply sg_Wa_findRing_82 (A := A)
          refine ⟨⟨by omega, by omega⟩, ih (by omega) g2 _ (Or.inr ⟨L1, a, s, by rw [r3 _ _ (by decide), up_eq rfl rfl], m2, by omega, by rw [m1]; exact r1, fun i hi => r2 i (by omega), fun a' j hlt hck => ?_, fun a' j hlt hck => ?_⟩) (fun p i hp => by rw [r3 _ _ (by omega), up_ne (by omega)]; exact hf1' p i hp)⟩
          · by_cases haa : a' = a
            · subst haa; exact hmin j hck
            · rcases hI with ⟨h1, h2⟩ | ⟨L, a0, s, h1, h2, h3, h4, h5, h6, h7⟩
              · exact absurd hck (h2 a' j (by omega))
              · have := h6 a' j (by omega) hck; have := h4.1; omega
          · rcases hI with ⟨h1, h2⟩ | ⟨L, a0, s, h1, h2, h3, h4, h5, h6, h7⟩
            · exact absurd hck (h2 a' j (by omega))
            · have := h6 a' j (by omega) hck; have := h4.1; omega
        refine ⟨fun h1 => by omega, fun h1 => ⟨fun h2 => lay (Or.inl (by omega)), fun h2 => ⟨fun h3 => ⟨⟨by omega, by omega⟩, ?_⟩, fun h3 => lay (Or.inr (by omega))⟩⟩⟩
        rcases hI with ⟨h4, -⟩ | ⟨L, a0, s, h4, h5, h6, h7, h8, h9, h10⟩
        · omega
        · refine ih (by omega) g1 _ (Or.inr ⟨L, a0, s, by omega, h5, by omega, h7, fun i hi => by rw [hf1 _ _ (by decide)]; exact h8 i hi, fun a' j hlt hck => ?_, h10⟩) hf1'
          by_cases haa : a' = a
          · subst haa; have := hmin j hck; omega
          · exact h9 a' j (by omega) hck
  exact main 0 (by omega) _ _ (Or.inl ⟨up_eq rfl rfl, fun a' k h => by omega⟩) (fun p i hp => up_ne (by omega))
set_option maxRecDepth 100000 in
theorem sg_Wa_findRanks_0 {A : jA} {n l : Nat} {g : jv_S} {Q : jv_V → jv_L → jv_S → Prop} (h :
   jv_Ca jv_T jv_ml kAr_fill [jv_P 64, jv_I (0 : Int)] (LL n l) g (fun r L2 g2 => jv_At jv_T jv_ml kWa_findRanks 8 [jv_P 60, jv_U, jv_U, jv_U] (jv_pu r []) L2 g2 Q)) :
  jv_At jv_T jv_ml kWa_findRanks 0 [jv_P 60, jv_U, jv_U, jv_U] [] (LL n l) g Q :=
  jv_of_wp (gok9 (A := A)) (md := []) (stop := [10, 23, 36]) (tab := jt_Wa_findRanks) rfl 400 _ _ _ _ _ h
set_option maxRecDepth 100000 in
theorem sg_Wa_findRanks_8 {A : jA} {n l : Nat} {g : jv_S} {Q : jv_V → jv_L → jv_S → Prop} {v1 v2 v3 : jv_V} (h :
   jv_At jv_T jv_ml kWa_findRanks 10 [jv_P 60, jv_I (0 : Int), v2, v3] [] (LL n l) g Q) :
  jv_At jv_T jv_ml kWa_findRanks 8 [jv_P 60, v1, v2, v3] [] (LL n l) g Q :=
  jv_of_wp (gok9 (A := A)) (md := []) (stop := [10, 23, 36]) (tab := jt_Wa_findRanks) rfl 400 _ _ _ _ _ h
set_option maxRecDepth 100000 in
theorem sg_Wa_findRanks_10 {A : jA} {n l : Nat} {g : jv_S} {Q : jv_V → jv_L → jv_S → Prop} {v1 : Int} {v2 v3 : jv_V} (h :
   ((g 14 1) ≤ v1 →
     Q jv_U (LL n l) g) ∧
    (¬ (g 14 1) ≤ v1 →
     jv_At jv_T jv_ml kWa_findRanks 23 [jv_P 60, jv_I v1, jv_I (0 : Int), v3] [] (LL n l) g Q)) :
  jv_At jv_T jv_ml kWa_findRanks 10 [jv_P 60, jv_I v1, v2, v3] [] (LL n l) g Q :=
  jv_of_wp (gok9 (A := A)) (md := []) (stop := [10, 23, 36]) (tab := jt_Wa_findRanks) rfl 400 _ _ _ _ _ h
set_option maxRecDepth 100000 in
theorem sg_Wa_findRanks_23 {A : jA} {n l : Nat} {g : jv_S} {Q : jv_V → jv_L → jv_S → Prop} {v1 v2 : Int} {v3 : jv_V} (h :
   ((g 14 1) ≤ v2 →
     jv_r32 (v1 + (1 : Int)) ∧
      jv_At jv_T jv_ml kWa_findRanks 10 [jv_P 60, jv_I (v1 + (1 : Int)), jv_I v2, v3] [] (LL n l) g Q) ∧
    (¬ (g 14 1) ≤ v2 →
     jv_At jv_T jv_ml kWa_findRanks 36 [jv_P 60, jv_I v1, jv_I v2, jv_I (0 : Int)] [] (LL n l) g Q)) :
  jv_At jv_T jv_ml kWa_findRanks 23 [jv_P 60, jv_I v1, jv_I v2, v3] [] (LL n l) g Q :=
  jv_of_wp (gok9 (A := A)) (md := []) (stop := [10, 23, 36]) (tab := jt_Wa_findRanks) rfl 400 _ _ _ _ _ h
set_option maxRecDepth 100000 in
theorem sg_Wa_findRanks_36 {A : jA} {n l : Nat} {g : jv_S} {Q : jv_V → jv_L → jv_S → Prop} {v1 v2 v3 : Int} (h :
   ((g 14 1) ≤ v3 →
     jv_r32 (v2 + (1 : Int)) ∧
      jv_At jv_T jv_ml kWa_findRanks 23 [jv_P 60, jv_I v1, jv_I (v2 + (1 : Int)), jv_I v3] [] (LL n l) g Q) ∧
    (¬ (g 14 1) ≤ v3 →
     (0 ≤ v2 ∧ v2 < 10) ∧
      ((0 ≤ (g 62 v2) ∧ (g 62 v2) < 2147483648 ∧ 0 ≤ v3 ∧ v3 < 31)) ∧
      ((hb (g 62 v2) v3) = 0 →
       jv_r32 (v3 + (1 : Int)) ∧
        jv_At jv_T jv_ml kWa_findRanks 36 [jv_P 60, jv_I v1, jv_I v2, jv_I (v3 + (1 : Int))] [] (LL n l) g Q) ∧
      (¬ (hb (g 62 v2) v3) = 0 →
       (0 ≤ v2 ∧ v2 < 10) ∧
        (0 ≤ v3 ∧ v3 < 10) ∧
        jv_r32 ((g 64 v3) + (1 : Int)) ∧
        (0 ≤ v2 ∧ v2 < 10) ∧ 
        jv_r32 (v3 + (1 : Int)) ∧
        jv_At jv_T jv_ml kWa_findRanks 36 [jv_P 60, jv_I v1, jv_I v2, jv_I (v3 + (1 : Int))] [] (LL n l) (jv_up g 64 v2 (if (g 64 v2) < ((g 64 v3) + (1 : Int)) then ((g 64 v3) + (1 : Int)) else (g 64 v2))) Q))) :
  jv_At jv_T jv_ml kWa_findRanks 36 [jv_P 60, jv_I v1, jv_I v2, jv_I v3] [] (LL n l) g Q :=
  jv_of_wp (gok9 (A := A)) (md := []) (stop := [10, 23, 36]) (tab := jt_Wa_findRanks) rfl 400 _ _ _ _ _ h
theorem tr_Wa_findRanks {A : jA} {n l : Nat} {g : jv_S} {Q : jv_V → jv_L → jv_S → Prop} {W : Nat → Nat} {m : Nat} (hm : m ≤ 10) (f2 : g 14 1 = m) (hx : ∀ c : Nat, c < m → g 62 c = W c) (hl : ∀ c, c < m → W c < 2 ^ m)
  (hQ : ∀ (g' : jv_S), (∀ c : Nat, c < m → g' 64 c = rkr W m m c) → (∀ (p : Nat) (i : Int), ¬ p = 64 → g' p i = g p i) → Q jv_U (LL n l) g') :
  jv_Ca jv_T jv_ml kWa_findRanks [jv_P 60] (LL n l) g Q := by
  apply sg_Wa_findRanks_0 (A := A)
  refine tr_Ar_fill_64 (fun g0 z1 z2 => ?_)
  apply sg_Wa_findRanks_8 (A := A)
  have main : ∀ k, k ≤ m → ∀ (g' : jv_S) (v w : jv_V), (∀ c : Nat, c < m → g' 64 c = rkr W m k c) → (∀ (p : Nat) (i : Int), ¬ p = 64 → g' p i = g p i) → jv_At jv_T jv_ml kWa_findRanks 10 [jv_P 60, jv_I k, v, w] [] (LL n l) (g') Q := by
    apply loop_up
    intro k hk ih g' v w h1 hf
    have f2' : g' 14 1 = m := by rw [hf _ _ (by decide)]; exact f2
    apply sg_Wa_findRanks_10 (A := A)
    refine ⟨fun h => hQ g' (fun c hc => by rw [h1 c hc, show k = m by omega]) hf, fun h => ?_⟩
    have cs' : ∀ c, c ≤ m → ∀ (g' : jv_S) (w : jv_V), (∀ i : Nat, i < m → g' 64 i = rkc W m (rkr W m k) c i) → (∀ (p : Nat) (i : Int), ¬ p = 64 → g' p i = g p i) → jv_At jv_T jv_ml kWa_findRanks 23 [jv_P 60, jv_I k, jv_I c, w] [] (LL n l) (g') Q := by
      apply loop_up
      intro c hc ihc g' w h1 hf
      have f2' : g' 14 1 = m := by rw [hf _ _ (by decide)]; exact f2
      apply sg_Wa_findRanks_23 (A := A)
      refine ⟨fun h => ⟨⟨by omega, by omega⟩, ih (by omega) g' _ _ (fun i hi => by rw [h1 i hi, show c = m by omega]; rfl) hf⟩, fun h => ?_⟩
      have ds : ∀ d, d ≤ m → ∀ (g' : jv_S), (∀ i : Nat, i < m → g' 64 i = rkd W c (rkc W m (rkr W m k) c) d i) → (∀ (p : Nat) (i : Int), ¬ p = 64 → g' p i = g p i) → jv_At jv_T jv_ml kWa_findRanks 36 [jv_P 60, jv_I k, jv_I c, jv_I d] [] (LL n l) (g') Q := by
        apply loop_up
        intro d hd ihd g' h1 hf
        have f2' : g' 14 1 = m := by rw [hf _ _ (by decide)]; exact f2
        have bnd := rkd_b (W := W) (c := c) (rkc_b (W := W) hm (rkr_b (W := W) hm k) c) d
        apply sg_Wa_findRanks_36 (A := A)
        refine ⟨fun h => ⟨⟨by omega, by omega⟩, ihc (by omega) g' _ (fun i hi => by rw [h1 i hi, show d = m by omega]; rfl) hf⟩, fun h => ?_⟩
        have fx : g' 62 c = W c := by rw [hf _ _ (by decide)]; exact hx c (by omega)
        have hW31 := i31 (hl c (by omega)) (by omega)
        have b1 := bnd c
        have b2 := bnd d
        have v1 := h1 c (by omega)
        have v2 := h1 d (by omega)
        rw [fx]
        cases hbit : (W c).testBit d with
        | false =>
          have e0 := hb_f hbit
          have := ihd (by omega) g' (fun i hi => by
            rw [h1 i hi]
            show _ = rs W (rkd W c (rkc W m (rkr W m k) c) d) c d i
            unfold rs
            rw [hbit]
            rfl) hf
          rw [e0]
          repeat' (first | (with_reducible assumption) | apply And.intro | intro _)
          all_goals (first | omega | exact LLx_ok | assumption | skip)
        | true =>
          have e0 := hb_t hbit
          have := ihd (by omega) (jv_up g' 64 c (if g' 64 c < g' 64 d + 1 then g' 64 d + 1 else g' 64 c)) (fun i hi => by
            show _ = rs W (rkd W c (rkc W m (rkr W m k) c) d) c d i
            unfold rs
            rw [if_pos hbit]
            by_cases hic : i = c
            · subst hic
              rw [up_eq rfl rfl, if_pos rfl, v1, v2]
            · rw [up_ne (by omega), if_neg hic]
              exact h1 i hi) (fun p i hp => by rw [up_ne (by omega)]; exact hf p i hp)
          rw [e0]
          repeat' (first | (with_reducible assumption) | apply And.intro | intro _)
          all_goals (first | omega | exact LLx_ok | assumption | skip)
      exact ds 0 (by omega) g' h1 hf
    exact cs' 0 (by omega) g' _ h1 hf
  exact main 0 (by omega) g0 _ _ (fun c hc => by rw [z1 c (by omega) (by omega)]; rfl) (fun p i hp => z2 p i (by omega))
noncomputable def su (A : jA) : Bool := !anyB (fun y => !sv A y) (nd A)
/-- what the class has found out is so -/
def WK (A : jA) (g : jv_S) : Prop := (∀ y : Nat, y < nd A → g 61 y = cr A y) ∧ (∀ c : Nat, c < ln A → g 62 c = wt A c) ∧ g 60 8 = jb_b (su A) ∧ RI (wt A) (ln A) g ∧ (g 60 9 = 0 → ∀ c : Nat, c < ln A → g 64 c = rkr (wt A) (ln A) (ln A) c)
set_option maxRecDepth 100000 in
theorem sg_Wa_work_0 {A : jA} {n l : Nat} {g : jv_S} {Q : jv_V → jv_L → jv_S → Prop} (h :
   ((g 60 10) = (g 40 5) →
     Q jv_U (LL n l) g) ∧
    (¬ (g 60 10) = (g 40 5) →
     jv_Ca jv_T jv_ml kAr_fill [jv_P 62, jv_I (0 : Int)] (LL n l) (jv_up g 60 10 (g 40 5)) (fun r L2 g2 => jv_At jv_T jv_ml kWa_work 34 [jv_P 60, jv_U] (jv_pu r []) L2 g2 Q))) :
  jv_At jv_T jv_ml kWa_work 0 [jv_P 60, jv_U] [] (LL n l) g Q :=
  jv_of_wp (gok9 (A := A)) (md := []) (stop := [41]) (tab := jt_Wa_work) rfl 400 _ _ _ _ _ h
set_option maxRecDepth 100000 in
theorem sg_Wa_work_34 {A : jA} {n l : Nat} {g : jv_S} {Q : jv_V → jv_L → jv_S → Prop} {v1 : jv_V} (h :
   ((1 : Int) = 0 ∨ (1 : Int) = 1) ∧
    jv_At jv_T jv_ml kWa_work 41 [jv_P 60, jv_I (0 : Int)] [] (LL n l) (jv_up g 60 8 (1 : Int)) Q) :
  jv_At jv_T jv_ml kWa_work 34 [jv_P 60, v1] [] (LL n l) g Q :=
  jv_of_wp (gok9 (A := A)) (md := []) (stop := [41]) (tab := jt_Wa_work) rfl 400 _ _ _ _ _ h
set_option maxRecDepth 100000 in
theorem sg_Wa_work_41 {A : jA} {n l : Nat} {g : jv_S} {Q : jv_V → jv_L → jv_S → Prop} {v1 : Int} (h :
   ((g 14 0) ≤ v1 →
     jv_Ca jv_T jv_ml kWa_findRing [jv_P 60] (LL n l) g (fun r L2 g2 => jv_At jv_T jv_ml kWa_work 75 [jv_P 60, jv_I v1] (jv_pu r []) L2 g2 Q)) ∧
    (¬ (g 14 0) ≤ v1 →
     jv_Ca jv_T jv_ml kWa_survey [jv_P 60, jv_I v1] (LL n l) g (fun r L2 g2 => jv_At jv_T jv_ml kWa_work 57 [jv_P 60, jv_I v1] (jv_pu r []) L2 g2 Q))) :
  jv_At jv_T jv_ml kWa_work 41 [jv_P 60, jv_I v1] [] (LL n l) g Q :=
  jv_of_wp (gok9 (A := A)) (md := []) (stop := [41]) (tab := jt_Wa_work) rfl 400 _ _ _ _ _ h
set_option maxRecDepth 100000 in
theorem sg_Wa_work_57 {A : jA} {n l : Nat} {g : jv_S} {Q : jv_V → jv_L → jv_S → Prop} {v1 s0 : Int} (h :
   (s0 = 0 →
     ((0 : Int) = 0 ∨ (0 : Int) = 1) ∧
      jv_r32 (v1 + (1 : Int)) ∧
      jv_At jv_T jv_ml kWa_work 41 [jv_P 60, jv_I (v1 + (1 : Int))] [] (LL n l) (jv_up g 60 8 (0 : Int)) Q) ∧
    (¬ s0 = 0 →
     jv_r32 (v1 + (1 : Int)) ∧
      jv_At jv_T jv_ml kWa_work 41 [jv_P 60, jv_I (v1 + (1 : Int))] [] (LL n l) g Q)) :
  jv_At jv_T jv_ml kWa_work 57 [jv_P 60, jv_I v1] [jv_I s0] (LL n l) g Q :=
  jv_of_wp (gok9 (A := A)) (md := []) (stop := [41]) (tab := jt_Wa_work) rfl 400 _ _ _ _ _ h
set_option maxRecDepth 100000 in
theorem sg_Wa_work_75 {A : jA} {n l : Nat} {g : jv_S} {Q : jv_V → jv_L → jv_S → Prop} {v1 : Int} (h :
   ((g 60 9) = 0 →
     jv_Ca jv_T jv_ml kWa_findRanks [jv_P 60] (LL n l) g (fun r L2 g2 => jv_At jv_T jv_ml kWa_work 86 [jv_P 60, jv_I v1] (jv_pu r []) L2 g2 Q)) ∧
    (¬ (g 60 9) = 0 →
     Q jv_U (LL n l) g)) :
  jv_At jv_T jv_ml kWa_work 75 [jv_P 60, jv_I v1] [] (LL n l) g Q :=
  jv_of_wp (gok9 (A := A)) (md := []) (stop := [41]) (tab := jt_Wa_work) rfl 400 _ _ _ _ _ h
set_option maxRecDepth 100000 in
theorem sg_Wa_work_86 {A : jA} {n l : Nat} {g : jv_S} {Q : jv_V → jv_L → jv_S → Prop} {v1 : Int} (h :
   Q jv_U (LL n l) g) :
  jv_At jv_T jv_ml kWa_work 86 [jv_P 60, jv_I v1] [] (LL n l) g Q :=
  jv_of_wp (gok9 (A := A)) (md := []) (stop := [41]) (tab := jt_Wa_work) rfl 400 _ _ _ _ _ h
theorem tr_Wa_work {A : jA} {n l : Nat} {g : jv_S} {Q : jv_V → jv_L → jv_S → Prop} (hN : CN A g) (hW : CW 40 A g) (hk : g 60 10 = g 40 5 → WK A g)
  (hQ : ∀ (g' : jv_S), WK A g' → g' 60 10 = g 40 5 → (∀ (p : Nat) (i : Int), ¬ (60 ≤ p ∧ p ≤ 66) → g' p i = g p i) → Q jv_U (LL n l) g') :
  jv_Ca jv_T jv_ml kWa_work [jv_P 60] (LL n l) g Q := by
  have hw := hN.1
  have w1 := hw.1
  have w2 := hw.2.1
  apply sg_Wa_work_0 (A := A)
  refine ⟨fun h => hQ g (hk h) h (fun _ _ _ => rfl), fun h => ?_⟩
  refine tr_Ar_fill_62 (fun g0 z1 z2 => ?_)
  apply sg_Wa_work_34 (A := A)
  refine ⟨Or.inr rfl, ?_⟩
  have main : ∀ y, y ≤ nd A → ∀ g' : jv_S, (∀ j : Nat, j < y → g' 61 j = cr A j) → (∀ c : Nat, c < ln A → g' 62 c = (un (wy A c) y : Nat)) → g' 60 8 = jb_b (!anyB (fun y => !sv A y) y) → g' 60 10 = g 40 5 → (∀ (p : Nat) (i : Int), ¬ (60 ≤ p ∧ p ≤ 66) → g' p i = g p i) → jv_At jv_T jv_ml kWa_work 41 [jv_P 60, jv_I y] [] (LL n l) (g') Q := by
    apply loop_up
    intro y hy ih g' h1 h2 h3 h4 hf
    have hN' : CN A g' := CN_fr hN (fun p i a b => hf p i (by omega))
    have hW' : CW 40 A g' := CW_fr hW (hf _ _ (by decide)) (fun i => hf _ _ (by decide)) (fun i => hf _ _ (by decide)) (fun i => hf _ _ (by decide))
    have f1 := hN'.2.1
    apply sg_Wa_work_41 (A := A)
    refine ⟨fun h => ?_, fun h => ?_⟩
    · have hyl : y = nd A := by omega
      subst hyl
      refine tr_Wa_findRing (A := A) w2 hN'.2.2.1 h2 wt_lt (wt_ns hw) (fun g1 r1 r2 => ?_)
      apply sg_Wa_work_75 (A := A)
      refine ⟨fun h5 => ?_, fun h5 => ?_⟩
      · refine tr_Wa_findRanks (A := A) (W := wt A) w2 (by rw [r2 _ _ (by decide)]; exact hN'.2.2.1) (fun c hc => by rw [r2 _ _ (by omega)]; exact h2 c hc) wt_lt (fun g2 k1 k2 => ?_)
        apply sg_Wa_work_86 (A := A)
        refine hQ g2 ⟨fun j hj => ?_, fun c hc => ?_, ?_, ?_, fun _ => k1⟩ ?_ (fun p i hp => by rw [k2 _ _ (by omega), r2 _ _ (by omega)]; exact hf p i hp)
        · rw [k2 _ _ (by decide), r2 _ _ (by omega)]; exact h1 j hj
        · rw [k2 _ _ (by decide), r2 _ _ (by omega)]; exact h2 c hc
        · rw [k2 _ _ (by decide), r2 _ _ (by decide)]; exact h3
        · rcases r1 with ⟨a1, a2⟩ | ⟨L, s, a1, a2, a3, a4, a5, a6⟩
          · exact Or.inl ⟨by rw [k2 _ _ (by decide)]; exact a1, a2⟩
          · exact Or.inr ⟨L, s, by rw [k2 _ _ (by decide)]; exact a1, a2, a3, a4, a5, fun i hi => by rw [k2 _ _ (by decide)]; exact a6 i hi⟩
        · rw [k2 _ _ (by decide), r2 _ _ (by decide)]; exact h4
      · refine hQ g1 ⟨fun j hj => ?_, fun c hc => ?_, ?_, r1, fun h6 => absurd h6 h5⟩ ?_ (fun p i hp => by rw [r2 _ _ (by omega)]; exact hf p i hp)
        · rw [r2 _ _ (by omega)]; exact h1 j hj
        · rw [r2 _ _ (by omega)]; exact h2 c hc
        · rw [r2 _ _ (by decide)]; exact h3
        · rw [r2 _ _ (by decide)]; exact h4
    · refine tr_Wa_survey hN' hW' (y := y) (nx := fun c => un (wy A c) y) (by omega) h2 (fun c hc => un_lt (fun _ _ => wy_lt)) (fun g1 v1 v2 v3 => ?_)
      apply sg_Wa_work_57 (A := A)
      have e1 : ∀ c : Nat, c < ln A → g1 62 c = (un (wy A c) (y + 1) : Nat) := fun c hc => by rw [v2 c hc]; rfl
      have e2 : ∀ j : Nat, j < y + 1 → g1 61 j = cr A j := fun j hj => by
        by_cases hjy : j = y
        · subst hjy; exact v1
        · rw [v3 _ _ (by omega)]; exact h1 j (by omega)
      have e3 : (!anyB (fun y => !sv A y) (y + 1)) = (!anyB (fun y => !sv A y) y && sv A y) := by show (!(anyB (fun y => !sv A y) y || !sv A y)) = _; cases anyB (fun y => !sv A y) y <;> cases sv A y <;> rfl
      refine ⟨fun h5 => ⟨Or.inl rfl, ⟨by omega, by omega⟩, ih (by omega) _ (fun j hj => by rw [up_ne (by omega)]; exact e2 j hj) (fun c hc => by rw [up_ne (by omega)]; exact e1 c hc) ?_ (by rw [up_ne (by decide), v3 _ _ (by omega)]; exact h4) (fun p i hp => by rw [up_ne (by omega), v3 _ _ (by omega)]; exact hf p i hp)⟩, fun h5 => ⟨⟨by omega, by omega⟩, ih (by omega) g1 e2 e1 ?_ (by rw [v3 _ _ (by omega)]; exact h4) (fun p i hp => by rw [v3 _ _ (by omega)]; exact hf p i hp)⟩⟩
      · rw [jb0] at h5
        rw [up_eq rfl rfl, e3, h5, Bool.and_false]
        rfl
      · rw [jbn] at h5
        rw [v3 _ _ (by omega), h3, e3, h5, Bool.and_true]
  refine main 0 (by omega) _ (fun j hj => by omega) (fun c hc => ?_) (up_eq rfl rfl) (by rw [up_ne (by decide), z2 _ _ (by omega), up_eq rfl rfl]) (fun p i hp => by rw [up_ne (by omega), z2 _ _ (by omega), up_ne (by omega)])
  rw [up_ne (by omega), z1 c (by omega) (by omega)]
  rfl
set_option maxRecDepth 100000 in
theorem sg_Wa_isSound_0 {A : jA} {n l : Nat} {g : jv_S} {Q : jv_V → jv_L → jv_S → Prop} (h :
   jv_Ca jv_T jv_ml kAr_fill [jv_P 126, jv_I (0 : Int)] (LL n l) g (fun r L2 g2 => jv_At jv_T jv_ml kWa_isSound 8 [jv_P 124, jv_U] (jv_pu r []) L2 g2 Q)) :
  jv_At jv_T jv_ml kWa_isSound 0 [jv_P 124, jv_U] [] (LL n l) g Q :=
  jv_of_wp (gok9 (A := A)) (md := []) (stop := [10]) (tab := jt_Wa_isSound) rfl 400 _ _ _ _ _ h
set_option maxRecDepth 100000 in
theorem sg_Wa_isSound_8 {A : jA} {n l : Nat} {g : jv_S} {Q : jv_V → jv_L → jv_S → Prop} {v1 : jv_V} (h :
   jv_At jv_T jv_ml kWa_isSound 10 [jv_P 124, jv_I (0 : Int)] [] (LL n l) g Q) :
  jv_At jv_T jv_ml kWa_isSound 8 [jv_P 124, v1] [] (LL n l) g Q :=
  jv_of_wp (gok9 (A := A)) (md := []) (stop := [10]) (tab := jt_Wa_isSound) rfl 400 _ _ _ _ _ h
set_option maxRecDepth 100000 in
theorem sg_Wa_isSound_10 {A : jA} {n l : Nat} {g : jv_S} {Q : jv_V → jv_L → jv_S → Prop} {v1 : Int} (h :
   ((g 14 0) ≤ v1 →
     jv_r32 ((jv_shl (1 : Int) (g 14 1)) - (1 : Int)) ∧
      jv_Ca jv_T jv_ml kX_knot [jv_P 126, jv_I (g 14 1), jv_I ((jv_shl (1 : Int) (g 14 1)) - (1 : Int))] (LL n l) g (fun r L2 g2 => jv_At jv_T jv_ml kWa_isSound 62 [jv_P 124, jv_I v1] (jv_pu r []) L2 g2 Q)) ∧
    (¬ (g 14 0) ≤ v1 →
     jv_Ca jv_T jv_ml kWa_survey [jv_P 124, jv_I v1] (LL n l) g (fun r L2 g2 => jv_At jv_T jv_ml kWa_isSound 26 [jv_P 124, jv_I v1] (jv_pu r []) L2 g2 Q))) :
  jv_At jv_T jv_ml kWa_isSound 10 [jv_P 124, jv_I v1] [] (LL n l) g Q :=
  jv_of_wp (gok9 (A := A)) (md := []) (stop := [10]) (tab := jt_Wa_isSound) rfl 400 _ _ _ _ _ h
set_option maxRecDepth 100000 in
theorem sg_Wa_isSound_26 {A : jA} {n l : Nat} {g : jv_S} {Q : jv_V → jv_L → jv_S → Prop} {v1 s0 : Int} (h :
   (s0 = 0 →
     ((0 : Int) = 0 ∨ (0 : Int) = 1) ∧ Q (jv_I (0 : Int)) (LL n l) g) ∧
    (¬ s0 = 0 →
     jv_r32 (v1 + (1 : Int)) ∧
      jv_At jv_T jv_ml kWa_isSound 10 [jv_P 124, jv_I (v1 + (1 : Int))] [] (LL n l) g Q)) :
  jv_At jv_T jv_ml kWa_isSound 26 [jv_P 124, jv_I v1] [jv_I s0] (LL n l) g Q :=
  jv_of_wp (gok9 (A := A)) (md := []) (stop := [10]) (tab := jt_Wa_isSound) rfl 400 _ _ _ _ _ h
set_option maxRecDepth 100000 in
theorem sg_Wa_isSound_62 {A : jA} {n l : Nat} {g : jv_S} {Q : jv_V → jv_L → jv_S → Prop} {v1 s0 : Int} (h :
   (s0 = 0 →
     ((1 : Int) = 0 ∨ (1 : Int) = 1) ∧ Q (jv_I (1 : Int)) (LL n l) g) ∧
    (¬ s0 = 0 →
     ((0 : Int) = 0 ∨ (0 : Int) = 1) ∧ Q (jv_I (0 : Int)) (LL n l) g)) :
  jv_At jv_T jv_ml kWa_isSound 62 [jv_P 124, jv_I v1] [jv_I s0] (LL n l) g Q :=
  jv_of_wp (gok9 (A := A)) (md := []) (stop := [10]) (tab := jt_Wa_isSound) rfl 400 _ _ _ _ _ h
noncomputable def sd (A : jA) : Bool := su A && decide (kG A = 0)
theorem tr_Wa_isSound {A : jA} {n l : Nat} {g : jv_S} {Q : jv_V → jv_L → jv_S → Prop} (hN : CN A g) (hW : CW 104 A g)
  (hQ : ∀ (g' : jv_S), (∀ (p : Nat) (i : Int), ¬ (124 ≤ p ∧ p ≤ 130) → g' p i = g p i) → Q (jv_I (jb_b (sd A))) (LL n l) g') :
  jv_Ca jv_T jv_ml kWa_isSound [jv_P 124] (LL n l) g Q := by
  have hw := hN.1
  have w1 := hw.1
  have w2 := hw.2.1
  have hp2 := pw10 w2
  have hp := Nat.two_pow_pos (ln A)
  apply sg_Wa_isSound_0 (A := A)
  refine tr_Ar_fill_126 (fun g0 z1 z2 => ?_)
  apply sg_Wa_isSound_8 (A := A)
  have main : ∀ y, y ≤ nd A → ∀ g' : jv_S, (∀ c : Nat, c < ln A → g' 126 c = (un (wy A c) y : Nat)) → anyB (fun y => !sv A y) y = false → (∀ (p : Nat) (i : Int), ¬ (124 ≤ p ∧ p ≤ 130) → g' p i = g p i) → jv_At jv_T jv_ml kWa_isSound 10 [jv_P 124, jv_I y] [] (LL n l) (g') Q := by
    apply loop_up
    intro y hy ih g' h2 h3 hf
    have hN' : CN A g' := CN_fr hN (fun p i a b => hf p i (by omega))
    have hW' : CW 104 A g' := CW_fr hW (hf _ _ (by decide)) (fun i => hf _ _ (by decide)) (fun i => hf _ _ (by decide)) (fun i => hf _ _ (by decide))
    have f1 := hN'.2.1
    have f2 := hN'.2.2.1
    apply sg_Wa_isSound_10 (A := A)
    refine ⟨fun h => ?_, fun h => ?_⟩
    · have hyl : y = nd A := by omega
      subst hyl
      obtain ⟨s1, -, s3⟩ := shl_full (show ln A ≤ 30 by omega)
      rw [f2, s1]
      refine ⟨⟨by omega, by omega⟩, ?_⟩
      refine tr_X_knot_126 (A := A) w2 h2 wt_lt full_lt ?_
      apply sg_Wa_isSound_62 (A := A)
      have hQ' := hQ g' hf
      unfold sd su at hQ'
      rw [h3] at hQ'
      refine ⟨fun h5 => ⟨Or.inr rfl, ?_⟩, fun h5 => ⟨Or.inl rfl, ?_⟩⟩
      · have h6 : ((kG A : Nat) : Int) = 0 := h5
        rw [decide_eq_true (show kG A = 0 by omega)] at hQ'
        exact hQ'
      · have h6 : ¬ ((kG A : Nat) : Int) = 0 := h5
        rw [decide_eq_false (show ¬ kG A = 0 by omega)] at hQ'
        exact hQ'
    · refine tr_Wa_survey2 hN' hW' (y := y) (nx := fun c => un (wy A c) y) (by omega) h2 (fun c hc => un_lt (fun _ _ => wy_lt)) (fun g1 v1 v2 v3 => ?_)
      apply sg_Wa_isSound_26 (A := A)
      have e1 : ∀ c : Nat, c < ln A → g1 126 c = (un (wy A c) (y + 1) : Nat) := fun c hc => by rw [v2 c hc]; rfl
      have hf1 : ∀ (p : Nat) (i : Int), ¬ (124 ≤ p ∧ p ≤ 130) → g1 p i = g p i := fun p i hp => by rw [v3 _ _ (by omega)]; exact hf p i hp
      refine ⟨fun h5 => ⟨Or.inl rfl, ?_⟩, fun h5 => ⟨⟨by omega, by omega⟩, ih (by omega) g1 e1 ?_ hf1⟩⟩
      · rw [jb0] at h5
        have hQ' := hQ g1 hf1
        unfold sd su at hQ'
        rw [anyB_t.mpr ⟨y, by omega, by rw [h5]; rfl⟩] at hQ'
        exact hQ'
      · rw [jbn] at h5
        show (anyB (fun y => !sv A y) y || !sv A y) = false
        rw [h3, h5]
        rfl
  refine main 0 (by omega) _ (fun c hc => ?_) rfl (fun p i hp => z2 _ _ (by omega))
  rw [z1 c (by omega) (by omega)]
  rfl
