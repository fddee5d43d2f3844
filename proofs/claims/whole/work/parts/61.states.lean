/-! ===== states, both sides ===== -/
/-- what states answers -/
def StA (A : jA) (what r : Int) : Prop := (¬ (0 ≤ what ∧ what ≤ 2) ∧ r = -2) ∨ ((0 ≤ what ∧ what ≤ 2) ∧ ¬ ftC A ∧ r = -3) ∨ ((0 ≤ what ∧ what ≤ 2) ∧ ftC A ∧ ∃ (V : List (Nat → Nat)) (s : Int), V.Nodup ∧ (∀ D, D ∈ V ↔ ∃ k, rkC A k D) ∧ SD A V s ∧ r = if what = 0 then (V.length : Int) else if what = 1 then (dcn A V : Int) else s)
theorem dcn_eq {A : jA} {V W : List (Nat → Nat)} (h1 : V.Nodup) (h2 : W.Nodup) (h : ∀ D, D ∈ V ↔ D ∈ W) : dcn A V = dcn A W := by
  unfold dcn
  refine nd_eq (List.Pairwise.sublist List.filter_sublist h1) (List.Pairwise.sublist List.filter_sublist h2) (fun D => ?_)
  rw [List.mem_filter, List.mem_filter, h]
theorem SD_uniq {A : jA} {V W : List (Nat → Nat)} {s t : Int} (hV : ∀ D, D ∈ V ↔ ∃ k, rkC A k D) (hW : ∀ D, D ∈ W ↔ ∃ k, rkC A k D) (h1 : SD A V s) (h2 : SD A W t) : s = t := by
  have no : ∀ {U : List (Nat → Nat)}, (∀ D, D ∈ U ↔ ∃ k, rkC A k D) → dcn A U = 0 → ∀ {d : Nat}, (∃ D, rkC A d D ∧ dD A D ≠ 0) → False := fun hU h0 d ⟨D, d1, d2⟩ => dcn_ne.mpr ⟨D, (hU D).mpr ⟨d, d1⟩, d2⟩ h0
  rcases h1 with ⟨a1, a2⟩ | ⟨d, a1, a2, a3⟩ <;> rcases h2 with ⟨b1, b2⟩ | ⟨e, b1, b2, b3⟩
  · omega
  · exact (no hV a1 b2).elim
  · exact (no hW b1 a2).elim
  · have h1 : ¬ d < e := fun h => by obtain ⟨D, u, v⟩ := a2; exact v (b3 d h D u)
    have h2 : ¬ e < d := fun h => by obtain ⟨D, u, v⟩ := b2; exact v (a3 e h D u)
    omega
theorem StA_uniq {A : jA} {what r r' : Int} (h1 : StA A what r) (h2 : StA A what r') : r = r' := by
  rcases h1 with ⟨a, b⟩ | ⟨a, b, c⟩ | ⟨a, b, V, s, v1, v2, v3, v4⟩ <;> rcases h2 with ⟨a', b'⟩ | ⟨a', b', c'⟩ | ⟨a', b', W, t, w1, w2, w3, w4⟩
  · omega
  · exact absurd a' a
  · exact absurd a' a
  · exact absurd a a'
  · omega
  · exact absurd b' b
  · exact absurd a a'
  · exact absurd b b'
  · have hm : ∀ D, D ∈ V ↔ D ∈ W := fun D => by rw [v2, w2]
    rw [v4, w4, nd_eq v1 w1 hm, dcn_eq v1 w1 hm, SD_uniq v2 w2 v3 w3]
set_option maxRecDepth 100000 in
theorem sg_X_states_0 {A : jA} {n l : Nat} {g : jv_S} {Q : jv_V → jv_L → jv_S → Prop} {v1 : Int} (h :
   (v1 < 0 →
     Q (jv_I (-2 : Int)) (LL n l) g) ∧
    (¬ v1 < 0 →
     (v1 ≤ (2 : Int) →
       jv_Ca jv_T jv_ml kSa_fit [jv_P 80] (LL n l) g (fun r L2 g2 => jv_At jv_T jv_ml kX_states 19 [jv_P 1, jv_I v1] (jv_pu r []) L2 g2 Q)) ∧
      (¬ v1 ≤ (2 : Int) →
       Q (jv_I (-2 : Int)) (LL n l) g))) :
  jv_At jv_T jv_ml kX_states 0 [jv_P 1, jv_I v1] [] (LL n l) g Q :=
  jv_of_wp (gok9 (A := A)) (md := []) (stop := []) (tab := jt_X_states) rfl 400 _ _ _ _ _ h
set_option maxRecDepth 100000 in
theorem sg_X_states_19 {A : jA} {n l : Nat} {g : jv_S} {Q : jv_V → jv_L → jv_S → Prop} {v1 s0 : Int} (h :
   (s0 = 0 →
     Q (jv_I (-3 : Int)) (LL n l) g) ∧
    (¬ s0 = 0 →
     jv_Ca jv_T jv_ml kSa_work [jv_P 80] (LL n l) g (fun r L2 g2 => jv_At jv_T jv_ml kX_states 32 [jv_P 1, jv_I v1] (jv_pu r []) L2 g2 Q))) :
  jv_At jv_T jv_ml kX_states 19 [jv_P 1, jv_I v1] [jv_I s0] (LL n l) g Q :=
  jv_of_wp (gok9 (A := A)) (md := []) (stop := []) (tab := jt_X_states) rfl 400 _ _ _ _ _ h
set_option maxRecDepth 100000 in
theorem sg_X_states_32 {A : jA} {n l : Nat} {g : jv_S} {Q : jv_V → jv_L → jv_S → Prop} {v1 : Int} (h :
   (v1 = 0 →
     Q (jv_I (g 80 9)) (LL n l) g) ∧
    (¬ v1 = 0 →
     (v1 = (1 : Int) →
       Q (jv_I (g 80 10)) (LL n l) g) ∧
      (¬ v1 = (1 : Int) →
       Q (jv_I (g 80 11)) (LL n l) g))) :
  jv_At jv_T jv_ml kX_states 32 [jv_P 1, jv_I v1] [] (LL n l) g Q :=
  jv_of_wp (gok9 (A := A)) (md := []) (stop := []) (tab := jt_X_states) rfl 400 _ _ _ _ _ h
theorem tr_X_states {A : jA} {n l : Nat} {g : jv_S} {Q : jv_V → jv_L → jv_S → Prop} {what : Int} (hN : CN A g) (hW : CW 40 A g) (h8 : g 80 8 = 0) (hc : g 80 12 = g 40 5 → StK A g)
  (hQ : ∀ (g' : jv_S) (r : Int), StA A what r → (g' 80 12 = g' 40 5 → StK A g') → g' 80 8 = 0 → (g' 80 12 = g 80 12 ∨ g' 80 12 = g 40 5) → (∀ (p : Nat) (i : Int), ¬ ((81 ≤ p ∧ p ≤ 86) ∨ (p = 80 ∧ 8 ≤ i ∧ i ≤ 12)) → g' p i = g p i) → Q (jv_I r) (LL n l) g') :
  jv_Ca jv_T jv_ml kX_states [jv_P 1, jv_I what] (LL n l) g Q := by
  have same : ∀ r, StA A what r → Q (jv_I r) (LL n l) g := fun r h => hQ g r h hc h8 (Or.inl rfl) (fun _ _ _ => rfl)
  apply sg_X_states_0 (A := A)
  refine ⟨fun h => same _ (Or.inl ⟨by omega, rfl⟩), fun h => ⟨fun h2 => ?_, fun h2 => same _ (Or.inl ⟨by omega, rfl⟩)⟩⟩
  refine tr_Sa_fit hN (fun hf => ?_) (fun hf => ?_)
  · apply sg_X_states_19 (A := A)
    refine ⟨fun h => by omega, fun _ => ?_⟩
    refine tr_Sa_work hN hW hf.2.2.1 hf.2.1 h8 hc (fun g1 a1 a2 a3 a4 => ?_)
    apply sg_X_states_32 (A := A)
    obtain ⟨V, v1, v2, v3, v4, v5⟩ := a1
    have fin : ∀ r, r = (if what = 0 then (V.length : Int) else if what = 1 then (dcn A V : Int) else g1 80 11) → Q (jv_I r) (LL n l) g1 := fun r hr => hQ g1 r (Or.inr (Or.inr ⟨⟨by omega, by omega⟩, hf, V, g1 80 11, v1, v2, v5, hr⟩)) (fun _ => ⟨V, v1, v2, v3, v4, v5⟩) a3 (Or.inr a2) a4
    refine ⟨fun h0 => fin _ (by rw [if_pos h0, v3]), fun h0 => ⟨fun h1 => fin _ (by rw [if_neg h0, if_pos h1, v4]), fun h1 => fin _ (by rw [if_neg h0, if_neg h1])⟩⟩
  · apply sg_X_states_19 (A := A)
    exact ⟨fun _ => same _ (Or.inr (Or.inl ⟨⟨by omega, by omega⟩, hf, rfl⟩)), fun h => absurd rfl h⟩
set_option maxRecDepth 100000 in
theorem sg_Y_states_0 {A : jA} {n l : Nat} {g : jv_S} {Q : jv_V → jv_L → jv_S → Prop} {v1 : Int} (h :
   ((True)) ∧
    ((jb_p ((0 : Int) ≤ v1 ∧ v1 ≤ (2 : Int))) = 0 →
     Q (jv_I (-2 : Int)) (LL n l) g) ∧
    (¬ (jb_p ((0 : Int) ≤ v1 ∧ v1 ≤ (2 : Int))) = 0 →
     jv_Ca jv_T jv_ml kY_isSmall [jv_P 136] (LL n l) g (fun r L2 g2 => jv_At jv_T jv_ml kY_states 16 [jv_P 136, jv_I v1, jv_U, jv_U, jv_U] (jv_pu r []) L2 g2 Q))) :
  jv_At jv_T jv_ml kY_states 0 [jv_P 136, jv_I v1, jv_U, jv_U, jv_U] [] (LL n l) g Q :=
  jv_of_wp (gok9 (A := A)) (md := []) (stop := [24, 58, 90]) (tab := jt_Y_states) rfl 400 _ _ _ _ _ h
set_option maxRecDepth 100000 in
theorem sg_Y_states_16 {A : jA} {n l : Nat} {g : jv_S} {Q : jv_V → jv_L → jv_S → Prop} {v1 s0 : Int} {v2 v3 v4 : jv_V} (h :
   (s0 = 0 →
     Q (jv_I (-3 : Int)) (LL n l) g) ∧
    (¬ s0 = 0 →
     jv_At jv_T jv_ml kY_states 24 [jv_P 136, jv_I v1, jv_I (0 : Int), v3, v4] [] (LL n l) g Q)) :
  jv_At jv_T jv_ml kY_states 16 [jv_P 136, jv_I v1, v2, v3, v4] [jv_I s0] (LL n l) g Q :=
  jv_of_wp (gok9 (A := A)) (md := []) (stop := [24, 58, 90]) (tab := jt_Y_states) rfl 400 _ _ _ _ _ h
set_option maxRecDepth 100000 in
theorem sg_Y_states_24 {A : jA} {n l : Nat} {g : jv_S} {Q : jv_V → jv_L → jv_S → Prop} {v1 v2 : Int} {v3 v4 : jv_V} (h :
   ((15625 : Int) ≤ v2 →
     jv_Ca jv_T jv_ml kY_enter [jv_P 136, jv_I (0 : Int), jv_I (0 : Int)] (LL n l) (jv_up g 136 25 (0 : Int)) (fun r L2 g2 => jv_At jv_T jv_ml kY_states 56 [jv_P 136, jv_I v1, jv_I v2, v3, v4] (jv_pu r []) L2 g2 Q)) ∧
    (¬ (15625 : Int) ≤ v2 →
     (0 ≤ v2 ∧ v2 < 15625) ∧ 
      jv_r32 (v2 + (1 : Int)) ∧
      jv_At jv_T jv_ml kY_states 24 [jv_P 136, jv_I v1, jv_I (v2 + (1 : Int)), v3, v4] [] (LL n l) (jv_up g 152 v2 (-9 : Int)) Q)) :
  jv_At jv_T jv_ml kY_states 24 [jv_P 136, jv_I v1, jv_I v2, v3, v4] [] (LL n l) g Q :=
  jv_of_wp (gok9 (A := A)) (md := []) (stop := [24, 58, 90]) (tab := jt_Y_states) rfl 400 _ _ _ _ _ h
set_option maxRecDepth 100000 in
theorem sg_Y_states_56 {A : jA} {n l : Nat} {g : jv_S} {Q : jv_V → jv_L → jv_S → Prop} {v1 v2 : Int} {v3 v4 : jv_V} (h :
   jv_At jv_T jv_ml kY_states 58 [jv_P 136, jv_I v1, jv_I (0 : Int), v3, v4] [] (LL n l) g Q) :
  jv_At jv_T jv_ml kY_states 56 [jv_P 136, jv_I v1, jv_I v2, v3, v4] [] (LL n l) g Q :=
  jv_of_wp (gok9 (A := A)) (md := []) (stop := [24, 58, 90]) (tab := jt_Y_states) rfl 400 _ _ _ _ _ h
set_option maxRecDepth 100000 in
theorem sg_Y_states_58 {A : jA} {n l : Nat} {g : jv_S} {Q : jv_V → jv_L → jv_S → Prop} {v1 v2 : Int} {v3 v4 : jv_V} (h :
   ((g 136 25) ≤ v2 →
     jv_At jv_T jv_ml kY_states 90 [jv_P 136, jv_I v1, jv_I (0 : Int), jv_I (-9 : Int), jv_I (0 : Int)] [] (LL n l) g Q) ∧
    (¬ (g 136 25) ≤ v2 →
     (0 ≤ v2 ∧ v2 < 15625) ∧
      jv_Ca jv_T jv_ml kY_stepFrom [jv_P 136, jv_I (g 153 v2)] (LL n l) g (fun r L2 g2 => jv_At jv_T jv_ml kY_states 76 [jv_P 136, jv_I v1, jv_I v2, v3, v4] (jv_pu r []) L2 g2 Q))) :
  jv_At jv_T jv_ml kY_states 58 [jv_P 136, jv_I v1, jv_I v2, v3, v4] [] (LL n l) g Q :=
  jv_of_wp (gok9 (A := A)) (md := []) (stop := [24, 58, 90]) (tab := jt_Y_states) rfl 400 _ _ _ _ _ h
set_option maxRecDepth 100000 in
theorem sg_Y_states_76 {A : jA} {n l : Nat} {g : jv_S} {Q : jv_V → jv_L → jv_S → Prop} {v1 v2 : Int} {v3 v4 : jv_V} (h :
   jv_r32 (v2 + (1 : Int)) ∧
    jv_At jv_T jv_ml kY_states 58 [jv_P 136, jv_I v1, jv_I (v2 + (1 : Int)), v3, v4] [] (LL n l) g Q) :
  jv_At jv_T jv_ml kY_states 76 [jv_P 136, jv_I v1, jv_I v2, v3, v4] [] (LL n l) g Q :=
  jv_of_wp (gok9 (A := A)) (md := []) (stop := [24, 58, 90]) (tab := jt_Y_states) rfl 400 _ _ _ _ _ h
set_option maxRecDepth 100000 in
theorem sg_Y_states_90 {A : jA} {n l : Nat} {g : jv_S} {Q : jv_V → jv_L → jv_S → Prop} {v1 v2 v3 v4 : Int} (h :
   ((g 136 25) ≤ v4 →
     (v1 = 0 →
       Q (jv_I (g 136 25)) (LL n l) g) ∧
      (¬ v1 = 0 →
       (v1 = (1 : Int) →
         Q (jv_I v2) (LL n l) g) ∧
        (¬ v1 = (1 : Int) →
         Q (jv_I v3) (LL n l) g))) ∧
    (¬ (g 136 25) ≤ v4 →
     (0 ≤ v4 ∧ v4 < 15625) ∧
      jv_Ca jv_T jv_ml kY_isDead [jv_P 136, jv_I (g 153 v4)] (LL n l) g (fun r L2 g2 => jv_At jv_T jv_ml kY_states 110 [jv_P 136, jv_I v1, jv_I v2, jv_I v3, jv_I v4] (jv_pu r []) L2 g2 Q))) :
  jv_At jv_T jv_ml kY_states 90 [jv_P 136, jv_I v1, jv_I v2, jv_I v3, jv_I v4] [] (LL n l) g Q :=
  jv_of_wp (gok9 (A := A)) (md := []) (stop := [24, 58, 90]) (tab := jt_Y_states) rfl 400 _ _ _ _ _ h
set_option maxRecDepth 100000 in
theorem sg_Y_states_110 {A : jA} {n l : Nat} {g : jv_S} {Q : jv_V → jv_L → jv_S → Prop} {v1 v2 v3 v4 s0 : Int} (h :
   (s0 = 0 →
     jv_r32 (v4 + (1 : Int)) ∧
      jv_At jv_T jv_ml kY_states 90 [jv_P 136, jv_I v1, jv_I v2, jv_I v3, jv_I (v4 + (1 : Int))] [] (LL n l) g Q) ∧
    (¬ s0 = 0 →
     jv_r32 (v2 + (1 : Int)) ∧
      (v3 = (-9 : Int) →
       (0 ≤ v4 ∧ v4 < 15625) ∧
        (0 ≤ (g 153 v4) ∧ (g 153 v4) < 15625) ∧
        jv_r32 (v4 + (1 : Int)) ∧
        jv_At jv_T jv_ml kY_states 90 [jv_P 136, jv_I v1, jv_I (v2 + (1 : Int)), jv_I (g 152 (g 153 v4)), jv_I (v4 + (1 : Int))] [] (LL n l) g Q) ∧
      (¬ v3 = (-9 : Int) →
       jv_r32 (v4 + (1 : Int)) ∧
        jv_At jv_T jv_ml kY_states 90 [jv_P 136, jv_I v1, jv_I (v2 + (1 : Int)), jv_I v3, jv_I (v4 + (1 : Int))] [] (LL n l) g Q))) :
  jv_At jv_T jv_ml kY_states 110 [jv_P 136, jv_I v1, jv_I v2, jv_I v3, jv_I v4] [jv_I s0] (LL n l) g Q :=
  jv_of_wp (gok9 (A := A)) (md := []) (stop := [24, 58, 90]) (tab := jt_Y_states) rfl 400 _ _ _ _ _ h
def rlC (A : jA) (D E : Nat → Nat) : Prop := ∀ a b, xdC A a D → xdC A b E → a ≤ b
theorem QS_vd {A : jA} {q : List (Nat → Nat)} {g : jv_S} (h : QS A q g) : ∀ D, D ∈ q → vdC A D := fun D hD => by
  obtain ⟨k, h1, _⟩ := h.2.1 D hD
  exact rk_vd h1.1
theorem tr_Y_states {A : jA} {n l : Nat} {g : jv_S} {Q : jv_V → jv_L → jv_S → Prop} {what : Int} (hM : MN A g)
  (hQ : ∀ (g' : jv_S) (r : Int), StA A what r → (∀ (p : Nat) (i : Int), ¬ (p = 152 ∨ p = 153 ∨ p = 154 ∨ (p = 136 ∧ i = 25)) → g' p i = g p i) → Q (jv_I r) (LL n l) g') :
  jv_Ca jv_T jv_ml kY_states [jv_P 136, jv_I what] (LL n l) g Q := by
  apply sg_Y_states_0 (A := A)
  refine ⟨True.intro, fun h => hQ g _ (Or.inl ⟨jp0.mp h, rfl⟩) (fun _ _ _ => rfl), fun h => ?_⟩
  have hwh : 0 ≤ what ∧ what ≤ 2 := Classical.byContradiction (fun hn => h (jp_f hn))
  refine tr_Y_isSmall hM (fun hf => ?_) (fun hf => ?_)
  rotate_left
  · apply sg_Y_states_16 (A := A)
    exact ⟨fun _ => hQ g _ (Or.inr (Or.inl ⟨hwh, hf, rfl⟩)) (fun _ _ _ => rfl), fun h => absurd rfl h⟩
  · have hn4 := hf.2.2.1
    have hl6 := hf.2.1
    apply sg_Y_states_16 (A := A)
    refine ⟨fun h => by omega, fun _ => ?_⟩
    -- the count of the dead
    have count : ∀ (q : List (Nat → Nat)) (g1 : jv_S), QS A q g1 → q.Pairwise (rlC A) → (∀ D, D ∈ q ↔ ∃ k, rkC A k D) → (∀ (p : Nat) (i : Int), ¬ (p = 152 ∨ p = 153 ∨ p = 154 ∨ (p = 136 ∧ i = 25)) → g1 p i = g p i) → ∀ i, i ≤ q.length → ∀ (pre suf : List (Nat → Nat)) (g2 : jv_S) (s : Int), pre.length = i → pre ++ suf = q → SD A pre s → (∀ (p : Nat) (i : Int), p ≠ 154 → g2 p i = g1 p i) → jv_At jv_T jv_ml kY_states 90 [jv_P 136, jv_I what, jv_I (dcn A pre : Nat), jv_I s, jv_I i] [] (LL n l) g2 Q := by
      intro q g1 hq hp hall hfr
      have hlen := nd_len (A := A) (b := 5) (by omega) (by omega) hl6 hq.1 (QS_vd hq)
      apply loop_up
      intro i hi ih pre suf g2 s hpl hps hs h2
      have hq2 : QS A q g2 := QS_fr hq (fun i => h2 _ _ (by omega)) (h2 _ _ (by omega)) (fun i => h2 _ _ (by omega))
      have fr2 : ∀ (p : Nat) (i : Int), ¬ (p = 152 ∨ p = 153 ∨ p = 154 ∨ (p = 136 ∧ i = 25)) → g2 p i = g p i := fun p i hp => by rw [h2 _ _ (by omega)]; exact hfr p i hp
      have hM2 : MN A g2 := MN_fr hM (fun p i a b => fr2 _ _ (by omega)) (fr2 _ _ (by omega)) (fr2 _ _ (by omega)) (fr2 _ _ (by omega))
      have f25 := hq2.2.2.2.1
      have hql : q.length = pre.length + suf.length := by rw [← hps, List.length_append]
      apply sg_Y_states_90 (A := A)
      refine ⟨fun h => ?_, fun h => ?_⟩
      · have hsuf : suf = [] := List.eq_nil_of_length_eq_zero (by omega)
        rw [hsuf, List.append_nil] at hps
        subst hps
        have fin : ∀ r, r = (if what = 0 then (pre.length : Int) else if what = 1 then (dcn A pre : Int) else s) → Q (jv_I r) (LL n l) g2 := fun r hr => hQ g2 r (Or.inr (Or.inr ⟨hwh, hf, pre, s, hq.1, hall, hs, hr⟩)) fr2
        exact ⟨fun h0 => fin _ (by rw [if_pos h0, f25]), fun h0 => ⟨fun h1 => fin _ (by rw [if_neg h0, if_pos h1]), fun h1 => fin _ (by rw [if_neg h0, if_neg h1])⟩⟩
      · cases suf with
        | nil => simp at hql; omega
        | cons D post =>
          have hDq : D ∈ q := by rw [← hps]; exact List.mem_append_right _ (List.mem_cons_self ..)
          have fq : g2 153 i = (mc A D : Nat) := hq2.2.2.2.2 i D (by rw [← hps, List.getElem?_append_right (by omega), hpl, Nat.sub_self]; rfl)
          obtain ⟨k, k1, k2⟩ := hq2.2.1 D hDq
          have hDv := rk_vd k1.1
          have hlt := mc_lt hn4 hl6 hDv
          have hdl := dcn_le (A := A) (V := pre)
          rw [fq]
          refine ⟨⟨by omega, by omega⟩, ?_⟩
          refine tr_Y_isDead hM2 hn4 hl6 hDv (fun g3 a1 => ?_)
          apply sg_Y_states_110 (A := A)
          have h3 : ∀ (p : Nat) (i : Int), p ≠ 154 → g3 p i = g1 p i := fun p i hp => by rw [a1 p i hp]; exact h2 p i hp
          have hps' : (pre ++ [D]) ++ post = q := by rw [← hps]; simp
          have hpl' : (pre ++ [D]).length = i + 1 := by rw [List.length_append, List.length_singleton, hpl]
          have ed : dcn A (pre ++ [D]) = dcn A pre + (if dD A D ≠ 0 then 1 else 0) := by rw [dcn_app, dcn_cons]; simp [dcn]
          have fq3 : g3 153 i = (mc A D : Nat) := by rw [a1 _ _ (by omega)]; exact fq
          have k23 : g3 152 ((mc A D : Nat) : Int) = (k : Int) := by rw [a1 _ _ (by omega)]; exact k2
          refine ⟨fun hd => ⟨⟨by omega, by omega⟩, ?_⟩, fun hd => ?_⟩
          · have hd0 : ¬ dD A D ≠ 0 := jp0.mp hd
            rw [if_neg hd0, Nat.add_zero] at ed
            have := ih (by omega) (pre ++ [D]) post g3 s hpl' hps' (hs.imp (fun h => ⟨by omega, h.2⟩) id) h3
            rw [ed] at this
            exact this
          · have hd1 : dD A D ≠ 0 := Classical.byContradiction (fun hn => hd (jp_f hn))
            rw [if_pos hd1] at ed
            have ec : ((dcn A pre : Int) + 1) = ((dcn A (pre ++ [D]) : Nat) : Int) := by omega
            rw [ec, fq3, k23]
            refine ⟨⟨by omega, by omega⟩, fun hs9 => ⟨⟨by omega, by omega⟩, ⟨by omega, by omega⟩, ⟨by omega, by omega⟩, ih (by omega) (pre ++ [D]) post g3 k hpl' hps' (Or.inr ⟨k, rfl, ⟨D, k1.1, hd1⟩, fun j hj E hE => ?_⟩) h3⟩, fun hs9 => ⟨⟨by omega, by omega⟩, ih (by omega) (pre ++ [D]) post g3 s hpl' hps' (Or.inr (hs.resolve_left (fun h => hs9 h.2))) h3⟩⟩
            have h0 : dcn A pre = 0 := by
              rcases hs with h | ⟨d, h, _⟩
              · exact h.1
              · omega
            have hEq : E ∈ q := (hall E).mpr ⟨j, hE⟩
            obtain ⟨j', j1, j2⟩ := xdC_min j hE
            rw [← hps] at hEq hp
            rcases List.mem_append.mp hEq with hm | hm
            · exact Classical.byContradiction (fun hne => dcn_ne.mpr ⟨E, hm, hne⟩ h0)
            · rcases List.mem_cons.mp hm with he | he
              · subst he
                exact absurd hE (k1.2 j hj)
              · have hp2 := (List.pairwise_append.mp hp).2.1
                rw [List.pairwise_cons] at hp2
                have := hp2.1 E he k j' k1 j2
                omega
    -- through the queue
    have main : ∀ i, i ≤ 15625 → ∀ (pre suf : List (Nat → Nat)) (g1 : jv_S) (v3 v4 : jv_V), pre.length = i → QS A (pre ++ suf) g1 → (pre ++ suf).Pairwise (rlC A) → (∀ F, F ∈ pre → ∀ E, stC A F E → E ∈ pre ++ suf) → zC ∈ pre ++ suf → (∀ D post, suf = D :: post → ∀ E, E ∈ pre ++ suf → ∀ a b, xdC A a E → xdC A b D → a ≤ b + 1) → (∀ (p : Nat) (i : Int), ¬ (p = 152 ∨ p = 153 ∨ p = 154 ∨ (p = 136 ∧ i = 25)) → g1 p i = g p i) → jv_At jv_T jv_ml kY_states 58 [jv_P 136, jv_I what, jv_I i, v3, v4] [] (LL n l) g1 Q := by
      apply loop_up
      intro i hi ih pre suf g1 v3 v4 hpl q1 q2 q3 q4 q5 q6
      have f25 := q1.2.2.2.1
      have hlen := nd_len (A := A) (b := 5) (by omega) (by omega) hl6 q1.1 (QS_vd q1)
      rw [List.length_append] at f25 hlen
      have hM1 : MN A g1 := MN_fr hM (fun p i a b => q6 _ _ (by omega)) (q6 _ _ (by omega)) (q6 _ _ (by omega)) (q6 _ _ (by omega))
      apply sg_Y_states_58 (A := A)
      refine ⟨fun h => ?_, fun h => ?_⟩
      · have hsuf : suf = [] := List.eq_nil_of_length_eq_zero (by omega)
        subst hsuf
        rw [List.append_nil] at q1 q2 q3 q4
        have hall : ∀ D, D ∈ pre ↔ ∃ k, rkC A k D := fun D => by
          constructor
          · intro hD
            obtain ⟨k, k1, _⟩ := q1.2.1 D hD
            exact ⟨k, k1.1⟩
          · rintro ⟨k, hk⟩
            have : ∀ k D, rkC A k D → D ∈ pre := by
              intro k
              induction k with
              | zero => intro D h; have h : D = zC := h; rw [h]; exact q4
              | succ k ih => rintro D ⟨E, e1, e2⟩; exact q3 E (ih E e1) D e2
            exact this k D hk
        exact count pre g1 q1 q2 hall q6 0 (by omega) [] pre g1 (-9) rfl rfl (Or.inl ⟨rfl, rfl⟩) (fun _ _ _ => rfl)
      · cases suf with
        | nil => simp at f25; omega
        | cons D post =>
          have hDq : D ∈ pre ++ D :: post := List.mem_append_right _ (List.mem_cons_self ..)
          have fq : g1 153 i = (mc A D : Nat) := q1.2.2.2.2 i D (by rw [List.getElem?_append_right (by omega), hpl, Nat.sub_self]; rfl)
          obtain ⟨k, k1, k2⟩ := q1.2.1 D hDq
          have hp2 := (List.pairwise_append.mp q2).2.1
          rw [List.pairwise_cons] at hp2
          have hcomp : ∀ j, j ≤ k → ∀ E, rkC A j E → E ∈ pre ++ D :: post := by
            intro j
            induction j with
            | zero => intro _ E h; have h : E = zC := h; rw [h]; exact q4
            | succ j ihj =>
              rintro hj E ⟨F, e1, e2⟩
              have hF := ihj (by omega) F e1
              rcases List.mem_append.mp hF with hm | hm
              · exact q3 F hm E e2
              · rcases List.mem_cons.mp hm with he | he
                · subst he
                  exact absurd e1 (k1.2 j (by omega))
                · obtain ⟨j', j1, j2⟩ := xdC_min j e1
                  have := hp2.1 F he k j' k1 j2
                  omega
          rw [fq]
          refine ⟨⟨by omega, by omega⟩, ?_⟩
          rw [List.length_cons] at f25 hlen
          refine tr_Y_stepFrom hM1 hn4 hl6 q1 k1 hDq hcomp (fun g2 w w1 w2 w3 w4 => ?_)
          apply sg_Y_states_76 (A := A)
          have eq : (pre ++ [D]) ++ (post ++ w) = (pre ++ D :: post) ++ w := by simp
          refine ⟨⟨by omega, by omega⟩, ih (by omega) (pre ++ [D]) (post ++ w) g2 _ _ (by rw [List.length_append, List.length_singleton, hpl]) (by rw [eq]; exact w3) ?_ (fun F hF E hE => ?_) (by rw [eq]; exact List.mem_append_left _ q4) (fun D' post' hs' E hE a b ha hb => ?_) (fun p i hp => by rw [w4 _ _ hp]; exact q6 p i hp)⟩
          · rw [eq, List.pairwise_append]
            refine ⟨q2, ?_, fun a ha b hb x y hx hy => ?_⟩
            · have hnd := (List.nodup_append.mp w3.1).2.1
              exact List.Pairwise.imp_of_mem (fun {a b} ha hb _ x y hx hy => by
                have h1 := xd_uniq hx (w1 a ha)
                have h2 := xd_uniq hy (w1 b hb)
                omega) hnd
            · have h1 := q5 D post rfl a ha x k hx k1
              have h2 := xd_uniq hy (w1 b hb)
              omega
          · rw [eq]
            rcases List.mem_append.mp hF with hm | hm
            · exact List.mem_append_left _ (q3 F hm E hE)
            · rw [List.mem_singleton] at hm
              rw [hm] at hE
              exact w2 E hE
          · have hD' : D' ∈ post ++ w := by rw [hs']; exact List.mem_cons_self ..
            have hkb : k ≤ b := by
              rcases List.mem_append.mp hD' with hm | hm
              · exact hp2.1 D' hm k b k1 hb
              · have := xd_uniq hb (w1 D' hm)
                omega
            rw [eq] at hE
            rcases List.mem_append.mp hE with hm | hm
            · have := q5 D post rfl E hm a k ha k1
              omega
            · have := xd_uniq ha (w1 E hm)
              omega
    have fill : ∀ i, i ≤ 15625 → ∀ (g1 : jv_S) (v3 v4 : jv_V), (∀ j : Nat, j < i → g1 152 j = -9) → (∀ (p : Nat) (i : Int), p ≠ 152 → g1 p i = g p i) → jv_At jv_T jv_ml kY_states 24 [jv_P 136, jv_I what, jv_I i, v3, v4] [] (LL n l) g1 Q := by
      apply loop_up
      intro i hi ih g1 v3 v4 h1 h2
      apply sg_Y_states_24 (A := A)
      refine ⟨fun h => ?_, fun h => ⟨⟨by omega, by omega⟩, ⟨by omega, by omega⟩, ih (by omega) _ _ _ (fun j hj => ?_) (fun p i hp => by rw [up_ne (by omega)]; exact h2 p i hp)⟩⟩
      · have hzv : vdC A zC := ⟨fun c _ => Nat.zero_le _, fun c _ => rfl⟩
        have hz0 : mc A zC = 0 := hn_z _ _ (fun _ _ => rfl)
        have hx0 : xdC A 0 zC := ⟨rfl, fun j hj => by omega⟩
        have hG : GQ A [] 0 (fun _ => False) (jv_up g1 136 25 0) := ⟨[], fun E h => absurd h List.not_mem_nil, fun E h => h.elim, List.nodup_nil, fun D h => absurd h List.not_mem_nil, fun D hv _ => by
          have hlt := mc_lt hn4 hl6 hv
          rw [up_ne (by omega)]
          exact h1 _ (by omega), by rw [up_eq rfl rfl]; rfl, fun i D h => by simp at h⟩
        refine tr_Y_enter (E := zC) hn4 hl6 hG (by rw [hz0]; rfl) hzv (Or.inr hx0) (fun g2 a1 a2 => ?_)
        apply sg_Y_states_56 (A := A)
        obtain ⟨w, w1, w2, w3⟩ := a1
        rw [List.nil_append] at w3
        have hzw : zC ∈ w := w2 zC (Or.inr rfl)
        refine main 0 (by omega) [] w g2 _ _ rfl w3 ?_ (fun F hF => absurd hF List.not_mem_nil) hzw (fun D post hs' E hE a b ha hb => ?_) (fun p i hp => by rw [a2 _ _ (by omega), up_ne (by omega)]; exact h2 _ _ (by omega))
        · exact List.Pairwise.imp_of_mem (fun {a b} ha hb _ x y hx hy => by
            have h1 := xd_uniq hx (w1 a ha)
            have h2 := xd_uniq hy (w1 b hb)
            omega) w3.1
        · have h0 : a = 0 := xd_uniq ha (w1 E hE)
          rw [h0]
          exact Nat.zero_le _
      · by_cases hji : j = i
        · subst hji; rw [up_eq rfl rfl]
        · rw [up_ne (by omega)]; exact h1 j (by omega)
    exact fill 0 (by omega) g _ _ (fun j hj => by omega) (fun _ _ _ => rfl)
