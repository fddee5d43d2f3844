/-! ===== lists without doubles; the class's work on the states ===== -/
theorem nd_le {α : Type} [DecidableEq α] : ∀ (l m : List α), l.Nodup → (∀ x, x ∈ l → x ∈ m) → l.length ≤ m.length := by
  intro l
  induction l with
  | nil => intro m _ _; exact Nat.zero_le _
  | cons a l ih =>
    intro m h1 h2
    rw [List.nodup_cons] at h1
    have ha : a ∈ m := h2 a (List.mem_cons_self ..)
    have := ih (m.erase a) h1.2 (fun x hx => (List.mem_erase_of_ne (fun he => h1.1 (by rw [← he]; exact hx))).mpr (h2 x (List.mem_cons_of_mem _ hx)))
    rw [List.length_erase_of_mem ha] at this
    have hp : 0 < m.length := List.length_pos_of_mem ha
    rw [List.length_cons]
    omega
theorem nd_eq {α : Type} {l m : List α} (h1 : l.Nodup) (h2 : m.Nodup) (h : ∀ x, x ∈ l ↔ x ∈ m) : l.length = m.length := by
  haveI : DecidableEq α := fun a b => Classical.propDecidable (a = b)
  exact Nat.le_antisymm (nd_le l m h1 (fun x hx => (h x).mp hx)) (nd_le m l h2 (fun x hx => (h x).mpr hx))
theorem nd_len {A : jA} {b : Nat} {V : List (Nat → Nat)} (hb : nd A < b) (hb5 : b ≤ 5) (hl : ln A ≤ 6) (h : V.Nodup) (hv : ∀ D, D ∈ V → vdC A D) : V.length ≤ 15625 := by
  have h1 : (V.map (fun D => hn b D 0 (ln A))).Nodup := by
    unfold List.Nodup
    rw [List.pairwise_map]
    exact List.Pairwise.imp_of_mem (fun {D E} hD hE hne he => hne (vd_inj hb (hv D hD) (hv E hE) he)) h
  have h2 := nd_le _ (List.range 15625) h1 (fun x hx => by
    obtain ⟨D, hD, rfl⟩ := List.mem_map.mp hx
    exact List.mem_range.mpr (vd_lt hb hb5 hl (hv D hD)))
  rw [List.length_map, List.length_range] at h2
  exact h2
/-- how many of them are dead -/
noncomputable def dcn (A : jA) (V : List (Nat → Nat)) : Nat := (V.filter (fun D => decide (dD A D ≠ 0))).length
theorem dcn_cons {A : jA} {D : Nat → Nat} {V : List (Nat → Nat)} : dcn A (D :: V) = dcn A V + (if dD A D ≠ 0 then 1 else 0) := by
  unfold dcn
  rw [List.filter_cons]
  by_cases h : dD A D ≠ 0
  · rw [if_pos (decide_eq_true h), if_pos h]; rfl
  · rw [if_neg (by rw [decide_eq_true_iff]; exact h), if_neg h]; rfl
theorem dcn_app {A : jA} {V W : List (Nat → Nat)} : dcn A (V ++ W) = dcn A V + dcn A W := by
  unfold dcn
  rw [List.filter_append, List.length_append]
theorem dcn_le {A : jA} {V : List (Nat → Nat)} : dcn A V ≤ V.length := List.length_filter_le _ _
theorem dcn_ne {A : jA} {V : List (Nat → Nat)} : dcn A V ≠ 0 ↔ ∃ D, D ∈ V ∧ dD A D ≠ 0 := by
  unfold dcn
  constructor
  · intro h
    obtain ⟨D, hD⟩ := List.exists_mem_of_length_pos (Nat.pos_of_ne_zero h)
    rw [List.mem_filter, decide_eq_true_iff] at hD
    exact ⟨D, hD⟩
  · rintro ⟨D, h1, h2⟩ h0
    have := List.length_pos_of_mem (List.mem_filter.mpr ⟨h1, decide_eq_true h2⟩ : D ∈ V.filter (fun D => decide (dD A D ≠ 0)))
    omega
theorem ZS_ext2 {A : jA} {X Z Z' : (Nat → Nat) → Prop} {g : jv_S} (h : ZS A X Z g) (he : ∀ D, vdC A D → ¬ X D → (Z D ↔ Z' D)) : ZS A X Z' g := by
  obtain ⟨h1, h2, h3, h4⟩ := h
  have hx : ∀ D, vdC A D → (X D ∨ Z D ↔ X D ∨ Z' D) := fun D hv => by
    by_cases hX : X D
    · exact ⟨fun _ => Or.inl hX, fun _ => Or.inl hX⟩
    · exact ⟨fun h => h.imp id (he D hv hX).mp, fun h => h.imp id (he D hv hX).mpr⟩
  refine ⟨fun s hs => ?_, fun s hs => ?_, h3, ?_⟩
  · rw [h1 s hs]
    exact ⟨fun ⟨D, a, b, c⟩ => ⟨D, a, b, (hx D a).mp c⟩, fun ⟨D, a, b, c⟩ => ⟨D, a, b, (hx D a).mpr c⟩⟩
  · rw [h2 s hs]
    exact ⟨fun ⟨D, a, b, c, d⟩ => ⟨D, a, b, (he D a d).mp c, d⟩, fun ⟨D, a, b, c, d⟩ => ⟨D, a, b, (he D a d).mpr c, d⟩⟩
  · rw [h4]
    exact ⟨fun ⟨D, a, c, d⟩ => ⟨D, a, (he D a d).mp c, d⟩, fun ⟨D, a, c, d⟩ => ⟨D, a, (he D a d).mpr c, d⟩⟩
theorem wbt0 {i : Nat} : wbt 0 i = false := by
  unfold wbt
  rw [show (Int32.ofInt 0).toBitVec = 0#32 from rfl]
  simp
set_option maxRecDepth 100000 in
theorem sg_Sa_visitAll_0 {n l : Nat} {g : jv_S} {Q : jv_V → jv_L → jv_S → Prop} {v1 : Int} (h :
   jv_At jv_T jv_ml kSa_visitAll 2 [jv_P 80, jv_I v1, jv_I (0 : Int), jv_U] [] (LL n l) g Q) :
  jv_At jv_T jv_ml kSa_visitAll 0 [jv_P 80, jv_I v1, jv_U, jv_U] [] (LL n l) g Q :=
  jv_of_wp jg_nil (md := []) (stop := [2, 23]) (tab := jt_Sa_visitAll) rfl 400 _ _ _ _ _ h
set_option maxRecDepth 100000 in
theorem sg_Sa_visitAll_2 {n l : Nat} {g : jv_S} {Q : jv_V → jv_L → jv_S → Prop} {v1 v2 : Int} {v3 : jv_V} (h :
   ((489 : Int) ≤ v2 →
     Q jv_U (LL n l) g) ∧
    (¬ (489 : Int) ≤ v2 →
     (0 ≤ v2 ∧ v2 < 489) ∧
      ((g 82 v2) = 0 →
       jv_r32 (v2 + (1 : Int)) ∧
        jv_At jv_T jv_ml kSa_visitAll 2 [jv_P 80, jv_I v1, jv_I (v2 + (1 : Int)), v3] [] (LL n l) g Q) ∧
      (¬ (g 82 v2) = 0 →
       jv_At jv_T jv_ml kSa_visitAll 23 [jv_P 80, jv_I v1, jv_I v2, jv_I (0 : Int)] [] (LL n l) g Q))) :
  jv_At jv_T jv_ml kSa_visitAll 2 [jv_P 80, jv_I v1, jv_I v2, v3] [] (LL n l) g Q :=
  jv_of_wp jg_nil (md := []) (stop := [2, 23]) (tab := jt_Sa_visitAll) rfl 400 _ _ _ _ _ h
set_option maxRecDepth 100000 in
theorem sg_Sa_visitAll_23 {n l : Nat} {g : jv_S} {Q : jv_V → jv_L → jv_S → Prop} {v1 v2 v3 : Int} (h :
   ((32 : Int) ≤ v3 →
     jv_r32 (v2 + (1 : Int)) ∧
      jv_At jv_T jv_ml kSa_visitAll 2 [jv_P 80, jv_I v1, jv_I (v2 + (1 : Int)), jv_I v3] [] (LL n l) g Q) ∧
    (¬ (32 : Int) ≤ v3 →
     (0 ≤ v2 ∧ v2 < 489) ∧
      jv_Ca jv_T jv_ml kX_has [jv_I (g 82 v2), jv_I v3] (LL n l) g (fun r L2 g2 => jv_At jv_T jv_ml kSa_visitAll 39 [jv_P 80, jv_I v1, jv_I v2, jv_I v3] (jv_pu r []) L2 g2 Q))) :
  jv_At jv_T jv_ml kSa_visitAll 23 [jv_P 80, jv_I v1, jv_I v2, jv_I v3] [] (LL n l) g Q :=
  jv_of_wp jg_nil (md := []) (stop := [2, 23]) (tab := jt_Sa_visitAll) rfl 400 _ _ _ _ _ h
set_option maxRecDepth 100000 in
theorem sg_Sa_visitAll_39 {n l : Nat} {g : jv_S} {Q : jv_V → jv_L → jv_S → Prop} {v1 v2 v3 s0 : Int} (h :
   (s0 = 0 →
     jv_r32 (v3 + (1 : Int)) ∧
      jv_At jv_T jv_ml kSa_visitAll 23 [jv_P 80, jv_I v1, jv_I v2, jv_I (v3 + (1 : Int))] [] (LL n l) g Q) ∧
    (¬ s0 = 0 →
     jv_r32 (v2 * (32 : Int)) ∧
      jv_r32 ((v2 * (32 : Int)) + v3) ∧
      jv_Ca jv_T jv_ml kSa_visit [jv_P 80, jv_I ((v2 * (32 : Int)) + v3), jv_I v1] (LL n l) g (fun r L2 g2 => jv_At jv_T jv_ml kSa_visitAll 53 [jv_P 80, jv_I v1, jv_I v2, jv_I v3] (jv_pu r []) L2 g2 Q))) :
  jv_At jv_T jv_ml kSa_visitAll 39 [jv_P 80, jv_I v1, jv_I v2, jv_I v3] [jv_I s0] (LL n l) g Q :=
  jv_of_wp jg_nil (md := []) (stop := [2, 23]) (tab := jt_Sa_visitAll) rfl 400 _ _ _ _ _ h
set_option maxRecDepth 100000 in
theorem sg_Sa_visitAll_53 {n l : Nat} {g : jv_S} {Q : jv_V → jv_L → jv_S → Prop} {v1 v2 v3 : Int} (h :
   jv_r32 (v3 + (1 : Int)) ∧
    jv_At jv_T jv_ml kSa_visitAll 23 [jv_P 80, jv_I v1, jv_I v2, jv_I (v3 + (1 : Int))] [] (LL n l) g Q) :
  jv_At jv_T jv_ml kSa_visitAll 53 [jv_P 80, jv_I v1, jv_I v2, jv_I v3] [] (LL n l) g Q :=
  jv_of_wp jg_nil (md := []) (stop := [2, 23]) (tab := jt_Sa_visitAll) rfl 400 _ _ _ _ _ h
theorem tr_Sa_visitAll {A : jA} {n l : Nat} {g : jv_S} {Q : jv_V → jv_L → jv_S → Prop} {X Z N : (Nat → Nat) → Prop} {k9 k10 k11 step : Int} (hN : CN A g) (hW : CW 40 A g) (hn4 : nd A ≤ 4) (hl6 : ln A ≤ 6) (hWE : WE A g) (hZ : ZS A X Z g) (hn : ∀ s, s < 15648 → (wbG g 82 s = true ↔ ∃ D, vdC A D ∧ cn A D = s ∧ N D)) (hr : ∀ w : Int, 0 ≤ w → w < 489 → jv_r32 (g 82 w)) (h9 : g 80 9 = k9) (h10 : g 80 10 = k10) (h11 : g 80 11 = k11) (b9 : 0 ≤ k9 ∧ k9 ≤ 20000) (b10 : 0 ≤ k10 ∧ k10 ≤ 20000) (hs : 0 ≤ step)
  (hQ : ∀ (g' : jv_S) (W : List (Nat → Nat)), W.Nodup → (∀ D, D ∈ W ↔ vdC A D ∧ N D) → ZS A X (fun E => Z E ∨ ∃ D, D ∈ W ∧ stC A D E) g' → g' 80 9 = k9 + W.length → g' 80 10 = k10 + dcn A W → g' 80 11 = (if dcn A W ≠ 0 ∧ k11 = -9 then step else k11) → (∀ w : Int, jv_r32 (g 83 w) → jv_r32 (g' 83 w)) → (∀ (p : Nat) (i : Int), ¬ (p = 81 ∨ p = 83 ∨ p = 85 ∨ (p = 80 ∧ 8 ≤ i ∧ i ≤ 11)) → g' p i = g p i) → Q jv_U (LL n l) g') :
  jv_Ca jv_T jv_ml kSa_visitAll [jv_P 80, jv_I step] (LL n l) g Q := by
  have words : ∀ w, w ≤ 489 → ∀ (g' : jv_S) (W : List (Nat → Nat)) (v3 : jv_V), W.Nodup → (∀ D, D ∈ W ↔ vdC A D ∧ N D ∧ cn A D < 32 * w) → ZS A X (fun E => Z E ∨ ∃ D, D ∈ W ∧ stC A D E) g' → g' 80 9 = k9 + W.length → g' 80 10 = k10 + dcn A W → g' 80 11 = (if dcn A W ≠ 0 ∧ k11 = -9 then step else k11) → (∀ w : Int, jv_r32 (g 83 w) → jv_r32 (g' 83 w)) → (∀ (p : Nat) (i : Int), ¬ (p = 81 ∨ p = 83 ∨ p = 85 ∨ (p = 80 ∧ 8 ≤ i ∧ i ≤ 11)) → g' p i = g p i) → jv_At jv_T jv_ml kSa_visitAll 2 [jv_P 80, jv_I step, jv_I w, v3] [] (LL n l) (g') Q := by
    apply loop_up
    intro w hw ih g' W v3 q1 q2 q3 q4 q5 q6 q7 q8
    apply sg_Sa_visitAll_2
    have e82 : g' 82 w = g 82 w := q8 _ _ (by omega)
    refine ⟨fun h => hQ g' W q1 (fun D => ?_) q3 q4 q5 q6 q7 q8, fun h => ⟨⟨by omega, by omega⟩, fun h0 => ⟨⟨by omega, by omega⟩, ih (by omega) g' W _ q1 (fun D => ?_) q3 q4 q5 q6 q7 q8⟩, fun h0 => ?_⟩⟩
    · rw [q2]
      exact ⟨fun h => ⟨h.1, h.2.1⟩, fun h => ⟨h.1, h.2, by have : cn A D < 15625 := vd_lt (by omega) (by omega) hl6 h.1; omega⟩⟩
    · rw [q2]
      refine ⟨fun h => ⟨h.1, h.2.1, by omega⟩, fun h => ⟨h.1, h.2.1, ?_⟩⟩
      apply Classical.byContradiction
      intro hlt
      have hD : cn A D < 15625 := vd_lt (by omega) (by omega) hl6 h.1
      have hb : wbG g 82 (cn A D) = true := (hn _ (by omega)).mpr ⟨D, h.1, rfl, h.2.1⟩
      have e1 : cn A D / 32 = w := by omega
      unfold wbG at hb
      rw [e1, ← e82, h0, wbt0] at hb
      cases hb
    · have hw' : w < 489 := by omega
      have inner : ∀ t, t ≤ 32 → ∀ (g' : jv_S) (W : List (Nat → Nat)), W.Nodup → (∀ D, D ∈ W ↔ vdC A D ∧ N D ∧ cn A D < 32 * w + t) → ZS A X (fun E => Z E ∨ ∃ D, D ∈ W ∧ stC A D E) g' → g' 80 9 = k9 + W.length → g' 80 10 = k10 + dcn A W → g' 80 11 = (if dcn A W ≠ 0 ∧ k11 = -9 then step else k11) → (∀ w : Int, jv_r32 (g 83 w) → jv_r32 (g' 83 w)) → (∀ (p : Nat) (i : Int), ¬ (p = 81 ∨ p = 83 ∨ p = 85 ∨ (p = 80 ∧ 8 ≤ i ∧ i ≤ 11)) → g' p i = g p i) → jv_At jv_T jv_ml kSa_visitAll 23 [jv_P 80, jv_I step, jv_I w, jv_I t] [] (LL n l) (g') Q := by
        apply loop_up
        intro t ht iht g' W q1 q2 q3 q4 q5 q6 q7 q8
        apply sg_Sa_visitAll_23
        refine ⟨fun h => ⟨⟨by omega, by omega⟩, ih hw' g' W _ q1 (fun D => ?_) q3 q4 q5 q6 q7 q8⟩, fun h => ⟨⟨by omega, by omega⟩, ?_⟩⟩
        · rw [q2]
          exact ⟨fun h => ⟨h.1, h.2.1, by omega⟩, fun h => ⟨h.1, h.2.1, by omega⟩⟩
        have e83 : g' 82 w = g 82 w := q8 _ _ (by omega)
        rw [e83]
        have ht' : t < 32 := by omega
        refine tr_X_has32 ht' (fun hb => ?_) (fun hb => ?_)
        · apply sg_Sa_visitAll_39
          refine ⟨fun h => absurd h (by decide), fun _ => ⟨⟨by omega, by omega⟩, ?_⟩⟩
          obtain ⟨D, d1, d2, d3⟩ := (hn (32 * w + t) (by omega)).mp (by
            unfold wbG
            rw [show (32 * w + t) / 32 = w by omega, show (32 * w + t) % 32 = t by omega]
            exact hb)
          rw [show (w : Int) * 32 + (t : Int) = (cn A D : Nat) by omega]
          have hlt : cn A D < 15625 := vd_lt (by omega) (by omega) hl6 d1
          refine ⟨⟨by omega, by omega⟩, ?_⟩
          have hl := nd_len (A := A) (b := nd A + 1) (by omega) (by omega) hl6 q1 (fun D h => ((q2 D).mp h).1)
          have hdl := dcn_le (A := A) (V := W)
          refine tr_Sa_visit (CN_fr hN (fun p i a b => q8 p i (by omega))) (CW_fr hW (q8 _ _ (by omega)) (fun i => q8 _ _ (by omega)) (fun i => q8 _ _ (by omega)) (fun i => q8 _ _ (by omega))) hn4 hl6 (WE_fr hWE (fun i => q8 _ _ (by omega)) (fun i => q8 _ _ (by omega))) q3 d1 q4 q5 q6 ⟨by omega, by omega⟩ ⟨by omega, by omega⟩ (fun g2 a1 a2 a3 a4 a5 a6 => ?_)
          apply sg_Sa_visitAll_53
          refine ⟨⟨by omega, by omega⟩, iht ht' g2 (D :: W) ?_ (fun E => ?_) (ZS_ext a1 (fun E _ => ?_)) ?_ ?_ ?_ (fun w hw => a5 w (q7 w hw)) (fun p i hp => by rw [a6 p i hp]; exact q8 p i hp)⟩
          · rw [List.nodup_cons]
            exact ⟨fun h => by have := ((q2 D).mp h).2.2; omega, q1⟩
          · rw [List.mem_cons, q2]
            constructor
            · rintro (h | h)
              · subst h; exact ⟨d1, d3, by omega⟩
              · exact ⟨h.1, h.2.1, by omega⟩
            · rintro ⟨e1, e2, e3⟩
              by_cases hlt2 : cn A E < 32 * w + t
              · exact Or.inr ⟨e1, e2, hlt2⟩
              · exact Or.inl (vd_inj (b := nd A + 1) (by omega) e1 d1 (by show cn A E = cn A D; omega))
          · constructor
            · rintro ((h | ⟨F, f1, f2⟩) | h)
              · exact Or.inl h
              · exact Or.inr ⟨F, List.mem_cons_of_mem _ f1, f2⟩
              · exact Or.inr ⟨D, List.mem_cons_self .., h⟩
            · rintro (h | ⟨F, f1, f2⟩)
              · exact Or.inl (Or.inl h)
              · rcases List.mem_cons.mp f1 with h | h
                · subst h; exact Or.inr f2
                · exact Or.inl (Or.inr ⟨F, h, f2⟩)
          · rw [a2, List.length_cons]; omega
          · rw [a3, dcn_cons]
            by_cases hd : dD A D ≠ 0
            · rw [if_pos hd, if_pos hd]; omega
            · rw [if_neg hd, if_neg hd]; omega
          · rw [a4, dcn_cons]
            by_cases hd : dD A D = 0 <;> by_cases hc : dcn A W = 0 <;> by_cases hk : k11 = -9 <;> simp [hd, hc, hk] <;> omega
        · apply sg_Sa_visitAll_39
          refine ⟨fun _ => ⟨⟨by omega, by omega⟩, iht ht' g' W q1 (fun D => ?_) q3 q4 q5 q6 q7 q8⟩, fun h => absurd rfl h⟩
          rw [q2]
          refine ⟨fun h => ⟨h.1, h.2.1, by omega⟩, fun h => ⟨h.1, h.2.1, ?_⟩⟩
          apply Classical.byContradiction
          intro hlt
          have hD : cn A D < 15625 := vd_lt (by omega) (by omega) hl6 h.1
          have hb2 : wbG g 82 (cn A D) = true := (hn _ (by omega)).mpr ⟨D, h.1, rfl, h.2.1⟩
          unfold wbG at hb2
          rw [show cn A D / 32 = w by omega, show cn A D % 32 = t by omega, hb] at hb2
          cases hb2
      exact inner 0 (by omega) g' W q1 (fun D => q2 D) q3 q4 q5 q6 q7 q8
  exact sg_Sa_visitAll_0 (words 0 (by omega) g [] _ List.nodup_nil (fun D => ⟨fun h => absurd h (List.not_mem_nil), fun h => by omega⟩) (ZS_ext hZ (fun E _ => ⟨fun h => Or.inl h, fun h => h.elim id (fun ⟨_, a, _⟩ => absurd a List.not_mem_nil)⟩)) (by rw [h9]; simp) (by rw [h10]; simp [dcn]) (by rw [h11]; simp [dcn]) (fun _ h => h) (fun _ _ _ => rfl))
set_option maxRecDepth 100000 in
theorem sg_Sa_prepare_0 {A : jA} {n l : Nat} {g : jv_S} {Q : jv_V → jv_L → jv_S → Prop} (h :
   jv_Ca jv_T jv_ml kAr_fill [jv_P 81, jv_I (0 : Int)] (LL n l) g (fun r L2 g2 => jv_At jv_T jv_ml kSa_prepare 8 [jv_P 80, jv_U, jv_U, jv_U] (jv_pu r []) L2 g2 Q)) :
  jv_At jv_T jv_ml kSa_prepare 0 [jv_P 80, jv_U, jv_U, jv_U] [] (LL n l) g Q :=
  jv_of_wp (gok9 (A := A)) (md := []) (stop := [36, 74, 94]) (tab := jt_Sa_prepare) rfl 400 _ _ _ _ _ h
set_option maxRecDepth 100000 in
theorem sg_Sa_prepare_8 {A : jA} {n l : Nat} {g : jv_S} {Q : jv_V → jv_L → jv_S → Prop} {v1 v2 v3 : jv_V} (h :
   jv_Ca jv_T jv_ml kAr_fill [jv_P 83, jv_I (0 : Int)] (LL n l) g (fun r L2 g2 => jv_At jv_T jv_ml kSa_prepare 16 [jv_P 80, v1, v2, v3] (jv_pu r []) L2 g2 Q)) :
  jv_At jv_T jv_ml kSa_prepare 8 [jv_P 80, v1, v2, v3] [] (LL n l) g Q :=
  jv_of_wp (gok9 (A := A)) (md := []) (stop := [36, 74, 94]) (tab := jt_Sa_prepare) rfl 400 _ _ _ _ _ h
set_option maxRecDepth 100000 in
theorem sg_Sa_prepare_16 {A : jA} {n l : Nat} {g : jv_S} {Q : jv_V → jv_L → jv_S → Prop} {v1 v2 v3 : jv_V} (h :
   jv_At jv_T jv_ml kSa_prepare 36 [jv_P 80, jv_I (1 : Int), jv_I (0 : Int), v3] [] (LL n l) (jv_up (jv_up (jv_up g 80 9 (0 : Int)) 80 10 (0 : Int)) 80 11 (-9 : Int)) Q) :
  jv_At jv_T jv_ml kSa_prepare 16 [jv_P 80, v1, v2, v3] [] (LL n l) g Q :=
  jv_of_wp (gok9 (A := A)) (md := []) (stop := [36, 74, 94]) (tab := jt_Sa_prepare) rfl 400 _ _ _ _ _ h
set_option maxRecDepth 100000 in
theorem sg_Sa_prepare_36 {A : jA} {n l : Nat} {g : jv_S} {Q : jv_V → jv_L → jv_S → Prop} {v1 v2 : Int} {v3 : jv_V} (h :
   ((g 14 1) ≤ v2 →
     jv_At jv_T jv_ml kSa_prepare 74 [jv_P 80, jv_I v1, jv_I (0 : Int), v3] [] (LL n l) g Q) ∧
    (¬ (g 14 1) ≤ v2 →
     (0 ≤ v2 ∧ v2 < 6) ∧ 
      jv_r32 ((g 14 0) + (1 : Int)) ∧
      jv_r32 (v1 * ((g 14 0) + (1 : Int))) ∧
      jv_r32 (v2 + (1 : Int)) ∧
      jv_At jv_T jv_ml kSa_prepare 36 [jv_P 80, jv_I (v1 * ((g 14 0) + (1 : Int))), jv_I (v2 + (1 : Int)), v3] [] (LL n l) (jv_up g 84 v2 v1) Q)) :
  jv_At jv_T jv_ml kSa_prepare 36 [jv_P 80, jv_I v1, jv_I v2, v3] [] (LL n l) g Q :=
  jv_of_wp (gok9 (A := A)) (md := []) (stop := [36, 74, 94]) (tab := jt_Sa_prepare) rfl 400 _ _ _ _ _ h
set_option maxRecDepth 100000 in
theorem sg_Sa_prepare_74 {A : jA} {n l : Nat} {g : jv_S} {Q : jv_V → jv_L → jv_S → Prop} {v1 v2 : Int} {v3 : jv_V} (h :
   ((g 14 0) ≤ v2 →
     Q jv_U (LL n l) g) ∧
    (¬ (g 14 0) ≤ v2 →
     (0 ≤ v2 ∧ v2 < 4) ∧ 
      jv_At jv_T jv_ml kSa_prepare 94 [jv_P 80, jv_I v1, jv_I v2, jv_I (0 : Int)] [] (LL n l) (jv_up g 86 v2 (0 : Int)) Q)) :
  jv_At jv_T jv_ml kSa_prepare 74 [jv_P 80, jv_I v1, jv_I v2, v3] [] (LL n l) g Q :=
  jv_of_wp (gok9 (A := A)) (md := []) (stop := [36, 74, 94]) (tab := jt_Sa_prepare) rfl 400 _ _ _ _ _ h
set_option maxRecDepth 100000 in
theorem sg_Sa_prepare_94 {A : jA} {n l : Nat} {g : jv_S} {Q : jv_V → jv_L → jv_S → Prop} {v1 v2 v3 : Int} (h :
   ((g 14 0) ≤ v3 →
     jv_r32 (v2 + (1 : Int)) ∧
      jv_At jv_T jv_ml kSa_prepare 74 [jv_P 80, jv_I v1, jv_I (v2 + (1 : Int)), jv_I v3] [] (LL n l) g Q) ∧
    (¬ (g 14 0) ≤ v3 →
     (0 ≤ v2 ∧ v2 < 4) ∧
      (0 ≤ v3 ∧ v3 < 6) ∧
      (0 ≤ v2 ∧ v2 < 6) ∧
      (0 ≤ v2 ∧ v2 < 4) ∧ 
      jv_r32 (v3 + (1 : Int)) ∧
      jv_At jv_T jv_ml kSa_prepare 94 [jv_P 80, jv_I v1, jv_I v2, jv_I (v3 + (1 : Int))] [] (LL n l) (jv_up g 86 v2 (jv_or (g 86 v2) (g 42 (v3 * 6 + v2)))) Q)) :
  jv_At jv_T jv_ml kSa_prepare 94 [jv_P 80, jv_I v1, jv_I v2, jv_I v3] [] (LL n l) g Q :=
  jv_of_wp (gok9 (A := A)) (md := []) (stop := [36, 74, 94]) (tab := jt_Sa_prepare) rfl 400 _ _ _ _ _ h
theorem tr_Sa_prepare {A : jA} {n l : Nat} {g : jv_S} {Q : jv_V → jv_L → jv_S → Prop} (hN : CN A g) (hW : CW 40 A g) (hn4 : nd A ≤ 4) (hl6 : ln A ≤ 6)
  (hQ : ∀ g' : jv_S, (∀ i : Int, 0 ≤ i → i < 489 → g' 81 i = 0) → (∀ i : Int, 0 ≤ i → i < 489 → g' 83 i = 0) → g' 80 9 = 0 → g' 80 10 = 0 → g' 80 11 = -9 → WE A g' → (∀ (p : Nat) (i : Int), ¬ (p = 81 ∨ p = 83 ∨ p = 84 ∨ p = 86 ∨ (p = 80 ∧ 9 ≤ i ∧ i ≤ 11)) → g' p i = g p i) → Q jv_U (LL n l) g') :
  jv_Ca jv_T jv_ml kSa_prepare [jv_P 80] (LL n l) g Q := by
  have f1 := hN.2.1
  have f2 := hN.2.2.1
  apply sg_Sa_prepare_0 (A := A)
  refine tr_Ar_fill_81 (fun g0 z1 z2 => ?_)
  apply sg_Sa_prepare_8 (A := A)
  refine tr_Ar_fill_83 (fun g1 y1 y2 => ?_)
  apply sg_Sa_prepare_16 (A := A)
  obtain ⟨g2, hg2⟩ : ∃ g2, g2 = jv_up (jv_up (jv_up g1 80 9 0) 80 10 0) 80 11 (-9) := ⟨_, rfl⟩
  have x1 : g2 80 9 = 0 := by rw [hg2, up_ne (by omega), up_ne (by omega), up_eq rfl rfl]
  have x2 : g2 80 10 = 0 := by rw [hg2, up_ne (by omega), up_eq rfl rfl]
  have x3 : g2 80 11 = -9 := by rw [hg2, up_eq rfl rfl]
  have x4 : ∀ i : Int, 0 ≤ i → i < 489 → g2 81 i = 0 := fun i a b => by rw [hg2, up_ne (by omega), up_ne (by omega), up_ne (by omega), y2 _ _ (by omega)]; exact z1 i a b
  have x5 : ∀ i : Int, 0 ≤ i → i < 489 → g2 83 i = 0 := fun i a b => by rw [hg2, up_ne (by omega), up_ne (by omega), up_ne (by omega)]; exact y1 i a b
  have x6 : ∀ (p : Nat) (i : Int), ¬ (p = 81 ∨ p = 83 ∨ p = 84 ∨ p = 86 ∨ (p = 80 ∧ 9 ≤ i ∧ i ≤ 11)) → g2 p i = g p i := fun p i hp => by rw [hg2, up_ne (by omega), up_ne (by omega), up_ne (by omega), y2 _ _ (by omega), z2 _ _ (by omega)]
  rw [← hg2]
  clear hg2
  have rows : ∀ y, y ≤ nd A → ∀ (g3 : jv_S) (v1 : Int) (v3 : jv_V), (∀ c : Nat, c < ln A → g3 84 c = (((nd A + 1) ^ c : Nat) : Int)) → (∀ z : Nat, z < y → g3 86 z = (so A z : Nat)) → (∀ (p : Nat) (i : Int), ¬ (p = 84 ∨ p = 86) → g3 p i = g2 p i) → jv_At jv_T jv_ml kSa_prepare 74 [jv_P 80, jv_I v1, jv_I y, v3] [] (LL n l) g3 Q := by
    apply loop_up
    intro y hy ih g3 v1 v3 w1 w2 w3
    have f1' : g3 14 0 = nd A := by rw [w3 _ _ (by omega), x6 _ _ (by omega)]; exact f1
    apply sg_Sa_prepare_74 (A := A)
    refine ⟨fun h => hQ g3 (fun i a b => by rw [w3 _ _ (by omega)]; exact x4 i a b) (fun i a b => by rw [w3 _ _ (by omega)]; exact x5 i a b) (by rw [w3 _ _ (by omega)]; exact x1) (by rw [w3 _ _ (by omega)]; exact x2) (by rw [w3 _ _ (by omega)]; exact x3) ⟨w1, fun z hz => w2 z (by omega)⟩ (fun p i hp => by rw [w3 _ _ (by omega)]; exact x6 p i hp), fun h => ⟨⟨by omega, by omega⟩, ?_⟩⟩
    have inner : ∀ x, x ≤ nd A → ∀ g4 : jv_S, g4 86 y = (un (fun x => tk A (10 + x) y) x : Nat) → (∀ (p : Nat) (i : Int), ¬ (p = 86 ∧ i = y) → g4 p i = g3 p i) → jv_At jv_T jv_ml kSa_prepare 94 [jv_P 80, jv_I v1, jv_I y, jv_I x] [] (LL n l) g4 Q := by
      apply loop_up
      intro x hx ihx g4 u1 u2
      have f1'' : g4 14 0 = nd A := by rw [u2 _ _ (by omega)]; exact f1'
      apply sg_Sa_prepare_94 (A := A)
      refine ⟨fun h => ⟨⟨by omega, by omega⟩, ih (by omega) g4 v1 _ (fun c hc => by rw [u2 _ _ (by omega)]; exact w1 c hc) (fun z hz => ?_) (fun p i hp => by rw [u2 _ _ (by omega)]; exact w3 p i hp)⟩, fun h => ⟨⟨by omega, by omega⟩, ⟨by omega, by omega⟩, ⟨by omega, by omega⟩, ⟨by omega, by omega⟩, ⟨by omega, by omega⟩, ?_⟩⟩
      · by_cases hzy : z = y
        · subst hzy
          rw [u1, show x = nd A by omega]
          rfl
        · rw [u2 _ _ (by omega)]; exact w2 z (by omega)
      · have fo : g4 42 ((x : Int) * 6 + y) = tk A (10 + x) y := by
          rw [u2 _ _ (by omega), w3 _ _ (by omega), x6 _ _ (by omega)]
          exact hW.2.2.1 x y (by omega) (by omega)
        have b1 : un (fun x => tk A (10 + x) y) x < 2 ^ ln A := un_lt (fun _ _ => tk_ltl _ _)
        rw [u1, fo, jb_or (i31 b1 (by omega)) (i31 (tk_ltl _ _) (by omega))]
        exact ihx (by omega) _ (by rw [up_eq rfl rfl]; rfl) (fun p i hp => by rw [up_ne (by omega)]; exact u2 p i hp)
    exact inner 0 (by omega) _ (by rw [up_eq rfl rfl]; rfl) (fun p i hp => by rw [up_ne (by omega)])
  have wei : ∀ c, c ≤ ln A → ∀ (g3 : jv_S) (v3 : jv_V), (∀ d : Nat, d < c → g3 84 d = (((nd A + 1) ^ d : Nat) : Int)) → (∀ (p : Nat) (i : Int), ¬ p = 84 → g3 p i = g2 p i) → jv_At jv_T jv_ml kSa_prepare 36 [jv_P 80, jv_I (((nd A + 1) ^ c : Nat) : Int), jv_I c, v3] [] (LL n l) g3 Q := by
    apply loop_up
    intro c hc ih g3 v3 w1 w2
    have f1' : g3 14 0 = nd A := by rw [w2 _ _ (by omega), x6 _ _ (by omega)]; exact f1
    have f2' : g3 14 1 = ln A := by rw [w2 _ _ (by omega), x6 _ _ (by omega)]; exact f2
    apply sg_Sa_prepare_36 (A := A)
    refine ⟨fun h => rows 0 (by omega) g3 _ _ (fun d hd => w1 d (by omega)) (fun z hz => by omega) (fun p i hp => w2 p i (by omega)), fun h => ?_⟩
    have hpw : (nd A + 1) ^ (c + 1) ≤ 15625 := Nat.le_trans (Nat.pow_le_pow_left (show nd A + 1 ≤ 5 by omega) _) (Nat.le_trans (Nat.pow_le_pow_right (by decide) (show c + 1 ≤ 6 by omega)) (by decide))
    have e1 : (((nd A + 1) ^ c : Nat) : Int) * ((nd A : Int) + 1) = (((nd A + 1) ^ (c + 1) : Nat) : Int) := by rw [Nat.pow_succ, Int.natCast_mul]; rfl
    rw [f1', e1]
    exact ⟨⟨by omega, by omega⟩, ⟨by omega, by omega⟩, ⟨by omega, by omega⟩, ⟨by omega, by omega⟩, ih (by omega) _ _ (fun d hd => by
      by_cases hdc : d = c
      · subst hdc; rw [up_eq rfl rfl]
      · rw [up_ne (by omega)]; exact w1 d (by omega)) (fun p i hp => by rw [up_ne (by omega)]; exact w2 p i hp)⟩
  exact wei 0 (by omega) g2 _ (fun d hd => by omega) (fun _ _ _ => rfl)
set_option maxRecDepth 100000 in
theorem sg_Sa_fit_0 {A : jA} {n l : Nat} {g : jv_S} {Q : jv_V → jv_L → jv_S → Prop} (h :
   ((g 14 1) = 0 →
     ((0 : Int) = 0 ∨ (0 : Int) = 1) ∧ Q (jv_I (0 : Int)) (LL n l) g) ∧
    (¬ (g 14 1) = 0 →
     ((6 : Int) < (g 14 1) →
       ((0 : Int) = 0 ∨ (0 : Int) = 1) ∧ Q (jv_I (0 : Int)) (LL n l) g) ∧
      (¬ (6 : Int) < (g 14 1) →
       ((g 14 0) ≤ (4 : Int) →
         jv_At jv_T jv_ml kSa_fit 37 [jv_P 80, jv_I (0 : Int)] [] (LL n l) g Q) ∧
        (¬ (g 14 0) ≤ (4 : Int) →
         ((0 : Int) = 0 ∨ (0 : Int) = 1) ∧ Q (jv_I (0 : Int)) (LL n l) g)))) :
  jv_At jv_T jv_ml kSa_fit 0 [jv_P 80, jv_U] [] (LL n l) g Q :=
  jv_of_wp (gok9 (A := A)) (md := []) (stop := [37]) (tab := jt_Sa_fit) rfl 400 _ _ _ _ _ h
set_option maxRecDepth 100000 in
theorem sg_Sa_fit_37 {A : jA} {n l : Nat} {g : jv_S} {Q : jv_V → jv_L → jv_S → Prop} {v1 : Int} (h :
   ((g 14 1) ≤ v1 →
     ((1 : Int) = 0 ∨ (1 : Int) = 1) ∧ Q (jv_I (1 : Int)) (LL n l) g) ∧
    (¬ (g 14 1) ≤ v1 →
     (0 ≤ v1 ∧ v1 < 10) ∧
      ((g 17 v1) = (1 : Int) →
       jv_r32 (v1 + (1 : Int)) ∧
        jv_At jv_T jv_ml kSa_fit 37 [jv_P 80, jv_I (v1 + (1 : Int))] [] (LL n l) g Q) ∧
      (¬ (g 17 v1) = (1 : Int) →
       ((0 : Int) = 0 ∨ (0 : Int) = 1) ∧ Q (jv_I (0 : Int)) (LL n l) g))) :
  jv_At jv_T jv_ml kSa_fit 37 [jv_P 80, jv_I v1] [] (LL n l) g Q :=
  jv_of_wp (gok9 (A := A)) (md := []) (stop := [37]) (tab := jt_Sa_fit) rfl 400 _ _ _ _ _ h
def ftC (A : jA) : Prop := 0 < ln A ∧ ln A ≤ 6 ∧ nd A ≤ 4 ∧ ∀ c, c < ln A → rm A c = 1
theorem tr_Sa_fit {A : jA} {n l : Nat} {g : jv_S} {Q : jv_V → jv_L → jv_S → Prop} (hN : CN A g) (h1 : ftC A → Q (jv_I 1) (LL n l) g) (h0 : ¬ ftC A → Q (jv_I 0) (LL n l) g) :
  jv_Ca jv_T jv_ml kSa_fit [jv_P 80] (LL n l) g Q := by
  have f1 := hN.2.1
  have f2 := hN.2.2.1
  have w2 := hN.1.2.1
  have main : 0 < ln A → ln A ≤ 6 → nd A ≤ 4 → ∀ c, c ≤ ln A → (∀ d, d < c → rm A d = 1) → jv_At jv_T jv_ml kSa_fit 37 [jv_P 80, jv_I c] [] (LL n l) g Q := by
    intro a1 a2 a3
    apply loop_up
    intro c hc ih hp
    apply sg_Sa_fit_37 (A := A)
    refine ⟨fun h => ⟨Or.inr rfl, h1 ⟨a1, a2, a3, fun d hd => hp d (by omega)⟩⟩, fun h => ?_⟩
    have fm := (hN.2.2.2.1 c (by omega)).2.2
    rw [fm]
    refine ⟨⟨by omega, by omega⟩, fun h3 => ⟨⟨by omega, by omega⟩, ih (by omega) (fun d hd => by
      by_cases hdc : d = c
      · subst hdc; omega
      · exact hp d (by omega))⟩, fun h3 => ⟨Or.inl rfl, h0 (fun hf => by have := hf.2.2.2 c (by omega); omega)⟩⟩
  apply sg_Sa_fit_0 (A := A)
  rw [f1, f2]
  refine ⟨fun h => ⟨Or.inl rfl, h0 (fun hf => by have := hf.1; omega)⟩, fun h => ⟨fun h2 => ⟨Or.inl rfl, h0 (fun hf => by have := hf.2.1; omega)⟩, fun h2 => ⟨fun h3 => main (by omega) (by omega) (by omega) 0 (by omega) (fun d hd => by omega), fun h3 => ⟨Or.inl rfl, h0 (fun hf => by have := hf.2.2.1; omega)⟩⟩⟩⟩
set_option maxRecDepth 100000 in
theorem sg_Sa_work_0 {A : jA} {n l : Nat} {g : jv_S} {Q : jv_V → jv_L → jv_S → Prop} (h :
   ((g 80 12) = (g 40 5) →
     Q jv_U (LL n l) g) ∧
    (¬ (g 80 12) = (g 40 5) →
     jv_Ca jv_T jv_ml kSa_prepare [jv_P 80] (LL n l) (jv_up g 80 12 (g 40 5)) (fun r L2 g2 => jv_At jv_T jv_ml kSa_work 30 [jv_P 80, jv_U] (jv_pu r []) L2 g2 Q))) :
  jv_At jv_T jv_ml kSa_work 0 [jv_P 80, jv_U] [] (LL n l) g Q :=
  jv_of_wp (gok9 (A := A)) (md := []) (stop := [37]) (tab := jt_Sa_work) rfl 400 _ _ _ _ _ h
set_option maxRecDepth 100000 in
theorem sg_Sa_work_30 {A : jA} {n l : Nat} {g : jv_S} {Q : jv_V → jv_L → jv_S → Prop} {v1 : jv_V} (h :
   jv_Ca jv_T jv_ml kSa_reach [jv_P 80, jv_I (0 : Int)] (LL n l) g (fun r L2 g2 => jv_At jv_T jv_ml kSa_work 35 [jv_P 80, v1] (jv_pu r []) L2 g2 Q)) :
  jv_At jv_T jv_ml kSa_work 30 [jv_P 80, v1] [] (LL n l) g Q :=
  jv_of_wp (gok9 (A := A)) (md := []) (stop := [37]) (tab := jt_Sa_work) rfl 400 _ _ _ _ _ h
set_option maxRecDepth 100000 in
theorem sg_Sa_work_35 {A : jA} {n l : Nat} {g : jv_S} {Q : jv_V → jv_L → jv_S → Prop} {v1 : jv_V} (h :
   jv_At jv_T jv_ml kSa_work 37 [jv_P 80, jv_I (0 : Int)] [] (LL n l) g Q) :
  jv_At jv_T jv_ml kSa_work 35 [jv_P 80, v1] [] (LL n l) g Q :=
  jv_of_wp (gok9 (A := A)) (md := []) (stop := [37]) (tab := jt_Sa_work) rfl 400 _ _ _ _ _ h
set_option maxRecDepth 100000 in
theorem sg_Sa_work_37 {A : jA} {n l : Nat} {g : jv_S} {Q : jv_V → jv_L → jv_S → Prop} {v1 : Int} (h :
   ((15625 : Int) ≤ v1 →
     Q jv_U (LL n l) g) ∧
    (¬ (15625 : Int) ≤ v1 →
     ((g 80 8) = 0 →
       Q jv_U (LL n l) g) ∧
      (¬ (g 80 8) = 0 →
       (0 ≤ (0 : Int) ∧ 0 ≤ (0 : Int) ∧ 0 ≤ (489 : Int) ∧ (0 : Int) + (489 : Int) ≤ 489 ∧ (0 : Int) + (489 : Int) ≤ 489) ∧
        jv_Ca jv_T jv_ml kAr_fill [jv_P 83, jv_I (0 : Int)] (LL n l) (jv_cp g 83 (0 + (0 : Int)) 82 (0 + (0 : Int)) (489 : Int)) (fun r L2 g2 => jv_At jv_T jv_ml kSa_work 75 [jv_P 80, jv_I v1] (jv_pu r []) L2 g2 Q)))) :
  jv_At jv_T jv_ml kSa_work 37 [jv_P 80, jv_I v1] [] (LL n l) g Q :=
  jv_of_wp (gok9 (A := A)) (md := []) (stop := [37]) (tab := jt_Sa_work) rfl 400 _ _ _ _ _ h
set_option maxRecDepth 100000 in
theorem sg_Sa_work_75 {A : jA} {n l : Nat} {g : jv_S} {Q : jv_V → jv_L → jv_S → Prop} {v1 : Int} (h :
   ((0 : Int) = 0 ∨ (0 : Int) = 1) ∧
    jv_Ca jv_T jv_ml kSa_visitAll [jv_P 80, jv_I v1] (LL n l) (jv_up g 80 8 (0 : Int)) (fun r L2 g2 => jv_At jv_T jv_ml kSa_work 85 [jv_P 80, jv_I v1] (jv_pu r []) L2 g2 Q)) :
  jv_At jv_T jv_ml kSa_work 75 [jv_P 80, jv_I v1] [] (LL n l) g Q :=
  jv_of_wp (gok9 (A := A)) (md := []) (stop := [37]) (tab := jt_Sa_work) rfl 400 _ _ _ _ _ h
set_option maxRecDepth 100000 in
theorem sg_Sa_work_85 {A : jA} {n l : Nat} {g : jv_S} {Q : jv_V → jv_L → jv_S → Prop} {v1 : Int} (h :
   jv_r32 (v1 + (1 : Int)) ∧
    jv_At jv_T jv_ml kSa_work 37 [jv_P 80, jv_I (v1 + (1 : Int))] [] (LL n l) g Q) :
  jv_At jv_T jv_ml kSa_work 85 [jv_P 80, jv_I v1] [] (LL n l) g Q :=
  jv_of_wp (gok9 (A := A)) (md := []) (stop := [37]) (tab := jt_Sa_work) rfl 400 _ _ _ _ _ h
/-- none dead and -9, or the least number of steps to a dead one -/
def SD (A : jA) (V : List (Nat → Nat)) (s : Int) : Prop := (dcn A V = 0 ∧ s = -9) ∨ ∃ d : Nat, s = d ∧ (∃ D, rkC A d D ∧ dD A D ≠ 0) ∧ ∀ j, j < d → ∀ D, rkC A j D → dD A D = 0
/-- what the class keeps of the states -/
def StK (A : jA) (g : jv_S) : Prop := ∃ V : List (Nat → Nat), V.Nodup ∧ (∀ D, D ∈ V ↔ ∃ k, rkC A k D) ∧ g 80 9 = V.length ∧ g 80 10 = dcn A V ∧ SD A V (g 80 11)
theorem rk_all {A : jA} {k : Nat} (h : ∀ D, rkC A k D → ∃ j, j < k ∧ rkC A j D) : ∀ m D, rkC A m D → ∃ j, j < k ∧ rkC A j D := by
  intro m
  induction m with
  | zero =>
    intro D hD
    by_cases h0 : 0 < k
    · exact ⟨0, h0, hD⟩
    · exact h D (by rw [show k = 0 by omega]; exact hD)
  | succ m ih =>
    rintro D ⟨E, h1, h2⟩
    obtain ⟨j, h3, h4⟩ := ih E h1
    have h5 : rkC A (j + 1) D := ⟨E, h4, h2⟩
    by_cases hj : j + 1 < k
    · exact ⟨j + 1, hj, h5⟩
    · exact h D (by rw [show k = j + 1 by omega]; exact h5)
theorem tr_Sa_work {A : jA} {n l : Nat} {g : jv_S} {Q : jv_V → jv_L → jv_S → Prop} (hN : CN A g) (hW : CW 40 A g) (hn4 : nd A ≤ 4) (hl6 : ln A ≤ 6) (h8 : g 80 8 = 0) (hc : g 80 12 = g 40 5 → StK A g)
  (hQ : ∀ g' : jv_S, StK A g' → g' 80 12 = g 40 5 → g' 80 8 = 0 → (∀ (p : Nat) (i : Int), ¬ ((81 ≤ p ∧ p ≤ 86) ∨ (p = 80 ∧ 8 ≤ i ∧ i ≤ 12)) → g' p i = g p i) → Q jv_U (LL n l) g') :
  jv_Ca jv_T jv_ml kSa_work [jv_P 80] (LL n l) g Q := by
  apply sg_Sa_work_0 (A := A)
  refine ⟨fun h => hQ g (hc h) h h8 (fun _ _ _ => rfl), fun h => ?_⟩
  have n0 : ∀ (p : Nat) (i : Int), ¬ (p = 80 ∧ i = 12) → jv_up g 80 12 (g 40 5) p i = g p i := fun p i hp => up_ne (by omega)
  refine tr_Sa_prepare (CN_fr hN (fun p i a b => n0 p i (by omega))) (CW_fr hW (n0 _ _ (by omega)) (fun i => n0 _ _ (by omega)) (fun i => n0 _ _ (by omega)) (fun i => n0 _ _ (by omega))) hn4 hl6 (fun g0 z1 z2 z3 z4 z5 z6 z7 => ?_)
  apply sg_Sa_work_30 (A := A)
  have m0 : ∀ (p : Nat) (i : Int), ¬ ((81 ≤ p ∧ p ≤ 86) ∨ (p = 80 ∧ 8 ≤ i ∧ i ≤ 12)) → g0 p i = g p i := fun p i hp => by rw [z7 _ _ (by omega), n0 _ _ (by omega)]
  have m12 : g0 80 12 = g 40 5 := by rw [z7 _ _ (by omega), up_eq rfl rfl]
  have zero : ∀ (q : Nat) (g : jv_S), (∀ i : Int, 0 ≤ i → i < 489 → g q i = 0) → ∀ s, s < 15648 → wbG g q s = false := fun q g hz s hs => by
    unfold wbG
    rw [hz _ (by omega) (by omega), wbt0]
  have hzv : vdC A zC := ⟨fun c _ => Nat.zero_le _, fun c _ => rfl⟩
  have hz0 : cn A zC = 0 := by
    have : ∀ e c, hn (nd A + 1) zC c e = 0 := by
      intro e
      induction e with
      | zero => intro c; rfl
      | succ e ih => intro c; show 0 + (nd A + 1) * hn (nd A + 1) zC (c + 1) e = 0; rw [ih, Nat.mul_zero]
    exact this _ _
  have m8 : g0 80 8 = 0 := by rw [z7 _ _ (by omega), n0 _ _ (by omega)]; exact h8
  have main : ∀ k, k ≤ 15625 → ∀ (g1 : jv_S) (V : List (Nat → Nat)), V.Nodup → (∀ D, D ∈ V ↔ ∃ j, j < k ∧ rkC A j D) → k ≤ V.length → ZS A (fun D => ∃ j, j < k ∧ rkC A j D) (rkC A k) g1 → g1 80 9 = V.length → g1 80 10 = dcn A V → SD A V (g1 80 11) → (∀ w : Int, 0 ≤ w → w < 489 → jv_r32 (g1 83 w)) → WE A g1 → g1 80 12 = g 40 5 → (∀ (p : Nat) (i : Int), ¬ ((81 ≤ p ∧ p ≤ 86) ∨ (p = 80 ∧ 8 ≤ i ∧ i ≤ 12)) → g1 p i = g p i) → jv_At jv_T jv_ml kSa_work 37 [jv_P 80, jv_I k] [] (LL n l) g1 Q := by
    apply loop_up
    intro k hk ih g1 V q1 q2 q3 q4 q5 q6 q7 q8 q9 q10 q11
    have hvd : ∀ D, D ∈ V → vdC A D := fun D h => by
      obtain ⟨j, _, hj⟩ := (q2 D).mp h
      exact rk_vd hj
    have hlen := nd_len (A := A) (b := nd A + 1) (by omega) (by omega) hl6 q1 hvd
    have fin : g1 80 8 = 0 → Q jv_U (LL n l) g1 := fun h0 => by
      have hno : ∀ D, rkC A k D → ∃ j, j < k ∧ rkC A j D := fun D hD => by
        apply Classical.byContradiction
        intro hx
        have := q4.2.2.2.mpr ⟨D, rk_vd hD, hD, hx⟩
        omega
      exact hQ g1 ⟨V, q1, fun D => by
        rw [q2]
        exact ⟨fun ⟨j, _, hj⟩ => ⟨j, hj⟩, fun ⟨m, hm⟩ => rk_all hno m D hm⟩, q5, q6, q7⟩ q10 h0 q11
    apply sg_Sa_work_37 (A := A)
    refine ⟨fun h => ?_, fun h => ⟨fun h0 => fin h0, fun h0 => ⟨by omega, ?_⟩⟩⟩
    · refine fin ?_
      rcases q4.2.2.1 with h0 | h0
      · exact h0
      · obtain ⟨D, d1, d2, d3⟩ := q4.2.2.2.mp h0
        have := nd_len (A := A) (b := nd A + 1) (V := D :: V) (by omega) (by omega) hl6 (by
          rw [List.nodup_cons]
          exact ⟨fun hm => d3 ((q2 D).mp hm), q1⟩) (fun E hE => by
          rcases List.mem_cons.mp hE with he | he
          · subst he; exact d1
          · exact hvd E he)
        rw [List.length_cons] at this
        omega
    · have h1 : g1 80 8 = 1 := q4.2.2.1.resolve_left h0
      obtain ⟨g2, hg2⟩ : ∃ g2, g2 = jv_cp g1 83 (0 + 0) 82 (0 + 0) 489 := ⟨_, rfl⟩
      have c1 : ∀ i : Int, 0 ≤ i → i < 489 → g2 82 i = g1 83 i := fun i a b => by rw [hg2, cp_in (by omega) (by omega)]; congr 1; omega
      have c2 : ∀ (p : Nat) (i : Int), p ≠ 82 → g2 p i = g1 p i := fun p i hp => by rw [hg2, cp_ne hp]
      rw [← hg2]
      clear hg2
      refine tr_Ar_fill_83 (fun g3 y1 y2 => ?_)
      apply sg_Sa_work_75 (A := A)
      refine ⟨Or.inl rfl, ?_⟩
      obtain ⟨g4, hg4⟩ : ∃ g4, g4 = jv_up g3 80 8 0 := ⟨_, rfl⟩
      have u8 : g4 80 8 = 0 := by rw [hg4, up_eq rfl rfl]
      have u83 : ∀ i : Int, 0 ≤ i → i < 489 → g4 83 i = 0 := fun i a b => by rw [hg4, up_ne (by omega)]; exact y1 i a b
      have u82 : ∀ i : Int, 0 ≤ i → i < 489 → g4 82 i = g1 83 i := fun i a b => by rw [hg4, up_ne (by omega), y2 _ _ (by omega)]; exact c1 i a b
      have uf : ∀ (p : Nat) (i : Int), ¬ (p = 82 ∨ p = 83 ∨ (p = 80 ∧ i = 8)) → g4 p i = g1 p i := fun p i hp => by rw [hg4, up_ne (by omega), y2 _ _ (by omega), c2 _ _ (by omega)]
      rw [← hg4]
      clear hg4
      have hN4 : CN A g4 := CN_fr hN (fun p i a b => by rw [uf _ _ (by omega)]; exact q11 p i (by omega))
      have hW4 : CW 40 A g4 := CW_fr hW (by rw [uf _ _ (by omega)]; exact q11 _ _ (by omega)) (fun i => by rw [uf _ _ (by omega)]; exact q11 _ _ (by omega)) (fun i => by rw [uf _ _ (by omega)]; exact q11 _ _ (by omega)) (fun i => by rw [uf _ _ (by omega)]; exact q11 _ _ (by omega))
      have hE4 : WE A g4 := WE_fr q9 (fun i => uf _ _ (by omega)) (fun i => uf _ _ (by omega))
      have hZ4 : ZS A (fun D => ∃ j, j < k + 1 ∧ rkC A j D) (fun _ => False) g4 := by
        refine ⟨fun s hs => ?_, fun s hs => ?_, Or.inl u8, ?_⟩
        · rw [wbG_fr (g := g1) (fun i => uf _ _ (by omega)), q4.1 s hs]
          constructor
          · rintro ⟨D, a, b, ⟨j, c, d⟩ | c⟩
            · exact ⟨D, a, b, Or.inl ⟨j, by omega, d⟩⟩
            · exact ⟨D, a, b, Or.inl ⟨k, by omega, c⟩⟩
          · rintro ⟨D, a, b, ⟨j, c, d⟩ | c⟩
            · by_cases hj : j = k
              · subst hj; exact ⟨D, a, b, Or.inr d⟩
              · exact ⟨D, a, b, Or.inl ⟨j, by omega, d⟩⟩
            · exact c.elim
        · rw [zero 83 g4 u83 s hs]
          exact ⟨fun h => (by cases h), fun ⟨_, _, _, h, _⟩ => h.elim⟩
        · exact ⟨fun h => by omega, fun ⟨_, _, h, _⟩ => h.elim⟩
      have hn4' : ∀ s, s < 15648 → (wbG g4 82 s = true ↔ ∃ D, vdC A D ∧ cn A D = s ∧ xdC A k D) := fun s hs => by
        have e : wbG g4 82 s = wbG g1 83 s := by
          unfold wbG
          rw [u82 _ (by omega) (by omega)]
        rw [e, q4.2.1 s hs]
        exact ⟨fun ⟨D, a, b, c, d⟩ => ⟨D, a, b, c, fun j hj hr => d ⟨j, hj, hr⟩⟩, fun ⟨D, a, b, c, d⟩ => ⟨D, a, b, c, fun ⟨j, hj, hr⟩ => d j hj hr⟩⟩
      have hdl := dcn_le (A := A) (V := V)
      refine tr_Sa_visitAll (N := xdC A k) (k9 := V.length) (k10 := dcn A V) (k11 := g1 80 11) hN4 hW4 hn4 hl6 hE4 hZ4 hn4' (fun w a b => by rw [u82 w a b]; exact q8 w a b) (by rw [uf _ _ (by omega)]; exact q5) (by rw [uf _ _ (by omega)]; exact q6) (uf _ _ (by omega)) ⟨by omega, by omega⟩ ⟨by omega, by omega⟩ (by omega) (fun g5 W b1 b2 b3 b4 b5 b6 b7 b8 => ?_)
      apply sg_Sa_work_85 (A := A)
      have hWk : ∀ D, D ∈ W ↔ xdC A k D := fun D => by rw [b2]; exact ⟨fun h => h.2, fun h => ⟨rk_vd h.1, h⟩⟩
      obtain ⟨D0, d1, d2, d3⟩ := q4.2.2.2.mp h1
      have hWp : 0 < W.length := List.length_pos_of_mem ((hWk D0).mpr ⟨d2, fun j hj hr => d3 ⟨j, hj, hr⟩⟩)
      refine ⟨⟨by omega, by omega⟩, ih (by omega) g5 (V ++ W) ?_ (fun D => ?_) (by rw [List.length_append]; omega) (ZS_ext2 b3 (fun D hD hX => ?_)) (by rw [b4, List.length_append]; omega) (by rw [b5, dcn_app]; omega) ?_ (fun w a b => b7 w (by rw [u83 w a b]; exact ⟨by omega, by omega⟩)) (WE_fr hE4 (fun i => b8 _ _ (by omega)) (fun i => b8 _ _ (by omega))) (by rw [b8 _ _ (by omega), uf _ _ (by omega)]; exact q10) (fun p i hp => by rw [b8 _ _ (by omega), uf _ _ (by omega)]; exact q11 p i hp)⟩
      · rw [List.nodup_append]
        exact ⟨q1, b1, fun a ha b hb hab => by
          subst hab
          obtain ⟨j, hj, hr⟩ := (q2 a).mp ha
          exact ((hWk a).mp hb).2 j hj hr⟩
      · rw [List.mem_append, q2, hWk]
        constructor
        · rintro (⟨j, c, d⟩ | c)
          · exact ⟨j, by omega, d⟩
          · exact ⟨k, by omega, c.1⟩
        · rintro ⟨j, c, d⟩
          by_cases hx : ∃ j, j < k ∧ rkC A j D
          · exact Or.inl hx
          · refine Or.inr ⟨?_, fun i hi hr => hx ⟨i, hi, hr⟩⟩
            by_cases hj : j = k
            · subst hj; exact d
            · exact absurd ⟨j, by omega, d⟩ hx
      · constructor
        · rintro (h | ⟨E, e1, e2⟩)
          · exact h.elim
          · exact ⟨E, ((hWk E).mp e1).1, e2⟩
        · rintro ⟨E, e1, e2⟩
          refine Or.inr ⟨E, (hWk E).mpr ⟨e1, fun j hj hr => hX ⟨j + 1, by omega, E, hr, e2⟩⟩, e2⟩
      · rw [b6]
        rcases q7 with ⟨s1, s2⟩ | ⟨d, s1, s2, s3⟩
        · by_cases hd : dcn A W = 0
          · rw [if_neg (fun h => h.1 hd)]
            exact Or.inl ⟨by rw [dcn_app]; omega, s2⟩
          · rw [if_pos ⟨hd, s2⟩]
            obtain ⟨D, e1, e2⟩ := dcn_ne.mp hd
            refine Or.inr ⟨k, rfl, ⟨D, ((hWk D).mp e1).1, e2⟩, fun j hj E hE => ?_⟩
            apply Classical.byContradiction
            intro hne
            exact (dcn_ne.mpr ⟨E, (q2 E).mpr ⟨j, hj, hE⟩, hne⟩) s1
        · rw [if_neg (fun h => by omega)]
          exact Or.inr ⟨d, s1, s2, s3⟩
  refine tr_Sa_reach (X := fun D => ∃ j, j < 0 ∧ rkC A j D) (Z := fun _ => False) (E := zC) hn4 hl6 ⟨fun s hs => ?_, fun s hs => ?_, Or.inl m8, ?_⟩ hzv (by rw [hz0]; rfl) (fun g1 a1 a2 a3 => ?_)
  · rw [zero 81 g0 z1 s hs]
    exact ⟨fun h => (by cases h), fun ⟨_, _, _, h⟩ => h.elim (fun ⟨_, h, _⟩ => by omega) (fun h => h.elim)⟩
  · rw [zero 83 g0 z2 s hs]
    exact ⟨fun h => (by cases h), fun ⟨_, _, _, h, _⟩ => h.elim⟩
  · exact ⟨fun h => by omega, fun ⟨_, _, h, _⟩ => h.elim⟩
  · apply sg_Sa_work_35 (A := A)
    refine main 0 (by omega) g1 [] List.nodup_nil (fun D => ⟨fun h => absurd h List.not_mem_nil, fun ⟨_, h, _⟩ => by omega⟩) (Nat.zero_le _) (ZS_ext a1 (fun D _ => ⟨fun h => h.elim (fun h => h.elim) id, fun h => Or.inr h⟩)) ?_ ?_ ?_ (fun w a b => a2 w (by rw [z2 w a b]; exact ⟨by omega, by omega⟩)) (WE_fr z6 (fun i => a3 _ _ (by omega)) (fun i => a3 _ _ (by omega))) (by rw [a3 _ _ (by omega)]; exact m12) (fun p i hp => by rw [a3 _ _ (by omega)]; exact m0 p i hp)
    · rw [a3 _ _ (by omega), z3]; rfl
    · rw [a3 _ _ (by omega), z4]; rfl
    · rw [a3 _ _ (by omega), z5]; exact Or.inl ⟨rfl, rfl⟩
