/-! ===== the model's steps, dead ones, small nets ===== -/
def sX (A : jA) (D : Nat → Nat) (x y : Nat) (E : Nat → Nat) : Prop := ∃ x' y' d, x' < nd A ∧ y' < nd A ∧ (x' < x ∨ (x' = x ∧ y' < y)) ∧ d < ln A ∧ (tk A (10 + x') y').testBit d = true ∧ D d = 0 ∧ E = up1 D d (y' + 1)
theorem or0 {s : Nat} (h : s < 2147483648) : jv_or (s : Int) 0 = (s : Int) := by
  have := jb_or (a := s) (b := 0) h (by decide)
  rw [Nat.or_zero] at this
  exact this
theorem xd_uniq {A : jA} {D : Nat → Nat} {a b : Nat} (h1 : xdC A a D) (h2 : xdC A b D) : a = b := by
  apply Classical.byContradiction
  intro h
  by_cases hl : a < b
  · exact h2.2 a hl h1.1
  · exact h1.2 b (by omega) h2.1
/-- the states of exact depths below k: one each -/
theorem xd_bound {A : jA} {D : Nat → Nat} {k : Nat} (hn4 : nd A ≤ 4) (hl6 : ln A ≤ 6) (h : xdC A k D) : k ≤ 15625 := by
  have : ∀ k D, xdC A k D → ∃ V : List (Nat → Nat), V.length = k + 1 ∧ V.Nodup ∧ ∀ E, E ∈ V → ∃ j, j ≤ k ∧ xdC A j E := by
    intro k
    induction k with
    | zero => intro D h; exact ⟨[D], rfl, by simp, fun E hE => ⟨0, Nat.le_refl _, by rw [List.mem_singleton] at hE; rw [hE]; exact h⟩⟩
    | succ k ih =>
      intro D h
      obtain ⟨E, e1, e2⟩ := h.1
      have hE : xdC A k E := ⟨e1, fun j hj hr => h.2 (j + 1) (by omega) ⟨E, hr, e2⟩⟩
      obtain ⟨V, v1, v2, v3⟩ := ih E hE
      refine ⟨D :: V, by rw [List.length_cons, v1], ?_, fun F hF => ?_⟩
      · rw [List.nodup_cons]
        refine ⟨fun hm => ?_, v2⟩
        obtain ⟨j, j1, j2⟩ := v3 D hm
        exact h.2 j (by omega) j2.1
      · rcases List.mem_cons.mp hF with hf | hf
        · exact ⟨k + 1, Nat.le_refl _, by rw [hf]; exact h⟩
        · obtain ⟨j, j1, j2⟩ := v3 F hf
          exact ⟨j, by omega, j2⟩
  obtain ⟨V, v1, v2, v3⟩ := this k D h
  have := nd_len (A := A) (b := 5) (by omega) (by omega) hl6 v2 (fun E hE => by obtain ⟨j, _, hj⟩ := v3 E hE; exact rk_vd hj.1)
  omega
set_option maxRecDepth 100000 in
theorem sg_Y_stepFrom_0 {A : jA} {n l : Nat} {g : jv_S} {Q : jv_V → jv_L → jv_S → Prop} {v1 : Int} (h :
   (0 ≤ v1 ∧ v1 < 15625) ∧
    jv_r32 ((g 152 v1) + (1 : Int)) ∧
    jv_Ca jv_T jv_ml kY_layContent [jv_P 136, jv_I v1] (LL n l) g (fun r L2 g2 => jv_At jv_T jv_ml kY_stepFrom 14 [jv_P 136, jv_I v1, jv_I ((g 152 v1) + (1 : Int)), jv_U, jv_U, jv_U] (jv_pu r []) L2 g2 Q)) :
  jv_At jv_T jv_ml kY_stepFrom 0 [jv_P 136, jv_I v1, jv_U, jv_U, jv_U, jv_U] [] (LL n l) g Q :=
  jv_of_wp (gok9 (A := A)) (md := []) (stop := [16, 27, 68]) (tab := jt_Y_stepFrom) rfl 400 _ _ _ _ _ h
set_option maxRecDepth 100000 in
theorem sg_Y_stepFrom_14 {A : jA} {n l : Nat} {g : jv_S} {Q : jv_V → jv_L → jv_S → Prop} {v1 v2 : Int} {v3 v4 v5 : jv_V} (h :
   jv_At jv_T jv_ml kY_stepFrom 16 [jv_P 136, jv_I v1, jv_I v2, jv_I (0 : Int), v4, v5] [] (LL n l) g Q) :
  jv_At jv_T jv_ml kY_stepFrom 14 [jv_P 136, jv_I v1, jv_I v2, v3, v4, v5] [] (LL n l) g Q :=
  jv_of_wp (gok9 (A := A)) (md := []) (stop := [16, 27, 68]) (tab := jt_Y_stepFrom) rfl 400 _ _ _ _ _ h
set_option maxRecDepth 100000 in
theorem sg_Y_stepFrom_16 {A : jA} {n l : Nat} {g : jv_S} {Q : jv_V → jv_L → jv_S → Prop} {v1 v2 v3 : Int} {v4 v5 : jv_V} (h :
   ((g 136 5) ≤ v3 →
     jv_At jv_T jv_ml kY_stepFrom 68 [jv_P 136, jv_I v1, jv_I v2, jv_I (0 : Int), v4, v5] [] (LL n l) g Q) ∧
    (¬ (g 136 5) ≤ v3 →
     jv_At jv_T jv_ml kY_stepFrom 27 [jv_P 136, jv_I v1, jv_I v2, jv_I v3, jv_I (0 : Int), v5] [] (LL n l) g Q)) :
  jv_At jv_T jv_ml kY_stepFrom 16 [jv_P 136, jv_I v1, jv_I v2, jv_I v3, v4, v5] [] (LL n l) g Q :=
  jv_of_wp (gok9 (A := A)) (md := []) (stop := [16, 27, 68]) (tab := jt_Y_stepFrom) rfl 400 _ _ _ _ _ h
set_option maxRecDepth 100000 in
theorem sg_Y_stepFrom_27 {A : jA} {n l : Nat} {g : jv_S} {Q : jv_V → jv_L → jv_S → Prop} {v1 v2 v3 v4 : Int} {v5 : jv_V} (h :
   ((g 136 5) ≤ v4 →
     jv_r32 (v3 + (1 : Int)) ∧
      jv_At jv_T jv_ml kY_stepFrom 16 [jv_P 136, jv_I v1, jv_I v2, jv_I (v3 + (1 : Int)), jv_I v4, v5] [] (LL n l) g Q) ∧
    (¬ (g 136 5) ≤ v4 →
     jv_r32 ((10 : Int) + v3) ∧
      ((136 = 136) ∧ (LLx (LL n l)) ∧ (MN A g ∧ (0 ≤ v4 ∧ v4 < nd A) ∧ 0 ≤ ((10 : Int) + v3) ∧ (((10 : Int) + v3) < ln A ∨ (10 ≤ ((10 : Int) + v3) ∧ ((10 : Int) + v3) < 10 + nd A)))) ∧
      jv_Ca jv_T jv_ml kY_goOn [jv_P 136, jv_I v1, jv_I (tkI A ((10 : Int) + v3) v4), jv_I v4, jv_I v2] (LL n l) g (fun r L2 g2 => jv_At jv_T jv_ml kY_stepFrom 54 [jv_P 136, jv_I v1, jv_I v2, jv_I v3, jv_I v4, v5] (jv_pu r []) L2 g2 Q))) :
  jv_At jv_T jv_ml kY_stepFrom 27 [jv_P 136, jv_I v1, jv_I v2, jv_I v3, jv_I v4, v5] [] (LL n l) g Q :=
  jv_of_wp (gok9 (A := A)) (md := []) (stop := [16, 27, 68]) (tab := jt_Y_stepFrom) rfl 400 _ _ _ _ _ h
set_option maxRecDepth 100000 in
theorem sg_Y_stepFrom_54 {A : jA} {n l : Nat} {g : jv_S} {Q : jv_V → jv_L → jv_S → Prop} {v1 v2 v3 v4 : Int} {v5 : jv_V} (h :
   jv_r32 (v4 + (1 : Int)) ∧
    jv_At jv_T jv_ml kY_stepFrom 27 [jv_P 136, jv_I v1, jv_I v2, jv_I v3, jv_I (v4 + (1 : Int)), v5] [] (LL n l) g Q) :
  jv_At jv_T jv_ml kY_stepFrom 54 [jv_P 136, jv_I v1, jv_I v2, jv_I v3, jv_I v4, v5] [] (LL n l) g Q :=
  jv_of_wp (gok9 (A := A)) (md := []) (stop := [16, 27, 68]) (tab := jt_Y_stepFrom) rfl 400 _ _ _ _ _ h
set_option maxRecDepth 100000 in
theorem sg_Y_stepFrom_68 {A : jA} {n l : Nat} {g : jv_S} {Q : jv_V → jv_L → jv_S → Prop} {v1 v2 v3 : Int} {v4 v5 : jv_V} (h :
   ((g 136 6) ≤ v3 →
     Q jv_U (LL n l) g) ∧
    (¬ (g 136 6) ≤ v3 →
     (0 ≤ v3 ∧ v3 < 6) ∧
      (0 ≤ (g 154 v3) →
       jv_r32 ((g 154 v3) + (1 : Int)) ∧
        jv_Ca jv_T jv_ml kY_fives [jv_I v3] (LL n l) g (fun r L2 g2 => jv_At jv_T jv_ml kY_stepFrom 101 [jv_P 136, jv_I v1, jv_I v2, jv_I v3, jv_I (g 154 v3), v5] (jv_pu r [jv_I ((g 154 v3) + (1 : Int)), jv_I v1]) L2 g2 Q)) ∧
      (¬ 0 ≤ (g 154 v3) →
       jv_r32 (v3 + (1 : Int)) ∧
        jv_At jv_T jv_ml kY_stepFrom 68 [jv_P 136, jv_I v1, jv_I v2, jv_I (v3 + (1 : Int)), jv_I (g 154 v3), v5] [] (LL n l) g Q))) :
  jv_At jv_T jv_ml kY_stepFrom 68 [jv_P 136, jv_I v1, jv_I v2, jv_I v3, v4, v5] [] (LL n l) g Q :=
  jv_of_wp (gok9 (A := A)) (md := []) (stop := [16, 27, 68]) (tab := jt_Y_stepFrom) rfl 400 _ _ _ _ _ h
set_option maxRecDepth 100000 in
theorem sg_Y_stepFrom_101 {A : jA} {n l : Nat} {g : jv_S} {Q : jv_V → jv_L → jv_S → Prop} {v1 v2 v3 v4 s0 s1 s2 : Int} {v5 : jv_V} (h :
   jv_r32 (s1 * s2) ∧
    jv_r32 (s0 - (s1 * s2)) ∧
    (0 ≤ v3 ∧ v3 < 10) ∧
    ((g 141 v3) = v4 →
     jv_Ca jv_T jv_ml kY_enter [jv_P 136, jv_I (s0 - (s1 * s2)), jv_I v2] (LL n l) g (fun r L2 g2 => jv_At jv_T jv_ml kY_stepFrom 123 [jv_P 136, jv_I v1, jv_I v2, jv_I v3, jv_I v4, jv_I (s0 - (s1 * s2))] (jv_pu r []) L2 g2 Q)) ∧
    (¬ (g 141 v3) = v4 →
     ((136 = 136) ∧ (LLx (LL n l)) ∧ (MN A g ∧ (0 ≤ v4 ∧ v4 < nd A) ∧ 0 ≤ v3 ∧ (v3 < ln A ∨ (10 ≤ v3 ∧ v3 < 10 + nd A)))) ∧
      jv_Ca jv_T jv_ml kY_goOn [jv_P 136, jv_I (s0 - (s1 * s2)), jv_I (tkI A v3 v4), jv_I v4, jv_I v2] (LL n l) g (fun r L2 g2 => jv_At jv_T jv_ml kY_stepFrom 142 [jv_P 136, jv_I v1, jv_I v2, jv_I v3, jv_I v4, jv_I (s0 - (s1 * s2))] (jv_pu r []) L2 g2 Q))) :
  jv_At jv_T jv_ml kY_stepFrom 101 [jv_P 136, jv_I v1, jv_I v2, jv_I v3, jv_I v4, v5] [jv_I s2, jv_I s1, jv_I s0] (LL n l) g Q :=
  jv_of_wp (gok9 (A := A)) (md := []) (stop := [16, 27, 68]) (tab := jt_Y_stepFrom) rfl 400 _ _ _ _ _ h
set_option maxRecDepth 100000 in
theorem sg_Y_stepFrom_123 {A : jA} {n l : Nat} {g : jv_S} {Q : jv_V → jv_L → jv_S → Prop} {v1 v2 v3 v4 v5 : Int} (h :
   jv_r32 (v3 + (1 : Int)) ∧
    jv_At jv_T jv_ml kY_stepFrom 68 [jv_P 136, jv_I v1, jv_I v2, jv_I (v3 + (1 : Int)), jv_I v4, jv_I v5] [] (LL n l) g Q) :
  jv_At jv_T jv_ml kY_stepFrom 123 [jv_P 136, jv_I v1, jv_I v2, jv_I v3, jv_I v4, jv_I v5] [] (LL n l) g Q :=
  jv_of_wp (gok9 (A := A)) (md := []) (stop := [16, 27, 68]) (tab := jt_Y_stepFrom) rfl 400 _ _ _ _ _ h
set_option maxRecDepth 100000 in
theorem sg_Y_stepFrom_142 {A : jA} {n l : Nat} {g : jv_S} {Q : jv_V → jv_L → jv_S → Prop} {v1 v2 v3 v4 : Int} {v5 : jv_V} (h :
   jv_r32 (v3 + (1 : Int)) ∧
    jv_At jv_T jv_ml kY_stepFrom 68 [jv_P 136, jv_I v1, jv_I v2, jv_I (v3 + (1 : Int)), jv_I v4, v5] [] (LL n l) g Q) :
  jv_At jv_T jv_ml kY_stepFrom 142 [jv_P 136, jv_I v1, jv_I v2, jv_I v3, jv_I v4, v5] [] (LL n l) g Q :=
  jv_of_wp (gok9 (A := A)) (md := []) (stop := [16, 27, 68]) (tab := jt_Y_stepFrom) rfl 400 _ _ _ _ _ h
theorem tr_Y_stepFrom {A : jA} {n l : Nat} {g : jv_S} {Q : jv_V → jv_L → jv_S → Prop} {q : List (Nat → Nat)} {k : Nat} {D : Nat → Nat} (hM : MN A g) (hn4 : nd A ≤ 4) (hl6 : ln A ≤ 6) (hS : QS A q g) (hx : xdC A k D) (hq : D ∈ q) (hc : ∀ j, j ≤ k → ∀ E, rkC A j E → E ∈ q)
  (hQ : ∀ (g' : jv_S) (w : List (Nat → Nat)), (∀ E, E ∈ w → xdC A (k + 1) E) → (∀ E, stC A D E → E ∈ q ++ w) → QS A (q ++ w) g' → (∀ (p : Nat) (i : Int), ¬ (p = 152 ∨ p = 153 ∨ p = 154 ∨ (p = 136 ∧ i = 25)) → g' p i = g p i) → Q jv_U (LL n l) g') :
  jv_Ca jv_T jv_ml kY_stepFrom [jv_P 136, jv_I (mc A D : Nat)] (LL n l) g Q := by
  have hD := rk_vd hx.1
  have hlt := mc_lt hn4 hl6 hD
  have hw := hM.1
  have f1 := hM.2.1
  have f2 := hM.2.2.1
  obtain ⟨k', k1, k2⟩ := hS.2.1 D hq
  have hkk := xd_uniq k1 hx
  subst hkk
  have hkb : k' ≤ 100000 ∨ 100000 < k' := by omega
  have hnew : ∀ E, stC A D E → E ∈ q ∨ xdC A (k' + 1) E := fun E hE => by
    by_cases h : E ∈ q
    · exact Or.inl h
    · exact Or.inr ⟨⟨D, hx.1, hE⟩, fun j hj hr => h (hc j (by omega) E hr)⟩
  have kb : k' ≤ 15625 := xd_bound hn4 hl6 hx
  apply sg_Y_stepFrom_0 (A := A)
  rw [k2]
  refine ⟨⟨by omega, by omega⟩, ⟨by omega, by omega⟩, ?_⟩
  refine tr_Y_layContent hn4 hl6 hD (fun g0 c1 c2 => ?_)
  apply sg_Y_stepFrom_14 (A := A)
  have hG0 : GQ A q (k' + 1) (fun _ => False) g0 := ⟨[], fun E h => absurd h List.not_mem_nil, fun E h => h.elim, by
    rw [List.append_nil]
    exact QS_fr hS (fun i => c2 _ _ (by omega)) (c2 _ _ (by omega)) (fun i => c2 _ _ (by omega))⟩
  have ecast : ((k' : Int) + 1) = ((k' + 1 : Nat) : Int) := by omega
  rw [ecast]
  -- the lanes
  have lanes : ∀ c, c ≤ ln A → ∀ (g' : jv_S) (v4 v5 : jv_V), GQ A q (k' + 1) (fun E => sX A D (nd A) 0 E ∨ ∃ d, d < c ∧ D d ≠ 0 ∧ stL A D d E) g' → (∀ (p : Nat) (i : Int), ¬ (p = 152 ∨ p = 153 ∨ (p = 136 ∧ i = 25)) → g' p i = g0 p i) → jv_At jv_T jv_ml kY_stepFrom 68 [jv_P 136, jv_I (mc A D : Nat), jv_I ((k' + 1 : Nat) : Int), jv_I c, v4, v5] [] (LL n l) (g') Q := by
    apply loop_up
    intro c hcl ih g' v4 v5 h1 h2
    have f2' : g' 136 6 = ln A := by rw [h2 _ _ (by omega), c2 _ _ (by omega)]; exact f2
    apply sg_Y_stepFrom_68 (A := A)
    refine ⟨fun h => ?_, fun h => ?_⟩
    · obtain ⟨w, w1, w2, w3⟩ := h1
      refine hQ g' w w1 (fun E hE => w2 E ?_) w3 (fun p i hp => by rw [h2 _ _ (by omega), c2 _ _ (by omega)])
      obtain ⟨d, d1, d2⟩ := stC_L.mp hE
      by_cases h0 : D d = 0
      · left
        rcases d2 with ⟨y, a, b, e, f⟩ | ⟨y, a, b, _⟩ | ⟨y, d', a, b, e, _⟩
        · obtain ⟨x, x1, x2⟩ := un_bit.mp e
          exact ⟨x, y, d, x1, a, Or.inl x1, d1, x2, h0, f⟩
        · omega
        · omega
      · exact Or.inr ⟨d, by omega, h0, d2⟩
    · have hcl' : c < ln A := by omega
      have fc : g' 154 c = (D c : Int) - 1 := by rw [h2 _ _ (by omega)]; exact c1 c (by omega)
      have ft : g' 141 c = tt A c := by rw [h2 _ _ (by omega), c2 _ _ (by omega)]; exact (hM.2.2.2.2.1 c hcl').2.1
      rw [fc]
      by_cases h0 : D c = 0
      · refine ⟨⟨by omega, by omega⟩, fun h => by omega, fun _ => ⟨⟨by omega, by omega⟩, ih hcl' g' _ _ (GQ_ext h1 (fun E hE => hE.imp id (fun ⟨d, a, b, e⟩ => ⟨d, by
          by_cases hdc : d = c
          · subst hdc; exact absurd h0 b
          · omega, b, e⟩))) h2⟩⟩
      · obtain ⟨y, hy⟩ : ∃ y, D c = y + 1 := ⟨D c - 1, by omega⟩
        have hle := hD.1 c hcl'
        have ey : (D c : Int) - 1 = (y : Int) := by omega
        rw [ey]
        refine ⟨⟨by omega, by omega⟩, fun _ => ⟨⟨by omega, by omega⟩, ?_⟩, fun h => by omega⟩
        refine tr_Y_fives (A := A) (by omega) ?_
        apply sg_Y_stepFrom_101 (A := A)
        have hu := mc_up (A := A) (D := D) (c := c) (v := 0) hcl'
        rw [Nat.zero_mul, Nat.add_zero, hy] at hu
        have hE0 := up1_vd (A := A) (D := D) (c := c) (v := 0) hD hcl' (by omega)
        have e1 : ((y : Int) + 1) * ((5 ^ c : Nat) : Int) = (((y + 1) * 5 ^ c : Nat) : Int) := by rw [Int.natCast_mul]; rfl
        have e2 : (mc A D : Int) - (((y + 1) * 5 ^ c : Nat) : Int) = (mc A (up1 D c 0) : Nat) := by omega
        rw [e1, e2, ft]
        have stp : ∀ E, stL A D c E → stC A D E := fun E hE => stC_L.mpr ⟨c, hcl', hE⟩
        refine ⟨⟨by omega, by omega⟩, ⟨by omega, by omega⟩, ⟨by omega, by omega⟩, fun ht => ?_, fun ht => ⟨⟨rfl, LLx_ok, MN_fr hM (fun p i a b => by rw [h2 _ _ (by omega), c2 _ _ (by omega)]) (by rw [h2 _ _ (by omega), c2 _ _ (by omega)]) (by rw [h2 _ _ (by omega), c2 _ _ (by omega)]) (by rw [h2 _ _ (by omega), c2 _ _ (by omega)]), ⟨by omega, by omega⟩, by omega, Or.inl (by omega)⟩, ?_⟩⟩
        · have hs1 : stL A D c (up1 D c 0) := Or.inr (Or.inl ⟨y, by omega, hy, by omega, rfl⟩)
          refine tr_Y_enter (E := up1 D c 0) hn4 hl6 h1 rfl hE0 (hnew _ (stp _ hs1)) (fun g2 a1 a2 => ?_)
          apply sg_Y_stepFrom_123 (A := A)
          refine ⟨⟨by omega, by omega⟩, ih hcl' g2 _ _ (GQ_ext a1 (fun E hE => ?_)) (fun p i hp => by rw [a2 _ _ hp]; exact h2 p i hp)⟩
          rcases hE with a | ⟨d, a, b, e⟩
          · exact Or.inl (Or.inl a)
          · by_cases hdc : d = c
            · subst hdc
              rcases e with ⟨z, a, b, _⟩ | ⟨z, a, b, e, f⟩ | ⟨z, d', a, b, e, f, _⟩
              · omega
              · exact Or.inr f
              · omega
            · exact Or.inl (Or.inr ⟨d, by omega, b, e⟩)
        · rw [tkI_c]
          refine tr_Y_goOn (D := D) (F := up1 D c 0) (MN_fr hM (fun p i a b => by rw [h2 _ _ (by omega), c2 _ _ (by omega)]) (by rw [h2 _ _ (by omega), c2 _ _ (by omega)]) (by rw [h2 _ _ (by omega), c2 _ _ (by omega)]) (by rw [h2 _ _ (by omega), c2 _ _ (by omega)])) hn4 hl6 h1 (fun d hd => by rw [h2 _ _ (by omega)]; exact c1 d hd) hD hE0 (fun d hd => by unfold up1; split <;> first | rfl | exact hd) rfl (tk_ltl _ _) (by omega) (fun d a b e => hnew _ (stp _ (Or.inr (Or.inr ⟨y, d, a, by omega, hy, by omega, b, e, rfl⟩)))) (fun g2 a1 a2 => ?_)
          apply sg_Y_stepFrom_142 (A := A)
          refine ⟨⟨by omega, by omega⟩, ih hcl' g2 _ _ (GQ_ext a1 (fun E hE => ?_)) (fun p i hp => by rw [a2 _ _ hp]; exact h2 p i hp)⟩
          rcases hE with a | ⟨d, a, b, e⟩
          · exact Or.inl (Or.inl a)
          · by_cases hdc : d = c
            · subst hdc
              rcases e with ⟨z, a, b, _⟩ | ⟨z, a, b, e, f⟩ | ⟨z, d', a, b, e, f, u, u2, u3⟩
              · omega
              · omega
              · have hzy : z = y := by omega
                subst hzy
                exact Or.inr ⟨d', a, u, u2, u3⟩
            · exact Or.inl (Or.inr ⟨d, by omega, b, e⟩)
  have outer : ∀ x, x ≤ nd A → ∀ (g' : jv_S) (v4 v5 : jv_V), GQ A q (k' + 1) (sX A D x 0) g' → (∀ (p : Nat) (i : Int), ¬ (p = 152 ∨ p = 153 ∨ (p = 136 ∧ i = 25)) → g' p i = g0 p i) → jv_At jv_T jv_ml kY_stepFrom 16 [jv_P 136, jv_I (mc A D : Nat), jv_I ((k' + 1 : Nat) : Int), jv_I x, v4, v5] [] (LL n l) (g') Q := by
    apply loop_up
    intro x hxn ih g' v4 v5 h1 h2
    have f1' : g' 136 5 = nd A := by rw [h2 _ _ (by omega), c2 _ _ (by omega)]; exact f1
    apply sg_Y_stepFrom_16 (A := A)
    refine ⟨fun h => lanes 0 (by omega) g' _ _ (GQ_ext h1 (fun E hE => ?_)) h2, fun h => ?_⟩
    · rcases hE with a | ⟨d, a, _⟩
      · rw [show x = nd A by omega]; exact a
      · omega
    · have inner : ∀ y, y ≤ nd A → ∀ (g' : jv_S) (v5 : jv_V), GQ A q (k' + 1) (sX A D x y) g' → (∀ (p : Nat) (i : Int), ¬ (p = 152 ∨ p = 153 ∨ (p = 136 ∧ i = 25)) → g' p i = g0 p i) → jv_At jv_T jv_ml kY_stepFrom 27 [jv_P 136, jv_I (mc A D : Nat), jv_I ((k' + 1 : Nat) : Int), jv_I x, jv_I y, v5] [] (LL n l) (g') Q := by
        apply loop_up
        intro y hyn ihy g' v5 h1 h2
        have f1' : g' 136 5 = nd A := by rw [h2 _ _ (by omega), c2 _ _ (by omega)]; exact f1
        have hM' : MN A g' := MN_fr hM (fun p i a b => by rw [h2 _ _ (by omega), c2 _ _ (by omega)]) (by rw [h2 _ _ (by omega), c2 _ _ (by omega)]) (by rw [h2 _ _ (by omega), c2 _ _ (by omega)]) (by rw [h2 _ _ (by omega), c2 _ _ (by omega)])
        apply sg_Y_stepFrom_27 (A := A)
        refine ⟨fun h3 => ⟨⟨by omega, by omega⟩, ih (by omega) g' _ _ (GQ_ext h1 (fun E hE => ?_)) h2⟩, fun h3 => ⟨⟨by omega, by omega⟩, ⟨rfl, LLx_ok, hM', ⟨by omega, by omega⟩, by omega, Or.inr ⟨by omega, by omega⟩⟩, ?_⟩⟩
        · obtain ⟨x', y', d, a0, a, b, e⟩ := hE
          exact ⟨x', y', d, a0, a, by omega, e⟩
        · rw [tkI_x]
          refine tr_Y_goOn (D := D) (F := D) hM' hn4 hl6 h1 (fun d hd => by rw [h2 _ _ (by omega)]; exact c1 d hd) hD hD (fun d hd => hd) rfl (tk_ltl _ _) (by omega) (fun d a b e => hnew _ (stC_L.mpr ⟨d, a, Or.inl ⟨y, by omega, e, un_bit.mpr ⟨x, by omega, b⟩, rfl⟩⟩)) (fun g2 a1 a2 => ?_)
          apply sg_Y_stepFrom_54 (A := A)
          refine ⟨⟨by omega, by omega⟩, ihy (by omega) g2 _ (GQ_ext a1 (fun E hE => ?_)) (fun p i hp => by rw [a2 _ _ hp]; exact h2 p i hp)⟩
          obtain ⟨x', y', d, a0, a, b, e, f, u, u2⟩ := hE
          by_cases hxy : x' = x ∧ y' = y
          · obtain ⟨rfl, rfl⟩ := hxy
            exact Or.inr ⟨d, e, f, u, u2⟩
          · exact Or.inl ⟨x', y', d, a0, a, by omega, e, f, u, u2⟩
      exact inner 0 (by omega) g' _ h1 h2
  exact outer 0 (by omega) g0 _ _ (GQ_ext hG0 (fun E hE => by obtain ⟨x', y', d, a0, a, b, _⟩ := hE; omega)) (fun _ _ _ => rfl)
set_option maxRecDepth 100000 in
theorem sg_Y_isDead_0 {A : jA} {n l : Nat} {g : jv_S} {Q : jv_V → jv_L → jv_S → Prop} {v1 : Int} (h :
   jv_Ca jv_T jv_ml kY_layContent [jv_P 136, jv_I v1] (LL n l) g (fun r L2 g2 => jv_At jv_T jv_ml kY_isDead 5 [jv_P 136, jv_I v1, jv_U, jv_U, jv_U] (jv_pu r []) L2 g2 Q)) :
  jv_At jv_T jv_ml kY_isDead 0 [jv_P 136, jv_I v1, jv_U, jv_U, jv_U] [] (LL n l) g Q :=
  jv_of_wp (gok9 (A := A)) (md := []) (stop := [9, 59, 68]) (tab := jt_Y_isDead) rfl 400 _ _ _ _ _ h
set_option maxRecDepth 100000 in
theorem sg_Y_isDead_5 {A : jA} {n l : Nat} {g : jv_S} {Q : jv_V → jv_L → jv_S → Prop} {v1 : Int} {v2 v3 v4 : jv_V} (h :
   jv_At jv_T jv_ml kY_isDead 9 [jv_P 136, jv_I v1, jv_I (0 : Int), jv_I (0 : Int), v4] [] (LL n l) g Q) :
  jv_At jv_T jv_ml kY_isDead 5 [jv_P 136, jv_I v1, v2, v3, v4] [] (LL n l) g Q :=
  jv_of_wp (gok9 (A := A)) (md := []) (stop := [9, 59, 68]) (tab := jt_Y_isDead) rfl 400 _ _ _ _ _ h
set_option maxRecDepth 100000 in
theorem sg_Y_isDead_9 {A : jA} {n l : Nat} {g : jv_S} {Q : jv_V → jv_L → jv_S → Prop} {v1 v2 v3 : Int} {v4 : jv_V} (h :
   ((g 136 6) ≤ v3 →
     jv_At jv_T jv_ml kY_isDead 59 [jv_P 136, jv_I v1, jv_I v2, jv_I (1 : Int), v4] [] (LL n l) g Q) ∧
    (¬ (g 136 6) ≤ v3 →
     (0 ≤ v3 ∧ v3 < 6) ∧
      ((g 154 v3) < 0 →
       jv_r32 (v3 + (1 : Int)) ∧
        jv_At jv_T jv_ml kY_isDead 9 [jv_P 136, jv_I v1, jv_I (jv_or v2 (0 : Int)), jv_I (v3 + (1 : Int)), v4] [] (LL n l) g Q) ∧
      (¬ (g 154 v3) < 0 →
       (0 ≤ v3 ∧ v3 < 10) ∧
        (0 ≤ v3 ∧ v3 < 6) ∧
        ((g 141 v3) = (g 154 v3) →
         jv_r32 (v3 + (1 : Int)) ∧
          jv_At jv_T jv_ml kY_isDead 9 [jv_P 136, jv_I v1, jv_I (jv_or v2 (0 : Int)), jv_I (v3 + (1 : Int)), v4] [] (LL n l) g Q) ∧
        (¬ (g 141 v3) = (g 154 v3) →
         jv_r32 (v3 + (1 : Int)) ∧
          jv_At jv_T jv_ml kY_isDead 9 [jv_P 136, jv_I v1, jv_I (jv_or v2 (jv_shl (1 : Int) v3)), jv_I (v3 + (1 : Int)), v4] [] (LL n l) g Q)))) :
  jv_At jv_T jv_ml kY_isDead 9 [jv_P 136, jv_I v1, jv_I v2, jv_I v3, v4] [] (LL n l) g Q :=
  jv_of_wp (gok9 (A := A)) (md := []) (stop := [9, 59, 68]) (tab := jt_Y_isDead) rfl 400 _ _ _ _ _ h
set_option maxRecDepth 100000 in
theorem sg_Y_isDead_59 {A : jA} {n l : Nat} {g : jv_S} {Q : jv_V → jv_L → jv_S → Prop} {v1 v2 v3 : Int} {v4 : jv_V} (h :
   (v3 = 0 →
     (v2 = 0 →
       ((0 : Int) = 0 ∨ (0 : Int) = 1) ∧ Q (jv_I (0 : Int)) (LL n l) g) ∧
      (¬ v2 = 0 →
       ((1 : Int) = 0 ∨ (1 : Int) = 1) ∧ Q (jv_I (1 : Int)) (LL n l) g)) ∧
    (¬ v3 = 0 →
     jv_At jv_T jv_ml kY_isDead 68 [jv_P 136, jv_I v1, jv_I v2, jv_I (0 : Int), jv_I (0 : Int)] [] (LL n l) g Q)) :
  jv_At jv_T jv_ml kY_isDead 59 [jv_P 136, jv_I v1, jv_I v2, jv_I v3, v4] [] (LL n l) g Q :=
  jv_of_wp (gok9 (A := A)) (md := []) (stop := [9, 59, 68]) (tab := jt_Y_isDead) rfl 400 _ _ _ _ _ h
set_option maxRecDepth 100000 in
theorem sg_Y_isDead_68 {A : jA} {n l : Nat} {g : jv_S} {Q : jv_V → jv_L → jv_S → Prop} {v1 v2 v3 v4 : Int} (h :
   ((g 136 6) ≤ v4 →
     jv_At jv_T jv_ml kY_isDead 59 [jv_P 136, jv_I v1, jv_I v2, jv_I v3, jv_I v4] [] (LL n l) g Q) ∧
    (¬ (g 136 6) ≤ v4 →
     ((0 ≤ v2 ∧ v2 < 2147483648 ∧ 0 ≤ v4 ∧ v4 < 31)) ∧
      ((hb v2 v4) = 0 →
       jv_r32 (v4 + (1 : Int)) ∧
        jv_At jv_T jv_ml kY_isDead 68 [jv_P 136, jv_I v1, jv_I v2, jv_I v3, jv_I (v4 + (1 : Int))] [] (LL n l) g Q) ∧
      (¬ (hb v2 v4) = 0 →
       (0 ≤ v4 ∧ v4 < 6) ∧
        ((136 = 136) ∧ (LLx (LL n l)) ∧ (MN A g ∧ (0 ≤ (g 154 v4) ∧ (g 154 v4) < nd A) ∧ 0 ≤ v4 ∧ (v4 < ln A ∨ (10 ≤ v4 ∧ v4 < 10 + nd A)))) ∧
        ((jv_and (tkI A v4 (g 154 v4)) (jv_xor v2 (-1 : Int))) = 0 →
         jv_r32 (v4 + (1 : Int)) ∧
          jv_At jv_T jv_ml kY_isDead 68 [jv_P 136, jv_I v1, jv_I v2, jv_I v3, jv_I (v4 + (1 : Int))] [] (LL n l) g Q) ∧
        (¬ (jv_and (tkI A v4 (g 154 v4)) (jv_xor v2 (-1 : Int))) = 0 →
         jv_r32 (v4 + (1 : Int)) ∧
          jv_At jv_T jv_ml kY_isDead 68 [jv_P 136, jv_I v1, jv_I (jv_and v2 (jv_xor (jv_shl (1 : Int) v4) (-1 : Int))), jv_I (1 : Int), jv_I (v4 + (1 : Int))] [] (LL n l) g Q)))) :
  jv_At jv_T jv_ml kY_isDead 68 [jv_P 136, jv_I v1, jv_I v2, jv_I v3, jv_I v4] [] (LL n l) g Q :=
  jv_of_wp (gok9 (A := A)) (md := []) (stop := [9, 59, 68]) (tab := jt_Y_isDead) rfl 400 _ _ _ _ _ h
theorem tr_Y_isDead {A : jA} {n l : Nat} {g : jv_S} {Q : jv_V → jv_L → jv_S → Prop} {D : Nat → Nat} (hM : MN A g) (hn4 : nd A ≤ 4) (hl6 : ln A ≤ 6) (hD : vdC A D)
  (hQ : ∀ g' : jv_S, (∀ (p : Nat) (i : Int), p ≠ 154 → g' p i = g p i) → Q (jv_I (jb_p (dD A D ≠ 0))) (LL n l) g') :
  jv_Ca jv_T jv_ml kY_isDead [jv_P 136, jv_I (mc A D : Nat)] (LL n l) g Q := by
  apply sg_Y_isDead_0 (A := A)
  refine tr_Y_layContent hn4 hl6 hD (fun g0 c1 c2 => ?_)
  apply sg_Y_isDead_5 (A := A)
  have hM0 : MN A g0 := MN_fr hM (fun p i a b => c2 _ _ (by omega)) (c2 _ _ (by omega)) (c2 _ _ (by omega)) (c2 _ _ (by omega))
  have hq := hQ g0 c2
  have f2 := hM0.2.2.1
  have exit : ∀ (s : Nat) (v : jv_V), s = dD A D → jv_At jv_T jv_ml kY_isDead 59 [jv_P 136, jv_I (mc A D : Nat), jv_I s, jv_I 0, v] [] (LL n l) g0 Q := by
    intro s v h1
    apply sg_Y_isDead_59 (A := A)
    rw [← h1] at hq
    refine ⟨fun _ => ⟨fun h => ⟨Or.inl rfl, ?_⟩, fun h => ⟨Or.inr rfl, ?_⟩⟩, fun h => absurd rfl h⟩
    · rw [jp_f (by omega)] at hq; exact hq
    · rw [jp_t (by omega)] at hq; exact hq
  have main : ∀ (k s : Nat) (v : jv_V), pcr s (ln A) = k → s < 2 ^ ln A → GI (dN A D) (dS A D) s → jv_At jv_T jv_ml kY_isDead 59 [jv_P 136, jv_I (mc A D : Nat), jv_I s, jv_I 1, v] [] (LL n l) g0 Q := by
    intro k
    induction k using Nat.strongRecOn with
    | ind k ih =>
      intro s v hk h1 h2
      apply sg_Y_isDead_59 (A := A)
      refine ⟨fun h => by omega, fun _ => ?_⟩
      have inner : ∀ c, c ≤ ln A → ∀ mo : Int, (mo = if rp (dN A D) s c = s then 0 else 1) → jv_At jv_T jv_ml kY_isDead 68 [jv_P 136, jv_I (mc A D : Nat), jv_I (rp (dN A D) s c : Nat), jv_I mo, jv_I c] [] (LL n l) g0 Q := by
        apply loop_up
        intro c hc ihc mo hmo
        have hlt := rp_lt (nd := dN A D) h1 c
        apply sg_Y_isDead_68 (A := A)
        refine ⟨fun h => ?_, fun h => ?_⟩
        · have hcl : c = ln A := by omega
          subst hcl
          by_cases he : rp (dN A D) s (ln A) = s
          · rw [if_pos he] at hmo
            rw [hmo, he]
            exact exit s _ (GI_fix h2 h1 he)
          · rw [if_neg he] at hmo
            rw [hmo]
            exact ih _ (by have := rp_ne h1 he; omega) _ _ rfl hlt (rp_GI (dN_mon A D) h2 _)
        · have hl := i31 hlt (by omega)
          have fc := c1 c (by omega)
          rw [fc]
          cases hbit : (rp (dN A D) s c).testBit c with
          | false =>
            have e0 := hb_f hbit
            have e1 := rp_n (nd := dN A D) (t := s) (c := c) (Or.inl hbit)
            have := ihc (by omega) mo (by rw [e1]; exact hmo)
            rw [e1] at this
            rw [e0]
            exact ⟨⟨by omega, by omega, by omega, by omega⟩, fun _ => ⟨⟨by omega, by omega⟩, this⟩, fun h => absurd rfl h⟩
          | true =>
            have e0 := hb_t hbit
            have hnz := (dS_bit (h2.1 c (rp_sub c c hbit))).2
            have hle := hD.1 c (by omega)
            have e2 : jv_and (tkI A (c : Int) ((D c : Int) - 1)) (jv_xor ((rp (dN A D) s c : Nat) : Int) (-1)) = ((bd (tk A c (D c - 1)) (rp (dN A D) s c) : Nat) : Int) := by
              rw [show (D c : Int) - 1 = ((D c - 1 : Nat) : Int) by omega, tkI_c]
              exact jb_andn (i31 (tk_ltl _ _) (by omega)) hl
            rw [e0, e2]
            refine ⟨⟨by omega, by omega, by omega, by omega⟩, fun h => by omega, fun _ => ⟨⟨by omega, by omega⟩, ⟨rfl, LLx_ok, hM0, ⟨by omega, by omega⟩, by omega, Or.inl (by omega)⟩, fun hn => ⟨⟨by omega, by omega⟩, ?_⟩, fun hn => ⟨⟨by omega, by omega⟩, ?_⟩⟩⟩
            · have e1 := rp_n (nd := dN A D) (t := s) (c := c) (Or.inr (bd_z.mp (by omega)))
              have := ihc (by omega) mo (by rw [e1]; exact hmo)
              rw [e1] at this
              exact this
            · obtain ⟨e3, e4⟩ := rp_y hbit (show ¬ dN A D c _ from fun h => hn (by rw [bd_z.mpr h]; rfl))
              have := ihc (by omega) 1 (by rw [if_neg e4])
              rw [e3] at this
              rw [jb_clr hlt (by omega) (by omega)]
              exact this
      exact inner 0 (by omega) 0 (by rw [show rp (dN A D) s 0 = s from rfl, if_pos rfl])
  have start : ∀ c, c ≤ ln A → ∀ (s : Int) (v : jv_V), s = (mk (fun c => decide (D c ≠ 0) && decide (D c - 1 ≠ tt A c)) c : Nat) → jv_At jv_T jv_ml kY_isDead 9 [jv_P 136, jv_I (mc A D : Nat), jv_I s, jv_I c, v] [] (LL n l) g0 Q := by
    apply loop_up
    intro c hc ih s v hs
    apply sg_Y_isDead_9 (A := A)
    refine ⟨fun h => ?_, fun h => ?_⟩
    · have hcl : c = ln A := by omega
      subst hcl
      rw [hs]
      exact main _ _ _ rfl dS_lt GI_0
    · have fc := c1 c (by omega)
      have ft := (hM0.2.2.2.2.1 c (by omega)).2.1
      have hle := hD.1 c (by omega)
      have hm := i31 (mk_lt (fun c => decide (D c ≠ 0) && decide (D c - 1 ≠ tt A c)) c) (by omega)
      have h0 : jv_or s 0 = s := by rw [hs]; exact or0 hm
      rw [fc, ft, h0]
      refine ⟨⟨by omega, by omega⟩, fun h2 => ⟨⟨by omega, by omega⟩, ih (by omega) _ _ (mk_no hs (by rw [decide_eq_false (show ¬ D c ≠ 0 by omega)]; rfl))⟩, fun h2 => ⟨⟨by omega, by omega⟩, ⟨by omega, by omega⟩, fun h3 => ⟨⟨by omega, by omega⟩, ih (by omega) _ _ (mk_no hs (by rw [decide_eq_false (show ¬ D c - 1 ≠ tt A c by omega), Bool.and_false]))⟩, fun h3 => ⟨⟨by omega, by omega⟩, ih (by omega) _ _ (mk_or (by omega) hs (by rw [decide_eq_true (show D c ≠ 0 by omega), decide_eq_true (show D c - 1 ≠ tt A c by omega)]; rfl))⟩⟩⟩
  exact start 0 (by omega) 0 _ rfl
set_option maxRecDepth 100000 in
theorem sg_Y_isSmall_0 {A : jA} {n l : Nat} {g : jv_S} {Q : jv_V → jv_L → jv_S → Prop} (h :
   ((g 136 6) ≤ 0 →
     jv_At jv_T jv_ml kY_isSmall 32 [jv_P 136, jv_I (0 : Int), jv_I (0 : Int)] [] (LL n l) g Q) ∧
    (¬ (g 136 6) ≤ 0 →
     ((4 : Int) < (g 136 5) →
       jv_At jv_T jv_ml kY_isSmall 32 [jv_P 136, jv_I (0 : Int), jv_I (0 : Int)] [] (LL n l) g Q) ∧
      (¬ (4 : Int) < (g 136 5) →
       ((6 : Int) < (g 136 6) →
         jv_At jv_T jv_ml kY_isSmall 32 [jv_P 136, jv_I (0 : Int), jv_I (0 : Int)] [] (LL n l) g Q) ∧
        (¬ (6 : Int) < (g 136 6) →
         jv_At jv_T jv_ml kY_isSmall 32 [jv_P 136, jv_I (1 : Int), jv_I (0 : Int)] [] (LL n l) g Q)))) :
  jv_At jv_T jv_ml kY_isSmall 0 [jv_P 136, jv_U, jv_U] [] (LL n l) g Q :=
  jv_of_wp (gok9 (A := A)) (md := []) (stop := [32]) (tab := jt_Y_isSmall) rfl 400 _ _ _ _ _ h
set_option maxRecDepth 100000 in
theorem sg_Y_isSmall_32 {A : jA} {n l : Nat} {g : jv_S} {Q : jv_V → jv_L → jv_S → Prop} {v1 v2 : Int} (h :
   ((g 136 6) ≤ v2 →
     (v1 = 0 ∨ v1 = 1) ∧ Q (jv_I v1) (LL n l) g) ∧
    (¬ (g 136 6) ≤ v2 →
     (0 ≤ v2 ∧ v2 < 10) ∧
      ((g 142 v2) = (1 : Int) →
       jv_r32 (v2 + (1 : Int)) ∧
        jv_At jv_T jv_ml kY_isSmall 32 [jv_P 136, jv_I (jv_and v1 (1 : Int)), jv_I (v2 + (1 : Int))] [] (LL n l) g Q) ∧
      (¬ (g 142 v2) = (1 : Int) →
       jv_r32 (v2 + (1 : Int)) ∧
        jv_At jv_T jv_ml kY_isSmall 32 [jv_P 136, jv_I (jv_and v1 (0 : Int)), jv_I (v2 + (1 : Int))] [] (LL n l) g Q))) :
  jv_At jv_T jv_ml kY_isSmall 32 [jv_P 136, jv_I v1, jv_I v2] [] (LL n l) g Q :=
  jv_of_wp (gok9 (A := A)) (md := []) (stop := [32]) (tab := jt_Y_isSmall) rfl 400 _ _ _ _ _ h
theorem tr_Y_isSmall {A : jA} {n l : Nat} {g : jv_S} {Q : jv_V → jv_L → jv_S → Prop} (hM : MN A g) (h1 : ftC A → Q (jv_I 1) (LL n l) g) (h0 : ¬ ftC A → Q (jv_I 0) (LL n l) g) :
  jv_Ca jv_T jv_ml kY_isSmall [jv_P 136] (LL n l) g Q := by
  have f1 := hM.2.1
  have f2 := hM.2.2.1
  have w2 := hM.1.2.1
  have a11 : jv_and 1 1 = 1 := by decide
  have a01 : jv_and 0 1 = 0 := by decide
  have a10 : jv_and 1 0 = 0 := by decide
  have a00 : jv_and 0 0 = 0 := by decide
  have main : ∀ c, c ≤ ln A → ∀ v : Int, (v = 0 ∨ v = 1) → (v = 1 ↔ 0 < ln A ∧ ln A ≤ 6 ∧ nd A ≤ 4 ∧ ∀ d, d < c → rm A d = 1) → jv_At jv_T jv_ml kY_isSmall 32 [jv_P 136, jv_I v, jv_I c] [] (LL n l) g Q := by
    apply loop_up
    intro c hc ih v hv hi
    apply sg_Y_isSmall_32 (A := A)
    refine ⟨fun h => ⟨hv, ?_⟩, fun h => ?_⟩
    · have hcl : c = ln A := by omega
      subst hcl
      rcases hv with h | h
      · rw [h]; exact h0 (fun hf => by have := hi.mpr hf; omega)
      · rw [h]; exact h1 (hi.mp h)
    · have fm := (hM.2.2.2.2.1 c (by omega)).2.2.1
      rw [fm]
      refine ⟨⟨by omega, by omega⟩, fun h3 => ⟨⟨by omega, by omega⟩, ?_⟩, fun h3 => ⟨⟨by omega, by omega⟩, ?_⟩⟩
      · have e : jv_and v 1 = v := by
          rcases hv with h | h
          · rw [h]; exact a01
          · rw [h]; exact a11
        rw [e]
        refine ih (by omega) v hv ?_
        rw [hi]
        refine ⟨fun ⟨a, b, e, f⟩ => ⟨a, b, e, fun d hd => ?_⟩, fun ⟨a, b, e, f⟩ => ⟨a, b, e, fun d hd => f d (by omega)⟩⟩
        by_cases hdc : d = c
        · subst hdc; omega
        · exact f d (by omega)
      · have e : jv_and v 0 = 0 := by
          rcases hv with h | h
          · rw [h]; exact a00
          · rw [h]; exact a10
        rw [e]
        refine ih (by omega) 0 (Or.inl rfl) ⟨fun h => by omega, fun ⟨a, b, e, f⟩ => ?_⟩
        have := f c (by omega)
        omega
  apply sg_Y_isSmall_0 (A := A)
  rw [f1, f2]
  refine ⟨fun h => main 0 (by omega) 0 (Or.inl rfl) ⟨fun h => by omega, fun h => by omega⟩, fun h => ⟨fun h2 => main 0 (by omega) 0 (Or.inl rfl) ⟨fun h => by omega, fun h => by omega⟩, fun h2 => ⟨fun h3 => main 0 (by omega) 0 (Or.inl rfl) ⟨fun h => by omega, fun h => by omega⟩, fun h3 => main 0 (by omega) 1 (Or.inr rfl) ⟨fun _ => ⟨by omega, by omega, by omega, fun d hd => by omega⟩, fun _ => rfl⟩⟩⟩⟩
