/-! ===== the calls bears, busiest, both sides ===== -/
theorem su_sv {A : jA} (h : su A = true) {y : Nat} (hy : y < nd A) : sv A y = true := by
  unfold su at h
  have h1 : anyB (fun y => !sv A y) (nd A) = false := by
    cases hx : anyB (fun y => !sv A y) (nd A) with
    | true => rw [hx] at h; cases h
    | false => rfl
  have h2 := anyB_f.mp h1 y hy
  cases hv : sv A y with
  | true => rfl
  | false => rw [hv] at h2; cases h2
theorem su_od {A : jA} (h : su A = true) (h2 : 2 ≤ nd A) {v : Nat} (hv : v < nd A) : 1 ≤ od A v := by
  obtain ⟨y, hy, hne⟩ : ∃ y, y < nd A ∧ y ≠ v := by
    by_cases h0 : v = 0
    · exact ⟨1, by omega, by omega⟩
    · exact ⟨0, by omega, by omega⟩
  have hs := su_sv h hy
  unfold sv at hs
  have h1 : anyB (ns A y) (nd A) = false := by
    cases hx : anyB (ns A y) (nd A) with
    | true => rw [hx] at hs; cases hs
    | false => rfl
  have h3 := anyB_f.mp h1 v hv
  unfold ns at h3
  rw [decide_eq_false (fun e => hne e.symm)] at h3
  have h4 : tk A (10 + v) y ≠ 0 := by
    intro e
    rw [decide_eq_true e] at h3
    cases h3
  obtain ⟨d, hd⟩ := bt_of_nz h4
  obtain ⟨b1, b2⟩ := tk_bit hd
  have b3 : fr A d = v := by rw [b2]; unfold tx; rw [if_neg (by omega)]; omega
  exact ct_pos (ln A) b1 (decide_eq_true b3)
theorem bs_bound {A : jA} (hw : wf A) (h : su A = true) {c : Nat} (hc : c < ln A) : Af A c * NN A ≤ 9000000000000000000 := by
  have h1 : Af A c ≤ nd A * (nd A * (10 * NN A)) := sgm_B _ (fun _ _ => sgm_B _ (fun _ _ => Tf_le hc))
  by_cases h5 : 5 ≤ nd A
  · have h2 := Af_le hw hc
    have h3 := NN_le2 hw h5 (fun v hv => su_od h (by omega) hv)
    exact Nat.le_trans (Nat.mul_le_mul (Nat.le_trans h2 (Nat.mul_le_mul_left 360 h3)) h3) (by decide)
  · have h3 := NN_le hw
    have h2 : nd A * (nd A * (10 * NN A)) ≤ 4 * (4 * (10 * NN A)) := Nat.mul_le_mul (by omega) (Nat.mul_le_mul_right _ (by omega))
    have h4 : Af A c ≤ 4 * (4 * (10 * 217728000)) := Nat.le_trans h1 (Nat.le_trans h2 (by omega))
    exact Nat.le_trans (Nat.mul_le_mul h4 h3) (by decide)
theorem bs_cmp {N u1 d1 V1 u2 d2 V2 : Nat} (hN : 0 < N) (h1 : RP N u1 d1 V1) (h2 : RP N u2 d2 V2) : (V2 < V1 ↔ u2 * d1 < u1 * d2) ∧ u1 * d2 ≤ V1 * N ∧ u2 * d1 ≤ V2 * N := by
  obtain ⟨k1, a1, a2⟩ := h1
  obtain ⟨k2, b1, b2⟩ := h2
  have p1 : 0 < k1 := by
    rcases Nat.eq_zero_or_pos k1 with e | e
    · rw [e, Nat.mul_zero] at a1; omega
    · exact e
  have p2 : 0 < k2 := by
    rcases Nat.eq_zero_or_pos k2 with e | e
    · rw [e, Nat.mul_zero] at b1; omega
    · exact e
  have hK : 0 < k1 * k2 := Nat.mul_pos p1 p2
  have e1 : V1 * N = (u1 * d2) * (k1 * k2) := by
    rw [a2, b1, Nat.mul_assoc u1 k1, Nat.mul_left_comm k1 d2 k2, Nat.mul_assoc]
  have e2 : V2 * N = (u2 * d1) * (k1 * k2) := by
    rw [b2, a1, Nat.mul_assoc u2 k2, Nat.mul_left_comm k2 d1 k1, Nat.mul_comm k2 k1, Nat.mul_assoc]
  refine ⟨?_, by rw [e1]; exact Nat.le_mul_of_pos_right _ hK, by rw [e2]; exact Nat.le_mul_of_pos_right _ hK⟩
  have q1 : V2 * N < V1 * N ↔ V2 < V1 := Nat.mul_lt_mul_right hN
  have q2 : u2 * d1 * (k1 * k2) < u1 * d2 * (k1 * k2) ↔ u2 * d1 < u1 * d2 := Nat.mul_lt_mul_right hK
  rw [← q1, e1, e2]
  exact q2
/-- what busiest answers -/
noncomputable def bzA (A : jA) : Int := if ln A = 0 ∨ su A = false then -3 else (bsA A (ln A) : Nat)
/-- what bears answers -/
noncomputable def brA (A : jA) (c w : Int) : Int := if ¬ (0 ≤ c ∧ c < ln A) ∨ ¬ (0 ≤ w ∧ w ≤ 1) ∨ su A = false then -9223372036854775808 else if w = 0 then (rdu (NN A) (Af A c.toNat) : Nat) else (rdd (NN A) (Af A c.toNat) : Nat)
theorem su_f {A : jA} : su A = false ↔ ¬ aC A := by
  rw [← su_aC]
  cases su A <;> simp
theorem aCb_0 {A : jA} : aCb A = 0 ↔ su A = false := by
  unfold aCb
  rw [jb0, su_f]
  exact dc_f
set_option maxRecDepth 100000 in
theorem sg_Y_busiest_0 {A : jA} {n l : Nat} {g : jv_S} {Q : jv_V → jv_L → jv_S → Prop} (h :
   ((g 136 6) = 0 →
     jv_At jv_T jv_ml kY_busiest 14 [jv_P 136, jv_U, jv_U] [] (LL n l) g Q) ∧
    (¬ (g 136 6) = 0 →
     ((136 = 136) ∧ (LLx (LL n l)) ∧ (MN A g)) ∧
      ((aCb A) = 0 →
       jv_At jv_T jv_ml kY_busiest 14 [jv_P 136, jv_U, jv_U] [] (LL n l) g Q) ∧
      (¬ (aCb A) = 0 →
       jv_Ca jv_T jv_ml kY_layBears [jv_P 136] (LL n l) g (fun r L2 g2 => jv_At jv_T jv_ml kY_busiest 21 [jv_P 136, jv_U, jv_U] (jv_pu r []) L2 g2 Q)))) :
  jv_At jv_T jv_ml kY_busiest 0 [jv_P 136, jv_U, jv_U] [] (LL n l) g Q :=
  jv_of_wp (gok9 (A := A)) (md := []) (stop := [14, 25, 65]) (tab := jt_Y_busiest) rfl 400 _ _ _ _ _ h
set_option maxRecDepth 100000 in
theorem sg_Y_busiest_14 {A : jA} {n l : Nat} {g : jv_S} {Q : jv_V → jv_L → jv_S → Prop} {v1 v2 : jv_V} (h :
   Q (jv_I (-3 : Int)) (LL n l) g) :
  jv_At jv_T jv_ml kY_busiest 14 [jv_P 136, v1, v2] [] (LL n l) g Q :=
  jv_of_wp (gok9 (A := A)) (md := []) (stop := [14, 25, 65]) (tab := jt_Y_busiest) rfl 400 _ _ _ _ _ h
set_option maxRecDepth 100000 in
theorem sg_Y_busiest_21 {A : jA} {n l : Nat} {g : jv_S} {Q : jv_V → jv_L → jv_S → Prop} {v1 v2 : jv_V} (h :
   jv_At jv_T jv_ml kY_busiest 25 [jv_P 136, jv_I (0 : Int), jv_I (1 : Int)] [] (LL n l) g Q) :
  jv_At jv_T jv_ml kY_busiest 21 [jv_P 136, v1, v2] [] (LL n l) g Q :=
  jv_of_wp (gok9 (A := A)) (md := []) (stop := [14, 25, 65]) (tab := jt_Y_busiest) rfl 400 _ _ _ _ _ h
set_option maxRecDepth 100000 in
theorem sg_Y_busiest_25 {A : jA} {n l : Nat} {g : jv_S} {Q : jv_V → jv_L → jv_S → Prop} {v1 v2 : Int} (h :
   ((g 136 6) ≤ v2 →
     Q (jv_I v1) (LL n l) g) ∧
    (¬ (g 136 6) ≤ v2 →
     (0 ≤ v2 ∧ v2 < 11) ∧
      (0 ≤ v1 ∧ v1 < 11) ∧
      jv_r64 ((g 171 v2) * (g 172 v1)) ∧
      (0 ≤ v1 ∧ v1 < 11) ∧
      (0 ≤ v2 ∧ v2 < 11) ∧
      jv_r64 ((g 171 v1) * (g 172 v2)) ∧
      ((jv_cmp ((g 171 v2) * (g 172 v1)) ((g 171 v1) * (g 172 v2))) ≤ 0 →
       jv_At jv_T jv_ml kY_busiest 65 [jv_P 136, jv_I v1, jv_I v2] [] (LL n l) g Q) ∧
      (¬ (jv_cmp ((g 171 v2) * (g 172 v1)) ((g 171 v1) * (g 172 v2))) ≤ 0 →
       jv_At jv_T jv_ml kY_busiest 65 [jv_P 136, jv_I v2, jv_I v2] [] (LL n l) g Q))) :
  jv_At jv_T jv_ml kY_busiest 25 [jv_P 136, jv_I v1, jv_I v2] [] (LL n l) g Q :=
  jv_of_wp (gok9 (A := A)) (md := []) (stop := [14, 25, 65]) (tab := jt_Y_busiest) rfl 400 _ _ _ _ _ h
set_option maxRecDepth 100000 in
theorem sg_Y_busiest_65 {A : jA} {n l : Nat} {g : jv_S} {Q : jv_V → jv_L → jv_S → Prop} {v1 v2 : Int} (h :
   jv_r32 (v2 + (1 : Int)) ∧
    jv_At jv_T jv_ml kY_busiest 25 [jv_P 136, jv_I v1, jv_I (v2 + (1 : Int))] [] (LL n l) g Q) :
  jv_At jv_T jv_ml kY_busiest 65 [jv_P 136, jv_I v1, jv_I v2] [] (LL n l) g Q :=
  jv_of_wp (gok9 (A := A)) (md := []) (stop := [14, 25, 65]) (tab := jt_Y_busiest) rfl 400 _ _ _ _ _ h
theorem tr_Y_busiest {A : jA} {n l : Nat} {g : jv_S} {Q : jv_V → jv_L → jv_S → Prop} (hM : MN A g) (hQ : ∀ g' : jv_S, (∀ (p : Nat) (i : Int), ¬ (167 ≤ p ∧ p ≤ 172) → g' p i = g p i) → Q (jv_I (bzA A)) (LL n l) g') :
  jv_Ca jv_T jv_ml kY_busiest [jv_P 136] (LL n l) g Q := by
  have hw := hM.1
  have w2 := hw.2.1
  have hN := NN_pos hw
  have f6 := hM.2.2.1
  have no : (ln A = 0 ∨ su A = false) → Q (jv_I (-3 : Int)) (LL n l) g := fun h => by
    have := hQ g (fun _ _ _ => rfl)
    unfold bzA at this
    rw [if_pos h] at this
    exact this
  apply sg_Y_busiest_0 (A := A)
  refine ⟨fun h => sg_Y_busiest_14 (A := A) (no (Or.inl (by omega))), fun h => ⟨⟨rfl, LLx_ok, hM⟩, fun h1 => sg_Y_busiest_14 (A := A) (no (Or.inr (aCb_0.mp h1))), fun h1 => ?_⟩⟩
  have hs : su A = true := by
    cases hx : su A with
    | true => rfl
    | false => exact absurd (aCb_0.mpr hx) h1
  have hl : 0 < ln A := by omega
  have hyes : bzA A = (bsA A (ln A) : Nat) := by
    unfold bzA
    rw [if_neg (fun h => by rcases h with h | h; omega; rw [hs] at h; cases h)]
  refine tr_Y_layBears hM (fun y hy => sv_NR (su_sv hs hy)) (fun g1 a1 a2 => ?_)
  have f6' : g1 136 6 = ln A := by rw [a2 _ _ (by omega)]; exact f6
  apply sg_Y_busiest_21 (A := A)
  have main : ∀ c, c ≤ ln A → 1 ≤ c → jv_At jv_T jv_ml kY_busiest 25 [jv_P 136, jv_I (bsA A c : Nat), jv_I c] [] (LL n l) g1 Q := by
    apply loop_up
    intro c hc ih h1c
    have hb := bsA_lt (A := A) c h1c
    apply sg_Y_busiest_25 (A := A)
    refine ⟨fun h => by have := hQ g1 a2; rw [hyes, ← show c = ln A by omega] at this; exact this, fun h => ?_⟩
    have hcl : c < ln A := by omega
    obtain ⟨u1, u2⟩ := a1 c hcl
    obtain ⟨k1, k2⟩ := a1 (bsA A c) (by omega)
    obtain ⟨t1, t2, t3⟩ := bs_cmp hN (rd_RP (NN A) (Af A c)) (rd_RP (NN A) (Af A (bsA A c)))
    have q1 := bs_bound hw hs hcl
    have q2 := bs_bound hw hs (show bsA A c < ln A by omega)
    have hnext : bsA A (c + 1) = if Af A (bsA A c) < Af A c then c else bsA A c := rfl
    rw [u1, u2, k1, k2]
    have e3 : (rdu (NN A) (Af A c) : Int) * (rdd (NN A) (Af A (bsA A c)) : Int) = ((rdu (NN A) (Af A c) * rdd (NN A) (Af A (bsA A c)) : Nat) : Int) := (Int.natCast_mul ..).symm
    have e4 : (rdu (NN A) (Af A (bsA A c)) : Int) * (rdd (NN A) (Af A c) : Int) = ((rdu (NN A) (Af A (bsA A c)) * rdd (NN A) (Af A c) : Nat) : Int) := (Int.natCast_mul ..).symm
    rw [e3, e4]
    generalize rdu (NN A) (Af A c) * rdd (NN A) (Af A (bsA A c)) = P1 at t1 t2
    generalize rdu (NN A) (Af A (bsA A c)) * rdd (NN A) (Af A c) = P2 at t1 t3
    refine ⟨⟨by omega, by omega⟩, ⟨by omega, by omega⟩, ⟨by omega, by omega⟩, ⟨by omega, by omega⟩, ⟨by omega, by omega⟩, ⟨by omega, by omega⟩, fun hx => sg_Y_busiest_65 (A := A) ⟨⟨by omega, by omega⟩, ?_⟩, fun hx => sg_Y_busiest_65 (A := A) ⟨⟨by omega, by omega⟩, ?_⟩⟩
    · have := ih hcl (by omega)
      have hle := cmp_n.mp hx
      rw [hnext, if_neg (fun h => by have := t1.mp h; omega)] at this
      exact this
    · have := ih hcl (by omega)
      have hgt : ¬ P1 ≤ P2 := fun h => hx (cmp_n.mpr h)
      rw [hnext, if_pos (t1.mpr (by omega))] at this
      exact this
  have e : bsA A 1 = 0 := by have := bsA_lt (A := A) 1 (Nat.le_refl _); omega
  have m1 := main 1 (by omega) (Nat.le_refl _)
  rw [e] at m1
  exact m1
set_option maxRecDepth 100000 in
theorem sg_Y_bears_0 {A : jA} {n l : Nat} {g : jv_S} {Q : jv_V → jv_L → jv_S → Prop} {v1 v2 : Int} (h :
   ((136 = 136) ∧ (LLx (LL n l)) ∧ (True)) ∧
    ((jb_p (0 ≤ v1 ∧ v1 < g 136 6)) = 0 →
     Q (jv_J (-9223372036854775808 : Int)) (LL n l) g) ∧
    (¬ (jb_p (0 ≤ v1 ∧ v1 < g 136 6)) = 0 →
     ((True)) ∧
      ((jb_p ((0 : Int) ≤ v2 ∧ v2 ≤ (1 : Int))) = 0 →
       Q (jv_J (-9223372036854775808 : Int)) (LL n l) g) ∧
      (¬ (jb_p ((0 : Int) ≤ v2 ∧ v2 ≤ (1 : Int))) = 0 →
       ((136 = 136) ∧ (LLx (LL n l)) ∧ (MN A g)) ∧
        ((aCb A) = 0 →
         Q (jv_J (-9223372036854775808 : Int)) (LL n l) g) ∧
        (¬ (aCb A) = 0 →
         jv_Ca jv_T jv_ml kY_layBears [jv_P 136] (LL n l) g (fun r L2 g2 => jv_At jv_T jv_ml kY_bears 32 [jv_P 136, jv_I v1, jv_I v2] (jv_pu r []) L2 g2 Q))))) :
  jv_At jv_T jv_ml kY_bears 0 [jv_P 136, jv_I v1, jv_I v2] [] (LL n l) g Q :=
  jv_of_wp (gok9 (A := A)) (md := []) (stop := []) (tab := jt_Y_bears) rfl 400 _ _ _ _ _ h
set_option maxRecDepth 100000 in
theorem sg_Y_bears_32 {A : jA} {n l : Nat} {g : jv_S} {Q : jv_V → jv_L → jv_S → Prop} {v1 v2 : Int} (h :
   (v2 = 0 →
     (0 ≤ v1 ∧ v1 < 11) ∧
      Q (jv_J (g 171 v1)) (LL n l) g) ∧
    (¬ v2 = 0 →
     (0 ≤ v1 ∧ v1 < 11) ∧
      Q (jv_J (g 172 v1)) (LL n l) g)) :
  jv_At jv_T jv_ml kY_bears 32 [jv_P 136, jv_I v1, jv_I v2] [] (LL n l) g Q :=
  jv_of_wp (gok9 (A := A)) (md := []) (stop := []) (tab := jt_Y_bears) rfl 400 _ _ _ _ _ h
theorem tr_Y_bears {A : jA} {n l : Nat} {g : jv_S} {Q : jv_V → jv_L → jv_S → Prop} {c w : Int} (hM : MN A g) (hQ : ∀ g' : jv_S, (∀ (p : Nat) (i : Int), ¬ (167 ≤ p ∧ p ≤ 172) → g' p i = g p i) → Q (jv_J (brA A c w)) (LL n l) g') :
  jv_Ca jv_T jv_ml kY_bears [jv_P 136, jv_I c, jv_I w] (LL n l) g Q := by
  have hw := hM.1
  have w2 := hw.2.1
  have f6 := hM.2.2.1
  have no : (¬ (0 ≤ c ∧ c < ln A) ∨ ¬ (0 ≤ w ∧ w ≤ 1) ∨ su A = false) → Q (jv_J (-9223372036854775808 : Int)) (LL n l) g := fun h => by
    have := hQ g (fun _ _ _ => rfl)
    unfold brA at this
    rw [if_pos h] at this
    exact this
  apply sg_Y_bears_0 (A := A)
  rw [f6]
  refine ⟨⟨rfl, LLx_ok, trivial⟩, fun h => no (Or.inl (jp0.mp h)), fun h => ⟨trivial, fun h1 => no (Or.inr (Or.inl (jp0.mp h1))), fun h1 => ⟨⟨rfl, LLx_ok, hM⟩, fun h2 => no (Or.inr (Or.inr (aCb_0.mp h2))), fun h2 => ?_⟩⟩⟩
  have hc : 0 ≤ c ∧ c < ln A := Classical.byContradiction (fun h' => h (jp0.mpr h'))
  have hwh : 0 ≤ w ∧ w ≤ 1 := Classical.byContradiction (fun h' => h1 (jp0.mpr h'))
  have hs : su A = true := by
    cases hx : su A with
    | true => rfl
    | false => exact absurd (aCb_0.mpr hx) h2
  have hyes : brA A c w = if w = 0 then ((rdu (NN A) (Af A c.toNat) : Nat) : Int) else (rdd (NN A) (Af A c.toNat) : Nat) := by
    unfold brA
    rw [if_neg (fun h => by rcases h with h | h | h; exact h hc; exact h hwh; rw [hs] at h; cases h)]
  refine tr_Y_layBears hM (fun y hy => sv_NR (su_sv hs hy)) (fun g1 a1 a2 => ?_)
  obtain ⟨k, hk⟩ : ∃ k : Nat, c = k := ⟨c.toNat, by omega⟩
  subst hk
  obtain ⟨u1, u2⟩ := a1 k (by omega)
  have := hQ g1 a2
  rw [hyes] at this
  apply sg_Y_bears_32 (A := A)
  rw [u1, u2]
  refine ⟨fun h3 => ⟨⟨by omega, by omega⟩, by rw [if_pos h3] at this; exact this⟩, fun h3 => ⟨⟨by omega, by omega⟩, by rw [if_neg h3] at this; exact this⟩⟩
set_option maxRecDepth 100000 in
theorem sg_X_busiest_0 {A : jA} {n l : Nat} {g : jv_S} {Q : jv_V → jv_L → jv_S → Prop} (h :
   ((g 14 1) = 0 →
     Q (jv_I (-3 : Int)) (LL n l) g) ∧
    (¬ (g 14 1) = 0 →
     jv_Ca jv_T jv_ml kWa_work [jv_P 60] (LL n l) g (fun r L2 g2 => jv_At jv_T jv_ml kX_busiest 20 [jv_P 1] (jv_pu r []) L2 g2 Q))) :
  jv_At jv_T jv_ml kX_busiest 0 [jv_P 1] [] (LL n l) g Q :=
  jv_of_wp (gok9 (A := A)) (md := []) (stop := []) (tab := jt_X_busiest) rfl 400 _ _ _ _ _ h
set_option maxRecDepth 100000 in
theorem sg_X_busiest_20 {A : jA} {n l : Nat} {g : jv_S} {Q : jv_V → jv_L → jv_S → Prop} (h :
   ((g 60 8) = 0 →
     Q (jv_I (-3 : Int)) (LL n l) g) ∧
    (¬ (g 60 8) = 0 →
     jv_Ca jv_T jv_ml kB_work [jv_P 131] (LL n l) g (fun r L2 g2 => jv_At jv_T jv_ml kX_busiest 40 [jv_P 1] (jv_pu r []) L2 g2 Q))) :
  jv_At jv_T jv_ml kX_busiest 20 [jv_P 1] [] (LL n l) g Q :=
  jv_of_wp (gok9 (A := A)) (md := []) (stop := []) (tab := jt_X_busiest) rfl 400 _ _ _ _ _ h
set_option maxRecDepth 100000 in
theorem sg_X_busiest_40 {A : jA} {n l : Nat} {g : jv_S} {Q : jv_V → jv_L → jv_S → Prop} (h :
   jv_Ca jv_T jv_ml kB_greatest [jv_P 131] (LL n l) g (fun r L2 g2 => jv_At jv_T jv_ml kX_busiest 47 [jv_P 1] (jv_pu r []) L2 g2 Q)) :
  jv_At jv_T jv_ml kX_busiest 40 [jv_P 1] [] (LL n l) g Q :=
  jv_of_wp (gok9 (A := A)) (md := []) (stop := []) (tab := jt_X_busiest) rfl 400 _ _ _ _ _ h
set_option maxRecDepth 100000 in
theorem sg_X_busiest_47 {A : jA} {n l : Nat} {g : jv_S} {Q : jv_V → jv_L → jv_S → Prop} {s0 : Int} (h :
   Q (jv_I s0) (LL n l) g) :
  jv_At jv_T jv_ml kX_busiest 47 [jv_P 1] [jv_I s0] (LL n l) g Q :=
  jv_of_wp (gok9 (A := A)) (md := []) (stop := []) (tab := jt_X_busiest) rfl 400 _ _ _ _ _ h
set_option maxRecDepth 100000 in
theorem sg_X_bears_0 {A : jA} {n l : Nat} {g : jv_S} {Q : jv_V → jv_L → jv_S → Prop} {v1 v2 : Int} (h :
   ((14 = 14) ∧ (LLx (LL n l)) ∧ (True)) ∧
    ((jb_p (0 ≤ v1 ∧ v1 < g 14 1)) = 0 →
     Q (jv_J (-9223372036854775808 : Int)) (LL n l) g) ∧
    (¬ (jb_p (0 ≤ v1 ∧ v1 < g 14 1)) = 0 →
     (v2 < 0 →
       Q (jv_J (-9223372036854775808 : Int)) (LL n l) g) ∧
      (¬ v2 < 0 →
       (v2 ≤ (1 : Int) →
         jv_Ca jv_T jv_ml kWa_work [jv_P 60] (LL n l) g (fun r L2 g2 => jv_At jv_T jv_ml kX_bears 35 [jv_P 1, jv_I v1, jv_I v2] (jv_pu r []) L2 g2 Q)) ∧
        (¬ v2 ≤ (1 : Int) →
         Q (jv_J (-9223372036854775808 : Int)) (LL n l) g)))) :
  jv_At jv_T jv_ml kX_bears 0 [jv_P 1, jv_I v1, jv_I v2] [] (LL n l) g Q :=
  jv_of_wp (gok9 (A := A)) (md := []) (stop := []) (tab := jt_X_bears) rfl 400 _ _ _ _ _ h
set_option maxRecDepth 100000 in
theorem sg_X_bears_35 {A : jA} {n l : Nat} {g : jv_S} {Q : jv_V → jv_L → jv_S → Prop} {v1 v2 : Int} (h :
   ((g 60 8) = 0 →
     Q (jv_J (-9223372036854775808 : Int)) (LL n l) g) ∧
    (¬ (g 60 8) = 0 →
     jv_Ca jv_T jv_ml kB_work [jv_P 131] (LL n l) g (fun r L2 g2 => jv_At jv_T jv_ml kX_bears 56 [jv_P 1, jv_I v1, jv_I v2] (jv_pu r []) L2 g2 Q))) :
  jv_At jv_T jv_ml kX_bears 35 [jv_P 1, jv_I v1, jv_I v2] [] (LL n l) g Q :=
  jv_of_wp (gok9 (A := A)) (md := []) (stop := []) (tab := jt_X_bears) rfl 400 _ _ _ _ _ h
set_option maxRecDepth 100000 in
theorem sg_X_bears_56 {A : jA} {n l : Nat} {g : jv_S} {Q : jv_V → jv_L → jv_S → Prop} {v1 v2 : Int} (h :
   (v2 = 0 →
     (0 ≤ v1 ∧ v1 < 10) ∧
      Q (jv_J (g 132 v1)) (LL n l) g) ∧
    (¬ v2 = 0 →
     (0 ≤ v1 ∧ v1 < 10) ∧
      Q (jv_J (g 133 v1)) (LL n l) g)) :
  jv_At jv_T jv_ml kX_bears 56 [jv_P 1, jv_I v1, jv_I v2] [] (LL n l) g Q :=
  jv_of_wp (gok9 (A := A)) (md := []) (stop := []) (tab := jt_X_bears) rfl 400 _ _ _ _ _ h
/-- the class's work on what lanes bear -/
def BK (A : jA) (g : jv_S) : Prop := SR 132 133 (NN A) (Af A) (ln A) g
theorem tr_X_busiest {A : jA} {n l : Nat} {g : jv_S} {Q : jv_V → jv_L → jv_S → Prop} (hC : CN A g) (hW : CW 40 A g) (hk : g 60 10 = g 40 5 → WK A g) (hb : g 131 7 = g 40 5 → BK A g)
  (hQ : ∀ g' : jv_S, (g' 60 10 = g 40 5 → WK A g') → (g' 60 10 = g 60 10 ∨ g' 60 10 = g 40 5) → (g' 131 7 = g 40 5 → BK A g') → (g' 131 7 = g 131 7 ∨ g' 131 7 = g 40 5) → (∀ (p : Nat) (i : Int), ¬ ((60 ≤ p ∧ p ≤ 66) ∨ (131 ≤ p ∧ p ≤ 135)) → g' p i = g p i) → Q (jv_I (bzA A)) (LL n l) g') :
  jv_Ca jv_T jv_ml kX_busiest [jv_P 1] (LL n l) g Q := by
  have f2 := hC.2.2.1
  have no : (ln A = 0 ∨ su A = false) → bzA A = -3 := fun h => by
    unfold bzA
    rw [if_pos h]
  apply sg_X_busiest_0 (A := A)
  refine ⟨fun h => by have := hQ g hk (Or.inl rfl) hb (Or.inl rfl) (fun _ _ _ => rfl); rw [no (Or.inl (by omega))] at this; exact this, fun h => ?_⟩
  refine tr_Wa_work hC hW hk (fun g1 a1 a2 a3 => ?_)
  have hC1 : CN A g1 := CN_fr hC (fun p i a b => a3 _ _ (by omega))
  have hW1 : CW 40 A g1 := CW_fr hW (a3 _ _ (by omega)) (fun i => a3 _ _ (by omega)) (fun i => a3 _ _ (by omega)) (fun i => a3 _ _ (by omega))
  have e5 : g1 40 5 = g 40 5 := a3 _ _ (by omega)
  have hb1 : g1 131 7 = g1 40 5 → BK A g1 := fun h => SR_fr (hb (by rw [← a3 131 7 (by omega), ← e5]; exact h)) (fun i => a3 _ _ (by omega)) (fun i => a3 _ _ (by omega))
  apply sg_X_busiest_20 (A := A)
  rw [a1.2.2.1]
  refine ⟨fun h1 => by have := hQ g1 (fun _ => a1) (Or.inr a2) (fun h => hb1 (by rw [e5]; exact h)) (Or.inl (a3 _ _ (by omega))) (fun p i hp => a3 _ _ (by omega)); rw [no (Or.inr (jb0.mp h1))] at this; exact this, fun h1 => ?_⟩
  have hs : su A = true := jbn.mp h1
  refine tr_B_work hC1 hW1 a1.1 (fun y hy => sv_NR (su_sv hs hy)) hb1 (fun g2 b1 b2 b3 => ?_)
  apply sg_X_busiest_40 (A := A)
  refine tr_B_greatest (CN_fr hC1 (fun p i a b => b3 _ _ (by omega))) (by omega) b1 ?_
  apply sg_X_busiest_47 (A := A)
  have := hQ g2 (fun _ => WK_fr (fun p i a b => b3 _ _ (by omega)) a1) (Or.inr (by rw [b3 _ _ (by omega)]; exact a2)) (fun _ => b1) (Or.inr (by rw [b2, e5])) (fun p i hp => by rw [b3 _ _ (by omega), a3 _ _ (by omega)])
  unfold bzA at this
  rw [if_neg (fun h => by rcases h with h | h; omega; rw [hs] at h; cases h)] at this
  exact this
theorem tr_X_bears {A : jA} {n l : Nat} {g : jv_S} {Q : jv_V → jv_L → jv_S → Prop} {c w : Int} (hC : CN A g) (hW : CW 40 A g) (hk : g 60 10 = g 40 5 → WK A g) (hb : g 131 7 = g 40 5 → BK A g)
  (hQ : ∀ g' : jv_S, (g' 60 10 = g 40 5 → WK A g') → (g' 60 10 = g 60 10 ∨ g' 60 10 = g 40 5) → (g' 131 7 = g 40 5 → BK A g') → (g' 131 7 = g 131 7 ∨ g' 131 7 = g 40 5) → (∀ (p : Nat) (i : Int), ¬ ((60 ≤ p ∧ p ≤ 66) ∨ (131 ≤ p ∧ p ≤ 135)) → g' p i = g p i) → Q (jv_J (brA A c w)) (LL n l) g') :
  jv_Ca jv_T jv_ml kX_bears [jv_P 1, jv_I c, jv_I w] (LL n l) g Q := by
  have f2 := hC.2.2.1
  have w2 := hC.1.2.1
  have no : (¬ (0 ≤ c ∧ c < ln A) ∨ ¬ (0 ≤ w ∧ w ≤ 1) ∨ su A = false) → brA A c w = -9223372036854775808 := fun h => by
    unfold brA
    rw [if_pos h]
  have no1 : (¬ (0 ≤ c ∧ c < ln A) ∨ ¬ (0 ≤ w ∧ w ≤ 1) ∨ su A = false) → Q (jv_J (-9223372036854775808 : Int)) (LL n l) g := fun h => by
    have := hQ g hk (Or.inl rfl) hb (Or.inl rfl) (fun _ _ _ => rfl)
    rw [no h] at this
    exact this
  apply sg_X_bears_0 (A := A)
  rw [f2]
  refine ⟨⟨rfl, LLx_ok, trivial⟩, fun h => no1 (Or.inl (jp0.mp h)), fun h => ⟨fun h1 => no1 (Or.inr (Or.inl (by omega))), fun h1 => ⟨fun h2 => ?_, fun h2 => no1 (Or.inr (Or.inl (by omega)))⟩⟩⟩
  have hc : 0 ≤ c ∧ c < ln A := Classical.byContradiction (fun h' => h (jp0.mpr h'))
  refine tr_Wa_work hC hW hk (fun g1 a1 a2 a3 => ?_)
  have hC1 : CN A g1 := CN_fr hC (fun p i a b => a3 _ _ (by omega))
  have hW1 : CW 40 A g1 := CW_fr hW (a3 _ _ (by omega)) (fun i => a3 _ _ (by omega)) (fun i => a3 _ _ (by omega)) (fun i => a3 _ _ (by omega))
  have e5 : g1 40 5 = g 40 5 := a3 _ _ (by omega)
  have hb1 : g1 131 7 = g1 40 5 → BK A g1 := fun h => SR_fr (hb (by rw [← a3 131 7 (by omega), ← e5]; exact h)) (fun i => a3 _ _ (by omega)) (fun i => a3 _ _ (by omega))
  apply sg_X_bears_35 (A := A)
  rw [a1.2.2.1]
  refine ⟨fun h1 => by have := hQ g1 (fun _ => a1) (Or.inr a2) (fun h => hb1 (by rw [e5]; exact h)) (Or.inl (a3 _ _ (by omega))) (fun p i hp => a3 _ _ (by omega)); rw [no (Or.inr (Or.inr (jb0.mp h1)))] at this; exact this, fun h1 => ?_⟩
  have hs : su A = true := jbn.mp h1
  refine tr_B_work hC1 hW1 a1.1 (fun y hy => sv_NR (su_sv hs hy)) hb1 (fun g2 b1 b2 b3 => ?_)
  have := hQ g2 (fun _ => WK_fr (fun p i a b => b3 _ _ (by omega)) a1) (Or.inr (by rw [b3 _ _ (by omega)]; exact a2)) (fun _ => b1) (Or.inr (by rw [b2, e5])) (fun p i hp => by rw [b3 _ _ (by omega), a3 _ _ (by omega)])
  unfold brA at this
  rw [if_neg (fun h => by rcases h with h | h | h; exact h hc; omega; rw [hs] at h; cases h)] at this
  obtain ⟨k, hk⟩ : ∃ k : Nat, c = k := ⟨c.toNat, by omega⟩
  subst hk
  obtain ⟨u1, u2⟩ := b1 k (by omega)
  apply sg_X_bears_56 (A := A)
  rw [u1, u2]
  refine ⟨fun h3 => ⟨⟨by omega, by omega⟩, by rw [if_pos h3] at this; exact this⟩, fun h3 => ⟨⟨by omega, by omega⟩, by rw [if_neg h3] at this; exact this⟩⟩
