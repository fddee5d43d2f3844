/-! ===== the busiest lane, the class ===== -/
/-- the first of the lanes below m that bear most -/
def bsA (A : jA) : Nat → Nat
  | 0 => 0
  | m + 1 => if Af A (bsA A m) < Af A m then m else bsA A m
theorem bsA_lt {A : jA} : ∀ m, 1 ≤ m → bsA A m < m := by
  intro m
  induction m with
  | zero => intro h; omega
  | succ m ih =>
    intro _
    unfold bsA
    split
    · omega
    · by_cases h : 1 ≤ m
      · have := ih h; omega
      · rw [show m = 0 by omega]; exact Nat.one_pos
theorem cmp_n {a b : Nat} : jv_cmp (a : Int) (b : Int) ≤ 0 ↔ a ≤ b := by
  unfold jv_cmp
  by_cases h : (b : Int) < a
  · rw [if_pos h]; omega
  · rw [if_neg h]; split <;> omega
theorem Af_le {A : jA} {d : Nat} (hw : wf A) (hd : d < ln A) : Af A d ≤ 360 * NN A := by
  have h1 : Af A d ≤ nd A * (nd A * (10 * NN A)) := sgm_B _ (fun _ _ => sgm_B _ (fun _ _ => Tf_le hd))
  have h2 : nd A * (nd A * (10 * NN A)) ≤ 6 * (6 * (10 * NN A)) := Nat.mul_le_mul hw.1 (Nat.mul_le_mul_right _ hw.1)
  omega
set_option maxRecDepth 100000 in
theorem sg_B_greatest_0 {A : jA} {n l : Nat} {g : jv_S} {Q : jv_V → jv_L → jv_S → Prop} (h :
   jv_At jv_T jv_ml kB_greatest 4 [jv_P 131, jv_I (0 : Int), jv_I (1 : Int), jv_U, jv_U, jv_U, jv_U, jv_U, jv_U] [] (LL n l) g Q) :
  jv_At jv_T jv_ml kB_greatest 0 [jv_P 131, jv_U, jv_U, jv_U, jv_U, jv_U, jv_U, jv_U, jv_U] [] (LL n l) g Q :=
  jv_of_wp (gok9 (A := A)) (md := []) (stop := [4]) (tab := jt_B_greatest) rfl 400 _ _ _ _ _ h
set_option maxRecDepth 100000 in
theorem sg_B_greatest_4 {A : jA} {n l : Nat} {g : jv_S} {Q : jv_V → jv_L → jv_S → Prop} {v1 v2 : Int} {v3 v5 v7 v4 v6 v8 : jv_V} (h :
   ((g 14 1) ≤ v2 →
     Q (jv_I v1) (LL n l) g) ∧
    (¬ (g 14 1) ≤ v2 →
     (0 ≤ v2 ∧ v2 < 10) ∧
      (0 ≤ v1 ∧ v1 < 10) ∧
      jv_Ca jv_T jv_ml kB_commonDivisor [jv_J (g 133 v2), jv_J (g 133 v1)] (LL n l) g (fun r L2 g2 => jv_At jv_T jv_ml kB_greatest 30 [jv_P 131, jv_I v1, jv_I v2, v3, v4, v5, v6, v7, v8] (jv_pu r []) L2 g2 Q))) :
  jv_At jv_T jv_ml kB_greatest 4 [jv_P 131, jv_I v1, jv_I v2, v3, v4, v5, v6, v7, v8] [] (LL n l) g Q :=
  jv_of_wp (gok9 (A := A)) (md := []) (stop := [4]) (tab := jt_B_greatest) rfl 400 _ _ _ _ _ h
set_option maxRecDepth 100000 in
theorem sg_B_greatest_30 {A : jA} {n l : Nat} {g : jv_S} {Q : jv_V → jv_L → jv_S → Prop} {v1 v2 s0 : Int} {v3 v5 v7 v4 v6 v8 : jv_V} (h :
   (0 ≤ v2 ∧ v2 < 10) ∧
    (0 ≤ v1 ∧ v1 < 10) ∧
    (0 ≤ (g 133 v1) ∧ 0 < s0) ∧
    jv_r64 ((g 132 v2) * ((g 133 v1) / s0)) ∧
    (0 ≤ v1 ∧ v1 < 10) ∧
    (0 ≤ v2 ∧ v2 < 10) ∧
    (0 ≤ (g 133 v2) ∧ 0 < s0) ∧
    jv_r64 ((g 132 v1) * ((g 133 v2) / s0)) ∧
    ((jv_cmp ((g 132 v2) * ((g 133 v1) / s0)) ((g 132 v1) * ((g 133 v2) / s0))) ≤ 0 →
     jv_r32 (v2 + (1 : Int)) ∧
      jv_At jv_T jv_ml kB_greatest 4 [jv_P 131, jv_I v1, jv_I (v2 + (1 : Int)), jv_J s0, jv_U, jv_J ((g 132 v2) * ((g 133 v1) / s0)), jv_U, jv_J ((g 132 v1) * ((g 133 v2) / s0)), jv_U] [] (LL n l) g Q) ∧
    (¬ (jv_cmp ((g 132 v2) * ((g 133 v1) / s0)) ((g 132 v1) * ((g 133 v2) / s0))) ≤ 0 →
     jv_r32 (v2 + (1 : Int)) ∧
      jv_At jv_T jv_ml kB_greatest 4 [jv_P 131, jv_I v2, jv_I (v2 + (1 : Int)), jv_J s0, jv_U, jv_J ((g 132 v2) * ((g 133 v1) / s0)), jv_U, jv_J ((g 132 v1) * ((g 133 v2) / s0)), jv_U] [] (LL n l) g Q)) :
  jv_At jv_T jv_ml kB_greatest 30 [jv_P 131, jv_I v1, jv_I v2, v3, v4, v5, v6, v7, v8] [jv_J s0] (LL n l) g Q :=
  jv_of_wp (gok9 (A := A)) (md := []) (stop := [4]) (tab := jt_B_greatest) rfl 400 _ _ _ _ _ h
theorem tr_B_greatest {A : jA} {n l : Nat} {g : jv_S} {Q : jv_V → jv_L → jv_S → Prop} (hC : CN A g) (hl : 0 < ln A) (h1 : SR 132 133 (NN A) (Af A) (ln A) g) (hQ : Q (jv_I (bsA A (ln A) : Nat)) (LL n l) g) :
  jv_Ca jv_T jv_ml kB_greatest [jv_P 131] (LL n l) g Q := by
  have hw := hC.1
  have w2 := hw.2.1
  have hN := NN_pos hw
  have bN := NN_le hw
  have f2 := hC.2.2.1
  have main : ∀ c, c ≤ ln A → 1 ≤ c → ∀ v3 v4 v5 v6 v7 v8 : jv_V, jv_At jv_T jv_ml kB_greatest 4 [jv_P 131, jv_I (bsA A c : Nat), jv_I c, v3, v4, v5, v6, v7, v8] [] (LL n l) g Q := by
    apply loop_up
    intro c hc ih h1c v3 v4 v5 v6 v7 v8
    have hb := bsA_lt (A := A) c h1c
    apply sg_B_greatest_4 (A := A)
    refine ⟨fun h => by rw [show c = ln A by omega]; exact hQ, fun h => ?_⟩
    have hcl : c < ln A := by omega
    obtain ⟨u1, u2⟩ := h1 c hcl
    obtain ⟨k1, k2⟩ := h1 (bsA A c) (by omega)
    have q1 := rdd_pos (V := Af A c) hN
    have q2 := rdd_pos (V := Af A (bsA A c)) hN
    have l1 : rdd (NN A) (Af A c) ≤ NN A := Nat.div_le_self _ _
    have l2 : rdd (NN A) (Af A (bsA A c)) ≤ NN A := Nat.div_le_self _ _
    obtain ⟨t, t1, t2, t3, t4⟩ := RP_add hN (rd_RP (NN A) (Af A c)) (rd_RP (NN A) (Af A (bsA A c)))
    have a1 := Af_le hw hcl
    have a2 := Af_le hw (show bsA A c < ln A by omega)
    have hnext : bsA A (c + 1) = if Af A (bsA A c) < Af A c then c else bsA A c := rfl
    have hs : 0 < Nat.gcd (rdd (NN A) (Af A c)) (rdd (NN A) (Af A (bsA A c))) := Nat.gcd_pos_of_pos_left _ q1
    rw [u2, k2]
    refine ⟨⟨by omega, by omega⟩, ⟨by omega, by omega⟩, ?_⟩
    refine tr_B_commonDivisor (A := A) q1 (by omega) (by omega) ?_
    apply sg_B_greatest_30 (A := A)
    rw [u1, u2, k1, k2]
    generalize Nat.gcd (rdd (NN A) (Af A c)) (rdd (NN A) (Af A (bsA A c))) = s at hs t2 t3 t4
    have e1 : (rdd (NN A) (Af A (bsA A c)) : Int) / (s : Int) = ((rdd (NN A) (Af A (bsA A c)) / s : Nat) : Int) := rfl
    have e2 : (rdd (NN A) (Af A c) : Int) / (s : Int) = ((rdd (NN A) (Af A c) / s : Nat) : Int) := rfl
    rw [e1, e2]
    have e3 : (rdu (NN A) (Af A c) : Int) * ((rdd (NN A) (Af A (bsA A c)) / s : Nat) : Int) = ((rdu (NN A) (Af A c) * (rdd (NN A) (Af A (bsA A c)) / s) : Nat) : Int) := (Int.natCast_mul ..).symm
    have e4 : (rdu (NN A) (Af A (bsA A c)) : Int) * ((rdd (NN A) (Af A c) / s : Nat) : Int) = ((rdu (NN A) (Af A (bsA A c)) * (rdd (NN A) (Af A c) / s) : Nat) : Int) := (Int.natCast_mul ..).symm
    rw [e3, e4]
    generalize rdu (NN A) (Af A c) * (rdd (NN A) (Af A (bsA A c)) / s) = P1 at t3
    generalize rdu (NN A) (Af A (bsA A c)) * (rdd (NN A) (Af A c) / s) = P2 at t4
    have b1 : P1 ≤ Af A c := by rw [t3]; exact Nat.le_mul_of_pos_right _ t1
    have b2 : P2 ≤ Af A (bsA A c) := by rw [t4]; exact Nat.le_mul_of_pos_right _ t1
    have hcmp : Af A (bsA A c) < Af A c ↔ P2 < P1 := by
      rw [t3, t4]
      exact Nat.mul_lt_mul_right t1
    refine ⟨⟨by omega, by omega⟩, ⟨by omega, by omega⟩, ⟨by omega, by omega⟩, ⟨by omega, by omega⟩, ⟨by omega, by omega⟩, ⟨by omega, by omega⟩, ⟨by omega, by omega⟩, ⟨by omega, by omega⟩, fun hx => ⟨⟨by omega, by omega⟩, ?_⟩, fun hx => ⟨⟨by omega, by omega⟩, ?_⟩⟩
    · have := ih hcl (by omega)
      have hle := cmp_n.mp hx
      rw [hnext, if_neg (fun h => by have := hcmp.mp h; omega)] at this
      exact this _ _ _ _ _ _
    · have := ih hcl (by omega)
      have hgt : ¬ P1 ≤ P2 := fun h => hx (cmp_n.mpr h)
      rw [hnext, if_pos (hcmp.mpr (by omega))] at this
      exact this _ _ _ _ _ _
  have e : bsA A 1 = 0 := by have := bsA_lt (A := A) 1 (Nat.le_refl _); omega
  have m1 := main 1 (by omega) (Nat.le_refl _)
  rw [e] at m1
  exact sg_B_greatest_0 (A := A) (m1 _ _ _ _ _ _)
