/-! ===== parts of loads: numbers in least terms ===== -/
theorem gcd_st (a b : Nat) : Nat.gcd b (a % b) = Nat.gcd a b := by
  rw [Nat.gcd_comm a b, Nat.gcd_rec b a, Nat.gcd_comm]
theorem cmp_le {x : Nat} : jv_cmp (x : Int) 0 ≤ 0 ↔ x = 0 := by
  unfold jv_cmp
  by_cases h : x = 0
  · subst h; simp
  · rw [if_pos (show (0 : Int) < (x : Int) by omega)]; omega
theorem cmp_eq {x : Nat} : jv_cmp (x : Int) 0 = 0 ↔ x = 0 := by
  unfold jv_cmp
  by_cases h : x = 0
  · subst h; simp
  · rw [if_pos (show (0 : Int) < (x : Int) by omega)]; omega
/-- u and d stand for V of N -/
def RP (N u d V : Nat) : Prop := ∃ k, N = d * k ∧ V = u * k
def rdu (N V : Nat) : Nat := V / Nat.gcd V N
def rdd (N V : Nat) : Nat := N / Nat.gcd V N
theorem rd_RP (N V : Nat) : RP N (rdu N V) (rdd N V) V :=
  ⟨Nat.gcd V N, (Nat.div_mul_cancel (Nat.gcd_dvd_right V N)).symm, (Nat.div_mul_cancel (Nat.gcd_dvd_left V N)).symm⟩
theorem rdd_pos {N V : Nat} (hN : 0 < N) : 0 < rdd N V := Nat.div_pos (Nat.le_of_dvd hN (Nat.gcd_dvd_right V N)) (Nat.gcd_pos_of_pos_right V hN)
theorem rd_0 {N : Nat} (hN : 0 < N) : rdu N 0 = 0 ∧ rdd N 0 = 1 := by
  unfold rdu rdd
  rw [Nat.gcd_zero_left, Nat.zero_div, Nat.div_self hN]
  exact ⟨rfl, rfl⟩
theorem RP_pos {N u d V : Nat} (hN : 0 < N) (h : RP N u d V) : 0 < d := by
  obtain ⟨k, h1, _⟩ := h
  apply Nat.pos_of_ne_zero
  intro h0
  rw [h0, Nat.zero_mul] at h1
  omega
/-- the sum of two -/
theorem RP_add {N u1 d1 V1 u2 d2 V2 : Nat} (hN : 0 < N) (h1 : RP N u1 d1 V1) (h2 : RP N u2 d2 V2) : ∃ t, 0 < t ∧ N = (d1 / Nat.gcd d1 d2 * d2) * t ∧ V1 = (u1 * (d2 / Nat.gcd d1 d2)) * t ∧ V2 = (u2 * (d1 / Nat.gcd d1 d2)) * t := by
  have p1 := RP_pos hN h1
  have p2 := RP_pos hN h2
  obtain ⟨k1, n1, v1⟩ := h1
  obtain ⟨k2, n2, v2⟩ := h2
  have hs : 0 < Nat.gcd d1 d2 := Nat.gcd_pos_of_pos_left d2 p1
  have c1 : d1 / Nat.gcd d1 d2 * Nat.gcd d1 d2 = d1 := Nat.div_mul_cancel (Nat.gcd_dvd_left d1 d2)
  have c2 : d2 / Nat.gcd d1 d2 * Nat.gcd d1 d2 = d2 := Nat.div_mul_cancel (Nat.gcd_dvd_right d1 d2)
  have cop : Nat.Coprime (d1 / Nat.gcd d1 d2) (d2 / Nat.gcd d1 d2) := Nat.coprime_div_gcd_div_gcd hs
  generalize d1 / Nat.gcd d1 d2 = a at c1 cop ⊢
  generalize d2 / Nat.gcd d1 d2 = b at c2 cop ⊢
  generalize Nat.gcd d1 d2 = s at c1 c2 hs
  subst c1
  subst c2
  have e : a * k1 = b * k2 := by
    have : s * (a * k1) = s * (b * k2) := by
      rw [← Nat.mul_assoc, ← Nat.mul_assoc, Nat.mul_comm s a, Nat.mul_comm s b, ← n1, ← n2]
    exact Nat.eq_of_mul_eq_mul_left hs this
  have hb : b ∣ k1 := cop.symm.dvd_of_dvd_mul_left ⟨k2, e⟩
  obtain ⟨t, ht⟩ := hb
  have hbp : 0 < b := Nat.pos_of_ne_zero (fun h => by rw [h, Nat.zero_mul] at p2; omega)
  have hk2 : k2 = a * t := by
    rw [ht] at e
    have : b * (a * t) = b * k2 := by rw [← e, ← Nat.mul_assoc, ← Nat.mul_assoc, Nat.mul_comm b a]
    exact (Nat.eq_of_mul_eq_mul_left hbp this).symm
  refine ⟨t, Nat.pos_of_ne_zero (fun h => ?_), ?_, ?_, ?_⟩
  · rw [ht, h, Nat.mul_zero, Nat.mul_zero] at n1; omega
  · rw [n1, ht]
    simp only [Nat.mul_assoc, Nat.mul_comm, Nat.mul_left_comm]
  · rw [v1, ht, Nat.mul_assoc]
  · rw [v2, hk2, Nat.mul_assoc]
theorem rd_mul {N V s q t : Nat} (ht : 0 < t) (hN : N = q * t) (hV : V = s * t) : rdu N V = s / Nat.gcd s q ∧ rdd N V = q / Nat.gcd s q := by
  unfold rdu rdd
  rw [hN, hV, Nat.gcd_mul_right, Nat.mul_div_mul_right _ _ ht, Nat.mul_div_mul_right _ _ ht]
  exact ⟨rfl, rfl⟩
set_option maxRecDepth 100000 in
theorem sg_B_commonDivisor_0 {A : jA} {n l : Nat} {g : jv_S} {Q : jv_V → jv_L → jv_S → Prop} {v0 v2 : Int} (h :
   (-9223372036854775807) ≤ v0 ∧
    (-9223372036854775807) ≤ v2 ∧
    jv_At jv_T jv_ml kB_commonDivisor 15 [jv_J v0, jv_U, jv_J v2, jv_U, jv_J (if 0 < v0 then v0 else - v0), jv_U, jv_J (if 0 < v2 then v2 else - v2), jv_U, jv_I (0 : Int), jv_U, jv_U] [] (LL n l) g Q) :
  jv_At jv_T jv_ml kB_commonDivisor 0 [jv_J v0, jv_U, jv_J v2, jv_U, jv_U, jv_U, jv_U, jv_U, jv_U, jv_U, jv_U] [] (LL n l) g Q :=
  jv_of_wp (gok9 (A := A)) (md := []) (stop := [15]) (tab := jt_B_commonDivisor) rfl 400 _ _ _ _ _ h
set_option maxRecDepth 100000 in
theorem sg_B_commonDivisor_15 {A : jA} {n l : Nat} {g : jv_S} {Q : jv_V → jv_L → jv_S → Prop} {v0 v2 v4 v6 v8 : Int} {v9 v10 : jv_V} (h :
   ((128 : Int) ≤ v8 →
     Q (jv_J (if (1 : Int) < v4 then v4 else (1 : Int))) (LL n l) g) ∧
    (¬ (128 : Int) ≤ v8 →
     ((jv_cmp v6 (0 : Int)) ≤ 0 →
       Q (jv_J (if (1 : Int) < v4 then v4 else (1 : Int))) (LL n l) g) ∧
      (¬ (jv_cmp v6 (0 : Int)) ≤ 0 →
       (0 ≤ v4 ∧ 0 < v6) ∧
        jv_r32 (v8 + (1 : Int)) ∧
        jv_At jv_T jv_ml kB_commonDivisor 15 [jv_J v0, jv_U, jv_J v2, jv_U, jv_J v6, jv_U, jv_J (v4 % v6), jv_U, jv_I (v8 + (1 : Int)), jv_J (v4 % v6), jv_U] [] (LL n l) g Q))) :
  jv_At jv_T jv_ml kB_commonDivisor 15 [jv_J v0, jv_U, jv_J v2, jv_U, jv_J v4, jv_U, jv_J v6, jv_U, jv_I v8, v9, v10] [] (LL n l) g Q :=
  jv_of_wp (gok9 (A := A)) (md := []) (stop := [15]) (tab := jt_B_commonDivisor) rfl 400 _ _ _ _ _ h
theorem tr_B_commonDivisor {A : jA} {n l : Nat} {g : jv_S} {Q : jv_V → jv_L → jv_S → Prop} {a b : Nat} (ha : 0 < a) (h1 : a < 4611686018427387904) (h2 : b < 4611686018427387904) (hQ : Q (jv_J (Nat.gcd a b : Nat)) (LL n l) g) :
  jv_Ca jv_T jv_ml kB_commonDivisor [jv_J (a : Nat), jv_J (b : Nat)] (LL n l) g Q := by
  have main : ∀ (m k x y : Nat) (v9 v10 : jv_V), k + m ≤ 128 → y ≤ x → 0 < x → x * y < 2 ^ m → Nat.gcd x y = Nat.gcd a b → jv_At jv_T jv_ml kB_commonDivisor 15 [jv_J (a : Nat), jv_U, jv_J (b : Nat), jv_U, jv_J (x : Nat), jv_U, jv_J (y : Nat), jv_U, jv_I (k : Nat), v9, v10] [] (LL n l) g Q := by
    intro m
    induction m with
    | zero =>
      intro k x y v9 v10 hk hyx hx hm hg
      have hy : y = 0 := by
        apply Classical.byContradiction
        intro h0
        have := Nat.mul_pos hx (Nat.pos_of_ne_zero h0)
        omega
      subst hy
      rw [Nat.gcd_zero_right] at hg
      have fin : Q (jv_J (if 1 < (x : Int) then (x : Int) else 1)) (LL n l) g := by
        rw [← hg] at hQ
        by_cases h : 1 < (x : Int)
        · rw [if_pos h]; exact hQ
        · rw [if_neg h, show (1 : Int) = (x : Int) by omega]; exact hQ
      apply sg_B_commonDivisor_15 (A := A)
      exact ⟨fun _ => fin, fun _ => ⟨fun _ => fin, fun h => absurd (cmp_le.mpr rfl) h⟩⟩
    | succ m ih =>
      intro k x y v9 v10 hk hyx hx hm hg
      apply sg_B_commonDivisor_15 (A := A)
      refine ⟨fun h => by omega, fun _ => ⟨fun h => ?_, fun h => ?_⟩⟩
      · have hy := cmp_le.mp h
        subst hy
        rw [Nat.gcd_zero_right] at hg
        rw [← hg] at hQ
        by_cases h : 1 < (x : Int)
        · rw [if_pos h]; exact hQ
        · rw [if_neg h, show (1 : Int) = (x : Int) by omega]; exact hQ
      · have hy : 0 < y := Nat.pos_of_ne_zero (fun h0 => h (cmp_le.mpr h0))
        have hr := Nat.mod_lt x hy
        have hdm := Nat.div_add_mod x y
        have hq : 1 ≤ x / y := Nat.div_pos hyx hy
        have hyq : y ≤ y * (x / y) := Nat.le_mul_of_pos_right y hq
        have h2r : 2 * (x % y) ≤ x := by omega
        have hm2 : y * (x % y) < 2 ^ m := by
          have h3 : y * (2 * (x % y)) ≤ y * x := Nat.mul_le_mul_left y h2r
          rw [Nat.pow_succ, Nat.mul_comm x y] at hm
          have h4 : y * (2 * (x % y)) = 2 * (y * (x % y)) := by rw [← Nat.mul_assoc, Nat.mul_comm y 2, Nat.mul_assoc]
          omega
        rw [show (x : Int) % (y : Int) = ((x % y : Nat) : Int) from rfl]
        exact ⟨⟨by omega, by omega⟩, ⟨by omega, by omega⟩, ih (k + 1) y (x % y) _ _ (by omega) (by omega) hy hm2 (by rw [gcd_st]; exact hg)⟩
  have hab : a * b < 2 ^ 124 := by
    have : a * b ≤ 4611686018427387904 * b := Nat.mul_le_mul_right b (by omega)
    omega
  apply sg_B_commonDivisor_0 (A := A)
  have ea : (if 0 < (a : Int) then (a : Int) else - (a : Int)) = (a : Int) := by rw [if_pos (by omega)]
  have eb : (if 0 < (b : Int) then (b : Int) else - (b : Int)) = (b : Int) := by
    by_cases h : 0 < (b : Int)
    · rw [if_pos h]
    · rw [if_neg h]; omega
  rw [ea, eb]
  refine ⟨by omega, by omega, ?_⟩
  by_cases hle : b ≤ a
  · exact main 128 0 a b _ _ (by omega) hle ha (Nat.lt_of_lt_of_le hab (Nat.pow_le_pow_right (by decide) (by decide))) rfl
  · apply sg_B_commonDivisor_15 (A := A)
    refine ⟨fun h => by omega, fun _ => ⟨fun h => absurd (cmp_le.mp h) (by omega), fun _ => ?_⟩⟩
    rw [show (a : Int) % (b : Int) = ((a % b : Nat) : Int) from rfl, Nat.mod_eq_of_lt (show a < b by omega)]
    exact ⟨⟨by omega, by omega⟩, ⟨by omega, by omega⟩, main 127 1 b a _ _ (by omega) (by omega) (by omega) (Nat.lt_of_lt_of_le (by rw [Nat.mul_comm]; exact hab) (Nat.pow_le_pow_right (by decide) (by decide))) (Nat.gcd_comm b a)⟩
set_option maxRecDepth 100000 in
theorem sg_Y_common_0 {A : jA} {n l : Nat} {g : jv_S} {Q : jv_V → jv_L → jv_S → Prop} {v0 v2 : Int} (h :
   jv_At jv_T jv_ml kY_common 6 [jv_J v0, jv_U, jv_J v2, jv_U, jv_J v0, jv_U, jv_J v2, jv_U, jv_U, jv_U] [] (LL n l) g Q) :
  jv_At jv_T jv_ml kY_common 0 [jv_J v0, jv_U, jv_J v2, jv_U, jv_U, jv_U, jv_U, jv_U, jv_U, jv_U] [] (LL n l) g Q :=
  jv_of_wp (gok9 (A := A)) (md := []) (stop := [6]) (tab := jt_Y_common) rfl 400 _ _ _ _ _ h
set_option maxRecDepth 100000 in
theorem sg_Y_common_6 {A : jA} {n l : Nat} {g : jv_S} {Q : jv_V → jv_L → jv_S → Prop} {v0 v2 v4 v6 : Int} {v8 v9 : jv_V} (h :
   ((jv_cmp v6 (0 : Int)) = 0 →
     Q (jv_J v4) (LL n l) g) ∧
    (¬ (jv_cmp v6 (0 : Int)) = 0 →
     (0 ≤ v4 ∧ 0 < v6) ∧
      jv_At jv_T jv_ml kY_common 6 [jv_J v0, jv_U, jv_J v2, jv_U, jv_J v6, jv_U, jv_J (v4 % v6), jv_U, jv_J (v4 % v6), jv_U] [] (LL n l) g Q)) :
  jv_At jv_T jv_ml kY_common 6 [jv_J v0, jv_U, jv_J v2, jv_U, jv_J v4, jv_U, jv_J v6, jv_U, v8, v9] [] (LL n l) g Q :=
  jv_of_wp (gok9 (A := A)) (md := []) (stop := [6]) (tab := jt_Y_common) rfl 400 _ _ _ _ _ h
theorem tr_Y_common {A : jA} {n l : Nat} {g : jv_S} {Q : jv_V → jv_L → jv_S → Prop} {a b : Nat} (hQ : Q (jv_J (Nat.gcd a b : Nat)) (LL n l) g) :
  jv_Ca jv_T jv_ml kY_common [jv_J (a : Nat), jv_J (b : Nat)] (LL n l) g Q := by
  have main : ∀ (y x : Nat) (v8 v9 : jv_V), Nat.gcd x y = Nat.gcd a b → jv_At jv_T jv_ml kY_common 6 [jv_J (a : Nat), jv_U, jv_J (b : Nat), jv_U, jv_J (x : Nat), jv_U, jv_J (y : Nat), jv_U, v8, v9] [] (LL n l) g Q := by
    intro y
    induction y using Nat.strongRecOn with
    | ind y ih =>
      intro x v8 v9 hg
      apply sg_Y_common_6 (A := A)
      refine ⟨fun h => ?_, fun h => ?_⟩
      · have hy := cmp_eq.mp h
        subst hy
        rw [Nat.gcd_zero_right] at hg
        rw [hg]
        exact hQ
      · have hy : 0 < y := Nat.pos_of_ne_zero (fun h0 => h (cmp_eq.mpr h0))
        rw [show (x : Int) % (y : Int) = ((x % y : Nat) : Int) from rfl]
        exact ⟨⟨by omega, by omega⟩, ih (x % y) (Nat.mod_lt x hy) y _ _ (by rw [gcd_st]; exact hg)⟩
  exact sg_Y_common_0 (A := A) (main b a _ _ rfl)
set_option maxRecDepth 100000 in
theorem sg_B_add_134_0 {A : jA} {n l : Nat} {g : jv_S} {Q : jv_V → jv_L → jv_S → Prop} {v2 v3 v5 : Int} (h :
   (0 ≤ v2 ∧ v2 < 10) ∧
    jv_Ca jv_T jv_ml kB_commonDivisor [jv_J (g 135 v2), jv_J v5] (LL n l) g (fun r L2 g2 => jv_At jv_T jv_ml kB_add 8 [jv_P 134, jv_P 135, jv_I v2, jv_J v3, jv_U, jv_J v5, jv_U, jv_U, jv_U, jv_U, jv_U, jv_U, jv_U, jv_U, jv_U] (jv_pu r []) L2 g2 Q)) :
  jv_At jv_T jv_ml kB_add 0 [jv_P 134, jv_P 135, jv_I v2, jv_J v3, jv_U, jv_J v5, jv_U, jv_U, jv_U, jv_U, jv_U, jv_U, jv_U, jv_U, jv_U] [] (LL n l) g Q :=
  jv_of_wp (gok9 (A := A)) (md := []) (stop := []) (tab := jt_B_add) rfl 400 _ _ _ _ _ h
set_option maxRecDepth 100000 in
theorem sg_B_add_134_8 {A : jA} {n l : Nat} {g : jv_S} {Q : jv_V → jv_L → jv_S → Prop} {v2 v3 v5 s0 : Int} {v7 v8 v9 v10 v11 v12 v13 v14 : jv_V} (h :
   (0 ≤ v2 ∧ v2 < 10) ∧
    (0 ≤ v5 ∧ 0 < s0) ∧
    jv_r64 ((g 134 v2) * (v5 / s0)) ∧
    (0 ≤ v2 ∧ v2 < 10) ∧
    (0 ≤ (g 135 v2) ∧ 0 < s0) ∧
    jv_r64 (v3 * ((g 135 v2) / s0)) ∧
    jv_r64 (((g 134 v2) * (v5 / s0)) + (v3 * ((g 135 v2) / s0))) ∧
    (0 ≤ v2 ∧ v2 < 10) ∧
    (0 ≤ (g 135 v2) ∧ 0 < s0) ∧
    jv_r64 (((g 135 v2) / s0) * v5) ∧
    jv_Ca jv_T jv_ml kB_commonDivisor [jv_J (((g 135 v2) / s0) * v5), jv_J (((g 134 v2) * (v5 / s0)) + (v3 * ((g 135 v2) / s0)))] (LL n l) g (fun r L2 g2 => jv_At jv_T jv_ml kB_add 48 [jv_P 134, jv_P 135, jv_I v2, jv_J v3, jv_U, jv_J v5, jv_U, jv_J s0, jv_U, jv_J (((g 134 v2) * (v5 / s0)) + (v3 * ((g 135 v2) / s0))), jv_U, jv_J (((g 135 v2) / s0) * v5), jv_U, v13, v14] (jv_pu r []) L2 g2 Q)) :
  jv_At jv_T jv_ml kB_add 8 [jv_P 134, jv_P 135, jv_I v2, jv_J v3, jv_U, jv_J v5, jv_U, v7, v8, v9, v10, v11, v12, v13, v14] [jv_J s0] (LL n l) g Q :=
  jv_of_wp (gok9 (A := A)) (md := []) (stop := []) (tab := jt_B_add) rfl 400 _ _ _ _ _ h
set_option maxRecDepth 100000 in
theorem sg_B_add_134_48 {A : jA} {n l : Nat} {g : jv_S} {Q : jv_V → jv_L → jv_S → Prop} {v2 v3 v5 v7 v9 v11 s0 : Int} {v13 v14 : jv_V} (h :
   (0 ≤ v9 ∧ 0 < s0) ∧
    (0 ≤ v2 ∧ v2 < 10) ∧ 
    (0 ≤ v11 ∧ 0 < s0) ∧
    (0 ≤ v2 ∧ v2 < 10) ∧ 
    Q jv_U (LL n l) (jv_up (jv_up g 134 v2 (v9 / s0)) 135 v2 (v11 / s0))) :
  jv_At jv_T jv_ml kB_add 48 [jv_P 134, jv_P 135, jv_I v2, jv_J v3, jv_U, jv_J v5, jv_U, jv_J v7, jv_U, jv_J v9, jv_U, jv_J v11, jv_U, v13, v14] [jv_J s0] (LL n l) g Q :=
  jv_of_wp (gok9 (A := A)) (md := []) (stop := []) (tab := jt_B_add) rfl 400 _ _ _ _ _ h
theorem tr_B_add_134 {A : jA} {n l : Nat} {g : jv_S} {Q : jv_V → jv_L → jv_S → Prop} {N V1 V2 u2 d2 c : Nat} (hN : 0 < N) (bN : N < 4611686018427387904) (bV : V1 + V2 < 4611686018427387904) (hc : c < 10) (h1 : g 134 c = (rdu N V1 : Nat)) (h2 : g 135 c = (rdd N V1 : Nat)) (h3 : RP N u2 d2 V2)
  (hQ : Q jv_U (LL n l) (jv_up (jv_up g 134 c (rdu N (V1 + V2) : Nat)) 135 c (rdd N (V1 + V2) : Nat))) :
  jv_Ca jv_T jv_ml kB_add [jv_P 134, jv_P 135, jv_I c, jv_J (u2 : Nat), jv_J (d2 : Nat)] (LL n l) g Q := by
  obtain ⟨t, t1, t2, t3, t4⟩ := RP_add hN (rd_RP N V1) h3
  have q1 := rdd_pos (V := V1) hN
  have q2 := RP_pos hN h3
  have l1 : rdd N V1 ≤ N := Nat.div_le_self _ _
  have l2 : d2 ≤ N := by obtain ⟨k, e, _⟩ := h3; exact Nat.le_of_dvd hN ⟨k, e⟩
  have hs : 0 < Nat.gcd (rdd N V1) d2 := Nat.gcd_pos_of_pos_left d2 q1
  have ht : V1 + V2 = (rdu N V1 * (d2 / Nat.gcd (rdd N V1) d2) + u2 * (rdd N V1 / Nat.gcd (rdd N V1) d2)) * t := by rw [Nat.add_mul, ← t3, ← t4]
  obtain ⟨r1, r2⟩ := rd_mul t1 t2 ht
  rw [r1, r2] at hQ
  generalize rdu N V1 = u1 at h1 t3 hQ
  generalize rdd N V1 = d1 at h2 t2 t3 t4 q1 l1 hs hQ
  apply sg_B_add_134_0 (A := A)
  rw [h2]
  refine ⟨⟨by omega, by omega⟩, ?_⟩
  refine tr_B_commonDivisor (A := A) q1 (by omega) (by omega) ?_
  apply sg_B_add_134_8 (A := A)
  rw [h1, h2]
  generalize Nat.gcd d1 d2 = s at hs t2 t3 t4 hQ
  have e1 : (d2 : Int) / (s : Int) = ((d2 / s : Nat) : Int) := rfl
  have e2 : (d1 : Int) / (s : Int) = ((d1 / s : Nat) : Int) := rfl
  rw [e1, e2]
  generalize d2 / s = y at t2 t3 t4 hQ
  generalize d1 / s = x at t2 t3 t4 hQ
  have e3 : (u1 : Int) * (y : Int) = ((u1 * y : Nat) : Int) := (Int.natCast_mul ..).symm
  have e4 : (u2 : Int) * (x : Int) = ((u2 * x : Nat) : Int) := (Int.natCast_mul ..).symm
  have e5 : (x : Int) * (d2 : Int) = ((x * d2 : Nat) : Int) := (Int.natCast_mul ..).symm
  rw [e3, e4, e5]
  have b1 : u1 * y ≤ V1 := by rw [t3]; exact Nat.le_mul_of_pos_right _ t1
  have b2 : u2 * x ≤ V2 := by rw [t4]; exact Nat.le_mul_of_pos_right _ t1
  have b3 : x * d2 ≤ N := by rw [t2]; exact Nat.le_mul_of_pos_right _ t1
  have b4 : 0 < x * d2 := Nat.pos_of_ne_zero (fun h => by rw [h, Nat.zero_mul] at t2; omega)
  generalize u1 * y = P1 at b1 hQ
  generalize u2 * x = P2 at b2 hQ
  generalize x * d2 = P3 at b3 b4 hQ
  rw [show (P1 : Int) + (P2 : Int) = ((P1 + P2 : Nat) : Int) from rfl]
  refine ⟨⟨by omega, by omega⟩, ⟨by omega, by omega⟩, ⟨by omega, by omega⟩, ⟨by omega, by omega⟩, ⟨by omega, by omega⟩, ⟨by omega, by omega⟩, ⟨by omega, by omega⟩, ⟨by omega, by omega⟩, ⟨by omega, by omega⟩, ⟨by omega, by omega⟩, ?_⟩
  refine tr_B_commonDivisor (A := A) b4 (by omega) (by omega) ?_
  apply sg_B_add_134_48 (A := A)
  have hg : 0 < Nat.gcd (P1 + P2) P3 := Nat.gcd_pos_of_pos_right _ b4
  rw [Nat.gcd_comm P3 (P1 + P2)]
  generalize Nat.gcd (P1 + P2) P3 = G at hg hQ
  rw [show ((P1 + P2 : Nat) : Int) / (G : Int) = (((P1 + P2) / G : Nat) : Int) from rfl, show (P3 : Int) / (G : Int) = ((P3 / G : Nat) : Int) from rfl]
  exact ⟨⟨by omega, by omega⟩, ⟨by omega, by omega⟩, ⟨by omega, by omega⟩, ⟨by omega, by omega⟩, hQ⟩
set_option maxRecDepth 100000 in
theorem sg_B_add_132_0 {A : jA} {n l : Nat} {g : jv_S} {Q : jv_V → jv_L → jv_S → Prop} {v2 v3 v5 : Int} (h :
   (0 ≤ v2 ∧ v2 < 10) ∧
    jv_Ca jv_T jv_ml kB_commonDivisor [jv_J (g 133 v2), jv_J v5] (LL n l) g (fun r L2 g2 => jv_At jv_T jv_ml kB_add 8 [jv_P 132, jv_P 133, jv_I v2, jv_J v3, jv_U, jv_J v5, jv_U, jv_U, jv_U, jv_U, jv_U, jv_U, jv_U, jv_U, jv_U] (jv_pu r []) L2 g2 Q)) :
  jv_At jv_T jv_ml kB_add 0 [jv_P 132, jv_P 133, jv_I v2, jv_J v3, jv_U, jv_J v5, jv_U, jv_U, jv_U, jv_U, jv_U, jv_U, jv_U, jv_U, jv_U] [] (LL n l) g Q :=
  jv_of_wp (gok9 (A := A)) (md := []) (stop := []) (tab := jt_B_add) rfl 400 _ _ _ _ _ h
set_option maxRecDepth 100000 in
theorem sg_B_add_132_8 {A : jA} {n l : Nat} {g : jv_S} {Q : jv_V → jv_L → jv_S → Prop} {v2 v3 v5 s0 : Int} {v7 v8 v9 v10 v11 v12 v13 v14 : jv_V} (h :
   (0 ≤ v2 ∧ v2 < 10) ∧
    (0 ≤ v5 ∧ 0 < s0) ∧
    jv_r64 ((g 132 v2) * (v5 / s0)) ∧
    (0 ≤ v2 ∧ v2 < 10) ∧
    (0 ≤ (g 133 v2) ∧ 0 < s0) ∧
    jv_r64 (v3 * ((g 133 v2) / s0)) ∧
    jv_r64 (((g 132 v2) * (v5 / s0)) + (v3 * ((g 133 v2) / s0))) ∧
    (0 ≤ v2 ∧ v2 < 10) ∧
    (0 ≤ (g 133 v2) ∧ 0 < s0) ∧
    jv_r64 (((g 133 v2) / s0) * v5) ∧
    jv_Ca jv_T jv_ml kB_commonDivisor [jv_J (((g 133 v2) / s0) * v5), jv_J (((g 132 v2) * (v5 / s0)) + (v3 * ((g 133 v2) / s0)))] (LL n l) g (fun r L2 g2 => jv_At jv_T jv_ml kB_add 48 [jv_P 132, jv_P 133, jv_I v2, jv_J v3, jv_U, jv_J v5, jv_U, jv_J s0, jv_U, jv_J (((g 132 v2) * (v5 / s0)) + (v3 * ((g 133 v2) / s0))), jv_U, jv_J (((g 133 v2) / s0) * v5), jv_U, v13, v14] (jv_pu r []) L2 g2 Q)) :
  jv_At jv_T jv_ml kB_add 8 [jv_P 132, jv_P 133, jv_I v2, jv_J v3, jv_U, jv_J v5, jv_U, v7, v8, v9, v10, v11, v12, v13, v14] [jv_J s0] (LL n l) g Q :=
  jv_of_wp (gok9 (A := A)) (md := []) (stop := []) (tab := jt_B_add) rfl 400 _ _ _ _ _ h
set_option maxRecDepth 100000 in
theorem sg_B_add_132_48 {A : jA} {n l : Nat} {g : jv_S} {Q : jv_V → jv_L → jv_S → Prop} {v2 v3 v5 v7 v9 v11 s0 : Int} {v13 v14 : jv_V} (h :
   (0 ≤ v9 ∧ 0 < s0) ∧
    (0 ≤ v2 ∧ v2 < 10) ∧ 
    (0 ≤ v11 ∧ 0 < s0) ∧
    (0 ≤ v2 ∧ v2 < 10) ∧ 
    Q jv_U (LL n l) (jv_up (jv_up g 132 v2 (v9 / s0)) 133 v2 (v11 / s0))) :
  jv_At jv_T jv_ml kB_add 48 [jv_P 132, jv_P 133, jv_I v2, jv_J v3, jv_U, jv_J v5, jv_U, jv_J v7, jv_U, jv_J v9, jv_U, jv_J v11, jv_U, v13, v14] [jv_J s0] (LL n l) g Q :=
  jv_of_wp (gok9 (A := A)) (md := []) (stop := []) (tab := jt_B_add) rfl 400 _ _ _ _ _ h
theorem tr_B_add_132 {A : jA} {n l : Nat} {g : jv_S} {Q : jv_V → jv_L → jv_S → Prop} {N V1 V2 u2 d2 c : Nat} (hN : 0 < N) (bN : N < 4611686018427387904) (bV : V1 + V2 < 4611686018427387904) (hc : c < 10) (h1 : g 132 c = (rdu N V1 : Nat)) (h2 : g 133 c = (rdd N V1 : Nat)) (h3 : RP N u2 d2 V2)
  (hQ : Q jv_U (LL n l) (jv_up (jv_up g 132 c (rdu N (V1 + V2) : Nat)) 133 c (rdd N (V1 + V2) : Nat))) :
  jv_Ca jv_T jv_ml kB_add [jv_P 132, jv_P 133, jv_I c, jv_J (u2 : Nat), jv_J (d2 : Nat)] (LL n l) g Q := by
  obtain ⟨t, t1, t2, t3, t4⟩ := RP_add hN (rd_RP N V1) h3
  have q1 := rdd_pos (V := V1) hN
  have q2 := RP_pos hN h3
  have l1 : rdd N V1 ≤ N := Nat.div_le_self _ _
  have l2 : d2 ≤ N := by obtain ⟨k, e, _⟩ := h3; exact Nat.le_of_dvd hN ⟨k, e⟩
  have hs : 0 < Nat.gcd (rdd N V1) d2 := Nat.gcd_pos_of_pos_left d2 q1
  have ht : V1 + V2 = (rdu N V1 * (d2 / Nat.gcd (rdd N V1) d2) + u2 * (rdd N V1 / Nat.gcd (rdd N V1) d2)) * t := by rw [Nat.add_mul, ← t3, ← t4]
  obtain ⟨r1, r2⟩ := rd_mul t1 t2 ht
  rw [r1, r2] at hQ
  generalize rdu N V1 = u1 at h1 t3 hQ
  generalize rdd N V1 = d1 at h2 t2 t3 t4 q1 l1 hs hQ
  apply sg_B_add_132_0 (A := A)
  rw [h2]
  refine ⟨⟨by omega, by omega⟩, ?_⟩
  refine tr_B_commonDivisor (A := A) q1 (by omega) (by omega) ?_
  apply sg_B_add_132_8 (A := A)
  rw [h1, h2]
  generalize Nat.gcd d1 d2 = s at hs t2 t3 t4 hQ
  have e1 : (d2 : Int) / (s : Int) = ((d2 / s : Nat) : Int) := rfl
  have e2 : (d1 : Int) / (s : Int) = ((d1 / s : Nat) : Int) := rfl
  rw [e1, e2]
  generalize d2 / s = y at t2 t3 t4 hQ
  generalize d1 / s = x at t2 t3 t4 hQ
  have e3 : (u1 : Int) * (y : Int) = ((u1 * y : Nat) : Int) := (Int.natCast_mul ..).symm
  have e4 : (u2 : Int) * (x : Int) = ((u2 * x : Nat) : Int) := (Int.natCast_mul ..).symm
  have e5 : (x : Int) * (d2 : Int) = ((x * d2 : Nat) : Int) := (Int.natCast_mul ..).symm
  rw [e3, e4, e5]
  have b1 : u1 * y ≤ V1 := by rw [t3]; exact Nat.le_mul_of_pos_right _ t1
  have b2 : u2 * x ≤ V2 := by rw [t4]; exact Nat.le_mul_of_pos_right _ t1
  have b3 : x * d2 ≤ N := by rw [t2]; exact Nat.le_mul_of_pos_right _ t1
  have b4 : 0 < x * d2 := Nat.pos_of_ne_zero (fun h => by rw [h, Nat.zero_mul] at t2; omega)
  generalize u1 * y = P1 at b1 hQ
  generalize u2 * x = P2 at b2 hQ
  generalize x * d2 = P3 at b3 b4 hQ
  rw [show (P1 : Int) + (P2 : Int) = ((P1 + P2 : Nat) : Int) from rfl]
  refine ⟨⟨by omega, by omega⟩, ⟨by omega, by omega⟩, ⟨by omega, by omega⟩, ⟨by omega, by omega⟩, ⟨by omega, by omega⟩, ⟨by omega, by omega⟩, ⟨by omega, by omega⟩, ⟨by omega, by omega⟩, ⟨by omega, by omega⟩, ⟨by omega, by omega⟩, ?_⟩
  refine tr_B_commonDivisor (A := A) b4 (by omega) (by omega) ?_
  apply sg_B_add_132_48 (A := A)
  have hg : 0 < Nat.gcd (P1 + P2) P3 := Nat.gcd_pos_of_pos_right _ b4
  rw [Nat.gcd_comm P3 (P1 + P2)]
  generalize Nat.gcd (P1 + P2) P3 = G at hg hQ
  rw [show ((P1 + P2 : Nat) : Int) / (G : Int) = (((P1 + P2) / G : Nat) : Int) from rfl, show (P3 : Int) / (G : Int) = ((P3 / G : Nat) : Int) from rfl]
  exact ⟨⟨by omega, by omega⟩, ⟨by omega, by omega⟩, ⟨by omega, by omega⟩, ⟨by omega, by omega⟩, hQ⟩
set_option maxRecDepth 100000 in
theorem sg_Y_add_169_0 {A : jA} {n l : Nat} {g : jv_S} {Q : jv_V → jv_L → jv_S → Prop} {v2 v3 v5 : Int} (h :
   (0 ≤ v2 ∧ v2 < 11) ∧
    jv_Ca jv_T jv_ml kY_common [jv_J (g 170 v2), jv_J v5] (LL n l) g (fun r L2 g2 => jv_At jv_T jv_ml kY_add 8 [jv_P 169, jv_P 170, jv_I v2, jv_J v3, jv_U, jv_J v5, jv_U, jv_U, jv_U, jv_U, jv_U, jv_U, jv_U, jv_U, jv_U] (jv_pu r []) L2 g2 Q)) :
  jv_At jv_T jv_ml kY_add 0 [jv_P 169, jv_P 170, jv_I v2, jv_J v3, jv_U, jv_J v5, jv_U, jv_U, jv_U, jv_U, jv_U, jv_U, jv_U, jv_U, jv_U] [] (LL n l) g Q :=
  jv_of_wp (gok9 (A := A)) (md := []) (stop := []) (tab := jt_Y_add) rfl 400 _ _ _ _ _ h
set_option maxRecDepth 100000 in
theorem sg_Y_add_169_8 {A : jA} {n l : Nat} {g : jv_S} {Q : jv_V → jv_L → jv_S → Prop} {v2 v3 v5 s0 : Int} {v7 v8 v9 v10 v11 v12 v13 v14 : jv_V} (h :
   (0 ≤ v2 ∧ v2 < 11) ∧
    (0 ≤ v5 ∧ 0 < s0) ∧
    jv_r64 ((g 169 v2) * (v5 / s0)) ∧
    (0 ≤ v2 ∧ v2 < 11) ∧
    (0 ≤ (g 170 v2) ∧ 0 < s0) ∧
    jv_r64 (v3 * ((g 170 v2) / s0)) ∧
    jv_r64 (((g 169 v2) * (v5 / s0)) + (v3 * ((g 170 v2) / s0))) ∧
    (0 ≤ v2 ∧ v2 < 11) ∧
    (0 ≤ (g 170 v2) ∧ 0 < s0) ∧
    jv_r64 (((g 170 v2) / s0) * v5) ∧
    jv_Ca jv_T jv_ml kY_common [jv_J (((g 169 v2) * (v5 / s0)) + (v3 * ((g 170 v2) / s0))), jv_J (((g 170 v2) / s0) * v5)] (LL n l) g (fun r L2 g2 => jv_At jv_T jv_ml kY_add 48 [jv_P 169, jv_P 170, jv_I v2, jv_J v3, jv_U, jv_J v5, jv_U, jv_J s0, jv_U, jv_J (((g 169 v2) * (v5 / s0)) + (v3 * ((g 170 v2) / s0))), jv_U, jv_J (((g 170 v2) / s0) * v5), jv_U, v13, v14] (jv_pu r []) L2 g2 Q)) :
  jv_At jv_T jv_ml kY_add 8 [jv_P 169, jv_P 170, jv_I v2, jv_J v3, jv_U, jv_J v5, jv_U, v7, v8, v9, v10, v11, v12, v13, v14] [jv_J s0] (LL n l) g Q :=
  jv_of_wp (gok9 (A := A)) (md := []) (stop := []) (tab := jt_Y_add) rfl 400 _ _ _ _ _ h
set_option maxRecDepth 100000 in
theorem sg_Y_add_169_48 {A : jA} {n l : Nat} {g : jv_S} {Q : jv_V → jv_L → jv_S → Prop} {v2 v3 v5 v7 v9 v11 s0 : Int} {v13 v14 : jv_V} (h :
   (0 ≤ v9 ∧ 0 < s0) ∧
    (0 ≤ v2 ∧ v2 < 11) ∧ 
    (0 ≤ v11 ∧ 0 < s0) ∧
    (0 ≤ v2 ∧ v2 < 11) ∧ 
    Q jv_U (LL n l) (jv_up (jv_up g 169 v2 (v9 / s0)) 170 v2 (v11 / s0))) :
  jv_At jv_T jv_ml kY_add 48 [jv_P 169, jv_P 170, jv_I v2, jv_J v3, jv_U, jv_J v5, jv_U, jv_J v7, jv_U, jv_J v9, jv_U, jv_J v11, jv_U, v13, v14] [jv_J s0] (LL n l) g Q :=
  jv_of_wp (gok9 (A := A)) (md := []) (stop := []) (tab := jt_Y_add) rfl 400 _ _ _ _ _ h
theorem tr_Y_add_169 {A : jA} {n l : Nat} {g : jv_S} {Q : jv_V → jv_L → jv_S → Prop} {N V1 V2 u2 d2 c : Nat} (hN : 0 < N) (bN : N < 4611686018427387904) (bV : V1 + V2 < 4611686018427387904) (hc : c < 11) (h1 : g 169 c = (rdu N V1 : Nat)) (h2 : g 170 c = (rdd N V1 : Nat)) (h3 : RP N u2 d2 V2)
  (hQ : Q jv_U (LL n l) (jv_up (jv_up g 169 c (rdu N (V1 + V2) : Nat)) 170 c (rdd N (V1 + V2) : Nat))) :
  jv_Ca jv_T jv_ml kY_add [jv_P 169, jv_P 170, jv_I c, jv_J (u2 : Nat), jv_J (d2 : Nat)] (LL n l) g Q := by
  obtain ⟨t, t1, t2, t3, t4⟩ := RP_add hN (rd_RP N V1) h3
  have q1 := rdd_pos (V := V1) hN
  have q2 := RP_pos hN h3
  have l1 : rdd N V1 ≤ N := Nat.div_le_self _ _
  have l2 : d2 ≤ N := by obtain ⟨k, e, _⟩ := h3; exact Nat.le_of_dvd hN ⟨k, e⟩
  have hs : 0 < Nat.gcd (rdd N V1) d2 := Nat.gcd_pos_of_pos_left d2 q1
  have ht : V1 + V2 = (rdu N V1 * (d2 / Nat.gcd (rdd N V1) d2) + u2 * (rdd N V1 / Nat.gcd (rdd N V1) d2)) * t := by rw [Nat.add_mul, ← t3, ← t4]
  obtain ⟨r1, r2⟩ := rd_mul t1 t2 ht
  rw [r1, r2] at hQ
  generalize rdu N V1 = u1 at h1 t3 hQ
  generalize rdd N V1 = d1 at h2 t2 t3 t4 q1 l1 hs hQ
  apply sg_Y_add_169_0 (A := A)
  rw [h2]
  refine ⟨⟨by omega, by omega⟩, ?_⟩
  refine tr_Y_common (A := A) ?_
  apply sg_Y_add_169_8 (A := A)
  rw [h1, h2]
  generalize Nat.gcd d1 d2 = s at hs t2 t3 t4 hQ
  have e1 : (d2 : Int) / (s : Int) = ((d2 / s : Nat) : Int) := rfl
  have e2 : (d1 : Int) / (s : Int) = ((d1 / s : Nat) : Int) := rfl
  rw [e1, e2]
  generalize d2 / s = y at t2 t3 t4 hQ
  generalize d1 / s = x at t2 t3 t4 hQ
  have e3 : (u1 : Int) * (y : Int) = ((u1 * y : Nat) : Int) := (Int.natCast_mul ..).symm
  have e4 : (u2 : Int) * (x : Int) = ((u2 * x : Nat) : Int) := (Int.natCast_mul ..).symm
  have e5 : (x : Int) * (d2 : Int) = ((x * d2 : Nat) : Int) := (Int.natCast_mul ..).symm
  rw [e3, e4, e5]
  have b1 : u1 * y ≤ V1 := by rw [t3]; exact Nat.le_mul_of_pos_right _ t1
  have b2 : u2 * x ≤ V2 := by rw [t4]; exact Nat.le_mul_of_pos_right _ t1
  have b3 : x * d2 ≤ N := by rw [t2]; exact Nat.le_mul_of_pos_right _ t1
  have b4 : 0 < x * d2 := Nat.pos_of_ne_zero (fun h => by rw [h, Nat.zero_mul] at t2; omega)
  generalize u1 * y = P1 at b1 hQ
  generalize u2 * x = P2 at b2 hQ
  generalize x * d2 = P3 at b3 b4 hQ
  rw [show (P1 : Int) + (P2 : Int) = ((P1 + P2 : Nat) : Int) from rfl]
  refine ⟨⟨by omega, by omega⟩, ⟨by omega, by omega⟩, ⟨by omega, by omega⟩, ⟨by omega, by omega⟩, ⟨by omega, by omega⟩, ⟨by omega, by omega⟩, ⟨by omega, by omega⟩, ⟨by omega, by omega⟩, ⟨by omega, by omega⟩, ⟨by omega, by omega⟩, ?_⟩
  refine tr_Y_common (A := A) ?_
  apply sg_Y_add_169_48 (A := A)
  have hg : 0 < Nat.gcd (P1 + P2) P3 := Nat.gcd_pos_of_pos_right _ b4
  generalize Nat.gcd (P1 + P2) P3 = G at hg hQ
  rw [show ((P1 + P2 : Nat) : Int) / (G : Int) = (((P1 + P2) / G : Nat) : Int) from rfl, show (P3 : Int) / (G : Int) = ((P3 / G : Nat) : Int) from rfl]
  exact ⟨⟨by omega, by omega⟩, ⟨by omega, by omega⟩, ⟨by omega, by omega⟩, ⟨by omega, by omega⟩, hQ⟩
set_option maxRecDepth 100000 in
theorem sg_Y_add_171_0 {A : jA} {n l : Nat} {g : jv_S} {Q : jv_V → jv_L → jv_S → Prop} {v2 v3 v5 : Int} (h :
   (0 ≤ v2 ∧ v2 < 11) ∧
    jv_Ca jv_T jv_ml kY_common [jv_J (g 172 v2), jv_J v5] (LL n l) g (fun r L2 g2 => jv_At jv_T jv_ml kY_add 8 [jv_P 171, jv_P 172, jv_I v2, jv_J v3, jv_U, jv_J v5, jv_U, jv_U, jv_U, jv_U, jv_U, jv_U, jv_U, jv_U, jv_U] (jv_pu r []) L2 g2 Q)) :
  jv_At jv_T jv_ml kY_add 0 [jv_P 171, jv_P 172, jv_I v2, jv_J v3, jv_U, jv_J v5, jv_U, jv_U, jv_U, jv_U, jv_U, jv_U, jv_U, jv_U, jv_U] [] (LL n l) g Q :=
  jv_of_wp (gok9 (A := A)) (md := []) (stop := []) (tab := jt_Y_add) rfl 400 _ _ _ _ _ h
set_option maxRecDepth 100000 in
theorem sg_Y_add_171_8 {A : jA} {n l : Nat} {g : jv_S} {Q : jv_V → jv_L → jv_S → Prop} {v2 v3 v5 s0 : Int} {v7 v8 v9 v10 v11 v12 v13 v14 : jv_V} (h :
   (0 ≤ v2 ∧ v2 < 11) ∧
    (0 ≤ v5 ∧ 0 < s0) ∧
    jv_r64 ((g 171 v2) * (v5 / s0)) ∧
    (0 ≤ v2 ∧ v2 < 11) ∧
    (0 ≤ (g 172 v2) ∧ 0 < s0) ∧
    jv_r64 (v3 * ((g 172 v2) / s0)) ∧
    jv_r64 (((g 171 v2) * (v5 / s0)) + (v3 * ((g 172 v2) / s0))) ∧
    (0 ≤ v2 ∧ v2 < 11) ∧
    (0 ≤ (g 172 v2) ∧ 0 < s0) ∧
    jv_r64 (((g 172 v2) / s0) * v5) ∧
    jv_Ca jv_T jv_ml kY_common [jv_J (((g 171 v2) * (v5 / s0)) + (v3 * ((g 172 v2) / s0))), jv_J (((g 172 v2) / s0) * v5)] (LL n l) g (fun r L2 g2 => jv_At jv_T jv_ml kY_add 48 [jv_P 171, jv_P 172, jv_I v2, jv_J v3, jv_U, jv_J v5, jv_U, jv_J s0, jv_U, jv_J (((g 171 v2) * (v5 / s0)) + (v3 * ((g 172 v2) / s0))), jv_U, jv_J (((g 172 v2) / s0) * v5), jv_U, v13, v14] (jv_pu r []) L2 g2 Q)) :
  jv_At jv_T jv_ml kY_add 8 [jv_P 171, jv_P 172, jv_I v2, jv_J v3, jv_U, jv_J v5, jv_U, v7, v8, v9, v10, v11, v12, v13, v14] [jv_J s0] (LL n l) g Q :=
  jv_of_wp (gok9 (A := A)) (md := []) (stop := []) (tab := jt_Y_add) rfl 400 _ _ _ _ _ h
set_option maxRecDepth 100000 in
theorem sg_Y_add_171_48 {A : jA} {n l : Nat} {g : jv_S} {Q : jv_V → jv_L → jv_S → Prop} {v2 v3 v5 v7 v9 v11 s0 : Int} {v13 v14 : jv_V} (h :
   (0 ≤ v9 ∧ 0 < s0) ∧
    (0 ≤ v2 ∧ v2 < 11) ∧ 
    (0 ≤ v11 ∧ 0 < s0) ∧
    (0 ≤ v2 ∧ v2 < 11) ∧ 
    Q jv_U (LL n l) (jv_up (jv_up g 171 v2 (v9 / s0)) 172 v2 (v11 / s0))) :
  jv_At jv_T jv_ml kY_add 48 [jv_P 171, jv_P 172, jv_I v2, jv_J v3, jv_U, jv_J v5, jv_U, jv_J v7, jv_U, jv_J v9, jv_U, jv_J v11, jv_U, v13, v14] [jv_J s0] (LL n l) g Q :=
  jv_of_wp (gok9 (A := A)) (md := []) (stop := []) (tab := jt_Y_add) rfl 400 _ _ _ _ _ h
theorem tr_Y_add_171 {A : jA} {n l : Nat} {g : jv_S} {Q : jv_V → jv_L → jv_S → Prop} {N V1 V2 u2 d2 c : Nat} (hN : 0 < N) (bN : N < 4611686018427387904) (bV : V1 + V2 < 4611686018427387904) (hc : c < 11) (h1 : g 171 c = (rdu N V1 : Nat)) (h2 : g 172 c = (rdd N V1 : Nat)) (h3 : RP N u2 d2 V2)
  (hQ : Q jv_U (LL n l) (jv_up (jv_up g 171 c (rdu N (V1 + V2) : Nat)) 172 c (rdd N (V1 + V2) : Nat))) :
  jv_Ca jv_T jv_ml kY_add [jv_P 171, jv_P 172, jv_I c, jv_J (u2 : Nat), jv_J (d2 : Nat)] (LL n l) g Q := by
  obtain ⟨t, t1, t2, t3, t4⟩ := RP_add hN (rd_RP N V1) h3
  have q1 := rdd_pos (V := V1) hN
  have q2 := RP_pos hN h3
  have l1 : rdd N V1 ≤ N := Nat.div_le_self _ _
  have l2 : d2 ≤ N := by obtain ⟨k, e, _⟩ := h3; exact Nat.le_of_dvd hN ⟨k, e⟩
  have hs : 0 < Nat.gcd (rdd N V1) d2 := Nat.gcd_pos_of_pos_left d2 q1
  have ht : V1 + V2 = (rdu N V1 * (d2 / Nat.gcd (rdd N V1) d2) + u2 * (rdd N V1 / Nat.gcd (rdd N V1) d2)) * t := by rw [Nat.add_mul, ← t3, ← t4]
  obtain ⟨r1, r2⟩ := rd_mul t1 t2 ht
  rw [r1, r2] at hQ
  generalize rdu N V1 = u1 at h1 t3 hQ
  generalize rdd N V1 = d1 at h2 t2 t3 t4 q1 l1 hs hQ
  apply sg_Y_add_171_0 (A := A)
  rw [h2]
  refine ⟨⟨by omega, by omega⟩, ?_⟩
  refine tr_Y_common (A := A) ?_
  apply sg_Y_add_171_8 (A := A)
  rw [h1, h2]
  generalize Nat.gcd d1 d2 = s at hs t2 t3 t4 hQ
  have e1 : (d2 : Int) / (s : Int) = ((d2 / s : Nat) : Int) := rfl
  have e2 : (d1 : Int) / (s : Int) = ((d1 / s : Nat) : Int) := rfl
  rw [e1, e2]
  generalize d2 / s = y at t2 t3 t4 hQ
  generalize d1 / s = x at t2 t3 t4 hQ
  have e3 : (u1 : Int) * (y : Int) = ((u1 * y : Nat) : Int) := (Int.natCast_mul ..).symm
  have e4 : (u2 : Int) * (x : Int) = ((u2 * x : Nat) : Int) := (Int.natCast_mul ..).symm
  have e5 : (x : Int) * (d2 : Int) = ((x * d2 : Nat) : Int) := (Int.natCast_mul ..).symm
  rw [e3, e4, e5]
  have b1 : u1 * y ≤ V1 := by rw [t3]; exact Nat.le_mul_of_pos_right _ t1
  have b2 : u2 * x ≤ V2 := by rw [t4]; exact Nat.le_mul_of_pos_right _ t1
  have b3 : x * d2 ≤ N := by rw [t2]; exact Nat.le_mul_of_pos_right _ t1
  have b4 : 0 < x * d2 := Nat.pos_of_ne_zero (fun h => by rw [h, Nat.zero_mul] at t2; omega)
  generalize u1 * y = P1 at b1 hQ
  generalize u2 * x = P2 at b2 hQ
  generalize x * d2 = P3 at b3 b4 hQ
  rw [show (P1 : Int) + (P2 : Int) = ((P1 + P2 : Nat) : Int) from rfl]
  refine ⟨⟨by omega, by omega⟩, ⟨by omega, by omega⟩, ⟨by omega, by omega⟩, ⟨by omega, by omega⟩, ⟨by omega, by omega⟩, ⟨by omega, by omega⟩, ⟨by omega, by omega⟩, ⟨by omega, by omega⟩, ⟨by omega, by omega⟩, ⟨by omega, by omega⟩, ?_⟩
  refine tr_Y_common (A := A) ?_
  apply sg_Y_add_171_48 (A := A)
  have hg : 0 < Nat.gcd (P1 + P2) P3 := Nat.gcd_pos_of_pos_right _ b4
  generalize Nat.gcd (P1 + P2) P3 = G at hg hQ
  rw [show ((P1 + P2 : Nat) : Int) / (G : Int) = (((P1 + P2) / G : Nat) : Int) from rfl, show (P3 : Int) / (G : Int) = ((P3 / G : Nat) : Int) from rfl]
  exact ⟨⟨by omega, by omega⟩, ⟨by omega, by omega⟩, ⟨by omega, by omega⟩, ⟨by omega, by omega⟩, hQ⟩
