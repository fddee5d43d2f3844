/-! ===== the model's layCarried, layWaiting, hasRing ===== -/
theorem MN_fr {A : jA} {g g' : jv_S} (h : MN A g) (h1 : ∀ (p : Nat) (i : Int), 140 ≤ p → p ≤ 144 → g' p i = g p i) (h5 : g' 136 5 = g 136 5) (h6 : g' 136 6 = g 136 6) (h12 : g' 136 12 = g 136 12) : MN A g' := by
  obtain ⟨hw, c1, c2, c3, c4, c5⟩ := h
  refine ⟨hw, ?_, ?_, ?_, fun c hc => ?_, fun x y hx hy => ?_⟩
  · rw [h5]; exact c1
  · rw [h6]; exact c2
  · rw [h12]; exact c3
  · rw [h1 140 _ (by decide) (by decide), h1 141 _ (by decide) (by decide), h1 142 _ (by decide) (by decide), h1 143 _ (by decide) (by decide)]; exact c4 c hc
  · rw [h1 144 _ (by decide) (by decide)]; exact c5 x y hx hy
theorem tk_self {A : jA} {y : Nat} : tk A (10 + y) y = 0 := by
  unfold tk
  rw [mk_zero]
  intro i _
  unfold tq tb tx
  rw [if_neg (by omega), Nat.add_sub_cancel_left]
  simp
theorem cl_mono {N : Nat → Nat} {m s t : Nat} (hN : ∀ c, c < m → N c < 2 ^ m) (ht : t < 2 ^ m) (h : sb s t) : sb (cl N m s) (cl N m t) := cl_min (sb_trans h (cl_sub ht)) (cl_clo hN)
theorem sb_un {f : Nat → Nat} {m k : Nat} (h : k < m) : sb (f k) (un f m) := fun _ hi => un_bit.mpr ⟨k, h, hi⟩
/-- what the model takes in for y from x -/
noncomputable def cin (A : jA) (y x : Nat) : Nat := if x = y then 0 else rc A x y
theorem cin_lt {A : jA} {y x : Nat} : cin A y x < 2 ^ ln A := by
  unfold cin
  split
  · exact Nat.two_pow_pos _
  · exact rc_lt
theorem cr_un {A : jA} {y : Nat} : un (cin A y) (nd A) = cr A y := by
  apply sb_anti
  · intro i hi
    obtain ⟨x, h1, h2⟩ := un_bit.mp hi
    unfold cin at h2
    split at h2
    · rw [Nat.zero_testBit] at h2; cases h2
    · exact cl_mono on_lt so_lt (sb_un (f := fun x => tk A (10 + x) y) h1) i h2
  · refine cl_min ?_ ?_
    · intro i hi
      obtain ⟨x, h1, h2⟩ := un_bit.mp hi
      refine un_bit.mpr ⟨x, h1, ?_⟩
      unfold cin
      split
      · next h => subst h; rw [tk_self, Nat.zero_testBit] at h2; cases h2
      · exact cl_sub (tk_ltl _ _) i h2
    · intro c hc h i hi
      obtain ⟨x, h1, h2⟩ := un_bit.mp h
      refine un_bit.mpr ⟨x, h1, ?_⟩
      unfold cin at h2 ⊢
      split at h2
      · rw [Nat.zero_testBit] at h2; cases h2
      · next hxy => rw [if_neg hxy]; exact cl_clo on_lt c hc h2 i hi
/-- the nodes that a lane carries -/
noncomputable def cs (A : jA) (c : Nat) : Nat := mk (fun y => (cr A y).testBit c) (nd A)
theorem cs_bit {A : jA} {c y : Nat} (hy : y < nd A) : (cs A c).testBit y = (cr A y).testBit c := by
  unfold cs
  rw [mk_bit, decide_eq_true hy, Bool.true_and]
theorem cs_lt {A : jA} {c : Nat} : cs A c < 2 ^ nd A := mk_lt _ _
noncomputable def cv (A : jA) (y u c : Nat) : Nat := mk (fun y => (cr A y).testBit c) y ||| (if u.testBit c then 2 ^ y else 0)
theorem cv_lt {A : jA} {y u c : Nat} (hy : y < 6) : cv A y u c < 2 ^ 6 := by
  refine Nat.or_lt_two_pow (Nat.lt_of_lt_of_le (mk_lt _ _) (Nat.pow_le_pow_right (by decide) (by omega))) ?_
  split
  · exact Nat.pow_lt_pow_right (by decide) hy
  · decide
theorem cv_or {A : jA} {y u f c : Nat} (hy : y < 6) {v : Int} (hv : v = (cv A y u c : Nat)) : (f.testBit c = false → jv_or v 0 = (cv A y (u ||| f) c : Nat)) ∧ (f.testBit c = true → jv_or v (jv_shl (1 : Int) (y : Int)) = (cv A y (u ||| f) c : Nat)) := by
  have h1 := i31 (cv_lt (A := A) (u := u) (c := c) hy) (by decide)
  constructor
  · intro h
    rw [hv, show (0 : Int) = ((0 : Nat) : Int) from rfl, jb_or h1 (by decide), Nat.or_zero]
    unfold cv
    rw [Nat.testBit_or, h, Bool.or_false]
  · intro h
    have h2 : 2 ^ y < 2147483648 := Nat.lt_of_le_of_lt (Nat.pow_le_pow_right (n := 2) (by decide) (show y ≤ 30 by omega)) (by decide)
    rw [hv, jb_shl1 (by omega), jb_or h1 h2]
    unfold cv
    rw [Nat.testBit_or, h, Bool.or_true]
    cases u.testBit c with
    | true => simp [Nat.or_assoc]
    | false => simp
set_option maxRecDepth 100000 in
theorem sg_Y_layCarried_0 {A : jA} {n l : Nat} {g : jv_S} {Q : jv_V → jv_L → jv_S → Prop} (h :
   jv_At jv_T jv_ml kY_layCarried 2 [jv_P 136, jv_I (0 : Int), jv_U, jv_U, jv_U] [] (LL n l) g Q) :
  jv_At jv_T jv_ml kY_layCarried 0 [jv_P 136, jv_U, jv_U, jv_U, jv_U] [] (LL n l) g Q :=
  jv_of_wp (gok9 (A := A)) (md := []) (stop := [2, 25, 35, 62]) (tab := jt_Y_layCarried) rfl 400 _ _ _ _ _ h
set_option maxRecDepth 100000 in
theorem sg_Y_layCarried_2 {A : jA} {n l : Nat} {g : jv_S} {Q : jv_V → jv_L → jv_S → Prop} {v1 : Int} {v2 v3 v4 : jv_V} (h :
   ((g 136 6) ≤ v1 →
     jv_At jv_T jv_ml kY_layCarried 25 [jv_P 136, jv_I (0 : Int), v2, v3, v4] [] (LL n l) g Q) ∧
    (¬ (g 136 6) ≤ v1 →
     (0 ≤ v1 ∧ v1 < 10) ∧ 
      jv_r32 (v1 + (1 : Int)) ∧
      jv_At jv_T jv_ml kY_layCarried 2 [jv_P 136, jv_I (v1 + (1 : Int)), v2, v3, v4] [] (LL n l) (jv_up g 148 v1 (0 : Int)) Q)) :
  jv_At jv_T jv_ml kY_layCarried 2 [jv_P 136, jv_I v1, v2, v3, v4] [] (LL n l) g Q :=
  jv_of_wp (gok9 (A := A)) (md := []) (stop := [2, 25, 35, 62]) (tab := jt_Y_layCarried) rfl 400 _ _ _ _ _ h
set_option maxRecDepth 100000 in
theorem sg_Y_layCarried_25 {A : jA} {n l : Nat} {g : jv_S} {Q : jv_V → jv_L → jv_S → Prop} {v1 : Int} {v2 v3 v4 : jv_V} (h :
   ((g 136 5) ≤ v1 →
     Q jv_U (LL n l) g) ∧
    (¬ (g 136 5) ≤ v1 →
     jv_At jv_T jv_ml kY_layCarried 35 [jv_P 136, jv_I v1, jv_I (0 : Int), v3, v4] [] (LL n l) g Q)) :
  jv_At jv_T jv_ml kY_layCarried 25 [jv_P 136, jv_I v1, v2, v3, v4] [] (LL n l) g Q :=
  jv_of_wp (gok9 (A := A)) (md := []) (stop := [2, 25, 35, 62]) (tab := jt_Y_layCarried) rfl 400 _ _ _ _ _ h
set_option maxRecDepth 100000 in
theorem sg_Y_layCarried_35 {A : jA} {n l : Nat} {g : jv_S} {Q : jv_V → jv_L → jv_S → Prop} {v1 v2 : Int} {v3 v4 : jv_V} (h :
   ((g 136 5) ≤ v2 →
     jv_r32 (v1 + (1 : Int)) ∧
      jv_At jv_T jv_ml kY_layCarried 25 [jv_P 136, jv_I (v1 + (1 : Int)), jv_I v2, v3, v4] [] (LL n l) g Q) ∧
    (¬ (g 136 5) ≤ v2 →
     (v2 = v1 →
       jv_At jv_T jv_ml kY_layCarried 62 [jv_P 136, jv_I v1, jv_I v2, jv_I (0 : Int), jv_I (0 : Int)] [] (LL n l) g Q) ∧
      (¬ v2 = v1 →
       ((136 = 136) ∧ (LLx (LL n l)) ∧ (MN A g ∧ (0 ≤ v2 ∧ v2 < nd A) ∧ 0 ≤ v1 ∧ v1 < nd A)) ∧
        jv_At jv_T jv_ml kY_layCarried 62 [jv_P 136, jv_I v1, jv_I v2, jv_I (rcI A v2 v1), jv_I (0 : Int)] [] (LL n l) g Q))) :
  jv_At jv_T jv_ml kY_layCarried 35 [jv_P 136, jv_I v1, jv_I v2, v3, v4] [] (LL n l) g Q :=
  jv_of_wp (gok9 (A := A)) (md := []) (stop := [2, 25, 35, 62]) (tab := jt_Y_layCarried) rfl 400 _ _ _ _ _ h
set_option maxRecDepth 100000 in
theorem sg_Y_layCarried_62 {A : jA} {n l : Nat} {g : jv_S} {Q : jv_V → jv_L → jv_S → Prop} {v1 v2 v3 v4 : Int} (h :
   ((g 136 6) ≤ v4 →
     jv_r32 (v2 + (1 : Int)) ∧
      jv_At jv_T jv_ml kY_layCarried 35 [jv_P 136, jv_I v1, jv_I (v2 + (1 : Int)), jv_I v3, jv_I v4] [] (LL n l) g Q) ∧
    (¬ (g 136 6) ≤ v4 →
     (0 ≤ v4 ∧ v4 < 10) ∧
      ((0 ≤ v3 ∧ v3 < 2147483648 ∧ 0 ≤ v4 ∧ v4 < 31)) ∧
      ((hb v3 v4) = 0 →
       (0 ≤ v4 ∧ v4 < 10) ∧ 
        jv_r32 (v4 + (1 : Int)) ∧
        jv_At jv_T jv_ml kY_layCarried 62 [jv_P 136, jv_I v1, jv_I v2, jv_I v3, jv_I (v4 + (1 : Int))] [] (LL n l) (jv_up g 148 v4 (jv_or (g 148 v4) (0 : Int))) Q) ∧
      (¬ (hb v3 v4) = 0 →
       (0 ≤ v4 ∧ v4 < 10) ∧ 
        jv_r32 (v4 + (1 : Int)) ∧
        jv_At jv_T jv_ml kY_layCarried 62 [jv_P 136, jv_I v1, jv_I v2, jv_I v3, jv_I (v4 + (1 : Int))] [] (LL n l) (jv_up g 148 v4 (jv_or (g 148 v4) (jv_shl (1 : Int) v1))) Q))) :
  jv_At jv_T jv_ml kY_layCarried 62 [jv_P 136, jv_I v1, jv_I v2, jv_I v3, jv_I v4] [] (LL n l) g Q :=
  jv_of_wp (gok9 (A := A)) (md := []) (stop := [2, 25, 35, 62]) (tab := jt_Y_layCarried) rfl 400 _ _ _ _ _ h
theorem tr_Y_layCarried {A : jA} {n l : Nat} {g : jv_S} {Q : jv_V → jv_L → jv_S → Prop} (hM : MN A g)
  (hQ : ∀ g' : jv_S, (∀ c : Nat, c < ln A → g' 148 c = cs A c) → (∀ (p : Nat) (i : Int), ¬ p = 148 → g' p i = g p i) → Q jv_U (LL n l) g') :
  jv_Ca jv_T jv_ml kY_layCarried [jv_P 136] (LL n l) g Q := by
  have hw := hM.1
  have w1 := hw.1
  have w2 := hw.2.1
  have f1 := hM.2.1
  have f2 := hM.2.2.1
  have ys : ∀ y, y ≤ nd A → ∀ (g' : jv_S) (v w u : jv_V), (∀ c : Nat, c < ln A → g' 148 c = cv A y 0 c) → (∀ (p : Nat) (i : Int), ¬ p = 148 → g' p i = g p i) → jv_At jv_T jv_ml kY_layCarried 25 [jv_P 136, jv_I y, v, w, u] [] (LL n l) (g') Q := by
    apply loop_up
    intro y hy ih g' v w u h1 h2
    have f1' : g' 136 5 = nd A := by rw [h2 _ _ (by decide)]; exact f1
    have f2' : g' 136 6 = ln A := by rw [h2 _ _ (by decide)]; exact f2
    apply sg_Y_layCarried_25 (A := A)
    refine ⟨fun h => hQ g' (fun c hc => ?_) h2, fun h => ?_⟩
    · have hyl : y = nd A := by omega
      subst hyl
      rw [h1 c hc]
      unfold cv cs
      simp
    · have xs : ∀ x, x ≤ nd A → ∀ (g' : jv_S) (w u : jv_V), (∀ c : Nat, c < ln A → g' 148 c = cv A y (un (cin A y) x) c) → (∀ (p : Nat) (i : Int), ¬ p = 148 → g' p i = g p i) → jv_At jv_T jv_ml kY_layCarried 35 [jv_P 136, jv_I y, jv_I x, w, u] [] (LL n l) (g') Q := by
        apply loop_up
        intro x hx ihx g' w u h1 h2
        have f1' : g' 136 5 = nd A := by rw [h2 _ _ (by decide)]; exact f1
        have f2' : g' 136 6 = ln A := by rw [h2 _ _ (by decide)]; exact f2
        have hM' : MN A g' := MN_fr hM (fun p i a b => h2 p i (by omega)) (h2 _ _ (by decide)) (h2 _ _ (by decide)) (h2 _ _ (by decide))
        apply sg_Y_layCarried_35 (A := A)
        refine ⟨fun h => ⟨⟨by omega, by omega⟩, ih (by omega) g' _ _ _ (fun c hc => ?_) h2⟩, fun h => ?_⟩
        · have hxl : x = nd A := by omega
          subst hxl
          rw [h1 c hc, cr_un]
          unfold cv
          simp only [Nat.zero_testBit, Nat.or_zero, Bool.false_eq_true, if_false]
          rfl
        · have cs' : ∀ (v3 : Int), v3 = (cin A y x : Nat) → ∀ c, c ≤ ln A → ∀ (g' : jv_S), (∀ d : Nat, d < ln A → g' 148 d = cv A y (if d < c then un (cin A y) (x + 1) else un (cin A y) x) d) → (∀ (p : Nat) (i : Int), ¬ p = 148 → g' p i = g p i) → jv_At jv_T jv_ml kY_layCarried 62 [jv_P 136, jv_I y, jv_I x, jv_I v3, jv_I c] [] (LL n l) (g') Q := by
            intro v3 hv3
            apply loop_up
            intro c hc ihc g' h1 h2
            have f1' : g' 136 5 = nd A := by rw [h2 _ _ (by decide)]; exact f1
            have f2' : g' 136 6 = ln A := by rw [h2 _ _ (by decide)]; exact f2
            apply sg_Y_layCarried_62 (A := A)
            refine ⟨fun h => ⟨⟨by omega, by omega⟩, ihx (by omega) g' _ _ (fun d hd => ?_) h2⟩, fun h => ?_⟩
            · rw [h1 d hd, if_pos (by omega)]
            · have hf := i31 (cin_lt (A := A) (y := y) (x := x)) (by omega)
              have hcv := cv_or (A := A) (y := y) (u := un (cin A y) x) (f := cin A y x) (c := c) (by omega) (v := g' 148 c) (by rw [h1 c (by omega), if_neg (by omega)])
              have nxt : ∀ v : Int, v = (cv A y (un (cin A y) (x + 1)) c : Nat) → jv_At jv_T jv_ml kY_layCarried 62 [jv_P 136, jv_I y, jv_I x, jv_I v3, jv_I (c + 1)] [] (LL n l) (jv_up g' 148 c v) Q := by
                intro v hv
                refine ihc (by omega) _ (fun d hd => ?_) (fun p i hp => by rw [up_ne (by omega)]; exact h2 p i hp)
                by_cases hdc : d = c
                · subst hdc
                  rw [up_eq rfl rfl, if_pos (by omega), hv]
                · rw [up_ne (by omega), h1 d hd]
                  simp only [show (d < c + 1) ↔ d < c by omega]
              rw [hv3]
              cases hbit : (cin A y x).testBit c with
              | false =>
                have e0 := hb_f hbit
                have := nxt _ (hcv.1 hbit)
                rw [hv3] at this
                rw [e0]
                repeat' (first | assumption | apply And.intro | intro _)
                all_goals (first | omega | exact LLx_ok | skip)
              | true =>
                have e0 := hb_t hbit
                have := nxt _ (hcv.2 hbit)
                rw [hv3] at this
                rw [e0]
                repeat' (first | assumption | apply And.intro | intro _)
                all_goals (first | omega | exact LLx_ok | skip)
          refine ⟨fun h3 => ?_, fun h3 => ⟨⟨rfl, LLx_ok, hM', ⟨by omega, by omega⟩, by omega, by omega⟩, ?_⟩⟩
          · exact cs' 0 (by unfold cin; rw [if_pos (by omega)]; rfl) 0 (by omega) g' (fun d hd => by rw [h1 d hd, if_neg (by omega)]) h2
          · exact cs' _ (by unfold cin; rw [if_neg (by omega)]; rfl) 0 (by omega) g' (fun d hd => by rw [h1 d hd, if_neg (by omega)]) h2
      exact xs 0 (by omega) g' _ _ h1 h2
  have zs : ∀ c, c ≤ ln A → ∀ (g' : jv_S) (v w u : jv_V), (∀ d : Nat, d < c → g' 148 d = 0) → (∀ (p : Nat) (i : Int), ¬ p = 148 → g' p i = g p i) → jv_At jv_T jv_ml kY_layCarried 2 [jv_P 136, jv_I c, v, w, u] [] (LL n l) (g') Q := by
    apply loop_up
    intro c hc ih g' v w u h1 h2
    have f2' : g' 136 6 = ln A := by rw [h2 _ _ (by decide)]; exact f2
    apply sg_Y_layCarried_2 (A := A)
    refine ⟨fun h => ys 0 (by omega) g' _ _ _ (fun d hd => by rw [h1 d (by omega), show cv A 0 0 d = 0 by unfold cv mk; simp]; rfl) h2, fun h => ⟨⟨by omega, by omega⟩, ⟨by omega, by omega⟩, ih (by omega) _ _ _ _ (fun d hd => ?_) (fun p i hp => by rw [up_ne (by omega)]; exact h2 p i hp)⟩⟩
    by_cases hdc : d = c
    · subst hdc
      rw [up_eq rfl rfl]
    · rw [up_ne (by omega)]
      exact h1 d (by omega)
  exact sg_Y_layCarried_0 (A := A) (zs 0 (by omega) g _ _ _ (fun d hd => by omega) (fun p i _ => rfl))
/-- what a lane waits for by y -/
noncomputable def wy (A : jA) (c y : Nat) : Nat := if (cr A y).testBit c then on A y c else 0
theorem wy_lt {A : jA} {c y : Nat} : wy A c y < 2 ^ ln A := by
  unfold wy
  split
  · exact tk_ltl _ _
  · exact Nat.two_pow_pos _
noncomputable def wt (A : jA) (c : Nat) : Nat := un (wy A c) (nd A)
theorem wt_lt {A : jA} : ∀ c, c < ln A → wt A c < 2 ^ ln A := fun _ _ => un_lt (fun _ _ => wy_lt)
set_option maxRecDepth 100000 in
theorem sg_Y_layWaiting_0 {A : jA} {n l : Nat} {g : jv_S} {Q : jv_V → jv_L → jv_S → Prop} (h :
   jv_Ca jv_T jv_ml kY_layCarried [jv_P 136] (LL n l) g (fun r L2 g2 => jv_At jv_T jv_ml kY_layWaiting 4 [jv_P 136, jv_U, jv_U] (jv_pu r []) L2 g2 Q)) :
  jv_At jv_T jv_ml kY_layWaiting 0 [jv_P 136, jv_U, jv_U] [] (LL n l) g Q :=
  jv_of_wp (gok9 (A := A)) (md := []) (stop := [6, 23]) (tab := jt_Y_layWaiting) rfl 400 _ _ _ _ _ h
set_option maxRecDepth 100000 in
theorem sg_Y_layWaiting_4 {A : jA} {n l : Nat} {g : jv_S} {Q : jv_V → jv_L → jv_S → Prop} {v1 v2 : jv_V} (h :
   jv_At jv_T jv_ml kY_layWaiting 6 [jv_P 136, jv_I (0 : Int), v2] [] (LL n l) g Q) :
  jv_At jv_T jv_ml kY_layWaiting 4 [jv_P 136, v1, v2] [] (LL n l) g Q :=
  jv_of_wp (gok9 (A := A)) (md := []) (stop := [6, 23]) (tab := jt_Y_layWaiting) rfl 400 _ _ _ _ _ h
set_option maxRecDepth 100000 in
theorem sg_Y_layWaiting_6 {A : jA} {n l : Nat} {g : jv_S} {Q : jv_V → jv_L → jv_S → Prop} {v1 : Int} {v2 : jv_V} (h :
   ((g 136 6) ≤ v1 →
     Q jv_U (LL n l) g) ∧
    (¬ (g 136 6) ≤ v1 →
     (0 ≤ v1 ∧ v1 < 10) ∧ 
      jv_At jv_T jv_ml kY_layWaiting 23 [jv_P 136, jv_I v1, jv_I (0 : Int)] [] (LL n l) (jv_up g 149 v1 (0 : Int)) Q)) :
  jv_At jv_T jv_ml kY_layWaiting 6 [jv_P 136, jv_I v1, v2] [] (LL n l) g Q :=
  jv_of_wp (gok9 (A := A)) (md := []) (stop := [6, 23]) (tab := jt_Y_layWaiting) rfl 400 _ _ _ _ _ h
set_option maxRecDepth 100000 in
theorem sg_Y_layWaiting_23 {A : jA} {n l : Nat} {g : jv_S} {Q : jv_V → jv_L → jv_S → Prop} {v1 v2 : Int} (h :
   ((g 136 5) ≤ v2 →
     jv_r32 (v1 + (1 : Int)) ∧
      jv_At jv_T jv_ml kY_layWaiting 6 [jv_P 136, jv_I (v1 + (1 : Int)), jv_I v2] [] (LL n l) g Q) ∧
    (¬ (g 136 5) ≤ v2 →
     (0 ≤ v1 ∧ v1 < 10) ∧
      (0 ≤ v1 ∧ v1 < 10) ∧
      ((0 ≤ (g 148 v1) ∧ (g 148 v1) < 2147483648 ∧ 0 ≤ v2 ∧ v2 < 31)) ∧
      ((hb (g 148 v1) v2) = 0 →
       (0 ≤ v1 ∧ v1 < 10) ∧ 
        jv_r32 (v2 + (1 : Int)) ∧
        jv_At jv_T jv_ml kY_layWaiting 23 [jv_P 136, jv_I v1, jv_I (v2 + (1 : Int))] [] (LL n l) (jv_up g 149 v1 (jv_or (g 149 v1) (0 : Int))) Q) ∧
      (¬ (hb (g 148 v1) v2) = 0 →
       ((136 = 136) ∧ (LLx (LL n l)) ∧ (MN A g ∧ (0 ≤ v2 ∧ v2 < nd A) ∧ 0 ≤ v1 ∧ (v1 < ln A ∨ (10 ≤ v1 ∧ v1 < 10 + nd A)))) ∧
        (0 ≤ v1 ∧ v1 < 10) ∧ 
        jv_r32 (v2 + (1 : Int)) ∧
        jv_At jv_T jv_ml kY_layWaiting 23 [jv_P 136, jv_I v1, jv_I (v2 + (1 : Int))] [] (LL n l) (jv_up g 149 v1 (jv_or (g 149 v1) (tkI A v1 v2))) Q))) :
  jv_At jv_T jv_ml kY_layWaiting 23 [jv_P 136, jv_I v1, jv_I v2] [] (LL n l) g Q :=
  jv_of_wp (gok9 (A := A)) (md := []) (stop := [6, 23]) (tab := jt_Y_layWaiting) rfl 400 _ _ _ _ _ h
theorem tr_Y_layWaiting {A : jA} {n l : Nat} {g : jv_S} {Q : jv_V → jv_L → jv_S → Prop} (hM : MN A g)
  (hQ : ∀ g' : jv_S, (∀ c : Nat, c < ln A → g' 148 c = cs A c) → (∀ c : Nat, c < ln A → g' 149 c = wt A c) → (∀ (p : Nat) (i : Int), ¬ (p = 148 ∨ p = 149) → g' p i = g p i) → Q jv_U (LL n l) g') :
  jv_Ca jv_T jv_ml kY_layWaiting [jv_P 136] (LL n l) g Q := by
  have hw := hM.1
  have w1 := hw.1
  have w2 := hw.2.1
  have f1 := hM.2.1
  have f2 := hM.2.2.1
  apply sg_Y_layWaiting_0 (A := A)
  refine tr_Y_layCarried hM (fun g0 c1 c2 => ?_)
  apply sg_Y_layWaiting_4 (A := A)
  have ls : ∀ c, c ≤ ln A → ∀ (g' : jv_S) (v : jv_V), (∀ d : Nat, d < c → g' 149 d = wt A d) → (∀ (p : Nat) (i : Int), ¬ p = 149 → g' p i = g0 p i) → jv_At jv_T jv_ml kY_layWaiting 6 [jv_P 136, jv_I c, v] [] (LL n l) (g') Q := by
    apply loop_up
    intro c hc ih g' v h1 h2
    have f2' : g' 136 6 = ln A := by rw [h2 _ _ (by decide), c2 _ _ (by decide)]; exact f2
    apply sg_Y_layWaiting_6 (A := A)
    refine ⟨fun h => hQ g' (fun d hd => by rw [h2 _ _ (by decide)]; exact c1 d hd) (fun d hd => h1 d (by omega)) (fun p i hp => by rw [h2 p i (by omega), c2 p i (by omega)]), fun h => ⟨⟨by omega, by omega⟩, ?_⟩⟩
    have ys : ∀ y, y ≤ nd A → ∀ (g' : jv_S), (∀ d : Nat, d < c → g' 149 d = wt A d) → g' 149 c = un (wy A c) y → (∀ (p : Nat) (i : Int), ¬ p = 149 → g' p i = g0 p i) → jv_At jv_T jv_ml kY_layWaiting 23 [jv_P 136, jv_I c, jv_I y] [] (LL n l) (g') Q := by
      apply loop_up
      intro y hy ihy g' h1 h3 h2
      have hM' : MN A g' := MN_fr hM (fun p i a b => by rw [h2 p i (by omega), c2 p i (by omega)]) (by rw [h2 _ _ (by decide), c2 _ _ (by decide)]) (by rw [h2 _ _ (by decide), c2 _ _ (by decide)]) (by rw [h2 _ _ (by decide), c2 _ _ (by decide)])
      have f1' := hM'.2.1
      apply sg_Y_layWaiting_23 (A := A)
      refine ⟨fun h => ⟨⟨by omega, by omega⟩, ih (by omega) g' _ (fun d hd => ?_) h2⟩, fun h => ?_⟩
      · by_cases hdc : d = c
        · subst hdc
          rw [h3, show y = nd A by omega]
          rfl
        · exact h1 d (by omega)
      · have hcs : g' 148 c = cs A c := by rw [h2 _ _ (by decide)]; exact c1 c (by omega)
        have hc31 := i31 (cs_lt (A := A) (c := c)) (by omega)
        have hu := i31 (un_lt (f := wy A c) (k := y) (fun _ _ => wy_lt (A := A))) (by omega)
        have nxt : ∀ v : Int, v = (un (wy A c) (y + 1) : Nat) → jv_At jv_T jv_ml kY_layWaiting 23 [jv_P 136, jv_I c, jv_I (y + 1)] [] (LL n l) (jv_up g' 149 c v) Q := by
          intro v hv
          exact ihy (by omega) _ (fun d hd => by rw [up_ne (by omega)]; exact h1 d hd) (by rw [up_eq rfl rfl]; exact hv) (fun p i hp => by rw [up_ne (by omega)]; exact h2 p i hp)
        have hb' := cs_bit (A := A) (c := c) (y := y) (by omega)
        rw [hcs]
        cases hbit : (cr A y).testBit c with
        | false =>
          rw [hbit] at hb'
          have e0 := hb_f hb'
          have := nxt (jv_or (g' 149 c) 0) (by
            rw [h3, show (0 : Int) = ((0 : Nat) : Int) from rfl, jb_or hu (by decide)]
            show _ = ((un (wy A c) y ||| wy A c y : Nat) : Int)
            unfold wy
            rw [hbit]
            rfl)
          rw [e0]
          repeat' (first | assumption | apply And.intro | intro _)
          all_goals (first | omega | exact LLx_ok | skip)
        | true =>
          rw [hbit] at hb'
          have e0 := hb_t hb'
          have := nxt (jv_or (g' 149 c) (tkI A c y)) (by
            rw [h3, tkI_c, jb_or hu (i31 (tk_ltl c y) (by omega))]
            show _ = ((un (wy A c) y ||| wy A c y : Nat) : Int)
            congr 2
            unfold wy
            rw [if_pos hbit]
            rfl)
          rw [e0]
          repeat' (first | assumption | apply And.intro | intro _)
          all_goals (first | omega | exact LLx_ok | skip)
    exact ys 0 (by omega) _ (fun d hd => by rw [up_ne (by omega)]; exact h1 d hd) (up_eq rfl rfl) (fun p i hp => by rw [up_ne (by omega)]; exact h2 p i hp)
  exact ls 0 (by omega) g0 _ (fun d hd => by omega) (fun p i _ => rfl)
theorem full_lt {m : Nat} : 2 ^ m - 1 < 2 ^ m := by have := Nat.two_pow_pos m; omega
theorem shl_full {m : Nat} (h : m ≤ 30) : jv_shl (1 : Int) (m : Int) - 1 = ((2 ^ m - 1 : Nat) : Int) ∧ (2 : Int) ^ m ≤ 1073741824 ∧ jv_shl (1 : Int) (m : Int) = ((2 ^ m : Nat) : Int) := by
  have h1 := Nat.two_pow_pos m
  have h2 : 2 ^ m ≤ 2 ^ 30 := Nat.pow_le_pow_right (by decide) h
  rw [jb_shl1 (by omega)]
  refine ⟨by omega, ?_, rfl⟩
  have : ((2 ^ m : Nat) : Int) ≤ 1073741824 := by omega
  rw [Int.natCast_pow] at this
  exact this
noncomputable def kG (A : jA) : Nat := gf (kn (wt A)) (ln A) (2 ^ ln A - 1)
set_option maxRecDepth 100000 in
theorem sg_Y_hasRing_0 {A : jA} {n l : Nat} {g : jv_S} {Q : jv_V → jv_L → jv_S → Prop} (h :
   jv_Ca jv_T jv_ml kY_layWaiting [jv_P 136] (LL n l) g (fun r L2 g2 => jv_At jv_T jv_ml kY_hasRing 4 [jv_P 136, jv_U, jv_U, jv_U] (jv_pu r []) L2 g2 Q)) :
  jv_At jv_T jv_ml kY_hasRing 0 [jv_P 136, jv_U, jv_U, jv_U] [] (LL n l) g Q :=
  jv_of_wp (gok9 (A := A)) (md := []) (stop := [15, 23]) (tab := jt_Y_hasRing) rfl 400 _ _ _ _ _ h
set_option maxRecDepth 100000 in
theorem sg_Y_hasRing_4 {A : jA} {n l : Nat} {g : jv_S} {Q : jv_V → jv_L → jv_S → Prop} {v1 v2 v3 : jv_V} (h :
   jv_r32 ((jv_shl (1 : Int) (g 136 6)) - (1 : Int)) ∧
    jv_At jv_T jv_ml kY_hasRing 15 [jv_P 136, jv_I ((jv_shl (1 : Int) (g 136 6)) - (1 : Int)), jv_I (1 : Int), v3] [] (LL n l) g Q) :
  jv_At jv_T jv_ml kY_hasRing 4 [jv_P 136, v1, v2, v3] [] (LL n l) g Q :=
  jv_of_wp (gok9 (A := A)) (md := []) (stop := [15, 23]) (tab := jt_Y_hasRing) rfl 400 _ _ _ _ _ h
set_option maxRecDepth 100000 in
theorem sg_Y_hasRing_15 {A : jA} {n l : Nat} {g : jv_S} {Q : jv_V → jv_L → jv_S → Prop} {v1 v2 : Int} {v3 : jv_V} (h :
   (v2 = 0 →
     (v1 = 0 →
       ((0 : Int) = 0 ∨ (0 : Int) = 1) ∧ Q (jv_I (0 : Int)) (LL n l) g) ∧
      (¬ v1 = 0 →
       ((1 : Int) = 0 ∨ (1 : Int) = 1) ∧ Q (jv_I (1 : Int)) (LL n l) g)) ∧
    (¬ v2 = 0 →
     jv_At jv_T jv_ml kY_hasRing 23 [jv_P 136, jv_I v1, jv_I (0 : Int), jv_I (0 : Int)] [] (LL n l) g Q)) :
  jv_At jv_T jv_ml kY_hasRing 15 [jv_P 136, jv_I v1, jv_I v2, v3] [] (LL n l) g Q :=
  jv_of_wp (gok9 (A := A)) (md := []) (stop := [15, 23]) (tab := jt_Y_hasRing) rfl 400 _ _ _ _ _ h
set_option maxRecDepth 100000 in
theorem sg_Y_hasRing_23 {A : jA} {n l : Nat} {g : jv_S} {Q : jv_V → jv_L → jv_S → Prop} {v1 v2 v3 : Int} (h :
   ((g 136 6) ≤ v3 →
     jv_At jv_T jv_ml kY_hasRing 15 [jv_P 136, jv_I v1, jv_I v2, jv_I v3] [] (LL n l) g Q) ∧
    (¬ (g 136 6) ≤ v3 →
     ((0 ≤ v1 ∧ v1 < 2147483648 ∧ 0 ≤ v3 ∧ v3 < 31)) ∧
      ((hb v1 v3) = 0 →
       jv_r32 (v3 + (1 : Int)) ∧
        jv_At jv_T jv_ml kY_hasRing 23 [jv_P 136, jv_I v1, jv_I v2, jv_I (v3 + (1 : Int))] [] (LL n l) g Q) ∧
      (¬ (hb v1 v3) = 0 →
       (0 ≤ v3 ∧ v3 < 10) ∧
        ((jv_and (g 149 v3) v1) = 0 →
         jv_r32 (v3 + (1 : Int)) ∧
          jv_At jv_T jv_ml kY_hasRing 23 [jv_P 136, jv_I (jv_and v1 (jv_xor (jv_shl (1 : Int) v3) (-1 : Int))), jv_I (1 : Int), jv_I (v3 + (1 : Int))] [] (LL n l) g Q) ∧
        (¬ (jv_and (g 149 v3) v1) = 0 →
         jv_r32 (v3 + (1 : Int)) ∧
          jv_At jv_T jv_ml kY_hasRing 23 [jv_P 136, jv_I v1, jv_I v2, jv_I (v3 + (1 : Int))] [] (LL n l) g Q)))) :
  jv_At jv_T jv_ml kY_hasRing 23 [jv_P 136, jv_I v1, jv_I v2, jv_I v3] [] (LL n l) g Q :=
  jv_of_wp (gok9 (A := A)) (md := []) (stop := [15, 23]) (tab := jt_Y_hasRing) rfl 400 _ _ _ _ _ h
theorem tr_Y_hasRing {A : jA} {n l : Nat} {g : jv_S} {Q : jv_V → jv_L → jv_S → Prop} (hM : MN A g)
  (hQ : ∀ g' : jv_S, (∀ c : Nat, c < ln A → g' 148 c = cs A c) → (∀ c : Nat, c < ln A → g' 149 c = wt A c) → (∀ (p : Nat) (i : Int), ¬ (p = 148 ∨ p = 149) → g' p i = g p i) → Q (jv_I (jb_p (kG A ≠ 0))) (LL n l) g') :
  jv_Ca jv_T jv_ml kY_hasRing [jv_P 136] (LL n l) g Q := by
  have hw := hM.1
  have w2 := hw.2.1
  apply sg_Y_hasRing_0 (A := A)
  refine tr_Y_layWaiting hM (fun g0 c1 c3 c2 => ?_)
  apply sg_Y_hasRing_4 (A := A)
  have hQ' := hQ g0 c1 c3 c2
  have hM' : MN A g0 := MN_fr hM (fun p i a b => by rw [c2 p i (by omega)]) (c2 _ _ (by decide)) (c2 _ _ (by decide)) (c2 _ _ (by decide))
  have f2 := hM'.2.2.1
  have hp := Nat.two_pow_pos (ln A)
  have hp2 := pw10 w2
  obtain ⟨s1, -, s3⟩ := shl_full (show ln A ≤ 30 by omega)
  rw [f2, s1]
  have exit : ∀ (s : Nat) (v : jv_V), s = kG A → jv_At jv_T jv_ml kY_hasRing 15 [jv_P 136, jv_I s, jv_I 0, v] [] (LL n l) g0 Q := by
    intro s v h1
    apply sg_Y_hasRing_15 (A := A)
    rw [← h1] at hQ'
    refine ⟨fun _ => ⟨fun h => ⟨Or.inl rfl, ?_⟩, fun h => ⟨Or.inr rfl, ?_⟩⟩, fun h => absurd rfl h⟩
    · rw [jp_f (by omega)] at hQ'; exact hQ'
    · rw [jp_t (by omega)] at hQ'; exact hQ'
  have main : ∀ (k s : Nat) (v : jv_V), pcr s (ln A) = k → s < 2 ^ ln A → GI (kn (wt A)) (2 ^ ln A - 1) s → jv_At jv_T jv_ml kY_hasRing 15 [jv_P 136, jv_I s, jv_I 1, v] [] (LL n l) g0 Q := by
    intro k
    induction k using Nat.strongRecOn with
    | ind k ih =>
      intro s v hk h1 h2
      apply sg_Y_hasRing_15 (A := A)
      refine ⟨fun h => by omega, fun _ => ?_⟩
      have inner : ∀ c, c ≤ ln A → ∀ mo : Int, (mo = if rp (kn (wt A)) s c = s then 0 else 1) → jv_At jv_T jv_ml kY_hasRing 23 [jv_P 136, jv_I (rp (kn (wt A)) s c : Nat), jv_I mo, jv_I c] [] (LL n l) g0 Q := by
        apply loop_up
        intro c hc ihc mo hmo
        have hlt := rp_lt (nd := kn (wt A)) h1 c
        apply sg_Y_hasRing_23 (A := A)
        refine ⟨fun h => ?_, fun h => ?_⟩
        · have hcl : c = ln A := by omega
          subst hcl
          by_cases he : rp (kn (wt A)) s (ln A) = s
          · rw [if_pos he] at hmo
            rw [hmo, he]
            exact exit s _ (GI_fix h2 h1 he)
          · rw [if_neg he] at hmo
            rw [hmo]
            exact ih _ (by have := rp_ne h1 he; omega) _ _ rfl hlt (rp_GI (kn_mon _) h2 _)
        · have hl := i31 hlt (by omega)
          have ht := i31 (wt_lt (A := A) c (by omega)) (by omega)
          cases hbit : (rp (kn (wt A)) s c).testBit c with
          | false =>
            have e0 := hb_f hbit
            have e1 := rp_n (nd := kn (wt A)) (t := s) (c := c) (Or.inl hbit)
            have := ihc (by omega) mo (by rw [e1]; exact hmo)
            rw [e1] at this
            rw [e0]
            repeat' (first | assumption | apply And.intro | intro _)
            all_goals (first | omega | exact LLx_ok | skip)
          | true =>
            have e0 := hb_t hbit
            have e2 : jv_and (g0 149 (c : Int)) ((rp (kn (wt A)) s c : Nat) : Int) = ((wt A c &&& rp (kn (wt A)) s c : Nat) : Int) := by
              rw [c3 c (by omega)]
              exact jb_and ht hl
            rw [e0, e2]
            by_cases hn : wt A c &&& rp (kn (wt A)) s c = 0
            · obtain ⟨e3, e4⟩ := rp_y hbit (show ¬ kn (wt A) c _ from fun h => h hn)
              have := ihc (by omega) 1 (by rw [if_neg e4])
              rw [e3] at this
              rw [jb_clr hlt (by omega) (by omega)]
              repeat' (first | assumption | apply And.intro | intro _)
              all_goals (first | omega | exact LLx_ok | skip)
            · have e1 := rp_n (nd := kn (wt A)) (t := s) (c := c) (Or.inr hn)
              have := ihc (by omega) mo (by rw [e1]; exact hmo)
              rw [e1] at this
              repeat' (first | assumption | apply And.intro | intro _)
              all_goals (first | omega | exact LLx_ok | skip)
      exact inner 0 (by omega) 0 (by rw [show rp (kn (wt A)) s 0 = s from rfl, if_pos rfl])
  exact ⟨⟨by omega, by omega⟩, main _ _ _ rfl full_lt GI_0⟩
