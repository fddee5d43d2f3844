/-! ===== calls: tell, stamp, as, sheets ===== -/
section
variable {A : jA} {B S : jB} {tr fl rb : Int} {l t : Nat} {g : jv_S}
theorem IC_f (h : IC A B S tr fl rb l t g) (v : Int) : IC A B S tr v rb l t (jv_up g 1 11 v) := IC_1 h (fun p i hp => up_ne (by omega)) (by rw [up_ne (by omega)]; exact h.2.2.2.2.2.2.1.1) (up_eq rfl rfl)
theorem IC_l (h : IC A B S tr fl rb l t g) (v : Int) : IC A B S v fl rb l t (jv_up g 1 10 v) := IC_1 h (fun p i hp => up_ne (by omega)) (up_eq rfl rfl) (by rw [up_ne (by omega)]; exact h.2.2.2.2.2.2.1.2)
theorem kC_1 (i v : Int) : kC g (jv_up g 1 i v) := fun p j hp => up_ne (by omega)
theorem kM_u {q : Nat} (i v : Int) (h1 : 136 ≤ q) (h2 : q ≤ 999) : kM g (jv_up g q i v) := fun p j hp => up_ne (by omega)
theorem IM_f (h : IM A B S tr fl g) (v : Int) : IM A B S tr v (jv_up g 136 0 v) := by
  obtain ⟨h1, h2, h3, h4, h5⟩ := h
  exact ⟨MN_fr h1 (fun p i _ _ => up_ne (by omega)) (up_ne (by omega)) (up_ne (by omega)) (up_ne (by omega)), TMr_fr h2 (fun p i hp => up_ne (by omega)), ShM_fr (fun p i hp => up_ne (by omega)) h3, by rw [up_ne (by omega)]; exact h4, up_eq rfl rfl⟩
theorem IM_l (h : IM A B S tr fl g) (v : Int) : IM A B S v fl (jv_up g 136 1 v) := by
  obtain ⟨h1, h2, h3, h4, h5⟩ := h
  exact ⟨MN_fr h1 (fun p i _ _ => up_ne (by omega)) (up_ne (by omega)) (up_ne (by omega)) (up_ne (by omega)), TMr_fr h2 (fun p i hp => up_ne (by omega)), ShM_fr (fun p i hp => up_ne (by omega)) h3, up_eq rfl rfl, by rw [up_ne (by omega)]; exact h5⟩
theorem IM_sh {S' : jB} {g' : jv_S} (h : IM A B S tr fl g) (hf : ∀ (p : Nat) (i : Int), ¬ (137 ≤ p ∧ p ≤ 139) → g' p i = g p i) (hS : ShM S' g') : IM A B S' tr fl g' := by
  obtain ⟨h1, h2, h3, h4, h5⟩ := h
  exact ⟨MN_fr h1 (fun p i _ _ => hf _ _ (by omega)) (hf _ _ (by omega)) (hf _ _ (by omega)) (hf _ _ (by omega)), TMr_fr h2 (fun p i hp => hf _ _ (by omega)), hS, by rw [hf _ _ (by omega)]; exact h4, by rw [hf _ _ (by omega)]; exact h5⟩
/-- both sides of a call that may change the sheets, the trace, the fault; o: trace, fault, sheets after it -/
theorem CI_o {s : Int → Int} {n kx ky : Nat} {as : List jv_V} {v tr' fl' : Int} {S' : jB} (h0 : ∀ i, g 0 i = s i) (ht : t < 64) (hP : PW A B S rb l t) (hM : IM A B S tr fl g) (hS : ShW S')
  (hx : jv_Ca jv_T jv_ml kx (jv_P 1 :: as) (LL n l) g (fun r L g' => r = jv_I v ∧ L = LL n l ∧ IC A B S' tr' fl' rb l t g' ∧ kC g g'))
  (hy : ∀ g1 : jv_S, IM A B S tr fl g1 → jv_Ca jv_T jv_ml ky (jv_P 136 :: as) (LL n l) g1 (fun r L g' => r = jv_I v ∧ L = LL n l ∧ IM A B S' tr' fl' g' ∧ kM g1 g')) : CI s n t kx ky as l g := by
  refine jv_At.mono hx (fun r L g1 e => ?_)
  obtain ⟨e1, e2, e3, e4⟩ := e
  have h01 : ∀ i, g1 0 i = s i := fun i => by rw [e4 0 i (by omega)]; exact h0 i
  refine ⟨v, l, e1, e2, h01, jv_At.mono (hy g1 (IM_fr hM e4)) (fun r2 L2 g2 e => ?_)⟩
  obtain ⟨e5, e6, e7, e8⟩ := e
  obtain ⟨p1, p2, p3, p4, p5, p6, p7⟩ := PW_t hP ht
  exact ⟨e5, e6, IV_mk h01 ⟨p1, p2, p3, p4, p5, hS, p7⟩ (IC_t e3) e8 e7⟩
theorem CJ_o {s : Int → Int} {n kx ky : Nat} {as : List jv_V} {v tr' fl' : Int} {S' : jB} (h0 : ∀ i, g 0 i = s i) (ht : t < 64) (hP : PW A B S rb l t) (hM : IM A B S tr fl g) (hS : ShW S')
  (hx : jv_Ca jv_T jv_ml kx (jv_P 1 :: as) (LL n l) g (fun r L g' => r = jv_J v ∧ L = LL n l ∧ IC A B S' tr' fl' rb l t g' ∧ kC g g'))
  (hy : ∀ g1 : jv_S, IM A B S tr fl g1 → jv_Ca jv_T jv_ml ky (jv_P 136 :: as) (LL n l) g1 (fun r L g' => r = jv_J v ∧ L = LL n l ∧ IM A B S' tr' fl' g' ∧ kM g1 g')) : CJ s n t kx ky as l g := by
  refine jv_At.mono hx (fun r L g1 e => ?_)
  obtain ⟨e1, e2, e3, e4⟩ := e
  have h01 : ∀ i, g1 0 i = s i := fun i => by rw [e4 0 i (by omega)]; exact h0 i
  refine ⟨v, l, e1, e2, h01, jv_At.mono (hy g1 (IM_fr hM e4)) (fun r2 L2 g2 e => ?_)⟩
  obtain ⟨e5, e6, e7, e8⟩ := e
  obtain ⟨p1, p2, p3, p4, p5, p6, p7⟩ := PW_t hP ht
  exact ⟨e5, e6, IV_mk h01 ⟨p1, p2, p3, p4, p5, hS, p7⟩ (IC_t e3) e8 e7⟩
end
def lv (x k : Int) : Int := jv_w32 (jv_w32 (31 * x) + k)
set_option maxRecDepth 100000 in
theorem sg_X_leave_0 {A : jA} {n l : Nat} {g : jv_S} {Q : jv_V → jv_L → jv_S → Prop} {v1 : Int} (h :
   Q jv_U (LL n l) (jv_up g 1 10 (jv_w32 ((jv_w32 ((31 : Int) * (g 1 10))) + v1)))) :
  jv_At jv_T jv_ml kX_leave 0 [jv_P 1, jv_I v1] [] (LL n l) g Q :=
  jv_of_wp (gok9 (A := A)) (md := [7, 9]) (stop := []) (tab := jt_X_leave) rfl 400 _ _ _ _ _ h
set_option maxRecDepth 100000 in
theorem sg_Y_begins_0 {A : jA} {n l : Nat} {g : jv_S} {Q : jv_V → jv_L → jv_S → Prop} {v1 : Int} (h :
   Q jv_U (LL n l) (jv_up g 136 1 (jv_w32 ((jv_w32 ((31 : Int) * (g 136 1))) + v1)))) :
  jv_At jv_T jv_ml kY_begins 0 [jv_P 136, jv_I v1] [] (LL n l) g Q :=
  jv_of_wp (gok9 (A := A)) (md := [7, 9]) (stop := []) (tab := jt_Y_begins) rfl 400 _ _ _ _ _ h
set_option maxRecDepth 100000 in
theorem sg_X_fail_0 {A : jA} {n l : Nat} {g : jv_S} {Q : jv_V → jv_L → jv_S → Prop} {v1 : Int} (h :
   jv_r32 ((-10 : Int) - v1) ∧
    Q (jv_I ((-10 : Int) - v1)) (LL n l) (jv_up g 1 11 v1)) :
  jv_At jv_T jv_ml kX_fail 0 [jv_P 1, jv_I v1] [] (LL n l) g Q :=
  jv_of_wp (gok9 (A := A)) (md := []) (stop := []) (tab := jt_X_fail) rfl 400 _ _ _ _ _ h
set_option maxRecDepth 100000 in
theorem sg_Y_fails_0 {A : jA} {n l : Nat} {g : jv_S} {Q : jv_V → jv_L → jv_S → Prop} {v1 : Int} (h :
   jv_r32 ((-10 : Int) - v1) ∧
    Q (jv_I ((-10 : Int) - v1)) (LL n l) (jv_up g 136 0 v1)) :
  jv_At jv_T jv_ml kY_fails 0 [jv_P 136, jv_I v1] [] (LL n l) g Q :=
  jv_of_wp (gok9 (A := A)) (md := []) (stop := []) (tab := jt_Y_fails) rfl 400 _ _ _ _ _ h
set_option maxRecDepth 100000 in
theorem sg_X_lost_0 {A : jA} {n l : Nat} {g : jv_S} {Q : jv_V → jv_L → jv_S → Prop} {v1 : Int} (h :
   Q (jv_J (-9223372036854775808 : Int)) (LL n l) (jv_up g 1 11 v1)) :
  jv_At jv_T jv_ml kX_lost 0 [jv_P 1, jv_I v1] [] (LL n l) g Q :=
  jv_of_wp (gok9 (A := A)) (md := []) (stop := []) (tab := jt_X_lost) rfl 400 _ _ _ _ _ h
set_option maxRecDepth 100000 in
theorem sg_Y_lost_0 {A : jA} {n l : Nat} {g : jv_S} {Q : jv_V → jv_L → jv_S → Prop} {v1 : Int} (h :
   Q (jv_J (-9223372036854775808 : Int)) (LL n l) (jv_up g 136 0 v1)) :
  jv_At jv_T jv_ml kY_lost 0 [jv_P 136, jv_I v1] [] (LL n l) g Q :=
  jv_of_wp (gok9 (A := A)) (md := []) (stop := []) (tab := jt_Y_lost) rfl 400 _ _ _ _ _ h
set_option maxRecDepth 100000 in
theorem sg_X_plainTelling_0 {A : jA} {n l : Nat} {g : jv_S} {Q : jv_V → jv_L → jv_S → Prop} {v1 : Int} (h :
   jv_Ca jv_T jv_ml kX_leave [jv_P 1, jv_I (1 : Int)] (LL n l) g (fun r L2 g2 => jv_At jv_T jv_ml kX_plainTelling 5 [jv_P 1, jv_D v1] (jv_pu r []) L2 g2 Q)) :
  jv_At jv_T jv_ml kX_plainTelling 0 [jv_P 1, jv_D v1] [] (LL n l) g Q :=
  jv_of_wp (gok9 (A := A)) (md := []) (stop := []) (tab := jt_X_plainTelling) rfl 400 _ _ _ _ _ h
set_option maxRecDepth 100000 in
theorem sg_X_plainTelling_5 {A : jA} {n l : Nat} {g : jv_S} {Q : jv_V → jv_L → jv_S → Prop} {v1 : Int} (h :
   (0 < v1 ∧ (LL n l)[(v1 - 1).toNat]? = some (11, 8, [])) ∧
    jv_r32 ((10 : Int) * (g 1000 (8 * v1 + 2))) ∧
    (0 < v1 ∧ (LL n l)[(v1 - 1).toNat]? = some (11, 8, [])) ∧
    jv_r32 (((10 : Int) * (g 1000 (8 * v1 + 2))) + (g 1000 (8 * v1 + 3))) ∧
    Q (jv_I (((10 : Int) * (g 1000 (8 * v1 + 2))) + (g 1000 (8 * v1 + 3)))) (LL n l) g) :
  jv_At jv_T jv_ml kX_plainTelling 5 [jv_P 1, jv_D v1] [] (LL n l) g Q :=
  jv_of_wp (gok9 (A := A)) (md := []) (stop := []) (tab := jt_X_plainTelling) rfl 400 _ _ _ _ _ h
set_option maxRecDepth 100000 in
theorem sg_X_hastyTelling_0 {A : jA} {n l : Nat} {g : jv_S} {Q : jv_V → jv_L → jv_S → Prop} {v1 : Int} (h :
   jv_Ca jv_T jv_ml kX_leave [jv_P 1, jv_I (2 : Int)] (LL n l) g (fun r L2 g2 => jv_At jv_T jv_ml kX_hastyTelling 5 [jv_P 1, jv_D v1] (jv_pu r []) L2 g2 Q)) :
  jv_At jv_T jv_ml kX_hastyTelling 0 [jv_P 1, jv_D v1] [] (LL n l) g Q :=
  jv_of_wp (gok9 (A := A)) (md := []) (stop := []) (tab := jt_X_hastyTelling) rfl 400 _ _ _ _ _ h
set_option maxRecDepth 100000 in
theorem sg_X_hastyTelling_5 {A : jA} {n l : Nat} {g : jv_S} {Q : jv_V → jv_L → jv_S → Prop} {v1 : Int} (h :
   jv_Ca jv_T jv_ml kX_plainTelling [jv_P 1, jv_D v1] (LL n l) g (fun r L2 g2 => jv_At jv_T jv_ml kX_hastyTelling 10 [jv_P 1, jv_D v1] (jv_pu r []) L2 g2 Q)) :
  jv_At jv_T jv_ml kX_hastyTelling 5 [jv_P 1, jv_D v1] [] (LL n l) g Q :=
  jv_of_wp (gok9 (A := A)) (md := []) (stop := []) (tab := jt_X_hastyTelling) rfl 400 _ _ _ _ _ h
set_option maxRecDepth 100000 in
theorem sg_X_hastyTelling_10 {A : jA} {n l : Nat} {g : jv_S} {Q : jv_V → jv_L → jv_S → Prop} {v1 s0 : Int} (h :
   jv_r32 (s0 + (100 : Int)) ∧
    Q (jv_I (s0 + (100 : Int))) (LL n l) g) :
  jv_At jv_T jv_ml kX_hastyTelling 10 [jv_P 1, jv_D v1] [jv_I s0] (LL n l) g Q :=
  jv_of_wp (gok9 (A := A)) (md := []) (stop := []) (tab := jt_X_hastyTelling) rfl 400 _ _ _ _ _ h
set_option maxRecDepth 100000 in
theorem sg_X_sealedTelling_0 {A : jA} {n l : Nat} {g : jv_S} {Q : jv_V → jv_L → jv_S → Prop} {v1 : Int} (h :
   jv_Ca jv_T jv_ml kX_leave [jv_P 1, jv_I (3 : Int)] (LL n l) g (fun r L2 g2 => jv_At jv_T jv_ml kX_sealedTelling 5 [jv_P 1, jv_D v1, jv_U] (jv_pu r []) L2 g2 Q)) :
  jv_At jv_T jv_ml kX_sealedTelling 0 [jv_P 1, jv_D v1, jv_U] [] (LL n l) g Q :=
  jv_of_wp (gok9 (A := A)) (md := []) (stop := []) (tab := jt_X_sealedTelling) rfl 400 _ _ _ _ _ h
set_option maxRecDepth 100000 in
theorem sg_X_sealedTelling_5 {A : jA} {n l : Nat} {g : jv_S} {Q : jv_V → jv_L → jv_S → Prop} {v1 : Int} {v2 : jv_V} (h :
   jv_Ca jv_T jv_ml kX_hastyTelling [jv_P 1, jv_D v1] (LL n l) g (fun r L2 g2 => jv_At jv_T jv_ml kX_sealedTelling 10 [jv_P 1, jv_D v1, v2] (jv_pu r []) L2 g2 Q)) :
  jv_At jv_T jv_ml kX_sealedTelling 5 [jv_P 1, jv_D v1, v2] [] (LL n l) g Q :=
  jv_of_wp (gok9 (A := A)) (md := []) (stop := []) (tab := jt_X_sealedTelling) rfl 400 _ _ _ _ _ h
set_option maxRecDepth 100000 in
theorem sg_X_sealedTelling_10 {A : jA} {n l : Nat} {g : jv_S} {Q : jv_V → jv_L → jv_S → Prop} {v1 s0 : Int} {v2 : jv_V} (h :
   jv_Ca jv_T jv_ml kX_plainTelling [jv_P 1, jv_D v1] (LL n l) g (fun r L2 g2 => jv_At jv_T jv_ml kX_sealedTelling 17 [jv_P 1, jv_D v1, jv_I s0] (jv_pu r [jv_I s0]) L2 g2 Q)) :
  jv_At jv_T jv_ml kX_sealedTelling 10 [jv_P 1, jv_D v1, v2] [jv_I s0] (LL n l) g Q :=
  jv_of_wp (gok9 (A := A)) (md := []) (stop := []) (tab := jt_X_sealedTelling) rfl 400 _ _ _ _ _ h
set_option maxRecDepth 100000 in
theorem sg_X_sealedTelling_17 {A : jA} {n l : Nat} {g : jv_S} {Q : jv_V → jv_L → jv_S → Prop} {v1 v2 s0 s1 : Int} (h :
   jv_r32 (s0 + s1) ∧
    Q (jv_I (s0 + s1)) (LL n l) g) :
  jv_At jv_T jv_ml kX_sealedTelling 17 [jv_P 1, jv_D v1, jv_I v2] [jv_I s1, jv_I s0] (LL n l) g Q :=
  jv_of_wp (gok9 (A := A)) (md := []) (stop := []) (tab := jt_X_sealedTelling) rfl 400 _ _ _ _ _ h
set_option maxRecDepth 100000 in
theorem sg_X_lentStamp_0 {A : jA} {n l : Nat} {g : jv_S} {Q : jv_V → jv_L → jv_S → Prop} {v1 : Int} (h :
   jv_Ca jv_T jv_ml kX_leave [jv_P 1, jv_I (4 : Int)] (LL n l) g (fun r L2 g2 => jv_At jv_T jv_ml kX_lentStamp 5 [jv_P 1, jv_D v1] (jv_pu r []) L2 g2 Q)) :
  jv_At jv_T jv_ml kX_lentStamp 0 [jv_P 1, jv_D v1] [] (LL n l) g Q :=
  jv_of_wp (gok9 (A := A)) (md := []) (stop := []) (tab := jt_X_lentStamp) rfl 400 _ _ _ _ _ h
set_option maxRecDepth 100000 in
theorem sg_X_lentStamp_5 {A : jA} {n l : Nat} {g : jv_S} {Q : jv_V → jv_L → jv_S → Prop} {v1 : Int} (h :
   (0 < v1 ∧ (LL n l)[(v1 - 1).toNat]? = some (11, 8, [])) ∧
    Q (jv_I (g 1000 (8 * v1 + 0))) (LL n l) g) :
  jv_At jv_T jv_ml kX_lentStamp 5 [jv_P 1, jv_D v1] [] (LL n l) g Q :=
  jv_of_wp (gok9 (A := A)) (md := []) (stop := []) (tab := jt_X_lentStamp) rfl 400 _ _ _ _ _ h
set_option maxRecDepth 100000 in
theorem sg_X_ownStamp_0 {A : jA} {n l : Nat} {g : jv_S} {Q : jv_V → jv_L → jv_S → Prop} (h :
   jv_Ca jv_T jv_ml kX_leave [jv_P 1, jv_I (5 : Int)] (LL n l) g (fun r L2 g2 => jv_At jv_T jv_ml kX_ownStamp 5 [jv_P 1] (jv_pu r []) L2 g2 Q)) :
  jv_At jv_T jv_ml kX_ownStamp 0 [jv_P 1] [] (LL n l) g Q :=
  jv_of_wp (gok9 (A := A)) (md := []) (stop := []) (tab := jt_X_ownStamp) rfl 400 _ _ _ _ _ h
set_option maxRecDepth 100000 in
theorem sg_X_ownStamp_5 {A : jA} {n l : Nat} {g : jv_S} {Q : jv_V → jv_L → jv_S → Prop} (h :
   Q (jv_I (90 : Int)) (LL n l) g) :
  jv_At jv_T jv_ml kX_ownStamp 5 [jv_P 1] [] (LL n l) g Q :=
  jv_of_wp (gok9 (A := A)) (md := []) (stop := []) (tab := jt_X_ownStamp) rfl 400 _ _ _ _ _ h
set_option maxRecDepth 100000 in
theorem sg_X_tell_0 {A : jA} {n l : Nat} {g : jv_S} {Q : jv_V → jv_L → jv_S → Prop} {v1 : Int} (h :
   jv_Ca jv_T jv_ml kTr_numbered [jv_P 87, jv_I v1] (LL n l) g (fun r L2 g2 => jv_At jv_T jv_ml kX_tell 8 [jv_P 1, jv_I v1, jv_U] (jv_pu r []) L2 g2 Q)) :
  jv_At jv_T jv_ml kX_tell 0 [jv_P 1, jv_I v1, jv_U] [] (LL n l) g Q :=
  jv_of_wp (gok9 (A := A)) (md := []) (stop := []) (tab := jt_X_tell) rfl 400 _ _ _ _ _ h
set_option maxRecDepth 100000 in
theorem sg_X_tell_8 {A : jA} {n l : Nat} {g : jv_S} {Q : jv_V → jv_L → jv_S → Prop} {v1 s0 : Int} {v2 : jv_V} (h :
   (s0 = 0 →
     Q (jv_I (-1 : Int)) (LL n l) g) ∧
    (¬ s0 = 0 →
     (0 < s0 ∧ (LL n l)[(s0 - 1).toNat]? = some (11, 8, [])) ∧
      ((g 1000 (8 * s0 + 1)) = (2 : Int) →
       jv_Ca jv_T jv_ml kX_sealedTelling [jv_P 1, jv_D s0] (LL n l) g (fun r L2 g2 => jv_At jv_T jv_ml kX_tell 28 [jv_P 1, jv_I v1, jv_D s0] (jv_pu r []) L2 g2 Q)) ∧
      (¬ (g 1000 (8 * s0 + 1)) = (2 : Int) →
       (0 < s0 ∧ (LL n l)[(s0 - 1).toNat]? = some (11, 8, [])) ∧
        ((g 1000 (8 * s0 + 1)) = (1 : Int) →
         jv_Ca jv_T jv_ml kX_hastyTelling [jv_P 1, jv_D s0] (LL n l) g (fun r L2 g2 => jv_At jv_T jv_ml kX_tell 42 [jv_P 1, jv_I v1, jv_D s0] (jv_pu r []) L2 g2 Q)) ∧
        (¬ (g 1000 (8 * s0 + 1)) = (1 : Int) →
         jv_Ca jv_T jv_ml kX_plainTelling [jv_P 1, jv_D s0] (LL n l) g (fun r L2 g2 => jv_At jv_T jv_ml kX_tell 50 [jv_P 1, jv_I v1, jv_D s0] (jv_pu r []) L2 g2 Q))))) :
  jv_At jv_T jv_ml kX_tell 8 [jv_P 1, jv_I v1, v2] [jv_D s0] (LL n l) g Q :=
  jv_of_wp (gok9 (A := A)) (md := []) (stop := []) (tab := jt_X_tell) rfl 400 _ _ _ _ _ h
set_option maxRecDepth 100000 in
theorem sg_X_tell_28 {A : jA} {n l : Nat} {g : jv_S} {Q : jv_V → jv_L → jv_S → Prop} {v1 v2 s0 : Int} (h :
   Q (jv_I s0) (LL n l) g) :
  jv_At jv_T jv_ml kX_tell 28 [jv_P 1, jv_I v1, jv_D v2] [jv_I s0] (LL n l) g Q :=
  jv_of_wp (gok9 (A := A)) (md := []) (stop := []) (tab := jt_X_tell) rfl 400 _ _ _ _ _ h
set_option maxRecDepth 100000 in
theorem sg_X_tell_42 {A : jA} {n l : Nat} {g : jv_S} {Q : jv_V → jv_L → jv_S → Prop} {v1 v2 s0 : Int} (h :
   Q (jv_I s0) (LL n l) g) :
  jv_At jv_T jv_ml kX_tell 42 [jv_P 1, jv_I v1, jv_D v2] [jv_I s0] (LL n l) g Q :=
  jv_of_wp (gok9 (A := A)) (md := []) (stop := []) (tab := jt_X_tell) rfl 400 _ _ _ _ _ h
set_option maxRecDepth 100000 in
theorem sg_X_tell_50 {A : jA} {n l : Nat} {g : jv_S} {Q : jv_V → jv_L → jv_S → Prop} {v1 v2 s0 : Int} (h :
   Q (jv_I s0) (LL n l) g) :
  jv_At jv_T jv_ml kX_tell 50 [jv_P 1, jv_I v1, jv_D v2] [jv_I s0] (LL n l) g Q :=
  jv_of_wp (gok9 (A := A)) (md := []) (stop := []) (tab := jt_X_tell) rfl 400 _ _ _ _ _ h
set_option maxRecDepth 100000 in
theorem sg_Y_tell_0 {A : jA} {n l : Nat} {g : jv_S} {Q : jv_V → jv_L → jv_S → Prop} {v1 : Int} (h :
   ((136 = 136) ∧ (LLx (LL n l)) ∧ (True)) ∧
    ((jb_p (0 ≤ v1 ∧ v1 < g 136 27)) = 0 →
     Q (jv_I (-1 : Int)) (LL n l) g) ∧
    (¬ (jb_p (0 ≤ v1 ∧ v1 < g 136 27)) = 0 →
     (0 ≤ v1 ∧ v1 < 30) ∧
      jv_r32 ((10 : Int) * (g 156 v1)) ∧
      (0 ≤ v1 ∧ v1 < 30) ∧
      jv_r32 (((10 : Int) * (g 156 v1)) + (g 157 v1)) ∧
      (0 ≤ v1 ∧ v1 < 30) ∧
      ((g 155 v1) = (1 : Int) →
       jv_Ca jv_T jv_ml kY_begins [jv_P 136, jv_I (2 : Int)] (LL n l) g (fun r L2 g2 => jv_At jv_T jv_ml kY_tell 65 [jv_P 136, jv_I v1, jv_I (((10 : Int) * (g 156 v1)) + (g 157 v1))] (jv_pu r []) L2 g2 Q)) ∧
      (¬ (g 155 v1) = (1 : Int) →
       ((g 155 v1) = (2 : Int) →
         jv_Ca jv_T jv_ml kY_begins [jv_P 136, jv_I (3 : Int)] (LL n l) g (fun r L2 g2 => jv_At jv_T jv_ml kY_tell 80 [jv_P 136, jv_I v1, jv_I (((10 : Int) * (g 156 v1)) + (g 157 v1))] (jv_pu r []) L2 g2 Q)) ∧
        (¬ (g 155 v1) = (2 : Int) →
         jv_Ca jv_T jv_ml kY_begins [jv_P 136, jv_I (1 : Int)] (LL n l) g (fun r L2 g2 => jv_At jv_T jv_ml kY_tell 107 [jv_P 136, jv_I v1, jv_I (((10 : Int) * (g 156 v1)) + (g 157 v1))] (jv_pu r []) L2 g2 Q))))) :
  jv_At jv_T jv_ml kY_tell 0 [jv_P 136, jv_I v1, jv_U] [] (LL n l) g Q :=
  jv_of_wp (gok9 (A := A)) (md := []) (stop := []) (tab := jt_Y_tell) rfl 400 _ _ _ _ _ h
set_option maxRecDepth 100000 in
theorem sg_Y_tell_65 {A : jA} {n l : Nat} {g : jv_S} {Q : jv_V → jv_L → jv_S → Prop} {v1 v2 : Int} (h :
   jv_Ca jv_T jv_ml kY_begins [jv_P 136, jv_I (1 : Int)] (LL n l) g (fun r L2 g2 => jv_At jv_T jv_ml kY_tell 70 [jv_P 136, jv_I v1, jv_I v2] (jv_pu r []) L2 g2 Q)) :
  jv_At jv_T jv_ml kY_tell 65 [jv_P 136, jv_I v1, jv_I v2] [] (LL n l) g Q :=
  jv_of_wp (gok9 (A := A)) (md := []) (stop := []) (tab := jt_Y_tell) rfl 400 _ _ _ _ _ h
set_option maxRecDepth 100000 in
theorem sg_Y_tell_70 {A : jA} {n l : Nat} {g : jv_S} {Q : jv_V → jv_L → jv_S → Prop} {v1 v2 : Int} (h :
   jv_r32 (v2 + (100 : Int)) ∧
    Q (jv_I (v2 + (100 : Int))) (LL n l) g) :
  jv_At jv_T jv_ml kY_tell 70 [jv_P 136, jv_I v1, jv_I v2] [] (LL n l) g Q :=
  jv_of_wp (gok9 (A := A)) (md := []) (stop := []) (tab := jt_Y_tell) rfl 400 _ _ _ _ _ h
set_option maxRecDepth 100000 in
theorem sg_Y_tell_80 {A : jA} {n l : Nat} {g : jv_S} {Q : jv_V → jv_L → jv_S → Prop} {v1 v2 : Int} (h :
   jv_Ca jv_T jv_ml kY_begins [jv_P 136, jv_I (2 : Int)] (LL n l) g (fun r L2 g2 => jv_At jv_T jv_ml kY_tell 85 [jv_P 136, jv_I v1, jv_I v2] (jv_pu r []) L2 g2 Q)) :
  jv_At jv_T jv_ml kY_tell 80 [jv_P 136, jv_I v1, jv_I v2] [] (LL n l) g Q :=
  jv_of_wp (gok9 (A := A)) (md := []) (stop := []) (tab := jt_Y_tell) rfl 400 _ _ _ _ _ h
set_option maxRecDepth 100000 in
theorem sg_Y_tell_85 {A : jA} {n l : Nat} {g : jv_S} {Q : jv_V → jv_L → jv_S → Prop} {v1 v2 : Int} (h :
   jv_Ca jv_T jv_ml kY_begins [jv_P 136, jv_I (1 : Int)] (LL n l) g (fun r L2 g2 => jv_At jv_T jv_ml kY_tell 90 [jv_P 136, jv_I v1, jv_I v2] (jv_pu r []) L2 g2 Q)) :
  jv_At jv_T jv_ml kY_tell 85 [jv_P 136, jv_I v1, jv_I v2] [] (LL n l) g Q :=
  jv_of_wp (gok9 (A := A)) (md := []) (stop := []) (tab := jt_Y_tell) rfl 400 _ _ _ _ _ h
set_option maxRecDepth 100000 in
theorem sg_Y_tell_90 {A : jA} {n l : Nat} {g : jv_S} {Q : jv_V → jv_L → jv_S → Prop} {v1 v2 : Int} (h :
   jv_Ca jv_T jv_ml kY_begins [jv_P 136, jv_I (1 : Int)] (LL n l) g (fun r L2 g2 => jv_At jv_T jv_ml kY_tell 95 [jv_P 136, jv_I v1, jv_I v2] (jv_pu r []) L2 g2 Q)) :
  jv_At jv_T jv_ml kY_tell 90 [jv_P 136, jv_I v1, jv_I v2] [] (LL n l) g Q :=
  jv_of_wp (gok9 (A := A)) (md := []) (stop := []) (tab := jt_Y_tell) rfl 400 _ _ _ _ _ h
set_option maxRecDepth 100000 in
theorem sg_Y_tell_95 {A : jA} {n l : Nat} {g : jv_S} {Q : jv_V → jv_L → jv_S → Prop} {v1 v2 : Int} (h :
   jv_r32 ((2 : Int) * v2) ∧
    jv_r32 (((2 : Int) * v2) + (100 : Int)) ∧
    Q (jv_I (((2 : Int) * v2) + (100 : Int))) (LL n l) g) :
  jv_At jv_T jv_ml kY_tell 95 [jv_P 136, jv_I v1, jv_I v2] [] (LL n l) g Q :=
  jv_of_wp (gok9 (A := A)) (md := []) (stop := []) (tab := jt_Y_tell) rfl 400 _ _ _ _ _ h
set_option maxRecDepth 100000 in
theorem sg_Y_tell_107 {A : jA} {n l : Nat} {g : jv_S} {Q : jv_V → jv_L → jv_S → Prop} {v1 v2 : Int} (h :
   Q (jv_I v2) (LL n l) g) :
  jv_At jv_T jv_ml kY_tell 107 [jv_P 136, jv_I v1, jv_I v2] [] (LL n l) g Q :=
  jv_of_wp (gok9 (A := A)) (md := []) (stop := []) (tab := jt_Y_tell) rfl 400 _ _ _ _ _ h
set_option maxRecDepth 100000 in
theorem sg_X_stamp_0 {A : jA} {n l : Nat} {g : jv_S} {Q : jv_V → jv_L → jv_S → Prop} {v1 : Int} (h :
   jv_Ca jv_T jv_ml kTr_numbered [jv_P 87, jv_I v1] (LL n l) g (fun r L2 g2 => jv_At jv_T jv_ml kX_stamp 8 [jv_P 1, jv_I v1, jv_U] (jv_pu r []) L2 g2 Q)) :
  jv_At jv_T jv_ml kX_stamp 0 [jv_P 1, jv_I v1, jv_U] [] (LL n l) g Q :=
  jv_of_wp (gok9 (A := A)) (md := []) (stop := []) (tab := jt_X_stamp) rfl 400 _ _ _ _ _ h
set_option maxRecDepth 100000 in
theorem sg_X_stamp_8 {A : jA} {n l : Nat} {g : jv_S} {Q : jv_V → jv_L → jv_S → Prop} {v1 s0 : Int} {v2 : jv_V} (h :
   (s0 = 0 →
     Q (jv_I (-1 : Int)) (LL n l) g) ∧
    (¬ s0 = 0 →
     (0 < s0 ∧ (LL n l)[(s0 - 1).toNat]? = some (11, 8, [])) ∧
      ((g 1000 (8 * s0 + 1)) = (2 : Int) →
       jv_Ca jv_T jv_ml kX_ownStamp [jv_P 1] (LL n l) g (fun r L2 g2 => jv_At jv_T jv_ml kX_stamp 27 [jv_P 1, jv_I v1, jv_D s0] (jv_pu r []) L2 g2 Q)) ∧
      (¬ (g 1000 (8 * s0 + 1)) = (2 : Int) →
       jv_Ca jv_T jv_ml kX_lentStamp [jv_P 1, jv_D s0] (LL n l) g (fun r L2 g2 => jv_At jv_T jv_ml kX_stamp 35 [jv_P 1, jv_I v1, jv_D s0] (jv_pu r []) L2 g2 Q)))) :
  jv_At jv_T jv_ml kX_stamp 8 [jv_P 1, jv_I v1, v2] [jv_D s0] (LL n l) g Q :=
  jv_of_wp (gok9 (A := A)) (md := []) (stop := []) (tab := jt_X_stamp) rfl 400 _ _ _ _ _ h
set_option maxRecDepth 100000 in
theorem sg_X_stamp_27 {A : jA} {n l : Nat} {g : jv_S} {Q : jv_V → jv_L → jv_S → Prop} {v1 v2 s0 : Int} (h :
   Q (jv_I s0) (LL n l) g) :
  jv_At jv_T jv_ml kX_stamp 27 [jv_P 1, jv_I v1, jv_D v2] [jv_I s0] (LL n l) g Q :=
  jv_of_wp (gok9 (A := A)) (md := []) (stop := []) (tab := jt_X_stamp) rfl 400 _ _ _ _ _ h
set_option maxRecDepth 100000 in
theorem sg_X_stamp_35 {A : jA} {n l : Nat} {g : jv_S} {Q : jv_V → jv_L → jv_S → Prop} {v1 v2 s0 : Int} (h :
   Q (jv_I s0) (LL n l) g) :
  jv_At jv_T jv_ml kX_stamp 35 [jv_P 1, jv_I v1, jv_D v2] [jv_I s0] (LL n l) g Q :=
  jv_of_wp (gok9 (A := A)) (md := []) (stop := []) (tab := jt_X_stamp) rfl 400 _ _ _ _ _ h
set_option maxRecDepth 100000 in
theorem sg_Y_stamp_0 {A : jA} {n l : Nat} {g : jv_S} {Q : jv_V → jv_L → jv_S → Prop} {v1 : Int} (h :
   ((136 = 136) ∧ (LLx (LL n l)) ∧ (True)) ∧
    ((jb_p (0 ≤ v1 ∧ v1 < g 136 27)) = 0 →
     Q (jv_I (-1 : Int)) (LL n l) g) ∧
    (¬ (jb_p (0 ≤ v1 ∧ v1 < g 136 27)) = 0 →
     (0 ≤ v1 ∧ v1 < 30) ∧
      ((g 155 v1) = (2 : Int) →
       jv_Ca jv_T jv_ml kY_begins [jv_P 136, jv_I (5 : Int)] (LL n l) g (fun r L2 g2 => jv_At jv_T jv_ml kY_stamp 29 [jv_P 136, jv_I v1] (jv_pu r []) L2 g2 Q)) ∧
      (¬ (g 155 v1) = (2 : Int) →
       jv_Ca jv_T jv_ml kY_begins [jv_P 136, jv_I (4 : Int)] (LL n l) g (fun r L2 g2 => jv_At jv_T jv_ml kY_stamp 29 [jv_P 136, jv_I v1] (jv_pu r []) L2 g2 Q)))) :
  jv_At jv_T jv_ml kY_stamp 0 [jv_P 136, jv_I v1] [] (LL n l) g Q :=
  jv_of_wp (gok9 (A := A)) (md := []) (stop := []) (tab := jt_Y_stamp) rfl 400 _ _ _ _ _ h
set_option maxRecDepth 100000 in
theorem sg_Y_stamp_29 {A : jA} {n l : Nat} {g : jv_S} {Q : jv_V → jv_L → jv_S → Prop} {v1 : Int} (h :
   (0 ≤ v1 ∧ v1 < 30) ∧
    ((g 155 v1) = (2 : Int) →
     Q (jv_I (90 : Int)) (LL n l) g) ∧
    (¬ (g 155 v1) = (2 : Int) →
     Q (jv_I v1) (LL n l) g)) :
  jv_At jv_T jv_ml kY_stamp 29 [jv_P 136, jv_I v1] [] (LL n l) g Q :=
  jv_of_wp (gok9 (A := A)) (md := []) (stop := []) (tab := jt_Y_stamp) rfl 400 _ _ _ _ _ h
section
variable {A : jA} {B S : jB} {tr fl rb : Int} {n l t : Nat} {g : jv_S} {Q : jv_V → jv_L → jv_S → Prop}
theorem tr_X_leave {k : Int} (h : IC A B S tr fl rb l t g) (hQ : ∀ g', IC A B S (lv tr k) fl rb l t g' → kC g g' → Q jv_U (LL n l) g') : jv_Ca jv_T jv_ml kX_leave [jv_P 1, jv_I k] (LL n l) g Q := by
  apply sg_X_leave_0 (A := A)
  have := hQ _ (IC_l h (lv tr k)) (kC_1 _ _)
  rw [h.2.2.2.2.2.2.1.1]
  exact this
theorem tr_Y_begins {k : Int} (h : IM A B S tr fl g) (hQ : ∀ g', IM A B S (lv tr k) fl g' → kM g g' → Q jv_U (LL n l) g') : jv_Ca jv_T jv_ml kY_begins [jv_P 136, jv_I k] (LL n l) g Q := by
  apply sg_Y_begins_0 (A := A)
  have := hQ _ (IM_l h (lv tr k)) (kM_u _ _ (by omega) (by omega))
  rw [h.2.2.2.1]
  exact this
theorem tr_X_fail {k a : Int} (h : IC A B S tr fl rb l t g) (hk : 0 ≤ k ∧ k ≤ 9) (ha : a = -10 - k) (hQ : ∀ g', IC A B S tr k rb l t g' → kC g g' → Q (jv_I a) (LL n l) g') : jv_Ca jv_T jv_ml kX_fail [jv_P 1, jv_I k] (LL n l) g Q := by
  apply sg_X_fail_0 (A := A)
  exact ⟨⟨by omega, by omega⟩, qv (hQ _ (IC_f h k) (kC_1 _ _)) ha⟩
theorem tr_Y_fails {k a : Int} (h : IM A B S tr fl g) (hk : 0 ≤ k ∧ k ≤ 9) (ha : a = -10 - k) (hQ : ∀ g', IM A B S tr k g' → kM g g' → Q (jv_I a) (LL n l) g') : jv_Ca jv_T jv_ml kY_fails [jv_P 136, jv_I k] (LL n l) g Q := by
  apply sg_Y_fails_0 (A := A)
  exact ⟨⟨by omega, by omega⟩, qv (hQ _ (IM_f h k) (kM_u _ _ (by omega) (by omega))) ha⟩
theorem tr_X_lost {k : Int} (h : IC A B S tr fl rb l t g) (hQ : ∀ g', IC A B S tr k rb l t g' → kC g g' → Q (jv_J (-9223372036854775808)) (LL n l) g') : jv_Ca jv_T jv_ml kX_lost [jv_P 1, jv_I k] (LL n l) g Q := by
  apply sg_X_lost_0 (A := A)
  exact hQ _ (IC_f h k) (kC_1 _ _)
theorem tr_Y_lost {k : Int} (h : IM A B S tr fl g) (hQ : ∀ g', IM A B S tr k g' → kM g g' → Q (jv_J (-9223372036854775808)) (LL n l) g') : jv_Ca jv_T jv_ml kY_lost [jv_P 136, jv_I k] (LL n l) g Q := by
  apply sg_Y_lost_0 (A := A)
  exact hQ _ (IM_f h k) (kM_u _ _ (by omega) (by omega))
theorem tr_X_plain {i : Nat} (hB' : BW A B) (h : IC A B S tr fl rb l t g) (hi : (i : Int) < B 0 0) (hQ : ∀ g', IC A B S (lv tr 1) fl rb l t g' → kC g g' → Q (jv_I (10 * B 2 i + B 3 i)) (LL n l) g') : jv_Ca jv_T jv_ml kX_plainTelling [jv_P 1, jv_D (rb + i)] (LL n l) g Q := by
  have b5 := hB'.2.2.2.2 i hi
  have w1 := h.1.1.1
  apply sg_X_plainTelling_0 (A := A)
  refine tr_X_leave h (fun g1 a1 a2 => ?_)
  apply sg_X_plainTelling_5 (A := A)
  obtain ⟨-, -, r1, r2, r3, -⟩ := a1.2.2.2.2.1.2.2.2.2 i hi
  have gq := TC_get (n := n) a1.2.2.2.2.1 hi
  rw [r2, r3]
  exact ⟨gq, ⟨by omega, by omega⟩, gq, ⟨by omega, by omega⟩, hQ g1 a1 a2⟩
theorem tr_X_hasty {i : Nat} (hB' : BW A B) (h : IC A B S tr fl rb l t g) (hi : (i : Int) < B 0 0) (hQ : ∀ g', IC A B S (lv (lv tr 2) 1) fl rb l t g' → kC g g' → Q (jv_I (10 * B 2 i + B 3 i + 100)) (LL n l) g') : jv_Ca jv_T jv_ml kX_hastyTelling [jv_P 1, jv_D (rb + i)] (LL n l) g Q := by
  have b5 := hB'.2.2.2.2 i hi
  have w1 := h.1.1.1
  apply sg_X_hastyTelling_0 (A := A)
  refine tr_X_leave h (fun g1 a1 a2 => ?_)
  apply sg_X_hastyTelling_5 (A := A)
  refine tr_X_plain hB' a1 hi (fun g2 b1 b2 => ?_)
  apply sg_X_hastyTelling_10 (A := A)
  exact ⟨⟨by omega, by omega⟩, hQ g2 b1 (kC_t a2 b2)⟩
theorem tr_X_sealed {i : Nat} (hB' : BW A B) (h : IC A B S tr fl rb l t g) (hi : (i : Int) < B 0 0) (hQ : ∀ g', IC A B S (lv (lv (lv (lv tr 3) 2) 1) 1) fl rb l t g' → kC g g' → Q (jv_I (2 * (10 * B 2 i + B 3 i) + 100)) (LL n l) g') : jv_Ca jv_T jv_ml kX_sealedTelling [jv_P 1, jv_D (rb + i)] (LL n l) g Q := by
  have b5 := hB'.2.2.2.2 i hi
  have w1 := h.1.1.1
  apply sg_X_sealedTelling_0 (A := A)
  refine tr_X_leave h (fun g1 a1 a2 => ?_)
  apply sg_X_sealedTelling_5 (A := A)
  refine tr_X_hasty hB' a1 hi (fun g2 b1 b2 => ?_)
  apply sg_X_sealedTelling_10 (A := A)
  refine tr_X_plain hB' b1 hi (fun g3 c1 c2 => ?_)
  apply sg_X_sealedTelling_17 (A := A)
  exact ⟨⟨by omega, by omega⟩, qv (hQ g3 c1 (kC_t a2 (kC_t b2 c2))) (by omega)⟩
end
/-- what tell answers, the trace after it -/
def an_tell (B : jB) (i tr : Int) : Int × Int := if ¬ (0 ≤ i ∧ i < B 0 0) then (-1, tr) else if B 1 i.toNat = 2 then (2 * (10 * B 2 i.toNat + B 3 i.toNat) + 100, lv (lv (lv (lv tr 3) 2) 1) 1) else if B 1 i.toNat = 1 then (10 * B 2 i.toNat + B 3 i.toNat + 100, lv (lv tr 2) 1) else (10 * B 2 i.toNat + B 3 i.toNat, lv tr 1)
theorem st_tell {s : Int → Int} {n l t : Nat} {g : jv_S} {i : Int} (h : IV s l t g) (ht : t < 64) : CI s n t kX_tell kY_tell [jv_I i] l g := by
  obtain ⟨h0, A, B, S, tr, fl, rb, hP, hC, hM⟩ := h
  have hB' := hP.1
  refine CI_o (S := S) (S' := S) (fl := fl) (fl' := fl) (v := (an_tell B i tr).1) (tr' := (an_tell B i tr).2) h0 ht hP hM hP.2.2.2.2.2.1 ?_ (fun g1 hM1 => ?_)
  · apply sg_X_tell_0 (A := A)
    refine tr_Tr_numb hB' hC.2.2.2.2.1 (fun h => ?_) (fun k hk h => ?_)
    · apply sg_X_tell_8 (A := A)
      refine ⟨fun _ => ?_, fun h' => absurd rfl h'⟩
      unfold an_tell
      rw [if_pos h]
      exact ⟨rfl, rfl, hC, kC_r g⟩
    · subst hk
      apply sg_X_tell_8 (A := A)
      have t4 := hC.2.2.2.2.1.2.2.2.1
      have gq := TC_get (n := n) hC.2.2.2.2.1 h
      rw [(hC.2.2.2.2.1.2.2.2.2 k h).2.2.1]
      unfold an_tell
      rw [if_neg (fun h' => h' ⟨by omega, h⟩), Int.toNat_natCast]
      refine ⟨fun h' => by omega, fun _ => ⟨gq, fun e => ?_, fun e => ⟨gq, fun e2 => ?_, fun e2 => ?_⟩⟩⟩
      · rw [if_pos e]
        dsimp only
        refine tr_X_sealed hB' hC h (fun g2 b1 b2 => ?_)
        apply sg_X_tell_28 (A := A)
        exact ⟨rfl, rfl, b1, b2⟩
      · rw [if_neg e, if_pos e2]
        dsimp only
        refine tr_X_hasty hB' hC h (fun g2 b1 b2 => ?_)
        apply sg_X_tell_42 (A := A)
        exact ⟨rfl, rfl, b1, b2⟩
      · rw [if_neg e, if_neg e2]
        dsimp only
        refine tr_X_plain hB' hC h (fun g2 b1 b2 => ?_)
        apply sg_X_tell_50 (A := A)
        exact ⟨rfl, rfl, b1, b2⟩
  · have b := hB'.1
    apply sg_Y_tell_0 (A := A)
    rw [hM1.2.1.1.1]
    unfold an_tell
    refine ⟨⟨rfl, LLx_ok, trivial⟩, fun h => ?_, fun h => ?_⟩
    · rw [if_pos (jp0.mp h)]
      exact ⟨rfl, rfl, hM1, kM_r g1⟩
    · have hv := Classical.byContradiction (fun h' => h (jp0.mpr h'))
      obtain ⟨k, rfl⟩ := nat_of hv.1
      have b5 := hB'.2.2.2.2 k hv.2
      have w1 := hM1.1.1.1
      obtain ⟨r1, r2, r3, -⟩ := hM1.2.1.2.2.2 k hv.2
      rw [if_neg (fun h' => h' hv), Int.toNat_natCast, r1, r2, r3]
      refine ⟨⟨by omega, by omega⟩, ⟨by omega, by omega⟩, ⟨by omega, by omega⟩, ⟨by omega, by omega⟩, ⟨by omega, by omega⟩, fun e => ?_, fun e => ⟨fun e2 => ?_, fun e2 => ?_⟩⟩
      · rw [if_neg (by omega), if_pos e]
        dsimp only
        refine tr_Y_begins hM1 (fun g2 a1 a2 => sg_Y_tell_65 (A := A) (tr_Y_begins a1 (fun g3 b1 b2 => sg_Y_tell_70 (A := A) ⟨⟨by omega, by omega⟩, rfl, rfl, b1, kM_t a2 b2⟩)))
      · rw [if_pos e2]
        dsimp only
        refine tr_Y_begins hM1 (fun g2 a1 a2 => sg_Y_tell_80 (A := A) (tr_Y_begins a1 (fun g3 b1 b2 => sg_Y_tell_85 (A := A) (tr_Y_begins b1 (fun g4 c1 c2 => sg_Y_tell_90 (A := A) (tr_Y_begins c1 (fun g5 d1 d2 => sg_Y_tell_95 (A := A) ⟨⟨by omega, by omega⟩, ⟨by omega, by omega⟩, rfl, rfl, d1, kM_t a2 (kM_t b2 (kM_t c2 d2))⟩)))))))
      · rw [if_neg e2, if_neg e]
        dsimp only
        exact tr_Y_begins hM1 (fun g2 a1 a2 => sg_Y_tell_107 (A := A) ⟨rfl, rfl, a1, a2⟩)
def an_stamp (B : jB) (i tr : Int) : Int × Int := if ¬ (0 ≤ i ∧ i < B 0 0) then (-1, tr) else if B 1 i.toNat = 2 then (90, lv tr 5) else (i, lv tr 4)
theorem st_stamp {s : Int → Int} {n l t : Nat} {g : jv_S} {i : Int} (h : IV s l t g) (ht : t < 64) : CI s n t kX_stamp kY_stamp [jv_I i] l g := by
  obtain ⟨h0, A, B, S, tr, fl, rb, hP, hC, hM⟩ := h
  have hB' := hP.1
  refine CI_o (S := S) (S' := S) (fl := fl) (fl' := fl) (v := (an_stamp B i tr).1) (tr' := (an_stamp B i tr).2) h0 ht hP hM hP.2.2.2.2.2.1 ?_ (fun g1 hM1 => ?_)
  · apply sg_X_stamp_0 (A := A)
    refine tr_Tr_numb hB' hC.2.2.2.2.1 (fun h => ?_) (fun k hk h => ?_)
    · apply sg_X_stamp_8 (A := A)
      refine ⟨fun _ => ?_, fun h' => absurd rfl h'⟩
      unfold an_stamp
      rw [if_pos h]
      exact ⟨rfl, rfl, hC, kC_r g⟩
    · subst hk
      apply sg_X_stamp_8 (A := A)
      have t4 := hC.2.2.2.2.1.2.2.2.1
      have gq := TC_get (n := n) hC.2.2.2.2.1 h
      rw [(hC.2.2.2.2.1.2.2.2.2 k h).2.2.1]
      unfold an_stamp
      rw [if_neg (fun h' => h' ⟨by omega, h⟩), Int.toNat_natCast]
      refine ⟨fun h' => by omega, fun _ => ⟨gq, fun e => ?_, fun e => ?_⟩⟩
      · rw [if_pos e]
        apply sg_X_ownStamp_0 (A := A)
        exact tr_X_leave hC (fun g2 b1 b2 => sg_X_ownStamp_5 (A := A) (sg_X_stamp_27 (A := A) ⟨rfl, rfl, b1, b2⟩))
      · rw [if_neg e]
        apply sg_X_lentStamp_0 (A := A)
        refine tr_X_leave hC (fun g2 b1 b2 => ?_)
        apply sg_X_lentStamp_5 (A := A)
        rw [(b1.2.2.2.2.1.2.2.2.2 k h).2.1]
        exact ⟨gq, sg_X_stamp_35 (A := A) ⟨rfl, rfl, b1, b2⟩⟩
  · have b := hB'.1
    apply sg_Y_stamp_0 (A := A)
    rw [hM1.2.1.1.1]
    unfold an_stamp
    refine ⟨⟨rfl, LLx_ok, trivial⟩, fun h => ?_, fun h => ?_⟩
    · rw [if_pos (jp0.mp h)]
      exact ⟨rfl, rfl, hM1, kM_r g1⟩
    · have hv := Classical.byContradiction (fun h' => h (jp0.mpr h'))
      obtain ⟨k, rfl⟩ := nat_of hv.1
      rw [if_neg (fun h' => h' hv), Int.toNat_natCast, (hM1.2.1.2.2.2 k hv.2).1]
      refine ⟨⟨by omega, by omega⟩, fun e => ?_, fun e => ?_⟩
      · rw [if_pos e]
        refine tr_Y_begins hM1 (fun g2 a1 a2 => sg_Y_stamp_29 (A := A) ?_)
        rw [(a1.2.1.2.2.2 k hv.2).1]
        exact ⟨⟨by omega, by omega⟩, fun _ => ⟨rfl, rfl, a1, a2⟩, fun e' => absurd e e'⟩
      · rw [if_neg e]
        refine tr_Y_begins hM1 (fun g2 a1 a2 => sg_Y_stamp_29 (A := A) ?_)
        rw [(a1.2.1.2.2.2 k hv.2).1]
        exact ⟨⟨by omega, by omega⟩, fun e' => absurd e' e, fun _ => ⟨rfl, rfl, a1, a2⟩⟩
set_option maxRecDepth 100000 in
theorem sg_X_as_0 {A : jA} {n l : Nat} {g : jv_S} {Q : jv_V → jv_L → jv_S → Prop} {v1 v2 : Int} (h :
   jv_Ca jv_T jv_ml kTr_numbered [jv_P 87, jv_I v1] (LL n l) (jv_up g 1 11 (0 : Int)) (fun r L2 g2 => jv_At jv_T jv_ml kX_as 13 [jv_P 1, jv_I v1, jv_I v2, jv_U] (jv_pu r []) L2 g2 Q)) :
  jv_At jv_T jv_ml kX_as 0 [jv_P 1, jv_I v1, jv_I v2, jv_U] [] (LL n l) g Q :=
  jv_of_wp (gok9 (A := A)) (md := []) (stop := []) (tab := jt_X_as) rfl 400 _ _ _ _ _ h
set_option maxRecDepth 100000 in
theorem sg_X_as_13 {A : jA} {n l : Nat} {g : jv_S} {Q : jv_V → jv_L → jv_S → Prop} {v1 v2 s0 : Int} {v3 : jv_V} (h :
   (s0 = 0 →
     Q (jv_I (-1 : Int)) (LL n l) g) ∧
    (¬ s0 = 0 →
     ((LLx (LL n l)) ∧ (True)) ∧
      ((jb_p (0 ≤ v2 ∧ v2 ≤ 2)) = 0 →
       Q (jv_I (-2 : Int)) (LL n l) g) ∧
      (¬ (jb_p (0 ≤ v2 ∧ v2 ≤ 2)) = 0 →
       (0 < s0 ∧ (LL n l)[(s0 - 1).toNat]? = some (11, 8, [])) ∧
        (v2 ≤ (g 1000 (8 * s0 + 1)) →
         Q (jv_I (1 : Int)) (LL n l) g) ∧
        (¬ v2 ≤ (g 1000 (8 * s0 + 1)) →
         jv_Ca jv_T jv_ml kX_fail [jv_P 1, jv_I (2 : Int)] (LL n l) g (fun r L2 g2 => jv_At jv_T jv_ml kX_as 43 [jv_P 1, jv_I v1, jv_I v2, jv_D s0] (jv_pu r []) L2 g2 Q))))) :
  jv_At jv_T jv_ml kX_as 13 [jv_P 1, jv_I v1, jv_I v2, v3] [jv_D s0] (LL n l) g Q :=
  jv_of_wp (gok9 (A := A)) (md := []) (stop := []) (tab := jt_X_as) rfl 400 _ _ _ _ _ h
set_option maxRecDepth 100000 in
theorem sg_X_as_43 {A : jA} {n l : Nat} {g : jv_S} {Q : jv_V → jv_L → jv_S → Prop} {v1 v2 v3 s0 : Int} (h :
   Q (jv_I s0) (LL n l) g) :
  jv_At jv_T jv_ml kX_as 43 [jv_P 1, jv_I v1, jv_I v2, jv_D v3] [jv_I s0] (LL n l) g Q :=
  jv_of_wp (gok9 (A := A)) (md := []) (stop := []) (tab := jt_X_as) rfl 400 _ _ _ _ _ h
set_option maxRecDepth 100000 in
theorem sg_Y_as_0 {A : jA} {n l : Nat} {g : jv_S} {Q : jv_V → jv_L → jv_S → Prop} {v1 v2 : Int} (h :
   ((136 = 136) ∧ (LLx (LL n l)) ∧ (True)) ∧
    ((jb_p (0 ≤ v1 ∧ v1 < (jv_up g 136 0 (0 : Int)) 136 27)) = 0 →
     Q (jv_I (-1 : Int)) (LL n l) (jv_up g 136 0 (0 : Int))) ∧
    (¬ (jb_p (0 ≤ v1 ∧ v1 < (jv_up g 136 0 (0 : Int)) 136 27)) = 0 →
     ((True)) ∧
      ((jb_p ((0 : Int) ≤ v2 ∧ v2 ≤ (2 : Int))) = 0 →
       Q (jv_I (-2 : Int)) (LL n l) (jv_up g 136 0 (0 : Int))) ∧
      (¬ (jb_p ((0 : Int) ≤ v2 ∧ v2 ≤ (2 : Int))) = 0 →
       (0 ≤ v1 ∧ v1 < 30) ∧
        ((g 155 v1) < v2 →
         jv_Ca jv_T jv_ml kY_fails [jv_P 136, jv_I (2 : Int)] (LL n l) (jv_up g 136 0 (0 : Int)) (fun r L2 g2 => jv_At jv_T jv_ml kY_as 46 [jv_P 136, jv_I v1, jv_I v2] (jv_pu r []) L2 g2 Q)) ∧
        (¬ (g 155 v1) < v2 →
         Q (jv_I (1 : Int)) (LL n l) (jv_up g 136 0 (0 : Int)))))) :
  jv_At jv_T jv_ml kY_as 0 [jv_P 136, jv_I v1, jv_I v2] [] (LL n l) g Q :=
  jv_of_wp (gok9 (A := A)) (md := []) (stop := []) (tab := jt_Y_as) rfl 400 _ _ _ _ _ h
set_option maxRecDepth 100000 in
theorem sg_Y_as_46 {A : jA} {n l : Nat} {g : jv_S} {Q : jv_V → jv_L → jv_S → Prop} {v1 v2 s0 : Int} (h :
   Q (jv_I s0) (LL n l) g) :
  jv_At jv_T jv_ml kY_as 46 [jv_P 136, jv_I v1, jv_I v2] [jv_I s0] (LL n l) g Q :=
  jv_of_wp (gok9 (A := A)) (md := []) (stop := []) (tab := jt_Y_as) rfl 400 _ _ _ _ _ h
def an_as (B : jB) (i k : Int) : Int × Int := if ¬ (0 ≤ i ∧ i < B 0 0) then (-1, 0) else if ¬ (0 ≤ k ∧ k ≤ 2) then (-2, 0) else if k ≤ B 1 i.toNat then (1, 0) else (-12, 2)
theorem st_as {s : Int → Int} {n l t : Nat} {g : jv_S} {i k : Int} (h : IV s l t g) (ht : t < 64) : CI s n t kX_as kY_as [jv_I i, jv_I k] l g := by
  obtain ⟨h0, A, B, S, tr, fl, rb, hP, hC, hM⟩ := h
  have hB' := hP.1
  refine CI_o (S := S) (S' := S) (fl := fl) (tr' := tr) (v := (an_as B i k).1) (fl' := (an_as B i k).2) h0 ht hP hM hP.2.2.2.2.2.1 ?_ (fun g1 hM1 => ?_)
  · apply sg_X_as_0 (A := A)
    have hC0 := IC_f hC 0
    have k0 : kC g (jv_up g 1 11 0) := kC_1 _ _
    refine tr_Tr_numb hB' hC0.2.2.2.2.1 (fun h => ?_) (fun q hk h => ?_)
    · apply sg_X_as_13 (A := A)
      refine ⟨fun _ => ?_, fun h' => absurd rfl h'⟩
      unfold an_as
      rw [if_pos h]
      exact ⟨rfl, rfl, hC0, k0⟩
    · subst hk
      apply sg_X_as_13 (A := A)
      have t4 := hC0.2.2.2.2.1.2.2.2.1
      have gq := TC_get (n := n) hC0.2.2.2.2.1 h
      rw [(hC0.2.2.2.2.1.2.2.2.2 q h).2.2.1]
      unfold an_as
      rw [if_neg (fun h' => h' ⟨by omega, h⟩), Int.toNat_natCast]
      refine ⟨fun h' => by omega, fun _ => ⟨⟨LLx_ok, trivial⟩, fun e => ?_, fun e => ⟨gq, fun e2 => ?_, fun e2 => ?_⟩⟩⟩
      · rw [if_pos (jp0.mp e)]
        exact ⟨rfl, rfl, hC0, k0⟩
      · have hv := Classical.byContradiction (fun h' => e (jp0.mpr h'))
        rw [if_neg (fun h' => h' hv), if_pos e2]
        exact ⟨rfl, rfl, hC0, k0⟩
      · have hv := Classical.byContradiction (fun h' => e (jp0.mpr h'))
        rw [if_neg (fun h' => h' hv), if_neg e2]
        exact tr_X_fail hC0 (by omega) rfl (fun g2 a1 a2 => sg_X_as_43 (A := A) ⟨rfl, rfl, a1, kC_t k0 a2⟩)
  · have b := hB'.1
    have hM0 := IM_f hM1 0
    have k0 : kM g1 (jv_up g1 136 0 0) := kM_u _ _ (by omega) (by omega)
    apply sg_Y_as_0 (A := A)
    rw [show jv_up g1 136 0 0 136 27 = B 0 0 from hM0.2.1.1.1]
    unfold an_as
    refine ⟨⟨rfl, LLx_ok, trivial⟩, fun h => ?_, fun h => ?_⟩
    · rw [if_pos (jp0.mp h)]
      exact ⟨rfl, rfl, hM0, k0⟩
    · have hv := Classical.byContradiction (fun h' => h (jp0.mpr h'))
      obtain ⟨q, rfl⟩ := nat_of hv.1
      rw [if_neg (fun h' => h' hv), Int.toNat_natCast, (hM1.2.1.2.2.2 q hv.2).1]
      refine ⟨trivial, fun e => ?_, fun e => ⟨⟨by omega, by omega⟩, fun e2 => ?_, fun e2 => ?_⟩⟩
      · rw [if_pos (jp0.mp e)]
        exact ⟨rfl, rfl, hM0, k0⟩
      · have hv2 := Classical.byContradiction (fun h' => e (jp0.mpr h'))
        rw [if_neg (fun h' => h' hv2), if_neg (by omega)]
        exact tr_Y_fails hM0 (by omega) rfl (fun g2 a1 a2 => sg_Y_as_46 (A := A) ⟨rfl, rfl, a1, kM_t k0 a2⟩)
      · have hv2 := Classical.byContradiction (fun h' => e (jp0.mpr h'))
        rw [if_neg (fun h' => h' hv2), if_pos (by omega)]
        exact ⟨rfl, rfl, hM0, k0⟩
