/-! ===== sets: the least closed one, the greatest one that holds itself ===== -/
def sb (a b : Nat) : Prop := ∀ i, a.testBit i = true → b.testBit i = true
theorem sb_refl (a : Nat) : sb a a := fun _ h => h
theorem sb_trans {a b c : Nat} (h1 : sb a b) (h2 : sb b c) : sb a c := fun i h => h2 i (h1 i h)
theorem sb_anti {a b : Nat} (h1 : sb a b) (h2 : sb b a) : a = b := by
  apply Nat.eq_of_testBit_eq
  intro i
  cases ha : a.testBit i with
  | true => exact (h1 i ha).symm
  | false =>
    cases hb : b.testBit i with
    | true => rw [h2 i hb] at ha; cases ha
    | false => rfl
theorem bt_lt {s m i : Nat} (h : s < 2 ^ m) (hi : s.testBit i = true) : i < m := by
  rcases Nat.lt_or_ge i m with h1 | h1
  · exact h1
  · have : s.testBit i = false := Nat.testBit_lt_two_pow (Nat.lt_of_lt_of_le h (Nat.pow_le_pow_right (by decide) h1))
    rw [this] at hi; cases hi
theorem lt_of_bt {s m : Nat} (h : ∀ i, s.testBit i = true → i < m) : s < 2 ^ m := by
  apply Nat.lt_pow_two_of_testBit
  intro i hi
  cases h1 : s.testBit i with
  | true => have := h i h1; omega
  | false => rfl
theorem sb_lt {a b m : Nat} (h : sb a b) (hb : b < 2 ^ m) : a < 2 ^ m := lt_of_bt (fun i hi => bt_lt hb (h i hi))
theorem sb_le {a b : Nat} (h : sb a b) : a ≤ b := by
  have : a &&& b = a := by
    apply Nat.eq_of_testBit_eq
    intro i
    rw [Nat.testBit_and]
    cases ha : a.testBit i with
    | true => rw [h i ha]; rfl
    | false => rfl
  rw [← this]
  exact Nat.and_le_right
theorem sb_zero {b : Nat} : sb 0 b := fun i h => by rw [Nat.zero_testBit] at h; cases h
theorem z_of_bt {s : Nat} (h : ∀ i, s.testBit i = false) : s = 0 := Nat.eq_of_testBit_eq (fun i => by rw [h i, Nat.zero_testBit])
theorem bt_of_nz {s : Nat} (h : s ≠ 0) : ∃ i, s.testBit i = true := Nat.exists_testBit_of_ne_zero h
theorem sb_z {a : Nat} (h : sb a 0) : a = 0 := sb_anti h sb_zero
theorem sb_or {a b c : Nat} (h1 : sb a c) (h2 : sb b c) : sb (a ||| b) c := by
  intro i h
  rw [Nat.testBit_or] at h
  cases ha : a.testBit i with
  | true => exact h1 i ha
  | false => rw [ha] at h; exact h2 i (by simpa using h)
theorem sb_orl {a b : Nat} : sb a (a ||| b) := fun i h => by rw [Nat.testBit_or, h]; rfl
theorem sb_orr {a b : Nat} : sb b (a ||| b) := fun i h => by rw [Nat.testBit_or, h, Bool.or_true]
theorem or_eq {a b : Nat} (h : a ||| b = a) : sb b a := fun i hi => by rw [← h, Nat.testBit_or, hi, Bool.or_true]
theorem and_z {a b : Nat} : a &&& b = 0 ↔ ∀ i, ¬ (a.testBit i = true ∧ b.testBit i = true) := by
  constructor
  · intro h i hi
    have : (a &&& b).testBit i = true := by rw [Nat.testBit_and, hi.1, hi.2]; rfl
    rw [h, Nat.zero_testBit] at this; cases this
  · intro h
    apply z_of_bt
    intro i
    rw [Nat.testBit_and]
    cases ha : a.testBit i with
    | false => rfl
    | true =>
      cases hb : b.testBit i with
      | false => rfl
      | true => exact absurd ⟨ha, hb⟩ (h i)
theorem bd_z {a b : Nat} : bd a b = 0 ↔ sb a b := by
  constructor
  · intro h i hi
    have := bd_bit a b i
    rw [h, Nat.zero_testBit, hi] at this
    cases hb : b.testBit i with
    | true => rfl
    | false => rw [hb] at this; cases this
  · intro h
    apply z_of_bt
    intro i
    rw [bd_bit]
    cases ha : a.testBit i with
    | false => rfl
    | true => rw [h i ha]; rfl
theorem bd_sb {a b : Nat} : sb (bd a b) a := fun i h => by
  rw [bd_bit] at h
  cases ha : a.testBit i with
  | true => rfl
  | false => rw [ha] at h; cases h
theorem bd1_bit {a c i : Nat} : (bd a (2 ^ c)).testBit i = (a.testBit i && !decide (c = i)) := by
  rw [bd_bit, Nat.testBit_two_pow]
theorem pcr_mono {a b : Nat} (h : sb a b) (m : Nat) : pcr a m ≤ pcr b m := by
  induction m with
  | zero => exact Nat.le_refl _
  | succ m ih =>
    unfold pcr
    cases ha : a.testBit m with
    | true => rw [h m ha]; omega
    | false => split <;> simp_all <;> omega
theorem pcr_lt1 {a b : Nat} (h : sb a b) {i : Nat} (hb : b.testBit i = true) (ha : a.testBit i = false) : ∀ m, i < m → pcr a m < pcr b m := by
  intro m
  induction m with
  | zero => intro h; omega
  | succ m ih =>
    intro hi
    have h1 := pcr_mono h m
    unfold pcr
    by_cases him : i = m
    · subst him
      rw [ha, hb]
      simp
      omega
    · have := ih (by omega)
      cases ha : a.testBit m with
      | true => rw [h m ha]; omega
      | false => split <;> simp_all <;> omega
theorem nsb {a b : Nat} (h : ¬ sb b a) : ∃ i, b.testBit i = true ∧ a.testBit i = false := by
  apply Classical.byContradiction
  intro h1
  apply h
  intro i hi
  cases ha : a.testBit i with
  | true => rfl
  | false => exact absurd ⟨i, hi, ha⟩ h1
theorem pcr_lt {a b m : Nat} (h : sb a b) (hb : b < 2 ^ m) (hne : a ≠ b) : pcr a m < pcr b m := by
  obtain ⟨i, h1, h2⟩ := nsb (a := a) (b := b) (fun h1 => hne (sb_anti h h1))
  exact pcr_lt1 h h1 h2 m (bt_lt hb h1)
theorem pcr_z {s m : Nat} (h : s < 2 ^ m) (h0 : pcr s m = 0) : s = 0 := by
  apply Classical.byContradiction
  intro hne
  have := pcr_lt (a := 0) (b := s) (m := m) sb_zero h (fun h => hne h.symm)
  omega
theorem pcr_full {s : Nat} : ∀ {m : Nat}, pcr s m = m → ∀ i, i < m → s.testBit i = true := by
  intro m
  induction m with
  | zero => intro _ i hi; omega
  | succ m ih =>
    intro h i hi
    have h1 := pcr_le s m
    unfold pcr at h
    cases hb : s.testBit m with
    | true =>
      rw [hb] at h
      simp at h
      by_cases him : i = m
      · subst him; exact hb
      · exact ih h i (by omega)
    | false => rw [hb] at h; simp at h; omega
theorem pcr_hi {s m k : Nat} (h : s < 2 ^ m) (hk : m ≤ k) : pcr s k = pcr s m := by
  induction hk with
  | refl => rfl
  | @step k hk ih =>
    have : s.testBit k = false := Nat.testBit_lt_two_pow (Nat.lt_of_lt_of_le h (Nat.pow_le_pow_right (by decide) hk))
    show pcr s k + (if s.testBit k then 1 else 0) = pcr s m
    rw [this, ih]
    simp
/-! the least set that holds s and is closed -/
def clo (N : Nat → Nat) (m T : Nat) : Prop := ∀ c, c < m → T.testBit c = true → sb (N c) T
noncomputable def dc (p : Prop) : Bool := @decide p (Classical.propDecidable p)
theorem dc_t {p : Prop} : dc p = true ↔ p := by
  unfold dc
  exact @decide_eq_true_iff p (Classical.propDecidable p)
theorem dc_f {p : Prop} : dc p = false ↔ ¬ p := by
  rw [← Bool.not_eq_true, dc_t]
noncomputable def cl (N : Nat → Nat) (m s : Nat) : Nat := mk (fun i => dc (∀ T, sb s T → clo N m T → T.testBit i = true)) m
theorem cl_lt {N : Nat → Nat} {m s : Nat} : cl N m s < 2 ^ m := mk_lt _ _
theorem cl_bit {N : Nat → Nat} {m s i : Nat} : (cl N m s).testBit i = true ↔ i < m ∧ ∀ T, sb s T → clo N m T → T.testBit i = true := by
  unfold cl
  rw [mk_bit, Bool.and_eq_true, dc_t, decide_eq_true_iff]
theorem cl_sub {N : Nat → Nat} {m s : Nat} (hs : s < 2 ^ m) : sb s (cl N m s) := fun i hi => cl_bit.mpr ⟨bt_lt hs hi, fun T h _ => h i hi⟩
theorem cl_clo {N : Nat → Nat} {m s : Nat} (hN : ∀ c, c < m → N c < 2 ^ m) : clo N m (cl N m s) := by
  intro c hc h i hi
  refine cl_bit.mpr ⟨bt_lt (hN c hc) hi, fun T h1 h2 => h2 c hc ((cl_bit.mp h).2 T h1 h2) i hi⟩
theorem cl_min {N : Nat → Nat} {m s T : Nat} (h1 : sb s T) (h2 : clo N m T) : sb (cl N m s) T := fun i hi => (cl_bit.mp hi).2 T h1 h2
theorem cl_eq {N : Nat → Nat} {m s R : Nat} (hR : R < 2 ^ m) (h1 : sb s R) (h2 : clo N m R) (h3 : ∀ T, sb s T → clo N m T → sb R T) : R = cl N m s :=
  sb_anti (fun i hi => cl_bit.mpr ⟨bt_lt hR hi, fun T a b => h3 T a b i hi⟩) (cl_min h1 h2)
theorem cl_ext {N N' : Nat → Nat} {m s : Nat} (h : ∀ c, c < m → N c = N' c) : cl N m s = cl N' m s := by
  have : ∀ T, clo N m T ↔ clo N' m T := fun T => ⟨fun a c hc => by rw [← h c hc]; exact a c hc, fun a c hc => by rw [h c hc]; exact a c hc⟩
  apply Nat.eq_of_testBit_eq
  intro i
  have : (cl N m s).testBit i = true ↔ (cl N' m s).testBit i = true := by
    rw [cl_bit, cl_bit]
    exact ⟨fun a => ⟨a.1, fun T b c => a.2 T b ((this T).mpr c)⟩, fun a => ⟨a.1, fun T b c => a.2 T b ((this T).mp c)⟩⟩
  cases h1 : (cl N m s).testBit i <;> cases h2 : (cl N' m s).testBit i <;> simp_all
/-- a pass that grows the set in place -/
def gp (N : Nat → Nat) (s : Nat) : Nat → Nat
  | 0 => s
  | c + 1 => if (gp N s c).testBit c then gp N s c ||| N c else gp N s c
/-- a pass over what was there before -/
def gq (N : Nat → Nat) (s : Nat) : Nat → Nat
  | 0 => s
  | c + 1 => gq N s c ||| (if s.testBit c then N c else 0)
theorem gp_up {N : Nat → Nat} {s : Nat} (c : Nat) : sb (gp N s c) (gp N s (c + 1)) := by
  conv => rhs; unfold gp
  split
  · exact sb_orl
  · exact sb_refl _
theorem gp_sub {N : Nat → Nat} {s : Nat} (c : Nat) : sb s (gp N s c) := by
  induction c with
  | zero => exact sb_refl _
  | succ c ih => exact sb_trans ih (gp_up c)
theorem gp_le {N : Nat → Nat} {s c d : Nat} (h : c ≤ d) : sb (gp N s c) (gp N s d) := by
  induction h with
  | refl => exact sb_refl _
  | step _ ih => exact sb_trans ih (gp_up _)
theorem gp_lt {N : Nat → Nat} {s m : Nat} (hs : s < 2 ^ m) (hN : ∀ c, c < m → N c < 2 ^ m) : ∀ c, c ≤ m → gp N s c < 2 ^ m := by
  intro c
  induction c with
  | zero => exact fun _ => hs
  | succ c ih =>
    intro hc
    unfold gp
    split
    · exact Nat.or_lt_two_pow (ih (by omega)) (hN c (by omega))
    · exact ih (by omega)
theorem gp_in {N : Nat → Nat} {s m T : Nat} (h1 : sb s T) (h2 : clo N m T) : ∀ c, c ≤ m → sb (gp N s c) T := by
  intro c
  induction c with
  | zero => exact fun _ => h1
  | succ c ih =>
    intro hc
    unfold gp
    split
    · next h => exact sb_or (ih (by omega)) (h2 c (by omega) (ih (by omega) c h))
    · exact ih (by omega)
theorem gp_fix {N : Nat → Nat} {s m : Nat} (h : gp N s m = s) : clo N m s := by
  intro c hc hb
  have e1 : gp N s c = s := sb_anti (by have := gp_le (N := N) (s := s) (c := c) (d := m) (by omega); rw [h] at this; exact this) (gp_sub c)
  have e2 : gp N s (c + 1) = s := sb_anti (by have := gp_le (N := N) (s := s) (c := c + 1) (d := m) (by omega); rw [h] at this; exact this) (gp_sub _)
  unfold gp at e2
  rw [e1, if_pos hb] at e2
  exact or_eq e2
theorem gq_sub {N : Nat → Nat} {s : Nat} (c : Nat) : sb s (gq N s c) := by
  induction c with
  | zero => exact sb_refl _
  | succ c ih => exact sb_trans ih sb_orl
theorem gq_lt {N : Nat → Nat} {s m : Nat} (hs : s < 2 ^ m) (hN : ∀ c, c < m → N c < 2 ^ m) : ∀ c, c ≤ m → gq N s c < 2 ^ m := by
  intro c
  induction c with
  | zero => exact fun _ => hs
  | succ c ih =>
    intro hc
    unfold gq
    refine Nat.or_lt_two_pow (ih (by omega)) ?_
    split
    · exact hN c (by omega)
    · exact Nat.two_pow_pos _
theorem gq_in {N : Nat → Nat} {s m T : Nat} (h1 : sb s T) (h2 : clo N m T) : ∀ c, c ≤ m → sb (gq N s c) T := by
  intro c
  induction c with
  | zero => exact fun _ => h1
  | succ c ih =>
    intro hc
    unfold gq
    refine sb_or (ih (by omega)) ?_
    split
    · next h => exact h2 c (by omega) (h1 c h)
    · exact sb_zero
theorem gq_has {N : Nat → Nat} {s : Nat} {m c : Nat} (hc : c < m) (hb : s.testBit c = true) : sb (N c) (gq N s m) := by
  induction m with
  | zero => omega
  | succ m ih =>
    unfold gq
    by_cases h : c = m
    · subst h
      rw [if_pos hb]
      exact sb_orr
    · exact sb_trans (ih (by omega)) sb_orl
theorem gq_fix {N : Nat → Nat} {s m : Nat} (h : gq N s m = s) : clo N m s := by
  intro c hc hb
  have := gq_has (N := N) hc hb
  rw [h] at this
  exact this
/-! the greatest set in s each of which has what it needs there -/
def gfP (nd : Nat → Nat → Prop) (s T : Nat) : Prop := sb T s ∧ ∀ c, T.testBit c = true → nd c T
def mon (nd : Nat → Nat → Prop) : Prop := ∀ c S T, sb S T → nd c S → nd c T
noncomputable def gf (nd : Nat → Nat → Prop) (m s : Nat) : Nat := mk (fun i => dc (∃ T, gfP nd s T ∧ T.testBit i = true)) m
theorem gf_lt {nd : Nat → Nat → Prop} {m s : Nat} : gf nd m s < 2 ^ m := mk_lt _ _
theorem gf_bit {nd : Nat → Nat → Prop} {m s i : Nat} : (gf nd m s).testBit i = true ↔ i < m ∧ ∃ T, gfP nd s T ∧ T.testBit i = true := by
  unfold gf
  rw [mk_bit, Bool.and_eq_true, dc_t, decide_eq_true_iff]
theorem gf_eq {nd : Nat → Nat → Prop} {m s R : Nat} (hR : R < 2 ^ m) (h1 : gfP nd s R) (h2 : ∀ T, gfP nd s T → sb T R) : R = gf nd m s :=
  sb_anti (fun i hi => gf_bit.mpr ⟨bt_lt hR hi, R, h1, hi⟩) (fun i hi => by obtain ⟨-, T, h3, h4⟩ := gf_bit.mp hi; exact h2 T h3 i h4)
theorem gf_P {nd : Nat → Nat → Prop} {m s : Nat} (hm : mon nd) (hs : s < 2 ^ m) : gfP nd s (gf nd m s) := by
  refine ⟨fun i hi => ?_, fun c hc => ?_⟩
  · obtain ⟨-, T, h1, h2⟩ := gf_bit.mp hi
    exact h1.1 i h2
  · obtain ⟨-, T, h1, h2⟩ := gf_bit.mp hc
    refine hm c T _ (fun i hi => gf_bit.mpr ⟨bt_lt hs (h1.1 i hi), T, h1, hi⟩) (h1.2 c h2)
theorem gf_max {nd : Nat → Nat → Prop} {m s T : Nat} (hs : s < 2 ^ m) (h : gfP nd s T) : sb T (gf nd m s) := fun i hi => gf_bit.mpr ⟨bt_lt hs (h.1 i hi), T, h, hi⟩
theorem gf_ext {nd nd' : Nat → Nat → Prop} {m s : Nat} (hs : s < 2 ^ m) (h : ∀ c T, c < m → (nd c T ↔ nd' c T)) : gf nd m s = gf nd' m s := by
  have e : ∀ T, gfP nd s T ↔ gfP nd' s T := fun T => ⟨fun a => ⟨a.1, fun c hc => (h c T (bt_lt hs (a.1 c hc))).mp (a.2 c hc)⟩, fun a => ⟨a.1, fun c hc => (h c T (bt_lt hs (a.1 c hc))).mpr (a.2 c hc)⟩⟩
  apply Nat.eq_of_testBit_eq
  intro i
  have : (gf nd m s).testBit i = true ↔ (gf nd' m s).testBit i = true := by
    rw [gf_bit, gf_bit]
    exact ⟨fun ⟨a, T, b, c⟩ => ⟨a, T, (e T).mp b, c⟩, fun ⟨a, T, b, c⟩ => ⟨a, T, (e T).mpr b, c⟩⟩
  cases h1 : (gf nd m s).testBit i <;> cases h2 : (gf nd' m s).testBit i <;> simp_all
/-- what is known of a set on the way down -/
def GI (nd : Nat → Nat → Prop) (s t : Nat) : Prop := sb t s ∧ ∀ T, gfP nd s T → sb T t
theorem GI_0 {nd : Nat → Nat → Prop} {s : Nat} : GI nd s s := ⟨sb_refl _, fun _ h => h.1⟩
noncomputable def rmv (nd : Nat → Nat → Prop) (c t : Nat) : Nat := if t.testBit c && !dc (nd c t) then bd t (2 ^ c) else t
noncomputable def rp (nd : Nat → Nat → Prop) (s : Nat) : Nat → Nat
  | 0 => s
  | c + 1 => rmv nd c (rp nd s c)
theorem rmv_sub {nd : Nat → Nat → Prop} {c t : Nat} : sb (rmv nd c t) t := by
  unfold rmv
  split
  · exact bd_sb
  · exact sb_refl _
theorem rmv_GI {nd : Nat → Nat → Prop} (hm : mon nd) {s c t : Nat} (h : GI nd s t) : GI nd s (rmv nd c t) := by
  refine ⟨sb_trans rmv_sub h.1, fun T hT => ?_⟩
  have h1 := h.2 T hT
  unfold rmv
  split
  · next h2 =>
    rw [Bool.and_eq_true] at h2
    intro i hi
    rw [bd1_bit, h1 i hi]
    by_cases hc : c = i
    · subst hc
      have := hm c T t h1 (hT.2 c hi)
      rw [dc_t.mpr this] at h2
      exact absurd h2.2 (by decide)
    · simp [hc]
  · exact h1
theorem rp_sub {nd : Nat → Nat → Prop} {t : Nat} : ∀ c, sb (rp nd t c) t := by
  intro c
  induction c with
  | zero => exact sb_refl _
  | succ c ih => exact sb_trans rmv_sub ih
theorem rp_le {nd : Nat → Nat → Prop} {t c d : Nat} (h : c ≤ d) : sb (rp nd t d) (rp nd t c) := by
  induction h with
  | refl => exact sb_refl _
  | step _ ih => exact sb_trans rmv_sub ih
theorem rp_GI {nd : Nat → Nat → Prop} (hm : mon nd) {s t : Nat} (h : GI nd s t) : ∀ c, GI nd s (rp nd t c) := by
  intro c
  induction c with
  | zero => exact h
  | succ c ih => exact rmv_GI hm ih
theorem rp_fix {nd : Nat → Nat → Prop} {t m : Nat} (h : rp nd t m = t) : ∀ c, c < m → t.testBit c = true → nd c t := by
  intro c hc hb
  have e1 : rp nd t c = t := sb_anti (rp_sub c) (by have := rp_le (nd := nd) (t := t) (c := c) (d := m) (by omega); rw [h] at this; exact this)
  have e2 : rp nd t (c + 1) = t := sb_anti (rp_sub _) (by have := rp_le (nd := nd) (t := t) (c := c + 1) (d := m) (by omega); rw [h] at this; exact this)
  unfold rp rmv at e2
  rw [e1, hb] at e2
  cases hd : dc (nd c t) with
  | true => exact dc_t.mp hd
  | false =>
    rw [hd] at e2
    have : (bd t (2 ^ c)).testBit c = t.testBit c := by rw [show bd t (2 ^ c) = t by simpa using e2]
    rw [bd1_bit, hb] at this
    simp at this
theorem GI_fix {nd : Nat → Nat → Prop} {s t m : Nat} (h : GI nd s t) (ht : t < 2 ^ m) (hf : rp nd t m = t) : t = gf nd m s :=
  gf_eq ht ⟨h.1, fun c hc => rp_fix hf c (bt_lt ht hc) hc⟩ h.2
theorem GI_zero {nd : Nat → Nat → Prop} {s m : Nat} (h : GI nd s 0) : 0 = gf nd m s :=
  gf_eq (Nat.two_pow_pos _) ⟨sb_zero, fun c hc => by rw [Nat.zero_testBit] at hc; cases hc⟩ h.2
theorem rp_lt {nd : Nat → Nat → Prop} {t m : Nat} (ht : t < 2 ^ m) (c : Nat) : rp nd t c < 2 ^ m := sb_lt (rp_sub c) ht
theorem rp_ne {nd : Nat → Nat → Prop} {t m : Nat} (ht : t < 2 ^ m) {c : Nat} (h : rp nd t c ≠ t) : pcr (rp nd t c) m < pcr t m := pcr_lt (rp_sub c) ht h
theorem rp_y {nd : Nat → Nat → Prop} {t c : Nat} (h1 : (rp nd t c).testBit c = true) (h2 : ¬ nd c (rp nd t c)) : rp nd t (c + 1) = bd (rp nd t c) (2 ^ c) ∧ rp nd t (c + 1) ≠ t := by
  have e : rp nd t (c + 1) = bd (rp nd t c) (2 ^ c) := by
    show rmv nd c (rp nd t c) = _
    unfold rmv
    rw [h1, dc_f.mpr h2]
    rfl
  refine ⟨e, fun h => ?_⟩
  have h3 := rp_sub (nd := nd) (t := t) c c h1
  rw [← h, e, bd1_bit] at h3
  simp at h3
theorem rp_n {nd : Nat → Nat → Prop} {t c : Nat} (h : (rp nd t c).testBit c = false ∨ nd c (rp nd t c)) : rp nd t (c + 1) = rp nd t c := by
  show rmv nd c (rp nd t c) = _
  unfold rmv
  rcases h with h | h
  · rw [h]; rfl
  · rw [dc_t.mpr h]; simp
/-- the pass has changed something before c: it has behind c -/
theorem rp_ch {nd : Nat → Nat → Prop} {t c : Nat} (h : rp nd t c ≠ t) : rp nd t (c + 1) ≠ t := fun h1 => h (sb_anti (rp_sub c) (by have := rp_le (nd := nd) (t := t) (c := c) (d := c + 1) (by omega); rw [h1] at this; exact this))
