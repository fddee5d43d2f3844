/-! ===== what comes into a lane as the k-th ===== -/
def sgm (f : Nat → Nat) : Nat → Nat
  | 0 => 0
  | m + 1 => sgm f m + f m
theorem sgm_ext {f h : Nat → Nat} : ∀ m, (∀ i, i < m → f i = h i) → sgm f m = sgm h m := by
  intro m
  induction m with
  | zero => intro _; rfl
  | succ m ih => intro hh; unfold sgm; rw [ih (fun i hi => hh i (by omega)), hh m (by omega)]
theorem sgm_dvd {f : Nat → Nat} {q : Nat} : ∀ m, (∀ i, i < m → q ∣ f i) → q ∣ sgm f m := by
  intro m
  induction m with
  | zero => intro _; exact Nat.dvd_zero q
  | succ m ih => intro hh; unfold sgm; exact Nat.dvd_add (ih (fun i hi => hh i (by omega))) (hh m (by omega))
theorem sgm_le {f h : Nat → Nat} : ∀ m, (∀ i, i < m → f i ≤ h i) → sgm f m ≤ sgm h m := by
  intro m
  induction m with
  | zero => intro _; exact Nat.le_refl _
  | succ m ih => intro hh; unfold sgm; exact Nat.add_le_add (ih (fun i hi => hh i (by omega))) (hh m (by omega))
theorem sgm_zero {m : Nat} : sgm (fun _ => 0) m = 0 := by
  induction m with
  | zero => rfl
  | succ m ih => unfold sgm; rw [ih]
theorem sgm_add {f h : Nat → Nat} : ∀ m, sgm (fun i => f i + h i) m = sgm f m + sgm h m := by
  intro m
  induction m with
  | zero => rfl
  | succ m ih => unfold sgm; rw [ih]; omega
theorem sgm_swap {f : Nat → Nat → Nat} : ∀ m n, sgm (fun i => sgm (f i) n) m = sgm (fun j => sgm (fun i => f i j) m) n := by
  intro m
  induction m with
  | zero => intro n; exact sgm_zero.symm
  | succ m ih =>
    intro n
    have := sgm_add (f := fun j => sgm (fun i => f i j) m) (h := fun j => f m j) n
    show sgm (fun i => sgm (f i) n) m + sgm (f m) n = sgm (fun j => sgm (fun i => f i j) m + f m j) n
    rw [this, ih]
theorem sgm_mem {f : Nat → Nat} {c : Nat} : ∀ m, c < m → f c ≤ sgm f m := by
  intro m
  induction m with
  | zero => intro h; omega
  | succ m ih =>
    intro h
    unfold sgm
    by_cases hc : c = m
    · rw [hc]; omega
    · have := ih (by omega); omega
theorem sgm_ne {f : Nat → Nat} : ∀ m, sgm f m ≠ 0 → ∃ i, i < m ∧ f i ≠ 0 := by
  intro m
  induction m with
  | zero => intro h; exact absurd rfl h
  | succ m ih =>
    intro h
    by_cases h0 : f m = 0
    · obtain ⟨i, a, b⟩ := ih (fun h1 => h (by show sgm f m + f m = 0; rw [h1, h0]))
      exact ⟨i, by omega, b⟩
    · exact ⟨m, by omega, h0⟩
theorem sgm_ct {p : Nat → Bool} {a : Nat} : ∀ m, sgm (fun i => if p i = true then a else 0) m = ct p m * a := by
  intro m
  induction m with
  | zero => rw [show ct p 0 = 0 from rfl, Nat.zero_mul]; rfl
  | succ m ih =>
    show sgm (fun i => if p i = true then a else 0) m + (if p m = true then a else 0) = (ct p m + (if p m = true then 1 else 0)) * a
    rw [ih, Nat.add_mul]
    split
    · rw [Nat.one_mul]
    · rw [Nat.zero_mul]
theorem sgm_div {f : Nat → Nat} {q : Nat} (hq : 0 < q) : ∀ m, (∀ i, i < m → q ∣ f i) → sgm f m / q = sgm (fun i => f i / q) m := by
  intro m
  induction m with
  | zero => intro _; exact Nat.zero_div q
  | succ m ih =>
    intro hh
    show (sgm f m + f m) / q = sgm (fun i => f i / q) m + f m / q
    rw [← ih (fun i hi => hh i (by omega))]
    obtain ⟨a, ha⟩ := sgm_dvd m (fun i hi => hh i (by omega))
    obtain ⟨b, hb⟩ := hh m (by omega)
    rw [ha, hb, ← Nat.mul_add, Nat.mul_div_cancel_left _ hq, Nat.mul_div_cancel_left _ hq, Nat.mul_div_cancel_left _ hq]
def Wf (A : jA) (x y : Nat) : Nat → Nat → Nat
  | 0, d => if (tk A (10 + x) y).testBit d = true then NN A / szw A (10 + x) y else 0
  | k + 1, d => sgm (fun c => if (tk A c y).testBit d = true then Wf A x y k c / szw A c y else 0) (ln A)
/-- walks on from a lane -/
def cwk (A : jA) (y : Nat) : Nat → List Nat → Prop
  | _, [] => True
  | c, d :: r => (tk A c y).testBit d = true ∧ cwk A y d r
def cpr (A : jA) (y : Nat) : Nat → List Nat → Nat
  | _, [] => 1
  | c, d :: r => szw A c y * cpr A y d r
theorem cwk_wlk {A : jA} {x y : Nat} : ∀ (r : List Nat) (c : Nat) (r0 : List Nat), wlk A x y (c :: r0) → cwk A y c r → ∃ r', wlk A x y r' ∧ szl A x y r' = szl A x y (c :: r0) * cpr A y c r := by
  intro r
  induction r with
  | nil => intro c r0 h _; exact ⟨c :: r0, h, (Nat.mul_one _).symm⟩
  | cons d r ih =>
    intro c r0 h h2
    obtain ⟨r', a, b⟩ := ih d (c :: r0) ⟨h, h2.1⟩ h2.2
    refine ⟨r', a, ?_⟩
    rw [b]
    show szl A x y (c :: r0) * szw A c y * cpr A y d r = szl A x y (c :: r0) * (szw A c y * cpr A y d r)
    rw [Nat.mul_assoc]
theorem szw_pos {A : jA} {p y d : Nat} (h : (tk A p y).testBit d = true) : 0 < szw A p y := by
  unfold szw
  rw [ct_pcr]
  exact ct_pos _ (tk_bit h).1 h
theorem Wf_dvd {A : jA} {x y : Nat} (hw : wf A) (hr : NR A y) (hx : x < nd A) : ∀ (k c : Nat) (r : List Nat), cwk A y c r → cpr A y c r ∣ Wf A x y k c := by
  intro k
  induction k with
  | zero =>
    intro c r h
    show cpr A y c r ∣ (if (tk A (10 + x) y).testBit c = true then NN A / szw A (10 + x) y else 0)
    split
    · rename_i hb
      obtain ⟨r', a, b⟩ := cwk_wlk r c [] (show wlk A x y [c] from ⟨True.intro, hb⟩) h
      have hd := szl_NN hw hr hx r' a
      have e : szl A x y [c] = szw A (10 + x) y := by
        show 1 * szw A (10 + x) y = _
        rw [Nat.one_mul]
      rw [b, e] at hd
      exact Nat.dvd_div_of_mul_dvd hd
    · exact Nat.dvd_zero _
  | succ k ih =>
    intro d r h
    show cpr A y d r ∣ sgm _ (ln A)
    refine sgm_dvd _ (fun c _ => ?_)
    show cpr A y d r ∣ (if (tk A c y).testBit d = true then Wf A x y k c / szw A c y else 0)
    split
    · rename_i hb
      exact Nat.dvd_div_of_mul_dvd (ih c (d :: r) ⟨hb, h⟩)
    · exact Nat.dvd_zero _
theorem Wf_sz {A : jA} {x y k c d : Nat} (hw : wf A) (hr : NR A y) (hx : x < nd A) (h : (tk A c y).testBit d = true) : szw A c y ∣ Wf A x y k c := by
  have := Wf_dvd hw hr hx k c [d] ⟨h, True.intro⟩
  rw [show cpr A y c [d] = szw A c y * 1 from rfl, Nat.mul_one] at this
  exact this
theorem NN_sz {A : jA} {x y d : Nat} (hw : wf A) (hr : NR A y) (hx : x < nd A) (h : (tk A (10 + x) y).testBit d = true) : szw A (10 + x) y ∣ NN A := by
  have := szl_NN hw hr hx [d] ⟨True.intro, h⟩
  rw [show szl A x y [d] = 1 * szw A (10 + x) y from rfl, Nat.one_mul] at this
  exact this
theorem NN_szl {A : jA} {x y c d : Nat} {r : List Nat} (hw : wf A) (hr : NR A y) (hx : x < nd A) (hk : wlk A x y (c :: r)) (h : (tk A c y).testBit d = true) : szw A c y ∣ NN A := by
  have := szl_NN hw hr hx (d :: c :: r) ⟨hk, h⟩
  exact Nat.dvd_trans ⟨szl A x y (c :: r), Nat.mul_comm _ _⟩ this
theorem Wf_sum {A : jA} {x y : Nat} : ∀ k, sgm (Wf A x y k) (ln A) ≤ NN A := by
  intro k
  induction k with
  | zero =>
    have := sgm_ct (p := fun d => (tk A (10 + x) y).testBit d) (a := NN A / szw A (10 + x) y) (ln A)
    show sgm (fun d => if (tk A (10 + x) y).testBit d = true then NN A / szw A (10 + x) y else 0) (ln A) ≤ _
    rw [this, ← ct_pcr]
    exact Nat.mul_div_le _ _
  | succ k ih =>
    have e : sgm (Wf A x y (k + 1)) (ln A) = sgm (fun c => sgm (fun d => if (tk A c y).testBit d = true then Wf A x y k c / szw A c y else 0) (ln A)) (ln A) :=
      sgm_swap (f := fun d c => if (tk A c y).testBit d = true then Wf A x y k c / szw A c y else 0) (ln A) (ln A)
    rw [e]
    refine Nat.le_trans (sgm_le _ (fun c _ => ?_)) ih
    rw [sgm_ct (p := fun d => (tk A c y).testBit d), ← ct_pcr]
    exact Nat.mul_div_le _ _
theorem Wf_wlk {A : jA} {x y : Nat} : ∀ k d, Wf A x y k d ≠ 0 → ∃ r, wlk A x y (d :: r) ∧ (d :: r).length = k + 1 := by
  intro k
  induction k with
  | zero =>
    intro d h
    have h : (if (tk A (10 + x) y).testBit d = true then NN A / szw A (10 + x) y else 0) ≠ 0 := h
    by_cases hb : (tk A (10 + x) y).testBit d = true
    · exact ⟨[], ⟨True.intro, hb⟩, rfl⟩
    · rw [if_neg hb] at h; exact absurd rfl h
  | succ k ih =>
    intro d h
    obtain ⟨c, c1, c2⟩ := sgm_ne _ h
    have c2 : (if (tk A c y).testBit d = true then Wf A x y k c / szw A c y else 0) ≠ 0 := c2
    by_cases hb : (tk A c y).testBit d = true
    · rw [if_pos hb] at c2
      obtain ⟨r, r1, r2⟩ := ih c (fun h0 => c2 (by rw [h0, Nat.zero_div]))
      exact ⟨c :: r, ⟨r1, hb⟩, by rw [List.length_cons, r2]⟩
    · rw [if_neg hb] at c2; exact absurd rfl c2
theorem Wf_end {A : jA} {x y k d : Nat} (hw : wf A) (hr : NR A y) (hx : x < nd A) (hk : 10 ≤ k) : Wf A x y k d = 0 := by
  apply Classical.byContradiction
  intro h
  obtain ⟨r, r1, r2⟩ := Wf_wlk k d h
  have hn := hr x _ hx r1
  have hl := nd_le _ (List.range (ln A)) hn (fun c hc => List.mem_range.mpr (bt_lt cr_lt (wlk_cr hx _ r1 hc)))
  rw [List.length_range, r2] at hl
  have := hw.2.1
  omega
/-- what comes into d for y, of all x -/
def Sf (A : jA) (y d : Nat) : Nat := sgm (fun x => sgm (fun k => Wf A x y k d) 10) (nd A)
/-- what comes into d at once for y -/
def S0 (A : jA) (y d : Nat) : Nat := sgm (fun x => Wf A x y 0 d) (nd A)
theorem Sf_sz {A : jA} {y c d : Nat} (hw : wf A) (hr : NR A y) (h : (tk A c y).testBit d = true) : szw A c y ∣ Sf A y c :=
  sgm_dvd _ (fun x hx => sgm_dvd _ (fun k _ => Wf_sz hw hr hx h))
theorem sgm_shift {f : Nat → Nat} : ∀ m, sgm f (m + 1) = f 0 + sgm (fun i => f (i + 1)) m := by
  intro m
  induction m with
  | zero => show 0 + f 0 = f 0 + 0; omega
  | succ m ih =>
    show sgm f (m + 1) + f (m + 1) = f 0 + (sgm (fun i => f (i + 1)) m + f (m + 1))
    rw [ih]
    omega
theorem Sf_rec {A : jA} {y : Nat} (hw : wf A) (hr : NR A y) (d : Nat) : Sf A y d = S0 A y d + sgm (fun c => if (tk A c y).testBit d = true then Sf A y c / szw A c y else 0) (ln A) := by
  have e1 : ∀ x, x < nd A → sgm (fun k => Wf A x y k d) 10 = Wf A x y 0 d + sgm (fun k => Wf A x y (k + 1) d) 10 := fun x hx => by
    have h1 := sgm_shift (f := fun k => Wf A x y k d) 10
    have h3 := Wf_end (d := d) hw hr hx (Nat.le_refl 10)
    have h2 : sgm (fun k => Wf A x y k d) (10 + 1) = sgm (fun k => Wf A x y k d) 10 := by
      show sgm (fun k => Wf A x y k d) 10 + Wf A x y 10 d = _
      rw [h3]
      rfl
    exact h2.symm.trans h1
  unfold Sf
  rw [sgm_ext _ e1, sgm_add]
  congr 1
  have e2 : ∀ c, c < ln A → (if (tk A c y).testBit d = true then sgm (fun x => sgm (fun k => Wf A x y k c) 10) (nd A) / szw A c y else 0) = sgm (fun x => sgm (fun k => if (tk A c y).testBit d = true then Wf A x y k c / szw A c y else 0) 10) (nd A) := fun c _ => by
    by_cases hb : (tk A c y).testBit d = true
    · rw [if_pos hb, sgm_div (szw_pos hb) _ (fun x hx => sgm_dvd _ (fun k _ => Wf_sz hw hr hx hb))]
      refine sgm_ext _ (fun x hx => ?_)
      rw [sgm_div (szw_pos hb) _ (fun k _ => Wf_sz hw hr hx hb)]
      exact sgm_ext _ (fun k _ => by rw [if_pos hb])
    · rw [if_neg hb]
      have z1 : ∀ x, x < nd A → sgm (fun k => if (tk A c y).testBit d = true then Wf A x y k c / szw A c y else 0) 10 = 0 := fun x _ => by
        rw [sgm_ext (h := fun _ => 0) 10 (fun k _ => by rw [if_neg hb])]
        exact sgm_zero
      rw [sgm_ext (h := fun _ => 0) _ z1]
      exact sgm_zero.symm
  rw [sgm_ext _ e2]
  refine Eq.trans ?_ (sgm_swap (f := fun c x => sgm (fun k => if (tk A c y).testBit d = true then Wf A x y k c / szw A c y else 0) 10) (ln A) (nd A)).symm
  refine sgm_ext _ (fun x _ => ?_)
  exact (sgm_swap (f := fun c k => if (tk A c y).testBit d = true then Wf A x y k c / szw A c y else 0) (ln A) 10).symm
theorem sgm_const {a : Nat} : ∀ m, sgm (fun _ => a) m = m * a := by
  intro m
  induction m with
  | zero => rw [Nat.zero_mul]; rfl
  | succ m ih => show sgm (fun _ => a) m + a = (m + 1) * a; rw [ih, Nat.add_mul, Nat.one_mul]
theorem Wf_le {A : jA} {x y k d : Nat} (hd : d < ln A) : Wf A x y k d ≤ NN A := Nat.le_trans (sgm_mem (f := Wf A x y k) (ln A) hd) (Wf_sum k)
theorem Wf_self {A : jA} {y : Nat} : ∀ k d, Wf A y y k d = 0 := by
  intro k
  induction k with
  | zero =>
    intro d
    show (if (tk A (10 + y) y).testBit d = true then _ else 0) = 0
    rw [tk_self]
    simp
  | succ k ih =>
    intro d
    show sgm _ (ln A) = 0
    rw [sgm_ext (h := fun _ => 0) _ (fun c _ => by rw [ih, Nat.zero_div]; split <;> rfl)]
    exact sgm_zero
