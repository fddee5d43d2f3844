/-! ===== walks, and the number that all parts divide ===== -/
def ct (p : Nat → Bool) : Nat → Nat
  | 0 => 0
  | m + 1 => ct p m + (if p m then 1 else 0)
theorem ct_pcr (s : Nat) : ∀ m, pcr s m = ct (fun i => s.testBit i) m := by
  intro m
  induction m with
  | zero => rfl
  | succ m ih => unfold pcr ct; rw [ih]
theorem ct_le (p : Nat → Bool) : ∀ m, ct p m ≤ m := by
  intro m
  induction m with
  | zero => exact Nat.le_refl _
  | succ m ih => unfold ct; split <;> omega
theorem ct_ext {p q : Nat → Bool} : ∀ m, (∀ i, i < m → p i = q i) → ct p m = ct q m := by
  intro m
  induction m with
  | zero => intro _; rfl
  | succ m ih => intro h; unfold ct; rw [ih (fun i hi => h i (by omega)), h m (by omega)]
theorem ct_add {p q r : Nat → Bool} : ∀ m, (∀ i, i < m → p i = true → r i = true) → (∀ i, i < m → q i = true → r i = true) → (∀ i, i < m → p i = true → q i = true → False) → ct p m + ct q m ≤ ct r m := by
  intro m
  induction m with
  | zero => intro _ _ _; exact Nat.le_refl _
  | succ m ih =>
    intro h1 h2 h3
    have := ih (fun i hi => h1 i (by omega)) (fun i hi => h2 i (by omega)) (fun i hi => h3 i (by omega))
    unfold ct
    have a1 := h1 m (by omega)
    have a2 := h2 m (by omega)
    have a3 := h3 m (by omega)
    cases hp : p m <;> cases hq : q m <;> cases hr : r m
    all_goals first
      | (rw [hp, hq] at a3; exact (a3 rfl rfl).elim)
      | (rw [hp, hr] at a1; exact absurd (a1 rfl) (by decide))
      | (rw [hq, hr] at a2; exact absurd (a2 rfl) (by decide))
      | simp
    all_goals omega
theorem ct_one {p q : Nat → Bool} {c : Nat} : ∀ m, c < m → (∀ i, i < m → q i = (p i || decide (i = c))) → p c = false → ct q m = ct p m + 1 := by
  intro m
  induction m with
  | zero => intro h; omega
  | succ m ih =>
    intro hc h hp
    unfold ct
    by_cases hm : c = m
    · subst hm
      rw [h c (by omega), hp, ct_ext (p := q) (q := p) c (fun i hi => by rw [h i (by omega), decide_eq_false (show ¬ i = c by omega), Bool.or_false])]
      simp
    · rw [ih (by omega) (fun i hi => h i (by omega)) hp, h m (by omega), decide_eq_false (show ¬ m = c by omega), Bool.or_false]
      omega
theorem ct_pos {p : Nat → Bool} {c : Nat} : ∀ m, c < m → p c = true → 0 < ct p m := by
  intro m
  induction m with
  | zero => intro h; omega
  | succ m ih =>
    intro hc hp
    unfold ct
    by_cases hm : c = m
    · subst hm; rw [hp]; simp
    · have := ih (by omega) hp; omega
def lk (k : Nat) : Nat := if k ≤ 1 then 1 else if k = 2 then 2 else if k = 3 then 6 else if k = 4 then 12 else if k ≤ 6 then 60 else if k = 7 then 420 else if k = 8 then 840 else 2520
theorem lk_dvd {s k : Nat} (h1 : 1 ≤ s) (h2 : s ≤ k) (h3 : k ≤ 10) : s ∣ lk k := by
  have : ∀ k : Fin 11, ∀ s : Fin 11, 1 ≤ s.val → s.val ≤ k.val → lk k.val % s.val = 0 := by decide +kernel
  exact Nat.dvd_of_mod_eq_zero (this ⟨k, by omega⟩ ⟨s, by omega⟩ h1 h2)
def gk (o : Nat) : Nat → Nat
  | 0 => 1
  | q + 1 => gk o q * lk (o - q)
theorem gk_dvd {o a : Nat} : ∀ b, a ≤ b → gk o a ∣ gk o b := by
  intro b
  induction b with
  | zero => intro h; rw [show a = 0 by omega]; exact Nat.dvd_refl _
  | succ b ih =>
    intro h
    by_cases hb : a = b + 1
    · rw [hb]; exact Nat.dvd_refl _
    · exact Nat.dvd_trans (ih (by omega)) ⟨lk (o - b), rfl⟩
def gm (o : Nat) : Nat := gk o (min o (11 - o))
/-- the product of f below m -/
def pd (f : Nat → Nat) : Nat → Nat
  | 0 => 1
  | m + 1 => pd f m * f m
theorem pd_ext {f h : Nat → Nat} : ∀ m, (∀ i, i < m → f i = h i) → pd f m = pd h m := by
  intro m
  induction m with
  | zero => intro _; rfl
  | succ m ih => intro hh; unfold pd; rw [ih (fun i hi => hh i (by omega)), hh m (by omega)]
theorem pd_dvd {f h : Nat → Nat} : ∀ m, (∀ i, i < m → f i ∣ h i) → pd f m ∣ pd h m := by
  intro m
  induction m with
  | zero => intro _; exact Nat.dvd_refl _
  | succ m ih => intro hh; unfold pd; exact Nat.mul_dvd_mul (ih (fun i hi => hh i (by omega))) (hh m (by omega))
theorem pd_one {f h : Nat → Nat} {v a : Nat} : ∀ m, v < m → (∀ i, i < m → i ≠ v → h i = f i) → h v = f v * a → pd h m = pd f m * a := by
  intro m
  induction m with
  | zero => intro hh; omega
  | succ m ih =>
    intro hv h1 h2
    unfold pd
    by_cases hm : v = m
    · subst hm
      rw [pd_ext (f := h) (h := f) v (fun i hi => h1 i (by omega) (by omega)), h2, Nat.mul_assoc]
    · rw [ih (by omega) (fun i hi => h1 i (by omega)) h2, h1 m (by omega) (fun h => hm h.symm), Nat.mul_assoc, Nat.mul_comm a, Nat.mul_assoc]
/-- how many lanes leave v -/
def od (A : jA) (v : Nat) : Nat := ct (fun d => decide (fr A d = v)) (ln A)
def NN (A : jA) : Nat := pd (fun v => gm (od A v)) (nd A)
/-- walks for y from x: the last lane first -/
def ptw (x : Nat) : List Nat → Nat
  | [] => 10 + x
  | c :: _ => c
def wlk (A : jA) (x y : Nat) : List Nat → Prop
  | [] => True
  | c :: r => wlk A x y r ∧ (tk A (ptw x r) y).testBit c = true
def szw (A : jA) (p y : Nat) : Nat := pcr (tk A p y) (ln A)
def szl (A : jA) (x y : Nat) : List Nat → Nat
  | [] => 1
  | _ :: r => szl A x y r * szw A (ptw x r) y
theorem tk_bit {A : jA} {p y d : Nat} (h : (tk A p y).testBit d = true) : d < ln A ∧ fr A d = tx A p := by
  unfold tk at h
  rw [mk_bit, Bool.and_eq_true, decide_eq_true_iff] at h
  refine ⟨h.1, ?_⟩
  have h2 := h.2
  unfold tq at h2
  rw [Bool.and_eq_true] at h2
  have h3 := h2.1
  unfold tb at h3
  simp only [Bool.and_eq_true, decide_eq_true_eq] at h3
  exact h3.1.1.1.2
def usd (A : jA) (v : Nat) (r : List Nat) : Nat := ct (fun d => decide (d ∈ r) && decide (fr A d = v)) (ln A)
def ind' (A : jA) (v : Nat) (r : List Nat) : Nat := ct (fun d => decide (d ∈ r) && decide (tt A d = v)) (ln A)
theorem mem_step {c : Nat} {r : List Nat} {f : Nat → Nat} {v : Nat} (i : Nat) (hf : f c = v) : (decide (i ∈ c :: r) && decide (f i = v)) = ((decide (i ∈ r) && decide (f i = v)) || decide (i = c)) := by
  by_cases h : i = c
  · subst h
    rw [decide_eq_true (List.mem_cons_self ..), decide_eq_true hf, decide_eq_true rfl, Bool.or_true]; rfl
  · rw [decide_eq_false h, Bool.or_false]
    congr 1
    exact decide_eq_decide.mpr ⟨fun hm => (List.mem_cons.mp hm).resolve_left h, fun hm => List.mem_cons_of_mem _ hm⟩
theorem mem_same {c : Nat} {r : List Nat} {f : Nat → Nat} {v : Nat} (i : Nat) (hf : f c ≠ v) : (decide (i ∈ c :: r) && decide (f i = v)) = (decide (i ∈ r) && decide (f i = v)) := by
  by_cases h : i = c
  · subst h
    rw [decide_eq_false hf, Bool.and_false, Bool.and_false]
  · congr 1
    exact decide_eq_decide.mpr ⟨fun hm => (List.mem_cons.mp hm).resolve_left h, fun hm => List.mem_cons_of_mem _ hm⟩
theorem ct_step {A : jA} {c v : Nat} {r : List Nat} {f : Nat → Nat} (hc : c < ln A) (hm : ¬ c ∈ r) : ct (fun d => decide (d ∈ c :: r) && decide (f d = v)) (ln A) = ct (fun d => decide (d ∈ r) && decide (f d = v)) (ln A) + (if f c = v then 1 else 0) := by
  by_cases h : f c = v
  · rw [if_pos h]
    exact ct_one _ hc (fun i _ => mem_step i h) (by rw [decide_eq_false hm]; rfl)
  · rw [if_neg h, Nat.add_zero]
    exact ct_ext _ (fun i _ => mem_same i h)
/-- no lane comes twice on a walk for y -/
def NR (A : jA) (y : Nat) : Prop := ∀ x r, x < nd A → wlk A x y r → r.Nodup
theorem wlk_flow {A : jA} {x y : Nat} (hw : wf A) (hr : NR A y) (hx : x < nd A) (v : Nat) : ∀ r, wlk A x y r → usd A v r + (if tx A (ptw x r) = v then 1 else 0) = ind' A v r + (if x = v then 1 else 0) := by
  intro r
  induction r with
  | nil =>
    intro _
    have e1 : usd A v [] = ind' A v [] := by
      unfold usd ind'
      exact ct_ext _ (fun i _ => by rw [decide_eq_false (List.not_mem_nil), Bool.false_and, Bool.false_and])
    have e2 : tx A (ptw x []) = x := by
      show tx A (10 + x) = x
      unfold tx
      rw [if_neg (by omega)]
      omega
    rw [e1, e2]
  | cons c r ih =>
    intro h
    have hn := hr x (c :: r) hx h
    rw [List.nodup_cons] at hn
    obtain ⟨b1, b2⟩ := tk_bit h.2
    have i1 := ih h.1
    have s1 : usd A v (c :: r) = usd A v r + (if fr A c = v then 1 else 0) := ct_step (f := fr A) b1 hn.1
    have s2 : ind' A v (c :: r) = ind' A v r + (if tt A c = v then 1 else 0) := ct_step (f := tt A) b1 hn.1
    have e2 : tx A (ptw x (c :: r)) = tt A c := by show tx A c = tt A c; unfold tx; rw [if_pos (Nat.lt_of_lt_of_le b1 hw.2.1)]
    rw [s1, s2, e2, b2]
    omega
theorem od_le {A : jA} (hw : wf A) (v : Nat) : od A v ≤ 10 := Nat.le_trans (ct_le _ _) hw.2.1
theorem ind_le {A : jA} (hw : wf A) (v : Nat) (r : List Nat) : ind' A v r + od A v ≤ 10 := by
  have h1 := ct_add (p := fun d => decide (d ∈ r) && decide (tt A d = v)) (q := fun d => decide (fr A d = v)) (r := fun _ => true) (ln A) (fun _ _ _ => rfl) (fun _ _ _ => rfl) (fun i hi a b => by
    rw [Bool.and_eq_true, decide_eq_true_iff, decide_eq_true_iff] at a
    rw [decide_eq_true_iff] at b
    exact (hw.2.2.2.1 i hi).2.2.1 (by rw [a.2, b]))
  have h2 := ct_le (fun _ => true) (ln A)
  have h3 := hw.2.1
  unfold ind' od
  omega
theorem usd_le {A : jA} {x y v : Nat} {r : List Nat} (hw : wf A) (hr : NR A y) (hx : x < nd A) (h : wlk A x y r) : usd A v r ≤ min (od A v) (11 - od A v) := by
  have h1 := wlk_flow hw hr hx v r h
  have h2 := ind_le hw v r
  have h3 : usd A v r ≤ od A v := by
    have := ct_add (p := fun d => decide (d ∈ r) && decide (fr A d = v)) (q := fun _ => false) (r := fun d => decide (fr A d = v)) (ln A) (fun i _ a => by rw [Bool.and_eq_true] at a; exact a.2) (fun i _ a => by cases a) (fun i _ _ b => by cases b)
    unfold usd od
    omega
  have h4 : (if x = v then 1 else 0) ≤ 1 := by split <;> omega
  have h5 : usd A v r ≤ 11 - od A v := by omega
  exact Nat.le_min.mpr ⟨h3, h5⟩
/-- the sizes along a walk -/
theorem szl_dvd {A : jA} {x y : Nat} (hw : wf A) (hr : NR A y) (hx : x < nd A) : ∀ r, wlk A x y r → szl A x y r ∣ pd (fun v => gk (od A v) (usd A v r)) (nd A) := by
  intro r
  induction r with
  | nil => intro _; exact Nat.one_dvd _
  | cons c r ih =>
    intro h
    have hn := hr x (c :: r) hx h
    rw [List.nodup_cons] at hn
    obtain ⟨b1, b2⟩ := tk_bit h.2
    have hv : fr A c < nd A := (hw.2.2.2.1 c b1).1
    have s1 : ∀ v, usd A v (c :: r) = usd A v r + (if fr A c = v then 1 else 0) := fun v => ct_step (f := fr A) b1 hn.1
    have hp : pd (fun v => gk (od A v) (usd A v (c :: r))) (nd A) = pd (fun v => gk (od A v) (usd A v r)) (nd A) * lk (od A (fr A c) - usd A (fr A c) r) := by
      refine pd_one (v := fr A c) _ hv (fun i _ hi => ?_) ?_
      · show gk (od A i) (usd A i (c :: r)) = gk (od A i) (usd A i r)
        rw [s1, if_neg (fun h => hi h.symm), Nat.add_zero]
      · show gk (od A (fr A c)) (usd A (fr A c) (c :: r)) = _
        rw [s1, if_pos rfl]
        rfl
    rw [hp]
    have hsz : szw A (ptw x r) y + usd A (fr A c) r ≤ od A (fr A c) := by
      unfold szw usd od
      rw [ct_pcr]
      refine ct_add _ (fun i _ a => decide_eq_true (by rw [(tk_bit a).2, b2])) (fun i _ a => by rw [Bool.and_eq_true] at a; exact a.2) (fun i _ a b => ?_)
      rw [Bool.and_eq_true, decide_eq_true_iff] at b
      have hn2 := hr x (i :: r) hx ⟨h.1, a⟩
      rw [List.nodup_cons] at hn2
      exact hn2.1 b.1
    have hpos : 1 ≤ szw A (ptw x r) y := by
      unfold szw
      rw [ct_pcr]
      exact ct_pos _ b1 h.2
    have h10 := od_le hw (fr A c)
    exact Nat.mul_dvd_mul (ih h.1) (lk_dvd hpos (by omega) (by omega))
theorem szl_NN {A : jA} {x y : Nat} (hw : wf A) (hr : NR A y) (hx : x < nd A) (r : List Nat) (h : wlk A x y r) : szl A x y r ∣ NN A :=
  Nat.dvd_trans (szl_dvd hw hr hx r h) (pd_dvd _ (fun v _ => gk_dvd _ (usd_le hw hr hx h)))
