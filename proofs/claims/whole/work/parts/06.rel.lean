/-! ===== the small machine's memory, and the heap that holds it ===== -/
/-- the kind of a field: 0 int, 1 boolean, 2 a reference -/
def jv_fts : List (List Nat) := [[2, 2, 2, 2, 2, 2, 2, 0], [0, 0, 0, 0, 0, 0, 0, 0], [2, 2, 2, 2, 2, 2, 2, 0, 0], [0, 0, 2, 2, 2, 2, 2, 2, 2], [2, 2, 2], [2, 2, 2, 2, 2, 2, 2, 2, 1, 0, 0, 0, 0], [2, 2, 2, 2, 2, 0, 0, 0], [2, 2, 2, 0, 0, 0], [2, 2, 2, 2, 2, 0, 0], [2, 2, 2, 2, 2, 2, 2, 2, 1, 0, 0], [2, 2, 2, 2, 0, 0], [2, 2, 2, 2, 2, 2, 2, 2, 2, 2, 0, 0], [0, 0, 2, 2, 2, 0, 0, 2, 2, 2, 2, 2, 0, 0, 0, 2, 2, 2, 2, 2, 2, 0, 2, 2, 2, 0, 2, 0, 2, 2, 2, 2, 2, 2, 2, 2, 2, 2, 0, 2, 2, 0, 0, 0, 2, 2, 2, 2, 2, 2]]
def jv_ft (ci k : Nat) : Nat := (jv_fts.getD ci []).getD k 0
def jr_ad (s0 b : Nat) : Nat → Nat
  | 0 => b
  | j + 1 => s0 + j
def jr_V (s0 b : Nat) (L : jv_L) (a : jv_V) (v : Value) : Prop := match a with
  | .inl i => ∃ w : Int32, v = .int w ∧ w.toInt = i
  | .inr (.inl i) => ∃ w : Int64, v = .long w ∧ w.toInt = i
  | .inr (.inr (.inl p)) => p < L.length ∧ v = .ref (jr_ad s0 b p)
  | .inr (.inr (.inr (.inl (p, i)))) => ∃ n m : Nat, L[p]? = some (2, n, [m]) ∧ 0 ≤ i ∧ i < Int.ofNat n ∧ v = .ref (jr_ad s0 b (p + 1 + i.toNat))
  | .inr (.inr (.inr (.inr (.inl q)))) => (q = 0 ∧ v = .null) ∨ (0 < q ∧ L[(q - 1).toNat]? = some (11, 8, []) ∧ v = .ref (jr_ad s0 b (q - 1).toNat))
  | _ => True
/-- what an entry of the layout keeps -/
def jr_le (L L' : jv_L) : Prop := L.length ≤ L'.length ∧ ∀ (p kd n : Nat) (rs : List Nat), L[p]? = some (kd, n, rs) → ∃ rs', L'[p]? = some (kd, n, rs') ∧ ((kd < 10 ∨ (kd = 11 ∧ rs = [])) → rs' = rs)
theorem jr_le.rf {L : jv_L} : jr_le L L := ⟨Nat.le_refl _, fun _ _ _ rs h => ⟨rs, h, fun _ => rfl⟩⟩
theorem jr_le.tr {L L1 L2 : jv_L} (h1 : jr_le L L1) (h2 : jr_le L1 L2) : jr_le L L2 := by
  refine ⟨Nat.le_trans h1.1 h2.1, fun p kd n rs h => ?_⟩
  obtain ⟨r1, e1, k1⟩ := h1.2 p kd n rs h
  obtain ⟨r2, e2, k2⟩ := h2.2 p kd n r1 e1
  refine ⟨r2, e2, fun hk => ?_⟩
  have := k1 hk
  subst this
  exact k2 hk
theorem jr_le.app (L M : jv_L) : jr_le L (L ++ M) := by
  refine ⟨by simp, fun p kd n rs h => ⟨rs, ?_, fun _ => rfl⟩⟩
  have hp : p < L.length := (List.getElem?_eq_some_iff.mp h).1
  rw [List.getElem?_append_left hp]
  exact h
theorem jr_le.set {L : jv_L} {p kd n : Nat} {rs rs' : List Nat} (h : L[p]? = some (kd, n, rs)) (hk : (kd < 10 ∨ (kd = 11 ∧ rs = [])) → rs' = rs) : jr_le L (L.set p (kd, n, rs')) := by
  have hp : p < L.length := (List.getElem?_eq_some_iff.mp h).1
  refine ⟨by simp, fun q kd' n' r h' => ?_⟩
  by_cases e : q = p
  · subst e
    rw [h] at h'
    cases h'
    exact ⟨rs', by simp [List.getElem?_set, hp], hk⟩
  · exact ⟨r, by rw [List.getElem?_set_ne (Ne.symm e)]; exact h', fun _ => rfl⟩
theorem jr_le.at0 {L L' : jv_L} (h : jr_le L L') {p kd n : Nat} {rs : List Nat} (hk : kd < 10 ∨ (kd = 11 ∧ rs = [])) (e : L[p]? = some (kd, n, rs)) : L'[p]? = some (kd, n, rs) := by
  obtain ⟨r, e1, e2⟩ := h.2 p kd n rs e
  rw [e2 hk] at e1
  exact e1
theorem jr_V.mono {s0 b : Nat} {L L' : jv_L} (h : jr_le L L') {a : jv_V} {v : Value} (hv : jr_V s0 b L a v) : jr_V s0 b L' a v := by
  rcases a with i | i | p | ⟨p, i⟩ | q | u
  · exact hv
  · exact hv
  · exact ⟨Nat.lt_of_lt_of_le hv.1 h.1, hv.2⟩
  · obtain ⟨n, m, e1, e2⟩ := hv
    exact ⟨n, m, h.at0 (Or.inl (by decide)) e1, e2⟩
  · rcases hv with hv | ⟨h1, h2, h3⟩
    · exact Or.inl hv
    · exact Or.inr ⟨h1, h.at0 (Or.inr ⟨rfl, rfl⟩) h2, h3⟩
  · trivial
/-- 0 int, 1 long, 2 a load, 3 a reference: what slot i of a place holds -/
def jr_tg (d : Nat × Nat × List Nat) (i : Nat) : Nat := match d.1 with
  | 0 => 0
  | 1 => 1
  | 2 => 3
  | 3 => 2
  | 4 => 0
  | 5 => 0
  | kd => if jv_ft (kd - 10) i = 2 then 3 else 0
/-- where its number stands -/
def jr_lo (p : Nat) (d : Nat × Nat × List Nat) (i : Nat) : Nat × Int := match d with
  | (4, m, [a, j]) => (a, Int.ofNat j * Int.ofNat m + Int.ofNat i)
  | (11, _, _) => (1000, 8 * (Int.ofNat p + 1) + Int.ofNat i)
  | _ => (p, Int.ofNat i)
def jr_vt (t : Nat) (x : Int) : jv_V := match t with
  | 0 => jv_I x
  | 1 => jv_J x
  | _ => jv_D x
def jr_ct (g : jv_S) (p : Nat) (d : Nat × Nat × List Nat) (i : Nat) : jv_V := match jr_tg d i with
  | 3 => match d.1 with
    | 2 => jv_R p (Int.ofNat i)
    | _ => match d.2.2.getD i 0 with
      | 0 => jv_U
      | q + 1 => jv_P (q + 1)
  | t => jr_vt t (g (jr_lo p d i).1 (jr_lo p d i).2)
def jr_ty (kd : Nat) : FieldType := match kd with
  | 1 => .long
  | 2 => .array .int
  | 3 => .object "LaneWaits$Load"
  | _ => .int
def jr_si (D : va_G) (kd i : Nat) : Nat := if kd < 10 then i else D.2 (kd - 10) i
/-- the shape of a cell: an array of its type and length, or an object of its class -/
def jr_sh (D : va_G) (U : State) (d : Nat × Nat × List Nat) (cell : Cell) : Prop := cell.vm = .none ∧
  ((d.1 < 5 ∧ (∃ f : Nat → Value, cell = arrV cell.cls d.2.1 f) ∧ U.isArrayOf cell (jr_ty d.1) ∧ (d.1 = 3 → va_RA U cell.cls (.object "LaneWaits$Load"))) ∨ (10 ≤ d.1 ∧ cell.cls = D.1 (d.1 - 10) ∧ ∃ r : vw_C, vwCl[d.1 - 10]? = some r ∧ r.2.2 = d.2.1))
def jr_C (s0 b : Nat) (D : va_G) (U : State) (L : jv_L) (g : jv_S) (p : Nat) (d : Nat × Nat × List Nat) (H : Heap) : Prop := ∃ cell : Cell, H[jr_ad s0 b p]? = some cell ∧ jr_sh D U d cell ∧ ∀ i : Nat, i < d.2.1 → ∃ v : Value, cell.slots[jr_si D d.1 i]? = some v ∧ jr_V s0 b L (jr_ct g p d i) v
/-- tables of rows and their rows -/
def jr_W (L : jv_L) : Prop := (∀ (a n : Nat) (rs : List Nat), L[a]? = some (2, n, rs) → ∃ m, rs = [m] ∧ ∀ j, j < n → L[a + 1 + j]? = some (4, m, [a, j])) ∧ (∀ (p m : Nat) (rs : List Nat), L[p]? = some (4, m, rs) → ∃ a j n, rs = [a, j] ∧ p = a + 1 + j ∧ L[a]? = some (2, n, [m]) ∧ j < n) ∧ (∀ (p m : Nat) (rs : List Nat), L[p]? = some (11, m, rs) → m = 8 ∧ rs = []) ∧ ∀ (p : Nat) (d : Nat × Nat × List Nat), L[p]? = some d → d.2.1 < 2147483648
/-- the heap holds the memory (L, g); b: the script's address, s0: the first of the rest's -/
def jr_M (s0 b n : Nat) (xs : Nat → Int32) (D : va_G) (U : State) (L : jv_L) (g : jv_S) (H : Heap) : Prop :=
  L[0]? = some (5, n, []) ∧ H.size + 1 = s0 + L.length ∧ L.length ≤ 999 ∧ b < s0 ∧ va_X b n xs U H ∧ (∀ i : Nat, i < n → (xs i).toInt = g 0 (Int.ofNat i)) ∧ jr_W L ∧ (∀ (p : Nat) (d : Nat × Nat × List Nat), L[p + 1]? = some d → d.1 ≠ 5) ∧ ∀ (p : Nat) (d : Nat × Nat × List Nat), L[p + 1]? = some d → jr_C s0 b D U L g (p + 1) d H
theorem jr_sh.moved {D : va_G} {u U : State} (hvm : u.vm.Alike U.vm) {d : Nat × Nat × List Nat} {cell : Cell} (h : jr_sh D u d cell) : jr_sh D U d cell := by
  refine ⟨h.1, ?_⟩
  rcases h.2 with ⟨h1, h2, h3, h4⟩ | h1
  · exact Or.inl ⟨h1, h2, State.isArrayOf_alike hvm h3, fun e => (h4 e).moved hvm⟩
  · exact Or.inr h1
theorem jr_M.moved {s0 b n : Nat} {xs : Nat → Int32} {D : va_G} {u U : State} {L : jv_L} {g : jv_S} {H : Heap} (hvm : u.vm.Alike U.vm) (h : jr_M s0 b n xs D u L g H) : jr_M s0 b n xs D U L g H := by
  obtain ⟨h1, h2, h3, h4, h5, h6, h7, h8, h9⟩ := h
  refine ⟨h1, h2, h3, h4, h5.moved hvm, h6, h7, h8, fun p d e => ?_⟩
  obtain ⟨cell, c1, c2, c3⟩ := h9 p d e
  exact ⟨cell, c1, c2.moved hvm, c3⟩
theorem jr_sh.setSlot {D : va_G} {U : State} {d : Nat × Nat × List Nat} {cell : Cell} (h : jr_sh D U d cell) (i : Nat) (v : Value) : jr_sh D U d (cell.setSlot i v) := by
  refine ⟨h.1, ?_⟩
  rcases h.2 with ⟨h1, h2, h3, h4⟩ | h1
  · obtain ⟨f, hf⟩ := h2
    refine Or.inl ⟨h1, ⟨updV f i v, ?_⟩, h3, h4⟩
    show cell.setSlot i v = arrV cell.cls d.2.1 (updV f i v)
    rw [← arrV_store, ← hf]
  · exact Or.inr h1
theorem jr_ad_inj {s0 b : Nat} (hb : b < s0) {p q : Nat} (h : jr_ad s0 b p = jr_ad s0 b q) : p = q := by
  cases p <;> cases q <;> simp [jr_ad] at h <;> omega
/-- two slots' numbers stand apart -/
theorem jr_lo_ne {L : jv_L} (hW : jr_W L) (h999 : L.length ≤ 999) {p q i j : Nat} {d e : Nat × Nat × List Nat} (hp : L[p]? = some d) (hq : L[q]? = some e) (hi : i < d.2.1) (hj : j < e.2.1) (hd : d.1 ≠ 2) (he : e.1 ≠ 2) (h8 : d.1 = 11 → d.2.1 = 8) (h8' : e.1 = 11 → e.2.1 = 8) (h : jr_lo p d i = jr_lo q e j) : p = q ∧ i = j := by
  have hpl : p < L.length := (List.getElem?_eq_some_iff.mp hp).1
  have hql : q < L.length := (List.getElem?_eq_some_iff.mp hq).1
  obtain ⟨kd, dn, dr⟩ := d
  obtain ⟨ke, en, er⟩ := e
  dsimp only at hi hj hd he h8 h8'
  by_cases d4 : kd = 4
  · subst d4
    obtain ⟨a, r, n, rfl, ep, ea, hr⟩ := hW.2.1 p dn dr hp
    have hal : a < L.length := (List.getElem?_eq_some_iff.mp ea).1
    by_cases e4 : ke = 4
    · subst e4
      obtain ⟨a', r', n', rfl, ep', ea', hr'⟩ := hW.2.1 q en er hq
      simp only [jr_lo, Prod.mk.injEq] at h
      obtain ⟨rfl, h⟩ := h
      rw [ea] at ea'
      cases ea'
      have h' : r * dn + i = r' * dn + j := by
        have : ((r * dn + i : Nat) : Int) = ((r' * dn + j : Nat) : Int) := by push_cast; simpa using h
        exact Int.ofNat.inj this
      have hm : 0 < dn := by omega
      have q1 : (r * dn + i) / dn = r := by rw [Nat.mul_comm, Nat.mul_add_div hm, Nat.div_eq_of_lt hi, Nat.add_zero]
      have q2 : (r' * dn + j) / dn = r' := by rw [Nat.mul_comm, Nat.mul_add_div hm, Nat.div_eq_of_lt hj, Nat.add_zero]
      have : r = r' := by rw [← q1, ← q2, h']
      subst this
      omega
    · exfalso
      have hne : a ≠ q := by
        intro e
        subst e
        rw [ea] at hq
        cases hq
        exact he rfl
      have h2 : jr_lo p (4, dn, [a, r]) i = (a, Int.ofNat r * Int.ofNat dn + Int.ofNat i) := rfl
      rw [h2] at h
      have hf := congrArg Prod.fst h
      unfold jr_lo at hf
      split at hf
      · next e2 => cases e2; exact e4 rfl
      · dsimp only at hf; omega
      · exact hne hf
  · by_cases e4 : ke = 4
    · subst e4
      obtain ⟨a', r', n', rfl, ep', ea', hr'⟩ := hW.2.1 q en er hq
      have hal : a' < L.length := (List.getElem?_eq_some_iff.mp ea').1
      exfalso
      have hne : a' ≠ p := by
        intro e
        subst e
        rw [ea'] at hp
        cases hp
        exact hd rfl
      have h2 : jr_lo q (4, en, [a', r']) j = (a', Int.ofNat r' * Int.ofNat en + Int.ofNat j) := rfl
      rw [h2] at h
      have hf := congrArg Prod.fst h
      unfold jr_lo at hf
      split at hf
      · next e2 => cases e2; exact d4 rfl
      · dsimp only at hf; omega
      · exact hne hf.symm
    · have g1 : jr_lo p (kd, dn, dr) i = if kd = 11 then (1000, 8 * (Int.ofNat p + 1) + Int.ofNat i) else (p, Int.ofNat i) := by
        unfold jr_lo
        split
        · next e => cases e; exact absurd rfl d4
        · next e => cases e; simp
        · next e1 e2 => rw [if_neg]; rintro rfl; exact e2 _ _ rfl
      have g2 : jr_lo q (ke, en, er) j = if ke = 11 then (1000, 8 * (Int.ofNat q + 1) + Int.ofNat j) else (q, Int.ofNat j) := by
        unfold jr_lo
        split
        · next e => cases e; exact absurd rfl e4
        · next e => cases e; simp
        · next e1 e2 => rw [if_neg]; rintro rfl; exact e2 _ _ rfl
      rw [g1, g2] at h
      by_cases k1 : kd = 11 <;> by_cases k2 : ke = 11 <;> simp [k1, k2] at h
      · have := h8 k1
        have := h8' k2
        omega
      · omega
      · omega
      · omega
/-- a slot that holds a number gets another -/
theorem jr_M.put {s0 b n : Nat} {xs : Nat → Int32} {D : va_G} {U : State} {L : jv_L} {g : jv_S} {H H' : Heap} (hM : jr_M s0 b n xs D U L g H) {p i : Nat} {d : Nat × Nat × List Nat} (hp : L[p + 1]? = some d) (hi : i < d.2.1) {t : Nat} (ht : jr_tg d i = t) (ht3 : t ≠ 3) {x : Int} {v : Value} (hv : jr_V s0 b L (jr_vt t x) v) {cell : Cell} (hc : H[jr_ad s0 b (p + 1)]? = some cell)
    (hap : ∀ j, j < d.2.1 → j ≠ i → jr_si D d.1 j ≠ jr_si D d.1 i) (e1 : H'[jr_ad s0 b (p + 1)]? = some (cell.setSlot (jr_si D d.1 i) v)) (e2 : H'.size = H.size) (e3 : ∀ q, q ≠ jr_ad s0 b (p + 1) → H'[q]? = H[q]?) :
    jr_M s0 b n xs D U L (jv_up g (jr_lo (p + 1) d i).1 (jr_lo (p + 1) d i).2 x) H' := by
  obtain ⟨h1, h2, h3, h4, h5, h6, h7, h8, h9⟩ := hM
  have h11 : ∀ (p m : Nat) (rs : List Nat), L[p]? = some (11, m, rs) → m = 8 := fun p m rs h => (h7.2.2.1 p m rs h).1
  have hd2 : d.1 ≠ 2 := by
    intro e
    apply ht3
    rw [← ht]
    unfold jr_tg
    rw [e]
    rfl
  have hd8 : d.1 = 11 → d.2.1 = 8 := by
    intro e
    obtain ⟨kd, m, rs⟩ := d
    dsimp only at e
    subst e
    exact h11 _ m rs hp
  have hne0 : (jr_lo (p + 1) d i).1 ≠ 0 := by
    unfold jr_lo
    split
    · obtain ⟨a, j, n', e1, e2, e3, e4⟩ := h7.2.1 _ _ _ hp
      cases e1
      rintro rfl
      rw [h1] at e3
      cases e3
    · simp
    · simp
  refine ⟨h1, by rw [e2]; exact h2, h3, h4, h5.kept (e3 b (by simp [jr_ad]; omega)), fun j hj => ?_, h7, h8, fun q e hq => ?_⟩
  · rw [h6 j hj]
    simp only [jv_up]
    rw [if_neg (fun hh => hne0 hh.1.symm)]
  · obtain ⟨cq, c1, c2, c3⟩ := h9 q e hq
    by_cases epq : q = p
    · subst epq
      have := hp.symm.trans hq
      cases this
      have := hc.symm.trans c1
      cases this
      refine ⟨_, e1, c2.setSlot _ _, fun j hj => ?_⟩
      by_cases eji : j = i
      · subst eji
        obtain ⟨w, w1, w2⟩ := c3 j hj
        refine ⟨v, ?_, ?_⟩
        · have hs : jr_si D d.1 j < cell.slots.size := (Array.getElem?_eq_some_iff.mp w1).1
          simp [Cell.setSlot, Array.getElem?_setIfInBounds, hs]
        · unfold jr_ct
          rw [ht]
          split
          · exact absurd rfl ht3
          · simp only [jv_up, and_self, if_true]
            exact hv
      · obtain ⟨w, w1, w2⟩ := c3 j hj
        refine ⟨w, ?_, ?_⟩
        · have := hap j hj eji
          simp [Cell.setSlot, Array.getElem?_setIfInBounds, Ne.symm this, w1]
        · have hlo : jr_tg d j ≠ 3 → jr_lo (q + 1) d j ≠ jr_lo (q + 1) d i := fun _ e => eji (jr_lo_ne h7 h3 hp hp hj hi hd2 hd2 hd8 hd8 e).2
          unfold jr_ct at w2 ⊢
          split
          · next e =>
            rw [e] at w2
            exact w2
          · next t' e =>
            split at w2
            · next e' => exact absurd e' e
            · have := hlo e
              simp only [jv_up]
              rw [if_neg (fun hh => this (Prod.ext hh.1 hh.2))]
              exact w2
    · have hpq : jr_ad s0 b (q + 1) ≠ jr_ad s0 b (p + 1) := fun e => epq (by have := jr_ad_inj h4 e; omega)
      refine ⟨cq, by rw [e3 _ hpq]; exact c1, c2, fun j hj => ?_⟩
      obtain ⟨w, w1, w2⟩ := c3 j hj
      refine ⟨w, w1, ?_⟩
      unfold jr_ct at w2 ⊢
      split
      · next et =>
        rw [et] at w2
        exact w2
      · next t' et =>
        split at w2
        · next e' => exact absurd e' et
        · have he2 : e.1 ≠ 2 := by
            intro e2
            apply et
            unfold jr_tg
            rw [e2]
            rfl
          have he8 : e.1 = 11 → e.2.1 = 8 := by
            intro e8
            obtain ⟨ke, m, rs⟩ := e
            dsimp only at e8
            subst e8
            exact h11 _ m rs hq
          have : jr_lo (q + 1) e j ≠ jr_lo (p + 1) d i := fun e0 => epq (by have := (jr_lo_ne h7 h3 hq hp hj hi he2 hd2 he8 hd8 e0).1; omega)
          simp only [jv_up]
          rw [if_neg (fun hh => this (Prod.ext hh.1 hh.2))]
          exact w2
/-- content is the same where the numbers are -/
theorem jr_ct_same {g g' : jv_S} {p : Nat} {d : Nat × Nat × List Nat} {i : Nat} (h : jr_tg d i ≠ 3 → g' (jr_lo p d i).1 (jr_lo p d i).2 = g (jr_lo p d i).1 (jr_lo p d i).2) : jr_ct g' p d i = jr_ct g p d i := by
  unfold jr_ct
  split
  · rfl
  · next t e => rw [h e]
theorem jr_tg_2 {d : Nat × Nat × List Nat} {i : Nat} (h : jr_tg d i ≠ 3) : d.1 ≠ 2 := by
  intro e
  apply h
  unfold jr_tg
  rw [e]
  rfl
/-- one cell is another now, and only its numbers -/
theorem jr_M.repl {s0 b n : Nat} {xs : Nat → Int32} {D : va_G} {U : State} {L : jv_L} {g g' : jv_S} {H H' : Heap} (hM : jr_M s0 b n xs D U L g H) {p : Nat} {d : Nat × Nat × List Nat} (hp : L[p + 1]? = some d) {cell : Cell} (hs : jr_sh D U d cell) (hv : ∀ i : Nat, i < d.2.1 → ∃ v : Value, cell.slots[jr_si D d.1 i]? = some v ∧ jr_V s0 b L (jr_ct g' (p + 1) d i) v)
    (hg : ∀ (q : Nat) (e : Nat × Nat × List Nat) (j : Nat), L[q]? = some e → j < e.2.1 → q ≠ p + 1 → jr_tg e j ≠ 3 → g' (jr_lo q e j).1 (jr_lo q e j).2 = g (jr_lo q e j).1 (jr_lo q e j).2)
    (e1 : H'[jr_ad s0 b (p + 1)]? = some cell) (e2 : H'.size = H.size) (e3 : ∀ q, q ≠ jr_ad s0 b (p + 1) → H'[q]? = H[q]?) : jr_M s0 b n xs D U L g' H' := by
  obtain ⟨h1, h2, h3, h4, h5, h6, h7, h8, h9⟩ := hM
  refine ⟨h1, by rw [e2]; exact h2, h3, h4, h5.kept (e3 b (by simp [jr_ad]; omega)), fun j hj => ?_, h7, h8, fun q e hq => ?_⟩
  · rw [h6 j hj]
    exact (hg 0 _ j h1 hj (by omega) (by simp [jr_tg])).symm
  · by_cases epq : q = p
    · subst epq
      have := hp.symm.trans hq
      cases this
      exact ⟨cell, e1, hs, hv⟩
    · obtain ⟨cq, c1, c2, c3⟩ := h9 q e hq
      have hpq : jr_ad s0 b (q + 1) ≠ jr_ad s0 b (p + 1) := fun e => epq (by have := jr_ad_inj h4 e; omega)
      refine ⟨cq, by rw [e3 _ hpq]; exact c1, c2, fun j hj => ?_⟩
      obtain ⟨w, w1, w2⟩ := c3 j hj
      exact ⟨w, w1, by rw [jr_ct_same (fun ht => hg (q + 1) e j hq hj (by omega) ht)]; exact w2⟩
/-- new cells behind the rest -/
theorem jr_M.grow {s0 b n : Nat} {xs : Nat → Int32} {D : va_G} {U : State} {L N : jv_L} {g g' : jv_S} {H H' : Heap} (hM : jr_M s0 b n xs D U L g H) (hz : H'.size = H.size + N.length) (ho : ∀ q, q < H.size → H'[q]? = H[q]?) (hW : jr_W (L ++ N)) (h5' : ∀ d ∈ N, d.1 ≠ 5) (h999 : (L ++ N).length ≤ 999)
    (hg : ∀ (q : Nat) (e : Nat × Nat × List Nat) (j : Nat), L[q]? = some e → j < e.2.1 → jr_tg e j ≠ 3 → g' (jr_lo q e j).1 (jr_lo q e j).2 = g (jr_lo q e j).1 (jr_lo q e j).2)
    (hn : ∀ (j : Nat) (d : Nat × Nat × List Nat), N[j]? = some d → jr_C s0 b D U (L ++ N) g' (L.length + j) d H') : jr_M s0 b n xs D U (L ++ N) g' H' := by
  obtain ⟨h1, h2, h3, h4, h5, h6, h7, h8, h9⟩ := hM
  have hl : 0 < L.length := (List.getElem?_eq_some_iff.mp h1).1
  refine ⟨by rw [List.getElem?_append_left hl]; exact h1, by rw [List.length_append]; omega, h999, h4, h5.kept (ho b (by omega)), fun j hj => ?_, hW, fun p d hp => ?_, fun p d hp => ?_⟩
  · rw [h6 j hj]
    exact (hg 0 _ j h1 hj (by simp [jr_tg])).symm
  · by_cases hl : p + 1 < L.length
    · rw [List.getElem?_append_left hl] at hp
      exact h8 p d hp
    · rw [List.getElem?_append_right (by omega)] at hp
      exact h5' d (List.mem_of_getElem? hp)
  · by_cases hl : p + 1 < L.length
    · rw [List.getElem?_append_left hl] at hp
      obtain ⟨cq, c1, c2, c3⟩ := h9 p d hp
      have hlt : jr_ad s0 b (p + 1) < H.size := (Array.getElem?_eq_some_iff.mp c1).1
      refine ⟨cq, by rw [ho _ hlt]; exact c1, c2, fun j hj => ?_⟩
      obtain ⟨w, w1, w2⟩ := c3 j hj
      exact ⟨w, w1, by rw [jr_ct_same (fun ht => hg (p + 1) d j hp hj ht)]; exact w2.mono (jr_le.app L N)⟩
    · rw [List.getElem?_append_right (by omega)] at hp
      have := hn (p + 1 - L.length) d hp
      rw [show L.length + (p + 1 - L.length) = p + 1 by omega] at this
      exact this
/-- a field that holds a reference gets one -/
theorem jr_M.putr {s0 b n : Nat} {xs : Nat → Int32} {D : va_G} {U : State} {L : jv_L} {g : jv_S} {H H' : Heap} (hM : jr_M s0 b n xs D U L g H) {p i kd m : Nat} {rs : List Nat} (hp : L[p + 1]? = some (kd, m, rs)) (hk : 10 ≤ kd) (hk11 : kd ≠ 11) (hi : i < m) (hr : i < rs.length) (ht : jv_ft (kd - 10) i = 2) {q : Nat} (hq : q + 1 < L.length) {cell : Cell} (hc : H[jr_ad s0 b (p + 1)]? = some cell)
    (hap : ∀ j, j < m → j ≠ i → jr_si D kd j ≠ jr_si D kd i) (e1 : H'[jr_ad s0 b (p + 1)]? = some (cell.setSlot (jr_si D kd i) (.ref (jr_ad s0 b (q + 1))))) (e2 : H'.size = H.size) (e3 : ∀ q, q ≠ jr_ad s0 b (p + 1) → H'[q]? = H[q]?) :
    jr_M s0 b n xs D U (L.set (p + 1) (kd, m, rs.set i (q + 1))) g H' := by
  obtain ⟨h1, h2, h3, h4, h5, h6, h7, h8, h9⟩ := hM
  have hpl : p + 1 < L.length := (List.getElem?_eq_some_iff.mp hp).1
  have hle : jr_le L (L.set (p + 1) (kd, m, rs.set i (q + 1))) := jr_le.set hp (fun h => by omega)
  have hset : ∀ (x kd' n' : Nat) (r : List Nat), kd' ≠ kd → (L.set (p + 1) (kd, m, rs.set i (q + 1)))[x]? = some (kd', n', r) → L[x]? = some (kd', n', r) := by
    intro x kd' n' r hne h
    by_cases e : x = p + 1
    · subst e
      rw [List.getElem?_set_self hpl] at h
      cases h
      exact absurd rfl hne
    · rw [List.getElem?_set_ne (Ne.symm e)] at h
      exact h
  refine ⟨hle.at0 (Or.inl (by decide)) h1, by rw [e2, List.length_set]; exact h2, by rw [List.length_set]; exact h3, h4, h5.kept (e3 b (by simp [jr_ad]; omega)), h6, ⟨fun a n' r h => ?_, fun x m' r h => ?_, fun x m' r h => h7.2.2.1 x m' r (hset x _ _ _ (Ne.symm hk11) h), fun x d h => ?_⟩, fun x d h => ?_, fun x d h => ?_⟩
  · obtain ⟨m', e1, e2⟩ := h7.1 a n' r (hset a _ _ _ (by omega) h)
    exact ⟨m', e1, fun j hj => hle.at0 (Or.inl (by decide)) (e2 j hj)⟩
  · obtain ⟨a, j, n', e1, e2, e3, e4⟩ := h7.2.1 x m' r (hset x _ _ _ (by omega) h)
    exact ⟨a, j, n', e1, e2, hle.at0 (Or.inl (by decide)) e3, e4⟩
  · by_cases e : x = p + 1
    · subst e
      rw [List.getElem?_set_self hpl] at h
      cases h
      exact h7.2.2.2 (p + 1) (kd, m, rs) hp
    · rw [List.getElem?_set_ne (Ne.symm e)] at h
      exact h7.2.2.2 x d h
  · by_cases e : x = p
    · subst e
      rw [List.getElem?_set_self hpl] at h
      cases h
      show kd ≠ 5
      omega
    · rw [List.getElem?_set_ne (by omega)] at h
      exact h8 x d h
  · by_cases e : x = p
    · subst e
      rw [List.getElem?_set_self hpl] at h
      cases h
      obtain ⟨cq, c1, c2, c3⟩ := h9 x _ hp
      have := hc.symm.trans c1
      cases this
      refine ⟨_, e1, ?_, fun j hj => ?_⟩
      · refine ⟨c2.1, ?_⟩
        rcases c2.2 with hh | hh
        · have := hh.1
          dsimp only at this
          omega
        · exact Or.inr hh
      · by_cases eji : j = i
        · subst eji
          obtain ⟨w, w1, w2⟩ := c3 j hj
          refine ⟨.ref (jr_ad s0 b (q + 1)), ?_, ?_⟩
          · have hs : jr_si D kd j < cell.slots.size := (Array.getElem?_eq_some_iff.mp w1).1
            simp [Cell.setSlot, Array.getElem?_setIfInBounds, hs]
          · have : jr_ct g (x + 1) (kd, m, rs.set j (q + 1)) j = jv_P (q + 1) := by
              unfold jr_ct
              have : jr_tg (kd, m, rs.set j (q + 1)) j = 3 := by
                unfold jr_tg
                dsimp only
                split <;> first | omega | simp [ht]
              rw [this]
              dsimp only
              rw [show (rs.set j (q + 1)).getD j 0 = q + 1 by simp [List.getD, hr]]
              obtain ⟨kd', rfl⟩ : ∃ z, kd = z + 3 := ⟨kd - 3, by omega⟩
              rfl
            rw [this]
            exact ⟨by rw [List.length_set]; exact hq, rfl⟩
        · obtain ⟨w, w1, w2⟩ := c3 j hj
          refine ⟨w, ?_, ?_⟩
          · have := hap j hj eji
            simp only [Cell.setSlot, Array.getElem?_setIfInBounds]
            rw [if_neg (Ne.symm this)]
            exact w1
          · have : jr_ct g (x + 1) (kd, m, rs.set i (q + 1)) j = jr_ct g (x + 1) (kd, m, rs) j := by
              unfold jr_ct
              have e1 : jr_tg (kd, m, rs.set i (q + 1)) j = jr_tg (kd, m, rs) j := rfl
              have lo : ∀ r : List Nat, jr_lo (x + 1) (kd, m, r) j = (x + 1, Int.ofNat j) := by
                intro r
                unfold jr_lo
                split
                · next e => have := congrArg Prod.fst e; dsimp only at this; omega
                · next e => have := congrArg Prod.fst e; dsimp only at this; omega
                · rfl
              have e2 : jr_lo (x + 1) (kd, m, rs.set i (q + 1)) j = jr_lo (x + 1) (kd, m, rs) j := by rw [lo, lo]
              rw [e1, e2]
              dsimp only
              rw [show (rs.set i (q + 1)).getD j 0 = rs.getD j 0 by simp [List.getD, List.getElem?_set_ne (Ne.symm eji)]]
            rw [this]
            exact w2.mono hle
    · rw [List.getElem?_set_ne (by omega)] at h
      obtain ⟨cq, c1, c2, c3⟩ := h9 x d h
      have hpq : jr_ad s0 b (x + 1) ≠ jr_ad s0 b (p + 1) := fun e' => e (by have := jr_ad_inj h4 e'; omega)
      refine ⟨cq, by rw [e3 _ hpq]; exact c1, c2, fun j hj => ?_⟩
      obtain ⟨w, w1, w2⟩ := c3 j hj
      exact ⟨w, w1, w2.mono hle⟩
