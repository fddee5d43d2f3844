/-! ===== the layout only grows ===== -/
def js_P (L : jv_L) (q : jv_Go) : Prop := jr_le L q.2.2.2.1 ∧ js_sz L ≤ js_sz q.2.2.2.1
def js_mn (L : jv_L) (g : jv_S) (nx : jv_N) : Prop := match nx with
  | .inl (li, d) => js_P L d ∧ ∀ x ∈ li, js_P L x.2
  | .inr (.inl (_, f)) => ∀ v, js_P L (f v)
  | .inr (.inr (.inl (_, f))) => ∀ v, js_P L (f v)
  | .inr (.inr (.inr (.inl (_, L', g')))) => L' = L ∧ g' = g
  | _ => True
def js_Gd (L : jv_L) (g : jv_S) (x : jv_X) : Prop := ∀ cs nx, x = some (cs, nx) → js_mn L g nx
section
variable {L : jv_L} {g : jv_S}
theorem js_Gd.no : js_Gd L g none := fun _ _ h => by cases h
theorem js_Gd.go {pc : Nat} {ls st : List jv_V} {g' : jv_S} : js_Gd L g (jv_goR pc ls st L g') := fun _ _ h => by
  cases h
  exact ⟨⟨jr_le.rf, Nat.le_refl _⟩, fun _ hx => by cases hx⟩
theorem js_Gd.goA {pc : Nat} {ls st : List jv_V} {g' : jv_S} {N : jv_L} : js_Gd L g (jv_goR pc ls st (L ++ N) g') := fun _ _ h => by
  cases h
  exact ⟨⟨jr_le.app _ _, by show js_sz L ≤ js_sz (L ++ N); rw [js_sz_app]; omega⟩, fun _ hx => by cases hx⟩
theorem js_sz_set : ∀ (M : jv_L) (i : Nat) (d d' : Nat × Nat × List Nat), M[i]? = some d → d'.2.1 = d.2.1 → js_sz (M.set i d') = js_sz M := by
  intro M
  induction M with
  | nil => intro i d d' h _; cases h
  | cons x t ih =>
    intro i d d' h hd'
    cases i with
    | zero => cases h; simp [js_sz, hd']
    | succ i => simp only [List.set_cons_succ, js_sz]; rw [ih i d d' (by simpa using h) hd']
theorem js_Gd.goS {pc : Nat} {ls st : List jv_V} {g' : jv_S} {i kd n : Nat} {rs rs' : List Nat} (h : L[i]? = some (kd, n, rs)) (hk : (kd < 10 ∨ (kd = 11 ∧ rs = [])) → rs' = rs) : js_Gd L g (jv_goR pc ls st (L.set i (kd, n, rs')) g') := fun _ _ h' => by
  cases h'
  exact ⟨⟨jr_le.set h hk, by show js_sz L ≤ js_sz (L.set i (kd, n, rs')); rw [js_sz_set L i _ (kd, n, rs') h rfl]; exact Nat.le_refl _⟩, fun _ hx => by cases hx⟩
theorem js_Gd.ck {c : Prop} {d : Decidable c} {x : jv_X} (h : js_Gd L g x) : js_Gd L g (jv_ckR c d x) := fun cs nx he => by
  cases x with
  | none => cases he
  | some y => obtain ⟨c1, n1⟩ := y; cases he; exact h _ _ rfl
theorem js_Gd.br {c : Prop} {d : Decidable c} {a b : jv_X} (ha : js_Gd L g a) (hb : js_Gd L g b) : js_Gd L g (jv_brR c d a b) := fun cs nx he => by
  unfold jv_brR at he
  split at he
  · cases he
    obtain ⟨h1, -⟩ := ha _ _ rfl
    obtain ⟨h2, h3⟩ := hb _ _ rfl
    refine ⟨h2, fun x hx => ?_⟩
    rcases List.mem_cons.mp hx with rfl | hx
    · exact h1
    · exact h3 x hx
  · cases he
theorem js_Gd.a32 {z : Int} {pc : Nat} {ls st : Int → List jv_V} {g' : jv_S} : js_Gd L g (jv_aR32 z (fun v => jv_goR pc (ls v) (st v) L g')) := fun _ _ h => by
  cases h
  exact fun v => ⟨jr_le.rf, Nat.le_refl _⟩
theorem js_Gd.a64 {z : Int} {pc : Nat} {ls st : Int → List jv_V} {g' : jv_S} : js_Gd L g (jv_aR64 z (fun v => jv_goR pc (ls v) (st v) L g')) := fun _ _ h => by
  cases h
  exact fun v => ⟨jr_le.rf, Nat.le_refl _⟩
theorem js_Gd.re {r : jv_V} : js_Gd L g (jv_reR r L g) := fun _ _ h => by
  cases h
  exact ⟨rfl, rfl⟩
theorem js_Gd.ca {k : Nat} {as rest : List jv_V} : js_Gd L g (jv_caR k as rest) := fun _ _ h => by
  cases h
  trivial
theorem js_Gd.sw {x : Int} {d : Nat} {ls st : List jv_V} : ∀ (ts : List Nat) (lo : Int), js_Gd L g (jv_sw jv_brR x (fun t => jv_goR t ls st L g) d lo ts)
  | [], _ => js_Gd.go
  | _ :: ts, lo => js_Gd.br js_Gd.go (js_Gd.sw ts (lo + 1))
theorem js_Gd.lw {x : Int} {d : Nat} {ls st : List jv_V} : ∀ (ps : List (Int × Int)) (ts : List Nat), js_Gd L g (jv_lw jv_brR x (fun t => jv_goR t ls st L g) d ps ts)
  | [], _ => by unfold jv_lw; exact js_Gd.go
  | (_, _) :: _, [] => js_Gd.go
  | (_, _) :: ps, _ :: ts => js_Gd.br js_Gd.go (js_Gd.lw ps ts)
theorem js_Gd.ix {x : jv_V} {i : Int} {f : Nat → Nat → Int → jv_X} (h : ∀ a b c, js_Gd L g (f a b c)) : js_Gd L g (jv_ix jv_ckR none x i L f) := by
  unfold jv_ix
  split
  · split
    · exact (h _ _ _).ck
    · exact js_Gd.no
  · split
    · exact (h _ _ _).ck
    · exact js_Gd.no
  · exact js_Gd.no
theorem js_Gd.vw {x : jv_V} {f : Nat → Int → Nat → jv_X} (h : ∀ a b c, js_Gd L g (f a b c)) : js_Gd L g (jv_vw none x L f) := by
  unfold jv_vw
  split
  · split
    · exact h _ _ _
    · exact js_Gd.no
  · split
    · exact h _ _ _
    · exact js_Gd.no
  · exact js_Gd.no
theorem js_Gd.ld {i n ty : Nat} {ls st : List jv_V} : js_Gd L g (jv_ld none jv_goR i n ty ls st L g) := by
  unfold jv_ld
  repeat' split
  all_goals first | exact js_Gd.go | exact js_Gd.no
theorem js_Gd.so {i n ty : Nat} {ls st : List jv_V} : js_Gd L g (jv_so none jv_goR i n ty ls st L g) := by
  unfold jv_so
  repeat' split
  all_goals first | exact js_Gd.go | exact js_Gd.no
theorem js_Gd.b2 {cd : Jvm.ClassFile.Cond} {a b : Int} {t f : jv_X} (h1 : js_Gd L g t) (h2 : js_Gd L g f) : js_Gd L g (jv_b2 jv_brR cd a b t f) := by
  unfold jv_b2
  split
  · exact h1.br h2
  · exact h2.br h1
  · exact h1.br h2
  · exact h1.br h2
  · exact h1.br h2
  · exact h1.br h2
theorem js_Gd.gf {n kd k ty : Nat} {ls st : List jv_V} : js_Gd L g (jv_gf jv_ckR none jv_goR n kd k ty ls st L g) := by
  unfold jv_gf
  repeat' split
  all_goals first | exact js_Gd.go | exact js_Gd.no | exact js_Gd.go.ck
theorem js_pf_no {kd kd' k m : Nat} {rs : List Nat} {P : Prop} (hb : (((Nat.beq kd kd' = true ∧ Nat.beq kd 11 = false) ∧ Nat.blt k m = true) ∧ Nat.ble 10 kd = true)) (h : kd' < 10 ∨ (kd' = 11 ∧ rs = [])) : P := by
  obtain ⟨⟨⟨h1, h2⟩, -⟩, h4⟩ := hb
  have h1 := Nat.eq_of_beq_eq_true h1
  have h2 := Nat.ne_of_beq_eq_false h2
  have h4 := Nat.le_of_ble_eq_true h4
  omega
theorem js_Gd.pf {n kd k ty : Nat} {ls st : List jv_V} : js_Gd L g (jv_pf jv_ckR none jv_goR n kd k ty ls st L g) := by
  unfold jv_pf
  repeat' split
  all_goals first | exact js_Gd.go | exact js_Gd.no | exact js_Gd.go.ck | (refine js_Gd.goS (by assumption) (fun h => ?_); rename_i hb _ _ _ _; simp only [Bool.and_eq_true, Bool.not_eq_true'] at hb; exact js_pf_no hb h)
theorem js_Gd.ar {n ld : Nat} {ls st : List jv_V} : js_Gd L g (jv_ar jv_ckR none jv_goR n ld ls st L g) := by
  unfold jv_ar
  split
  all_goals first | exact js_Gd.no | (refine js_Gd.ix (fun a b c => ?_); split <;> first | exact js_Gd.go | exact js_Gd.no | exact js_Gd.go.ck)
theorem js_Gd.sz {x : jv_V} {f : Nat → jv_X} (h : ∀ a, js_Gd L g (f a)) : js_Gd L g (jv_sz none x L f) := by
  unfold jv_sz
  repeat' split
  all_goals first | exact h _ | exact js_Gd.no
theorem js_Gd.inn {n : Nat} {r : List Nat} {ls st : List jv_V} : js_Gd L g (jv_in jv_ckR none jv_goR jv_caR n r ls st L g) := by
  unfold jv_in
  split
  · unfold jv_cy
    split
    · refine js_Gd.vw (fun a b c => js_Gd.vw (fun a' b' c' => ?_))
      split
      · exact js_Gd.go.ck
      · exact js_Gd.no
    · exact js_Gd.no
  · repeat' split
    all_goals first | exact js_Gd.go | exact js_Gd.no | exact js_Gd.go.ck
  · repeat' split
    all_goals first | exact js_Gd.go | exact js_Gd.no | exact js_Gd.go.ck
  · repeat' split
    all_goals first | exact js_Gd.go | exact js_Gd.no | exact js_Gd.go.ck
  · repeat' split
    all_goals first | exact js_Gd.go | exact js_Gd.no | exact js_Gd.go.ck
  · repeat' split
    all_goals first | exact js_Gd.ca | exact js_Gd.no | exact js_Gd.ca.ck
  · exact js_Gd.no
theorem js_Gd.nw {n : Nat} {r : List Nat} {ls st : List jv_V} : js_Gd L g (jv_nw jv_ckR none jv_goR n r ls st L g) := by
  unfold jv_nw
  repeat' split
  all_goals first | exact js_Gd.goA | exact js_Gd.no | exact js_Gd.goA.ck
theorem js_Gd.na {n kd : Nat} {ls st : List jv_V} : js_Gd L g (jv_na jv_ckR none jv_goR n kd ls st L g) := by
  unfold jv_na
  repeat' split
  all_goals first | exact js_Gd.goA | exact js_Gd.no | exact js_Gd.goA.ck
theorem js_Gd.mn {n : Nat} {ls st : List jv_V} : js_Gd L g (jv_mn jv_ckR none jv_goR n ls st L g) := by
  unfold jv_mn
  repeat' split
  all_goals first | exact js_Gd.goA | exact js_Gd.no | exact js_Gd.goA.ck
theorem js_Gd.st {q : jv_E} {ls st : List jv_V} : js_Gd L g (jv_sx q ls st L g) := by
  obtain ⟨pc, i, len, r, z⟩ := q
  unfold jv_sx jv_st
  dsimp only
  split
  all_goals first | exact js_Gd.go | exact js_Gd.no | exact js_Gd.ld | exact js_Gd.so | exact js_Gd.ar | exact js_Gd.inn | exact js_Gd.na | exact js_Gd.mn | skip
  all_goals (repeat' split)
  all_goals first | exact js_Gd.go | exact js_Gd.no | exact js_Gd.go.ck | exact js_Gd.a32 | exact js_Gd.a64 | exact js_Gd.b2 js_Gd.go js_Gd.go | exact js_Gd.br js_Gd.go js_Gd.go | exact js_Gd.sw _ _ | exact js_Gd.lw _ _ | exact js_Gd.gf | exact js_Gd.pf | exact js_Gd.sz (fun _ => js_Gd.go) | exact js_Gd.nw | exact js_Gd.re | exact js_Gd.re.ck | skip
theorem js_dl_P : ∀ (li : List (jv_C × jv_Go)) (d : jv_Go), js_P L d → (∀ x ∈ li, js_P L x.2) → js_P L (jv_dl id li d)
  | [], _, h, _ => h
  | (c, a) :: t, d, h, h2 => by
    obtain ⟨c, dc⟩ := c
    unfold jv_dl
    by_cases hc : c
    · rw [if_pos hc]
      exact h2 _ List.mem_cons_self
    · rw [if_neg hc]
      exact js_dl_P t d h (fun x hx => h2 x (List.mem_cons_of_mem _ hx))
theorem jv_dl_id {α : Type} (f : jv_Go → α) : ∀ (li : List (jv_C × jv_Go)) (d : jv_Go), jv_dl f li d = f (jv_dl id li d)
  | [], _ => rfl
  | (c, a) :: t, d => by
    obtain ⟨c, dc⟩ := c
    unfold jv_dl
    by_cases hc : c
    · rw [if_pos hc, if_pos hc]
      rfl
    · rw [if_neg hc, if_neg hc]
      exact jv_dl_id f t d
end
theorem jv_ex_grow {T : Nat → List jv_E} {ML : Nat → Nat} : ∀ (n k pc : Nat) (ls st : List jv_V) (L : jv_L) (g : jv_S) (r : jv_V) (L' : jv_L) (g' : jv_S), jv_ex T ML n k pc ls st L g = some (r, L', g') → jr_le L L' ∧ js_sz L ≤ js_sz L' := by
  intro n
  induction n with
  | zero => intro k pc ls st L g r L' g' h; cases h
  | succ n ih =>
    intro k pc ls st L g r L' g' h
    rw [jv_ex] at h
    cases he : jv_fi (T k) pc with
    | none => rw [he] at h; cases h
    | some e =>
      rw [he] at h
      dsimp only at h
      cases hs : jv_sx e ls st L g with
      | none => rw [hs] at h; cases h
      | some y =>
        obtain ⟨cs, nx⟩ := y
        rw [hs] at h
        dsimp only at h
        have hm := js_Gd.st (L := L) (g := g) cs nx hs
        cases hk : jv_ok cs with
        | false => rw [hk] at h; cases h
        | true =>
          rw [hk] at h
          dsimp only at h
          have go : ∀ {q : jv_Go}, js_P L q → jv_ex T ML n k q.1 q.2.1 q.2.2.1 q.2.2.2.1 q.2.2.2.2 = some (r, L', g') → jr_le L L' ∧ js_sz L ≤ js_sz L' := by
            intro q hq hx
            have h3 := ih _ _ _ _ _ _ _ _ _ hx
            exact ⟨hq.1.tr h3.1, Nat.le_trans hq.2 h3.2⟩
          rcases nx with ⟨li, d⟩ | ⟨z, f⟩ | ⟨z, f⟩ | ⟨r', L2, g2⟩ | ⟨k', as, rest⟩ <;> unfold jv_nx at h <;> dsimp only at h
          · rw [jv_dl_id] at h
            exact go (js_dl_P li d hm.1 hm.2) h
          · exact go (hm _) h
          · exact go (hm _) h
          · cases h
            obtain ⟨rfl, -⟩ := hm
            exact ⟨jr_le.rf, Nat.le_refl _⟩
          · cases hb : Nat.ble (jv_fl as).length (ML k') with
            | false => rw [hb] at h; cases h
            | true =>
              rw [hb] at h
              dsimp only at h
              cases hc : jv_ex T ML n k' 0 (jv_en (ML k') as) [] L g with
              | none => rw [hc] at h; cases h
              | some w =>
                obtain ⟨r2, L2, g2⟩ := w
                rw [hc] at h
                have h1 := ih _ _ _ _ _ _ _ _ _ hc
                have h2 := ih _ _ _ _ _ _ _ _ _ h
                exact ⟨h1.1.tr h2.1, Nat.le_trans h1.2 h2.2⟩
