/-! ===== the machine's step as data, its run, and what is to be shown of it ===== -/
abbrev jv_C : Type := (c : Prop) × Decidable c
abbrev jv_Go : Type := Nat × List jv_V × List jv_V × jv_L × jv_S
abbrev jv_N : Type := (List (jv_C × jv_Go) × jv_Go) ⊕ (Int × (Int → jv_Go)) ⊕ (Int × (Int → jv_Go)) ⊕ (jv_V × jv_L × jv_S) ⊕ (Nat × List jv_V × List jv_V)
abbrev jv_X : Type := Option (List jv_C × jv_N)
def jv_un (x : jv_X) : jv_Go := match x with
  | some ([], .inl ([], go)) => go
  | _ => (0, [], [], [], fun _ _ => 0)
def jv_ckR (c : Prop) (d : Decidable c) (x : jv_X) : jv_X := match x with
  | some (cs, n) => some (⟨c, d⟩ :: cs, n)
  | none => none
def jv_brR (c : Prop) (d : Decidable c) (a b : jv_X) : jv_X := match a, b with
  | some ([], .inl ([], ga)), some ([], .inl (l, gb)) => some ([], .inl ((⟨c, d⟩, ga) :: l, gb))
  | _, _ => none
def jv_aR32 (z : Int) (f : Int → jv_X) : jv_X := some ([], .inr (.inl (z, fun v => jv_un (f v))))
def jv_aR64 (z : Int) (f : Int → jv_X) : jv_X := some ([], .inr (.inr (.inl (z, fun v => jv_un (f v)))))
def jv_goR (pc : Nat) (ls st : List jv_V) (L : jv_L) (g : jv_S) : jv_X := some ([], .inl ([], (pc, ls, st, L, g)))
def jv_reR (r : jv_V) (L : jv_L) (g : jv_S) : jv_X := some ([], .inr (.inr (.inr (.inl (r, L, g)))))
def jv_caR (k : Nat) (as rest : List jv_V) : jv_X := some ([], .inr (.inr (.inr (.inr (k, as, rest)))))
def jv_sx (e : jv_E) (ls st : List jv_V) (L : jv_L) (g : jv_S) : jv_X := jv_st jv_ckR jv_brR jv_aR32 jv_aR64 none jv_goR jv_reR jv_caR e ls st L g
def jv_fi : List jv_E → Nat → Option jv_E
  | [], _ => none
  | e :: t, pc => match Nat.beq e.1 pc with
    | true => some e
    | false => jv_fi t pc
def jv_ok : List jv_C → Bool
  | [] => true
  | c :: t => @ite _ c.1 c.2 (jv_ok t) false
def jv_dl {α : Type} (f : jv_Go → α) : List (jv_C × jv_Go) → jv_Go → α
  | [], d => f d
  | (c, a) :: t, d => @ite _ c.1 c.2 (f a) (jv_dl f t d)
def jv_cks : List jv_C → Prop → Prop
  | [], p => p
  | c :: t, p => c.1 ∧ jv_cks t p
def jv_dlP (f : jv_Go → Prop) : List (jv_C × jv_Go) → jv_Go → Prop
  | [], d => f d
  | (c, a) :: t, d => (c.1 → f a) ∧ (¬ c.1 → jv_dlP f t d)
section
variable (T : Nat → List jv_E) (ML : Nat → Nat)
def jv_nx (E : Nat → Nat → List jv_V → List jv_V → jv_L → jv_S → Option (jv_V × jv_L × jv_S)) (k pc : Nat) (ls : List jv_V) (L : jv_L) (g : jv_S) (nx : jv_N) : Option (jv_V × jv_L × jv_S) := match nx with
  | .inl (l, d) => jv_dl (fun q => E k q.1 q.2.1 q.2.2.1 q.2.2.2.1 q.2.2.2.2) l d
  | .inr (.inl (z, f)) => E k (f (jv_w32 z)).1 (f (jv_w32 z)).2.1 (f (jv_w32 z)).2.2.1 (f (jv_w32 z)).2.2.2.1 (f (jv_w32 z)).2.2.2.2
  | .inr (.inr (.inl (z, f))) => E k (f (jv_w64 z)).1 (f (jv_w64 z)).2.1 (f (jv_w64 z)).2.2.1 (f (jv_w64 z)).2.2.2.1 (f (jv_w64 z)).2.2.2.2
  | .inr (.inr (.inr (.inl r))) => some r
  | .inr (.inr (.inr (.inr (k', as, rest)))) => match Nat.ble (jv_fl as).length (ML k') with
    | false => none
    | true => match E k' 0 (jv_en (ML k') as) [] L g with
      | none => none
      | some (r, L', g') => E k (pc + 3) ls (jv_pu r rest) L' g'
def jv_ex : Nat → Nat → Nat → List jv_V → List jv_V → jv_L → jv_S → Option (jv_V × jv_L × jv_S)
  | 0, _, _, _, _, _, _ => none
  | n + 1, k, pc, ls, st, L, g => match jv_fi (T k) pc with
    | none => none
    | some e => match jv_sx e ls st L g with
      | none => none
      | some (cs, nx) => match jv_ok cs with
        | false => none
        | true => jv_nx ML (jv_ex n) k pc ls L g nx
/-- from here the method k comes to its end, with Q -/
def jv_At (k pc : Nat) (ls st : List jv_V) (L : jv_L) (g : jv_S) (Q : jv_V → jv_L → jv_S → Prop) : Prop := ∃ (n : Nat) (r : jv_V) (L' : jv_L) (g' : jv_S), jv_ex T ML n k pc ls st L g = some (r, L', g') ∧ Q r L' g'
/-- the call of method k comes to its end, with Q -/
def jv_Ca (k : Nat) (as : List jv_V) (L : jv_L) (g : jv_S) (Q : jv_V → jv_L → jv_S → Prop) : Prop := jv_At T ML k 0 (jv_en (ML k) as) [] L g Q
abbrev jv_G : Type := List (Nat × (List jv_V → jv_L → jv_S → Prop) × (List jv_V → jv_S → jv_V))
def jv_gf1 : jv_G → Nat → Option ((List jv_V → jv_L → jv_S → Prop) × (List jv_V → jv_S → jv_V))
  | [], _ => none
  | e :: t, k => match Nat.beq e.1 k with
    | true => some e.2
    | false => jv_gf1 t k
/-- what is to be shown, from pc on up to the stops -/
def jv_wp (G : jv_G) (md stop : List Nat) (k : Nat) (tab : List jv_E) (Q : jv_V → jv_L → jv_S → Prop) : Nat → Nat → List jv_V → List jv_V → jv_L → jv_S → Prop
  | 0, pc, ls, st, L, g => jv_At T ML k pc ls st L g Q
  | n + 1, pc, ls, st, L, g => match jv_fi tab pc with
    | none => False
    | some e => match jv_sx e ls st L g with
      | none => False
      | some (cs, nx) => jv_cks cs (match nx with
          | .inl (l, d) => jv_dlP (fun q => match stop.contains q.1 with
            | true => jv_At T ML k q.1 q.2.1 q.2.2.1 q.2.2.2.1 q.2.2.2.2 Q
            | false => jv_wp G md stop k tab Q n q.1 q.2.1 q.2.2.1 q.2.2.2.1 q.2.2.2.2) l d
          | .inr (.inl (z, f)) => match md.contains pc with
            | true => (match stop.contains (f (jv_w32 z)).1 with
              | true => jv_At T ML k (f (jv_w32 z)).1 (f (jv_w32 z)).2.1 (f (jv_w32 z)).2.2.1 (f (jv_w32 z)).2.2.2.1 (f (jv_w32 z)).2.2.2.2 Q
              | false => jv_wp G md stop k tab Q n (f (jv_w32 z)).1 (f (jv_w32 z)).2.1 (f (jv_w32 z)).2.2.1 (f (jv_w32 z)).2.2.2.1 (f (jv_w32 z)).2.2.2.2)
            | false => jv_r32 z ∧ (match stop.contains (f (z)).1 with
              | true => jv_At T ML k (f (z)).1 (f (z)).2.1 (f (z)).2.2.1 (f (z)).2.2.2.1 (f (z)).2.2.2.2 Q
              | false => jv_wp G md stop k tab Q n (f (z)).1 (f (z)).2.1 (f (z)).2.2.1 (f (z)).2.2.2.1 (f (z)).2.2.2.2)
          | .inr (.inr (.inl (z, f))) => match md.contains pc with
            | true => (match stop.contains (f (jv_w64 z)).1 with
              | true => jv_At T ML k (f (jv_w64 z)).1 (f (jv_w64 z)).2.1 (f (jv_w64 z)).2.2.1 (f (jv_w64 z)).2.2.2.1 (f (jv_w64 z)).2.2.2.2 Q
              | false => jv_wp G md stop k tab Q n (f (jv_w64 z)).1 (f (jv_w64 z)).2.1 (f (jv_w64 z)).2.2.1 (f (jv_w64 z)).2.2.2.1 (f (jv_w64 z)).2.2.2.2)
            | false => jv_r64 z ∧ (match stop.contains (f (z)).1 with
              | true => jv_At T ML k (f (z)).1 (f (z)).2.1 (f (z)).2.2.1 (f (z)).2.2.2.1 (f (z)).2.2.2.2 Q
              | false => jv_wp G md stop k tab Q n (f (z)).1 (f (z)).2.1 (f (z)).2.2.1 (f (z)).2.2.2.1 (f (z)).2.2.2.2)
          | .inr (.inr (.inr (.inl (r, L', g')))) => Q r L' g'
          | .inr (.inr (.inr (.inr (k', as, rest)))) => match Nat.ble (jv_fl as).length (ML k') with
           | false => False
           | true => match jv_gf1 G k' with
            | some (pre, res) => pre as L g ∧ (match stop.contains (pc + 3) with
              | true => jv_At T ML k (pc + 3) ls (jv_pu (res as g) rest) L g Q
              | false => jv_wp G md stop k tab Q n (pc + 3) ls (jv_pu (res as g) rest) L g)
            | none => jv_Ca T ML k' as L g (fun r L' g' => jv_At T ML k (pc + 3) ls (jv_pu r rest) L' g' Q))
end
section
variable {T : Nat → List jv_E} {ML : Nat → Nat}
theorem jv_dl_some {α : Type} {f f' : jv_Go → Option α} {x : α} (h : ∀ q, f q = some x → f' q = some x) : ∀ (l : List (jv_C × jv_Go)) (d : jv_Go), jv_dl f l d = some x → jv_dl f' l d = some x
  | [], d, hd => h d hd
  | (c, a) :: t, d, hd => by
    obtain ⟨c, dc⟩ := c
    unfold jv_dl at hd ⊢
    by_cases hc : c
    · rw [if_pos hc] at hd ⊢
      exact h a hd
    · rw [if_neg hc] at hd ⊢
      exact jv_dl_some h t d hd
theorem jv_ex_mono : ∀ (n : Nat) (k pc : Nat) (ls st : List jv_V) (L : jv_L) (g : jv_S) (x : jv_V × jv_L × jv_S), jv_ex T ML n k pc ls st L g = some x → jv_ex T ML (n + 1) k pc ls st L g = some x := by
  intro n
  induction n with
  | zero => intro k pc ls st L g x h; cases h
  | succ n ih =>
    intro k pc ls st L g x h
    rw [jv_ex] at h ⊢
    cases he : jv_fi (T k) pc with
    | none => rw [he] at h; cases h
    | some e =>
      rw [he] at h
      dsimp only at h ⊢
      cases hs : jv_sx e ls st L g with
      | none => rw [hs] at h; cases h
      | some y =>
        obtain ⟨cs, nx⟩ := y
        rw [hs] at h
        dsimp only at h ⊢
        cases hk : jv_ok cs with
        | false => rw [hk] at h; cases h
        | true =>
          rw [hk] at h
          dsimp only at h ⊢
          rcases nx with ⟨l, d⟩ | ⟨z, f⟩ | ⟨z, f⟩ | r | ⟨k', as, rest⟩ <;> unfold jv_nx at h ⊢
          · exact jv_dl_some (fun q hq => ih _ _ _ _ _ _ _ hq) l d h
          · exact ih _ _ _ _ _ _ _ h
          · exact ih _ _ _ _ _ _ _ h
          · exact h
          · dsimp only at h ⊢
            cases hb : Nat.ble (jv_fl as).length (ML k') with
            | false => rw [hb] at h; cases h
            | true =>
              rw [hb] at h
              dsimp only at h ⊢
              cases hc : jv_ex T ML n k' 0 (jv_en (ML k') as) [] L g with
              | none => rw [hc] at h; cases h
              | some w =>
                obtain ⟨r, L', g'⟩ := w
                rw [hc] at h
                rw [ih _ _ _ _ _ _ _ hc]
                exact ih _ _ _ _ _ _ _ h
theorem jv_ex_le {n m : Nat} (hm : n ≤ m) {k pc : Nat} {ls st : List jv_V} {L : jv_L} {g : jv_S} {x : jv_V × jv_L × jv_S} (h : jv_ex T ML n k pc ls st L g = some x) : jv_ex T ML m k pc ls st L g = some x := by
  induction hm with
  | refl => exact h
  | step _ ih => exact jv_ex_mono _ _ _ _ _ _ _ _ ih
theorem jv_At.mono {k pc : Nat} {ls st : List jv_V} {L : jv_L} {g : jv_S} {Q Q' : jv_V → jv_L → jv_S → Prop} (h : jv_At T ML k pc ls st L g Q) (hq : ∀ r L' g', Q r L' g' → Q' r L' g') : jv_At T ML k pc ls st L g Q' := by
  obtain ⟨n, r, L', g', h1, h2⟩ := h
  exact ⟨n, r, L', g', h1, hq _ _ _ h2⟩
theorem jv_cks_ok : ∀ (cs : List jv_C) {p : Prop}, jv_cks cs p → jv_ok cs = true ∧ p
  | [], _, h => ⟨rfl, h⟩
  | c :: t, _, h => by
    obtain ⟨h1, h2⟩ := h
    obtain ⟨h3, h4⟩ := jv_cks_ok t h2
    refine ⟨?_, h4⟩
    unfold jv_ok
    rw [if_pos h1]
    exact h3
theorem jv_dlP_dl {α : Type} {F : jv_Go → Prop} {f : jv_Go → Option α} {x : Nat → jv_Go → Option α} {Qx : α → Prop} (h : ∀ q, F q → ∃ n y, x n q = some y ∧ Qx y) : ∀ (l : List (jv_C × jv_Go)) (d : jv_Go), jv_dlP F l d → ∃ n y, jv_dl (x n) l d = some y ∧ Qx y
  | [], d, hd => h d hd
  | (c, a) :: t, d, hd => by
    obtain ⟨c, dc⟩ := c
    obtain ⟨h1, h2⟩ := hd
    by_cases hc : c
    · obtain ⟨n, y, e1, e2⟩ := h a (h1 hc)
      refine ⟨n, y, ?_, e2⟩
      unfold jv_dl
      rw [if_pos hc]
      exact e1
    · obtain ⟨n, y, e1, e2⟩ := jv_dlP_dl (f := f) h t d (h2 hc)
      refine ⟨n, y, ?_, e2⟩
      unfold jv_dl
      rw [if_neg hc]
      exact e1
theorem jv_w32_eq {z : Int} (h : jv_r32 z) : jv_w32 z = z := by
  unfold jv_w32
  have h := h
  unfold jv_r32 at h
  rw [Int32.toInt_ofInt]
  rw [Int.bmod_eq_of_le] <;> (show _ ; simp [Int32.size] ; omega)
theorem jv_w64_eq {z : Int} (h : jv_r64 z) : jv_w64 z = z := by
  unfold jv_w64
  unfold jv_r64 at h
  rw [Int64.toInt_ofInt]
  rw [Int.bmod_eq_of_le] <;> (show _ ; simp [Int64.size] ; omega)
/-- what the pure calls of G answer is so -/
def jv_GOk (T : Nat → List jv_E) (ML : Nat → Nat) (G : jv_G) : Prop := ∀ (k : Nat) (pre : List jv_V → jv_L → jv_S → Prop) (res : List jv_V → jv_S → jv_V), jv_gf1 G k = some (pre, res) → ∀ (as : List jv_V) (L : jv_L) (g : jv_S), pre as L g → ∃ n, jv_ex T ML n k 0 (jv_en (ML k) as) [] L g = some (res as g, L, g)
theorem jv_of_wp {G : jv_G} (hG : jv_GOk T ML G) {md stop : List Nat} {k : Nat} {tab : List jv_E} (ht : T k = tab) {Q : jv_V → jv_L → jv_S → Prop} : ∀ (n pc : Nat) (ls st : List jv_V) (L : jv_L) (g : jv_S), jv_wp T ML G md stop k tab Q n pc ls st L g → jv_At T ML k pc ls st L g Q := by
  intro n
  induction n with
  | zero => intro pc ls st L g h; exact h
  | succ n ih =>
    intro pc ls st L g h
    rw [jv_wp] at h
    cases he : jv_fi tab pc with
    | none => rw [he] at h; exact h.elim
    | some e =>
      rw [he] at h
      dsimp only at h
      cases hs : jv_sx e ls st L g with
      | none => rw [hs] at h; exact h.elim
      | some y =>
        obtain ⟨cs, nx⟩ := y
        rw [hs] at h
        dsimp only at h
        obtain ⟨hok, h⟩ := jv_cks_ok cs h
        have key : (∃ (n : Nat) (y : jv_V × jv_L × jv_S), jv_nx ML (jv_ex T ML n) k pc ls L g nx = some y ∧ Q y.1 y.2.1 y.2.2) → jv_At T ML k pc ls st L g Q := by
          rintro ⟨n, ⟨r, L', g'⟩, e1, e2⟩
          refine ⟨n + 1, r, L', g', ?_, e2⟩
          rw [jv_ex, ht, he]
          dsimp only
          rw [hs]
          dsimp only
          rw [hok]
          exact e1
        have at_ : ∀ {pc : Nat} {ls st : List jv_V} {L : jv_L} {g : jv_S}, jv_At T ML k pc ls st L g Q → ∃ (n : Nat) (y : jv_V × jv_L × jv_S), jv_ex T ML n k pc ls st L g = some y ∧ Q y.1 y.2.1 y.2.2 := by
          rintro pc ls st L g ⟨n, r, L', g', e1, e2⟩
          exact ⟨n, (r, L', g'), e1, e2⟩
        apply key
        rcases nx with ⟨l, d⟩ | ⟨z, f⟩ | ⟨z, f⟩ | ⟨r, L', g'⟩ | ⟨k', as, rest⟩
        · refine jv_dlP_dl (F := _) (f := fun _ => none) (x := fun n q => jv_ex T ML n k q.1 q.2.1 q.2.2.1 q.2.2.2.1 q.2.2.2.2) (Qx := fun y => Q y.1 y.2.1 y.2.2) (fun q hq => ?_) l d h
          split at hq
          · exact at_ hq
          · exact at_ (ih _ _ _ _ _ hq)
        · unfold jv_nx
          dsimp only at h ⊢
          split at h
          · split at h
            · exact at_ h
            · exact at_ (ih _ _ _ _ _ h)
          · obtain ⟨hr, h⟩ := h
            rw [jv_w32_eq hr]
            split at h
            · exact at_ h
            · exact at_ (ih _ _ _ _ _ h)
        · unfold jv_nx
          dsimp only at h ⊢
          split at h
          · split at h
            · exact at_ h
            · exact at_ (ih _ _ _ _ _ h)
          · obtain ⟨hr, h⟩ := h
            rw [jv_w64_eq hr]
            split at h
            · exact at_ h
            · exact at_ (ih _ _ _ _ _ h)
        · exact ⟨0, (r, L', g'), rfl, h⟩
        · dsimp only at h
          cases hb : Nat.ble (jv_fl as).length (ML k') with
          | false => rw [hb] at h; exact h.elim
          | true =>
            rw [hb] at h
            dsimp only at h
            split at h
            · next pre res hg =>
              obtain ⟨hp, h⟩ := h
              obtain ⟨n1, e1⟩ := hG k' pre res hg as L g hp
              have h2 : jv_At T ML k (pc + 3) ls (jv_pu (res as g) rest) L g Q := by
                split at h
                · exact h
                · exact ih _ _ _ _ _ h
              obtain ⟨n2, y, e2, e3⟩ := at_ h2
              refine ⟨max n1 n2, y, ?_, e3⟩
              unfold jv_nx
              dsimp only
              rw [hb]
              dsimp only
              rw [jv_ex_le (Nat.le_max_left n1 n2) e1]
              exact jv_ex_le (Nat.le_max_right n1 n2) e2
            · obtain ⟨n1, r, L', g', e1, n2, r2, L2, g2, e2, e3⟩ := h
              refine ⟨max n1 n2, (r2, L2, g2), ?_, e3⟩
              unfold jv_nx
              dsimp only
              rw [hb]
              dsimp only
              rw [jv_ex_le (Nat.le_max_left n1 n2) e1]
              exact jv_ex_le (Nat.le_max_right n1 n2) e2
end
