/-! ===== loads: the class ===== -/
/-- 0: how many, tick; of loads: 1 kind, 2 first, 3 aim, 4 lane, 5 lanes taken, 6 home, 7 moved; of lanes: 8 standing, 9 places, 10 moved -/
abbrev jB : Type := Nat → Nat → Int
def BW (A : jA) (B : jB) : Prop := (0 ≤ B 0 0 ∧ B 0 0 ≤ 30 ∧ 0 ≤ B 0 1) ∧ (∀ c, c < ln A → 0 ≤ B 8 c ∧ B 8 c ≤ rm A c) ∧ (∀ c k : Nat, c < ln A → (k : Int) < B 8 c → 0 ≤ B 9 (2 * c + k) ∧ B 9 (2 * c + k) < B 0 0 ∧ B 4 (B 9 (2 * c + k)).toNat = c) ∧ (∀ c, c < ln A → B 8 c = 2 → B 9 (2 * c) ≠ B 9 (2 * c + 1)) ∧ ∀ i : Nat, (i : Int) < B 0 0 → (0 ≤ B 1 i ∧ B 1 i ≤ 2) ∧ (0 ≤ B 2 i ∧ B 2 i < nd A) ∧ (0 ≤ B 3 i ∧ B 3 i < nd A) ∧ (B 4 i = -9 ∨ ∃ c k : Nat, c < ln A ∧ (k : Int) < B 8 c ∧ B 4 i = c ∧ B 9 (2 * c + k) = i) ∧ (0 ≤ B 5 i ∧ B 5 i ≤ B 0 1 + 1 + B 7 i) ∧ 0 ≤ B 7 i ∧ B 7 i ≤ 1
/-- home -/
def hB (B : jB) (c l : Nat) : jB := fun a b => match a with
  | 4 => if b = l then -9 else B 4 b
  | 6 => if b = l then B 0 1 else B 6 b
  | 8 => if b = c then B 8 b - 1 else B 8 b
  | 9 => if b = 2 * c then B 9 (2 * c + 1) else B 9 b
  | 10 => if b = c then 1 else B 10 b
  | a => B a b
/-- goes on into d -/
def gB (B : jB) (c l d : Nat) : jB := fun a b => match a with
  | 4 => if b = l then (d : Int) else B 4 b
  | 5 => if b = l then B 5 b + 1 else B 5 b
  | 7 => if b = l then 1 else B 7 b
  | 8 => if b = c then B 8 b - 1 else if b = d then B 8 b + 1 else B 8 b
  | 9 => if b = 2 * c then B 9 (2 * c + 1) else if b = 2 * d + (B 8 d).toNat then (l : Int) else B 9 b
  | 10 => if b = c then 1 else B 10 b
  | a => B a b
/-- sent -/
def sB (B : jB) (kd x y : Int) (d : Nat) : jB := fun a b => match a with
  | 0 => if b = 0 then B 0 0 + 1 else B 0 b
  | 1 => if b = (B 0 0).toNat then kd else B 1 b
  | 2 => if b = (B 0 0).toNat then x else B 2 b
  | 3 => if b = (B 0 0).toNat then y else B 3 b
  | 4 => if b = (B 0 0).toNat then (d : Int) else B 4 b
  | 5 => if b = (B 0 0).toNat then 1 else B 5 b
  | 6 => if b = (B 0 0).toNat then -9 else B 6 b
  | 7 => if b = (B 0 0).toNat then 0 else B 7 b
  | 8 => if b = d then B 8 b + 1 else B 8 b
  | 9 => if b = 2 * d + (B 8 d).toNat then B 0 0 else B 9 b
  | a => B a b
/-- the next tick -/
def nB (B : jB) : jB := fun a b => match a with
  | 0 => if b = 1 then B 0 1 + 1 else B 0 b
  | 7 => 0
  | 10 => 0
  | a => B a b
theorem BW_h {A : jA} {B : jB} (hw : wf A) (h : BW A B) {c l : Nat} (hc : c < ln A) (hs : 1 ≤ B 8 c) (hl : B 9 (2 * c) = l) : BW A (hB B c l) := by
  obtain ⟨h1, h2, h3, h4, h5⟩ := h
  have hrm : ∀ c, c < ln A → rm A c ≤ 2 := fun c hc => (hw.2.2.2.1 c hc).2.2.2.2.1
  have hl4 : B 4 l = c := by have := (h3 c 0 hc (by omega)).2.2; rw [Nat.add_zero, hl, Int.toNat_natCast] at this; exact this
  refine ⟨h1, fun c' hc' => ?_, fun c' k hc' hk => ?_, fun c' hc' h2' => ?_, fun i hi => ?_⟩
  · show 0 ≤ (if c' = c then B 8 c' - 1 else B 8 c') ∧ (if c' = c then B 8 c' - 1 else B 8 c') ≤ _
    have := h2 c' hc'
    split
    · next he => subst he; omega
    · omega
  · have hk : (k : Int) < (if c' = c then B 8 c' - 1 else B 8 c') := hk
    have b1 := h2 c' hc'
    have b2 := hrm c' hc'
    show 0 ≤ (if 2 * c' + k = 2 * c then B 9 (2 * c + 1) else B 9 (2 * c' + k)) ∧ (if 2 * c' + k = 2 * c then B 9 (2 * c + 1) else B 9 (2 * c' + k)) < B 0 0 ∧ (if (if 2 * c' + k = 2 * c then B 9 (2 * c + 1) else B 9 (2 * c' + k)).toNat = l then -9 else B 4 (if 2 * c' + k = 2 * c then B 9 (2 * c + 1) else B 9 (2 * c' + k)).toNat) = c'
    by_cases hcc : c' = c
    · subst hcc
      rw [if_pos rfl] at hk
      have hk0 : k = 0 := by omega
      subst hk0
      rw [if_pos (by omega)]
      obtain ⟨a1, a2, a3⟩ := h3 c' 1 hc' (by omega)
      have a4 := h4 c' hc' (by omega)
      rw [if_neg (by omega)]
      exact ⟨a1, a2, a3⟩
    · rw [if_neg hcc] at hk
      rw [if_neg (by omega)]
      obtain ⟨a1, a2, a3⟩ := h3 c' k hc' hk
      rw [if_neg (fun he => by rw [he, hl4] at a3; omega)]
      exact ⟨a1, a2, a3⟩
  · have h2' : (if c' = c then B 8 c' - 1 else B 8 c') = 2 := h2'
    have b1 := h2 c' hc'
    have b2 := hrm c' hc'
    by_cases hcc : c' = c
    · subst hcc; rw [if_pos rfl] at h2'; omega
    · rw [if_neg hcc] at h2'
      show (if 2 * c' = 2 * c then B 9 (2 * c + 1) else B 9 (2 * c')) ≠ (if 2 * c' + 1 = 2 * c then B 9 (2 * c + 1) else B 9 (2 * c' + 1))
      rw [if_neg (by omega), if_neg (by omega)]
      exact h4 c' hc' h2'
  · obtain ⟨a1, a2, a3, a4, a5, a6⟩ := h5 i hi
    refine ⟨a1, a2, a3, ?_, a5, a6⟩
    show (if i = l then -9 else B 4 i) = -9 ∨ ∃ c' k : Nat, c' < ln A ∧ (k : Int) < (if c' = c then B 8 c' - 1 else B 8 c') ∧ (if i = l then -9 else B 4 i) = (c' : Int) ∧ (if 2 * c' + k = 2 * c then B 9 (2 * c + 1) else B 9 (2 * c' + k)) = i
    by_cases hil : i = l
    · exact Or.inl (if_pos hil)
    · rw [if_neg hil]
      rcases a4 with a4 | ⟨c', k, k1, k2, k3, k4⟩
      · exact Or.inl a4
      · have b1 := h2 c' k1
        have b2 := hrm c' k1
        by_cases hcc : c' = c
        · subst hcc
          have hk1 : k = 1 := by
            by_cases hk0 : k = 0
            · subst hk0; rw [Nat.add_zero, hl] at k4; omega
            · omega
          subst hk1
          exact Or.inr ⟨c', 0, k1, by rw [if_pos rfl]; omega, k3, by rw [if_pos (by omega)]; exact k4⟩
        · exact Or.inr ⟨c', k, k1, by rw [if_neg hcc]; exact k2, k3, by rw [if_neg (by omega)]; exact k4⟩
theorem BW_g {A : jA} {B : jB} (hw : wf A) (h : BW A B) {c l d : Nat} (hc : c < ln A) (hs : 1 ≤ B 8 c) (hl : B 9 (2 * c) = l) (hd : d < ln A) (hdc : d ≠ c) (hr : B 8 d < rm A d) (h7 : B 7 l = 0) : BW A (gB B c l d) := by
  obtain ⟨h1, h2, h3, h4, h5⟩ := h
  have hrm : ∀ c, c < ln A → rm A c ≤ 2 := fun c hc => (hw.2.2.2.1 c hc).2.2.2.2.1
  have hl3 := h3 c 0 hc (by omega)
  rw [Nat.add_zero, hl, Int.toNat_natCast] at hl3
  have hl4 := hl3.2.2
  have d1 := h2 d hd
  have d2 := hrm d hd
  refine ⟨h1, fun c' hc' => ?_, fun c' k hc' hk => ?_, fun c' hc' h2' => ?_, fun i hi => ?_⟩
  · show 0 ≤ (if c' = c then B 8 c' - 1 else if c' = d then B 8 c' + 1 else B 8 c') ∧ (if c' = c then B 8 c' - 1 else if c' = d then B 8 c' + 1 else B 8 c') ≤ _
    have := h2 c' hc'
    split
    · next he => subst he; omega
    · split
      · next he => subst he; omega
      · omega
  · have hk : (k : Int) < (if c' = c then B 8 c' - 1 else if c' = d then B 8 c' + 1 else B 8 c') := hk
    have b1 := h2 c' hc'
    have b2 := hrm c' hc'
    show 0 ≤ (if 2 * c' + k = 2 * c then B 9 (2 * c + 1) else if 2 * c' + k = 2 * d + (B 8 d).toNat then (l : Int) else B 9 (2 * c' + k)) ∧ (if 2 * c' + k = 2 * c then B 9 (2 * c + 1) else if 2 * c' + k = 2 * d + (B 8 d).toNat then (l : Int) else B 9 (2 * c' + k)) < B 0 0 ∧ (if (if 2 * c' + k = 2 * c then B 9 (2 * c + 1) else if 2 * c' + k = 2 * d + (B 8 d).toNat then (l : Int) else B 9 (2 * c' + k)).toNat = l then (d : Int) else B 4 (if 2 * c' + k = 2 * c then B 9 (2 * c + 1) else if 2 * c' + k = 2 * d + (B 8 d).toNat then (l : Int) else B 9 (2 * c' + k)).toNat) = c'
    by_cases hcc : c' = c
    · subst hcc
      rw [if_pos rfl] at hk
      have hk0 : k = 0 := by omega
      subst hk0
      rw [if_pos (by omega)]
      obtain ⟨a1, a2, a3⟩ := h3 c' 1 hc' (by omega)
      have a4 := h4 c' hc' (by omega)
      rw [if_neg (by omega)]
      exact ⟨a1, a2, a3⟩
    · rw [if_neg hcc] at hk
      by_cases hcd : c' = d
      · subst hcd
        rw [if_pos rfl] at hk
        rw [if_neg (by omega)]
        by_cases hkt : (k : Int) = B 8 c'
        · rw [if_pos (by omega), Int.toNat_natCast, if_pos rfl]
          exact ⟨by omega, hl3.2.1, rfl⟩
        · rw [if_neg (by omega)]
          obtain ⟨a1, a2, a3⟩ := h3 c' k hc' (by omega)
          rw [if_neg (fun he => by rw [he, hl4] at a3; omega)]
          exact ⟨a1, a2, a3⟩
      · rw [if_neg hcd] at hk
        rw [if_neg (by omega), if_neg (by omega)]
        obtain ⟨a1, a2, a3⟩ := h3 c' k hc' hk
        rw [if_neg (fun he => by rw [he, hl4] at a3; omega)]
        exact ⟨a1, a2, a3⟩
  · have h2' : (if c' = c then B 8 c' - 1 else if c' = d then B 8 c' + 1 else B 8 c') = 2 := h2'
    have b1 := h2 c' hc'
    have b2 := hrm c' hc'
    by_cases hcc : c' = c
    · subst hcc; rw [if_pos rfl] at h2'; omega
    · rw [if_neg hcc] at h2'
      show (if 2 * c' = 2 * c then B 9 (2 * c + 1) else if 2 * c' = 2 * d + (B 8 d).toNat then (l : Int) else B 9 (2 * c')) ≠ (if 2 * c' + 1 = 2 * c then B 9 (2 * c + 1) else if 2 * c' + 1 = 2 * d + (B 8 d).toNat then (l : Int) else B 9 (2 * c' + 1))
      rw [if_neg (show ¬ 2 * c' = 2 * c by omega), if_neg (show ¬ 2 * c' + 1 = 2 * c by omega)]
      by_cases hcd : c' = d
      · subst hcd
        rw [if_pos rfl] at h2'
        rw [if_neg (by omega), if_pos (by omega)]
        obtain ⟨a1, a2, a3⟩ := h3 c' 0 hc' (by omega)
        rw [Nat.add_zero] at a3
        intro he
        rw [he, Int.toNat_natCast, hl4] at a3
        omega
      · rw [if_neg hcd] at h2'
        rw [if_neg (by omega), if_neg (by omega)]
        exact h4 c' hc' h2'
  · obtain ⟨a1, a2, a3, a4, a5, a6⟩ := h5 i hi
    refine ⟨a1, a2, a3, ?_, ?_, ?_⟩
    · show (if i = l then (d : Int) else B 4 i) = -9 ∨ ∃ c' k : Nat, c' < ln A ∧ (k : Int) < (if c' = c then B 8 c' - 1 else if c' = d then B 8 c' + 1 else B 8 c') ∧ (if i = l then (d : Int) else B 4 i) = (c' : Int) ∧ (if 2 * c' + k = 2 * c then B 9 (2 * c + 1) else if 2 * c' + k = 2 * d + (B 8 d).toNat then (l : Int) else B 9 (2 * c' + k)) = i
      by_cases hil : i = l
      · rw [if_pos hil]
        refine Or.inr ⟨d, (B 8 d).toNat, hd, by rw [if_neg hdc, if_pos rfl]; omega, rfl, by rw [if_neg (by omega), if_pos rfl, hil]⟩
      · rw [if_neg hil]
        rcases a4 with a4 | ⟨c', k, k1, k2, k3, k4⟩
        · exact Or.inl a4
        · have b1 := h2 c' k1
          have b2 := hrm c' k1
          by_cases hcc : c' = c
          · subst hcc
            have hk1 : k = 1 := by
              by_cases hk0 : k = 0
              · subst hk0; rw [Nat.add_zero, hl] at k4; omega
              · omega
            subst hk1
            exact Or.inr ⟨c', 0, k1, by rw [if_pos rfl]; omega, k3, by rw [if_pos (by omega)]; exact k4⟩
          · have hne : ¬ 2 * c' + k = 2 * d + (B 8 d).toNat := by
              intro he
              by_cases hcd : c' = d
              · subst hcd; omega
              · omega
            refine Or.inr ⟨c', k, k1, ?_, k3, by rw [if_neg (show ¬ 2 * c' + k = 2 * c by omega), if_neg hne]; exact k4⟩
            rw [if_neg hcc]
            split <;> omega
    · show 0 ≤ (if i = l then B 5 i + 1 else B 5 i) ∧ (if i = l then B 5 i + 1 else B 5 i) ≤ B 0 1 + 1 + (if i = l then 1 else B 7 i)
      by_cases hil : i = l
      · rw [if_pos hil, if_pos hil]; rw [hil] at a5 ⊢; omega
      · rw [if_neg hil, if_neg hil]; exact a5
    · show 0 ≤ (if i = l then 1 else B 7 i) ∧ (if i = l then 1 else B 7 i) ≤ 1
      split <;> omega
theorem BW_s {A : jA} {B : jB} (hw : wf A) (h : BW A B) {d : Nat} {kd x y : Int} (hd : d < ln A) (hr : B 8 d < rm A d) (hk : 0 ≤ kd ∧ kd ≤ 2) (hx : 0 ≤ x ∧ x < nd A) (hy : 0 ≤ y ∧ y < nd A) (hn : B 0 0 < 30) : BW A (sB B kd x y d) := by
  obtain ⟨h1, h2, h3, h4, h5⟩ := h
  have hrm : ∀ c, c < ln A → rm A c ≤ 2 := fun c hc => (hw.2.2.2.1 c hc).2.2.2.2.1
  have d1 := h2 d hd
  have d2 := hrm d hd
  refine ⟨?_, fun c' hc' => ?_, fun c' k hc' hk => ?_, fun c' hc' h2' => ?_, fun i hi => ?_⟩
  · show 0 ≤ B 0 0 + 1 ∧ B 0 0 + 1 ≤ 30 ∧ 0 ≤ B 0 1
    omega
  · show 0 ≤ (if c' = d then B 8 c' + 1 else B 8 c') ∧ (if c' = d then B 8 c' + 1 else B 8 c') ≤ _
    have := h2 c' hc'
    split
    · next he => subst he; omega
    · omega
  · have hk : (k : Int) < (if c' = d then B 8 c' + 1 else B 8 c') := hk
    have b1 := h2 c' hc'
    have b2 := hrm c' hc'
    show 0 ≤ (if 2 * c' + k = 2 * d + (B 8 d).toNat then B 0 0 else B 9 (2 * c' + k)) ∧ (if 2 * c' + k = 2 * d + (B 8 d).toNat then B 0 0 else B 9 (2 * c' + k)) < B 0 0 + 1 ∧ (if (if 2 * c' + k = 2 * d + (B 8 d).toNat then B 0 0 else B 9 (2 * c' + k)).toNat = (B 0 0).toNat then (d : Int) else B 4 (if 2 * c' + k = 2 * d + (B 8 d).toNat then B 0 0 else B 9 (2 * c' + k)).toNat) = c'
    by_cases hcd : c' = d
    · subst hcd
      rw [if_pos rfl] at hk
      by_cases hkt : (k : Int) = B 8 c'
      · rw [if_pos (by omega), if_pos rfl]
        exact ⟨by omega, by omega, rfl⟩
      · rw [if_neg (by omega)]
        obtain ⟨a1, a2, a3⟩ := h3 c' k hc' (by omega)
        rw [if_neg (by omega)]
        exact ⟨a1, by omega, a3⟩
    · rw [if_neg hcd] at hk
      rw [if_neg (by omega)]
      obtain ⟨a1, a2, a3⟩ := h3 c' k hc' hk
      rw [if_neg (by omega)]
      exact ⟨a1, by omega, a3⟩
  · have h2' : (if c' = d then B 8 c' + 1 else B 8 c') = 2 := h2'
    have b1 := h2 c' hc'
    have b2 := hrm c' hc'
    show (if 2 * c' = 2 * d + (B 8 d).toNat then B 0 0 else B 9 (2 * c')) ≠ (if 2 * c' + 1 = 2 * d + (B 8 d).toNat then B 0 0 else B 9 (2 * c' + 1))
    by_cases hcd : c' = d
    · subst hcd
      rw [if_pos rfl] at h2'
      rw [if_neg (by omega), if_pos (by omega)]
      obtain ⟨a1, a2, a3⟩ := h3 c' 0 hc' (by omega)
      rw [Nat.add_zero] at a2
      omega
    · rw [if_neg hcd] at h2'
      rw [if_neg (by omega), if_neg (by omega)]
      exact h4 c' hc' h2'
  · have hi : (i : Int) < B 0 0 + 1 := hi
    show (0 ≤ (if i = (B 0 0).toNat then kd else B 1 i) ∧ (if i = (B 0 0).toNat then kd else B 1 i) ≤ 2) ∧ (0 ≤ (if i = (B 0 0).toNat then x else B 2 i) ∧ (if i = (B 0 0).toNat then x else B 2 i) < nd A) ∧ (0 ≤ (if i = (B 0 0).toNat then y else B 3 i) ∧ (if i = (B 0 0).toNat then y else B 3 i) < nd A) ∧ ((if i = (B 0 0).toNat then (d : Int) else B 4 i) = -9 ∨ ∃ c' k : Nat, c' < ln A ∧ (k : Int) < (if c' = d then B 8 c' + 1 else B 8 c') ∧ (if i = (B 0 0).toNat then (d : Int) else B 4 i) = (c' : Int) ∧ (if 2 * c' + k = 2 * d + (B 8 d).toNat then B 0 0 else B 9 (2 * c' + k)) = i) ∧ (0 ≤ (if i = (B 0 0).toNat then 1 else B 5 i) ∧ (if i = (B 0 0).toNat then 1 else B 5 i) ≤ B 0 1 + 1 + (if i = (B 0 0).toNat then 0 else B 7 i)) ∧ 0 ≤ (if i = (B 0 0).toNat then 0 else B 7 i) ∧ (if i = (B 0 0).toNat then 0 else B 7 i) ≤ 1
    by_cases hin : i = (B 0 0).toNat
    · simp only [if_pos hin]
      refine ⟨hk, hx, hy, Or.inr ⟨d, (B 8 d).toNat, hd, by rw [if_pos rfl]; omega, rfl, by rw [if_pos rfl]; omega⟩, by omega, by omega⟩
    · simp only [if_neg hin]
      obtain ⟨a1, a2, a3, a4, a5, a6⟩ := h5 i (by omega)
      refine ⟨a1, a2, a3, ?_, a5, a6⟩
      rcases a4 with a4 | ⟨c', k, k1, k2, k3, k4⟩
      · exact Or.inl a4
      · have b1 := h2 c' k1
        have b2 := hrm c' k1
        have hne : ¬ 2 * c' + k = 2 * d + (B 8 d).toNat := by
          intro he
          by_cases hcd : c' = d
          · subst hcd; omega
          · omega
        refine Or.inr ⟨c', k, k1, by split <;> omega, k3, ?_⟩
        rw [if_neg hne]
        exact k4
theorem BW_n {A : jA} {B : jB} (h : BW A B) : BW A (nB B) := by
  obtain ⟨h1, h2, h3, h4, h5⟩ := h
  refine ⟨?_, h2, h3, h4, fun i hi => ?_⟩
  · show 0 ≤ B 0 0 ∧ B 0 0 ≤ 30 ∧ 0 ≤ B 0 1 + 1
    omega
  · obtain ⟨a1, a2, a3, a4, a5, a6⟩ := h5 i hi
    refine ⟨a1, a2, a3, a4, ?_, ?_⟩
    · show 0 ≤ B 5 i ∧ B 5 i ≤ B 0 1 + 1 + 1 + 0
      omega
    · show (0 : Int) ≤ 0 ∧ (0 : Int) ≤ 1
      omega
/-- the lane into which one goes: -9, or a lane of the set with room -/
def chf (A : jA) (B : jB) (kd : Int) (s m : Nat) : Nat → Int
  | 0 => -9
  | e + 1 => if s.testBit (m - (e + 1)) then (if B 8 (m - (e + 1)) < rm A (m - (e + 1)) then ((m - (e + 1) : Nat) : Int) else if kd = 2 then -9 else chf A B kd s m e) else chf A B kd s m e
def chs (A : jA) (B : jB) (kd : Int) (s : Nat) : Int := chf A B kd s (ln A) (ln A)
theorem chf_ok {A : jA} {B : jB} {kd : Int} {s m : Nat} : ∀ e, e ≤ m → chf A B kd s m e = -9 ∨ ∃ d, d < m ∧ chf A B kd s m e = (d : Int) ∧ s.testBit d = true ∧ B 8 d < rm A d := by
  intro e
  induction e with
  | zero => intro _; exact Or.inl rfl
  | succ e ih =>
    intro he
    unfold chf
    split
    · next h1 =>
      split
      · next h2 => exact Or.inr ⟨m - (e + 1), by omega, rfl, h1, h2⟩
      · split
        · exact Or.inl rfl
        · exact ih (by omega)
    · exact ih (by omega)
theorem chf_s {A : jA} {B : jB} {kd : Int} {s m d : Nat} (h : d < m) : chf A B kd s m (m - d) = if s.testBit d then (if B 8 d < rm A d then (d : Int) else if kd = 2 then -9 else chf A B kd s m (m - (d + 1))) else chf A B kd s m (m - (d + 1)) := by
  rw [show m - d = (m - (d + 1)) + 1 by omega]
  conv => lhs; unfold chf
  rw [show m - (m - (d + 1) + 1) = d by omega]
set_option maxRecDepth 100000 in
theorem sg_Tr_choose_0 {A : jA} {n l : Nat} {g : jv_S} {Q : jv_V → jv_L → jv_S → Prop} {v1 v2 : Int} (h :
   jv_At jv_T jv_ml kTr_choose 2 [jv_P 87, jv_I v1, jv_I v2, jv_I (0 : Int)] [] (LL n l) g Q) :
  jv_At jv_T jv_ml kTr_choose 0 [jv_P 87, jv_I v1, jv_I v2, jv_U] [] (LL n l) g Q :=
  jv_of_wp (gok9 (A := A)) (md := []) (stop := [2]) (tab := jt_Tr_choose) rfl 400 _ _ _ _ _ h
set_option maxRecDepth 100000 in
theorem sg_Tr_choose_2 {A : jA} {n l : Nat} {g : jv_S} {Q : jv_V → jv_L → jv_S → Prop} {v1 v2 v3 : Int} (h :
   ((g 14 1) ≤ v3 →
     Q (jv_I (-9 : Int)) (LL n l) g) ∧
    (¬ (g 14 1) ≤ v3 →
     ((0 ≤ v2 ∧ v2 < 2147483648 ∧ 0 ≤ v3 ∧ v3 < 31)) ∧
      ((hb v2 v3) = 0 →
       jv_r32 (v3 + (1 : Int)) ∧
        jv_At jv_T jv_ml kTr_choose 2 [jv_P 87, jv_I v1, jv_I v2, jv_I (v3 + (1 : Int))] [] (LL n l) g Q) ∧
      (¬ (hb v2 v3) = 0 →
       ((87 = 87) ∧ (LLx (LL n l)) ∧ (0 ≤ v3 ∧ v3 < 10)) ∧
        ((jb_p (g 100 v3 < g 17 v3)) = 0 →
         (v1 = (2 : Int) →
           Q (jv_I (-9 : Int)) (LL n l) g) ∧
          (¬ v1 = (2 : Int) →
           jv_r32 (v3 + (1 : Int)) ∧
            jv_At jv_T jv_ml kTr_choose 2 [jv_P 87, jv_I v1, jv_I v2, jv_I (v3 + (1 : Int))] [] (LL n l) g Q)) ∧
        (¬ (jb_p (g 100 v3 < g 17 v3)) = 0 →
         Q (jv_I v3) (LL n l) g)))) :
  jv_At jv_T jv_ml kTr_choose 2 [jv_P 87, jv_I v1, jv_I v2, jv_I v3] [] (LL n l) g Q :=
  jv_of_wp (gok9 (A := A)) (md := []) (stop := [2]) (tab := jt_Tr_choose) rfl 400 _ _ _ _ _ h
theorem tr_Tr_choose {A : jA} {B : jB} {n l : Nat} {g : jv_S} {Q : jv_V → jv_L → jv_S → Prop} {kd : Int} {s : Nat} (hN : CN A g) (h8 : ∀ c : Nat, c < ln A → g 100 c = B 8 c) (hs : s < 2 ^ ln A) (hQ : Q (jv_I (chs A B kd s)) (LL n l) g) :
  jv_Ca jv_T jv_ml kTr_choose [jv_P 87, jv_I kd, jv_I s] (LL n l) g Q := by
  have w2 := hN.1.2.1
  have f2 := hN.2.2.1
  have s31 := i31 hs (by omega)
  have main : ∀ d, d ≤ ln A → chf A B kd s (ln A) (ln A - d) = chs A B kd s → jv_At jv_T jv_ml kTr_choose 2 [jv_P 87, jv_I kd, jv_I s, jv_I d] [] (LL n l) g Q := by
    apply loop_up
    intro d hd ih h1
    apply sg_Tr_choose_2 (A := A)
    refine ⟨fun h => ?_, fun h => ?_⟩
    · rw [show ln A - d = 0 by omega] at h1
      rw [← h1] at hQ
      exact hQ
    · have f8 := h8 d (by omega)
      have f17 := (hN.2.2.2.1 d (by omega)).2.2
      rw [chf_s (by omega)] at h1
      rw [f8, f17]
      cases hbit : s.testBit d with
      | false =>
        rw [hbit] at h1
        have e0 := hb_f hbit
        have := ih (by omega) h1
        rw [e0]
        repeat' (first | (with_reducible assumption) | apply And.intro | intro _)
        all_goals (first | omega | exact LLx_ok | assumption | skip)
      | true =>
        rw [if_pos hbit] at h1
        have e0 := hb_t hbit
        rw [e0, jp0]
        by_cases hr : B 8 d < rm A d
        · rw [if_pos hr] at h1
          rw [← h1] at hQ
          repeat' (first | (with_reducible assumption) | apply And.intro | intro _)
          all_goals (first | omega | exact LLx_ok | assumption | skip)
        · rw [if_neg hr] at h1
          by_cases hk : kd = 2
          · rw [if_pos hk] at h1
            rw [← h1] at hQ
            repeat' (first | (with_reducible assumption) | apply And.intro | intro _)
            all_goals (first | omega | exact LLx_ok | assumption | skip)
          · rw [if_neg hk] at h1
            have := ih (by omega) h1
            repeat' (first | (with_reducible assumption) | apply And.intro | intro _)
            all_goals (first | omega | exact LLx_ok | assumption | skip)
  exact sg_Tr_choose_0 (A := A) (main 0 (by omega) rfl)
set_option maxRecDepth 100000 in
theorem LLt_len : LLt.length = 172 := by decide
theorem LL_len {n l : Nat} : (LL n l).length = 173 + l := by
  unfold LL
  rw [List.length_cons, List.length_append, List.length_replicate, LLt_len]
  omega
theorem LL_get {n l : Nat} {q : Int} (h1 : 174 ≤ q) (h2 : q < 174 + l) : 0 < q ∧ (LL n l)[(q - 1).toNat]? = some (11, 8, []) := by
  refine ⟨by omega, ?_⟩
  obtain ⟨q, rfl⟩ := Int.eq_ofNat_of_zero_le (show 0 ≤ q by omega)
  have e : ((q : Int) - 1).toNat = (q - 1 - 1) + 1 := by omega
  rw [e]
  unfold LL
  rw [List.getElem?_cons_succ, List.getElem?_append_right (by rw [LLt_len]; omega), LLt_len, List.getElem?_replicate]
  rw [if_pos (by omega)]
theorem LL_succ {n l : Nat} : LL n l ++ [(11, 8, [])] = LL n (l + 1) := by
  unfold LL
  rw [List.cons_append, List.append_assoc, ← List.replicate_succ']
/-- the class's store holds B; its loads are rb, rb + 1 .. -/
def TC (A : jA) (B : jB) (rb : Int) (l : Nat) (g : jv_S) : Prop := (g 87 5 = B 0 0 ∧ g 87 6 = B 0 1) ∧ (∀ c : Nat, c < ln A → g 100 c = B 8 c) ∧ (∀ c k : Nat, c < ln A → (k : Int) < B 8 c → g 89 ((c : Int) * 2 + k) = B 9 (2 * c + k)) ∧ (174 ≤ rb ∧ rb + B 0 0 ≤ 174 + l) ∧ ∀ i : Nat, (i : Int) < B 0 0 → g 88 i = rb + i ∧ g 1000 (8 * (rb + i) + 0) = i ∧ g 1000 (8 * (rb + i) + 1) = B 1 i ∧ g 1000 (8 * (rb + i) + 2) = B 2 i ∧ g 1000 (8 * (rb + i) + 3) = B 3 i ∧ g 1000 (8 * (rb + i) + 4) = B 4 i ∧ g 1000 (8 * (rb + i) + 5) = B 5 i ∧ g 1000 (8 * (rb + i) + 6) = B 6 i ∧ g 1000 (8 * (rb + i) + 7) ≤ B 0 1 ∧ (B 4 i ≠ -9 → (g 1000 (8 * (rb + i) + 7) = B 0 1 ↔ B 7 i = 1))
theorem TC_fr {A : jA} {B : jB} {rb : Int} {l : Nat} {g g' : jv_S} (h : TC A B rb l g) (hf : ∀ (p : Nat) (i : Int), ((87 ≤ p ∧ p ≤ 89) ∨ p = 100 ∨ p = 1000) → g' p i = g p i) : TC A B rb l g' := by
  obtain ⟨h1, h2, h3, h4, h5⟩ := h
  refine ⟨by rw [hf _ _ (by omega), hf _ _ (by omega)]; exact h1, fun c hc => by rw [hf _ _ (by omega)]; exact h2 c hc, fun c k hc hk => by rw [hf _ _ (by omega)]; exact h3 c k hc hk, h4, fun i hi => ?_⟩
  simp only [hf 88 _ (by omega), hf 1000 _ (by omega)]
  exact h5 i hi
/-- what comes of a lane's first one: the state, whether it moves -/
noncomputable def gof (A : jA) (B : jB) (c : Nat) : jB × Bool := if (tt A c : Int) = B 3 (B 9 (2 * c)).toNat then (hB B c (B 9 (2 * c)).toNat, true) else if chs A B (B 1 (B 9 (2 * c)).toNat) (tk A c (B 3 (B 9 (2 * c)).toNat).toNat) = -9 then (B, false) else (gB B c (B 9 (2 * c)).toNat (chs A B (B 1 (B 9 (2 * c)).toNat) (tk A c (B 3 (B 9 (2 * c)).toNat).toNat)).toNat, true)
theorem tk_nc {A : jA} (hw : wf A) {c d y : Nat} (hc : c < ln A) (h : (tk A c y).testBit d = true) : d ≠ c := by
  intro he
  subst he
  unfold tk at h
  rw [mk_bit, Bool.and_eq_true] at h
  have h3 := h.2
  unfold tq tb at h3
  rw [tx_c (Nat.lt_of_lt_of_le hc hw.2.1)] at h3
  have h4 := (hw.2.2.2.1 d hc).2.2.1
  simp [h4] at h3
set_option maxRecDepth 100000 in
theorem sg_Tr_enter_0 {A : jA} {n l : Nat} {g : jv_S} {Q : jv_V → jv_L → jv_S → Prop} {v1 v2 : Int} (h :
   (0 ≤ v2 ∧ v2 < 10) ∧
    (0 ≤ v2 ∧ v2 < 10) ∧
    (0 < v1 ∧ (LL n l)[(v1 - 1).toNat]? = some (11, 8, [])) ∧
    (0 ≤ (g 100 v2) ∧ (g 100 v2) < 2) ∧ 
    (0 ≤ v2 ∧ v2 < 10) ∧
    jv_r32 ((g 100 v2) + (1 : Int)) ∧
    (0 ≤ v2 ∧ v2 < 10) ∧ 
    (0 < v1 ∧ (LL n l)[(v1 - 1).toNat]? = some (11, 8, [])) ∧
    (0 < v1 ∧ (LL n l)[(v1 - 1).toNat]? = some (11, 8, [])) ∧
    jv_r32 (((jv_up (jv_up (jv_up g 89 (v2 * 2 + (g 100 v2)) (g 1000 (8 * v1 + 0))) 100 v2 ((g 100 v2) + (1 : Int))) 1000 (8 * v1 + 4) v2) 1000 (8 * v1 + 5)) + (1 : Int)) ∧
    (0 < v1 ∧ (LL n l)[(v1 - 1).toNat]? = some (11, 8, [])) ∧
    Q jv_U (LL n l) (jv_up (jv_up (jv_up (jv_up g 89 (v2 * 2 + (g 100 v2)) (g 1000 (8 * v1 + 0))) 100 v2 ((g 100 v2) + (1 : Int))) 1000 (8 * v1 + 4) v2) 1000 (8 * v1 + 5) (((jv_up (jv_up (jv_up g 89 (v2 * 2 + (g 100 v2)) (g 1000 (8 * v1 + 0))) 100 v2 ((g 100 v2) + (1 : Int))) 1000 (8 * v1 + 4) v2) 1000 (8 * v1 + 5)) + (1 : Int)))) :
  jv_At jv_T jv_ml kTr_enter 0 [jv_P 87, jv_D v1, jv_I v2] [] (LL n l) g Q :=
  jv_of_wp (gok9 (A := A)) (md := []) (stop := []) (tab := jt_Tr_enter) rfl 400 _ _ _ _ _ h
set_option maxRecDepth 100000 in
theorem sg_Tr_moves_0 {A : jA} {n l : Nat} {g : jv_S} {Q : jv_V → jv_L → jv_S → Prop} {v1 : Int} (h :
   (0 < v1 ∧ (LL n l)[(v1 - 1).toNat]? = some (11, 8, [])) ∧
    (0 ≤ (g 1000 (8 * v1 + 4)) ∧ (g 1000 (8 * v1 + 4)) < 10) ∧
    (0 < v1 ∧ (LL n l)[(v1 - 1).toNat]? = some (11, 8, [])) ∧
    ((g 16 (g 1000 (8 * v1 + 4))) = (g 1000 (8 * v1 + 3)) →
     ((1 : Int) = 0 →
       (0 < v1 ∧ (LL n l)[(v1 - 1).toNat]? = some (11, 8, [])) ∧
        (0 ≤ (g 1000 (8 * v1 + 4)) ∧ (g 1000 (8 * v1 + 4)) < 10) ∧
        (0 < v1 ∧ (LL n l)[(v1 - 1).toNat]? = some (11, 8, [])) ∧
        (0 ≤ (g 1000 (8 * v1 + 3)) ∧ (g 1000 (8 * v1 + 3)) < 6) ∧
        jv_Ca jv_T jv_ml kTr_choose [jv_P 87, jv_I (g 1000 (8 * v1 + 1)), jv_I (g 49 ((g 1000 (8 * v1 + 4)) * 6 + (g 1000 (8 * v1 + 3))))] (LL n l) g (fun r L2 g2 => jv_At jv_T jv_ml kTr_moves 58 [jv_P 87, jv_D v1, jv_I (g 1000 (8 * v1 + 4)), jv_I (1 : Int), jv_U, jv_U] (jv_pu r []) L2 g2 Q)) ∧
      (¬ (1 : Int) = 0 →
       ((1 : Int) = 0 →
         ((-9 : Int) = (-9 : Int) →
           ((0 : Int) = 0 ∨ (0 : Int) = 1) ∧ Q (jv_I (0 : Int)) (LL n l) g) ∧
          (¬ (-9 : Int) = (-9 : Int) →
           (0 ≤ (g 1000 (8 * v1 + 4)) ∧ (g 1000 (8 * v1 + 4)) < 10) ∧
            jv_r32 ((g 100 (g 1000 (8 * v1 + 4))) - (1 : Int)) ∧
            (0 ≤ (g 1000 (8 * v1 + 4)) ∧ (g 1000 (8 * v1 + 4)) < 10) ∧ 
            jv_At jv_T jv_ml kTr_moves 86 [jv_P 87, jv_D v1, jv_I (g 1000 (8 * v1 + 4)), jv_I (1 : Int), jv_I (-9 : Int), jv_I (0 : Int)] [] (LL n l) (jv_up g 100 (g 1000 (8 * v1 + 4)) ((g 100 (g 1000 (8 * v1 + 4))) - (1 : Int))) Q)) ∧
        (¬ (1 : Int) = 0 →
         (0 ≤ (g 1000 (8 * v1 + 4)) ∧ (g 1000 (8 * v1 + 4)) < 10) ∧
          jv_r32 ((g 100 (g 1000 (8 * v1 + 4))) - (1 : Int)) ∧
          (0 ≤ (g 1000 (8 * v1 + 4)) ∧ (g 1000 (8 * v1 + 4)) < 10) ∧ 
          jv_At jv_T jv_ml kTr_moves 86 [jv_P 87, jv_D v1, jv_I (g 1000 (8 * v1 + 4)), jv_I (1 : Int), jv_I (-9 : Int), jv_I (0 : Int)] [] (LL n l) (jv_up g 100 (g 1000 (8 * v1 + 4)) ((g 100 (g 1000 (8 * v1 + 4))) - (1 : Int))) Q))) ∧
    (¬ (g 16 (g 1000 (8 * v1 + 4))) = (g 1000 (8 * v1 + 3)) →
     ((0 : Int) = 0 →
       (0 < v1 ∧ (LL n l)[(v1 - 1).toNat]? = some (11, 8, [])) ∧
        (0 ≤ (g 1000 (8 * v1 + 4)) ∧ (g 1000 (8 * v1 + 4)) < 10) ∧
        (0 < v1 ∧ (LL n l)[(v1 - 1).toNat]? = some (11, 8, [])) ∧
        (0 ≤ (g 1000 (8 * v1 + 3)) ∧ (g 1000 (8 * v1 + 3)) < 6) ∧
        jv_Ca jv_T jv_ml kTr_choose [jv_P 87, jv_I (g 1000 (8 * v1 + 1)), jv_I (g 49 ((g 1000 (8 * v1 + 4)) * 6 + (g 1000 (8 * v1 + 3))))] (LL n l) g (fun r L2 g2 => jv_At jv_T jv_ml kTr_moves 58 [jv_P 87, jv_D v1, jv_I (g 1000 (8 * v1 + 4)), jv_I (0 : Int), jv_U, jv_U] (jv_pu r []) L2 g2 Q)) ∧
      (¬ (0 : Int) = 0 →
       ((0 : Int) = 0 →
         ((-9 : Int) = (-9 : Int) →
           ((0 : Int) = 0 ∨ (0 : Int) = 1) ∧ Q (jv_I (0 : Int)) (LL n l) g) ∧
          (¬ (-9 : Int) = (-9 : Int) →
           (0 ≤ (g 1000 (8 * v1 + 4)) ∧ (g 1000 (8 * v1 + 4)) < 10) ∧
            jv_r32 ((g 100 (g 1000 (8 * v1 + 4))) - (1 : Int)) ∧
            (0 ≤ (g 1000 (8 * v1 + 4)) ∧ (g 1000 (8 * v1 + 4)) < 10) ∧ 
            jv_At jv_T jv_ml kTr_moves 86 [jv_P 87, jv_D v1, jv_I (g 1000 (8 * v1 + 4)), jv_I (0 : Int), jv_I (-9 : Int), jv_I (0 : Int)] [] (LL n l) (jv_up g 100 (g 1000 (8 * v1 + 4)) ((g 100 (g 1000 (8 * v1 + 4))) - (1 : Int))) Q)) ∧
        (¬ (0 : Int) = 0 →
         (0 ≤ (g 1000 (8 * v1 + 4)) ∧ (g 1000 (8 * v1 + 4)) < 10) ∧
          jv_r32 ((g 100 (g 1000 (8 * v1 + 4))) - (1 : Int)) ∧
          (0 ≤ (g 1000 (8 * v1 + 4)) ∧ (g 1000 (8 * v1 + 4)) < 10) ∧ 
          jv_At jv_T jv_ml kTr_moves 86 [jv_P 87, jv_D v1, jv_I (g 1000 (8 * v1 + 4)), jv_I (0 : Int), jv_I (-9 : Int), jv_I (0 : Int)] [] (LL n l) (jv_up g 100 (g 1000 (8 * v1 + 4)) ((g 100 (g 1000 (8 * v1 + 4))) - (1 : Int))) Q)))) :
  jv_At jv_T jv_ml kTr_moves 0 [jv_P 87, jv_D v1, jv_U, jv_U, jv_U, jv_U] [] (LL n l) g Q :=
  jv_of_wp (gok9 (A := A)) (md := []) (stop := [86]) (tab := jt_Tr_moves) rfl 400 _ _ _ _ _ h
set_option maxRecDepth 100000 in
theorem sg_Tr_moves_58 {A : jA} {n l : Nat} {g : jv_S} {Q : jv_V → jv_L → jv_S → Prop} {v1 v2 v3 s0 : Int} {v4 v5 : jv_V} (h :
   (v3 = 0 →
     (s0 = (-9 : Int) →
       ((0 : Int) = 0 ∨ (0 : Int) = 1) ∧ Q (jv_I (0 : Int)) (LL n l) g) ∧
      (¬ s0 = (-9 : Int) →
       (0 ≤ v2 ∧ v2 < 10) ∧
        jv_r32 ((g 100 v2) - (1 : Int)) ∧
        (0 ≤ v2 ∧ v2 < 10) ∧ 
        jv_At jv_T jv_ml kTr_moves 86 [jv_P 87, jv_D v1, jv_I v2, jv_I v3, jv_I s0, jv_I (0 : Int)] [] (LL n l) (jv_up g 100 v2 ((g 100 v2) - (1 : Int))) Q)) ∧
    (¬ v3 = 0 →
     (0 ≤ v2 ∧ v2 < 10) ∧
      jv_r32 ((g 100 v2) - (1 : Int)) ∧
      (0 ≤ v2 ∧ v2 < 10) ∧ 
      jv_At jv_T jv_ml kTr_moves 86 [jv_P 87, jv_D v1, jv_I v2, jv_I v3, jv_I s0, jv_I (0 : Int)] [] (LL n l) (jv_up g 100 v2 ((g 100 v2) - (1 : Int))) Q)) :
  jv_At jv_T jv_ml kTr_moves 58 [jv_P 87, jv_D v1, jv_I v2, jv_I v3, v4, v5] [jv_I s0] (LL n l) g Q :=
  jv_of_wp (gok9 (A := A)) (md := []) (stop := [86]) (tab := jt_Tr_moves) rfl 400 _ _ _ _ _ h
set_option maxRecDepth 100000 in
theorem sg_Tr_moves_86 {A : jA} {n l : Nat} {g : jv_S} {Q : jv_V → jv_L → jv_S → Prop} {v1 v2 v3 v4 v5 : Int} (h :
   (0 ≤ v2 ∧ v2 < 10) ∧
    ((g 100 v2) ≤ v5 →
     (0 < v1 ∧ (LL n l)[(v1 - 1).toNat]? = some (11, 8, [])) ∧
      (v3 = 0 →
       jv_Ca jv_T jv_ml kTr_enter [jv_P 87, jv_D v1, jv_I v4] (LL n l) (jv_up g 1000 (8 * v1 + 7) (g 87 6)) (fun r L2 g2 => jv_At jv_T jv_ml kTr_moves 159 [jv_P 87, jv_D v1, jv_I v2, jv_I v3, jv_I v4, jv_I v5] (jv_pu r []) L2 g2 Q)) ∧
      (¬ v3 = 0 →
       (0 < v1 ∧ (LL n l)[(v1 - 1).toNat]? = some (11, 8, [])) ∧
        (0 < v1 ∧ (LL n l)[(v1 - 1).toNat]? = some (11, 8, [])) ∧
        ((1 : Int) = 0 ∨ (1 : Int) = 1) ∧ Q (jv_I (1 : Int)) (LL n l) (jv_up (jv_up (jv_up g 1000 (8 * v1 + 7) (g 87 6)) 1000 (8 * v1 + 4) (-9 : Int)) 1000 (8 * v1 + 6) (g 87 6)))) ∧
    (¬ (g 100 v2) ≤ v5 →
     (0 ≤ v2 ∧ v2 < 10) ∧
      (0 ≤ v2 ∧ v2 < 10) ∧
      jv_r32 (v5 + (1 : Int)) ∧
      (0 ≤ (v5 + (1 : Int)) ∧ (v5 + (1 : Int)) < 2) ∧
      (0 ≤ v5 ∧ v5 < 2) ∧ 
      jv_r32 (v5 + (1 : Int)) ∧
      jv_At jv_T jv_ml kTr_moves 86 [jv_P 87, jv_D v1, jv_I v2, jv_I v3, jv_I v4, jv_I (v5 + (1 : Int))] [] (LL n l) (jv_up g 89 (v2 * 2 + v5) (g 89 (v2 * 2 + (v5 + (1 : Int))))) Q)) :
  jv_At jv_T jv_ml kTr_moves 86 [jv_P 87, jv_D v1, jv_I v2, jv_I v3, jv_I v4, jv_I v5] [] (LL n l) g Q :=
  jv_of_wp (gok9 (A := A)) (md := []) (stop := [86]) (tab := jt_Tr_moves) rfl 400 _ _ _ _ _ h
set_option maxRecDepth 100000 in
theorem sg_Tr_moves_159 {A : jA} {n l : Nat} {g : jv_S} {Q : jv_V → jv_L → jv_S → Prop} {v1 v2 v3 v4 v5 : Int} (h :
   ((1 : Int) = 0 ∨ (1 : Int) = 1) ∧ Q (jv_I (1 : Int)) (LL n l) g) :
  jv_At jv_T jv_ml kTr_moves 159 [jv_P 87, jv_D v1, jv_I v2, jv_I v3, jv_I v4, jv_I v5] [] (LL n l) g Q :=
  jv_of_wp (gok9 (A := A)) (md := []) (stop := [86]) (tab := jt_Tr_moves) rfl 400 _ _ _ _ _ h
theorem tr_Tr_moves {A : jA} {B : jB} {n l : Nat} {g : jv_S} {Q : jv_V → jv_L → jv_S → Prop} {rb : Int} {c i : Nat} (hN : CN A g) (hW : CW 40 A g) (hB' : BW A B) (hT : TC A B rb l g) (hti : B 0 1 ≤ 1000000) (hc : c < ln A) (hs : 1 ≤ B 8 c) (hi : B 9 (2 * c) = i) (h7 : B 7 i = 0)
  (hQ : ∀ g' : jv_S, BW A (gof A B c).1 → TC A (gof A B c).1 rb l g' → (∀ (p : Nat) (i : Int), ¬ (p = 89 ∨ p = 100 ∨ p = 1000) → g' p i = g p i) → Q (jv_I (jb_b (gof A B c).2)) (LL n l) g') :
  jv_Ca jv_T jv_ml kTr_moves [jv_P 87, jv_D (rb + i)] (LL n l) g Q := by
  have hw := hN.1
  have w1 := hw.1
  have w2 := hw.2.1
  obtain ⟨b1, b2, b3, b4, b5⟩ := id hB'
  obtain ⟨t1, t2, t3, t4, t5⟩ := id hT
  have hrm : ∀ c, c < ln A → rm A c ≤ 2 := fun c hc => (hw.2.2.2.1 c hc).2.2.2.2.1
  have hi3 := b3 c 0 hc (by omega)
  rw [Nat.add_zero, hi, Int.toNat_natCast] at hi3
  obtain ⟨i1, i2, i3⟩ := hi3
  obtain ⟨a1, a2, a3, a4, a5, a6⟩ := b5 i i2
  obtain ⟨r1, r2, r3, r4, r5, r6, r7, r8, r9, r10⟩ := t5 i i2
  have gq := LL_get (n := n) (l := l) (q := rb + i) (by omega) (by omega)
  have f8 := t2 c hc
  have s1 := b2 c hc
  have s2 := hrm c hc
  have f16 : g 16 c = tt A c := (hN.2.2.2.1 c hc).2.1
  obtain ⟨y, hy⟩ := Int.eq_ofNat_of_zero_le a3.1
  have f49 : g 49 ((c : Int) * 6 + y) = tk A c y := hW.2.2.2 c y hc (by omega)
  -- the lane is left
  have shift : ∀ (h d : Int), (∀ g1 : jv_S, g1 100 c = B 8 c - 1 → (∀ k : Nat, (k : Int) < B 8 c - 1 → g1 89 ((c : Int) * 2 + k) = B 9 (2 * c + 1)) → (∀ (p : Nat) (j : Int), ¬ (p = 100 ∧ j = c) → ¬ (p = 89 ∧ j = (c : Int) * 2) → g1 p j = g p j) → (h = 0 → jv_Ca jv_T jv_ml kTr_enter [jv_P 87, jv_D (rb + i), jv_I d] (LL n l) (jv_up g1 1000 (8 * (rb + i) + 7) (g1 87 6)) (fun r L2 g2 => jv_At jv_T jv_ml kTr_moves 159 [jv_P 87, jv_D (rb + i), jv_I c, jv_I h, jv_I d, jv_I (B 8 c - 1)] (jv_pu r []) L2 g2 Q)) ∧ (¬ h = 0 → Q (jv_I 1) (LL n l) (jv_up (jv_up (jv_up g1 1000 (8 * (rb + i) + 7) (g1 87 6)) 1000 (8 * (rb + i) + 4) (-9)) 1000 (8 * (rb + i) + 6) (g1 87 6)))) → jv_At jv_T jv_ml kTr_moves 86 [jv_P 87, jv_D (rb + i), jv_I c, jv_I h, jv_I d, jv_I 0] [] (LL n l) (jv_up g 100 c (B 8 c - 1)) Q := by
    intro h d hk
    by_cases hs1 : B 8 c = 1
    · have := hk (jv_up g 100 c (B 8 c - 1)) (up_eq rfl rfl) (fun k hk => by omega) (fun p j h1 h2 => up_ne (by omega))
      apply sg_Tr_moves_86 (A := A)
      rw [show jv_up g 100 (c : Int) (B 8 c - 1) 100 c = B 8 c - 1 from up_eq rfl rfl]
      refine ⟨⟨by omega, by omega⟩, fun _ => ⟨gq, fun h0 => ?_, fun h0 => ⟨gq, gq, Or.inr rfl, ?_⟩⟩, fun h => by omega⟩
      · have := this.1 h0
        rw [show B 8 c - 1 = 0 by omega] at this ⊢
        exact this
      · exact this.2 h0
    · have hs2 : B 8 c = 2 := by omega
      apply sg_Tr_moves_86 (A := A)
      rw [show jv_up g 100 (c : Int) (B 8 c - 1) 100 c = B 8 c - 1 from up_eq rfl rfl]
      refine ⟨⟨by omega, by omega⟩, fun h => by omega, fun _ => ⟨⟨by omega, by omega⟩, ⟨by omega, by omega⟩, ⟨by omega, by omega⟩, ⟨by omega, by omega⟩, ⟨by omega, by omega⟩, ⟨by omega, by omega⟩, ?_⟩⟩
      have e1 : jv_up g 100 (c : Int) (B 8 c - 1) 89 ((c : Int) * 2 + (0 + 1)) = B 9 (2 * c + 1) := by
        rw [up_ne (by omega)]
        exact t3 c 1 hc (by omega)
      rw [e1]
      have this := hk (jv_up (jv_up g 100 c (B 8 c - 1)) 89 ((c : Int) * 2 + 0) (B 9 (2 * c + 1))) (by rw [up_ne (by omega), up_eq rfl rfl]) (fun k hk => by rw [up_eq rfl (by omega)]) (fun p j h1 h2 => by rw [up_ne (by omega), up_ne (by omega)])
      apply sg_Tr_moves_86 (A := A)
      rw [show jv_up (jv_up g 100 (c : Int) (B 8 c - 1)) 89 ((c : Int) * 2 + 0) (B 9 (2 * c + 1)) 100 c = B 8 c - 1 by rw [up_ne (by omega), up_eq rfl rfl]]
      refine ⟨⟨by omega, by omega⟩, fun _ => ⟨gq, fun h0 => ?_, fun h0 => ⟨gq, gq, Or.inr rfl, this.2 h0⟩⟩, fun h => by omega⟩
      have := this.1 h0
      rw [show B 8 c - 1 = 0 + 1 by omega] at this ⊢
      exact this
  apply sg_Tr_moves_0 (A := A)
  rw [r6, i3, f16, r5, r3, hy, f49, f8]
  unfold gof at hQ
  rw [hi, Int.toNat_natCast, hy, Int.toNat_natCast] at hQ
  have ui : ∀ (j k : Int) (e : Nat), (e : Int) < B 0 0 → (e : Int) ≠ i → 0 ≤ j → j < 8 → 0 ≤ k → k < 8 → ¬ (8 * (rb + e) + j = 8 * (rb + i) + k) := fun j k e h1 h2 h3 h4 h5 h6 => by omega
  refine ⟨gq, ⟨by omega, by omega⟩, gq, fun hh => ⟨fun h => by omega, fun _ => ⟨fun h => by omega, fun _ => ⟨⟨by omega, by omega⟩, ⟨by omega, by omega⟩, ⟨by omega, by omega⟩, ?_⟩⟩⟩, fun hh => ⟨fun _ => ⟨gq, ⟨by omega, by omega⟩, gq, ⟨by omega, by omega⟩, ?_⟩, fun h => absurd rfl h⟩⟩
  · rw [if_pos hh] at hQ
    refine shift 1 (-9) (fun g1 k1 k2 k3 => ⟨fun h => by omega, fun _ => ?_⟩)
    have e87 : g1 87 6 = B 0 1 := by rw [k3 _ _ (by omega) (by omega)]; exact t1.2
    rw [e87]
    refine hQ _ (BW_h hw hB' hc hs hi) ⟨?_, fun c' hc' => ?_, fun c' k hc' hk => ?_, t4, fun e he => ?_⟩ (fun p j hp => by rw [up_ne (by omega), up_ne (by omega), up_ne (by omega), k3 _ _ (by omega) (by omega)])
    · rw [up_ne (by omega), up_ne (by omega), up_ne (by omega), up_ne (by omega), up_ne (by omega), up_ne (by omega), k3 _ _ (by omega) (by omega), k3 _ _ (by omega) (by omega)]
      exact t1
    · rw [up_ne (by omega), up_ne (by omega), up_ne (by omega)]
      show _ = if c' = c then B 8 c' - 1 else B 8 c'
      by_cases hcc : c' = c
      · subst hcc; rw [if_pos rfl]; exact k1
      · rw [if_neg hcc, k3 _ _ (by omega) (by omega)]; exact t2 c' hc'
    · have hk : (k : Int) < (if c' = c then B 8 c' - 1 else B 8 c') := hk
      rw [up_ne (by omega), up_ne (by omega), up_ne (by omega)]
      show _ = if 2 * c' + k = 2 * c then B 9 (2 * c + 1) else B 9 (2 * c' + k)
      have q1 := b2 c' hc'
      have q2 := hrm c' hc'
      by_cases hcc : c' = c
      · subst hcc
        rw [if_pos rfl] at hk
        rw [if_pos (by omega)]
        exact k2 k hk
      · rw [if_neg hcc] at hk
        rw [if_neg (by omega), k3 _ _ (by omega) (by omega)]
        exact t3 c' k hc' hk
    · have he : (e : Int) < B 0 0 := he
      show _ ∧ _ ∧ _ = B 1 e ∧ _ = B 2 e ∧ _ = B 3 e ∧ _ = (if e = i then -9 else B 4 e) ∧ _ = B 5 e ∧ _ = (if e = i then B 0 1 else B 6 e) ∧ _ ≤ B 0 1 ∧ ((if e = i then -9 else B 4 e) ≠ -9 → (_ = B 0 1 ↔ B 7 e = 1))
      by_cases hei : e = i
      · subst hei
        rw [if_pos rfl, if_pos rfl]
        have q : ∀ j : Int, g1 1000 (8 * (rb + e) + j) = g 1000 (8 * (rb + e) + j) := fun j => k3 _ _ (by omega) (by omega)
        refine ⟨by rw [up_ne (by omega), up_ne (by omega), up_ne (by omega), k3 _ _ (by omega) (by omega)]; exact r1, by rw [up_ne (by omega), up_ne (by omega), up_ne (by omega), q]; exact r2, by rw [up_ne (by omega), up_ne (by omega), up_ne (by omega), q]; exact r3, by rw [up_ne (by omega), up_ne (by omega), up_ne (by omega), q]; exact r4, by rw [up_ne (by omega), up_ne (by omega), up_ne (by omega), q]; exact r5, by rw [up_ne (by omega), up_eq rfl rfl], by rw [up_ne (by omega), up_ne (by omega), up_ne (by omega), q]; exact r7, by rw [up_eq rfl rfl], by rw [up_ne (by omega), up_ne (by omega), up_eq rfl rfl]; omega, fun h => absurd rfl h⟩
      · rw [if_neg hei, if_neg hei]
        have q : ∀ j : Int, 0 ≤ j → j < 8 → jv_up (jv_up (jv_up g1 1000 (8 * (rb + i) + 7) (B 0 1)) 1000 (8 * (rb + i) + 4) (-9)) 1000 (8 * (rb + i) + 6) (B 0 1) 1000 (8 * (rb + e) + j) = g 1000 (8 * (rb + e) + j) := fun j h1 h2 => by rw [up_ne (by omega), up_ne (by omega), up_ne (by omega), k3 _ _ (by omega) (by omega)]
        rw [q 0 (by omega) (by omega), q 1 (by omega) (by omega), q 2 (by omega) (by omega), q 3 (by omega) (by omega), q 4 (by omega) (by omega), q 5 (by omega) (by omega), q 6 (by omega) (by omega), q 7 (by omega) (by omega), up_ne (by omega), up_ne (by omega), up_ne (by omega), k3 _ _ (by omega) (by omega)]
        exact t5 e he
  · rw [if_neg hh] at hQ
    refine tr_Tr_choose hN t2 (tk_ltl c y) ?_
    apply sg_Tr_moves_58 (A := A)
    rw [f8]
    rcases chf_ok (A := A) (B := B) (kd := B 1 i) (s := tk A c y) (m := ln A) (ln A) (Nat.le_refl _) with h9 | ⟨d, d1, d2, d3, d4⟩
    · have h9 : chs A B (B 1 i) (tk A c y) = -9 := h9
      rw [h9] at hQ ⊢
      rw [if_pos rfl] at hQ
      exact ⟨fun _ => ⟨fun _ => ⟨Or.inl rfl, hQ g hB' hT (fun _ _ _ => rfl)⟩, fun h => absurd rfl h⟩, fun h => absurd rfl h⟩
    · have d2 : chs A B (B 1 i) (tk A c y) = (d : Int) := d2
      have hdc := tk_nc hw hc d3
      rw [d2] at hQ ⊢
      rw [if_neg (by omega), Int.toNat_natCast] at hQ
      refine ⟨fun _ => ⟨fun h => by omega, fun _ => ⟨⟨by omega, by omega⟩, ⟨by omega, by omega⟩, ⟨by omega, by omega⟩, ?_⟩⟩, fun h => absurd rfl h⟩
      refine shift 0 d (fun g1 k1 k2 k3 => ⟨fun _ => ?_, fun h => absurd rfl h⟩)
      have e87 : g1 87 6 = B 0 1 := by rw [k3 _ _ (by omega) (by omega)]; exact t1.2
      rw [e87]
      have u2 := hrm d d1
      have u1 := b2 d d1
      have g8 : jv_up g1 1000 (8 * (rb + i) + 7) (B 0 1) 100 d = B 8 d := by rw [up_ne (by omega), k3 _ _ (by omega) (by omega)]; exact t2 d d1
      have g0 : jv_up g1 1000 (8 * (rb + i) + 7) (B 0 1) 1000 (8 * (rb + i) + 0) = i := by rw [up_ne (by omega), k3 _ _ (by omega) (by omega)]; exact r2
      have g5 : jv_up (jv_up (jv_up (jv_up g1 1000 (8 * (rb + i) + 7) (B 0 1)) 89 ((d : Int) * 2 + B 8 d) i) 100 d (B 8 d + 1)) 1000 (8 * (rb + i) + 4) d 1000 (8 * (rb + i) + 5) = B 5 i := by rw [up_ne (by omega), up_ne (by omega), up_ne (by omega), up_ne (by omega), k3 _ _ (by omega) (by omega)]; exact r7
      apply sg_Tr_enter_0 (A := A)
      rw [g8, g0, g5]
      refine ⟨⟨by omega, by omega⟩, ⟨by omega, by omega⟩, gq, ⟨by omega, by omega⟩, ⟨by omega, by omega⟩, ⟨by omega, by omega⟩, ⟨by omega, by omega⟩, gq, gq, ⟨by omega, by omega⟩, gq, ?_⟩
      apply sg_Tr_moves_159 (A := A)
      refine ⟨Or.inr rfl, ?_⟩
      refine hQ _ (BW_g hw hB' hc hs hi d1 hdc d4 h7) ⟨?_, fun c' hc' => ?_, fun c' k hc' hk => ?_, t4, fun e he => ?_⟩ (fun p j hp => by rw [up_ne (by omega), up_ne (by omega), up_ne (by omega), up_ne (by omega), up_ne (by omega), k3 _ _ (by omega) (by omega)])
      · rw [up_ne (by omega), up_ne (by omega), up_ne (by omega), up_ne (by omega), up_ne (by omega), up_ne (by omega), up_ne (by omega), up_ne (by omega), up_ne (by omega), up_ne (by omega), k3 _ _ (by omega) (by omega), k3 _ _ (by omega) (by omega)]
        exact t1
      · rw [up_ne (by omega), up_ne (by omega)]
        show _ = if c' = c then B 8 c' - 1 else if c' = d then B 8 c' + 1 else B 8 c'
        by_cases hcc : c' = c
        · subst hcc
          rw [if_pos rfl, up_ne (by omega), up_ne (by omega), up_ne (by omega)]
          exact k1
        · rw [if_neg hcc]
          by_cases hcd : c' = d
          · subst hcd
            rw [if_pos rfl, up_eq rfl rfl]
          · rw [if_neg hcd, up_ne (by omega), up_ne (by omega), up_ne (by omega), k3 _ _ (by omega) (by omega)]
            exact t2 c' hc'
      · have hk : (k : Int) < (if c' = c then B 8 c' - 1 else if c' = d then B 8 c' + 1 else B 8 c') := hk
        rw [up_ne (by omega), up_ne (by omega), up_ne (by omega)]
        show _ = if 2 * c' + k = 2 * c then B 9 (2 * c + 1) else if 2 * c' + k = 2 * d + (B 8 d).toNat then (i : Int) else B 9 (2 * c' + k)
        have q1 := b2 c' hc'
        have q2 := hrm c' hc'
        by_cases hcc : c' = c
        · subst hcc
          rw [if_pos rfl] at hk
          rw [if_pos (by omega), up_ne (by omega), up_ne (by omega)]
          exact k2 k hk
        · rw [if_neg hcc] at hk
          have hk2 : (k : Int) ≤ 1 := by
            by_cases hcd : c' = d
            · subst hcd; rw [if_pos rfl] at hk; omega
            · rw [if_neg hcd] at hk; omega
          rw [if_neg (show ¬ 2 * c' + k = 2 * c by omega)]
          by_cases hcd : c' = d
          · subst hcd
            rw [if_pos rfl] at hk
            by_cases hkt : (k : Int) = B 8 c'
            · rw [if_pos (by omega), up_eq rfl (by omega)]
            · rw [if_neg (by omega), up_ne (by omega), up_ne (by omega), k3 _ _ (by omega) (by omega)]
              exact t3 c' k hc' (by omega)
          · rw [if_neg hcd] at hk
            rw [if_neg (by omega), up_ne (by omega), up_ne (by omega), k3 _ _ (by omega) (by omega)]
            exact t3 c' k hc' hk
      · have he : (e : Int) < B 0 0 := he
        show _ ∧ _ ∧ _ = B 1 e ∧ _ = B 2 e ∧ _ = B 3 e ∧ _ = (if e = i then (d : Int) else B 4 e) ∧ _ = (if e = i then B 5 e + 1 else B 5 e) ∧ _ = B 6 e ∧ _ ≤ B 0 1 ∧ ((if e = i then (d : Int) else B 4 e) ≠ -9 → (_ = B 0 1 ↔ (if e = i then 1 else B 7 e) = 1))
        by_cases hei : e = i
        · subst hei
          rw [if_pos rfl, if_pos rfl, if_pos rfl]
          have q : ∀ j : Int, 0 ≤ j → j < 8 → j ≠ 4 → j ≠ 5 → j ≠ 7 → jv_up (jv_up (jv_up (jv_up (jv_up g1 1000 (8 * (rb + e) + 7) (B 0 1)) 89 ((d : Int) * 2 + B 8 d) e) 100 d (B 8 d + 1)) 1000 (8 * (rb + e) + 4) d) 1000 (8 * (rb + e) + 5) (B 5 e + 1) 1000 (8 * (rb + e) + j) = g 1000 (8 * (rb + e) + j) := fun j h1 h2 h3 h4 h5 => by rw [up_ne (by omega), up_ne (by omega), up_ne (by omega), up_ne (by omega), up_ne (by omega), k3 _ _ (by omega) (by omega)]
          rw [q 0 (by omega) (by omega) (by omega) (by omega) (by omega), q 1 (by omega) (by omega) (by omega) (by omega) (by omega), q 2 (by omega) (by omega) (by omega) (by omega) (by omega), q 3 (by omega) (by omega) (by omega) (by omega) (by omega), q 6 (by omega) (by omega) (by omega) (by omega) (by omega)]
          refine ⟨by rw [up_ne (by omega), up_ne (by omega), up_ne (by omega), up_ne (by omega), up_ne (by omega), k3 _ _ (by omega) (by omega)]; exact r1, r2, r3, r4, r5, by rw [up_ne (by omega), up_eq rfl rfl], up_eq rfl rfl, r8, ?_⟩
          rw [up_ne (by omega), up_ne (by omega), up_ne (by omega), up_ne (by omega), up_eq rfl rfl]
          exact ⟨by omega, fun _ => ⟨fun _ => rfl, fun _ => rfl⟩⟩
        · rw [if_neg hei, if_neg hei, if_neg hei]
          have q : ∀ j : Int, 0 ≤ j → j < 8 → jv_up (jv_up (jv_up (jv_up (jv_up g1 1000 (8 * (rb + i) + 7) (B 0 1)) 89 ((d : Int) * 2 + B 8 d) i) 100 d (B 8 d + 1)) 1000 (8 * (rb + i) + 4) d) 1000 (8 * (rb + i) + 5) (B 5 i + 1) 1000 (8 * (rb + e) + j) = g 1000 (8 * (rb + e) + j) := fun j h1 h2 => by rw [up_ne (by omega), up_ne (by omega), up_ne (by omega), up_ne (by omega), up_ne (by omega), k3 _ _ (by omega) (by omega)]
          rw [q 0 (by omega) (by omega), q 1 (by omega) (by omega), q 2 (by omega) (by omega), q 3 (by omega) (by omega), q 4 (by omega) (by omega), q 5 (by omega) (by omega), q 6 (by omega) (by omega), q 7 (by omega) (by omega), up_ne (by omega), up_ne (by omega), up_ne (by omega), up_ne (by omega), up_ne (by omega), k3 _ _ (by omega) (by omega)]
          exact t5 e he
