/-! ===== bounds of that number; no lane twice where all come ===== -/
def hh (s : Nat) : Nat := if s = 0 then 1 else if s = 1 then 1 else if s = 2 then 2 else if s = 3 then 12 else if s = 4 then 144 else if s = 5 then 8640 else if s = 6 then 518400 else if s = 7 then 18144000 else if s = 8 then 21168000 else if s = 9 then 36288000 else 217728000
def hh2 (s : Nat) : Nat := if s = 0 then 1 else if s = 1 then 2 else if s = 2 then 12 else if s = 3 then 144 else if s = 4 then 8640 else if s = 5 then 518400 else if s = 6 then 18144000 else if s = 7 then 36288000 else if s = 8 then 217728000 else 4478976000
theorem hh_add {a b : Nat} (h : a + b ≤ 10) : hh a * gm b ≤ hh (a + b) := by
  have : ∀ a b : Fin 11, a.val + b.val ≤ 10 → hh a.val * gm b.val ≤ hh (a.val + b.val) := by decide +kernel
  exact this ⟨a, by omega⟩ ⟨b, by omega⟩ h
theorem hh_mono {a b : Nat} (h : a ≤ b) (hb : b ≤ 10) : hh a ≤ hh b := by
  have : ∀ a b : Fin 11, a.val ≤ b.val → hh a.val ≤ hh b.val := by decide +kernel
  exact this ⟨a, by omega⟩ ⟨b, by omega⟩ h
theorem hh2_add {a b : Nat} (h : a + b ≤ 9) : hh2 a * gm (b + 1) ≤ hh2 (a + b) := by
  have : ∀ a b : Fin 10, a.val + b.val ≤ 9 → hh2 a.val * gm (b.val + 1) ≤ hh2 (a.val + b.val) := by decide +kernel
  exact this ⟨a, by omega⟩ ⟨b, by omega⟩ h
theorem hh2_mono {a b : Nat} (h : a ≤ b) (hb : b ≤ 9) : hh2 a ≤ hh2 b := by
  have : ∀ a b : Fin 10, a.val ≤ b.val → hh2 a.val ≤ hh2 b.val := by decide +kernel
  exact this ⟨a, by omega⟩ ⟨b, by omega⟩ h
def sO (A : jA) (m : Nat) : Nat := ct (fun d => decide (fr A d < m)) (ln A)
theorem sO_step (A : jA) (m : Nat) : sO A m + od A m ≤ sO A (m + 1) :=
  ct_add _ (fun i _ a => by rw [decide_eq_true_iff] at a ⊢; omega) (fun i _ a => by rw [decide_eq_true_iff] at a ⊢; omega) (fun i _ a b => by rw [decide_eq_true_iff] at a b; omega)
theorem sO_le {A : jA} (hw : wf A) (m : Nat) : sO A m ≤ 10 := Nat.le_trans (ct_le _ _) hw.2.1
theorem NN_le {A : jA} (hw : wf A) : NN A ≤ 217728000 := by
  have : ∀ m, pd (fun v => gm (od A v)) m ≤ hh (sO A m) := by
    intro m
    induction m with
    | zero => have := hh_mono (a := 0) (b := sO A 0) (Nat.zero_le _) (sO_le hw 0); exact Nat.le_trans (show (1 : Nat) ≤ hh 0 by decide) this
    | succ m ih =>
      have h1 := sO_step A m
      have h2 := sO_le hw (m + 1)
      show pd (fun v => gm (od A v)) m * gm (od A m) ≤ _
      exact Nat.le_trans (Nat.mul_le_mul_right _ ih) (Nat.le_trans (hh_add (by omega)) (hh_mono h1 h2))
  exact Nat.le_trans (this (nd A)) (Nat.le_trans (hh_mono (sO_le hw _) (Nat.le_refl _)) (by decide))
theorem NN_le2 {A : jA} (hw : wf A) (h5 : 5 ≤ nd A) (ho : ∀ v, v < nd A → 1 ≤ od A v) : NN A ≤ 518400 := by
  have : ∀ m, m ≤ nd A → m ≤ sO A m ∧ pd (fun v => gm (od A v)) m ≤ hh2 (sO A m - m) := by
    intro m
    induction m with
    | zero =>
      intro _
      have e : sO A 0 = 0 := by
        have := ct_ext (p := fun d => decide (fr A d < 0)) (q := fun _ => false) (ln A) (fun i _ => decide_eq_false (by omega))
        have z : ∀ m, ct (fun _ => false) m = 0 := by
          intro m
          induction m with
          | zero => rfl
          | succ m ih => unfold ct; rw [ih]; rfl
        unfold sO
        rw [this, z]
      rw [e]
      exact ⟨Nat.le_refl _, show (1 : Nat) ≤ hh2 0 by decide⟩
    | succ m ih =>
      intro hm
      obtain ⟨i1, i2⟩ := ih (by omega)
      have h1 := sO_step A m
      have h2 := sO_le hw (m + 1)
      have h3 := ho m (by omega)
      obtain ⟨e, he⟩ : ∃ e, od A m = e + 1 := ⟨od A m - 1, by omega⟩
      refine ⟨by omega, ?_⟩
      show pd (fun v => gm (od A v)) m * gm (od A m) ≤ _
      rw [he]
      exact Nat.le_trans (Nat.mul_le_mul_right _ i2) (Nat.le_trans (hh2_add (by omega)) (hh2_mono (by omega) (by omega)))
  have h2 := sO_le hw (nd A)
  exact Nat.le_trans (this (nd A) (Nat.le_refl _)).2 (Nat.le_trans (hh2_mono (show sO A (nd A) - nd A ≤ 5 by omega) (by omega)) (by decide))
theorem gm_pos {o : Nat} (h : o ≤ 10) : 0 < gm o := by
  have : ∀ o : Fin 11, 0 < gm o.val := by decide +kernel
  exact this ⟨o, by omega⟩
theorem NN_pos {A : jA} (hw : wf A) : 0 < NN A := by
  have : ∀ m, 0 < pd (fun v => gm (od A v)) m := by
    intro m
    induction m with
    | zero => exact Nat.one_pos
    | succ m ih => exact Nat.mul_pos ih (gm_pos (od_le hw m))
  exact this _
theorem wlk_cr {A : jA} {x y c : Nat} (hx : x < nd A) : ∀ r, wlk A x y r → c ∈ r → (cr A y).testBit c = true := by
  intro r
  induction r generalizing c with
  | nil => intro _ h; exact absurd h List.not_mem_nil
  | cons d r ih =>
    intro h hc
    rcases List.mem_cons.mp hc with e | e
    · subst e
      cases r with
      | nil => exact cl_sub so_lt c (un_bit.mpr ⟨x, hx, h.2⟩)
      | cons b r =>
        have hb := ih (c := b) h.1 (List.mem_cons_self ..)
        have hbl : b < ln A := bt_lt cr_lt hb
        exact cl_clo (on_lt (A := A) (y := y)) b hbl hb c h.2
    · exact ih h.1 e
theorem wlk_next {A : jA} {x y c1 : Nat} {b : List Nat} : ∀ (a : List Nat) (c0 : Nat), wlk A x y (c0 :: (a ++ c1 :: b)) → ∀ e, e ∈ a ++ [c1] → ∃ s, s ∈ c0 :: a ∧ (tk A e y).testBit s = true := by
  intro a
  induction a with
  | nil =>
    intro c0 h e he
    have : e = c1 := by simpa using he
    subst this
    exact ⟨c0, List.mem_cons_self .., h.2⟩
  | cons a1 a ih =>
    intro c0 h e he
    rcases List.mem_cons.mp he with h1 | h1
    · subst h1
      exact ⟨c0, List.mem_cons_self .., h.2⟩
    · obtain ⟨s, s1, s2⟩ := ih a1 h.1 e h1
      exact ⟨s, List.mem_cons_of_mem _ s1, s2⟩
theorem sv_NR {A : jA} {y : Nat} (h : sv A y = true) : NR A y := by
  have hg : gf (kn (on A y)) (ln A) (cr A y) = 0 := by
    unfold sv ew at h
    simp only [Bool.and_eq_true, decide_eq_true_eq] at h
    exact h.2.2
  intro x r hx
  induction r with
  | nil => intro _; exact List.nodup_nil
  | cons c r ih =>
    intro hw
    rw [List.nodup_cons]
    refine ⟨fun hm => ?_, ih hw.1⟩
    obtain ⟨a, b, hab⟩ := List.append_of_mem hm
    subst hab
    have hin : ∀ e, e ∈ a ++ [c] → (cr A y).testBit e = true := fun e he => wlk_cr hx _ hw.1 (by
      rcases List.mem_append.mp he with h1 | h1
      · exact List.mem_append_left _ h1
      · rw [List.mem_singleton] at h1; rw [h1]; exact List.mem_append_right _ (List.mem_cons_self ..))
    have hT : ∀ e, (mk (fun d => decide (d ∈ a ++ [c])) (ln A)).testBit e = true ↔ e ∈ a ++ [c] := fun e => by
      rw [mk_bit, Bool.and_eq_true, decide_eq_true_iff, decide_eq_true_iff]
      exact ⟨fun h => h.2, fun h => ⟨bt_lt cr_lt (hin e h), h⟩⟩
    have hP : gfP (kn (on A y)) (cr A y) (mk (fun d => decide (d ∈ a ++ [c])) (ln A)) := by
      refine ⟨fun e he => hin e ((hT e).mp he), fun e he => ?_⟩
      obtain ⟨s, s1, s2⟩ := wlk_next a c hw e ((hT e).mp he)
      intro h0
      rw [and_z] at h0
      refine h0 s ⟨s2, (hT s).mpr ?_⟩
      rcases List.mem_cons.mp s1 with h1 | h1
      · rw [h1]; exact List.mem_append_right _ (by simp)
      · exact List.mem_append_left _ h1
    have := gf_max (m := ln A) cr_lt hP c ((hT c).mpr (List.mem_append_right _ (by simp)))
    rw [hg] at this
    simp at this
