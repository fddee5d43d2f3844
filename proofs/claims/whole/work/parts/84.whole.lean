/-! ===== the start; the law on every script ===== -/
def A0 : jA := (fun _ _ => 0, fun _ _ => 0)
def Sh0 : jB := fun p _ => if p = 0 then -9 else 0
theorem wf_0 : wf A0 := ⟨Nat.zero_le 6, Nat.zero_le 10, Nat.zero_le 2, fun c hc => absurd (show c < 0 from hc) (Nat.not_lt_zero c), fun x y hx _ => absurd (show x < 0 from hx) (Nat.not_lt_zero x)⟩
theorem ShW_0 : ShW Sh0 := by
  intro k hk
  refine ⟨Or.inl rfl, fun i hi => ?_⟩
  have e : Sh0 (2 + k) i = 0 := if_neg (by omega)
  rw [e]
  exact ⟨by omega, by omega⟩
section
variable {g : jv_S}
set_option maxRecDepth 100000 in
theorem z_cn : CN A0 (gI g) := ⟨wf_0, rfl, rfl, fun c hc => absurd (show c < 0 from hc) (Nat.not_lt_zero c), fun x y hx _ => absurd (show x < 0 from hx) (Nat.not_lt_zero x), fun y hy => absurd (show y < 0 from hy) (Nat.not_lt_zero y)⟩
set_option maxRecDepth 100000 in
theorem z_cw : CW 40 A0 (gI g) := ⟨rfl, fun c hc => absurd (show c < 0 from hc) (Nat.not_lt_zero c), fun x y hx _ => absurd (show x < 0 from hx) (Nat.not_lt_zero x), fun c y hc _ => absurd (show c < 0 from hc) (Nat.not_lt_zero c)⟩
set_option maxRecDepth 100000 in
theorem z_40 : gI g 40 5 = 0 := rfl
set_option maxRecDepth 100000 in
theorem z_kk : KK A0 (gI g) := by
  have e1 : gI g 60 10 = -1 := rfl
  have e2 : gI g 67 7 = -1 := rfl
  have e3 : gI g 80 12 = -1 := rfl
  have e4 : gI g 101 8 = -1 := rfl
  have e5 : gI g 131 7 = -1 := rfl
  have e6 : gI g 80 8 = 0 := rfl
  unfold KK
  rw [e1, e2, e3, e4, e5, e6, z_40]
  exact ⟨rfl, ⟨by omega, fun h => by omega⟩, ⟨by omega, fun h => by omega⟩, ⟨by omega, fun h => by omega⟩, ⟨by omega, fun h => by omega⟩, ⟨by omega, fun h => by omega⟩⟩
set_option maxRecDepth 100000 in
theorem z_tc : TC A0 B0 174 0 (gI g) := ⟨⟨rfl, rfl⟩, fun c hc => absurd (show c < 0 from hc) (Nat.not_lt_zero c), fun c k hc _ => absurd (show c < 0 from hc) (Nat.not_lt_zero c), ⟨by omega, by show (174 : Int) + 0 ≤ 174 + ((0 : Nat) : Int); omega⟩, fun i hi => by have hi : (i : Int) < 0 := hi; omega⟩
set_option maxRecDepth 100000 in
theorem z_sc : ShC Sh0 (gI g) := by
  intro k hk
  refine ⟨fun _ => ?_, fun h => absurd rfl h, fun i hi => ?_⟩
  · rcases (show k = 0 ∨ k = 1 ∨ k = 2 ∨ k = 3 by omega) with e | e | e | e <;> subst e <;> rfl
  · have e : Sh0 (2 + k) i = 0 := if_neg (by omega)
    rw [e]
    rfl
set_option maxRecDepth 100000 in
theorem z_sm : ShM Sh0 (gI g) := by
  intro k hk
  refine ⟨?_, fun h => absurd rfl h, fun i hi => ?_⟩
  · rcases (show k = 0 ∨ k = 1 ∨ k = 2 ∨ k = 3 by omega) with e | e | e | e <;> subst e <;> rfl
  · have e : Sh0 (2 + k) i = 0 := if_neg (by omega)
    rw [e]
    rfl
set_option maxRecDepth 100000 in
theorem z_ic : IC A0 B0 Sh0 0 0 174 0 0 (gI g) := ⟨z_cn, z_cw, by rw [z_40]; omega, z_kk, z_tc, z_sc, ⟨rfl, rfl⟩, by
  have e : gI g 104 5 = 0 := rfl
  rw [e]
  omega⟩
set_option maxRecDepth 100000 in
theorem z_mn : MN A0 (gI g) := ⟨wf_0, rfl, rfl, rfl, fun c hc => absurd (show c < 0 from hc) (Nat.not_lt_zero c), fun x y hx _ => absurd (show x < 0 from hx) (Nat.not_lt_zero x)⟩
set_option maxRecDepth 100000 in
theorem z_tm : TMr A0 B0 (gI g) := ⟨⟨rfl, rfl⟩, fun c hc => absurd (show c < 0 from hc) (Nat.not_lt_zero c), fun c k hc _ => absurd (show c < 0 from hc) (Nat.not_lt_zero c), fun i hi => by have hi : (i : Int) < 0 := hi; omega⟩
set_option maxRecDepth 100000 in
theorem z_im : IM A0 B0 Sh0 0 0 (gI g) := ⟨z_mn, z_tm, z_sm, rfl, rfl⟩
set_option maxRecDepth 100000 in
theorem z_iv : IV (fun i => g 0 i) 0 0 (gI g) := ⟨fun _ => rfl, A0, B0, Sh0, 0, 0, 174, ⟨BW_0, ⟨fun _ => rfl, fun _ => rfl⟩, by show (0 : Int) ≤ 50 * ((0 : Nat) : Int); omega, by show (174 : Int) + 0 = 174 + ((0 : Nat) : Int); omega, Nat.le_refl _, ShW_0, by omega⟩, z_ic, z_im⟩
end
theorem sz_rep (l : Nat) : js_sz (List.replicate l (11, 8, [])) = 8 * l := by
  induction l with
  | zero => rfl
  | succ l ih =>
    rw [List.replicate_succ]
    show 8 + js_sz (List.replicate l (11, 8, [])) = _
    rw [ih]
    omega
set_option maxRecDepth 100000 in
theorem sz_LLt : js_sz LLt ≤ 100000 := by decide +kernel
theorem sz_LL {n l : Nat} (hn : n ≤ 384) (hl : l ≤ 64) : (LL n l).length ≤ 500 ∧ js_sz (LL n l) ≤ 200000 := by
  refine ⟨by rw [LL_len]; omega, ?_⟩
  have e : js_sz (LL n l) = n + js_sz (LLt ++ List.replicate l (11, 8, [])) := rfl
  have := sz_LLt
  rw [e, js_sz_app, sz_rep]
  omega
theorem r32_xs (x : Int32) : jv_r32 x.toInt := by
  have h1 := Int32.le_toInt x
  have h2 := Int32.toInt_le x
  have e : Int32.maxValue.toInt = 2147483647 := by decide
  rw [e] at h2
  exact ⟨by simpa using h1, h2⟩
theorem jl_law : jl_Law := by
  intro n xs hn
  have hs : ∀ j : Int, jv_r32 ((fun i => jl_g xs 0 i) j) := fun j => by
    show jv_r32 (jl_g xs 0 j)
    unfold jl_g
    rw [if_pos rfl]
    exact r32_xs _
  have hn' : Int.ofNat n ≤ 384 := by
    show (n : Int) ≤ 384
    omega
  have run := law_loop (s := fun i => jl_g xs 0 i) (n := n) (Q := fun r L _ => r = jv_I 1 ∧ L.length ≤ 500 ∧ js_sz L ≤ 200000) hs hn' (fun l' g' hl => ⟨rfl, sz_LL hn hl⟩) 64 0 rfl 0 (gI (jl_g xs)) z_iv
  rw [show 6 * ((0 : Nat) : Int) = 0 from rfl] at run
  obtain ⟨fuel, r, L', g', e, e1, e2, e3⟩ := in_all run
  subst e1
  exact ⟨fuel, L', g', e, e2, e3⟩
