/-! ===== steps: arrays, calls, new cells ===== -/
section
variable {p : Program} {l : Launch} {e : Env} {R : Room} {s : State} {m : MethodId} {args : Array Value} {below : List Frame} {meth : Method} {c : Code} {H : Heap} {locs : List Loc} {cells slots : Nat} {Q : State → Prop}
variable {s0 b n : Nat} {xs : Nat → Int32} {D : va_G} {k : Nat} {L : jv_L} {g g' : jv_S} {LS : Array Slot} {ST : List Value} {ls st ls' st' : List jv_V} {pc pc' : Nat}
/-- where an element stands -/
theorem jv_ix_inv {x : jv_V} {i : Int} {f : Nat → Nat → Int → jv_X} {cs : List jv_C} {nx : jv_N} (hs : jv_ix jv_ckR none x i L f = some (cs, nx)) (hok : jv_ok cs = true) (hx : ∀ q j, x = jv_R q j → 0 ≤ j ∧ ∀ nn m, L[q]? = some (2, nn, [m]) → j < Int.ofNat nn) :
    ∃ (kd N q pp : Nat) (off : Int → Int) (cs' : List jv_C), f kd pp (off i) = some (cs', nx) ∧ jv_ok cs' = true ∧ 0 ≤ i ∧ i < Int.ofNat N ∧ ((∃ rs, x = jv_P q ∧ L[q]? = some (kd, N, rs) ∧ pp = q ∧ off = fun i => i) ∨ js_pl L x kd N q pp off ∧ kd = 0) := by
  have sp : ∀ {cc : Prop} {dc : Decidable cc} {y : jv_X}, jv_ckR cc dc y = some (cs, nx) → cc ∧ ∃ cs', y = some (cs', nx) ∧ jv_ok cs' = true := by
    intro cc dc y h
    cases y with
    | none => cases h
    | some y =>
      obtain ⟨c1, n1⟩ := y
      cases h
      unfold jv_ok at hok
      by_cases hc : cc
      · rw [if_pos hc] at hok
        exact ⟨hc, c1, rfl, hok⟩
      · rw [if_neg hc] at hok
        cases hok
  unfold jv_ix at hs
  rcases x with x | x | q | ⟨q, j⟩ | x | u
  · cases hs
  · cases hs
  · dsimp only at hs
    cases hq : L[q]? with
    | none => rw [hq] at hs; cases hs
    | some d =>
      rw [hq] at hs
      obtain ⟨kd, N, rs⟩ := d
      obtain ⟨⟨h1, h2⟩, cs', h3, h4⟩ := sp hs
      exact ⟨kd, N, q, q, fun i => i, cs', h3, h4, h1, h2, Or.inl ⟨rs, rfl, hq, rfl, rfl⟩⟩
  · dsimp only at hs
    split at hs
    · next nn mm hq =>
      obtain ⟨⟨h1, h2⟩, cs', h3, h4⟩ := sp hs
      obtain ⟨hj0, hj⟩ := hx q j rfl
      have hj := hj nn mm hq
      have hj : j < (nn : Int) := hj
      have ej : j = Int.ofNat j.toNat := by show j = ((j.toNat : Nat) : Int); omega
      refine ⟨0, mm, q + 1 + j.toNat, q, fun i => j * Int.ofNat mm + i, cs', h3, h4, h1, h2, Or.inr ⟨Or.inr ⟨rfl, q, j.toNat, nn, by rw [← ej], rfl, hq, by omega, rfl, by rw [← ej]⟩, rfl⟩⟩
    · cases hs
  · cases hs
  · cases hs
theorem js_S.row {x : jv_V} {v : Value} (h : jr_V s0 b L x v) : ∀ q j, x = jv_R q j → 0 ≤ j ∧ ∀ nn m, L[q]? = some (2, nn, [m]) → j < Int.ofNat nn := by
  rintro q j rfl
  obtain ⟨nn, mm, h1, h2, h3, -⟩ := h
  refine ⟨h2, fun n' m' h => ?_⟩
  rw [h1] at h
  cases h
  exact h3
theorem js_s_iaload (hC : js_Cl) (X : js_X p s m args meth c D k) (hM : jr_M s0 b n xs D s L g H) (hl : js_L s0 b L (jv_ml k) LS ls) (hS : js_S s0 b L ST st) (hF : js_F s0 s H locs) (hfr : jm_ht k ≤ R.frames) (hlo : jm_rl k ≤ R.locals) {len : Nat} {r : List Nat} {z : Int} (hd : decode (jm_c k) pc = .ok (.iaload, len)) (hie : js_i1 k pc (.iaload) len r z) {cs : List jv_C} {nx : jv_N} (hs : jv_sx (pc, .iaload, len, r, z) ls st L g = some (cs, nx)) (hok : jv_ok cs = true) (hk : js_K p l e R s m args below meth c H locs cells slots Q s0 b n xs D k pc LS ST L g nx) : W p l e R s m args below meth c H locs cells slots Q (F0 m pc LS ST) := by
  have h1 : len = 1 := hie
  subst h1
  have hs : jv_ar jv_ckR none jv_goR (pc + 1) 0 ls st L g = some (cs, nx) := hs
  unfold jv_ar at hs
  match st, hs, hS with
  | (.inl i) :: x :: st, hs, hS =>
    obtain ⟨w0, vs0, hST, hw0, hS0⟩ := hS.cI
    obtain ⟨vx, vs1, hST1, -, hvx, hS1⟩ := hS0.cons
    obtain ⟨kd, N, q, pp, off, cs', e1, ok', i1, i2, hpl⟩ := jv_ix_inv hs hok (js_S.row hvx)
    rcases (show kd = 0 ∨ kd = 1 ∨ kd = 2 ∨ kd = 3 ∨ kd = 4 ∨ kd = 5 ∨ 6 ≤ kd by omega) with rfl | rfl | rfl | rfl | rfl | rfl | h6
    · cases e1
      refine js_o_ald X hM hl hF hS (N := N) (q := q) (pp := pp) (off := off) ?_ ⟨i1, i2⟩ hd hk.1
      rcases hpl with ⟨rs, rfl, h, rfl, rfl⟩ | ⟨h, -⟩
      · exact Or.inl ⟨rfl, rs, h, by decide, rfl, rfl⟩
      · exact h
    · cases e1
    · cases e1
    · cases e1
    · cases e1
    · cases e1
      rcases hpl with ⟨rs, rfl, h, rfl, rfl⟩ | ⟨-, h⟩
      · have hp0 : pp = 0 := by
          cases pp with
          | zero => rfl
          | succ q => exact absurd rfl (hM.2.2.2.2.2.2.2.1 q _ h)
        subst hp0
        have hn : n = N := by
          have := hM.1.symm.trans h
          cases this
          rfl
        subst hn
        exact js_o_sld X hM hl hF hS ⟨i1, i2⟩ hd hk.1
      · cases h
    · obtain ⟨k', rfl⟩ : ∃ k', kd = k' + 6 := ⟨kd - 6, by omega⟩
      cases e1
  | [], hs, hS => cases hs
  | (.inr (.inl _)) :: _, hs, hS => cases hs
  | (.inr (.inr (.inl _))) :: _, hs, hS => cases hs
  | (.inr (.inr (.inr (.inl _)))) :: _, hs, hS => cases hs
  | (.inr (.inr (.inr (.inr (.inl _))))) :: _, hs, hS => cases hs
  | (.inr (.inr (.inr (.inr (.inr _))))) :: _, hs, hS => cases hs
  | (.inl _) :: [], hs, hS => cases hs
theorem js_s_laload (hC : js_Cl) (X : js_X p s m args meth c D k) (hM : jr_M s0 b n xs D s L g H) (hl : js_L s0 b L (jv_ml k) LS ls) (hS : js_S s0 b L ST st) (hF : js_F s0 s H locs) (hfr : jm_ht k ≤ R.frames) (hlo : jm_rl k ≤ R.locals) {len : Nat} {r : List Nat} {z : Int} (hd : decode (jm_c k) pc = .ok (.laload, len)) (hie : js_i1 k pc (.laload) len r z) {cs : List jv_C} {nx : jv_N} (hs : jv_sx (pc, .laload, len, r, z) ls st L g = some (cs, nx)) (hok : jv_ok cs = true) (hk : js_K p l e R s m args below meth c H locs cells slots Q s0 b n xs D k pc LS ST L g nx) : W p l e R s m args below meth c H locs cells slots Q (F0 m pc LS ST) := by
  have h1 : len = 1 := hie
  subst h1
  have hs : jv_ar jv_ckR none jv_goR (pc + 1) 1 ls st L g = some (cs, nx) := hs
  unfold jv_ar at hs
  match st, hs, hS with
  | (.inl i) :: x :: st, hs, hS =>
    obtain ⟨w0, vs0, hST, hw0, hS0⟩ := hS.cI
    obtain ⟨vx, vs1, hST1, -, hvx, hS1⟩ := hS0.cons
    obtain ⟨kd, N, q, pp, off, cs', e1, ok', i1, i2, hpl⟩ := jv_ix_inv hs hok (js_S.row hvx)
    rcases (show kd = 0 ∨ kd = 1 ∨ kd = 2 ∨ kd = 3 ∨ kd = 4 ∨ kd = 5 ∨ 6 ≤ kd by omega) with rfl | rfl | rfl | rfl | rfl | rfl | h6
    · cases e1
    · cases e1
      rcases hpl with ⟨rs, rfl, h, rfl, rfl⟩ | ⟨-, h⟩
      · exact js_o_lald X hM hl hF hS h ⟨i1, i2⟩ hd hk.1
      · cases h
    · cases e1
    · cases e1
    · cases e1
    · cases e1
    · obtain ⟨k', rfl⟩ : ∃ k', kd = k' + 6 := ⟨kd - 6, by omega⟩
      cases e1
  | [], hs, hS => cases hs
  | (.inr (.inl _)) :: _, hs, hS => cases hs
  | (.inr (.inr (.inl _))) :: _, hs, hS => cases hs
  | (.inr (.inr (.inr (.inl _)))) :: _, hs, hS => cases hs
  | (.inr (.inr (.inr (.inr (.inl _))))) :: _, hs, hS => cases hs
  | (.inr (.inr (.inr (.inr (.inr _))))) :: _, hs, hS => cases hs
  | (.inl _) :: [], hs, hS => cases hs
theorem js_s_aaload (hC : js_Cl) (X : js_X p s m args meth c D k) (hM : jr_M s0 b n xs D s L g H) (hl : js_L s0 b L (jv_ml k) LS ls) (hS : js_S s0 b L ST st) (hF : js_F s0 s H locs) (hfr : jm_ht k ≤ R.frames) (hlo : jm_rl k ≤ R.locals) {len : Nat} {r : List Nat} {z : Int} (hd : decode (jm_c k) pc = .ok (.aaload, len)) (hie : js_i1 k pc (.aaload) len r z) {cs : List jv_C} {nx : jv_N} (hs : jv_sx (pc, .aaload, len, r, z) ls st L g = some (cs, nx)) (hok : jv_ok cs = true) (hk : js_K p l e R s m args below meth c H locs cells slots Q s0 b n xs D k pc LS ST L g nx) : W p l e R s m args below meth c H locs cells slots Q (F0 m pc LS ST) := by
  have h1 : len = 1 := hie
  subst h1
  have hs : jv_ar jv_ckR none jv_goR (pc + 1) 2 ls st L g = some (cs, nx) := hs
  unfold jv_ar at hs
  match st, hs, hS with
  | (.inl i) :: x :: st, hs, hS =>
    obtain ⟨w0, vs0, hST, hw0, hS0⟩ := hS.cI
    obtain ⟨vx, vs1, hST1, -, hvx, hS1⟩ := hS0.cons
    obtain ⟨kd, N, q, pp, off, cs', e1, ok', i1, i2, hpl⟩ := jv_ix_inv hs hok (js_S.row hvx)
    rcases (show kd = 0 ∨ kd = 1 ∨ kd = 2 ∨ kd = 3 ∨ kd = 4 ∨ kd = 5 ∨ 6 ≤ kd by omega) with rfl | rfl | rfl | rfl | rfl | rfl | h6
    · cases e1
    · cases e1
    · cases e1
      rcases hpl with ⟨rs, rfl, h, rfl, rfl⟩ | ⟨-, h⟩
      · exact js_o_aald X hM hl hF hS h (Or.inl rfl) ⟨i1, i2⟩ hd hk.1
      · cases h
    · cases e1
      rcases hpl with ⟨rs, rfl, h, rfl, rfl⟩ | ⟨-, h⟩
      · exact js_o_aald X hM hl hF hS h (Or.inr rfl) ⟨i1, i2⟩ hd hk.1
      · cases h
    · cases e1
    · cases e1
    · obtain ⟨k', rfl⟩ : ∃ k', kd = k' + 6 := ⟨kd - 6, by omega⟩
      cases e1
  | [], hs, hS => cases hs
  | (.inr (.inl _)) :: _, hs, hS => cases hs
  | (.inr (.inr (.inl _))) :: _, hs, hS => cases hs
  | (.inr (.inr (.inr (.inl _)))) :: _, hs, hS => cases hs
  | (.inr (.inr (.inr (.inr (.inl _))))) :: _, hs, hS => cases hs
  | (.inr (.inr (.inr (.inr (.inr _))))) :: _, hs, hS => cases hs
  | (.inl _) :: [], hs, hS => cases hs
theorem js_s_iastore (hC : js_Cl) (X : js_X p s m args meth c D k) (hM : jr_M s0 b n xs D s L g H) (hl : js_L s0 b L (jv_ml k) LS ls) (hS : js_S s0 b L ST st) (hF : js_F s0 s H locs) (hfr : jm_ht k ≤ R.frames) (hlo : jm_rl k ≤ R.locals) {len : Nat} {r : List Nat} {z : Int} (hd : decode (jm_c k) pc = .ok (.iastore, len)) (hie : js_i1 k pc (.iastore) len r z) {cs : List jv_C} {nx : jv_N} (hs : jv_sx (pc, .iastore, len, r, z) ls st L g = some (cs, nx)) (hok : jv_ok cs = true) (hk : js_K p l e R s m args below meth c H locs cells slots Q s0 b n xs D k pc LS ST L g nx) : W p l e R s m args below meth c H locs cells slots Q (F0 m pc LS ST) := by
  have h1 : len = 1 := hie
  subst h1
  have hs : jv_ar jv_ckR none jv_goR (pc + 1) 3 ls st L g = some (cs, nx) := hs
  unfold jv_ar at hs
  match st, hs, hS with
  | (.inl v) :: (.inl i) :: x :: st, hs, hS =>
    obtain ⟨vv, vsv, hSTv, -, hvv, hSv⟩ := hS.cons
    obtain ⟨w0, vs0, hST, hw0, hS0⟩ := hSv.cI
    obtain ⟨vx, vs1, hST1, -, hvx, hS1⟩ := hS0.cons
    obtain ⟨kd, N, q, pp, off, cs', e1, ok', i1, i2, hpl⟩ := jv_ix_inv hs hok (js_S.row hvx)
    rcases (show kd = 0 ∨ kd = 1 ∨ kd = 2 ∨ kd = 3 ∨ kd = 4 ∨ kd = 5 ∨ 6 ≤ kd by omega) with rfl | rfl | rfl | rfl | rfl | rfl | h6
    · cases e1
      refine js_o_ast X hM hl hF hS (N := N) (q := q) (pp := pp) (off := off) ?_ ⟨i1, i2⟩ hd hk.1
      rcases hpl with ⟨rs, rfl, h, rfl, rfl⟩ | ⟨h, -⟩
      · exact Or.inl ⟨rfl, rs, h, by decide, rfl, rfl⟩
      · exact h
    · cases e1
    · cases e1
    · cases e1
    · cases e1
    · cases e1
    · obtain ⟨k', rfl⟩ : ∃ k', kd = k' + 6 := ⟨kd - 6, by omega⟩
      cases e1
  | [], hs, hS => cases hs
  | (.inr (.inl _)) :: _, hs, hS => cases hs
  | (.inr (.inr (.inl _))) :: _, hs, hS => cases hs
  | (.inr (.inr (.inr (.inl _)))) :: _, hs, hS => cases hs
  | (.inr (.inr (.inr (.inr (.inl _))))) :: _, hs, hS => cases hs
  | (.inr (.inr (.inr (.inr (.inr _))))) :: _, hs, hS => cases hs
  | (.inl _) :: [], hs, hS => cases hs
  | (.inl _) :: (.inr (.inl _)) :: _, hs, hS => cases hs
  | (.inl _) :: (.inr (.inr (.inl _))) :: _, hs, hS => cases hs
  | (.inl _) :: (.inr (.inr (.inr (.inl _)))) :: _, hs, hS => cases hs
  | (.inl _) :: (.inr (.inr (.inr (.inr (.inl _))))) :: _, hs, hS => cases hs
  | (.inl _) :: (.inr (.inr (.inr (.inr (.inr _))))) :: _, hs, hS => cases hs
  | (.inl _) :: (.inl _) :: [], hs, hS => cases hs
theorem js_s_lastore (hC : js_Cl) (X : js_X p s m args meth c D k) (hM : jr_M s0 b n xs D s L g H) (hl : js_L s0 b L (jv_ml k) LS ls) (hS : js_S s0 b L ST st) (hF : js_F s0 s H locs) (hfr : jm_ht k ≤ R.frames) (hlo : jm_rl k ≤ R.locals) {len : Nat} {r : List Nat} {z : Int} (hd : decode (jm_c k) pc = .ok (.lastore, len)) (hie : js_i1 k pc (.lastore) len r z) {cs : List jv_C} {nx : jv_N} (hs : jv_sx (pc, .lastore, len, r, z) ls st L g = some (cs, nx)) (hok : jv_ok cs = true) (hk : js_K p l e R s m args below meth c H locs cells slots Q s0 b n xs D k pc LS ST L g nx) : W p l e R s m args below meth c H locs cells slots Q (F0 m pc LS ST) := by
  have h1 : len = 1 := hie
  subst h1
  have hs : jv_ar jv_ckR none jv_goR (pc + 1) 4 ls st L g = some (cs, nx) := hs
  unfold jv_ar at hs
  match st, hs, hS with
  | (.inr (.inl v)) :: (.inl i) :: x :: st, hs, hS =>
    obtain ⟨vv, vsv, hSTv, -, hvv, hSv⟩ := hS.cons
    obtain ⟨w0, vs0, hST, hw0, hS0⟩ := hSv.cI
    obtain ⟨vx, vs1, hST1, -, hvx, hS1⟩ := hS0.cons
    obtain ⟨kd, N, q, pp, off, cs', e1, ok', i1, i2, hpl⟩ := jv_ix_inv hs hok (js_S.row hvx)
    rcases (show kd = 0 ∨ kd = 1 ∨ kd = 2 ∨ kd = 3 ∨ kd = 4 ∨ kd = 5 ∨ 6 ≤ kd by omega) with rfl | rfl | rfl | rfl | rfl | rfl | h6
    · cases e1
    · cases e1
      rcases hpl with ⟨rs, rfl, h, rfl, rfl⟩ | ⟨-, h⟩
      · exact js_o_last X hM hl hF hS h ⟨i1, i2⟩ hd hk.1
      · cases h
    · cases e1
    · cases e1
    · cases e1
    · cases e1
    · obtain ⟨k', rfl⟩ : ∃ k', kd = k' + 6 := ⟨kd - 6, by omega⟩
      cases e1
  | [], hs, hS => cases hs
  | (.inl _) :: _, hs, hS => cases hs
  | (.inr (.inr (.inl _))) :: _, hs, hS => cases hs
  | (.inr (.inr (.inr (.inl _)))) :: _, hs, hS => cases hs
  | (.inr (.inr (.inr (.inr (.inl _))))) :: _, hs, hS => cases hs
  | (.inr (.inr (.inr (.inr (.inr _))))) :: _, hs, hS => cases hs
  | (.inr (.inl _)) :: [], hs, hS => cases hs
  | (.inr (.inl _)) :: (.inr (.inl _)) :: _, hs, hS => cases hs
  | (.inr (.inl _)) :: (.inr (.inr (.inl _))) :: _, hs, hS => cases hs
  | (.inr (.inl _)) :: (.inr (.inr (.inr (.inl _)))) :: _, hs, hS => cases hs
  | (.inr (.inl _)) :: (.inr (.inr (.inr (.inr (.inl _))))) :: _, hs, hS => cases hs
  | (.inr (.inl _)) :: (.inr (.inr (.inr (.inr (.inr _))))) :: _, hs, hS => cases hs
  | (.inr (.inl _)) :: (.inl _) :: [], hs, hS => cases hs
theorem js_s_aastore (hC : js_Cl) (X : js_X p s m args meth c D k) (hM : jr_M s0 b n xs D s L g H) (hl : js_L s0 b L (jv_ml k) LS ls) (hS : js_S s0 b L ST st) (hF : js_F s0 s H locs) (hfr : jm_ht k ≤ R.frames) (hlo : jm_rl k ≤ R.locals) {len : Nat} {r : List Nat} {z : Int} (hd : decode (jm_c k) pc = .ok (.aastore, len)) (hie : js_i1 k pc (.aastore) len r z) {cs : List jv_C} {nx : jv_N} (hs : jv_sx (pc, .aastore, len, r, z) ls st L g = some (cs, nx)) (hok : jv_ok cs = true) (hk : js_K p l e R s m args below meth c H locs cells slots Q s0 b n xs D k pc LS ST L g nx) : W p l e R s m args below meth c H locs cells slots Q (F0 m pc LS ST) := by
  have h1 : len = 1 := hie
  subst h1
  have hs : jv_ar jv_ckR none jv_goR (pc + 1) 5 ls st L g = some (cs, nx) := hs
  unfold jv_ar at hs
  match st, hs, hS with
  | (.inr (.inr (.inr (.inr (.inl v))))) :: (.inl i) :: x :: st, hs, hS =>
    obtain ⟨vv, vsv, hSTv, -, hvv, hSv⟩ := hS.cons
    obtain ⟨w0, vs0, hST, hw0, hS0⟩ := hSv.cI
    obtain ⟨vx, vs1, hST1, -, hvx, hS1⟩ := hS0.cons
    obtain ⟨kd, N, q, pp, off, cs', e1, ok', i1, i2, hpl⟩ := jv_ix_inv hs hok (js_S.row hvx)
    rcases (show kd = 0 ∨ kd = 1 ∨ kd = 2 ∨ kd = 3 ∨ kd = 4 ∨ kd = 5 ∨ 6 ≤ kd by omega) with rfl | rfl | rfl | rfl | rfl | rfl | h6
    · cases e1
    · cases e1
    · cases e1
    · cases e1
      rcases hpl with ⟨rs, rfl, h, rfl, rfl⟩ | ⟨-, h⟩
      · exact js_o_aast X hC hM hl hF hS h ⟨i1, i2⟩ (jv_ok1 ok') hd hk.1
      · cases h
    · cases e1
    · cases e1
    · obtain ⟨k', rfl⟩ : ∃ k', kd = k' + 6 := ⟨kd - 6, by omega⟩
      cases e1
  | [], hs, hS => cases hs
  | (.inl _) :: _, hs, hS => cases hs
  | (.inr (.inl _)) :: _, hs, hS => cases hs
  | (.inr (.inr (.inl _))) :: _, hs, hS => cases hs
  | (.inr (.inr (.inr (.inl _)))) :: _, hs, hS => cases hs
  | (.inr (.inr (.inr (.inr (.inr _))))) :: _, hs, hS => cases hs
  | (.inr (.inr (.inr (.inr (.inl _))))) :: [], hs, hS => cases hs
  | (.inr (.inr (.inr (.inr (.inl _))))) :: (.inr (.inl _)) :: _, hs, hS => cases hs
  | (.inr (.inr (.inr (.inr (.inl _))))) :: (.inr (.inr (.inl _))) :: _, hs, hS => cases hs
  | (.inr (.inr (.inr (.inr (.inl _))))) :: (.inr (.inr (.inr (.inl _)))) :: _, hs, hS => cases hs
  | (.inr (.inr (.inr (.inr (.inl _))))) :: (.inr (.inr (.inr (.inr (.inl _))))) :: _, hs, hS => cases hs
  | (.inr (.inr (.inr (.inr (.inl _))))) :: (.inr (.inr (.inr (.inr (.inr _))))) :: _, hs, hS => cases hs
  | (.inr (.inr (.inr (.inr (.inl _))))) :: (.inl _) :: [], hs, hS => cases hs
theorem js_s_alen (hC : js_Cl) (X : js_X p s m args meth c D k) (hM : jr_M s0 b n xs D s L g H) (hl : js_L s0 b L (jv_ml k) LS ls) (hS : js_S s0 b L ST st) (hF : js_F s0 s H locs) (hfr : jm_ht k ≤ R.frames) (hlo : jm_rl k ≤ R.locals) {len : Nat} {r : List Nat} {z : Int} (hd : decode (jm_c k) pc = .ok (.arraylength, len)) (hie : js_i1 k pc (.arraylength) len r z) {cs : List jv_C} {nx : jv_N} (hs : jv_sx (pc, .arraylength, len, r, z) ls st L g = some (cs, nx)) (hok : jv_ok cs = true) (hk : js_K p l e R s m args below meth c H locs cells slots Q s0 b n xs D k pc LS ST L g nx) : W p l e R s m args below meth c H locs cells slots Q (F0 m pc LS ST) := by
  have h1 : len = 1 := hie
  subst h1
  match st, hs, hS with
  | [], hs, hS => cases hs
  | x :: st, hs, hS =>
    have hs : jv_sz none x L (fun n => jv_goR (pc + 1) ls (.inl (Int.ofNat n) :: st) L g) = some (cs, nx) := hs
    unfold jv_sz at hs
    obtain ⟨vx, vs1, hST1, -, hvx, hS1⟩ := hS.cons
    rcases x with x | x | q | ⟨q, j⟩ | x | u
    · cases hs
    · cases hs
    · dsimp only at hs
      cases hq : L[q]? with
      | none => rw [hq] at hs; cases hs
      | some d =>
        rw [hq] at hs
        obtain ⟨kd, N, rs⟩ := d
        dsimp only at hs
        cases hb : Nat.ble kd 5 with
        | false => rw [hb] at hs; cases hs
        | true =>
          rw [hb] at hs
          cases hs
          have hb := Nat.le_of_ble_eq_true hb
          exact js_o_alen X hM hl hF hS (kd := kd) (N := N) (q := q) (pp := q) (off := fun i => i) (Or.inl ⟨rfl, rs, hq, trivial, rfl, rfl⟩) hb hd hk.1
    · dsimp only at hs
      split at hs
      · next nn mm hq =>
        cases hs
        obtain ⟨hj0, hj⟩ := js_S.row hvx q j rfl
        have hj := hj nn mm hq
        have hj : j < (nn : Int) := hj
        have ej : j = Int.ofNat j.toNat := by show j = ((j.toNat : Nat) : Int); omega
        exact js_o_alen X hM hl hF hS (kd := 0) (N := mm) (q := q + 1 + j.toNat) (pp := q) (off := fun i => Int.ofNat j.toNat * Int.ofNat mm + i) (Or.inr ⟨rfl, q, j.toNat, nn, by rw [← ej], rfl, hq, by omega, rfl, rfl⟩) (by omega) hd hk.1
      · cases hs
    · cases hs
    · cases hs
end
