/-! ===== steps: calls, new cells; all steps ===== -/
section
variable {p : Program} {l : Launch} {e : Env} {R : Room} {s : State} {m : MethodId} {args : Array Value} {below : List Frame} {meth : Method} {c : Code} {H : Heap} {locs : List Loc} {cells slots : Nat} {Q : State → Prop}
variable {s0 b n : Nat} {xs : Nat → Int32} {D : va_G} {k : Nat} {L : jv_L} {g g' : jv_S} {LS : Array Slot} {ST : List Value} {ls st ls' st' : List jv_V} {pc pc' : Nat}
theorem jv_vw_inv {x : jv_V} {v : Value} (hv : jr_V s0 b L x v) {f : Nat → Int → Nat → jv_X} {y : List jv_C × jv_N} (hs : jv_vw none x L f = some y) : ∃ (q pp N : Nat) (off : Int), f pp off N = some y ∧ js_pl L x 0 N q pp (fun i => off + i) := by
  unfold jv_vw at hs
  rcases x with x | x | q | ⟨q, j⟩ | x | u
  · cases hs
  · cases hs
  · dsimp only at hs
    split at hs
    · next N rs hq => exact ⟨q, q, N, 0, hs, Or.inl ⟨rfl, rs, hq, trivial, rfl, by funext i; omega⟩⟩
    · cases hs
  · dsimp only at hs
    split at hs
    · next nn mm hq =>
      obtain ⟨hj0, hj⟩ := js_S.row hv q j rfl
      have hj := hj nn mm hq
      have hj : j < (nn : Int) := hj
      have ej : j = Int.ofNat j.toNat := by show j = ((j.toNat : Nat) : Int); omega
      exact ⟨q + 1 + j.toNat, q, mm, j * Int.ofNat mm, hs, Or.inr ⟨rfl, q, j.toNat, nn, by rw [← ej], rfl, hq, by omega, rfl, by rw [← ej]⟩⟩
    · cases hs
  · cases hs
  · cases hs
theorem jv_ck_inv {cc : Prop} {dc : Decidable cc} {y : jv_X} {cs : List jv_C} {nx : jv_N} (h : jv_ckR cc dc y = some (cs, nx)) (hok : jv_ok cs = true) : cc ∧ ∃ cs', y = some (cs', nx) ∧ jv_ok cs' = true := by
  cases y with
  | none => cases h
  | some y =>
    obtain ⟨c1, n1⟩ := y
    cases h
    unfold jv_ok at hok
    by_cases hc : cc
    · rw [if_pos hc] at hok
      exact ⟨hc, c1, rfl, hok⟩
    · rw [if_neg hc] at hok
      cases hok
theorem js_s_cy (hC : js_Cl) (X : js_X p s m args meth c D k) (hM : jr_M s0 b n xs D s L g H) (hl : js_L s0 b L (jv_ml k) LS ls) (hS : js_S s0 b L ST st) (hF : js_F s0 s H locs) (hfr : 1 ≤ R.frames) (hlo : 60 ≤ R.locals) {x : Nat} (hx : Cond.methodLink (jm_own k) x arraycopyName ∈ jm_ws) (hd : decode (jm_c k) pc = .ok (.invokestatic x, 3)) {cs : List jv_C} {nx : jv_N} (hs : jv_cy jv_ckR none jv_goR (pc + 3) ls st L g = some (cs, nx)) (hok : jv_ok cs = true) (hk : js_K p l e R s m args below meth c H locs cells slots Q s0 b n xs D k pc LS ST L g nx) : W p l e R s m args below meth c H locs cells slots Q (F0 m pc LS ST) := by
  unfold jv_cy at hs
  split at hs
  · next cn dp y sp x st' =>
    obtain ⟨wc, vs0, e0, -, hS0⟩ := hS.cI
    obtain ⟨wd, vs1, e1, -, hS1⟩ := hS0.cI
    obtain ⟨vy, vs2, e2, -, hvy, hS2⟩ := hS1.cons
    obtain ⟨wsp, vs3, e3, -, hS3⟩ := hS2.cI
    obtain ⟨vx, vs4, e4, -, hvx, hS4⟩ := hS3.cons
    obtain ⟨q0, p0, N0, o0, hs, hp0⟩ := jv_vw_inv hvx hs
    obtain ⟨q1, p1, N1, o1, hs, hp1⟩ := jv_vw_inv hvy hs
    split at hs
    · next hb =>
      obtain ⟨hc, cs', hs, -⟩ := jv_ck_inv hs hok
      cases hs
      exact js_o_copy X hC hM hl hF hS hp0 hp1 hc hx (Nat.le_of_ble_eq_true hb) hfr hlo hd hk.1
    · cases hs
  · cases hs
theorem js_s_ob (hC : js_Cl) (X : js_X p s m args meth c D k) (hM : jr_M s0 b n xs D s L g H) (hl : js_L s0 b L (jv_ml k) LS ls) (hS : js_S s0 b L ST st) (hF : js_F s0 s H locs) (hfr : 1 ≤ R.frames) (hlo : 20 ≤ R.locals) {x : Nat} (hx : Cond.methodLink (jm_own k) x objectInit ∈ jm_ws) (hd : decode (jm_c k) pc = .ok (.invokespecial x, 3)) {cs : List jv_C} {nx : jv_N} (hs : jv_in jv_ckR none jv_goR jv_caR (pc + 3) [1001] ls st L g = some (cs, nx)) (hok : jv_ok cs = true) (hk : js_K p l e R s m args below meth c H locs cells slots Q s0 b n xs D k pc LS ST L g nx) : W p l e R s m args below meth c H locs cells slots Q (F0 m pc LS ST) := by
  simp only [jv_in] at hs
  split at hs
  · next q st' =>
    split at hs
    · next hb =>
      cases hs
      exact js_o_obj X hC hM hl hF hS (Or.inl ⟨q, rfl⟩) hx (Nat.le_of_ble_eq_true hb) hfr hlo hd hk.1
    · cases hs
  · next q st' =>
    split at hs
    · next hb =>
      obtain ⟨hc, cs', hs, -⟩ := jv_ck_inv hs hok
      cases hs
      exact js_o_obj X hC hM hl hF hS (Or.inr ⟨q, rfl, hc.1⟩) hx (Nat.le_of_ble_eq_true hb) hfr hlo hd hk.1
    · cases hs
  · cases hs
theorem js_s_math (hC : js_Cl) (X : js_X p s m args meth c D k) (hM : jr_M s0 b n xs D s L g H) (hl : js_L s0 b L (jv_ml k) LS ls) (hS : js_S s0 b L ST st) (hF : js_F s0 s H locs) (hfr : jm_ht k ≤ R.frames) (hlo : jm_rl k ≤ R.locals) {x i : Nat} {y : MethodName} (hx : Cond.methodLink (jm_own k) x y ∈ jm_ws ∧ 1 ≤ jm_ht k ∧ 30 ≤ jm_rl k) (hi : (i = 1002 ∧ y = Lib.Math.max.name) ∨ (i = 1003 ∧ y = Lib.MathLoose.abs_long.x) ∨ (i = 1004 ∧ y = Lib.MathLoose.max_long.x)) (hd : decode (jm_c k) pc = .ok (.invokestatic x, 3)) {cs : List jv_C} {nx : jv_N} (hs : jv_in jv_ckR none jv_goR jv_caR (pc + 3) [i] ls st L g = some (cs, nx)) (hok : jv_ok cs = true) (hk : js_K p l e R s m args below meth c H locs cells slots Q s0 b n xs D k pc LS ST L g nx) : W p l e R s m args below meth c H locs cells slots Q (F0 m pc LS ST) := by
  obtain ⟨hx, h1, h30⟩ := hx
  have hts := X.2.2.2.2.2.1
  obtain ⟨w0, w1, w2, w3, w4, w5, w6⟩ := hC.2.2.2.2.2.2.2.1
  have hml : c.maxLocals = LS.size := by rw [X.2.2.2.1]; exact hl.1.symm
  have hroom : ∀ {q : jv_Go}, q.2.2.2.1 = L → (cells + (q.2.2.2.1.length - L.length) ≤ R.cells ∧ slots + (js_sz q.2.2.2.1 - js_sz L) ≤ R.slots) → cells ≤ R.cells ∧ slots ≤ R.slots := by
    intro q hq h
    rw [hq] at h
    simpa using h
  rcases hi with ⟨rfl, rfl⟩ | ⟨rfl, rfl⟩ | ⟨rfl, rfl⟩
  · simp only [jv_in] at hs
    split at hs
    · next y x st' =>
      split at hs
      · next hb =>
        cases hs
        obtain ⟨wy, vs1, rfl, rfl, hS1⟩ := hS.cI
        obtain ⟨wx, vs, rfl, rfl, hS2⟩ := hS1.cI
        have hr := hroom (q := jv_dl id [] _) rfl hk.2
        refine va_mmax X.1 X.2.1 hml X.2.2.2.2.1 (hts _ hx) (hts _ w1) (hts _ w0) (hts _ w2) (by omega) (by rw [hS2.cat]; have := Nat.le_of_ble_eq_true hb; omega) hr.1 hr.2 hd (hk.1.use hM hl (hS2.pI ?_) hF)
        simp only [Int32.lt_iff_toInt_lt]
        split <;> rfl
      · cases hs
    · cases hs
  · simp only [jv_in] at hs
    split at hs
    · next x st' =>
      split at hs
      · next hb =>
        obtain ⟨hc, cs', hs, -⟩ := jv_ck_inv hs hok
        cases hs
        obtain ⟨wx, vs, rfl, rfl, hS2⟩ := hS.cJ
        have hr := hroom (q := jv_dl id [] _) rfl hk.2
        refine va_mabs_long X.1 X.2.1 hml X.2.2.2.2.1 (hts _ hx) (hts _ w3) (hts _ w0) (hts _ w4) (by omega) (by rw [hS2.cat]; have := Nat.le_of_ble_eq_true hb; omega) hr.1 hr.2 hd (hk.1.use hM hl (hS2.pJ ?_) hF)
        have h0 : (0 : Int64).toInt = 0 := rfl
        simp only [Int64.lt_iff_toInt_lt, h0]
        split
        · rfl
        · rw [Int64.toInt_neg]
          have := Int64.toInt_lt wx
          have := Int64.le_toInt wx
          rw [Int.bmod_eq_of_le] <;> omega
      · cases hs
    · cases hs
  · simp only [jv_in] at hs
    split at hs
    · next y x st' =>
      split at hs
      · next hb =>
        cases hs
        obtain ⟨wy, vs1, rfl, rfl, hS1⟩ := hS.cJ
        obtain ⟨wx, vs, rfl, rfl, hS2⟩ := hS1.cJ
        have hr := hroom (q := jv_dl id [] _) rfl hk.2
        refine va_mmax_long X.1 X.2.1 hml X.2.2.2.2.1 (hts _ hx) (hts _ w5) (hts _ w0) (hts _ w6) (by omega) (by rw [hS2.cat]; have := Nat.le_of_ble_eq_true hb; omega) hr.1 hr.2 hd (hk.1.use hM hl (hS2.pJ ?_) hF)
        simp only [Int64.lt_iff_toInt_lt]
        split <;> rfl
      · cases hs
    · cases hs
theorem js_s_ca (hS : js_S s0 b L ST st) {x i k' cc rc : Nat} (hd : (i = 0 ∧ decode (jm_c k) pc = .ok (.invokevirtual x, 3)) ∨ (i = 1 ∧ decode (jm_c k) pc = .ok (.invokespecial x, 3)) ∨ (i = 2 ∧ decode (jm_c k) pc = .ok (.invokestatic x, 3))) (hiv : js_iv k x i k' cc rc) {cs : List jv_C} {nx : jv_N} (hs : jv_in jv_ckR none jv_goR jv_caR (pc + 3) [k', cc, rc] ls st L g = some (cs, nx)) (hok : jv_ok cs = true) (hk : js_K p l e R s m args below meth c H locs cells slots Q s0 b n xs D k pc LS ST L g nx) : W p l e R s m args below meth c H locs cells slots Q (F0 m pc LS ST) := by
  simp only [jv_in] at hs
  split at hs
  · next hb1 hb2 =>
    have hb1 := Nat.le_of_ble_eq_true hb1
    have hb2 := Nat.le_of_ble_eq_true hb2
    obtain ⟨hT, hDr⟩ := hS.split cc
    have hlen : (st.take cc).reverse.length = cc := by simp; omega
    have hST : ST = ((ST.take cc).reverse).reverse ++ ST.drop cc := by rw [List.reverse_reverse, List.take_append_drop]
    have go : ∀ (as : List jv_V), as = (st.take cc).reverse → (0 < rc → (∃ (q nn : Nat) (rs : List Nat) (t : List jv_V), as = jv_P q :: t ∧ L[q]? = some (rc - 1, nn, rs)) ∨ (rc = 12 ∧ ∃ (q : Int) (t : List jv_V), as = jv_D q :: t ∧ 0 < q ∧ L[(q - 1).toNat]? = some (11, 8, []))) → js_CF s0 b L k pc ST k' as (st.drop cc) x i rc (ST.take cc).reverse (ST.drop cc) := by
      rintro as rfl hrc
      exact ⟨hd, by rw [hlen]; exact hiv, hrc, hST, hT.rev, hDr, hb2⟩
    split at hs
    · next as => 
      cases hs
      exact hk _ _ _ _ _ (go _ rfl (fun h => absurd h (by decide)))
    · next rc' q as has =>
      split at hs
      · next kd nn rs hq =>
        split at hs
        · next hb =>
          have hb := Nat.eq_of_beq_eq_true hb
          subst hb
          cases hs
          exact hk _ _ _ _ _ (go _ has.symm (fun _ => Or.inl ⟨q, nn, rs, as, rfl, hq⟩))
        · cases hs
      · cases hs
    · next q as has =>
      obtain ⟨hc, cs', hs, -⟩ := jv_ck_inv hs hok
      cases hs
      exact hk _ _ _ _ _ (go _ has.symm (fun _ => Or.inr ⟨rfl, q, as, rfl, hc⟩))
    · cases hs
  · cases hs
theorem js_s_iv (hC : js_Cl) (X : js_X p s m args meth c D k) (hM : jr_M s0 b n xs D s L g H) (hl : js_L s0 b L (jv_ml k) LS ls) (hS : js_S s0 b L ST st) (hF : js_F s0 s H locs) (hfr : jm_ht k ≤ R.frames) (hlo : jm_rl k ≤ R.locals) {len : Nat} {r : List Nat} {z : Int} {x : Nat} (hd : decode (jm_c k) pc = .ok (.invokevirtual x, len)) (hie : js_i1 k pc (.invokevirtual x) len r z) {cs : List jv_C} {nx : jv_N} (hs : jv_sx (pc, .invokevirtual x, len, r, z) ls st L g = some (cs, nx)) (hok : jv_ok cs = true) (hk : js_K p l e R s m args below meth c H locs cells slots Q s0 b n xs D k pc LS ST L g nx) : W p l e R s m args below meth c H locs cells slots Q (F0 m pc LS ST) := by
  obtain ⟨rfl, h1, h2⟩ := hie
  have hsh : r = [1000] ∨ r = [1001] ∨ r = [1002] ∨ r = [1003] ∨ r = [1004] ∨ ∃ k' cc rc, r = [k', cc, rc] := by
    have hs : jv_in jv_ckR none jv_goR jv_caR (pc + 3) r ls st L g = some (cs, nx) := hs
    unfold jv_in at hs
    split at hs
    · exact Or.inl rfl
    · exact Or.inr (Or.inl rfl)
    · exact Or.inr (Or.inr (Or.inl rfl))
    · exact Or.inr (Or.inr (Or.inr (Or.inl rfl)))
    · exact Or.inr (Or.inr (Or.inr (Or.inr (Or.inl rfl))))
    · exact Or.inr (Or.inr (Or.inr (Or.inr (Or.inr ⟨_, _, _, rfl⟩))))
    · cases hs
  rcases hsh with rfl | rfl | rfl | rfl | rfl | ⟨k', cc, rc, rfl⟩
  · exact absurd rfl h2
  · exact absurd rfl h2
  · exact absurd rfl h2
  · exact absurd rfl h2
  · exact absurd rfl h2
  · exact js_s_ca hS (Or.inl ⟨rfl, hd⟩) (h1 _ _ _ rfl) hs hok hk
theorem js_s_is (hC : js_Cl) (X : js_X p s m args meth c D k) (hM : jr_M s0 b n xs D s L g H) (hl : js_L s0 b L (jv_ml k) LS ls) (hS : js_S s0 b L ST st) (hF : js_F s0 s H locs) (hfr : jm_ht k ≤ R.frames) (hlo : jm_rl k ≤ R.locals) {len : Nat} {r : List Nat} {z : Int} {x : Nat} (hd : decode (jm_c k) pc = .ok (.invokespecial x, len)) (hie : js_i1 k pc (.invokespecial x) len r z) {cs : List jv_C} {nx : jv_N} (hs : jv_sx (pc, .invokespecial x, len, r, z) ls st L g = some (cs, nx)) (hok : jv_ok cs = true) (hk : js_K p l e R s m args below meth c H locs cells slots Q s0 b n xs D k pc LS ST L g nx) : W p l e R s m args below meth c H locs cells slots Q (F0 m pc LS ST) := by
  obtain ⟨rfl, h1, h2, h3⟩ := hie
  have hsh : r = [1000] ∨ r = [1001] ∨ r = [1002] ∨ r = [1003] ∨ r = [1004] ∨ ∃ k' cc rc, r = [k', cc, rc] := by
    have hs : jv_in jv_ckR none jv_goR jv_caR (pc + 3) r ls st L g = some (cs, nx) := hs
    unfold jv_in at hs
    split at hs
    · exact Or.inl rfl
    · exact Or.inr (Or.inl rfl)
    · exact Or.inr (Or.inr (Or.inl rfl))
    · exact Or.inr (Or.inr (Or.inr (Or.inl rfl)))
    · exact Or.inr (Or.inr (Or.inr (Or.inr (Or.inl rfl))))
    · exact Or.inr (Or.inr (Or.inr (Or.inr (Or.inr ⟨_, _, _, rfl⟩))))
    · cases hs
  rcases hsh with rfl | rfl | rfl | rfl | rfl | ⟨k', cc, rc, rfl⟩
  · exact absurd (h3 rfl) (by decide)
  · obtain ⟨a1, a2, a3⟩ := h2 rfl
    exact js_s_ob hC X hM hl hS hF (by omega) (by omega) a1 hd hs hok hk
  · exact absurd (h3 rfl) (by decide)
  · exact absurd (h3 rfl) (by decide)
  · exact absurd (h3 rfl) (by decide)
  · exact js_s_ca hS (Or.inr (Or.inl ⟨rfl, hd⟩)) (h1 _ _ _ rfl) hs hok hk
theorem js_s_it (hC : js_Cl) (X : js_X p s m args meth c D k) (hM : jr_M s0 b n xs D s L g H) (hl : js_L s0 b L (jv_ml k) LS ls) (hS : js_S s0 b L ST st) (hF : js_F s0 s H locs) (hfr : jm_ht k ≤ R.frames) (hlo : jm_rl k ≤ R.locals) {len : Nat} {r : List Nat} {z : Int} {x : Nat} (hd : decode (jm_c k) pc = .ok (.invokestatic x, len)) (hie : js_i1 k pc (.invokestatic x) len r z) {cs : List jv_C} {nx : jv_N} (hs : jv_sx (pc, .invokestatic x, len, r, z) ls st L g = some (cs, nx)) (hok : jv_ok cs = true) (hk : js_K p l e R s m args below meth c H locs cells slots Q s0 b n xs D k pc LS ST L g nx) : W p l e R s m args below meth c H locs cells slots Q (F0 m pc LS ST) := by
  obtain ⟨rfl, h1, h2, h3, h4, h5, h6⟩ := hie
  have hsh : r = [1000] ∨ r = [1001] ∨ r = [1002] ∨ r = [1003] ∨ r = [1004] ∨ ∃ k' cc rc, r = [k', cc, rc] := by
    have hs : jv_in jv_ckR none jv_goR jv_caR (pc + 3) r ls st L g = some (cs, nx) := hs
    unfold jv_in at hs
    split at hs
    · exact Or.inl rfl
    · exact Or.inr (Or.inl rfl)
    · exact Or.inr (Or.inr (Or.inl rfl))
    · exact Or.inr (Or.inr (Or.inr (Or.inl rfl)))
    · exact Or.inr (Or.inr (Or.inr (Or.inr (Or.inl rfl))))
    · exact Or.inr (Or.inr (Or.inr (Or.inr (Or.inr ⟨_, _, _, rfl⟩))))
    · cases hs
  rcases hsh with rfl | rfl | rfl | rfl | rfl | ⟨k', cc, rc, rfl⟩
  · obtain ⟨a1, a2, a3⟩ := h2 rfl
    exact js_s_cy hC X hM hl hS hF (by omega) (by omega) a1 hd hs hok hk
  · exact absurd rfl h3
  · exact js_s_math hC X hM hl hS hF hfr hlo (h4 rfl) (Or.inl ⟨rfl, rfl⟩) hd hs hok hk
  · exact js_s_math hC X hM hl hS hF hfr hlo (h5 rfl) (Or.inr (Or.inl ⟨rfl, rfl⟩)) hd hs hok hk
  · exact js_s_math hC X hM hl hS hF hfr hlo (h6 rfl) (Or.inr (Or.inr ⟨rfl, rfl⟩)) hd hs hok hk
  · exact js_s_ca hS (Or.inr (Or.inr ⟨rfl, hd⟩)) (h1 _ _ _ rfl) hs hok hk
theorem js_s_new (hC : js_Cl) (X : js_X p s m args meth c D k) (hM : jr_M s0 b n xs D s L g H) (hl : js_L s0 b L (jv_ml k) LS ls) (hS : js_S s0 b L ST st) (hF : js_F s0 s H locs) (hfr : jm_ht k ≤ R.frames) (hlo : jm_rl k ≤ R.locals) {len : Nat} {r : List Nat} {z : Int} {x : Nat} (hd : decode (jm_c k) pc = .ok (.new x, len)) (hie : js_i1 k pc (.new x) len r z) {cs : List jv_C} {nx : jv_N} (hs : jv_sx (pc, .new x, len, r, z) ls st L g = some (cs, nx)) (hok : jv_ok cs = true) (hk : js_K p l e R s m args below meth c H locs cells slots Q s0 b n xs D k pc LS ST L g nx) : W p l e R s m args below meth c H locs cells slots Q (F0 m pc LS ST) := by
  obtain ⟨rfl, h1⟩ := hie
  have hs : jv_nw jv_ckR none jv_goR (pc + 3) r ls st L g = some (cs, nx) := hs
  unfold jv_nw at hs
  split at hs
  · obtain ⟨hc, cs', hs, -⟩ := jv_ck_inv hs hok
    cases hs
    have h2 := hk.2
    dsimp only [jv_dl, id] at h2
    rw [js_sz_app] at h2
    refine js_o_new X hC hM hl hF hS hc (h1 1 8 rfl) ?_ ?_ hd (Or.inr ⟨rfl, rfl, rfl, rfl, rfl⟩) hk.1
    · have := h2.1
      simp at this
      omega
    · have := h2.2
      simp [js_sz] at this
      omega
  · rename_i ci ns hne hx9
    split at hs
    · next hb =>
      cases hs
      have h2 := hk.2
      dsimp only [jv_dl, id] at h2
      rw [js_sz_app] at h2
      by_cases hci : ci = 1
      · subst hci
        obtain ⟨C, T, hc, -⟩ := h1 1 ns rfl
        cases hc
        exact (hne rfl rfl).elim
      · refine js_o_new X hC hM hl hF hS (Nat.le_of_ble_eq_true hb) (h1 ci ns rfl) ?_ ?_ hd (Or.inl ⟨hci, rfl, rfl, rfl⟩) hk.1
        · have := h2.1
          simp at this
          omega
        · have := h2.2
          simp [js_sz] at this
          omega
    · cases hs
  · cases hs
theorem js_s_newi (hC : js_Cl) (X : js_X p s m args meth c D k) (hM : jr_M s0 b n xs D s L g H) (hl : js_L s0 b L (jv_ml k) LS ls) (hS : js_S s0 b L ST st) (hF : js_F s0 s H locs) (hfr : jm_ht k ≤ R.frames) (hlo : jm_rl k ≤ R.locals) {len : Nat} {r : List Nat} {z : Int} (hd : decode (jm_c k) pc = .ok (.newarray .int, len)) (hie : js_i1 k pc (.newarray .int) len r z) {cs : List jv_C} {nx : jv_N} (hs : jv_sx (pc, .newarray .int, len, r, z) ls st L g = some (cs, nx)) (hok : jv_ok cs = true) (hk : js_K p l e R s m args below meth c H locs cells slots Q s0 b n xs D k pc LS ST L g nx) : W p l e R s m args below meth c H locs cells slots Q (F0 m pc LS ST) := by
  obtain ⟨rfl, h1⟩ := hie
  have hs : jv_na jv_ckR none jv_goR (pc + 2) 0 ls st L g = some (cs, nx) := hs
  unfold jv_na at hs
  split at hs
  · split at hs
    · next hb =>
      obtain ⟨hc, cs', hs, -⟩ := jv_ck_inv hs hok
      cases hs
      have h2 := hk.2
      dsimp only [jv_dl, id] at h2
      rw [js_sz_app] at h2
      refine js_o_na X hM hl hF hS (Nat.le_of_ble_eq_true hb) hc (Or.inl ⟨rfl, rfl⟩) h1 ?_ ?_ hd hk.1
      · have := h2.1
        simp at this
        omega
      · have := h2.2
        simp [js_sz] at this
        omega
    · cases hs
  · cases hs
theorem js_s_newl (hC : js_Cl) (X : js_X p s m args meth c D k) (hM : jr_M s0 b n xs D s L g H) (hl : js_L s0 b L (jv_ml k) LS ls) (hS : js_S s0 b L ST st) (hF : js_F s0 s H locs) (hfr : jm_ht k ≤ R.frames) (hlo : jm_rl k ≤ R.locals) {len : Nat} {r : List Nat} {z : Int} (hd : decode (jm_c k) pc = .ok (.newarray .long, len)) (hie : js_i1 k pc (.newarray .long) len r z) {cs : List jv_C} {nx : jv_N} (hs : jv_sx (pc, .newarray .long, len, r, z) ls st L g = some (cs, nx)) (hok : jv_ok cs = true) (hk : js_K p l e R s m args below meth c H locs cells slots Q s0 b n xs D k pc LS ST L g nx) : W p l e R s m args below meth c H locs cells slots Q (F0 m pc LS ST) := by
  obtain ⟨rfl, h1⟩ := hie
  have hs : jv_na jv_ckR none jv_goR (pc + 2) 1 ls st L g = some (cs, nx) := hs
  unfold jv_na at hs
  split at hs
  · split at hs
    · next hb =>
      obtain ⟨hc, cs', hs, -⟩ := jv_ck_inv hs hok
      cases hs
      have h2 := hk.2
      dsimp only [jv_dl, id] at h2
      rw [js_sz_app] at h2
      refine js_o_na X hM hl hF hS (Nat.le_of_ble_eq_true hb) hc (Or.inr ⟨rfl, rfl⟩) h1 ?_ ?_ hd hk.1
      · have := h2.1
        simp at this
        omega
      · have := h2.2
        simp [js_sz] at this
        omega
    · cases hs
  · cases hs
theorem js_s_anew (hC : js_Cl) (X : js_X p s m args meth c D k) (hM : jr_M s0 b n xs D s L g H) (hl : js_L s0 b L (jv_ml k) LS ls) (hS : js_S s0 b L ST st) (hF : js_F s0 s H locs) (hfr : jm_ht k ≤ R.frames) (hlo : jm_rl k ≤ R.locals) {len : Nat} {r : List Nat} {z : Int} {x : Nat} (hd : decode (jm_c k) pc = .ok (.anewarray x, len)) (hie : js_i1 k pc (.anewarray x) len r z) {cs : List jv_C} {nx : jv_N} (hs : jv_sx (pc, .anewarray x, len, r, z) ls st L g = some (cs, nx)) (hok : jv_ok cs = true) (hk : js_K p l e R s m args below meth c H locs cells slots Q s0 b n xs D k pc LS ST L g nx) : W p l e R s m args below meth c H locs cells slots Q (F0 m pc LS ST) := by
  obtain ⟨rfl, h1⟩ := hie
  have hs : jv_na jv_ckR none jv_goR (pc + 3) 3 ls st L g = some (cs, nx) := hs
  unfold jv_na at hs
  split at hs
  · split at hs
    · next hb =>
      obtain ⟨hc, cs', hs, -⟩ := jv_ck_inv hs hok
      cases hs
      have h2 := hk.2
      dsimp only [jv_dl, id] at h2
      rw [js_sz_app] at h2
      refine js_o_anew X hM hl hF hS (Nat.le_of_ble_eq_true hb) hc h1 ?_ ?_ hd hk.1
      · have := h2.1
        simp at this
        omega
      · have := h2.2
        simp [js_sz] at this
        omega
    · cases hs
  · cases hs
theorem js_s_mn (hC : js_Cl) (X : js_X p s m args meth c D k) (hM : jr_M s0 b n xs D s L g H) (hl : js_L s0 b L (jv_ml k) LS ls) (hS : js_S s0 b L ST st) (hF : js_F s0 s H locs) (hfr : jm_ht k ≤ R.frames) (hlo : jm_rl k ≤ R.locals) {len : Nat} {r : List Nat} {z : Int} {x dm : Nat} (hd : decode (jm_c k) pc = .ok (.multianewarray x dm, len)) (hie : js_i1 k pc (.multianewarray x dm) len r z) {cs : List jv_C} {nx : jv_N} (hs : jv_sx (pc, .multianewarray x dm, len, r, z) ls st L g = some (cs, nx)) (hok : jv_ok cs = true) (hk : js_K p l e R s m args below meth c H locs cells slots Q s0 b n xs D k pc LS ST L g nx) : W p l e R s m args below meth c H locs cells slots Q (F0 m pc LS ST) := by
  obtain ⟨rfl, rfl, h1, h2⟩ := hie
  have hs : jv_mn jv_ckR none jv_goR (pc + 4) ls st L g = some (cs, nx) := hs
  unfold jv_mn at hs
  split at hs
  · split at hs
    · next hb =>
      obtain ⟨hc, cs', hs, -⟩ := jv_ck_inv hs hok
      cases hs
      have h2' := hk.2
      dsimp only [jv_dl, id] at h2'
      rw [js_sz_app, List.length_append, List.length_cons, jv_rows_len] at h2'
      refine js_o_mn X hM hl hF hS (Nat.le_of_ble_eq_true hb) hc h1 h2 ?_ ?_ hd hk.1
      · have := h2'.1
        omega
      · have := h2'.2
        simp only [js_sz] at this
        rw [js_sz_rows] at this
        omega
    · cases hs
  · cases hs
/-- every instruction -/
theorem js_step (hC : js_Cl) (X : js_X p s m args meth c D k) (hM : jr_M s0 b n xs D s L g H) (hl : js_L s0 b L (jv_ml k) LS ls) (hS : js_S s0 b L ST st) (hF : js_F s0 s H locs) (hfr : jm_ht k ≤ R.frames) (hlo : jm_rl k ≤ R.locals) {q : jv_E} (hie : js_ie k q) {cs : List jv_C} {nx : jv_N} (hs : jv_sx q ls st L g = some (cs, nx)) (hok : jv_ok cs = true) (hk : js_K p l e R s m args below meth c H locs cells slots Q s0 b n xs D k q.1 LS ST L g nx) : W p l e R s m args below meth c H locs cells slots Q (F0 m q.1 LS ST) := by
  obtain ⟨pc, i, len, r, z⟩ := q
  obtain ⟨hd, hie⟩ := hie
  dsimp only at hd hie hk ⊢
  cases i with
  | iconst a => exact js_s_iconst hC X hM hl hS hF hfr hlo hd hie hs hok hk
  | bipush a => exact js_s_bipush hC X hM hl hS hF hfr hlo hd hie hs hok hk
  | sipush a => exact js_s_sipush hC X hM hl hS hF hfr hlo hd hie hs hok hk
  | lconst a => exact js_s_lconst hC X hM hl hS hF hfr hlo hd hie hs hok hk
  | ldc_w a => exact js_s_ldcw hC X hM hl hS hF hfr hlo hd hie hs hok hk
  | ldc2_w a => exact js_s_ldc2 hC X hM hl hS hF hfr hlo hd hie hs hok hk
  | aconst_null => exact js_s_null hC X hM hl hS hF hfr hlo hd hie hs hok hk
  | iload_n a => exact js_s_iload_n hC X hM hl hS hF hfr hlo hd hie hs hok hk
  | iload a => exact js_s_iload hC X hM hl hS hF hfr hlo hd hie hs hok hk
  | lload_n a => exact js_s_lload_n hC X hM hl hS hF hfr hlo hd hie hs hok hk
  | lload a => exact js_s_lload hC X hM hl hS hF hfr hlo hd hie hs hok hk
  | aload_n a => exact js_s_aload_n hC X hM hl hS hF hfr hlo hd hie hs hok hk
  | aload a => exact js_s_aload hC X hM hl hS hF hfr hlo hd hie hs hok hk
  | istore_n a => exact js_s_istore_n hC X hM hl hS hF hfr hlo hd hie hs hok hk
  | istore a => exact js_s_istore hC X hM hl hS hF hfr hlo hd hie hs hok hk
  | lstore_n a => exact js_s_lstore_n hC X hM hl hS hF hfr hlo hd hie hs hok hk
  | lstore a => exact js_s_lstore hC X hM hl hS hF hfr hlo hd hie hs hok hk
  | astore_n a => exact js_s_astore_n hC X hM hl hS hF hfr hlo hd hie hs hok hk
  | astore a => exact js_s_astore hC X hM hl hS hF hfr hlo hd hie hs hok hk
  | iinc a v => exact js_s_iinc hC X hM hl hS hF hfr hlo hd hie hs hok hk
  | iadd => exact js_s_iadd hC X hM hl hS hF hfr hlo hd hie hs hok hk
  | isub => exact js_s_isub hC X hM hl hS hF hfr hlo hd hie hs hok hk
  | imul => exact js_s_imul hC X hM hl hS hF hfr hlo hd hie hs hok hk
  | ladd => exact js_s_ladd hC X hM hl hS hF hfr hlo hd hie hs hok hk
  | lmul => exact js_s_lmul hC X hM hl hS hF hfr hlo hd hie hs hok hk
  | ineg => exact js_s_ineg hC X hM hl hS hF hfr hlo hd hie hs hok hk
  | lneg => exact js_s_lneg hC X hM hl hS hF hfr hlo hd hie hs hok hk
  | iand => exact js_s_iand hC X hM hl hS hF hfr hlo hd hie hs hok hk
  | ior => exact js_s_ior hC X hM hl hS hF hfr hlo hd hie hs hok hk
  | ixor => exact js_s_ixor hC X hM hl hS hF hfr hlo hd hie hs hok hk
  | ishl => exact js_s_ishl hC X hM hl hS hF hfr hlo hd hie hs hok hk
  | ishr => exact js_s_ishr hC X hM hl hS hF hfr hlo hd hie hs hok hk
  | iushr => exact js_s_iushr hC X hM hl hS hF hfr hlo hd hie hs hok hk
  | i2b => exact js_s_i2b hC X hM hl hS hF hfr hlo hd hie hs hok hk
  | i2s => exact js_s_i2s hC X hM hl hS hF hfr hlo hd hie hs hok hk
  | i2l => exact js_s_i2l hC X hM hl hS hF hfr hlo hd hie hs hok hk
  | lcmp => exact js_s_lcmp hC X hM hl hS hF hfr hlo hd hie hs hok hk
  | idiv => exact js_s_idiv hC X hM hl hS hF hfr hlo hd hie hs hok hk
  | irem => exact js_s_irem hC X hM hl hS hF hfr hlo hd hie hs hok hk
  | ldiv => exact js_s_ldiv hC X hM hl hS hF hfr hlo hd hie hs hok hk
  | lrem => exact js_s_lrem hC X hM hl hS hF hfr hlo hd hie hs hok hk
  | dup => exact js_s_dup hC X hM hl hS hF hfr hlo hd hie hs hok hk
  | dup2 => exact js_s_dup2 hC X hM hl hS hF hfr hlo hd hie hs hok hk
  | goto off => exact js_s_goto hC X hM hl hS hF hfr hlo hd hie hs hok hk
  | ifCond cd off => exact js_s_ifCond hC X hM hl hS hF hfr hlo hd hie hs hok hk
  | if_icmp cd off => exact js_s_if_icmp hC X hM hl hS hF hfr hlo hd hie hs hok hk
  | ifnull off => exact js_s_ifnull hC X hM hl hS hF hfr hlo hd hie hs hok hk
  | ifnonnull off => exact js_s_ifnonnull hC X hM hl hS hF hfr hlo hd hie hs hok hk
  | ireturn => exact js_s_ireturn hC X hM hl hS hF hfr hlo hd hie hs hok hk
  | lreturn => exact js_s_lreturn hC X hM hl hS hF hfr hlo hd hie hs hok hk
  | areturn => exact js_s_areturn hC X hM hl hS hF hfr hlo hd hie hs hok hk
  | return_ => exact js_s_return hC X hM hl hS hF hfr hlo hd hie hs hok hk
  | tableswitch df lo hi offs => exact js_s_tsw hC X hM hl hS hF hfr hlo hd hie hs hok hk
  | lookupswitch df ps => exact js_s_lsw hC X hM hl hS hF hfr hlo hd hie hs hok hk
  | getfield x => exact js_s_getfield hC X hM hl hS hF hfr hlo hd hie hs hok hk
  | putfield x => exact js_s_putfield hC X hM hl hS hF hfr hlo hd hie hs hok hk
  | iaload => exact js_s_iaload hC X hM hl hS hF hfr hlo hd hie hs hok hk
  | laload => exact js_s_laload hC X hM hl hS hF hfr hlo hd hie hs hok hk
  | aaload => exact js_s_aaload hC X hM hl hS hF hfr hlo hd hie hs hok hk
  | iastore => exact js_s_iastore hC X hM hl hS hF hfr hlo hd hie hs hok hk
  | lastore => exact js_s_lastore hC X hM hl hS hF hfr hlo hd hie hs hok hk
  | aastore => exact js_s_aastore hC X hM hl hS hF hfr hlo hd hie hs hok hk
  | arraylength => exact js_s_alen hC X hM hl hS hF hfr hlo hd hie hs hok hk
  | invokevirtual x => exact js_s_iv hC X hM hl hS hF hfr hlo hd hie hs hok hk
  | invokespecial x => exact js_s_is hC X hM hl hS hF hfr hlo hd hie hs hok hk
  | invokestatic x => exact js_s_it hC X hM hl hS hF hfr hlo hd hie hs hok hk
  | new x => exact js_s_new hC X hM hl hS hF hfr hlo hd hie hs hok hk
  | anewarray x => exact js_s_anew hC X hM hl hS hF hfr hlo hd hie hs hok hk
  | multianewarray x dm => exact js_s_mn hC X hM hl hS hF hfr hlo hd hie hs hok hk
  | newarray at' =>
    cases at' with
    | int => exact js_s_newi hC X hM hl hS hF hfr hlo hd hie hs hok hk
    | long => exact js_s_newl hC X hM hl hS hF hfr hlo hd hie hs hok hk
    | _ => cases hs
  | _ => cases hs
end
