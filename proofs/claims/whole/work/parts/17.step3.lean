/-! ===== steps: switches, fields, arrays, calls, new cells ===== -/
theorem jv_sw_spec {x : Int} {ls st : List jv_V} {L : jv_L} {g : jv_S} {d : Nat} : ∀ (ts : List Nat) (lo : Int), ∃ li, jv_sw jv_brR x (fun t => jv_goR t ls st L g) d lo ts = some ([], .inl (li, (d, ls, st, L, g))) ∧ jv_dl id li (d, ls, st, L, g) = ((if lo ≤ x ∧ x < lo + (ts.length : Int) then ts.getD (x - lo).toNat d else d), ls, st, L, g)
  | [], lo => ⟨[], rfl, by simp [jv_dl]⟩
  | t :: ts, lo => by
    obtain ⟨li, h1, h2⟩ := jv_sw_spec (x := x) (ls := ls) (st := st) (L := L) (g := g) (d := d) ts (lo + 1)
    refine ⟨(⟨x = lo, inferInstance⟩, (t, ls, st, L, g)) :: li, ?_, ?_⟩
    · unfold jv_sw
      rw [h1]
      rfl
    · unfold jv_dl
      dsimp only
      by_cases hx : x = lo
      · rw [if_pos hx, if_pos ⟨by omega, by simp; omega⟩]
        subst hx
        simp
      · rw [if_neg hx, h2]
        congr 1
        by_cases h : lo + 1 ≤ x ∧ x < lo + 1 + (ts.length : Int)
        · rw [if_pos h, if_pos ⟨by omega, by simp; omega⟩]
          obtain ⟨n, hn⟩ : ∃ n : Nat, x - lo = ((n + 1 : Nat) : Int) := ⟨(x - lo - 1).toNat, by omega⟩
          rw [hn, show x - (lo + 1) = (n : Int) by omega]
          simp
        · rw [if_neg h, if_neg]
          simp
          omega
theorem jv_lw_spec {x : Int} {ls st : List jv_V} {L : jv_L} {g : jv_S} {d pc : Nat} {df : Int} (hdf : (pc : Int) + df = (d : Int)) : ∀ (ps : List (Int × Int)) (ts : List Nat), ts.length = ps.length → (∀ (j t : Nat) (q : Int × Int), ts[j]? = some t → ps[j]? = some q → (pc : Int) + q.2 = (t : Int)) → ∃ li t, jv_lw jv_brR x (fun t => jv_goR t ls st L g) d ps ts = some ([], .inl (li, (d, ls, st, L, g))) ∧ jv_dl id li (d, ls, st, L, g) = (t, ls, st, L, g) ∧ (pc : Int) + Op.lookupswitch.offset ps df x = (t : Int)
  | [], [], _, _ => ⟨[], d, rfl, rfl, hdf⟩
  | [], t :: ts, h, _ => by simp at h
  | q :: ps, [], h, _ => by simp at h
  | (key, off) :: ps, t :: ts, h, hh => by
    obtain ⟨li, t', h1, h2, h3⟩ := jv_lw_spec (x := x) (ls := ls) (st := st) (L := L) (g := g) hdf ps ts (by simpa using h) (fun j t q a b => hh (j + 1) t q (by simpa using a) (by simpa using b))
    have h0 := hh 0 t (key, off) rfl rfl
    refine ⟨(⟨x = key, inferInstance⟩, (t, ls, st, L, g)) :: li, if x = key then t else t', ?_, ?_, ?_⟩
    · unfold jv_lw
      rw [h1]
      rfl
    · unfold jv_dl
      dsimp only
      by_cases hx : x = key
      · rw [if_pos hx, if_pos hx]; rfl
      · rw [if_neg hx, if_neg hx]; exact h2
    · rw [Op.lookupswitch.offset_cons]
      by_cases hx : x = key
      · rw [if_pos hx, if_pos hx.symm]; exact h0
      · rw [if_neg hx, if_neg (fun h => hx h.symm)]; exact h3
section
variable {p : Program} {l : Launch} {e : Env} {R : Room} {s : State} {m : MethodId} {args : Array Value} {below : List Frame} {meth : Method} {c : Code} {H : Heap} {locs : List Loc} {cells slots : Nat} {Q : State → Prop}
variable {s0 b n : Nat} {xs : Nat → Int32} {D : va_G} {k : Nat} {L : jv_L} {g g' : jv_S} {LS : Array Slot} {ST : List Value} {ls st ls' st' : List jv_V} {pc pc' : Nat}
theorem js_s_tsw (hC : js_Cl) (X : js_X p s m args meth c D k) (hM : jr_M s0 b n xs D s L g H) (hl : js_L s0 b L (jv_ml k) LS ls) (hS : js_S s0 b L ST st) (hF : js_F s0 s H locs) (hfr : jm_ht k ≤ R.frames) (hlo : jm_rl k ≤ R.locals) {len : Nat} {r : List Nat} {z : Int} {df lo hi : Int} {offs : Array Int} (hd : decode (jm_c k) pc = .ok (.tableswitch df lo hi offs, len)) (hie : js_i1 k pc (.tableswitch df lo hi offs) len r z) {cs : List jv_C} {nx : jv_N} (hs : jv_sx (pc, .tableswitch df lo hi offs, len, r, z) ls st L g = some (cs, nx)) (hok : jv_ok cs = true) (hk : js_K p l e R s m args below meth c H locs cells slots Q s0 b n xs D k pc LS ST L g nx) : W p l e R s m args below meth c H locs cells slots Q (F0 m pc LS ST) := by
  match st, r, hs, hS with
  | .inl x :: st, d :: ts, hs, hS =>
    obtain ⟨h1, h2, h3, h4⟩ := hie d ts rfl
    obtain ⟨li, e1, e2⟩ := jv_sw_spec (x := x) (ls := ls) (st := st) (L := L) (g := g) (d := d) ts lo
    have hs : jv_sw jv_brR x (fun t => jv_goR t ls st L g) d lo ts = some (cs, nx) := hs
    rw [e1] at hs
    cases hs
    have hk2 := hk.1
    rw [e2] at hk2
    obtain ⟨w, vs, rfl, hw, hS1⟩ := hS.cI
    by_cases hin : lo ≤ x ∧ x < lo + (ts.length : Int)
    · rw [if_pos hin] at hk2
      have hlt : (x - lo).toNat < ts.length := by omega
      have hlt2 : (x - lo).toNat < offs.size := by omega
      refine lv_tableIn X.1 X.2.1 hd (by rw [hw]; omega) (by rw [hw]; omega) (off := offs[(x - lo).toNat]) (tgt := ts.getD (x - lo).toNat d) (by rw [hw]; simp [hlt2]) ?_ (hk2.use hM hl hS1 hF)
      refine h4 (x - lo).toNat _ _ ?_ (by simp [hlt2])
      simp [List.getD, hlt]
    · rw [if_neg hin] at hk2
      exact lv_tableOut X.1 X.2.1 hd (by rw [hw]; omega) h1 (hk2.use hM hl hS1 hF)
  | [], _, hs, hS => cases hs
  | .inl x :: st, [], hs, hS => cases hs
  | .inr (.inl x) :: st, _, hs, hS => cases hs
  | .inr (.inr (.inl x)) :: st, _, hs, hS => cases hs
  | .inr (.inr (.inr (.inl x))) :: st, _, hs, hS => cases hs
  | .inr (.inr (.inr (.inr (.inl x)))) :: st, _, hs, hS => cases hs
  | .inr (.inr (.inr (.inr (.inr x)))) :: st, _, hs, hS => cases hs
theorem js_s_lsw (hC : js_Cl) (X : js_X p s m args meth c D k) (hM : jr_M s0 b n xs D s L g H) (hl : js_L s0 b L (jv_ml k) LS ls) (hS : js_S s0 b L ST st) (hF : js_F s0 s H locs) (hfr : jm_ht k ≤ R.frames) (hlo : jm_rl k ≤ R.locals) {len : Nat} {r : List Nat} {z : Int} {df : Int} {ps : Array (Int × Int)} (hd : decode (jm_c k) pc = .ok (.lookupswitch df ps, len)) (hie : js_i1 k pc (.lookupswitch df ps) len r z) {cs : List jv_C} {nx : jv_N} (hs : jv_sx (pc, .lookupswitch df ps, len, r, z) ls st L g = some (cs, nx)) (hok : jv_ok cs = true) (hk : js_K p l e R s m args below meth c H locs cells slots Q s0 b n xs D k pc LS ST L g nx) : W p l e R s m args below meth c H locs cells slots Q (F0 m pc LS ST) := by
  obtain ⟨hp, hie⟩ := hie
  match st, r, hs, hS with
  | .inl x :: st, d :: ts, hs, hS =>
    obtain ⟨h1, h2, h3⟩ := hie d ts rfl
    obtain ⟨li, t, e1, e2, e3⟩ := jv_lw_spec (x := x) (ls := ls) (st := st) (L := L) (g := g) h1 ps.toList ts h2 h3
    have hs : jv_lw jv_brR x (fun t => jv_goR t ls st L g) d ps.toList ts = some (cs, nx) := hs
    rw [e1] at hs
    cases hs
    have hk2 := hk.1
    rw [e2] at hk2
    obtain ⟨w, vs, rfl, hw, hS1⟩ := hS.cI
    exact lv_lookup X.1 X.2.1 hd hp (by rw [hw]) e3 (hk2.use hM hl hS1 hF)
  | [], _, hs, hS => cases hs
  | .inl x :: st, [], hs, hS => cases hs
  | .inr (.inl x) :: st, _, hs, hS => cases hs
  | .inr (.inr (.inl x)) :: st, _, hs, hS => cases hs
  | .inr (.inr (.inr (.inl x))) :: st, _, hs, hS => cases hs
  | .inr (.inr (.inr (.inr (.inl x)))) :: st, _, hs, hS => cases hs
  | .inr (.inr (.inr (.inr (.inr x)))) :: st, _, hs, hS => cases hs
theorem js_s_getfield (hC : js_Cl) (X : js_X p s m args meth c D k) (hM : jr_M s0 b n xs D s L g H) (hl : js_L s0 b L (jv_ml k) LS ls) (hS : js_S s0 b L ST st) (hF : js_F s0 s H locs) (hfr : jm_ht k ≤ R.frames) (hlo : jm_rl k ≤ R.locals) {len : Nat} {r : List Nat} {z : Int} {x : Nat} (hd : decode (jm_c k) pc = .ok (.getfield x, len)) (hie : js_i1 k pc (.getfield x) len r z) {cs : List jv_C} {nx : jv_N} (hs : jv_sx (pc, .getfield x, len, r, z) ls st L g = some (cs, nx)) (hok : jv_ok cs = true) (hk : js_K p l e R s m args below meth c H locs cells slots Q s0 b n xs D k pc LS ST L g nx) : W p l e R s m args below meth c H locs cells slots Q (F0 m pc LS ST) := by
  obtain ⟨rfl, hie⟩ := hie
  match r, hs with
  | [kd, f, ty], hs =>
    have hfl := hie kd f ty rfl
    have hs : jv_gf jv_ckR none jv_goR (pc + 3) kd f ty ls st L g = some (cs, nx) := hs
    unfold jv_gf at hs
    match st, hs, hS with
    | .inr (.inr (.inl q)) :: st, hs, hS =>
      dsimp only at hs
      cases hq : L[q]? with
      | none => rw [hq] at hs; cases hs
      | some d =>
        rw [hq] at hs
        obtain ⟨kd', nn, rs⟩ := d
        dsimp only at hs
        cases hb : Nat.beq kd kd' && !Nat.beq kd 11 with
        | false => rw [hb] at hs; cases hs
        | true =>
          rw [hb] at hs
          rw [Bool.and_eq_true, Bool.not_eq_true'] at hb
          obtain ⟨hb, hb2⟩ := hb
          have hb := Nat.eq_of_beq_eq_true hb
          have hk11 : kd ≠ 11 := Nat.ne_of_beq_eq_false hb2
          subst hb
          dsimp only at hs
          obtain ⟨v, vs, rfl, -, hv, hS1⟩ := hS.cons
          obtain ⟨-, rfl⟩ := hv
          have hk10 := hfl.1
          have hft : jv_ft (kd - 10) f = ty := by obtain ⟨-, _, _, _, -, -, -, -, h⟩ := hfl; exact h
          refine js_get X hC hM hq hfl hd (fun hf v hv => ?_)
          by_cases h2 : ty = 2
          · subst h2
            cases hr : rs[f]? with
            | none => rw [hr] at hs; cases hs
            | some q2 =>
              rw [hr] at hs
              cases q2 with
              | zero => cases hs
              | succ q2 =>
                cases hs
                rw [jr_ct_ref hk10 hft hr] at hv
                exact hk.1.use hM hl ⟨by simp, hv, hS1⟩ hF
          · have hs2 : jv_goR (pc + 3) ls (.inl (g q (Int.ofNat f)) :: st) L g = some (cs, nx) := by
              revert hs
              match ty, h2 with
              | 0, _ => exact id
              | 1, _ => exact id
              | 2, h2 => exact absurd rfl h2
              | t + 3, _ => exact id
            cases hs2
            rw [(jr_ct_obj hk10 hk11 (by rw [hft]; exact h2)).1] at hv
            exact hk.1.use hM hl ⟨by simp, hv, hS1⟩ hF
    | .inr (.inr (.inr (.inr (.inl q)))) :: st, hs, hS =>
      dsimp only at hs
      by_cases h11 : kd = 11 ∧ ty = 0
      · obtain ⟨rfl, rfl⟩ := h11
        cases hs
        obtain ⟨h0, hq⟩ := jv_ok1 hok
        obtain ⟨v, vs, rfl, -, hv, hS1⟩ := hS.cons
        have hv' : v = .ref (jr_ad s0 b (q - 1).toNat) := by
          rcases hv with ⟨h, -⟩ | ⟨-, -, h⟩
          · omega
          · exact h
        subst hv'
        refine js_get X hC hM hq hfl hd (fun hf v hv => ?_)
        rw [jr_ct_1000 hM hf] at hv
        have e8 : 8 * (Int.ofNat (q - 1).toNat + 1) + Int.ofNat f = 8 * q + Int.ofNat f := by
          have : Int.ofNat (q - 1).toNat = ((q - 1).toNat : Int) := rfl
          rw [this]
          omega
        rw [e8] at hv
        exact hk.1.use hM hl ⟨by simp, hv, hS1⟩ hF
      · exfalso
        revert hs
        split
        · exact fun _ => h11 ⟨rfl, rfl⟩
        · intro h; cases h
    | [], hs, hS => cases hs
    | .inl x :: st, hs, hS => cases hs
    | .inr (.inl x) :: st, hs, hS => cases hs
    | .inr (.inr (.inr (.inl x))) :: st, hs, hS => cases hs
    | .inr (.inr (.inr (.inr (.inr x)))) :: st, hs, hS => cases hs
  | [], hs => cases hs
  | [_], hs => cases hs
  | [_, _], hs => cases hs
  | _ :: _ :: _ :: _ :: _, hs => cases hs
theorem js_s_putfield (hC : js_Cl) (X : js_X p s m args meth c D k) (hM : jr_M s0 b n xs D s L g H) (hl : js_L s0 b L (jv_ml k) LS ls) (hS : js_S s0 b L ST st) (hF : js_F s0 s H locs) (hfr : jm_ht k ≤ R.frames) (hlo : jm_rl k ≤ R.locals) {len : Nat} {r : List Nat} {z : Int} {x : Nat} (hd : decode (jm_c k) pc = .ok (.putfield x, len)) (hie : js_i1 k pc (.putfield x) len r z) {cs : List jv_C} {nx : jv_N} (hs : jv_sx (pc, .putfield x, len, r, z) ls st L g = some (cs, nx)) (hok : jv_ok cs = true) (hk : js_K p l e R s m args below meth c H locs cells slots Q s0 b n xs D k pc LS ST L g nx) : W p l e R s m args below meth c H locs cells slots Q (F0 m pc LS ST) := by
  obtain ⟨rfl, hie⟩ := hie
  match r, hs with
  | [kd, f, ty], hs =>
    obtain ⟨hfl, hfin⟩ := hie kd f ty rfl
    have hk10 := hfl.1
    have hft : jv_ft (kd - 10) f = ty := by obtain ⟨-, _, _, _, -, -, -, -, h⟩ := hfl; exact h
    have hs : jv_pf jv_ckR none jv_goR (pc + 3) kd f ty ls st L g = some (cs, nx) := hs
    unfold jv_pf at hs
    match st, hs, hS with
    | .inl y :: .inr (.inr (.inl q)) :: st, hs, hS =>
      dsimp only at hs
      cases hq : L[q]? with
      | none => rw [hq] at hs; cases hs
      | some d =>
        rw [hq] at hs
        obtain ⟨kd', nn, rs⟩ := d
        dsimp only at hs
        cases hb : Nat.beq kd kd' && !Nat.beq kd 11 with
        | false => rw [hb] at hs; cases hs
        | true =>
          rw [hb] at hs
          rw [Bool.and_eq_true, Bool.not_eq_true'] at hb
          obtain ⟨hb, hb2⟩ := hb
          have hb := Nat.eq_of_beq_eq_true hb
          have hk11 : kd ≠ 11 := Nat.ne_of_beq_eq_false hb2
          subst hb
          obtain ⟨w, vs1, rfl, hw, hS1⟩ := hS.cI
          obtain ⟨v, vs, rfl, -, hv, hS2⟩ := hS1.cons
          obtain ⟨-, rfl⟩ := hv
          obtain ⟨q', hq', -⟩ := hM.at' hq (by show kd ≠ 5; omega)
          subst hq'
          have fin : ∀ (hty : ty ≠ 2) (hk2 : js_KG p l e R s m args below meth c cells slots Q s0 b n xs D k L (pc + 3, ls, st, L, jv_up g (q' + 1) (Int.ofNat f) y)) (hv : (ty = 0 ∧ ∃ w', Value.int w = .int w') ∨ (ty = 1 ∧ (Value.int w = .int 0 ∨ Value.int w = .int 1)) ∨ (ty = 2 ∧ ∃ a, Value.int w = .ref a)), W p l e R s m args below meth c H locs cells slots Q (F0 m pc LS (Value.int w :: Value.ref (jr_ad s0 b (q' + 1)) :: vs)) := by
            intro hty hk2 hv
            refine js_put X hC hM hq hfl hfin hd hv (fun H' cell hf _ _ c1 hap e1 e2 e3 => ?_)
            obtain ⟨o1, o2, o3⟩ := jr_ct_obj (g := g) (q := q' + 1) (nn := nn) (rs := rs) hk10 hk11 (by rw [hft]; exact hty)
            have hM' := hM.put hq hf o2 (by decide) (x := y) (v := .int w) ⟨w, rfl, hw⟩ c1 hap e1 e2 e3
            rw [o3] at hM'
            exact hk2.use hM' hl hS2 (hF.add (by simp [jr_ad]) e2 e3)
          match ty, hs, fin with
          | 0, hs, fin =>
            cases hs
            exact fin (by decide) hk.1 (Or.inl ⟨rfl, w, rfl⟩)
          | 1, hs, fin =>
            cases hs
            have h01 := jv_ok1 hok
            refine fin (by decide) hk.1 (Or.inr (Or.inl ⟨rfl, ?_⟩))
            rcases h01 with h | h
            · exact Or.inl (congrArg Value.int (Int32.toInt_inj.mp (by rw [hw, h]; rfl)))
            · exact Or.inr (congrArg Value.int (Int32.toInt_inj.mp (by rw [hw, h]; rfl)))
          | 2, hs, fin => cases hs
          | t + 3, hs, fin => cases hs
    | .inl y :: .inr (.inr (.inr (.inr (.inl q)))) :: st, hs, hS =>
      by_cases h11 : kd = 11 ∧ ty = 0
      · obtain ⟨rfl, rfl⟩ := h11
        cases hs
        obtain ⟨h0, hq⟩ := jv_ok1 hok
        obtain ⟨w, vs1, rfl, hw, hS1⟩ := hS.cI
        obtain ⟨v, vs, rfl, -, hv, hS2⟩ := hS1.cons
        have hv' : v = .ref (jr_ad s0 b (q - 1).toNat) := by
          rcases hv with ⟨h, -⟩ | ⟨-, -, h⟩
          · omega
          · exact h
        subst hv'
        obtain ⟨q', hq', -⟩ := hM.at' hq (by decide)
        refine js_put X hC hM hq hfl hfin hd (Or.inl ⟨rfl, w, rfl⟩) (fun H' cell hf _ _ c1 hap e1 e2 e3 => ?_)
        rw [hq'] at hq c1 e1 e3 ⊢
        have o2 : jr_tg (11, 8, []) f = 0 := by
          rcases (show f = 0 ∨ f = 1 ∨ f = 2 ∨ f = 3 ∨ f = 4 ∨ f = 5 ∨ f = 6 ∨ f = 7 by omega) with rfl | rfl | rfl | rfl | rfl | rfl | rfl | rfl <;> rfl
        have hM' := hM.put hq hf o2 (by decide) (x := y) (v := .int w) ⟨w, rfl, hw⟩ c1 hap e1 e2 e3
        have o3 : jr_lo (q' + 1) (11, 8, []) f = (1000, 8 * q + Int.ofNat f) := by
          show ((1000 : Nat), 8 * (Int.ofNat (q' + 1) + 1) + Int.ofNat f) = _
          have : Int.ofNat (q' + 1) = ((q' + 1 : Nat) : Int) := rfl
          rw [this, ← hq']
          congr 1
          omega
        rw [o3] at hM'
        exact hk.1.use hM' hl hS2 (hF.add (by simp [jr_ad]) e2 e3)
      · exfalso
        revert hs
        dsimp only
        split
        · exact fun _ => h11 ⟨rfl, rfl⟩
        · intro h; cases h
    | .inr (.inr (.inl v0)) :: .inr (.inr (.inl q)) :: st, hs, hS =>
      dsimp only at hs
      cases hq : L[q]? with
      | none => rw [hq] at hs; cases hs
      | some d =>
        rw [hq] at hs
        obtain ⟨kd', nn, rs⟩ := d
        dsimp only at hs
        cases hb : Nat.beq kd kd' && !Nat.beq kd 11 && Nat.blt f rs.length && Nat.ble 10 kd with
        | false => rw [hb] at hs; cases hs
        | true =>
          rw [hb] at hs
          rw [Bool.and_eq_true, Bool.and_eq_true, Bool.and_eq_true, Bool.not_eq_true'] at hb
          obtain ⟨⟨⟨hb, hb2⟩, hb3⟩, -⟩ := hb
          have hb := Nat.eq_of_beq_eq_true hb
          have hk11 : kd ≠ 11 := Nat.ne_of_beq_eq_false hb2
          have hrs : f < rs.length := Nat.le_of_ble_eq_true hb3
          subst hb
          by_cases h2 : ty = 2
          · subst h2
            cases v0 with
            | zero => cases hs
            | succ v0 =>
              dsimp only at hs
              cases hb4 : Nat.blt (v0 + 1) L.length with
              | false => rw [hb4] at hs; cases hs
              | true =>
                rw [hb4] at hs
                cases hs
                have hvl : v0 + 1 < L.length := Nat.le_of_ble_eq_true hb4
                obtain ⟨vv, vs1, rfl, -, hvv, hS1⟩ := hS.cons
                obtain ⟨-, rfl⟩ := hvv
                obtain ⟨v, vs, rfl, -, hv, hS2⟩ := hS1.cons
                obtain ⟨-, rfl⟩ := hv
                obtain ⟨q', hq', -⟩ := hM.at' hq (by show kd ≠ 5; omega)
                subst hq'
                refine js_put X hC hM hq hfl hfin hd (Or.inr (Or.inr ⟨rfl, _, rfl⟩)) (fun H' cell hf _ _ c1 hap e1 e2 e3 => ?_)
                have hM' := hM.putr hq hk10 hk11 hf hrs hft hvl c1 hap e1 e2 e3
                have hle : jr_le L (L.set (q' + 1) (kd, nn, rs.set f (v0 + 1))) := jr_le.set hq (fun h => by omega)
                have hw := hk.1 H' _ LS vs hM' hle (hl.mono hle) (hS2.mono hle) (hF.add (i := jr_si D kd f) (by simp [jr_ad]) e2 e3)
                have e5 : ∀ (M : jv_L) (i : Nat) (d d' : Nat × Nat × List Nat), M[i]? = some d → d'.2.1 = d.2.1 → js_sz (M.set i d') = js_sz M := by
                  intro M
                  induction M with
                  | nil => intro i d d' h _; cases h
                  | cons x t ih =>
                    intro i d d' h hd'
                    cases i with
                    | zero => cases h; simp [js_sz, hd']
                    | succ i => simp only [List.set_cons_succ, js_sz]; rw [ih i d d' (by simpa using h) hd']
                dsimp only [id, jv_dl] at hw
                rw [e5 L (q' + 1) _ (kd, nn, rs.set f (v0 + 1)) hq rfl, List.length_set, Nat.sub_self, Nat.sub_self] at hw
                exact hw
          · exfalso
            revert hs
            match ty, h2 with
            | 0, _ => intro h; cases h
            | 1, _ => intro h; cases h
            | 2, h2 => exact absurd rfl h2
            | t + 3, _ => intro h; cases h
    | [], hs, hS => cases hs
    | [.inl _], hs, hS => cases hs
    | [.inr (.inl _)], hs, hS => cases hs
    | [.inr (.inr (.inl _))], hs, hS => cases hs
    | [.inr (.inr (.inr (.inl _)))], hs, hS => cases hs
    | [.inr (.inr (.inr (.inr (.inl _))))], hs, hS => cases hs
    | [.inr (.inr (.inr (.inr (.inr _))))], hs, hS => cases hs
    | .inl _ :: .inl _ :: _, hs, hS => cases hs
    | .inl _ :: .inr (.inl _) :: _, hs, hS => cases hs
    | .inl _ :: .inr (.inr (.inr (.inl _))) :: _, hs, hS => cases hs
    | .inl _ :: .inr (.inr (.inr (.inr (.inr _)))) :: _, hs, hS => cases hs
    | .inr (.inl _) :: _ :: _, hs, hS => cases hs
    | .inr (.inr (.inl _)) :: .inl _ :: _, hs, hS => cases hs
    | .inr (.inr (.inl _)) :: .inr (.inl _) :: _, hs, hS => cases hs
    | .inr (.inr (.inl _)) :: .inr (.inr (.inr (.inl _))) :: _, hs, hS => cases hs
    | .inr (.inr (.inl _)) :: .inr (.inr (.inr (.inr (.inl _)))) :: _, hs, hS => cases hs
    | .inr (.inr (.inl _)) :: .inr (.inr (.inr (.inr (.inr _)))) :: _, hs, hS => cases hs
    | .inr (.inr (.inr (.inl _))) :: _ :: _, hs, hS => cases hs
    | .inr (.inr (.inr (.inr (.inl _)))) :: _ :: _, hs, hS => cases hs
    | .inr (.inr (.inr (.inr (.inr _)))) :: _ :: _, hs, hS => cases hs
  | [], hs => cases hs
  | [_], hs => cases hs
  | [_, _], hs => cases hs
  | _ :: _ :: _ :: _ :: _, hs => cases hs
end
