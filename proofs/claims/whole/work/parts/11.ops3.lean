/-! ===== single instructions: arrays, new cells ===== -/
section
variable {p : Program} {l : Launch} {e : Env} {R : Room} {s : State} {m : MethodId} {args : Array Value} {below : List Frame} {meth : Method} {c : Code} {H : Heap} {locs : List Loc} {cells slots : Nat} {Q : State → Prop}
variable {s0 b n : Nat} {xs : Nat → Int32} {D : va_G} {k : Nat} {L : jv_L} {g g' : jv_S} {LS : Array Slot} {ST : List Value} {ls st ls' st' : List jv_V} {pc pc' : Nat}
/-- an element: its cell, its value -/
theorem jr_el (hM : jr_M s0 b n xs D s L g H) {q i : Nat} {d : Nat × Nat × List Nat} (hq : L[q]? = some d) (h5 : d.1 < 5) (hi : i < d.2.1) : ∃ (q' : Nat) (cell : Cell) (v : Value), q = q' + 1 ∧ H[jr_ad s0 b q]? = some cell ∧ cell.vm = .none ∧ s.isArrayOf cell (jr_ty d.1) ∧ cell.slots.size = d.2.1 ∧ cell.slots[i]? = some v ∧ jr_V s0 b L (jr_ct g q d i) v ∧ (d.1 = 3 → va_RA s cell.cls (.object "LaneWaits$Load")) := by
  obtain ⟨q', e1, cell, c1, c2, c3⟩ := hM.at' hq (by omega)
  obtain ⟨v, v1, v2⟩ := c3 i hi
  rcases c2.2 with ⟨h1, ⟨f, hf⟩, h3, h4⟩ | ⟨h1, -⟩
  · refine ⟨q', cell, v, e1, c1, c2.1, h3, by rw [hf, arrV_size], ?_, v2, h4⟩
    have : jr_si D d.1 i = i := by unfold jr_si; rw [if_pos (by omega)]
    rw [← this]
    exact v1
  · omega
theorem js_ix {w : Int32} {i : Int} (hw : w.toInt = i) {N : Nat} (h : 0 ≤ i ∧ i < Int.ofNat N) : ∃ j : Nat, j < N ∧ i = Int.ofNat j ∧ w.toNatClampNeg = j ∧ ¬ (w < 0 ∨ N ≤ w.toNatClampNeg) := by
  obtain ⟨h1, h2⟩ := h
  have h2 : i < (N : Int) := h2
  refine ⟨i.toNat, by omega, by show i = ((i.toNat : Nat) : Int); omega, by show w.toInt.toNat = _; rw [hw], ?_⟩
  have : vp_in w N := vp_in_iff.mpr ⟨by omega, by rw [hw]; exact h2⟩
  exact this
theorem jr_ct_0 {q nn i : Nat} {rs : List Nat} : jr_ct g q (0, nn, rs) i = jv_I (g q (Int.ofNat i)) := rfl
theorem jr_ct_4 {q mm i a j : Nat} : jr_ct g q (4, mm, [a, j]) i = jv_I (g a (Int.ofNat j * Int.ofNat mm + Int.ofNat i)) := rfl
/-- an array's place: by itself, or as a row -/
def js_pl (L : jv_L) (x : jv_V) (kd : Nat) (N : Nat) (q : Nat) (pp : Nat) (off : Int → Int) : Prop := (x = jv_P q ∧ ∃ rs, L[q]? = some (kd, N, rs) ∧ True ∧ pp = q ∧ off = fun i => i) ∨ (kd = 0 ∧ ∃ (a j nn : Nat), x = jv_R a (Int.ofNat j) ∧ q = a + 1 + j ∧ L[a]? = some (2, nn, [N]) ∧ j < nn ∧ pp = a ∧ off = fun i => Int.ofNat j * Int.ofNat N + i)
theorem js_pl_of {x : jv_V} {v : Value} (hx : jr_V s0 b L x v) {kd N q pp : Nat} {off : Int → Int} (h : js_pl L x kd N q pp off) : v = .ref (jr_ad s0 b q) := by
  rcases h with ⟨rfl, -⟩ | ⟨-, a, j, nn, rfl, rfl, -⟩
  · exact hx.2
  · obtain ⟨_, _, -, -, -, h⟩ := hx
    simpa using h
theorem js_o_ald (X : js_X p s m args meth c D k) (hM : jr_M s0 b n xs D s L g H) (hl : js_L s0 b L (jv_ml k) LS ls) (hF : js_F s0 s H locs) {i : Int} {x : jv_V} (hS : js_S s0 b L ST (jv_I i :: x :: st)) {N q pp : Nat} {off : Int → Int} (hp : js_pl L x 0 N q pp off) (hi : 0 ≤ i ∧ i < Int.ofNat N) (hd : decode (jm_c k) pc = .ok (.iaload, 1)) (hk : js_KG p l e R s m args below meth c cells slots Q s0 b n xs D k L (pc + 1, ls, jv_I (g pp (off i)) :: st, L, g)) : W p l e R s m args below meth c H locs cells slots Q (F0 m pc LS ST) := by
  obtain ⟨w, vs1, rfl, hw, hS1⟩ := hS.cI
  obtain ⟨v, vs, rfl, -, hv, hS2⟩ := hS1.cons
  have hv := js_pl_of hv hp
  subst hv
  obtain ⟨j, hj, rfl, hj2, hin⟩ := js_ix hw hi
  obtain ⟨d, hq, hd5, hN, hty, hct⟩ : ∃ d : Nat × Nat × List Nat, L[q]? = some d ∧ d.1 < 5 ∧ d.2.1 = N ∧ jr_ty d.1 = .int ∧ jr_ct g q d j = jv_I (g pp (off (Int.ofNat j))) := by
    rcases hp with ⟨-, rs, h1, -, rfl, rfl⟩ | ⟨-, a, j', nn, -, rfl, h1, h2, rfl, rfl⟩
    · exact ⟨_, h1, by simp, rfl, rfl, rfl⟩
    · obtain ⟨mm, e1, e2⟩ := hM.2.2.2.2.2.2.1.1 _ _ _ h1
      cases e1
      exact ⟨_, e2 j' h2, by simp, rfl, rfl, rfl⟩
  obtain ⟨q', cell, v, -, c1, c2, c3, c4, c5, c6, -⟩ := jr_el hM hq hd5 (i := j) (by omega)
  rw [hty] at c3
  rw [hct] at c6
  obtain ⟨w2, rfl, hw2⟩ := c6
  exact W.iald X.1 X.2.1 c1 c3 (by rw [c2]; exact fun h => by cases h) (by rw [c4, hN]; exact hin) (by rw [hj2]; exact c5) rfl rfl hd (hk.use hM hl (hS2.pI hw2) hF)
theorem js_o_sld (X : js_X p s m args meth c D k) (hM : jr_M s0 b n xs D s L g H) (hl : js_L s0 b L (jv_ml k) LS ls) (hF : js_F s0 s H locs) {i : Int} (hS : js_S s0 b L ST (jv_I i :: jv_P 0 :: st)) (hi : 0 ≤ i ∧ i < Int.ofNat n) (hd : decode (jm_c k) pc = .ok (.iaload, 1)) (hk : js_KG p l e R s m args below meth c cells slots Q s0 b n xs D k L (pc + 1, ls, jv_I (g 0 i) :: st, L, g)) : W p l e R s m args below meth c H locs cells slots Q (F0 m pc LS ST) := by
  obtain ⟨w, vs1, rfl, hw, hS1⟩ := hS.cI
  obtain ⟨v, vs, rfl, -, hv, hS2⟩ := hS1.cons
  obtain ⟨-, rfl⟩ := hv
  obtain ⟨j, hj, rfl, hj2, hin⟩ := js_ix hw hi
  obtain ⟨scr, h1, h2, h3, h4, h5⟩ := hM.2.2.2.2.1
  exact W.iald X.1 X.2.1 h1 h2 h3 (by rw [h4]; exact hin) (by rw [hj2]; exact h5 j hj) rfl rfl hd (hk.use hM hl (hS2.pI (hM.2.2.2.2.2.1 j hj)) hF)
theorem js_o_lald (X : js_X p s m args meth c D k) (hM : jr_M s0 b n xs D s L g H) (hl : js_L s0 b L (jv_ml k) LS ls) (hF : js_F s0 s H locs) {i : Int} {q N : Nat} {rs : List Nat} (hS : js_S s0 b L ST (jv_I i :: jv_P q :: st)) (hq : L[q]? = some (1, N, rs)) (hi : 0 ≤ i ∧ i < Int.ofNat N) (hd : decode (jm_c k) pc = .ok (.laload, 1)) (hk : js_KG p l e R s m args below meth c cells slots Q s0 b n xs D k L (pc + 1, ls, jv_J (g q i) :: st, L, g)) : W p l e R s m args below meth c H locs cells slots Q (F0 m pc LS ST) := by
  obtain ⟨w, vs1, rfl, hw, hS1⟩ := hS.cI
  obtain ⟨v, vs, rfl, -, hv, hS2⟩ := hS1.cons
  obtain ⟨-, rfl⟩ := hv
  obtain ⟨j, hj, rfl, hj2, hin⟩ := js_ix hw hi
  obtain ⟨q', cell, v, -, c1, c2, c3, c4, c5, c6, -⟩ := jr_el hM hq (by simp) (i := j) hj
  have c6 : jr_V s0 b L (jv_J (g q (Int.ofNat j))) v := c6
  obtain ⟨w2, rfl, hw2⟩ := c6
  exact W.lald X.1 X.2.1 c1 c3 (by rw [c2]; exact fun h => by cases h) (by rw [c4]; exact hin) (by rw [hj2]; exact c5) rfl rfl hd (hk.use hM hl (hS2.pJ hw2) hF)
theorem js_o_aald (X : js_X p s m args meth c D k) (hM : jr_M s0 b n xs D s L g H) (hl : js_L s0 b L (jv_ml k) LS ls) (hF : js_F s0 s H locs) {i : Int} {q N kd : Nat} {rs : List Nat} (hS : js_S s0 b L ST (jv_I i :: jv_P q :: st)) (hq : L[q]? = some (kd, N, rs)) (hkd : kd = 2 ∨ kd = 3) (hi : 0 ≤ i ∧ i < Int.ofNat N) (hd : decode (jm_c k) pc = .ok (.aaload, 1)) (hk : js_KG p l e R s m args below meth c cells slots Q s0 b n xs D k L (pc + 1, ls, (if kd = 2 then jv_R q i else jv_D (g q i)) :: st, L, g)) : W p l e R s m args below meth c H locs cells slots Q (F0 m pc LS ST) := by
  obtain ⟨w, vs1, rfl, hw, hS1⟩ := hS.cI
  obtain ⟨v, vs, rfl, -, hv, hS2⟩ := hS1.cons
  obtain ⟨-, rfl⟩ := hv
  obtain ⟨j, hj, rfl, hj2, hin⟩ := js_ix hw hi
  obtain ⟨q', cell, v, -, c1, c2, c3, c4, c5, c6, -⟩ := jr_el hM hq (by show kd < 5; omega) (i := j) hj
  refine W.aald (ty := jr_ty kd) X.1 X.2.1 c1 c3 (by rcases hkd with rfl | rfl <;> rfl) (by rw [c2]; exact fun h => by cases h) (by rw [c4]; exact hin) (by rw [hj2]; exact c5) rfl rfl hd (hk.use hM hl ⟨?_, ?_, hS2⟩ hF)
  · rcases hkd with rfl | rfl <;> simp
  · rcases hkd with rfl | rfl
    · exact c6
    · exact c6
theorem js_o_ast (X : js_X p s m args meth c D k) (hM : jr_M s0 b n xs D s L g H) (hl : js_L s0 b L (jv_ml k) LS ls) (hF : js_F s0 s H locs) {i y : Int} {x : jv_V} (hS : js_S s0 b L ST (jv_I y :: jv_I i :: x :: st)) {N q pp : Nat} {off : Int → Int} (hp : js_pl L x 0 N q pp off) (hi : 0 ≤ i ∧ i < Int.ofNat N) (hd : decode (jm_c k) pc = .ok (.iastore, 1)) (hk : js_KG p l e R s m args below meth c cells slots Q s0 b n xs D k L (pc + 1, ls, st, L, jv_up g pp (off i) y)) : W p l e R s m args below meth c H locs cells slots Q (F0 m pc LS ST) := by
  obtain ⟨wy, vs0, rfl, hwy, hS0⟩ := hS.cI
  obtain ⟨w, vs1, rfl, hw, hS1⟩ := hS0.cI
  obtain ⟨v, vs, rfl, -, hv, hS2⟩ := hS1.cons
  have hv := js_pl_of hv hp
  subst hv
  obtain ⟨j, hj, rfl, hj2, hin⟩ := js_ix hw hi
  obtain ⟨d, hq, hd5, hN, hty, htg, hlo⟩ : ∃ d : Nat × Nat × List Nat, L[q]? = some d ∧ d.1 < 5 ∧ d.2.1 = N ∧ jr_ty d.1 = .int ∧ jr_tg d j = 0 ∧ jr_lo q d j = (pp, off (Int.ofNat j)) := by
    rcases hp with ⟨-, rs, h1, -, rfl, rfl⟩ | ⟨-, a, j', nn, -, rfl, h1, h2, rfl, rfl⟩
    · exact ⟨_, h1, by simp, rfl, rfl, rfl, rfl⟩
    · obtain ⟨mm, e1, e2⟩ := hM.2.2.2.2.2.2.1.1 _ _ _ h1
      cases e1
      exact ⟨_, e2 j' h2, by simp, rfl, rfl, rfl, rfl⟩
  obtain ⟨q', cell, v, rfl, c1, c2, c3, c4, c5, c6, -⟩ := jr_el hM hq hd5 (i := j) (by omega)
  rw [hty] at c3
  have hsi : ∀ z, jr_si D d.1 z = z := fun z => by unfold jr_si; rw [if_pos (by omega)]
  refine W.iast X.1 X.2.1 c1 c3 (by rw [c2]; exact fun h => by cases h) (by rw [c4, hN]; exact hin) rfl rfl hd (fun H' e1 e2 e3 => ?_)
  rw [hj2] at e1 ⊢
  have hM' := hM.put hq (i := j) (by omega) htg (by decide) (x := y) (v := .int wy) ⟨wy, rfl, hwy⟩ c1 (fun z _ hz => by rw [hsi, hsi]; exact hz) (by rw [hsi]; exact e1) e2 e3
  rw [hlo] at hM'
  exact hk.use hM' hl hS2 (hF.add (by simp [jr_ad]) e2 e3)
theorem js_o_last (X : js_X p s m args meth c D k) (hM : jr_M s0 b n xs D s L g H) (hl : js_L s0 b L (jv_ml k) LS ls) (hF : js_F s0 s H locs) {i y : Int} {q N : Nat} {rs : List Nat} (hS : js_S s0 b L ST (jv_J y :: jv_I i :: jv_P q :: st)) (hq : L[q]? = some (1, N, rs)) (hi : 0 ≤ i ∧ i < Int.ofNat N) (hd : decode (jm_c k) pc = .ok (.lastore, 1)) (hk : js_KG p l e R s m args below meth c cells slots Q s0 b n xs D k L (pc + 1, ls, st, L, jv_up g q i y)) : W p l e R s m args below meth c H locs cells slots Q (F0 m pc LS ST) := by
  obtain ⟨wy, vs0, rfl, hwy, hS0⟩ := hS.cJ
  obtain ⟨w, vs1, rfl, hw, hS1⟩ := hS0.cI
  obtain ⟨v, vs, rfl, -, hv, hS2⟩ := hS1.cons
  obtain ⟨-, rfl⟩ := hv
  obtain ⟨j, hj, rfl, hj2, hin⟩ := js_ix hw hi
  obtain ⟨q', cell, v, rfl, c1, c2, c3, c4, c5, c6, -⟩ := jr_el hM hq (by simp) (i := j) hj
  refine W.last X.1 X.2.1 c1 c3 (by rw [c2]; exact fun h => by cases h) (by rw [c4]; exact hin) rfl rfl hd (fun H' e1 e2 e3 => ?_)
  rw [hj2] at e1 ⊢
  have hM' := hM.put hq (i := j) hj (t := 1) rfl (by decide) (x := y) (v := .long wy) ⟨wy, rfl, hwy⟩ c1 (fun z _ hz => hz) e1 e2 e3
  exact hk.use hM' hl hS2 (hF.add (by simp [jr_ad]) e2 e3)
theorem js_o_aast (X : js_X p s m args meth c D k) (hC : js_Cl) (hM : jr_M s0 b n xs D s L g H) (hl : js_L s0 b L (jv_ml k) LS ls) (hF : js_F s0 s H locs) {i y : Int} {q N : Nat} {rs : List Nat} (hS : js_S s0 b L ST (jv_D y :: jv_I i :: jv_P q :: st)) (hq : L[q]? = some (3, N, rs)) (hi : 0 ≤ i ∧ i < Int.ofNat N) (hy : 0 < y ∧ L[(y - 1).toNat]? = some (11, 8, [])) (hd : decode (jm_c k) pc = .ok (.aastore, 1)) (hk : js_KG p l e R s m args below meth c cells slots Q s0 b n xs D k L (pc + 1, ls, st, L, jv_up g q i y)) : W p l e R s m args below meth c H locs cells slots Q (F0 m pc LS ST) := by
  obtain ⟨vy, vs0, rfl, -, hvy, hS0⟩ := hS.cons
  obtain ⟨w, vs1, rfl, hw, hS1⟩ := hS0.cI
  obtain ⟨v, vs, rfl, -, hv, hS2⟩ := hS1.cons
  obtain ⟨-, rfl⟩ := hv
  have hvy' : vy = .ref (jr_ad s0 b (y - 1).toNat) := by
    rcases hvy with ⟨h, -⟩ | ⟨-, -, h⟩
    · omega
    · exact h
  subst hvy'
  obtain ⟨j, hj, rfl, hj2, hin⟩ := js_ix hw hi
  obtain ⟨q', cell, v, rfl, c1, c2, c3, c4, c5, c6, c7⟩ := jr_el hM hq (by simp) (i := j) hj
  obtain ⟨z', -, cv, d1, d2, -⟩ := hM.at' hy.2 (by decide)
  have hcv : cv.cls = D.1 1 := by
    rcases d2.2 with hh | hh
    · exact absurd hh.1 (by decide)
    · exact hh.2.1
  have hcls := (X.2.2.2.2.2.2.2.2.2.1 1 _ rfl).2
  obtain ⟨kA, comp, k1, k2, k3, -⟩ := c7 rfl
  have hcomp : comp = D.1 1 := Option.some.inj (k3.symm.trans hcls.1)
  subst hcomp
  obtain ⟨kC, hkC, -⟩ := hcls.2
  refine W.aast X.1 X.2.1 c1 (fun z h => by rw [c2] at h; cases h) (by rw [c2]; exact fun h => by cases h) k1 k2 rfl hkC ⟨fun h => hin (Or.inl h), by rw [c4, hj2]; exact hj⟩ d1 (fun z h => by rw [d2.1] at h; cases h) (by rw [hcv]; exact hkC) (by rw [hcv]; exact va_assign hcls) rfl rfl hd (fun H' e1 e2 e3 => ?_)
  rw [hj2] at e1 ⊢
  have hM' := hM.put hq (i := j) hj (t := 2) rfl (by decide) (x := y) (v := .ref (jr_ad s0 b (y - 1).toNat)) hvy c1 (fun z _ hz => hz) e1 e2 e3
  exact hk.use hM' hl hS2 (hF.add (by simp [jr_ad]) e2 e3)
theorem js_o_alen (X : js_X p s m args meth c D k) (hM : jr_M s0 b n xs D s L g H) (hl : js_L s0 b L (jv_ml k) LS ls) (hF : js_F s0 s H locs) {x : jv_V} (hS : js_S s0 b L ST (x :: st)) {kd N q pp : Nat} {off : Int → Int} (hp : js_pl L x kd N q pp off) (hk5 : kd ≤ 5) (hd : decode (jm_c k) pc = .ok (.arraylength, 1)) (hk : js_KG p l e R s m args below meth c cells slots Q s0 b n xs D k L (pc + 1, ls, jv_I (Int.ofNat N) :: st, L, g)) : W p l e R s m args below meth c H locs cells slots Q (F0 m pc LS ST) := by
  obtain ⟨v, vs, rfl, -, hv, hS2⟩ := hS.cons
  have hv := js_pl_of hv hp
  subst hv
  have hlen : ∀ {N : Nat}, N < 2147483648 → (N.toInt32).toInt = Int.ofNat N := fun h => nI_toInt h
  obtain ⟨d, hq, hN, hdk⟩ : ∃ d : Nat × Nat × List Nat, L[q]? = some d ∧ d.2.1 = N ∧ (d.1 = kd ∨ d.1 = 4) := by
    rcases hp with ⟨-, rs, h1, -, rfl, rfl⟩ | ⟨-, a, j', nn, -, rfl, h1, h2, rfl, rfl⟩
    · exact ⟨_, h1, rfl, Or.inl rfl⟩
    · obtain ⟨mm, e1, e2⟩ := hM.2.2.2.2.2.2.1.1 _ _ _ h1
      cases e1
      exact ⟨_, e2 j' h2, rfl, Or.inr rfl⟩
  have hb := hM.2.2.2.2.2.2.1.2.2.2 q d hq
  by_cases h5 : d.1 = 5
  · cases q with
    | zero =>
      rw [hM.1] at hq
      cases hq
      obtain ⟨scr, h1, h2, h3, h4, -⟩ := hM.2.2.2.2.1
      dsimp only at hN hb
      exact W.alen (n := n.toInt32) X.1 X.2.1 h1 h2 (by rw [h4]) rfl rfl hd (hk.use hM hl (hS2.pI (by rw [← hN]; exact hlen hb)) hF)
    | succ q => exact absurd h5 (hM.2.2.2.2.2.2.2.1 q d hq)
  · obtain ⟨q', -, cell, c1, c2, -⟩ := hM.at' hq h5
    rcases c2.2 with ⟨h1, ⟨f, hf⟩, h3, -⟩ | ⟨h1, -⟩
    · exact W.alen (n := N.toInt32) X.1 X.2.1 c1 h3 (by rw [hf, arrV_size, hN]) rfl rfl hd (hk.use hM hl (hS2.pI (hlen (by omega))) hF)
    · omega
end
