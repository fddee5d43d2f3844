/-! ===== new arrays ===== -/
section
variable {p : Program} {l : Launch} {e : Env} {R : Room} {s : State} {m : MethodId} {args : Array Value} {below : List Frame} {meth : Method} {c : Code} {H : Heap} {locs : List Loc} {cells slots : Nat} {Q : State → Prop}
variable {s0 b n : Nat} {xs : Nat → Int32} {D : va_G} {k : Nat} {L : jv_L} {g g' : jv_S} {LS : Array Slot} {ST : List Value} {ls st ls' st' : List jv_V} {pc pc' : Nat}
/-- a new array of numbers or loads, all 0 -/
theorem jr_M.arr (hM : jr_M s0 b n xs D s L g H) (hlen : L.length < 999) {kd N : Nat} (hkd : kd = 0 ∨ kd = 1 ∨ kd = 3) (hN : N < 2147483648) {cA : ClassId} (ha : ∀ f, s.isArrayOf (arrV cA N f) (jr_ty kd)) (hra : kd = 3 → va_RA s cA (.object "LaneWaits$Load")) : jr_M s0 b n xs D s (L ++ [(kd, N, [])]) (jv_cl g L.length) (H.push (arrV cA N (fun _ => defaultValue (jr_ty kd)))) := by
  refine hM.push hlen (d := (kd, N, [])) (by show kd ≠ 2; omega) (by show kd ≠ 4; omega) (by show kd ≠ 5; omega) (fun h => by have : kd = 11 := h; omega) hN (cell := arrV cA N (fun _ => defaultValue (jr_ty kd))) (by simp) (by simp) (fun q hq => by rw [Array.getElem?_push, if_neg (Nat.ne_of_lt hq)]) ⟨rfl, Or.inl ⟨by show kd < 5; omega, ⟨_, rfl⟩, ha _, hra⟩⟩ (by rw [if_neg (by show kd ≠ 11; omega)]) (fun i hi => ⟨defaultValue (jr_ty kd), ?_, ?_⟩)
  · have : jr_si D kd i = i := by unfold jr_si; rw [if_pos (by omega)]
    show (arrV cA N _).slots[jr_si D kd i]? = _
    rw [this]
    exact arrV_read _ _ hi
  · rcases hkd with rfl | rfl | rfl
    · refine ⟨0, rfl, ?_⟩
      show _ = jv_cl g L.length L.length _
      simp [jv_cl]
    · refine ⟨0, rfl, ?_⟩
      show _ = jv_cl g L.length L.length _
      simp [jv_cl]
    · refine Or.inl ⟨?_, rfl⟩
      show jv_cl g L.length L.length _ = 0
      simp [jv_cl]
theorem js_o_na (X : js_X p s m args meth c D k) (hM : jr_M s0 b n xs D s L g H) (hl : js_L s0 b L (jv_ml k) LS ls) (hF : js_F s0 s H locs) {cn : Int} (hS : js_S s0 b L ST (jv_I cn :: st)) (hlen : L.length < 999) (hc : 0 ≤ cn ∧ cn ≤ 100000) {kd : Nat} {at' : ArrayType} (hkd : (kd = 0 ∧ at' = .int) ∨ (kd = 1 ∧ at' = .long)) (hx : Cond.arrayClass (jr_ty kd) ∈ jm_ws) (hr1 : cells + 1 ≤ R.cells) (hr2 : slots + cn.toNat ≤ R.slots) (hd : decode (jm_c k) pc = .ok (.newarray at', 2)) (hk : js_KG p l e R s m args below meth c cells slots Q s0 b n xs D k L (pc + 2, ls, jv_P L.length :: st, L ++ [(kd, cn.toNat, [])], jv_cl g L.length)) : W p l e R s m args below meth c H locs cells slots Q (F0 m pc LS ST) := by
  obtain ⟨w, vs, rfl, hw, hS2⟩ := hS.cI
  have hts := X.2.2.2.2.2.1
  have hty : newarray.typeOf at' = jr_ty kd := by rcases hkd with ⟨rfl, rfl⟩ | ⟨rfl, rfl⟩ <;> rfl
  have hcn : w.toNatClampNeg = cn.toNat := by show w.toInt.toNat = _; rw [hw]
  have hn : ¬ w < 0 := by rw [Int32.lt_iff_toInt_lt]; show ¬ w.toInt < 0; omega
  refine W.newa X.1 X.2.1 (by rw [hty]; exact hts _ hx) rfl hd rfl hn ?_ hr1 (by rw [hcn]; exact hr2) (fun cA kA comp h1 h2 h3 => ?_)
  · rw [hcn]
    have : componentBytes (newarray.typeOf at') ≤ 8 := by rcases hkd with ⟨rfl, rfl⟩ | ⟨rfl, rfl⟩ <;> decide
    have h2 := Nat.mul_le_mul (show cn.toNat ≤ 100000 by omega) this
    omega
  · rw [hcn, arrV_new, hty]
    rw [hty] at h3
    have hM' := hM.arr hlen (kd := kd) (N := cn.toNat) (by omega) (by omega) (cA := cA) (fun f => ⟨(fun z h => by cases h), kA, h2, comp, h3⟩) (fun h => by omega)
    refine hk.push hM' hl ⟨by simp, ⟨by simp, by rw [hM.ad.1]⟩, hS2.mono (jr_le.app _ _)⟩ (hF.grow hM (by simp) (fun q hq => by rw [Array.getElem?_push, if_neg (Nat.ne_of_lt hq)]))
theorem js_o_anew (X : js_X p s m args meth c D k) (hM : jr_M s0 b n xs D s L g H) (hl : js_L s0 b L (jv_ml k) LS ls) (hF : js_F s0 s H locs) {cn : Int} (hS : js_S s0 b L ST (jv_I cn :: st)) (hlen : L.length < 999) (hc : 0 ≤ cn ∧ cn ≤ 100000) {x : Nat} (hx : Cond.classLink (jm_own k) x "LaneWaits$Load" ∈ jm_ws) (hr1 : cells + 1 ≤ R.cells) (hr2 : slots + cn.toNat ≤ R.slots) (hd : decode (jm_c k) pc = .ok (.anewarray x, 3)) (hk : js_KG p l e R s m args below meth c cells slots Q s0 b n xs D k L (pc + 3, ls, jv_P L.length :: st, L ++ [(3, cn.toNat, [])], jv_cl g L.length)) : W p l e R s m args below meth c H locs cells slots Q (F0 m pc LS ST) := by
  obtain ⟨w, vs, rfl, hw, hS2⟩ := hS.cI
  have hts := X.2.2.2.2.2.1
  have hcn : w.toNatClampNeg = cn.toNat := by show w.toInt.toNat = _; rw [hw]
  have hn : ¬ w < 0 := by rw [Int32.lt_iff_toInt_lt]; show ¬ w.toInt < 0; omega
  refine W.anew X.1 X.2.1 X.2.2.2.2.1 (hts _ hx) (va_AO.use X.2.2.2.2.2.2.2.2.1.2.1) rfl hd rfl hn (by rw [hcn]; omega) hr1 (by rw [hcn]; exact hr2) (fun cA kA comp h1 h2 h3 h4 => ?_)
  rw [hcn, arrV_new]
  have hM' := hM.arr hlen (kd := 3) (N := cn.toNat) (by omega) (by omega) (cA := cA) (fun f => ⟨(fun z h => by cases h), kA, h2, comp, h3⟩) (fun _ => ⟨kA, comp, h2, h3, h4, h1⟩)
  exact hk.push hM' hl ⟨by simp, ⟨by simp, by rw [hM.ad.1]⟩, hS2.mono (jr_le.app _ _)⟩ (hF.grow hM (by simp) (fun q hq => by rw [Array.getElem?_push, if_neg (Nat.ne_of_lt hq)]))
theorem js_outer (cc : ClassId) (N h0 : Nat) : ∀ i : Nat, Jvm.Free.Multi.outerC cc N h0 i = arrV cc N (fun j => if j < i then .ref (h0 + 1 + j) else .null)
  | 0 => by
    show ({ cls := cc, slots := Array.replicate N .null, vm := .none } : Cell) = _
    rw [arrV_new]
    refine congrArg (arrV cc N) (funext fun j => ?_)
    simp
  | i + 1 => by
    show (Jvm.Free.Multi.outerC cc N h0 i).setSlot i (.ref (h0 + 1 + i)) = _
    rw [js_outer cc N h0 i, arrV_store]
    refine congrArg (arrV cc N) (funext fun j => ?_)
    by_cases e : j = i
    · subst e
      simp [updV]
    · by_cases h : j < i
      · simp [updV, e, h, Nat.lt_succ_of_lt h]
      · simp [updV, e, h, show ¬ j < i + 1 by omega]
theorem js_sz_rows (a cn mm : Nat) : js_sz (jv_rows a cn mm) = cn * mm := by
  have : ∀ l : List Nat, js_sz (l.map (fun i => ((4, mm, [a, i]) : Nat × Nat × List Nat))) = l.length * mm := by
    intro l
    induction l with
    | nil => simp [js_sz]
    | cons x t ih => simp [js_sz, ih, Nat.add_mul]; omega
  unfold jv_rows
  rw [this, List.length_range]
theorem js_o_mn (X : js_X p s m args meth c D k) (hM : jr_M s0 b n xs D s L g H) (hl : js_L s0 b L (jv_ml k) LS ls) (hF : js_F s0 s H locs) {cn mm : Int} (hS : js_S s0 b L ST (jv_I mm :: jv_I cn :: st)) (hlen : L.length + cn.toNat < 999) (hc : 0 ≤ cn ∧ cn ≤ 100 ∧ 0 ≤ mm ∧ mm ≤ 100) {x : Nat} (hx : Cond.classLink (jm_own k) x "[[I" ∈ jm_ws) (hx2 : Cond.arrayClass .int ∈ jm_ws) (hr1 : cells + (1 + cn.toNat) ≤ R.cells) (hr2 : slots + (cn.toNat + cn.toNat * mm.toNat) ≤ R.slots) (hd : decode (jm_c k) pc = .ok (.multianewarray x 2, 4)) (hk : js_KG p l e R s m args below meth c cells slots Q s0 b n xs D k L (pc + 4, ls, jv_P L.length :: st, L ++ (2, cn.toNat, [mm.toNat]) :: jv_rows L.length cn.toNat mm.toNat, jv_cl g L.length)) : W p l e R s m args below meth c H locs cells slots Q (F0 m pc LS ST) := by
  obtain ⟨wm, vs1, rfl, hwm, hS1⟩ := hS.cI
  obtain ⟨wc, vs, rfl, hwc, hS2⟩ := hS1.cI
  have hts := X.2.2.2.2.2.1
  have tc : wc.toNatClampNeg = cn.toNat := by show wc.toInt.toNat = _; rw [hwc]
  have tm : wm.toNatClampNeg = mm.toNat := by show wm.toInt.toNat = _; rw [hwm]
  have nc : ¬ wc < 0 := by rw [Int32.lt_iff_toInt_lt]; show ¬ wc.toInt < 0; omega
  have nm : ¬ wm < 0 := by rw [Int32.lt_iff_toInt_lt]; show ¬ wm.toInt < 0; omega
  generalize hcN : cn.toNat = N at *
  generalize hmM : mm.toNat = M at *
  intro T hT Xs
  obtain ⟨vm₁, cA, comp, -, fA, fC, hO, hI, X', step⟩ := Xs.multianewarray2F X.1 X.2.2.2.2.1 (ty := .int) (hts _ hx) X.2.2.2.2.2.2.2.2.1.2.2 (hts _ hx2) (g := F0 m pc LS (.int wm :: .int wc :: vs)) rfl (by rw [X.2.1]; exact hd) rfl nc nm (by rw [tc]; omega) (by rw [tm]; show M * 4 ≤ _; omega) (by rw [tm]; omega) rfl rfl (by rw [tc]; exact hr1) (by rw [tc, tm]; exact hr2)
  rw [tc, tm] at X' step
  generalize hFF : Jvm.Free.Multi.fill (T.setVm vm₁) cA comp N M (defaultValue .int) N = F at X' step
  have hTh : (T.setVm vm₁).heap = H := hT
  obtain ⟨f1, f2, -, -⟩ := Jvm.Free.Multi.fill_facts (T.setVm vm₁) cA comp N M (defaultValue .int) N
  rw [hFF, hTh] at f1 f2
  have hold : ∀ z : Nat, z < H.size → F.heap[z]? = H[z]? := fun z hz => by
    have := Jvm.Free.Multi.fill_old (T.setVm vm₁) cA comp N M (defaultValue .int) (a := z) (by rw [hTh]; exact hz) N
    rw [hFF, hTh] at this
    exact this
  have hrow : ∀ j : Nat, j < N → F.heap[H.size + 1 + j]? = some (arrV comp M (fun _ => .int 0)) := fun j hj => by
    have := Jvm.Free.Multi.fill_inner (T.setVm vm₁) cA comp N M (defaultValue .int) N j hj
    rw [hFF, hTh] at this
    rw [this]
    exact congrArg some (arrV_new comp M (.int 0))
  rw [js_outer] at f2
  have hT2 : T.heap.size = H.size := by rw [hT]
  have hWn := hM.2.2.2.2.2.2.1.pushR (c := N) (m := M) (by omega) (by omega)
  have had := hM.ad
  have hadr : ∀ j, jr_ad s0 b (L.length + 1 + j) = H.size + 1 + j := by
    intro j
    have h1 := hM.2.1
    rw [show L.length + 1 + j = (L.length + j) + 1 by omega]
    show s0 + (L.length + j) = _
    omega
  have hM' : jr_M s0 b n xs D s (L ++ (2, N, [M]) :: jv_rows L.length N M) (jv_cl g L.length) F.heap := by
    refine hM.grow (by rw [f1, List.length_cons, jv_rows_len]; omega) hold hWn (fun z hz => ?_) (by rw [List.length_append, List.length_cons, jv_rows_len]; omega) (fun q ee j hq hj htg => ?_) (fun j d hj => ?_)
    · rcases List.mem_cons.mp hz with rfl | hz
      · simp
      · obtain ⟨j, hj⟩ := List.getElem?_of_mem hz
        rw [(jv_rows_of hj).2]
        simp
    · unfold jv_cl
      rw [if_neg]
      intro h1
      rcases jr_lo_lt (j := j) hM.2.2.2.2.2.2.1 hq with h | ⟨h, h'⟩
      · omega
      · rw [h'] at h1
        dsimp only at h1
        omega
    · cases j with
      | zero =>
        cases hj
        refine ⟨_, by rw [Nat.add_zero, had.1]; exact f2, ⟨rfl, Or.inl ⟨by simp, ⟨_, rfl⟩, ?_, fun h => by cases h⟩⟩, fun i hi => ?_⟩
        · have := (hO N H.size N).1
          rw [js_outer] at this
          exact this
        · have hi : i < N := hi
          refine ⟨.ref (H.size + 1 + i), ?_, ?_⟩
          · show (arrV cA N _).slots[i]? = _
            rw [arrV_read _ _ hi, if_pos hi]
          rw [Nat.add_zero]
          refine ⟨N, M, ?_, ?_, ?_, ?_⟩
          · rw [List.getElem?_append_right (Nat.le_refl _), Nat.sub_self]
            rfl
          · exact Int.natCast_nonneg i
          · show (i : Int) < (N : Int)
            omega
          · show Value.ref (H.size + 1 + i) = .ref (jr_ad s0 b (L.length + 1 + i))
            rw [hadr]
      | succ j =>
        rw [List.getElem?_cons_succ] at hj
        obtain ⟨hjN, rfl⟩ := jv_rows_of hj
        refine ⟨_, by rw [show L.length + (j + 1) = L.length + 1 + j by omega, hadr]; exact hrow j hjN, ⟨rfl, Or.inl ⟨by simp, ⟨_, rfl⟩, ?_, fun h => by cases h⟩⟩, fun i hi => ?_⟩
        · have := (hI M (.int 0)).1
          have e : Jvm.Free.Multi.innerC comp M (.int 0) = arrV comp M (fun _ => .int 0) := arrV_new comp M (.int 0)
          rw [e] at this
          exact this
        · refine ⟨_, arrV_read _ _ hi, 0, rfl, ?_⟩
          show _ = jv_cl g L.length L.length _
          simp [jv_cl]
  have hle := jr_le.app L ((2, N, [M]) :: jv_rows L.length N M)
  have hw := hk F.heap locs LS (.ref H.size :: vs) hM' hle (hl.mono hle) ⟨by simp, ⟨by simp, by rw [had.1]⟩, hS2.mono hle⟩ (hF.grow hM (by omega) hold)
  have ec : cells + ((L ++ (2, N, [M]) :: jv_rows L.length N M).length - L.length) = cells + 1 + N := by rw [List.length_append, List.length_cons, jv_rows_len]; omega
  have es : slots + (js_sz (L ++ (2, N, [M]) :: jv_rows L.length N M) - js_sz L) = slots + N + N * M := by rw [js_sz_app]; show _ + (js_sz L + (N + js_sz (jv_rows L.length N M)) - _) = _; rw [js_sz_rows]; omega
  dsimp only at hw
  rw [ec, es] at hw
  obtain ⟨t, a1, b1⟩ := hw F rfl X'
  refine ⟨t, step t ?_, b1⟩
  rw [hT2]
  exact a1
end
