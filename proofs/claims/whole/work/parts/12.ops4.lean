/-! ===== copying; new cells ===== -/
section
variable {p : Program} {l : Launch} {e : Env} {R : Room} {s : State} {m : MethodId} {args : Array Value} {below : List Frame} {meth : Method} {c : Code} {H : Heap} {locs : List Loc} {cells slots : Nat} {Q : State → Prop}
variable {s0 b n : Nat} {xs : Nat → Int32} {D : va_G} {k : Nat} {L : jv_L} {g g' : jv_S} {LS : Array Slot} {ST : List Value} {ls st ls' st' : List jv_V} {pc pc' : Nat}
theorem js_S.cat : ∀ {vs : List Value} {as : List jv_V}, js_S s0 b L vs as → (vs.map fun v => v.category).sum = jv_cat as
  | [], [], _ => rfl
  | v :: vs, a :: as, h => by
    obtain ⟨h1, h2, h3⟩ := h
    have ih := js_S.cat h3
    have : ∀ x, jv_cat (x :: as) = (match x with | .inr (.inl _) => 2 | _ => 1) + jv_cat as := by
      intro x
      rcases x with i | i | q | ⟨q, i⟩ | q | u <;> rfl
    rw [this, List.map_cons, List.sum_cons, ih]
    congr 1
    rcases a with i | i | q | ⟨q, i⟩ | q | u
    · exact js_cat1 h2 h1 (by simp)
    · exact js_cat2 h2
    · exact js_cat1 h2 h1 (by simp)
    · exact js_cat1 h2 h1 (by simp)
    · exact js_cat1 h2 h1 (by simp)
    · exact absurd rfl h1
theorem js_o_obj (X : js_X p s m args meth c D k) (hC : js_Cl) (hM : jr_M s0 b n xs D s L g H) (hl : js_L s0 b L (jv_ml k) LS ls) (hF : js_F s0 s H locs) {a : jv_V} (hS : js_S s0 b L ST (a :: st)) (ha : (∃ q, a = jv_P q) ∨ ∃ q, a = jv_D q ∧ 0 < q) {x : Nat} (hx : Cond.methodLink (jm_own k) x objectInit ∈ jm_ws) (hc : jv_cat st ≤ 8) (hfr : 1 ≤ R.frames) (hlo : 20 ≤ R.locals) (hd : decode (jm_c k) pc = .ok (.invokespecial x, 3)) (hk : js_KG p l e R s m args below meth c cells slots Q s0 b n xs D k L (pc + 3, ls, st, L, g)) : W p l e R s m args below meth c H locs cells slots Q (F0 m pc LS ST) := by
  obtain ⟨v, vs, rfl, -, hv, hS2⟩ := hS.cons
  obtain ⟨q, rfl⟩ : ∃ q, v = .ref q := by
    rcases ha with ⟨q, rfl⟩ | ⟨q, rfl, h0⟩
    · exact ⟨_, hv.2⟩
    · rcases hv with ⟨h, -⟩ | ⟨-, -, h⟩
      · omega
      · exact ⟨_, h⟩
  have hts := X.2.2.2.2.2.1
  refine W.objInit X.1 X.2.1 X.2.2.2.2.1 (hts _ hx) (hts _ hC.2.1) (hts _ hC.2.2.1) rfl (by rw [X.2.2.2.1]; exact hl.1) rfl hd hfr ?_ (hk.use hM hl hS2 hF)
  show 2 * 0 + _ + 12 ≤ _
  rw [hS2.cat]
  omega
/-- System.arraycopy of ints -/
theorem js_o_copy (X : js_X p s m args meth c D k) (hC : js_Cl) (hM : jr_M s0 b n xs D s L g H) (hl : js_L s0 b L (jv_ml k) LS ls) (hF : js_F s0 s H locs) {cn dp sp : Int} {x y : jv_V} (hS : js_S s0 b L ST (jv_I cn :: jv_I dp :: y :: jv_I sp :: x :: st)) {N0 q0 p0 N1 q1 p1 : Nat} {o0 o1 : Int} (hp0 : js_pl L x 0 N0 q0 p0 (fun i => o0 + i)) (hp1 : js_pl L y 0 N1 q1 p1 (fun i => o1 + i)) (hb : 0 ≤ sp ∧ 0 ≤ dp ∧ 0 ≤ cn ∧ sp + cn ≤ Int.ofNat N0 ∧ dp + cn ≤ Int.ofNat N1) {x' : Nat} (hx : Cond.methodLink (jm_own k) x' arraycopyName ∈ jm_ws) (hc : jv_cat st ≤ 8) (hfr : 1 ≤ R.frames) (hlo : 60 ≤ R.locals) (hd : decode (jm_c k) pc = .ok (.invokestatic x', 3)) (hk : js_KG p l e R s m args below meth c cells slots Q s0 b n xs D k L (pc + 3, ls, st, L, jv_cp g p0 (o0 + sp) p1 (o1 + dp) cn)) : W p l e R s m args below meth c H locs cells slots Q (F0 m pc LS ST) := by
  obtain ⟨wc, vs0, rfl, hwc, hS0⟩ := hS.cI
  obtain ⟨wd, vs1, rfl, hwd, hS1⟩ := hS0.cI
  obtain ⟨vy, vs2, rfl, -, hvy, hS2⟩ := hS1.cons
  obtain ⟨wsp, vs3, rfl, hws, hS3⟩ := hS2.cI
  obtain ⟨vx, vs, rfl, -, hvx, hS4⟩ := hS3.cons
  have := js_pl_of hvx hp0
  subst this
  have := js_pl_of hvy hp1
  subst this
  obtain ⟨b1, b2, b3, b4, b5⟩ := hb
  have b4 : sp + cn ≤ (N0 : Int) := b4
  have b5 : dp + cn ≤ (N1 : Int) := b5
  have hts := X.2.2.2.2.2.1
  have place : ∀ {z : jv_V} {N q pp : Nat} {o : Int}, js_pl L z 0 N q pp (fun i => o + i) → ∃ d : Nat × Nat × List Nat, L[q]? = some d ∧ d.1 < 5 ∧ d.2.1 = N ∧ jr_ty d.1 = .int ∧ ∀ i, jr_tg d i = 0 ∧ jr_lo q d i = (pp, o + Int.ofNat i) := by
    intro z N q pp o h
    rcases h with ⟨-, rs, h1, -, rfl, h2⟩ | ⟨-, a, j', nn, -, rfl, h1, h2, rfl, h3⟩
    · exact ⟨_, h1, by simp, rfl, rfl, fun i => ⟨rfl, by rw [congrFun h2 (Int.ofNat i)]; rfl⟩⟩
    · obtain ⟨mm, e1, e2⟩ := hM.2.2.2.2.2.2.1.1 _ _ _ h1
      cases e1
      exact ⟨_, e2 j' h2, by simp, rfl, rfl, fun i => ⟨rfl, by rw [congrFun h3 (Int.ofNat i)]; rfl⟩⟩
  obtain ⟨d0, hq0, h05, hN0, hty0, hat0⟩ := place hp0
  obtain ⟨d1, hq1, h15, hN1, hty1, hat1⟩ := place hp1
  obtain ⟨q0', e0, cs, cs1, cs2, cs3⟩ := hM.at' hq0 (by omega)
  obtain ⟨q1', e1, cd, cd1, cd2, cd3⟩ := hM.at' hq1 (by omega)
  have arr : ∀ {d : Nat × Nat × List Nat} {cc : Cell} {N : Nat}, jr_sh D s d cc → d.1 < 5 → d.2.1 = N → jr_ty d.1 = .int → ∃ f : Nat → Value, cc = arrV cc.cls N f ∧ s.isArrayOf cc .int := by
    intro d cc N h h5 hN hty
    rcases h.2 with ⟨-, ⟨f, hf⟩, ha, -⟩ | hh
    · exact ⟨f, by rw [← hN]; exact hf, by rw [hty] at ha; exact ha⟩
    · omega
  obtain ⟨f0, hf0, ha0⟩ := arr cs2 h05 hN0 hty0
  obtain ⟨f1, hf1, ha1⟩ := arr cd2 h15 hN1 hty1
  obtain ⟨-, k0, hk0, cm0, hkk0⟩ := ha0
  obtain ⟨ha1v, k1, hk1, cm1, hkk1⟩ := ha1
  have hsi0 : ∀ z, jr_si D d0.1 z = z := fun z => by unfold jr_si; rw [if_pos (by omega)]
  have hsi1 : ∀ z, jr_si D d1.1 z = z := fun z => by unfold jr_si; rw [if_pos (by omega)]
  have hv0 : ∀ i, i < N0 → jr_V s0 b L (jv_I (g p0 (o0 + Int.ofNat i))) (f0 i) := by
    intro i hi
    obtain ⟨v, v1, v2⟩ := cs3 i (by omega)
    rw [hsi0, hf0, arrV_read _ _ hi] at v1
    cases v1
    have : jr_ct g q0 d0 i = jv_I (g p0 (o0 + Int.ofNat i)) := by unfold jr_ct; rw [(hat0 i).1, (hat0 i).2]; rfl
    rw [this] at v2
    exact v2
  have hv1 : ∀ i, i < N1 → jr_V s0 b L (jv_I (g p1 (o1 + Int.ofNat i))) (f1 i) := by
    intro i hi
    obtain ⟨v, v1, v2⟩ := cd3 i (by omega)
    rw [hsi1, hf1, arrV_read _ _ hi] at v1
    cases v1
    have : jr_ct g q1 d1 i = jv_I (g p1 (o1 + Int.ofNat i)) := by unfold jr_ct; rw [(hat1 i).1, (hat1 i).2]; rfl
    rw [this] at v2
    exact v2
  have n3 : ¬ wc < 0 := by rw [Int32.lt_iff_toInt_lt]; show ¬ wc.toInt < 0; omega
  have n2 : ¬ wd < 0 := by rw [Int32.lt_iff_toInt_lt]; show ¬ wd.toInt < 0; omega
  have n1 : ¬ wsp < 0 := by rw [Int32.lt_iff_toInt_lt]; show ¬ wsp.toInt < 0; omega
  have t3 : wc.toNatClampNeg = cn.toNat := by show wc.toInt.toNat = _; rw [hwc]
  have t2 : wd.toNatClampNeg = dp.toNat := by show wd.toInt.toNat = _; rw [hwd]
  have t1 : wsp.toNatClampNeg = sp.toNat := by show wsp.toInt.toNat = _; rw [hws]
  have z0 : cs.slots.size = N0 := by rw [hf0, arrV_size]
  have z1 : cd.slots.size = N1 := by rw [hf1, arrV_size]
  intro T hT Xs
  obtain ⟨vm', X', step⟩ := Xs.arraycopy X.1 X.2.2.2.2.1 (hts _ hx) (hts _ hC.2.2.2.1) (hts _ hC.2.2.2.2.1) (hts _ hC.2.2.2.2.2.1) (src := jr_ad s0 b q0) (dst := jr_ad s0 b q1) (cs := cs) (cd := cd) (srcPos := wsp) (destPos := wd) (n := wc) (by rw [hT]; exact cs1) (by rw [hT]; exact cd1)
    (fun z h => by rw [cs2.1] at h; cases h) (fun z h => by rw [cd2.1] at h; cases h) (by rw [cs2.1]; exact fun h => by cases h) (by rw [cd2.1]; exact fun h => by cases h) hk0 hk1 hkk0 hkk1 (by decide) n1 n2 n3
    (by rw [z0, hws, hwc]; omega) (by rw [z1, hwd, hwc]; omega)
    (fun vm₁ _ i hi => by
      rw [t3] at hi
      have ei : cs.slots.getD (wsp.toNatClampNeg + i) .null = f0 (sp.toNat + i) := by
        rw [t1, hf0, Array.getD_eq_getD_getElem?, arrV_read _ _ (by omega)]
        rfl
      obtain ⟨w, hw, -⟩ := hv0 (sp.toNat + i) (by omega)
      rw [ei, hw]
      exact ⟨rfl, trivial⟩)
    (g := F0 m pc LS (.int wc :: .int wd :: .ref (jr_ad s0 b q1) :: .int wsp :: .ref (jr_ad s0 b q0) :: vs)) rfl (by rw [X.2.2.2.1]; exact hl.1) (rest := vs) rfl (by rw [X.2.1]; exact hd) hfr
    (by show 2 * 0 + _ + _ ≤ _; rw [hS4.cat]; have hw : nativeFrameWords "java/lang/System" "arraycopy" 5 ≤ 20 := (by decide); omega)
  have ecp : copied cs cd wsp wd wc = arrV cd.cls N1 (va_cpy f0 f1 sp.toNat dp.toNat cn.toNat) := by
    have h1 := va_copied (fun z : Value => z) cs.cls cd.cls (n1 := N1) (dp := dp.toNat) f0 f1 (show sp.toNat + cn.toNat ≤ N0 by omega)
    rw [← hf0, ← hf1] at h1
    show cd.storeRun wd.toNatClampNeg (cs.stretch wsp.toNatClampNeg wc.toNatClampNeg) = _
    rw [t1, t2, t3]
    exact h1
  rw [ecp] at X' step
  subst e1
  have hl1 : jr_ad s0 b (q1' + 1) < H.size := (Array.getElem?_eq_some_iff.mp cd1).1
  have hheap : ((T.setVm vm').setCell (jr_ad s0 b (q1' + 1)) (arrV cd.cls N1 (va_cpy f0 f1 sp.toNat dp.toNat cn.toNat))).heap = H.setIfInBounds (jr_ad s0 b (q1' + 1)) (arrV cd.cls N1 (va_cpy f0 f1 sp.toNat dp.toNat cn.toNat)) := by rw [← hT]; rfl
  have oq : ∀ z : Nat, z ≠ jr_ad s0 b (q1' + 1) → (H.setIfInBounds (jr_ad s0 b (q1' + 1)) (arrV cd.cls N1 (va_cpy f0 f1 sp.toNat dp.toNat cn.toNat)))[z]? = H[z]? := fun z hz => by simp [Array.getElem?_setIfInBounds, Ne.symm hz]
  have hM' : jr_M s0 b n xs D s L (jv_cp g p0 (o0 + sp) p1 (o1 + dp) cn) (H.setIfInBounds (jr_ad s0 b (q1' + 1)) (arrV cd.cls N1 (va_cpy f0 f1 sp.toNat dp.toNat cn.toNat))) := by
    refine hM.repl hq1 (cell := arrV cd.cls N1 (va_cpy f0 f1 sp.toNat dp.toNat cn.toNat)) ⟨rfl, Or.inl ⟨h15, ⟨_, by rw [hN1]; rfl⟩, by rw [hty1]; exact ⟨(fun z h => by cases h), k1, hk1, cm1, hkk1⟩, ?_⟩⟩ (fun i hi => ?_) (fun q ee j hq hj hne htg => ?_) (by simp [Array.getElem?_setIfInBounds, hl1]) (by simp) oq
    · intro h3
      rw [h3] at hty1
      cases hty1
    · rw [hN1] at hi
      refine ⟨_, by rw [hsi1, arrV_read _ _ hi], ?_⟩
      have : jr_ct (jv_cp g p0 (o0 + sp) p1 (o1 + dp) cn) (q1' + 1) d1 i = jv_I (jv_cp g p0 (o0 + sp) p1 (o1 + dp) cn p1 (o1 + Int.ofNat i)) := by unfold jr_ct; rw [(hat1 i).1, (hat1 i).2]; rfl
      rw [this]
      unfold jv_cp va_cpy
      have ci : Int.ofNat i = (i : Int) := rfl
      by_cases hin : dp.toNat ≤ i ∧ i < dp.toNat + cn.toNat
      · rw [if_pos hin, if_pos ⟨rfl, by rw [ci]; omega, by rw [ci]; omega⟩]
        have := hv0 (sp.toNat + (i - dp.toNat)) (by omega)
        have ee : o0 + sp + (o1 + Int.ofNat i - (o1 + dp)) = o0 + Int.ofNat (sp.toNat + (i - dp.toNat)) := by
          have : Int.ofNat (sp.toNat + (i - dp.toNat)) = ((sp.toNat + (i - dp.toNat) : Nat) : Int) := rfl
          rw [this, ci]
          omega
        rw [ee]
        exact this
      · rw [if_neg hin, if_neg (fun h => hin (by obtain ⟨-, h1, h2⟩ := h; rw [ci] at h1 h2; omega))]
        exact hv1 i hi
    · unfold jv_cp
      rw [if_neg]
      rintro ⟨h1, h2, h3⟩
      apply hne
      have hx : ∃ i : Nat, i < N1 ∧ (jr_lo q ee j).2 = o1 + Int.ofNat i := ⟨((jr_lo q ee j).2 - o1).toNat, by omega, by show _ = o1 + (((jr_lo q ee j).2 - o1).toNat : Int); omega⟩
      obtain ⟨i, hi, hie⟩ := hx
      have h8 : ∀ {z : Nat} {dd : Nat × Nat × List Nat}, L[z]? = some dd → dd.1 = 11 → dd.2.1 = 8 := by
        intro z dd hz h11
        obtain ⟨kk, mm, rr⟩ := dd
        dsimp only at h11
        subst h11
        exact (hM.2.2.2.2.2.2.1.2.2.1 z mm rr hz).1
      have hd12 : d1.1 ≠ 2 := by
        intro h
        rw [h] at hty1
        cases hty1
      exact (jr_lo_ne hM.2.2.2.2.2.2.1 hM.2.2.1 hq hq1 hj (show i < d1.2.1 by rw [hN1]; exact hi) (jr_tg_2 htg) hd12 (h8 hq) (h8 hq1) (by rw [(hat1 i).2]; exact Prod.ext h1 hie)).1
  have hF' : js_F s0 s (H.setIfInBounds (jr_ad s0 b (q1' + 1)) (arrV cd.cls N1 (va_cpy f0 f1 sp.toNat dp.toNat cn.toNat))) (locs ++ (cs.stretch wsp.toNatClampNeg wc.toNatClampNeg).zipIdx.map fun z => ⟨jr_ad s0 b (q1' + 1), wd.toNatClampNeg + z.2⟩) := by
    refine ⟨by simp; exact hF.1, fun z hz => by rw [oq z (by simp [jr_ad]; omega)]; exact hF.2.1 z hz, fun z hz => ?_⟩
    rcases List.mem_append.mp hz with h | h
    · exact hF.2.2 z h
    · obtain ⟨w, -, rfl⟩ := List.mem_map.mp h
      simp [jr_ad]
  obtain ⟨t, a1, b1⟩ := hk.use hM' hl hS4 hF' _ hheap X'
  exact ⟨t, step t a1, b1⟩
end
