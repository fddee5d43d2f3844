/-! ===== single instructions: locals, branches, fields, arrays ===== -/
section
variable {p : Program} {l : Launch} {e : Env} {R : Room} {s : State} {m : MethodId} {args : Array Value} {below : List Frame} {meth : Method} {c : Code} {H : Heap} {locs : List Loc} {cells slots : Nat} {Q : State → Prop}
variable {s0 b n : Nat} {xs : Nat → Int32} {D : va_G} {k : Nat} {L : jv_L} {g g' : jv_S} {LS : Array Slot} {ST : List Value} {ls st ls' st' : List jv_V} {pc pc' : Nat}
theorem js_o_istore_n (X : js_X p s m args meth c D k) (hM : jr_M s0 b n xs D s L g H) (hl : js_L s0 b L (jv_ml k) LS ls) (hF : js_F s0 s H locs) {i : Fin 4} {x : Int} (hS : js_S s0 b L ST (jv_I x :: st)) (hi : i.val + 1 ≤ ls.length) (hd : decode (jm_c k) pc = .ok (.istore_n i, 1)) (hk : js_KG p l e R s m args below meth c cells slots Q s0 b n xs D k L (pc + 1, jv_s1 ls i.val (jv_I x), st, L, g)) : W p l e R s m args below meth c H locs cells slots Q (F0 m pc LS ST) := by
  obtain ⟨w, vs, rfl, rfl, hS2⟩ := hS.cI
  have hn := hl.2.2.1
  obtain ⟨LS', e1, hl'⟩ := hl.store1 (i := i.val) (by omega) (show jr_V s0 b L (jv_I w.toInt) _ from ⟨w, rfl, rfl⟩) (by simp) (by simp)
  have hk' := hk.use hM hl' hS2 hF
  intro T hT Xs
  obtain ⟨t, a1, b1⟩ := hk' T hT Xs
  refine ⟨t, ?_, b1⟩
  jvm_step Xs.here [Xs.here.top, ↓top_set Xs.here.top, X.1, X.2.1, hd, e1]
  exact a1
theorem js_o_istore (X : js_X p s m args meth c D k) (hM : jr_M s0 b n xs D s L g H) (hl : js_L s0 b L (jv_ml k) LS ls) (hF : js_F s0 s H locs) {i : Nat} {x : Int} (hS : js_S s0 b L ST (jv_I x :: st)) (hi : i + 1 ≤ ls.length) (hd : decode (jm_c k) pc = .ok (.istore i, 2)) (hk : js_KG p l e R s m args below meth c cells slots Q s0 b n xs D k L (pc + 2, jv_s1 ls i (jv_I x), st, L, g)) : W p l e R s m args below meth c H locs cells slots Q (F0 m pc LS ST) := by
  obtain ⟨w, vs, rfl, rfl, hS2⟩ := hS.cI
  have hn := hl.2.2.1
  obtain ⟨LS', e1, hl'⟩ := hl.store1 (i := i) (by omega) (show jr_V s0 b L (jv_I w.toInt) _ from ⟨w, rfl, rfl⟩) (by simp) (by simp)
  have hk' := hk.use hM hl' hS2 hF
  intro T hT Xs
  obtain ⟨t, a1, b1⟩ := hk' T hT Xs
  refine ⟨t, ?_, b1⟩
  jvm_step Xs.here [Xs.here.top, ↓top_set Xs.here.top, X.1, X.2.1, hd, e1]
  exact a1
theorem js_o_lstore_n (X : js_X p s m args meth c D k) (hM : jr_M s0 b n xs D s L g H) (hl : js_L s0 b L (jv_ml k) LS ls) (hF : js_F s0 s H locs) {i : Fin 4} {x : Int} (hS : js_S s0 b L ST (jv_J x :: st)) (hi : i.val + 2 ≤ ls.length) (hd : decode (jm_c k) pc = .ok (.lstore_n i, 1)) (hk : js_KG p l e R s m args below meth c cells slots Q s0 b n xs D k L (pc + 1, jv_s2 ls i.val (jv_J x), st, L, g)) : W p l e R s m args below meth c H locs cells slots Q (F0 m pc LS ST) := by
  obtain ⟨w, vs, rfl, rfl, hS2⟩ := hS.cJ
  have hn := hl.2.2.1
  obtain ⟨LS', e1, hl'⟩ := hl.store2 (i := i.val) (by omega) (show jr_V s0 b L (jv_J w.toInt) _ from ⟨w, rfl, rfl⟩)
  have hk' := hk.use hM hl' hS2 hF
  intro T hT Xs
  obtain ⟨t, a1, b1⟩ := hk' T hT Xs
  refine ⟨t, ?_, b1⟩
  jvm_step Xs.here [Xs.here.top, ↓top_set Xs.here.top, X.1, X.2.1, hd, e1]
  exact a1
theorem js_o_lstore (X : js_X p s m args meth c D k) (hM : jr_M s0 b n xs D s L g H) (hl : js_L s0 b L (jv_ml k) LS ls) (hF : js_F s0 s H locs) {i : Nat} {x : Int} (hS : js_S s0 b L ST (jv_J x :: st)) (hi : i + 2 ≤ ls.length) (hd : decode (jm_c k) pc = .ok (.lstore i, 2)) (hk : js_KG p l e R s m args below meth c cells slots Q s0 b n xs D k L (pc + 2, jv_s2 ls i (jv_J x), st, L, g)) : W p l e R s m args below meth c H locs cells slots Q (F0 m pc LS ST) := by
  obtain ⟨w, vs, rfl, rfl, hS2⟩ := hS.cJ
  have hn := hl.2.2.1
  obtain ⟨LS', e1, hl'⟩ := hl.store2 (i := i) (by omega) (show jr_V s0 b L (jv_J w.toInt) _ from ⟨w, rfl, rfl⟩)
  have hk' := hk.use hM hl' hS2 hF
  intro T hT Xs
  obtain ⟨t, a1, b1⟩ := hk' T hT Xs
  refine ⟨t, ?_, b1⟩
  jvm_step Xs.here [Xs.here.top, ↓top_set Xs.here.top, X.1, X.2.1, hd, e1]
  exact a1
theorem js_o_astore_n (X : js_X p s m args meth c D k) (hM : jr_M s0 b n xs D s L g H) (hl : js_L s0 b L (jv_ml k) LS ls) (hF : js_F s0 s H locs) {i : Fin 4} {a : jv_V} (hS : js_S s0 b L ST (a :: st)) (ha : ∀ x, a ≠ jv_I x) (hj : ∀ x, a ≠ jv_J x) (hi : i.val + 1 ≤ ls.length) (hd : decode (jm_c k) pc = .ok (.astore_n i, 1)) (hk : js_KG p l e R s m args below meth c cells slots Q s0 b n xs D k L (pc + 1, jv_s1 ls i.val a, st, L, g)) : W p l e R s m args below meth c H locs cells slots Q (F0 m pc LS ST) := by
  obtain ⟨v, vs, rfl, hu, hv, hS2⟩ := hS.cons
  have hn := hl.2.2.1
  obtain ⟨LS', e1, hl'⟩ := hl.store1 (i := i.val) (by omega) hv hu hj
  have hk' := hk.use hM hl' hS2 hF
  have hr : v.isRef = true := by
    rcases a with i | i | q | ⟨q, i⟩ | q | u
    · exact absurd rfl (ha i)
    · exact absurd rfl (hj i)
    · obtain ⟨-, rfl⟩ := hv; rfl
    · obtain ⟨_, _, -, -, -, rfl⟩ := hv; rfl
    · rcases hv with ⟨-, rfl⟩ | ⟨-, -, rfl⟩ <;> rfl
    · exact absurd rfl hu
  intro T hT Xs
  obtain ⟨t, a1, b1⟩ := hk' T hT Xs
  refine ⟨t, ?_, b1⟩
  cases v <;> first | (cases hr; done) | (jvm_step Xs.here [Xs.here.top, ↓top_set Xs.here.top, X.1, X.2.1, hd, e1, Value.isRef]; exact a1)
theorem js_o_astore (X : js_X p s m args meth c D k) (hM : jr_M s0 b n xs D s L g H) (hl : js_L s0 b L (jv_ml k) LS ls) (hF : js_F s0 s H locs) {i : Nat} {a : jv_V} (hS : js_S s0 b L ST (a :: st)) (ha : ∀ x, a ≠ jv_I x) (hj : ∀ x, a ≠ jv_J x) (hi : i + 1 ≤ ls.length) (hd : decode (jm_c k) pc = .ok (.astore i, 2)) (hk : js_KG p l e R s m args below meth c cells slots Q s0 b n xs D k L (pc + 2, jv_s1 ls i a, st, L, g)) : W p l e R s m args below meth c H locs cells slots Q (F0 m pc LS ST) := by
  obtain ⟨v, vs, rfl, hu, hv, hS2⟩ := hS.cons
  have hn := hl.2.2.1
  obtain ⟨LS', e1, hl'⟩ := hl.store1 (i := i) (by omega) hv hu hj
  have hk' := hk.use hM hl' hS2 hF
  have hr : v.isRef = true := by
    rcases a with i | i | q | ⟨q, i⟩ | q | u
    · exact absurd rfl (ha i)
    · exact absurd rfl (hj i)
    · obtain ⟨-, rfl⟩ := hv; rfl
    · obtain ⟨_, _, -, -, -, rfl⟩ := hv; rfl
    · rcases hv with ⟨-, rfl⟩ | ⟨-, -, rfl⟩ <;> rfl
    · exact absurd rfl hu
  intro T hT Xs
  obtain ⟨t, a1, b1⟩ := hk' T hT Xs
  refine ⟨t, ?_, b1⟩
  cases v <;> first | (cases hr; done) | (jvm_step Xs.here [Xs.here.top, ↓top_set Xs.here.top, X.1, X.2.1, hd, e1, Value.isRef]; exact a1)
theorem js_o_iinc (X : js_X p s m args meth c D k) (hM : jr_M s0 b n xs D s L g H) (hl : js_L s0 b L (jv_ml k) LS ls) (hF : js_F s0 s H locs) (hS : js_S s0 b L ST st) {i : Nat} {cc x : Int} (hi : ls[i]? = some (jv_I x)) (hc : (Int32.ofInt cc).toInt = cc) (hd : decode (jm_c k) pc = .ok (.iinc i cc, 3)) (hk : js_KG p l e R s m args below meth c cells slots Q s0 b n xs D k L (pc + 3, jv_s1 ls i (jv_I (jv_w32 (x + cc))), st, L, g)) : W p l e R s m args below meth c H locs cells slots Q (F0 m pc LS ST) := by
  obtain ⟨v, h1, w, rfl, rfl⟩ := hl.2.2.2 _ _ hi (by simp) (fun h => by obtain ⟨x, hx⟩ := h; cases hx)
  have hn := hl.2.2.1
  have hlt : i < ls.length := (List.getElem?_eq_some_iff.mp hi).1
  have hv : jr_V s0 b L (jv_I (jv_w32 (w.toInt + cc))) (.int (w + Int32.ofInt cc)) := ⟨_, rfl, by unfold jv_w32; rw [Int32.ofInt_add, Int32.ofInt_toInt]⟩
  obtain ⟨LS', e1, hl'⟩ := hl.store1 (i := i) (by omega) hv (by simp) (by simp)
  have hk' := hk.use hM hl' hS hF
  intro T hT Xs
  obtain ⟨t, a1, b1⟩ := hk' T hT Xs
  refine ⟨t, ?_, b1⟩
  jvm_step Xs.here [Xs.here.top, ↓top_set Xs.here.top, X.1, X.2.1, hd, h1, e1]
  exact a1
theorem js_o_goto (X : js_X p s m args meth c D k) (hM : jr_M s0 b n xs D s L g H) (hl : js_L s0 b L (jv_ml k) LS ls) (hF : js_F s0 s H locs) (hS : js_S s0 b L ST st) {off : Int} {t : Nat} (ht : (pc : Int) + off = (t : Int)) (hd : decode (jm_c k) pc = .ok (.goto off, 3)) (hk : js_KG p l e R s m args below meth c cells slots Q s0 b n xs D k L (t, ls, st, L, g)) : W p l e R s m args below meth c H locs cells slots Q (F0 m pc LS ST) := by
  exact lv_goto X.1 X.2.1 hd ht (hk.use hM hl hS hF)
theorem js_o_icmp_eq (X : js_X p s m args meth c D k) (hM : jr_M s0 b n xs D s L g H) (hl : js_L s0 b L (jv_ml k) LS ls) (hF : js_F s0 s H locs) {x y : Int} (hS : js_S s0 b L ST (jv_I y :: jv_I x :: st)) {off : Int} {t : Nat} (ht : (pc : Int) + off = (t : Int)) (hd : decode (jm_c k) pc = .ok (.if_icmp .eq off, 3)) (hk : js_KG p l e R s m args below meth c cells slots Q s0 b n xs D k L (if x = y then (t, ls, st, L, g) else (pc + 3, ls, st, L, g))) : W p l e R s m args below meth c H locs cells slots Q (F0 m pc LS ST) := by
  obtain ⟨wy, vs1, rfl, rfl, hS1⟩ := hS.cI
  obtain ⟨wx, vs, rfl, rfl, hS2⟩ := hS1.cI
  refine lv_icmp_eq X.1 X.2.1 hd ht (fun h => ?_) (fun h => ?_)
  · rw [if_pos (Int32.toInt_inj.symm.mp h)] at hk
    exact hk.use hM hl hS2 hF
  · rw [if_neg (fun h2 => h (Int32.toInt_inj.symm.mpr h2))] at hk
    exact hk.use hM hl hS2 hF
theorem js_o_if_eq (X : js_X p s m args meth c D k) (hM : jr_M s0 b n xs D s L g H) (hl : js_L s0 b L (jv_ml k) LS ls) (hF : js_F s0 s H locs) {x : Int} (hS : js_S s0 b L ST (jv_I x :: st)) {off : Int} {t : Nat} (ht : (pc : Int) + off = (t : Int)) (hd : decode (jm_c k) pc = .ok (.ifCond .eq off, 3)) (hk : js_KG p l e R s m args below meth c cells slots Q s0 b n xs D k L (if x = 0 then (t, ls, st, L, g) else (pc + 3, ls, st, L, g))) : W p l e R s m args below meth c H locs cells slots Q (F0 m pc LS ST) := by
  obtain ⟨wx, vs, rfl, rfl, hS2⟩ := hS.cI
  have h0 : (0 : Int32).toInt = 0 := rfl
  refine lv_if_eq X.1 X.2.1 hd ht (fun h => ?_) (fun h => ?_)
  · rw [if_pos (by have := Int32.toInt_inj.symm.mp h; rw [h0] at this; exact this)] at hk
    exact hk.use hM hl hS2 hF
  · rw [if_neg (fun h2 => h (Int32.toInt_inj.symm.mpr (by rw [h0]; exact h2)))] at hk
    exact hk.use hM hl hS2 hF
theorem js_o_icmp_ne (X : js_X p s m args meth c D k) (hM : jr_M s0 b n xs D s L g H) (hl : js_L s0 b L (jv_ml k) LS ls) (hF : js_F s0 s H locs) {x y : Int} (hS : js_S s0 b L ST (jv_I y :: jv_I x :: st)) {off : Int} {t : Nat} (ht : (pc : Int) + off = (t : Int)) (hd : decode (jm_c k) pc = .ok (.if_icmp .ne off, 3)) (hk : js_KG p l e R s m args below meth c cells slots Q s0 b n xs D k L (if x = y then (pc + 3, ls, st, L, g) else (t, ls, st, L, g))) : W p l e R s m args below meth c H locs cells slots Q (F0 m pc LS ST) := by
  obtain ⟨wy, vs1, rfl, rfl, hS1⟩ := hS.cI
  obtain ⟨wx, vs, rfl, rfl, hS2⟩ := hS1.cI
  refine lv_icmp_ne X.1 X.2.1 hd ht (fun h => ?_) (fun h => ?_)
  · rw [if_neg (fun h2 => h (Int32.toInt_inj.symm.mpr h2))] at hk
    exact hk.use hM hl hS2 hF
  · rw [if_pos (Int32.toInt_inj.symm.mp h)] at hk
    exact hk.use hM hl hS2 hF
theorem js_o_if_ne (X : js_X p s m args meth c D k) (hM : jr_M s0 b n xs D s L g H) (hl : js_L s0 b L (jv_ml k) LS ls) (hF : js_F s0 s H locs) {x : Int} (hS : js_S s0 b L ST (jv_I x :: st)) {off : Int} {t : Nat} (ht : (pc : Int) + off = (t : Int)) (hd : decode (jm_c k) pc = .ok (.ifCond .ne off, 3)) (hk : js_KG p l e R s m args below meth c cells slots Q s0 b n xs D k L (if x = 0 then (pc + 3, ls, st, L, g) else (t, ls, st, L, g))) : W p l e R s m args below meth c H locs cells slots Q (F0 m pc LS ST) := by
  obtain ⟨wx, vs, rfl, rfl, hS2⟩ := hS.cI
  have h0 : (0 : Int32).toInt = 0 := rfl
  refine lv_if_ne X.1 X.2.1 hd ht (fun h => ?_) (fun h => ?_)
  · rw [if_neg (fun h2 => h (Int32.toInt_inj.symm.mpr (by rw [h0]; exact h2)))] at hk
    exact hk.use hM hl hS2 hF
  · rw [if_pos (by have := Int32.toInt_inj.symm.mp h; rw [h0] at this; exact this)] at hk
    exact hk.use hM hl hS2 hF
theorem js_o_icmp_lt (X : js_X p s m args meth c D k) (hM : jr_M s0 b n xs D s L g H) (hl : js_L s0 b L (jv_ml k) LS ls) (hF : js_F s0 s H locs) {x y : Int} (hS : js_S s0 b L ST (jv_I y :: jv_I x :: st)) {off : Int} {t : Nat} (ht : (pc : Int) + off = (t : Int)) (hd : decode (jm_c k) pc = .ok (.if_icmp .lt off, 3)) (hk : js_KG p l e R s m args below meth c cells slots Q s0 b n xs D k L (if x < y then (t, ls, st, L, g) else (pc + 3, ls, st, L, g))) : W p l e R s m args below meth c H locs cells slots Q (F0 m pc LS ST) := by
  obtain ⟨wy, vs1, rfl, rfl, hS1⟩ := hS.cI
  obtain ⟨wx, vs, rfl, rfl, hS2⟩ := hS1.cI
  refine lv_icmp_lt X.1 X.2.1 hd ht (fun h => ?_) (fun h => ?_)
  · rw [if_pos (Int32.lt_iff_toInt_lt.mp h)] at hk
    exact hk.use hM hl hS2 hF
  · rw [if_neg (fun h2 => h (Int32.lt_iff_toInt_lt.mpr h2))] at hk
    exact hk.use hM hl hS2 hF
theorem js_o_if_lt (X : js_X p s m args meth c D k) (hM : jr_M s0 b n xs D s L g H) (hl : js_L s0 b L (jv_ml k) LS ls) (hF : js_F s0 s H locs) {x : Int} (hS : js_S s0 b L ST (jv_I x :: st)) {off : Int} {t : Nat} (ht : (pc : Int) + off = (t : Int)) (hd : decode (jm_c k) pc = .ok (.ifCond .lt off, 3)) (hk : js_KG p l e R s m args below meth c cells slots Q s0 b n xs D k L (if x < 0 then (t, ls, st, L, g) else (pc + 3, ls, st, L, g))) : W p l e R s m args below meth c H locs cells slots Q (F0 m pc LS ST) := by
  obtain ⟨wx, vs, rfl, rfl, hS2⟩ := hS.cI
  have h0 : (0 : Int32).toInt = 0 := rfl
  refine lv_if_lt X.1 X.2.1 hd ht (fun h => ?_) (fun h => ?_)
  · rw [if_pos (by have := Int32.lt_iff_toInt_lt.mp h; rw [h0] at this; exact this)] at hk
    exact hk.use hM hl hS2 hF
  · rw [if_neg (fun h2 => h (Int32.lt_iff_toInt_lt.mpr (by rw [h0]; exact h2)))] at hk
    exact hk.use hM hl hS2 hF
theorem js_o_icmp_ge (X : js_X p s m args meth c D k) (hM : jr_M s0 b n xs D s L g H) (hl : js_L s0 b L (jv_ml k) LS ls) (hF : js_F s0 s H locs) {x y : Int} (hS : js_S s0 b L ST (jv_I y :: jv_I x :: st)) {off : Int} {t : Nat} (ht : (pc : Int) + off = (t : Int)) (hd : decode (jm_c k) pc = .ok (.if_icmp .ge off, 3)) (hk : js_KG p l e R s m args below meth c cells slots Q s0 b n xs D k L (if y ≤ x then (t, ls, st, L, g) else (pc + 3, ls, st, L, g))) : W p l e R s m args below meth c H locs cells slots Q (F0 m pc LS ST) := by
  obtain ⟨wy, vs1, rfl, rfl, hS1⟩ := hS.cI
  obtain ⟨wx, vs, rfl, rfl, hS2⟩ := hS1.cI
  refine lv_icmp_ge X.1 X.2.1 hd ht (fun h => ?_) (fun h => ?_)
  · rw [if_pos (Int32.le_iff_toInt_le.mp h)] at hk
    exact hk.use hM hl hS2 hF
  · rw [if_neg (fun h2 => h (Int32.le_iff_toInt_le.mpr h2))] at hk
    exact hk.use hM hl hS2 hF
theorem js_o_if_ge (X : js_X p s m args meth c D k) (hM : jr_M s0 b n xs D s L g H) (hl : js_L s0 b L (jv_ml k) LS ls) (hF : js_F s0 s H locs) {x : Int} (hS : js_S s0 b L ST (jv_I x :: st)) {off : Int} {t : Nat} (ht : (pc : Int) + off = (t : Int)) (hd : decode (jm_c k) pc = .ok (.ifCond .ge off, 3)) (hk : js_KG p l e R s m args below meth c cells slots Q s0 b n xs D k L (if 0 ≤ x then (t, ls, st, L, g) else (pc + 3, ls, st, L, g))) : W p l e R s m args below meth c H locs cells slots Q (F0 m pc LS ST) := by
  obtain ⟨wx, vs, rfl, rfl, hS2⟩ := hS.cI
  have h0 : (0 : Int32).toInt = 0 := rfl
  refine lv_if_ge X.1 X.2.1 hd ht (fun h => ?_) (fun h => ?_)
  · rw [if_pos (by have := Int32.le_iff_toInt_le.mp h; rw [h0] at this; exact this)] at hk
    exact hk.use hM hl hS2 hF
  · rw [if_neg (fun h2 => h (Int32.le_iff_toInt_le.mpr (by rw [h0]; exact h2)))] at hk
    exact hk.use hM hl hS2 hF
theorem js_o_icmp_gt (X : js_X p s m args meth c D k) (hM : jr_M s0 b n xs D s L g H) (hl : js_L s0 b L (jv_ml k) LS ls) (hF : js_F s0 s H locs) {x y : Int} (hS : js_S s0 b L ST (jv_I y :: jv_I x :: st)) {off : Int} {t : Nat} (ht : (pc : Int) + off = (t : Int)) (hd : decode (jm_c k) pc = .ok (.if_icmp .gt off, 3)) (hk : js_KG p l e R s m args below meth c cells slots Q s0 b n xs D k L (if y < x then (t, ls, st, L, g) else (pc + 3, ls, st, L, g))) : W p l e R s m args below meth c H locs cells slots Q (F0 m pc LS ST) := by
  obtain ⟨wy, vs1, rfl, rfl, hS1⟩ := hS.cI
  obtain ⟨wx, vs, rfl, rfl, hS2⟩ := hS1.cI
  refine lv_icmp_gt X.1 X.2.1 hd ht (fun h => ?_) (fun h => ?_)
  · rw [if_pos (Int32.lt_iff_toInt_lt.mp h)] at hk
    exact hk.use hM hl hS2 hF
  · rw [if_neg (fun h2 => h (Int32.lt_iff_toInt_lt.mpr h2))] at hk
    exact hk.use hM hl hS2 hF
theorem js_o_if_gt (X : js_X p s m args meth c D k) (hM : jr_M s0 b n xs D s L g H) (hl : js_L s0 b L (jv_ml k) LS ls) (hF : js_F s0 s H locs) {x : Int} (hS : js_S s0 b L ST (jv_I x :: st)) {off : Int} {t : Nat} (ht : (pc : Int) + off = (t : Int)) (hd : decode (jm_c k) pc = .ok (.ifCond .gt off, 3)) (hk : js_KG p l e R s m args below meth c cells slots Q s0 b n xs D k L (if 0 < x then (t, ls, st, L, g) else (pc + 3, ls, st, L, g))) : W p l e R s m args below meth c H locs cells slots Q (F0 m pc LS ST) := by
  obtain ⟨wx, vs, rfl, rfl, hS2⟩ := hS.cI
  have h0 : (0 : Int32).toInt = 0 := rfl
  refine lv_if_gt X.1 X.2.1 hd ht (fun h => ?_) (fun h => ?_)
  · rw [if_pos (by have := Int32.lt_iff_toInt_lt.mp h; rw [h0] at this; exact this)] at hk
    exact hk.use hM hl hS2 hF
  · rw [if_neg (fun h2 => h (Int32.lt_iff_toInt_lt.mpr (by rw [h0]; exact h2)))] at hk
    exact hk.use hM hl hS2 hF
theorem js_o_icmp_le (X : js_X p s m args meth c D k) (hM : jr_M s0 b n xs D s L g H) (hl : js_L s0 b L (jv_ml k) LS ls) (hF : js_F s0 s H locs) {x y : Int} (hS : js_S s0 b L ST (jv_I y :: jv_I x :: st)) {off : Int} {t : Nat} (ht : (pc : Int) + off = (t : Int)) (hd : decode (jm_c k) pc = .ok (.if_icmp .le off, 3)) (hk : js_KG p l e R s m args below meth c cells slots Q s0 b n xs D k L (if x ≤ y then (t, ls, st, L, g) else (pc + 3, ls, st, L, g))) : W p l e R s m args below meth c H locs cells slots Q (F0 m pc LS ST) := by
  obtain ⟨wy, vs1, rfl, rfl, hS1⟩ := hS.cI
  obtain ⟨wx, vs, rfl, rfl, hS2⟩ := hS1.cI
  refine lv_icmp_le X.1 X.2.1 hd ht (fun h => ?_) (fun h => ?_)
  · rw [if_pos (Int32.le_iff_toInt_le.mp h)] at hk
    exact hk.use hM hl hS2 hF
  · rw [if_neg (fun h2 => h (Int32.le_iff_toInt_le.mpr h2))] at hk
    exact hk.use hM hl hS2 hF
theorem js_o_if_le (X : js_X p s m args meth c D k) (hM : jr_M s0 b n xs D s L g H) (hl : js_L s0 b L (jv_ml k) LS ls) (hF : js_F s0 s H locs) {x : Int} (hS : js_S s0 b L ST (jv_I x :: st)) {off : Int} {t : Nat} (ht : (pc : Int) + off = (t : Int)) (hd : decode (jm_c k) pc = .ok (.ifCond .le off, 3)) (hk : js_KG p l e R s m args below meth c cells slots Q s0 b n xs D k L (if x ≤ 0 then (t, ls, st, L, g) else (pc + 3, ls, st, L, g))) : W p l e R s m args below meth c H locs cells slots Q (F0 m pc LS ST) := by
  obtain ⟨wx, vs, rfl, rfl, hS2⟩ := hS.cI
  have h0 : (0 : Int32).toInt = 0 := rfl
  refine lv_if_le X.1 X.2.1 hd ht (fun h => ?_) (fun h => ?_)
  · rw [if_pos (by have := Int32.le_iff_toInt_le.mp h; rw [h0] at this; exact this)] at hk
    exact hk.use hM hl hS2 hF
  · rw [if_neg (fun h2 => h (Int32.le_iff_toInt_le.mpr (by rw [h0]; exact h2)))] at hk
    exact hk.use hM hl hS2 hF
theorem js_o_ifnull (X : js_X p s m args meth c D k) (hM : jr_M s0 b n xs D s L g H) (hl : js_L s0 b L (jv_ml k) LS ls) (hF : js_F s0 s H locs) {q : Int} (hS : js_S s0 b L ST (jv_D q :: st)) {off : Int} {t : Nat} (ht : (pc : Int) + off = (t : Int)) (hd : decode (jm_c k) pc = .ok (.ifnull off, 3)) (hk : js_KG p l e R s m args below meth c cells slots Q s0 b n xs D k L (if q = 0 then (t, ls, st, L, g) else (pc + 3, ls, st, L, g))) : W p l e R s m args below meth c H locs cells slots Q (F0 m pc LS ST) := by
  obtain ⟨v, vs, rfl, -, hv, hS2⟩ := hS.cons
  rcases hv with ⟨h0, rfl⟩ | ⟨h0, -, rfl⟩
  · rw [if_pos h0] at hk
    exact lv_ifnullN X.1 X.2.1 hd ht (hk.use hM hl hS2 hF)
  · rw [if_neg (by omega)] at hk
    exact lv_ifnull X.1 X.2.1 hd (hk.use hM hl hS2 hF)
theorem js_o_ifnonnull (X : js_X p s m args meth c D k) (hM : jr_M s0 b n xs D s L g H) (hl : js_L s0 b L (jv_ml k) LS ls) (hF : js_F s0 s H locs) {q : Int} (hS : js_S s0 b L ST (jv_D q :: st)) {off : Int} {t : Nat} (ht : (pc : Int) + off = (t : Int)) (hd : decode (jm_c k) pc = .ok (.ifnonnull off, 3)) (hk : js_KG p l e R s m args below meth c cells slots Q s0 b n xs D k L (if q = 0 then (pc + 3, ls, st, L, g) else (t, ls, st, L, g))) : W p l e R s m args below meth c H locs cells slots Q (F0 m pc LS ST) := by
  obtain ⟨v, vs, rfl, -, hv, hS2⟩ := hS.cons
  rcases hv with ⟨h0, rfl⟩ | ⟨h0, -, rfl⟩
  · rw [if_pos h0] at hk
    exact lv_ifnonnullN X.1 X.2.1 hd (hk.use hM hl hS2 hF)
  · rw [if_neg (by omega)] at hk
    exact lv_ifnonnull X.1 X.2.1 hd ht (hk.use hM hl hS2 hF)
/-- the cell of a place -/
theorem jr_M.at' (hM : jr_M s0 b n xs D s L g H) {q : Nat} {d : Nat × Nat × List Nat} (hq : L[q]? = some d) (h5 : d.1 ≠ 5) : ∃ q', q = q' + 1 ∧ jr_C s0 b D s L g q d H := by
  cases q with
  | zero =>
    rw [hM.1] at hq
    cases hq
    exact absurd rfl h5
  | succ q => exact ⟨q, rfl, hM.2.2.2.2.2.2.2.2 q d hq⟩
/-- a field is read -/
theorem js_get (X : js_X p s m args meth c D k) (hC : js_Cl) (hM : jr_M s0 b n xs D s L g H) {q x kd f ty nn : Nat} {rs : List Nat} (hq : L[q]? = some (kd, nn, rs)) (hfl : js_fl k x kd f ty) (hd : decode (jm_c k) pc = .ok (.getfield x, 3)) {rest : List Value}
    (kk : f < nn → ∀ v, jr_V s0 b L (jr_ct g q (kd, nn, rs) f) v → W p l e R s m args below meth c H locs cells slots Q (F0 m (pc + 3) LS (v :: rest))) : W p l e R s m args below meth c H locs cells slots Q (F0 m pc LS (.ref (jr_ad s0 b q) :: rest)) := by
  obtain ⟨hk10, C, T, N, hc, hf, hlink, hown, hty⟩ := hfl
  obtain ⟨q', -, cell, c1, c2, c3⟩ := hM.at' hq (by show kd ≠ 5; omega)
  have hN : N = nn := by
    rcases c2.2 with hh | ⟨-, -, r, r1, r2⟩
    · have := hh.1
      dsimp only at this
      omega
    · dsimp only at r1 r2
      have := r1.symm.trans hc
      cases this
      exact r2
  subst hN
  obtain ⟨v, v1, v2⟩ := c3 f hf
  obtain ⟨hin, hnm, ty0, hty0, -⟩ := hC.1 _ _ _ _ hc
  obtain ⟨hS, hfc, kC, hkC, hkind⟩ := X.2.2.2.2.2.2.2.2.2.1 _ _ hc
  obtain ⟨cf, kf, fi, fd, hi, hsl⟩ := hS f hf
  have hts := X.2.2.2.2.2.1
  refine W.getf X.1 X.2.1 X.2.2.2.2.1 (hts _ hlink) (by rw [← hown]; exact hi) (u_facts hfc hkC (u_lays hts hin hf) hi).1 c1 (by rw [c2.1]; exact fun h => by cases h) (v := v) ?_ rfl rfl hd (kk hf v v2)
  rw [hsl]
  have : jr_si D kd f = D.2 (kd - 10) f := by unfold jr_si; rw [if_neg (by omega)]
  rw [← this]
  exact v1
theorem jr_ct_1000' {g : jv_S} {q f : Nat} (hf : f < 8) : jr_ct g q (11, 8, []) f = jv_I (g 1000 (8 * (Int.ofNat q + 1) + Int.ofNat f)) := by
  have : jr_tg (11, 8, []) f = 0 := by
    rcases (show f = 0 ∨ f = 1 ∨ f = 2 ∨ f = 3 ∨ f = 4 ∨ f = 5 ∨ f = 6 ∨ f = 7 by omega) with rfl | rfl | rfl | rfl | rfl | rfl | rfl | rfl <;> rfl
  unfold jr_ct
  rw [this]
  rfl
theorem jr_ct_1000 (hM : jr_M s0 b n xs D s L g H) {q f : Nat} (hf : f < 8) : jr_ct g q (11, 8, []) f = jv_I (g 1000 (8 * (Int.ofNat q + 1) + Int.ofNat f)) := jr_ct_1000' hf
theorem jr_ct_obj {q kd nn f : Nat} {rs : List Nat} (hk : 10 ≤ kd) (h11 : kd ≠ 11) (hf : jv_ft (kd - 10) f ≠ 2) : jr_ct g q (kd, nn, rs) f = jv_I (g q (Int.ofNat f)) ∧ jr_tg (kd, nn, rs) f = 0 ∧ jr_lo q (kd, nn, rs) f = (q, Int.ofNat f) := by
  have h1 : jr_tg (kd, nn, rs) f = 0 := by
    obtain ⟨z, rfl⟩ : ∃ z, kd = z + 6 := ⟨kd - 6, by omega⟩
    show (if jv_ft (z + 6 - 10) f = 2 then 3 else 0) = 0
    rw [if_neg hf]
  have h2 : jr_lo q (kd, nn, rs) f = (q, Int.ofNat f) := by
    unfold jr_lo
    split
    · next e => have := congrArg Prod.fst e; dsimp only at this; omega
    · next e => have := congrArg Prod.fst e; dsimp only at this; omega
    · rfl
  refine ⟨?_, h1, h2⟩
  unfold jr_ct
  rw [h1, h2]
  rfl
theorem jr_ct_ref {q kd nn f v : Nat} {rs : List Nat} (hk : 10 ≤ kd) (hf : jv_ft (kd - 10) f = 2) (hr : rs[f]? = some (v + 1)) : jr_ct g q (kd, nn, rs) f = jv_P (v + 1) := by
  obtain ⟨z, rfl⟩ : ∃ z, kd = z + 6 := ⟨kd - 6, by omega⟩
  have h1 : jr_tg (z + 6, nn, rs) f = 3 := by
    show (if jv_ft (z + 6 - 10) f = 2 then 3 else 0) = 3
    rw [if_pos hf]
  unfold jr_ct
  rw [h1]
  dsimp only
  rw [show rs.getD f 0 = v + 1 by simp [List.getD, hr]]
  rfl
/-- a field is written -/
theorem js_put (X : js_X p s m args meth c D k) (hC : js_Cl) (hM : jr_M s0 b n xs D s L g H) {q x kd f ty nn : Nat} {rs : List Nat} (hq : L[q]? = some (kd, nn, rs)) (hfl : js_fl k x kd f ty) (hfin : ∀ (C : String) (T : u_T) (N : Nat), vwCl[kd - 10]? = some (C, T, N) → (T f).2.2.2 = true → ((jm_y k).name = "<init>" ∧ jm_own k = C)) (hd : decode (jm_c k) pc = .ok (.putfield x, 3)) {rest : List Value} {v : Value}
    (hv : (ty = 0 ∧ ∃ w, v = .int w) ∨ (ty = 1 ∧ (v = .int 0 ∨ v = .int 1)) ∨ (ty = 2 ∧ ∃ a, v = .ref a))
    (kk : ∀ (H' : Heap) (cell : Cell), f < nn → 10 ≤ kd → jv_ft (kd - 10) f = ty → H[jr_ad s0 b q]? = some cell → (∀ j, j < nn → j ≠ f → jr_si D kd j ≠ jr_si D kd f) → H'[jr_ad s0 b q]? = some (cell.setSlot (jr_si D kd f) v) → H'.size = H.size → (∀ z, z ≠ jr_ad s0 b q → H'[z]? = H[z]?) → W p l e R s m args below meth c H' (locs ++ [⟨jr_ad s0 b q, jr_si D kd f⟩]) cells slots Q (F0 m (pc + 3) LS rest)) : W p l e R s m args below meth c H locs cells slots Q (F0 m pc LS (v :: .ref (jr_ad s0 b q) :: rest)) := by
  obtain ⟨hk10, C, T, N, hc, hf, hlink, hown, hty⟩ := hfl
  obtain ⟨q', -, cell, c1, c2, c3⟩ := hM.at' hq (by show kd ≠ 5; omega)
  have hcls : cell.cls = D.1 (kd - 10) ∧ N = nn := by
    rcases c2.2 with hh | ⟨-, h2, r, r1, r2⟩
    · have := hh.1
      dsimp only at this
      omega
    · dsimp only at r1 r2
      have := r1.symm.trans hc
      cases this
      exact ⟨h2, r2⟩
  obtain ⟨hcls, rfl⟩ := hcls
  obtain ⟨w, v1, v2⟩ := c3 f hf
  obtain ⟨hin, hnm, ty0, hty0, htys⟩ := hC.1 _ _ _ _ hc
  obtain ⟨hS, hfc, kC, hkC, hkind⟩ := X.2.2.2.2.2.2.2.2.2.1 _ _ hc
  obtain ⟨cf, kf, fi, fd, hi, hsl⟩ := hS f hf
  have hts := X.2.2.2.2.2.1
  have hsi : ∀ j, jr_si D kd j = D.2 (kd - 10) j := fun j => by unfold jr_si; rw [if_neg (by omega)]
  have hap := va_apart (own := jm_own k) (D := D) (tys := []) hts hin ty0 hty0 hnm X.2.2.2.2.2.2.2.2.2 hc
  have hnf : narrow (ty0 f) v = v ∧ fits (ty0 f) v = true := by
    rcases htys f hf with ⟨t0, t1⟩ | ⟨t0, t1⟩ | ⟨t0, t1⟩
    · rw [t1]
      rcases hv with ⟨-, w, rfl⟩ | ⟨h, -⟩ | ⟨h, -⟩
      · exact ⟨rfl, rfl⟩
      · omega
      · omega
    · rw [t1]
      rcases hv with ⟨h, -⟩ | ⟨-, rfl | rfl⟩ | ⟨h, -⟩
      · omega
      · exact ⟨by decide, by decide⟩
      · exact ⟨by decide, by decide⟩
      · omega
    · rcases hv with ⟨h, -⟩ | ⟨h, -⟩ | ⟨-, a, rfl⟩
      · omega
      · omega
      · rcases t1 with ⟨C', t1⟩ | ⟨t', t1⟩ <;> rw [t1] <;> exact ⟨rfl, rfl⟩
  have hlt : fd.slot < cell.slots.size := by
    rw [hsl, ← hsi f]
    exact (Array.getElem?_eq_some_iff.mp v1).1
  have hst := (u_facts hfc hkC (u_lays hts hin hf) hi).1
  have hkk : ∀ H' : Heap, H'[jr_ad s0 b q]? = some (cell.setSlot fd.slot v) → H'.size = H.size → (∀ z, z ≠ jr_ad s0 b q → H'[z]? = H[z]?) → W p l e R s m args below meth c H' (locs ++ [⟨jr_ad s0 b q, fd.slot⟩]) cells slots Q (F0 m (pc + 3) LS rest) := by
    intro H' e1 e2 e3
    rw [hsl, ← hsi f] at e1 ⊢
    exact kk H' cell hf hk10 hty c1 (fun j hj hne => by rw [hsi, hsi]; exact hap j f hj hf hne) e1 e2 e3
  have hlay := hts _ (hin _ (u_in_lay hf))
  unfold u_lay at hlay
  by_cases hff : (T f).2.2.2 = true
  · obtain ⟨hname, hownC⟩ := hfin _ _ _ hc hff
    rw [if_pos hff] at hlay
    have hcf : m.cls = cf := by
      obtain ⟨_, _, c', _, _, _, -, -, hf', -, -, -, hown2, -⟩ := Cond.laysFinal_spec hlay
      have e1 : c' = cf := by have := hi.symm.trans hf'; simp at this; exact this.1.symm
      rw [hown, ← hownC] at hown2
      rw [← e1]; exact Option.some.inj (X.2.2.2.2.1.symm.trans hown2)
    have h6 := u_fits hfc hkC hkind (Or.inr hlay) hi (hty0 f hf) hnf.1 hnf.2
    exact W.putFinK X.1 X.2.1 X.2.2.2.2.1 (hts _ hlink) (by rw [← hown]; exact hi) hst hcf (X.2.2.2.2.2.2.2.1 hname) (by rw [hcls]; exact h6) c1 c2.1 hlt rfl rfl hd hkk
  · rw [if_neg hff] at hlay
    have h6 := u_store hfc hkC hkind hlay hi (hty0 f hf) hnf.1 hnf.2
    exact W.putK X.1 X.2.1 (f := fd) ⟨X.2.2.2.2.1, hts _ hlink, ⟨_, _, _, by rw [← hown]; exact hi⟩, hst⟩ (by rw [hcls]; exact h6) c1 c2.1 hlt rfl rfl hd hkk
theorem js_F.add (hF : js_F s0 s H locs) {H' : Heap} {a i : Nat} (ha : s0 ≤ a) (e2 : H'.size = H.size) (e3 : ∀ z, z ≠ a → H'[z]? = H[z]?) : js_F s0 s H' (locs ++ [⟨a, i⟩]) := by
  refine ⟨by rw [e2]; exact hF.1, fun q hq => by rw [e3 q (by omega)]; exact hF.2.1 q hq, fun x hx => ?_⟩
  rcases List.mem_append.mp hx with h | h
  · exact hF.2.2 x h
  · rw [List.mem_singleton.mp h]
    exact ha
end
