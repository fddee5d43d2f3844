/-! ===== single instructions ===== -/
def js_X (p : Program) (s : State) (m : MethodId) (args : Array Value) (meth : Method) (c : Code) (D : va_G) (k : Nat) : Prop := p.tables.exec = Jvm.exec ∧ c.code = jm_c k ∧ meth.sig.returnType = jm_ret k ∧ c.maxLocals = jv_ml k ∧ s.vm.findClass (jm_own k) = some m.cls ∧ (∀ w ∈ jm_ws, w.before args s = true) ∧ meth.locks = false ∧ ((jm_y k).name = "<init>" → meth.name = "<init>") ∧ js_N s ∧ va_K D vwCl [] s
def js_KG (p : Program) (l : Launch) (e : Env) (R : Room) (s : State) (m : MethodId) (args : Array Value) (below : List Frame) (meth : Method) (c : Code) (cells slots : Nat) (Q : State → Prop) (s0 b n : Nat) (xs : Nat → Int32) (D : va_G) (k : Nat) (L : jv_L) (q : jv_Go) : Prop :=
  ∀ (H' : Heap) (locs' : List Loc) (LS' : Array Slot) (ST' : List Value), jr_M s0 b n xs D s q.2.2.2.1 q.2.2.2.2 H' → jr_le L q.2.2.2.1 → js_L s0 b q.2.2.2.1 (jv_ml k) LS' q.2.1 → js_S s0 b q.2.2.2.1 ST' q.2.2.1 → js_F s0 s H' locs' →
    W p l e R s m args below meth c H' locs' (cells + (q.2.2.2.1.length - L.length)) (slots + (js_sz q.2.2.2.1 - js_sz L)) Q (F0 m q.1 LS' ST')
theorem js_S.cons {s0 b : Nat} {L : jv_L} {ST : List Value} {a : jv_V} {as : List jv_V} (h : js_S s0 b L ST (a :: as)) : ∃ v vs, ST = v :: vs ∧ a ≠ jv_U ∧ jr_V s0 b L a v ∧ js_S s0 b L vs as := by
  cases ST with
  | nil => exact h.elim
  | cons v vs => exact ⟨v, vs, rfl, h⟩
theorem js_S.cI {s0 b : Nat} {L : jv_L} {ST : List Value} {x : Int} {as : List jv_V} (h : js_S s0 b L ST (jv_I x :: as)) : ∃ (w : Int32) (vs : List Value), ST = .int w :: vs ∧ w.toInt = x ∧ js_S s0 b L vs as := by
  obtain ⟨v, vs, rfl, -, ⟨w, rfl, hw⟩, hs⟩ := h.cons
  exact ⟨w, vs, rfl, hw, hs⟩
theorem js_S.cJ {s0 b : Nat} {L : jv_L} {ST : List Value} {x : Int} {as : List jv_V} (h : js_S s0 b L ST (jv_J x :: as)) : ∃ (w : Int64) (vs : List Value), ST = .long w :: vs ∧ w.toInt = x ∧ js_S s0 b L vs as := by
  obtain ⟨v, vs, rfl, -, ⟨w, rfl, hw⟩, hs⟩ := h.cons
  exact ⟨w, vs, rfl, hw, hs⟩
theorem js_S.pI {s0 b : Nat} {L : jv_L} {vs : List Value} {as : List jv_V} (h : js_S s0 b L vs as) {w : Int32} {x : Int} (hw : w.toInt = x) : js_S s0 b L (.int w :: vs) (jv_I x :: as) := ⟨by simp, ⟨w, rfl, hw⟩, h⟩
theorem js_S.pJ {s0 b : Nat} {L : jv_L} {vs : List Value} {as : List jv_V} (h : js_S s0 b L vs as) {w : Int64} {x : Int} (hw : w.toInt = x) : js_S s0 b L (.long w :: vs) (jv_J x :: as) := ⟨by simp, ⟨w, rfl, hw⟩, h⟩
section
variable {p : Program} {l : Launch} {e : Env} {R : Room} {s : State} {m : MethodId} {args : Array Value} {below : List Frame} {meth : Method} {c : Code} {H : Heap} {locs : List Loc} {cells slots : Nat} {Q : State → Prop}
variable {s0 b n : Nat} {xs : Nat → Int32} {D : va_G} {k : Nat} {L : jv_L} {g g' : jv_S} {LS : Array Slot} {ST : List Value} {ls st ls' st' : List jv_V} {pc pc' : Nat}
theorem js_KG.use (hk : js_KG p l e R s m args below meth c cells slots Q s0 b n xs D k L (pc', ls', st', L, g')) (hM : jr_M s0 b n xs D s L g' H) (hl : js_L s0 b L (jv_ml k) LS ls') (hs : js_S s0 b L ST st') (hF : js_F s0 s H locs) : W p l e R s m args below meth c H locs cells slots Q (F0 m pc' LS ST) := by
  have := hk H locs LS ST hM jr_le.rf hl hs hF
  simpa using this
theorem js_o_iconst (X : js_X p s m args meth c D k) (hM : jr_M s0 b n xs D s L g H) (hl : js_L s0 b L (jv_ml k) LS ls) (hF : js_F s0 s H locs) (hS : js_S s0 b L ST st) {a : Int} {z : Int} (hd : decode (jm_c k) pc = .ok (.iconst a, 1)) (hz : (Int32.ofInt a).toInt = z) (hk : js_KG p l e R s m args below meth c cells slots Q s0 b n xs D k L (pc + 1, ls, jv_I z :: st, L, g)) : W p l e R s m args below meth c H locs cells slots Q (F0 m pc LS ST) := by
  exact lv_iconst X.1 X.2.1 hd rfl (hk.use hM hl (hS.pI hz) hF)
theorem js_o_bipush (X : js_X p s m args meth c D k) (hM : jr_M s0 b n xs D s L g H) (hl : js_L s0 b L (jv_ml k) LS ls) (hF : js_F s0 s H locs) (hS : js_S s0 b L ST st) {a : Int} {z : Int} (hd : decode (jm_c k) pc = .ok (.bipush a, 2)) (hz : (Int8.ofInt a).toInt32.toInt = z) (hk : js_KG p l e R s m args below meth c cells slots Q s0 b n xs D k L (pc + 2, ls, jv_I z :: st, L, g)) : W p l e R s m args below meth c H locs cells slots Q (F0 m pc LS ST) := by
  exact lv_bipush X.1 X.2.1 hd rfl (hk.use hM hl (hS.pI hz) hF)
theorem js_o_sipush (X : js_X p s m args meth c D k) (hM : jr_M s0 b n xs D s L g H) (hl : js_L s0 b L (jv_ml k) LS ls) (hF : js_F s0 s H locs) (hS : js_S s0 b L ST st) {a : Int} {z : Int} (hd : decode (jm_c k) pc = .ok (.sipush a, 3)) (hz : (Int16.ofInt a).toInt32.toInt = z) (hk : js_KG p l e R s m args below meth c cells slots Q s0 b n xs D k L (pc + 3, ls, jv_I z :: st, L, g)) : W p l e R s m args below meth c H locs cells slots Q (F0 m pc LS ST) := by
  exact lv_sipush X.1 X.2.1 hd rfl (hk.use hM hl (hS.pI hz) hF)
theorem js_o_lconst (X : js_X p s m args meth c D k) (hM : jr_M s0 b n xs D s L g H) (hl : js_L s0 b L (jv_ml k) LS ls) (hF : js_F s0 s H locs) (hS : js_S s0 b L ST st) {a : Fin 2} {z : Int} (hd : decode (jm_c k) pc = .ok (.lconst a, 1)) (hz : (Int64.ofNat a.val).toInt = z) (hk : js_KG p l e R s m args below meth c cells slots Q s0 b n xs D k L (pc + 1, ls, jv_J z :: st, L, g)) : W p l e R s m args below meth c H locs cells slots Q (F0 m pc LS ST) := by
  exact lv_lconst X.1 X.2.1 hd rfl (hk.use hM hl (hS.pJ hz) hF)
theorem js_o_ldcw (X : js_X p s m args meth c D k) (hM : jr_M s0 b n xs D s L g H) (hl : js_L s0 b L (jv_ml k) LS ls) (hF : js_F s0 s H locs) (hS : js_S s0 b L ST st) {x : Nat} {z : Int} (hd : decode (jm_c k) pc = .ok (.ldc_w x, 3)) (hz : ∃ v : Int32, Cond.constant (jm_own k) x v ∈ jm_ws ∧ v.toInt = z) (hk : js_KG p l e R s m args below meth c cells slots Q s0 b n xs D k L (pc + 3, ls, jv_I z :: st, L, g)) : W p l e R s m args below meth c H locs cells slots Q (F0 m pc LS ST) := by
  obtain ⟨v, h1, h2⟩ := hz
  exact lv_ldcw X.1 X.2.1 X.2.2.2.2.1 (X.2.2.2.2.2.1 _ h1) hd (hk.use hM hl (hS.pI h2) hF)
theorem js_o_ldc2 (X : js_X p s m args meth c D k) (hM : jr_M s0 b n xs D s L g H) (hl : js_L s0 b L (jv_ml k) LS ls) (hF : js_F s0 s H locs) (hS : js_S s0 b L ST st) {x : Nat} {z : Int} (hd : decode (jm_c k) pc = .ok (.ldc2_w x, 3)) (hz : ∃ v : Int64, Cond.constantLong (jm_own k) x v ∈ jm_ws ∧ v.toInt = z) (hk : js_KG p l e R s m args below meth c cells slots Q s0 b n xs D k L (pc + 3, ls, jv_J z :: st, L, g)) : W p l e R s m args below meth c H locs cells slots Q (F0 m pc LS ST) := by
  obtain ⟨v, h1, h2⟩ := hz
  exact lv_ldc2 X.1 X.2.1 X.2.2.2.2.1 (X.2.2.2.2.2.1 _ h1) hd (hk.use hM hl (hS.pJ h2) hF)
theorem js_o_null (X : js_X p s m args meth c D k) (hM : jr_M s0 b n xs D s L g H) (hl : js_L s0 b L (jv_ml k) LS ls) (hF : js_F s0 s H locs) (hS : js_S s0 b L ST st) (hd : decode (jm_c k) pc = .ok (.aconst_null, 1)) (hk : js_KG p l e R s m args below meth c cells slots Q s0 b n xs D k L (pc + 1, ls, jv_D 0 :: st, L, g)) : W p l e R s m args below meth c H locs cells slots Q (F0 m pc LS ST) := by
  exact lv_null X.1 X.2.1 hd (hk.use hM hl ⟨by simp, Or.inl ⟨rfl, rfl⟩, hS⟩ hF)
theorem js_o_iload_n (X : js_X p s m args meth c D k) (hM : jr_M s0 b n xs D s L g H) (hl : js_L s0 b L (jv_ml k) LS ls) (hF : js_F s0 s H locs) (hS : js_S s0 b L ST st) {i : Fin 4} {x : Int} (hi : ls[i.val]? = some (jv_I x)) (hd : decode (jm_c k) pc = .ok (.iload_n i, 1)) (hk : js_KG p l e R s m args below meth c cells slots Q s0 b n xs D k L (pc + 1, ls, jv_I x :: st, L, g)) : W p l e R s m args below meth c H locs cells slots Q (F0 m pc LS ST) := by
  obtain ⟨v, h1, w, rfl, h2⟩ := hl.2.2.2 _ _ hi (by simp) (fun h => by obtain ⟨x, hx⟩ := h; cases hx)
  exact lv_iload_n X.1 X.2.1 hd rfl h1 (hk.use hM hl (hS.pI h2) hF)
theorem js_o_iload (X : js_X p s m args meth c D k) (hM : jr_M s0 b n xs D s L g H) (hl : js_L s0 b L (jv_ml k) LS ls) (hF : js_F s0 s H locs) (hS : js_S s0 b L ST st) {i : Nat} {x : Int} (hi : ls[i]? = some (jv_I x)) (hd : decode (jm_c k) pc = .ok (.iload i, 2)) (hk : js_KG p l e R s m args below meth c cells slots Q s0 b n xs D k L (pc + 2, ls, jv_I x :: st, L, g)) : W p l e R s m args below meth c H locs cells slots Q (F0 m pc LS ST) := by
  obtain ⟨v, h1, w, rfl, h2⟩ := hl.2.2.2 _ _ hi (by simp) (fun h => by obtain ⟨x, hx⟩ := h; cases hx)
  exact lv_iload X.1 X.2.1 hd h1 (hk.use hM hl (hS.pI h2) hF)
theorem js_o_lload_n (X : js_X p s m args meth c D k) (hM : jr_M s0 b n xs D s L g H) (hl : js_L s0 b L (jv_ml k) LS ls) (hF : js_F s0 s H locs) (hS : js_S s0 b L ST st) {i : Fin 4} {x : Int} (hi : ls[i.val]? = some (jv_J x)) (hj : ls[i.val + 1]? = some jv_U) (hd : decode (jm_c k) pc = .ok (.lload_n i, 1)) (hk : js_KG p l e R s m args below meth c cells slots Q s0 b n xs D k L (pc + 1, ls, jv_J x :: st, L, g)) : W p l e R s m args below meth c H locs cells slots Q (F0 m pc LS ST) := by
  obtain ⟨v, h1, w, rfl, h2⟩ := hl.2.2.2 _ _ hi (by simp) (fun h => hj)
  exact lv_lload_n X.1 X.2.1 hd rfl h1 (hk.use hM hl (hS.pJ h2) hF)
theorem js_o_lload (X : js_X p s m args meth c D k) (hM : jr_M s0 b n xs D s L g H) (hl : js_L s0 b L (jv_ml k) LS ls) (hF : js_F s0 s H locs) (hS : js_S s0 b L ST st) {i : Nat} {x : Int} (hi : ls[i]? = some (jv_J x)) (hj : ls[i + 1]? = some jv_U) (hd : decode (jm_c k) pc = .ok (.lload i, 2)) (hk : js_KG p l e R s m args below meth c cells slots Q s0 b n xs D k L (pc + 2, ls, jv_J x :: st, L, g)) : W p l e R s m args below meth c H locs cells slots Q (F0 m pc LS ST) := by
  obtain ⟨v, h1, w, rfl, h2⟩ := hl.2.2.2 _ _ hi (by simp) (fun h => hj)
  exact lv_lload X.1 X.2.1 hd h1 (hk.use hM hl (hS.pJ h2) hF)
theorem js_o_aload_n (X : js_X p s m args meth c D k) (hM : jr_M s0 b n xs D s L g H) (hl : js_L s0 b L (jv_ml k) LS ls) (hF : js_F s0 s H locs) (hS : js_S s0 b L ST st) {i : Fin 4} {a : jv_V} (hi : ls[i.val]? = some a) (ha : a ≠ jv_U) (h1 : ∀ x, a ≠ jv_I x) (h2 : ∀ x, a ≠ jv_J x) (hd : decode (jm_c k) pc = .ok (.aload_n i, 1)) (hk : js_KG p l e R s m args below meth c cells slots Q s0 b n xs D k L (pc + 1, ls, a :: st, L, g)) : W p l e R s m args below meth c H locs cells slots Q (F0 m pc LS ST) := by
  obtain ⟨v, g1, g2⟩ := hl.2.2.2 _ _ hi ha (fun h => by obtain ⟨x, hx⟩ := h; exact absurd hx (h2 x))
  have hk' := hk.use hM hl (ST := v :: ST) ⟨ha, g2, hS⟩ hF
  have hv : v = .null ∨ ∃ q, v = .ref q := by
    rcases a with i | i | q | ⟨q, i⟩ | q | u
    · exact absurd rfl (h1 i)
    · exact absurd rfl (h2 i)
    · exact Or.inr ⟨_, g2.2⟩
    · obtain ⟨_, _, -, -, -, hv⟩ := g2
      exact Or.inr ⟨_, hv⟩
    · rcases g2 with ⟨-, hv⟩ | ⟨-, -, hv⟩
      · exact Or.inl hv
      · exact Or.inr ⟨_, hv⟩
    · exact absurd rfl ha
  rcases hv with rfl | ⟨q, rfl⟩
  · intro T hT Xs
    obtain ⟨t, a1, b1⟩ := hk' T hT Xs
    refine ⟨t, ?_, b1⟩
    jvm_step Xs.here [Xs.here.top, X.1, X.2.1, hd, g1, Value.isRef]
    exact a1
  · exact lv_aload_n X.1 X.2.1 hd rfl g1 hk'
theorem js_o_aload (X : js_X p s m args meth c D k) (hM : jr_M s0 b n xs D s L g H) (hl : js_L s0 b L (jv_ml k) LS ls) (hF : js_F s0 s H locs) (hS : js_S s0 b L ST st) {i : Nat} {a : jv_V} (hi : ls[i]? = some a) (ha : a ≠ jv_U) (h1 : ∀ x, a ≠ jv_I x) (h2 : ∀ x, a ≠ jv_J x) (hd : decode (jm_c k) pc = .ok (.aload i, 2)) (hk : js_KG p l e R s m args below meth c cells slots Q s0 b n xs D k L (pc + 2, ls, a :: st, L, g)) : W p l e R s m args below meth c H locs cells slots Q (F0 m pc LS ST) := by
  obtain ⟨v, g1, g2⟩ := hl.2.2.2 _ _ hi ha (fun h => by obtain ⟨x, hx⟩ := h; exact absurd hx (h2 x))
  have hk' := hk.use hM hl (ST := v :: ST) ⟨ha, g2, hS⟩ hF
  have hv : v = .null ∨ ∃ q, v = .ref q := by
    rcases a with i | i | q | ⟨q, i⟩ | q | u
    · exact absurd rfl (h1 i)
    · exact absurd rfl (h2 i)
    · exact Or.inr ⟨_, g2.2⟩
    · obtain ⟨_, _, -, -, -, hv⟩ := g2
      exact Or.inr ⟨_, hv⟩
    · rcases g2 with ⟨-, hv⟩ | ⟨-, -, hv⟩
      · exact Or.inl hv
      · exact Or.inr ⟨_, hv⟩
    · exact absurd rfl ha
  rcases hv with rfl | ⟨q, rfl⟩
  · intro T hT Xs
    obtain ⟨t, a1, b1⟩ := hk' T hT Xs
    refine ⟨t, ?_, b1⟩
    jvm_step Xs.here [Xs.here.top, X.1, X.2.1, hd, g1, Value.isRef]
    exact a1
  · exact lv_aload X.1 X.2.1 hd g1 hk'
theorem js_o_iadd (X : js_X p s m args meth c D k) (hM : jr_M s0 b n xs D s L g H) (hl : js_L s0 b L (jv_ml k) LS ls) (hF : js_F s0 s H locs) {x y : Int} (hS : js_S s0 b L ST (jv_I y :: jv_I x :: st)) (hd : decode (jm_c k) pc = .ok (.iadd, 1)) (hk : js_KG p l e R s m args below meth c cells slots Q s0 b n xs D k L (pc + 1, ls, jv_I (jv_w32 (x + y)) :: st, L, g)) : W p l e R s m args below meth c H locs cells slots Q (F0 m pc LS ST) := by
  obtain ⟨wy, vs1, rfl, rfl, hS1⟩ := hS.cI
  obtain ⟨wx, vs, rfl, rfl, hS2⟩ := hS1.cI
  refine lv_iadd X.1 X.2.1 hd (hk.use hM hl (hS2.pI ?_) hF)
  unfold jv_w32
  rw [Int32.ofInt_add, Int32.ofInt_toInt, Int32.ofInt_toInt]
theorem js_o_isub (X : js_X p s m args meth c D k) (hM : jr_M s0 b n xs D s L g H) (hl : js_L s0 b L (jv_ml k) LS ls) (hF : js_F s0 s H locs) {x y : Int} (hS : js_S s0 b L ST (jv_I y :: jv_I x :: st)) (hd : decode (jm_c k) pc = .ok (.isub, 1)) (hk : js_KG p l e R s m args below meth c cells slots Q s0 b n xs D k L (pc + 1, ls, jv_I (jv_w32 (x - y)) :: st, L, g)) : W p l e R s m args below meth c H locs cells slots Q (F0 m pc LS ST) := by
  obtain ⟨wy, vs1, rfl, rfl, hS1⟩ := hS.cI
  obtain ⟨wx, vs, rfl, rfl, hS2⟩ := hS1.cI
  refine lv_isub X.1 X.2.1 hd (hk.use hM hl (hS2.pI ?_) hF)
  unfold jv_w32
  rw [Int32.ofInt_sub, Int32.ofInt_toInt, Int32.ofInt_toInt]
theorem js_o_imul (X : js_X p s m args meth c D k) (hM : jr_M s0 b n xs D s L g H) (hl : js_L s0 b L (jv_ml k) LS ls) (hF : js_F s0 s H locs) {x y : Int} (hS : js_S s0 b L ST (jv_I y :: jv_I x :: st)) (hd : decode (jm_c k) pc = .ok (.imul, 1)) (hk : js_KG p l e R s m args below meth c cells slots Q s0 b n xs D k L (pc + 1, ls, jv_I (jv_w32 (x * y)) :: st, L, g)) : W p l e R s m args below meth c H locs cells slots Q (F0 m pc LS ST) := by
  obtain ⟨wy, vs1, rfl, rfl, hS1⟩ := hS.cI
  obtain ⟨wx, vs, rfl, rfl, hS2⟩ := hS1.cI
  refine lv_imul X.1 X.2.1 hd (hk.use hM hl (hS2.pI ?_) hF)
  unfold jv_w32
  rw [Int32.ofInt_mul, Int32.ofInt_toInt, Int32.ofInt_toInt]
theorem js_o_ladd (X : js_X p s m args meth c D k) (hM : jr_M s0 b n xs D s L g H) (hl : js_L s0 b L (jv_ml k) LS ls) (hF : js_F s0 s H locs) {x y : Int} (hS : js_S s0 b L ST (jv_J y :: jv_J x :: st)) (hd : decode (jm_c k) pc = .ok (.ladd, 1)) (hk : js_KG p l e R s m args below meth c cells slots Q s0 b n xs D k L (pc + 1, ls, jv_J (jv_w64 (x + y)) :: st, L, g)) : W p l e R s m args below meth c H locs cells slots Q (F0 m pc LS ST) := by
  obtain ⟨wy, vs1, rfl, rfl, hS1⟩ := hS.cJ
  obtain ⟨wx, vs, rfl, rfl, hS2⟩ := hS1.cJ
  refine lv_ladd X.1 X.2.1 hd (hk.use hM hl (hS2.pJ ?_) hF)
  unfold jv_w64
  rw [Int64.ofInt_add, Int64.ofInt_toInt, Int64.ofInt_toInt]
theorem js_o_lmul (X : js_X p s m args meth c D k) (hM : jr_M s0 b n xs D s L g H) (hl : js_L s0 b L (jv_ml k) LS ls) (hF : js_F s0 s H locs) {x y : Int} (hS : js_S s0 b L ST (jv_J y :: jv_J x :: st)) (hd : decode (jm_c k) pc = .ok (.lmul, 1)) (hk : js_KG p l e R s m args below meth c cells slots Q s0 b n xs D k L (pc + 1, ls, jv_J (jv_w64 (x * y)) :: st, L, g)) : W p l e R s m args below meth c H locs cells slots Q (F0 m pc LS ST) := by
  obtain ⟨wy, vs1, rfl, rfl, hS1⟩ := hS.cJ
  obtain ⟨wx, vs, rfl, rfl, hS2⟩ := hS1.cJ
  refine lv_lmul X.1 X.2.1 hd (hk.use hM hl (hS2.pJ ?_) hF)
  unfold jv_w64
  rw [Int64.ofInt_mul, Int64.ofInt_toInt, Int64.ofInt_toInt]
theorem js_o_ineg (X : js_X p s m args meth c D k) (hM : jr_M s0 b n xs D s L g H) (hl : js_L s0 b L (jv_ml k) LS ls) (hF : js_F s0 s H locs) {x : Int} (hS : js_S s0 b L ST (jv_I x :: st)) (hd : decode (jm_c k) pc = .ok (.ineg, 1)) (hk : js_KG p l e R s m args below meth c cells slots Q s0 b n xs D k L (pc + 1, ls, jv_I (jv_w32 (- x)) :: st, L, g)) : W p l e R s m args below meth c H locs cells slots Q (F0 m pc LS ST) := by
  obtain ⟨wx, vs, rfl, rfl, hS2⟩ := hS.cI
  refine lv_ineg X.1 X.2.1 hd (hk.use hM hl (hS2.pI ?_) hF)
  unfold jv_w32
  rw [Int32.ofInt_neg, Int32.ofInt_toInt]
theorem js_o_lneg (X : js_X p s m args meth c D k) (hM : jr_M s0 b n xs D s L g H) (hl : js_L s0 b L (jv_ml k) LS ls) (hF : js_F s0 s H locs) {x : Int} (hS : js_S s0 b L ST (jv_J x :: st)) (hd : decode (jm_c k) pc = .ok (.lneg, 1)) (hk : js_KG p l e R s m args below meth c cells slots Q s0 b n xs D k L (pc + 1, ls, jv_J (jv_w64 (- x)) :: st, L, g)) : W p l e R s m args below meth c H locs cells slots Q (F0 m pc LS ST) := by
  obtain ⟨wx, vs, rfl, rfl, hS2⟩ := hS.cJ
  refine lv_lneg X.1 X.2.1 hd (hk.use hM hl (hS2.pJ ?_) hF)
  unfold jv_w64
  rw [Int64.ofInt_neg, Int64.ofInt_toInt]
theorem js_o_iand (X : js_X p s m args meth c D k) (hM : jr_M s0 b n xs D s L g H) (hl : js_L s0 b L (jv_ml k) LS ls) (hF : js_F s0 s H locs) {x y : Int} (hS : js_S s0 b L ST (jv_I y :: jv_I x :: st)) (hd : decode (jm_c k) pc = .ok (.iand, 1)) (hk : js_KG p l e R s m args below meth c cells slots Q s0 b n xs D k L (pc + 1, ls, jv_I (jv_and x y) :: st, L, g)) : W p l e R s m args below meth c H locs cells slots Q (F0 m pc LS ST) := by
  obtain ⟨wy, vs1, rfl, rfl, hS1⟩ := hS.cI
  obtain ⟨wx, vs, rfl, rfl, hS2⟩ := hS1.cI
  refine lv_iand X.1 X.2.1 hd (hk.use hM hl (hS2.pI ?_) hF)
  unfold jv_and
  rw [Int32.ofInt_toInt, Int32.ofInt_toInt]
theorem js_o_ior (X : js_X p s m args meth c D k) (hM : jr_M s0 b n xs D s L g H) (hl : js_L s0 b L (jv_ml k) LS ls) (hF : js_F s0 s H locs) {x y : Int} (hS : js_S s0 b L ST (jv_I y :: jv_I x :: st)) (hd : decode (jm_c k) pc = .ok (.ior, 1)) (hk : js_KG p l e R s m args below meth c cells slots Q s0 b n xs D k L (pc + 1, ls, jv_I (jv_or x y) :: st, L, g)) : W p l e R s m args below meth c H locs cells slots Q (F0 m pc LS ST) := by
  obtain ⟨wy, vs1, rfl, rfl, hS1⟩ := hS.cI
  obtain ⟨wx, vs, rfl, rfl, hS2⟩ := hS1.cI
  refine lv_ior X.1 X.2.1 hd (hk.use hM hl (hS2.pI ?_) hF)
  unfold jv_or
  rw [Int32.ofInt_toInt, Int32.ofInt_toInt]
theorem js_o_ixor (X : js_X p s m args meth c D k) (hM : jr_M s0 b n xs D s L g H) (hl : js_L s0 b L (jv_ml k) LS ls) (hF : js_F s0 s H locs) {x y : Int} (hS : js_S s0 b L ST (jv_I y :: jv_I x :: st)) (hd : decode (jm_c k) pc = .ok (.ixor, 1)) (hk : js_KG p l e R s m args below meth c cells slots Q s0 b n xs D k L (pc + 1, ls, jv_I (jv_xor x y) :: st, L, g)) : W p l e R s m args below meth c H locs cells slots Q (F0 m pc LS ST) := by
  obtain ⟨wy, vs1, rfl, rfl, hS1⟩ := hS.cI
  obtain ⟨wx, vs, rfl, rfl, hS2⟩ := hS1.cI
  refine lv_ixor X.1 X.2.1 hd (hk.use hM hl (hS2.pI ?_) hF)
  unfold jv_xor
  rw [Int32.ofInt_toInt, Int32.ofInt_toInt]
theorem js_o_ishl (X : js_X p s m args meth c D k) (hM : jr_M s0 b n xs D s L g H) (hl : js_L s0 b L (jv_ml k) LS ls) (hF : js_F s0 s H locs) {x y : Int} (hS : js_S s0 b L ST (jv_I y :: jv_I x :: st)) (hd : decode (jm_c k) pc = .ok (.ishl, 1)) (hk : js_KG p l e R s m args below meth c cells slots Q s0 b n xs D k L (pc + 1, ls, jv_I (jv_shl x y) :: st, L, g)) : W p l e R s m args below meth c H locs cells slots Q (F0 m pc LS ST) := by
  obtain ⟨wy, vs1, rfl, rfl, hS1⟩ := hS.cI
  obtain ⟨wx, vs, rfl, rfl, hS2⟩ := hS1.cI
  refine lv_ishl X.1 X.2.1 hd (hk.use hM hl (hS2.pI ?_) hF)
  unfold jv_shl
  rw [Int32.ofInt_toInt, Int32.ofInt_toInt]
theorem js_o_ishr (X : js_X p s m args meth c D k) (hM : jr_M s0 b n xs D s L g H) (hl : js_L s0 b L (jv_ml k) LS ls) (hF : js_F s0 s H locs) {x y : Int} (hS : js_S s0 b L ST (jv_I y :: jv_I x :: st)) (hd : decode (jm_c k) pc = .ok (.ishr, 1)) (hk : js_KG p l e R s m args below meth c cells slots Q s0 b n xs D k L (pc + 1, ls, jv_I (jv_shr x y) :: st, L, g)) : W p l e R s m args below meth c H locs cells slots Q (F0 m pc LS ST) := by
  obtain ⟨wy, vs1, rfl, rfl, hS1⟩ := hS.cI
  obtain ⟨wx, vs, rfl, rfl, hS2⟩ := hS1.cI
  refine lv_ishr X.1 X.2.1 hd (hk.use hM hl (hS2.pI ?_) hF)
  unfold jv_shr
  rw [Int32.ofInt_toInt, Int32.ofInt_toInt]
theorem js_o_iushr (X : js_X p s m args meth c D k) (hM : jr_M s0 b n xs D s L g H) (hl : js_L s0 b L (jv_ml k) LS ls) (hF : js_F s0 s H locs) {x y : Int} (hS : js_S s0 b L ST (jv_I y :: jv_I x :: st)) (hd : decode (jm_c k) pc = .ok (.iushr, 1)) (hk : js_KG p l e R s m args below meth c cells slots Q s0 b n xs D k L (pc + 1, ls, jv_I (jv_ushr x y) :: st, L, g)) : W p l e R s m args below meth c H locs cells slots Q (F0 m pc LS ST) := by
  obtain ⟨wy, vs1, rfl, rfl, hS1⟩ := hS.cI
  obtain ⟨wx, vs, rfl, rfl, hS2⟩ := hS1.cI
  refine lv_iushr X.1 X.2.1 hd rfl (hk.use hM hl (hS2.pI ?_) hF)
  unfold jv_ushr
  rw [Int32.ofInt_toInt, Int32.ofInt_toInt]
theorem js_o_i2b (X : js_X p s m args meth c D k) (hM : jr_M s0 b n xs D s L g H) (hl : js_L s0 b L (jv_ml k) LS ls) (hF : js_F s0 s H locs) {x : Int} (hS : js_S s0 b L ST (jv_I x :: st)) (hd : decode (jm_c k) pc = .ok (.i2b, 1)) (hk : js_KG p l e R s m args below meth c cells slots Q s0 b n xs D k L (pc + 1, ls, jv_I (jv_i2b x) :: st, L, g)) : W p l e R s m args below meth c H locs cells slots Q (F0 m pc LS ST) := by
  obtain ⟨wx, vs, rfl, rfl, hS2⟩ := hS.cI
  refine lv_i2b X.1 X.2.1 hd rfl (hk.use hM hl (hS2.pI ?_) hF)
  unfold jv_i2b
  rw [Int32.ofInt_toInt]
theorem js_o_i2s (X : js_X p s m args meth c D k) (hM : jr_M s0 b n xs D s L g H) (hl : js_L s0 b L (jv_ml k) LS ls) (hF : js_F s0 s H locs) {x : Int} (hS : js_S s0 b L ST (jv_I x :: st)) (hd : decode (jm_c k) pc = .ok (.i2s, 1)) (hk : js_KG p l e R s m args below meth c cells slots Q s0 b n xs D k L (pc + 1, ls, jv_I (jv_i2s x) :: st, L, g)) : W p l e R s m args below meth c H locs cells slots Q (F0 m pc LS ST) := by
  obtain ⟨wx, vs, rfl, rfl, hS2⟩ := hS.cI
  refine lv_i2s X.1 X.2.1 hd rfl (hk.use hM hl (hS2.pI ?_) hF)
  unfold jv_i2s
  rw [Int32.ofInt_toInt]
theorem js_o_i2l (X : js_X p s m args meth c D k) (hM : jr_M s0 b n xs D s L g H) (hl : js_L s0 b L (jv_ml k) LS ls) (hF : js_F s0 s H locs) {x : Int} (hS : js_S s0 b L ST (jv_I x :: st)) (hd : decode (jm_c k) pc = .ok (.i2l, 1)) (hk : js_KG p l e R s m args below meth c cells slots Q s0 b n xs D k L (pc + 1, ls, jv_J x :: st, L, g)) : W p l e R s m args below meth c H locs cells slots Q (F0 m pc LS ST) := by
  obtain ⟨wx, vs, rfl, rfl, hS2⟩ := hS.cI
  refine lv_i2l X.1 X.2.1 hd rfl (hk.use hM hl (hS2.pJ ?_) hF)
  simp
theorem js_o_lcmp (X : js_X p s m args meth c D k) (hM : jr_M s0 b n xs D s L g H) (hl : js_L s0 b L (jv_ml k) LS ls) (hF : js_F s0 s H locs) {x y : Int} (hS : js_S s0 b L ST (jv_J y :: jv_J x :: st)) (hd : decode (jm_c k) pc = .ok (.lcmp, 1)) (hk : js_KG p l e R s m args below meth c cells slots Q s0 b n xs D k L (pc + 1, ls, jv_I (jv_cmp x y) :: st, L, g)) : W p l e R s m args below meth c H locs cells slots Q (F0 m pc LS ST) := by
  obtain ⟨wy, vs1, rfl, rfl, hS1⟩ := hS.cJ
  obtain ⟨wx, vs, rfl, rfl, hS2⟩ := hS1.cJ
  refine W.lcmp X.1 X.2.1 hd (hk.use hM hl (hS2.pI ?_) hF)
  unfold jv_cmp lg_cmp
  simp only [gt_iff_lt, Int64.lt_iff_toInt_lt, ← Int64.toInt_inj]
  split
  · rfl
  · split <;> rfl
theorem js_o_idiv (X : js_X p s m args meth c D k) (hM : jr_M s0 b n xs D s L g H) (hl : js_L s0 b L (jv_ml k) LS ls) (hF : js_F s0 s H locs) {x y : Int} (hS : js_S s0 b L ST (jv_I y :: jv_I x :: st)) (hd : decode (jm_c k) pc = .ok (.idiv, 1)) (hc : 0 ≤ x ∧ 0 < y) (hk : js_KG p l e R s m args below meth c cells slots Q s0 b n xs D k L (pc + 1, ls, jv_I (x / y) :: st, L, g)) : W p l e R s m args below meth c H locs cells slots Q (F0 m pc LS ST) := by
  obtain ⟨wy, vs1, rfl, rfl, hS1⟩ := hS.cI
  obtain ⟨wx, vs, rfl, rfl, hS2⟩ := hS1.cI
  have hx0 : ¬ wx < 0 := by rw [Int32.lt_iff_toInt_lt]; simp; omega
  have hy0 : ¬ wy < 0 := by rw [Int32.lt_iff_toInt_lt]; simp; omega
  obtain ⟨j, hj, rfl⟩ := nI_of hx0
  obtain ⟨j2, hj2, rfl⟩ := nI_of hy0
  rw [nI_toInt hj, nI_toInt hj2] at hc hk
  have h0 : 0 < j2 := by omega
  refine lv_idiv X.1 X.2.1 hd (fun h => ?_) (hk.use hM hl (hS2.pI ?_) hF)
  · have := congrArg Int32.toInt h
    rw [nI_toInt hj2] at this
    simp at this
    omega
  · rw [pk_div hj h0 hj2, nI_toInt (Nat.lt_of_le_of_lt (Nat.div_le_self _ _) hj)]
    simp
theorem js_o_irem (X : js_X p s m args meth c D k) (hM : jr_M s0 b n xs D s L g H) (hl : js_L s0 b L (jv_ml k) LS ls) (hF : js_F s0 s H locs) {x y : Int} (hS : js_S s0 b L ST (jv_I y :: jv_I x :: st)) (hd : decode (jm_c k) pc = .ok (.irem, 1)) (hc : 0 ≤ x ∧ 0 < y) (hk : js_KG p l e R s m args below meth c cells slots Q s0 b n xs D k L (pc + 1, ls, jv_I (x % y) :: st, L, g)) : W p l e R s m args below meth c H locs cells slots Q (F0 m pc LS ST) := by
  obtain ⟨wy, vs1, rfl, rfl, hS1⟩ := hS.cI
  obtain ⟨wx, vs, rfl, rfl, hS2⟩ := hS1.cI
  have hx0 : ¬ wx < 0 := by rw [Int32.lt_iff_toInt_lt]; simp; omega
  have hy0 : ¬ wy < 0 := by rw [Int32.lt_iff_toInt_lt]; simp; omega
  obtain ⟨j, hj, rfl⟩ := nI_of hx0
  obtain ⟨j2, hj2, rfl⟩ := nI_of hy0
  rw [nI_toInt hj, nI_toInt hj2] at hc hk
  have h0 : 0 < j2 := by omega
  refine lv_irem X.1 X.2.1 hd (fun h => ?_) (hk.use hM hl (hS2.pI ?_) hF)
  · have := congrArg Int32.toInt h
    rw [nI_toInt hj2] at this
    simp at this
    omega
  · rw [pk_rem hj h0 hj2, nI_toInt (Nat.lt_of_le_of_lt (Nat.mod_le _ _) hj)]
    simp
theorem js_o_ldiv (X : js_X p s m args meth c D k) (hM : jr_M s0 b n xs D s L g H) (hl : js_L s0 b L (jv_ml k) LS ls) (hF : js_F s0 s H locs) {x y : Int} (hS : js_S s0 b L ST (jv_J y :: jv_J x :: st)) (hd : decode (jm_c k) pc = .ok (.ldiv, 1)) (hc : 0 ≤ x ∧ 0 < y) (hk : js_KG p l e R s m args below meth c cells slots Q s0 b n xs D k L (pc + 1, ls, jv_J (x / y) :: st, L, g)) : W p l e R s m args below meth c H locs cells slots Q (F0 m pc LS ST) := by
  obtain ⟨wy, vs1, rfl, rfl, hS1⟩ := hS.cJ
  obtain ⟨wx, vs, rfl, rfl, hS2⟩ := hS1.cJ
  have hx0 : ¬ wx < 0 := by rw [Int64.lt_iff_toInt_lt]; simp; omega
  have hy0 : ¬ wy < 0 := by rw [Int64.lt_iff_toInt_lt]; simp; omega
  obtain ⟨j, hj, rfl⟩ := pk_lOf hx0
  obtain ⟨j2, hj2, rfl⟩ := pk_lOf hy0
  rw [pk_lT hj, pk_lT hj2] at hc hk
  have h0 : 0 < j2 := by omega
  refine lv_ldiv X.1 X.2.1 hd (fun h => ?_) (hk.use hM hl (hS2.pJ ?_) hF)
  · have := congrArg Int64.toInt h
    rw [pk_lT hj2] at this
    simp at this
    omega
  · rw [pk_lDiv hj h0 hj2, pk_lT (Nat.lt_of_le_of_lt (Nat.div_le_self _ _) hj)]
    simp
theorem js_o_lrem (X : js_X p s m args meth c D k) (hM : jr_M s0 b n xs D s L g H) (hl : js_L s0 b L (jv_ml k) LS ls) (hF : js_F s0 s H locs) {x y : Int} (hS : js_S s0 b L ST (jv_J y :: jv_J x :: st)) (hd : decode (jm_c k) pc = .ok (.lrem, 1)) (hc : 0 ≤ x ∧ 0 < y) (hk : js_KG p l e R s m args below meth c cells slots Q s0 b n xs D k L (pc + 1, ls, jv_J (x % y) :: st, L, g)) : W p l e R s m args below meth c H locs cells slots Q (F0 m pc LS ST) := by
  obtain ⟨wy, vs1, rfl, rfl, hS1⟩ := hS.cJ
  obtain ⟨wx, vs, rfl, rfl, hS2⟩ := hS1.cJ
  have hx0 : ¬ wx < 0 := by rw [Int64.lt_iff_toInt_lt]; simp; omega
  have hy0 : ¬ wy < 0 := by rw [Int64.lt_iff_toInt_lt]; simp; omega
  obtain ⟨j, hj, rfl⟩ := pk_lOf hx0
  obtain ⟨j2, hj2, rfl⟩ := pk_lOf hy0
  rw [pk_lT hj, pk_lT hj2] at hc hk
  have h0 : 0 < j2 := by omega
  refine lv_lrem X.1 X.2.1 hd (fun h => ?_) (hk.use hM hl (hS2.pJ ?_) hF)
  · have := congrArg Int64.toInt h
    rw [pk_lT hj2] at this
    simp at this
    omega
  · rw [pk_lRem hj h0 hj2, pk_lT (Nat.lt_of_le_of_lt (Nat.mod_le _ _) hj)]
    simp
theorem js_o_dup (X : js_X p s m args meth c D k) (hM : jr_M s0 b n xs D s L g H) (hl : js_L s0 b L (jv_ml k) LS ls) (hF : js_F s0 s H locs) {a : jv_V} (hS : js_S s0 b L ST (a :: st)) (hj : ∀ x, a ≠ jv_J x) (hd : decode (jm_c k) pc = .ok (.dup, 1)) (hk : js_KG p l e R s m args below meth c cells slots Q s0 b n xs D k L (pc + 1, ls, a :: a :: st, L, g)) : W p l e R s m args below meth c H locs cells slots Q (F0 m pc LS ST) := by
  obtain ⟨v, vs, rfl, ha, hv, hS2⟩ := hS.cons
  exact lv_dup X.1 X.2.1 hd (js_cat1 hv ha hj) (hk.use hM hl ⟨ha, hv, ha, hv, hS2⟩ hF)
theorem js_o_dup2 (X : js_X p s m args meth c D k) (hM : jr_M s0 b n xs D s L g H) (hl : js_L s0 b L (jv_ml k) LS ls) (hF : js_F s0 s H locs) {a : jv_V} {x : Int} (hS : js_S s0 b L ST (jv_I x :: a :: st)) (hj : ∀ x, a ≠ jv_J x) (hd : decode (jm_c k) pc = .ok (.dup2, 1)) (hk : js_KG p l e R s m args below meth c cells slots Q s0 b n xs D k L (pc + 1, ls, jv_I x :: a :: jv_I x :: a :: st, L, g)) : W p l e R s m args below meth c H locs cells slots Q (F0 m pc LS ST) := by
  obtain ⟨w, vs1, rfl, rfl, hS1⟩ := hS.cI
  obtain ⟨v, vs, rfl, ha, hv, hS2⟩ := hS1.cons
  exact lv_dup2_11 X.1 X.2.1 hd rfl (js_cat1 hv ha hj) (hk.use hM hl ⟨by simp, ⟨w, rfl, rfl⟩, ha, hv, by simp, ⟨w, rfl, rfl⟩, ha, hv, hS2⟩ hF)
end
