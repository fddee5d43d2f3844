section
variable {p : Program} {l : Launch} {e : Env} {R : Room} {s : State} {m : MethodId} {args : Array Value} {below : List Frame} {meth : Method} {c : Code} {H : Heap} {locs : List Loc} {cells slots : Nat} {Q : State → Prop}
variable {s0 b n : Nat} {xs : Nat → Int32} {D : va_G} {k : Nat} {L : jv_L} {g g' : jv_S} {LS : Array Slot} {ST : List Value} {ls st ls' st' : List jv_V} {pc pc' : Nat}
theorem js_s_iconst (hC : js_Cl) (X : js_X p s m args meth c D k) (hM : jr_M s0 b n xs D s L g H) (hl : js_L s0 b L (jv_ml k) LS ls) (hS : js_S s0 b L ST st) (hF : js_F s0 s H locs) (hfr : jm_ht k ≤ R.frames) (hlo : jm_rl k ≤ R.locals) {len : Nat} {r : List Nat} {z : Int} {a : Int} (hd : decode (jm_c k) pc = .ok (.iconst a, len)) (hie : js_i1 k pc (.iconst a) len r z) {cs : List jv_C} {nx : jv_N} (hs : jv_sx (pc, .iconst a, len, r, z) ls st L g = some (cs, nx)) (hok : jv_ok cs = true) (hk : js_K p l e R s m args below meth c H locs cells slots Q s0 b n xs D k pc LS ST L g nx) : W p l e R s m args below meth c H locs cells slots Q (F0 m pc LS ST) := by
  obtain ⟨rfl, hz⟩ := hie
  cases hs
  exact js_o_iconst X hM hl hF hS hd hz hk.1
theorem js_s_bipush (hC : js_Cl) (X : js_X p s m args meth c D k) (hM : jr_M s0 b n xs D s L g H) (hl : js_L s0 b L (jv_ml k) LS ls) (hS : js_S s0 b L ST st) (hF : js_F s0 s H locs) (hfr : jm_ht k ≤ R.frames) (hlo : jm_rl k ≤ R.locals) {len : Nat} {r : List Nat} {z : Int} {a : Int} (hd : decode (jm_c k) pc = .ok (.bipush a, len)) (hie : js_i1 k pc (.bipush a) len r z) {cs : List jv_C} {nx : jv_N} (hs : jv_sx (pc, .bipush a, len, r, z) ls st L g = some (cs, nx)) (hok : jv_ok cs = true) (hk : js_K p l e R s m args below meth c H locs cells slots Q s0 b n xs D k pc LS ST L g nx) : W p l e R s m args below meth c H locs cells slots Q (F0 m pc LS ST) := by
  obtain ⟨rfl, hz⟩ := hie
  cases hs
  exact js_o_bipush X hM hl hF hS hd hz hk.1
theorem js_s_sipush (hC : js_Cl) (X : js_X p s m args meth c D k) (hM : jr_M s0 b n xs D s L g H) (hl : js_L s0 b L (jv_ml k) LS ls) (hS : js_S s0 b L ST st) (hF : js_F s0 s H locs) (hfr : jm_ht k ≤ R.frames) (hlo : jm_rl k ≤ R.locals) {len : Nat} {r : List Nat} {z : Int} {a : Int} (hd : decode (jm_c k) pc = .ok (.sipush a, len)) (hie : js_i1 k pc (.sipush a) len r z) {cs : List jv_C} {nx : jv_N} (hs : jv_sx (pc, .sipush a, len, r, z) ls st L g = some (cs, nx)) (hok : jv_ok cs = true) (hk : js_K p l e R s m args below meth c H locs cells slots Q s0 b n xs D k pc LS ST L g nx) : W p l e R s m args below meth c H locs cells slots Q (F0 m pc LS ST) := by
  obtain ⟨rfl, hz⟩ := hie
  cases hs
  exact js_o_sipush X hM hl hF hS hd hz hk.1
theorem js_s_lconst (hC : js_Cl) (X : js_X p s m args meth c D k) (hM : jr_M s0 b n xs D s L g H) (hl : js_L s0 b L (jv_ml k) LS ls) (hS : js_S s0 b L ST st) (hF : js_F s0 s H locs) (hfr : jm_ht k ≤ R.frames) (hlo : jm_rl k ≤ R.locals) {len : Nat} {r : List Nat} {z : Int} {a : Fin 2} (hd : decode (jm_c k) pc = .ok (.lconst a, len)) (hie : js_i1 k pc (.lconst a) len r z) {cs : List jv_C} {nx : jv_N} (hs : jv_sx (pc, .lconst a, len, r, z) ls st L g = some (cs, nx)) (hok : jv_ok cs = true) (hk : js_K p l e R s m args below meth c H locs cells slots Q s0 b n xs D k pc LS ST L g nx) : W p l e R s m args below meth c H locs cells slots Q (F0 m pc LS ST) := by
  obtain ⟨rfl, hz⟩ := hie
  cases hs
  exact js_o_lconst X hM hl hF hS hd hz hk.1
theorem js_s_ldcw (hC : js_Cl) (X : js_X p s m args meth c D k) (hM : jr_M s0 b n xs D s L g H) (hl : js_L s0 b L (jv_ml k) LS ls) (hS : js_S s0 b L ST st) (hF : js_F s0 s H locs) (hfr : jm_ht k ≤ R.frames) (hlo : jm_rl k ≤ R.locals) {len : Nat} {r : List Nat} {z : Int} {a : Nat} (hd : decode (jm_c k) pc = .ok (.ldc_w a, len)) (hie : js_i1 k pc (.ldc_w a) len r z) {cs : List jv_C} {nx : jv_N} (hs : jv_sx (pc, .ldc_w a, len, r, z) ls st L g = some (cs, nx)) (hok : jv_ok cs = true) (hk : js_K p l e R s m args below meth c H locs cells slots Q s0 b n xs D k pc LS ST L g nx) : W p l e R s m args below meth c H locs cells slots Q (F0 m pc LS ST) := by
  obtain ⟨rfl, hz⟩ := hie
  cases hs
  exact js_o_ldcw X hM hl hF hS hd hz hk.1
theorem js_s_ldc2 (hC : js_Cl) (X : js_X p s m args meth c D k) (hM : jr_M s0 b n xs D s L g H) (hl : js_L s0 b L (jv_ml k) LS ls) (hS : js_S s0 b L ST st) (hF : js_F s0 s H locs) (hfr : jm_ht k ≤ R.frames) (hlo : jm_rl k ≤ R.locals) {len : Nat} {r : List Nat} {z : Int} {a : Nat} (hd : decode (jm_c k) pc = .ok (.ldc2_w a, len)) (hie : js_i1 k pc (.ldc2_w a) len r z) {cs : List jv_C} {nx : jv_N} (hs : jv_sx (pc, .ldc2_w a, len, r, z) ls st L g = some (cs, nx)) (hok : jv_ok cs = true) (hk : js_K p l e R s m args below meth c H locs cells slots Q s0 b n xs D k pc LS ST L g nx) : W p l e R s m args below meth c H locs cells slots Q (F0 m pc LS ST) := by
  obtain ⟨rfl, hz⟩ := hie
  cases hs
  exact js_o_ldc2 X hM hl hF hS hd hz hk.1
theorem js_s_null (hC : js_Cl) (X : js_X p s m args meth c D k) (hM : jr_M s0 b n xs D s L g H) (hl : js_L s0 b L (jv_ml k) LS ls) (hS : js_S s0 b L ST st) (hF : js_F s0 s H locs) (hfr : jm_ht k ≤ R.frames) (hlo : jm_rl k ≤ R.locals) {len : Nat} {r : List Nat} {z : Int} (hd : decode (jm_c k) pc = .ok (.aconst_null, len)) (hie : js_i1 k pc (.aconst_null) len r z) {cs : List jv_C} {nx : jv_N} (hs : jv_sx (pc, .aconst_null, len, r, z) ls st L g = some (cs, nx)) (hok : jv_ok cs = true) (hk : js_K p l e R s m args below meth c H locs cells slots Q s0 b n xs D k pc LS ST L g nx) : W p l e R s m args below meth c H locs cells slots Q (F0 m pc LS ST) := by
  have h1 : len = 1 := hie
  subst h1
  cases hs
  exact js_o_null X hM hl hF hS hd hk.1
theorem js_s_iload_n (hC : js_Cl) (X : js_X p s m args meth c D k) (hM : jr_M s0 b n xs D s L g H) (hl : js_L s0 b L (jv_ml k) LS ls) (hS : js_S s0 b L ST st) (hF : js_F s0 s H locs) (hfr : jm_ht k ≤ R.frames) (hlo : jm_rl k ≤ R.locals) {len : Nat} {r : List Nat} {z : Int} {a : Fin 4} (hd : decode (jm_c k) pc = .ok (.iload_n a, len)) (hie : js_i1 k pc (.iload_n a) len r z) {cs : List jv_C} {nx : jv_N} (hs : jv_sx (pc, .iload_n a, len, r, z) ls st L g = some (cs, nx)) (hok : jv_ok cs = true) (hk : js_K p l e R s m args below meth c H locs cells slots Q s0 b n xs D k pc LS ST L g nx) : W p l e R s m args below meth c H locs cells slots Q (F0 m pc LS ST) := by
  have h1 : len = 1 := hie
  subst h1
  have hs : jv_ld none jv_goR a.val (pc + 1) 0 ls st L g = some (cs, nx) := hs
  unfold jv_ld at hs
  cases hi : ls[a.val]? with
  | none => rw [hi] at hs; cases hs
  | some x =>
    rw [hi] at hs
    rcases x with x | x | x | ⟨x, y⟩ | x | u
    · cases hs
      exact js_o_iload_n X hM hl hF hS hi hd hk.1
    · cases hs
    · cases hs
    · cases hs
    · cases hs
    · cases hs
theorem js_s_iload (hC : js_Cl) (X : js_X p s m args meth c D k) (hM : jr_M s0 b n xs D s L g H) (hl : js_L s0 b L (jv_ml k) LS ls) (hS : js_S s0 b L ST st) (hF : js_F s0 s H locs) (hfr : jm_ht k ≤ R.frames) (hlo : jm_rl k ≤ R.locals) {len : Nat} {r : List Nat} {z : Int} {a : Nat} (hd : decode (jm_c k) pc = .ok (.iload a, len)) (hie : js_i1 k pc (.iload a) len r z) {cs : List jv_C} {nx : jv_N} (hs : jv_sx (pc, .iload a, len, r, z) ls st L g = some (cs, nx)) (hok : jv_ok cs = true) (hk : js_K p l e R s m args below meth c H locs cells slots Q s0 b n xs D k pc LS ST L g nx) : W p l e R s m args below meth c H locs cells slots Q (F0 m pc LS ST) := by
  have h1 : len = 2 := hie
  subst h1
  have hs : jv_ld none jv_goR a (pc + 2) 0 ls st L g = some (cs, nx) := hs
  unfold jv_ld at hs
  cases hi : ls[a]? with
  | none => rw [hi] at hs; cases hs
  | some x =>
    rw [hi] at hs
    rcases x with x | x | x | ⟨x, y⟩ | x | u
    · cases hs
      exact js_o_iload X hM hl hF hS hi hd hk.1
    · cases hs
    · cases hs
    · cases hs
    · cases hs
    · cases hs
theorem js_s_lload_n (hC : js_Cl) (X : js_X p s m args meth c D k) (hM : jr_M s0 b n xs D s L g H) (hl : js_L s0 b L (jv_ml k) LS ls) (hS : js_S s0 b L ST st) (hF : js_F s0 s H locs) (hfr : jm_ht k ≤ R.frames) (hlo : jm_rl k ≤ R.locals) {len : Nat} {r : List Nat} {z : Int} {a : Fin 4} (hd : decode (jm_c k) pc = .ok (.lload_n a, len)) (hie : js_i1 k pc (.lload_n a) len r z) {cs : List jv_C} {nx : jv_N} (hs : jv_sx (pc, .lload_n a, len, r, z) ls st L g = some (cs, nx)) (hok : jv_ok cs = true) (hk : js_K p l e R s m args below meth c H locs cells slots Q s0 b n xs D k pc LS ST L g nx) : W p l e R s m args below meth c H locs cells slots Q (F0 m pc LS ST) := by
  have h1 : len = 1 := hie
  subst h1
  have hs : jv_ld none jv_goR a.val (pc + 1) 1 ls st L g = some (cs, nx) := hs
  unfold jv_ld at hs
  cases hi : ls[a.val]? with
  | none => rw [hi] at hs; cases hs
  | some x =>
    rw [hi] at hs
    rcases x with x | x | x | ⟨x, y⟩ | x | u
    · cases hs
    · have hs : (match ls[a.val + 1]? with
        | some (.inr (.inr (.inr (.inr (.inr _))))) => jv_goR (pc + 1) ls (.inr (.inl x) :: st) L g
        | _ => none) = some (cs, nx) := hs
      cases hj : ls[a.val + 1]? with
      | none => rw [hj] at hs; cases hs
      | some y =>
        rw [hj] at hs
        rcases y with y | y | y | ⟨y, w⟩ | y | u
        · cases hs
        · cases hs
        · cases hs
        · cases hs
        · cases hs
        · cases hs
          exact js_o_lload_n X hM hl hF hS hi hj hd hk.1
    · cases hs
    · cases hs
    · cases hs
    · cases hs
theorem js_s_lload (hC : js_Cl) (X : js_X p s m args meth c D k) (hM : jr_M s0 b n xs D s L g H) (hl : js_L s0 b L (jv_ml k) LS ls) (hS : js_S s0 b L ST st) (hF : js_F s0 s H locs) (hfr : jm_ht k ≤ R.frames) (hlo : jm_rl k ≤ R.locals) {len : Nat} {r : List Nat} {z : Int} {a : Nat} (hd : decode (jm_c k) pc = .ok (.lload a, len)) (hie : js_i1 k pc (.lload a) len r z) {cs : List jv_C} {nx : jv_N} (hs : jv_sx (pc, .lload a, len, r, z) ls st L g = some (cs, nx)) (hok : jv_ok cs = true) (hk : js_K p l e R s m args below meth c H locs cells slots Q s0 b n xs D k pc LS ST L g nx) : W p l e R s m args below meth c H locs cells slots Q (F0 m pc LS ST) := by
  have h1 : len = 2 := hie
  subst h1
  have hs : jv_ld none jv_goR a (pc + 2) 1 ls st L g = some (cs, nx) := hs
  unfold jv_ld at hs
  cases hi : ls[a]? with
  | none => rw [hi] at hs; cases hs
  | some x =>
    rw [hi] at hs
    rcases x with x | x | x | ⟨x, y⟩ | x | u
    · cases hs
    · have hs : (match ls[a + 1]? with
        | some (.inr (.inr (.inr (.inr (.inr _))))) => jv_goR (pc + 2) ls (.inr (.inl x) :: st) L g
        | _ => none) = some (cs, nx) := hs
      cases hj : ls[a + 1]? with
      | none => rw [hj] at hs; cases hs
      | some y =>
        rw [hj] at hs
        rcases y with y | y | y | ⟨y, w⟩ | y | u
        · cases hs
        · cases hs
        · cases hs
        · cases hs
        · cases hs
        · cases hs
          exact js_o_lload X hM hl hF hS hi hj hd hk.1
    · cases hs
    · cases hs
    · cases hs
    · cases hs
theorem js_s_aload_n (hC : js_Cl) (X : js_X p s m args meth c D k) (hM : jr_M s0 b n xs D s L g H) (hl : js_L s0 b L (jv_ml k) LS ls) (hS : js_S s0 b L ST st) (hF : js_F s0 s H locs) (hfr : jm_ht k ≤ R.frames) (hlo : jm_rl k ≤ R.locals) {len : Nat} {r : List Nat} {z : Int} {a : Fin 4} (hd : decode (jm_c k) pc = .ok (.aload_n a, len)) (hie : js_i1 k pc (.aload_n a) len r z) {cs : List jv_C} {nx : jv_N} (hs : jv_sx (pc, .aload_n a, len, r, z) ls st L g = some (cs, nx)) (hok : jv_ok cs = true) (hk : js_K p l e R s m args below meth c H locs cells slots Q s0 b n xs D k pc LS ST L g nx) : W p l e R s m args below meth c H locs cells slots Q (F0 m pc LS ST) := by
  have h1 : len = 1 := hie
  subst h1
  have hs : jv_ld none jv_goR a.val (pc + 1) 2 ls st L g = some (cs, nx) := hs
  unfold jv_ld at hs
  cases hi : ls[a.val]? with
  | none => rw [hi] at hs; cases hs
  | some x =>
    rw [hi] at hs
    rcases x with x | x | x | ⟨x, y⟩ | x | u
    · cases hs
    · cases hs
    · cases hs
      exact js_o_aload_n X hM hl hF hS hi (by simp) (by simp) (by simp) hd hk.1
    · cases hs
      exact js_o_aload_n X hM hl hF hS hi (by simp) (by simp) (by simp) hd hk.1
    · cases hs
      exact js_o_aload_n X hM hl hF hS hi (by simp) (by simp) (by simp) hd hk.1
    · cases hs
theorem js_s_aload (hC : js_Cl) (X : js_X p s m args meth c D k) (hM : jr_M s0 b n xs D s L g H) (hl : js_L s0 b L (jv_ml k) LS ls) (hS : js_S s0 b L ST st) (hF : js_F s0 s H locs) (hfr : jm_ht k ≤ R.frames) (hlo : jm_rl k ≤ R.locals) {len : Nat} {r : List Nat} {z : Int} {a : Nat} (hd : decode (jm_c k) pc = .ok (.aload a, len)) (hie : js_i1 k pc (.aload a) len r z) {cs : List jv_C} {nx : jv_N} (hs : jv_sx (pc, .aload a, len, r, z) ls st L g = some (cs, nx)) (hok : jv_ok cs = true) (hk : js_K p l e R s m args below meth c H locs cells slots Q s0 b n xs D k pc LS ST L g nx) : W p l e R s m args below meth c H locs cells slots Q (F0 m pc LS ST) := by
  have h1 : len = 2 := hie
  subst h1
  have hs : jv_ld none jv_goR a (pc + 2) 2 ls st L g = some (cs, nx) := hs
  unfold jv_ld at hs
  cases hi : ls[a]? with
  | none => rw [hi] at hs; cases hs
  | some x =>
    rw [hi] at hs
    rcases x with x | x | x | ⟨x, y⟩ | x | u
    · cases hs
    · cases hs
    · cases hs
      exact js_o_aload X hM hl hF hS hi (by simp) (by simp) (by simp) hd hk.1
    · cases hs
      exact js_o_aload X hM hl hF hS hi (by simp) (by simp) (by simp) hd hk.1
    · cases hs
      exact js_o_aload X hM hl hF hS hi (by simp) (by simp) (by simp) hd hk.1
    · cases hs
theorem js_s_istore_n (hC : js_Cl) (X : js_X p s m args meth c D k) (hM : jr_M s0 b n xs D s L g H) (hl : js_L s0 b L (jv_ml k) LS ls) (hS : js_S s0 b L ST st) (hF : js_F s0 s H locs) (hfr : jm_ht k ≤ R.frames) (hlo : jm_rl k ≤ R.locals) {len : Nat} {r : List Nat} {z : Int} {a : Fin 4} (hd : decode (jm_c k) pc = .ok (.istore_n a, len)) (hie : js_i1 k pc (.istore_n a) len r z) {cs : List jv_C} {nx : jv_N} (hs : jv_sx (pc, .istore_n a, len, r, z) ls st L g = some (cs, nx)) (hok : jv_ok cs = true) (hk : js_K p l e R s m args below meth c H locs cells slots Q s0 b n xs D k pc LS ST L g nx) : W p l e R s m args below meth c H locs cells slots Q (F0 m pc LS ST) := by
  have h1 : len = 1 := hie
  subst h1
  have hs : jv_so none jv_goR a.val (pc + 1) 0 ls st L g = some (cs, nx) := hs
  unfold jv_so at hs
  cases hb : Nat.ble (a.val + (if 0 = 1 then 2 else 1)) ls.length with
  | false => rw [hb] at hs; cases hs
  | true =>
    rw [hb] at hs
    have hb := Nat.le_of_ble_eq_true hb
    cases st with
    | nil => cases hs
    | cons x st =>
      rcases x with x | x | x | ⟨x, y⟩ | x | u
      · cases hs
        exact js_o_istore_n X hM hl hF hS (by simpa using hb) hd hk.1
      · cases hs
      · cases hs
      · cases hs
      · cases hs
      · cases hs
theorem js_s_istore (hC : js_Cl) (X : js_X p s m args meth c D k) (hM : jr_M s0 b n xs D s L g H) (hl : js_L s0 b L (jv_ml k) LS ls) (hS : js_S s0 b L ST st) (hF : js_F s0 s H locs) (hfr : jm_ht k ≤ R.frames) (hlo : jm_rl k ≤ R.locals) {len : Nat} {r : List Nat} {z : Int} {a : Nat} (hd : decode (jm_c k) pc = .ok (.istore a, len)) (hie : js_i1 k pc (.istore a) len r z) {cs : List jv_C} {nx : jv_N} (hs : jv_sx (pc, .istore a, len, r, z) ls st L g = some (cs, nx)) (hok : jv_ok cs = true) (hk : js_K p l e R s m args below meth c H locs cells slots Q s0 b n xs D k pc LS ST L g nx) : W p l e R s m args below meth c H locs cells slots Q (F0 m pc LS ST) := by
  have h1 : len = 2 := hie
  subst h1
  have hs : jv_so none jv_goR a (pc + 2) 0 ls st L g = some (cs, nx) := hs
  unfold jv_so at hs
  cases hb : Nat.ble (a + (if 0 = 1 then 2 else 1)) ls.length with
  | false => rw [hb] at hs; cases hs
  | true =>
    rw [hb] at hs
    have hb := Nat.le_of_ble_eq_true hb
    cases st with
    | nil => cases hs
    | cons x st =>
      rcases x with x | x | x | ⟨x, y⟩ | x | u
      · cases hs
        exact js_o_istore X hM hl hF hS (by simpa using hb) hd hk.1
      · cases hs
      · cases hs
      · cases hs
      · cases hs
      · cases hs
theorem js_s_lstore_n (hC : js_Cl) (X : js_X p s m args meth c D k) (hM : jr_M s0 b n xs D s L g H) (hl : js_L s0 b L (jv_ml k) LS ls) (hS : js_S s0 b L ST st) (hF : js_F s0 s H locs) (hfr : jm_ht k ≤ R.frames) (hlo : jm_rl k ≤ R.locals) {len : Nat} {r : List Nat} {z : Int} {a : Fin 4} (hd : decode (jm_c k) pc = .ok (.lstore_n a, len)) (hie : js_i1 k pc (.lstore_n a) len r z) {cs : List jv_C} {nx : jv_N} (hs : jv_sx (pc, .lstore_n a, len, r, z) ls st L g = some (cs, nx)) (hok : jv_ok cs = true) (hk : js_K p l e R s m args below meth c H locs cells slots Q s0 b n xs D k pc LS ST L g nx) : W p l e R s m args below meth c H locs cells slots Q (F0 m pc LS ST) := by
  have h1 : len = 1 := hie
  subst h1
  have hs : jv_so none jv_goR a.val (pc + 1) 1 ls st L g = some (cs, nx) := hs
  unfold jv_so at hs
  cases hb : Nat.ble (a.val + (if 1 = 1 then 2 else 1)) ls.length with
  | false => rw [hb] at hs; cases hs
  | true =>
    rw [hb] at hs
    have hb := Nat.le_of_ble_eq_true hb
    cases st with
    | nil => cases hs
    | cons x st =>
      rcases x with x | x | x | ⟨x, y⟩ | x | u
      · cases hs
      · cases hs
        exact js_o_lstore_n X hM hl hF hS (by simpa using hb) hd hk.1
      · cases hs
      · cases hs
      · cases hs
      · cases hs
theorem js_s_lstore (hC : js_Cl) (X : js_X p s m args meth c D k) (hM : jr_M s0 b n xs D s L g H) (hl : js_L s0 b L (jv_ml k) LS ls) (hS : js_S s0 b L ST st) (hF : js_F s0 s H locs) (hfr : jm_ht k ≤ R.frames) (hlo : jm_rl k ≤ R.locals) {len : Nat} {r : List Nat} {z : Int} {a : Nat} (hd : decode (jm_c k) pc = .ok (.lstore a, len)) (hie : js_i1 k pc (.lstore a) len r z) {cs : List jv_C} {nx : jv_N} (hs : jv_sx (pc, .lstore a, len, r, z) ls st L g = some (cs, nx)) (hok : jv_ok cs = true) (hk : js_K p l e R s m args below meth c H locs cells slots Q s0 b n xs D k pc LS ST L g nx) : W p l e R s m args below meth c H locs cells slots Q (F0 m pc LS ST) := by
  have h1 : len = 2 := hie
  subst h1
  have hs : jv_so none jv_goR a (pc + 2) 1 ls st L g = some (cs, nx) := hs
  unfold jv_so at hs
  cases hb : Nat.ble (a + (if 1 = 1 then 2 else 1)) ls.length with
  | false => rw [hb] at hs; cases hs
  | true =>
    rw [hb] at hs
    have hb := Nat.le_of_ble_eq_true hb
    cases st with
    | nil => cases hs
    | cons x st =>
      rcases x with x | x | x | ⟨x, y⟩ | x | u
      · cases hs
      · cases hs
        exact js_o_lstore X hM hl hF hS (by simpa using hb) hd hk.1
      · cases hs
      · cases hs
      · cases hs
      · cases hs
theorem js_s_astore_n (hC : js_Cl) (X : js_X p s m args meth c D k) (hM : jr_M s0 b n xs D s L g H) (hl : js_L s0 b L (jv_ml k) LS ls) (hS : js_S s0 b L ST st) (hF : js_F s0 s H locs) (hfr : jm_ht k ≤ R.frames) (hlo : jm_rl k ≤ R.locals) {len : Nat} {r : List Nat} {z : Int} {a : Fin 4} (hd : decode (jm_c k) pc = .ok (.astore_n a, len)) (hie : js_i1 k pc (.astore_n a) len r z) {cs : List jv_C} {nx : jv_N} (hs : jv_sx (pc, .astore_n a, len, r, z) ls st L g = some (cs, nx)) (hok : jv_ok cs = true) (hk : js_K p l e R s m args below meth c H locs cells slots Q s0 b n xs D k pc LS ST L g nx) : W p l e R s m args below meth c H locs cells slots Q (F0 m pc LS ST) := by
  have h1 : len = 1 := hie
  subst h1
  have hs : jv_so none jv_goR a.val (pc + 1) 2 ls st L g = some (cs, nx) := hs
  unfold jv_so at hs
  cases hb : Nat.ble (a.val + (if 2 = 1 then 2 else 1)) ls.length with
  | false => rw [hb] at hs; cases hs
  | true =>
    rw [hb] at hs
    have hb := Nat.le_of_ble_eq_true hb
    cases st with
    | nil => cases hs
    | cons x st =>
      rcases x with x | x | x | ⟨x, y⟩ | x | u
      · cases hs
      · cases hs
      · cases hs
        exact js_o_astore_n X hM hl hF hS (by simp) (by simp) (by simpa using hb) hd hk.1
      · cases hs
        exact js_o_astore_n X hM hl hF hS (by simp) (by simp) (by simpa using hb) hd hk.1
      · cases hs
        exact js_o_astore_n X hM hl hF hS (by simp) (by simp) (by simpa using hb) hd hk.1
      · cases hs
theorem js_s_astore (hC : js_Cl) (X : js_X p s m args meth c D k) (hM : jr_M s0 b n xs D s L g H) (hl : js_L s0 b L (jv_ml k) LS ls) (hS : js_S s0 b L ST st) (hF : js_F s0 s H locs) (hfr : jm_ht k ≤ R.frames) (hlo : jm_rl k ≤ R.locals) {len : Nat} {r : List Nat} {z : Int} {a : Nat} (hd : decode (jm_c k) pc = .ok (.astore a, len)) (hie : js_i1 k pc (.astore a) len r z) {cs : List jv_C} {nx : jv_N} (hs : jv_sx (pc, .astore a, len, r, z) ls st L g = some (cs, nx)) (hok : jv_ok cs = true) (hk : js_K p l e R s m args below meth c H locs cells slots Q s0 b n xs D k pc LS ST L g nx) : W p l e R s m args below meth c H locs cells slots Q (F0 m pc LS ST) := by
  have h1 : len = 2 := hie
  subst h1
  have hs : jv_so none jv_goR a (pc + 2) 2 ls st L g = some (cs, nx) := hs
  unfold jv_so at hs
  cases hb : Nat.ble (a + (if 2 = 1 then 2 else 1)) ls.length with
  | false => rw [hb] at hs; cases hs
  | true =>
    rw [hb] at hs
    have hb := Nat.le_of_ble_eq_true hb
    cases st with
    | nil => cases hs
    | cons x st =>
      rcases x with x | x | x | ⟨x, y⟩ | x | u
      · cases hs
      · cases hs
      · cases hs
        exact js_o_astore X hM hl hF hS (by simp) (by simp) (by simpa using hb) hd hk.1
      · cases hs
        exact js_o_astore X hM hl hF hS (by simp) (by simp) (by simpa using hb) hd hk.1
      · cases hs
        exact js_o_astore X hM hl hF hS (by simp) (by simp) (by simpa using hb) hd hk.1
      · cases hs
theorem js_s_iinc (hC : js_Cl) (X : js_X p s m args meth c D k) (hM : jr_M s0 b n xs D s L g H) (hl : js_L s0 b L (jv_ml k) LS ls) (hS : js_S s0 b L ST st) (hF : js_F s0 s H locs) (hfr : jm_ht k ≤ R.frames) (hlo : jm_rl k ≤ R.locals) {len : Nat} {r : List Nat} {z : Int} {a : Nat} {v : Int} (hd : decode (jm_c k) pc = .ok (.iinc a v, len)) (hie : js_i1 k pc (.iinc a v) len r z) {cs : List jv_C} {nx : jv_N} (hs : jv_sx (pc, .iinc a v, len, r, z) ls st L g = some (cs, nx)) (hok : jv_ok cs = true) (hk : js_K p l e R s m args below meth c H locs cells slots Q s0 b n xs D k pc LS ST L g nx) : W p l e R s m args below meth c H locs cells slots Q (F0 m pc LS ST) := by
  obtain ⟨rfl, hv⟩ := hie
  cases hi : ls[a]? with
  | none =>
    unfold jv_sx jv_st at hs
    dsimp only at hs
    rw [hi] at hs
    cases hs
  | some x =>
    unfold jv_sx jv_st at hs
    dsimp only at hs
    rw [hi] at hs
    rcases x with x | x | x | ⟨x, y⟩ | x | u
    · cases hs
      exact js_o_iinc X hM hl hF hS hi hv hd hk
    · cases hs
    · cases hs
    · cases hs
    · cases hs
    · cases hs
theorem js_s_iadd (hC : js_Cl) (X : js_X p s m args meth c D k) (hM : jr_M s0 b n xs D s L g H) (hl : js_L s0 b L (jv_ml k) LS ls) (hS : js_S s0 b L ST st) (hF : js_F s0 s H locs) (hfr : jm_ht k ≤ R.frames) (hlo : jm_rl k ≤ R.locals) {len : Nat} {r : List Nat} {z : Int} (hd : decode (jm_c k) pc = .ok (.iadd, len)) (hie : js_i1 k pc (.iadd) len r z) {cs : List jv_C} {nx : jv_N} (hs : jv_sx (pc, .iadd, len, r, z) ls st L g = some (cs, nx)) (hok : jv_ok cs = true) (hk : js_K p l e R s m args below meth c H locs cells slots Q s0 b n xs D k pc LS ST L g nx) : W p l e R s m args below meth c H locs cells slots Q (F0 m pc LS ST) := by
  have h1 : len = 1 := hie
  subst h1
  cases st with
  | nil => cases hs
  | cons a0 st =>
    rcases a0 with x0 | x0 | x0 | ⟨x0, w0⟩ | x0 | u0
    ·
      cases st with
      | nil => cases hs
      | cons a1 st =>
        rcases a1 with x1 | x1 | x1 | ⟨x1, w1⟩ | x1 | u1
        · cases hs
          exact js_o_iadd X hM hl hF hS hd hk
        · cases hs
        · cases hs
        · cases hs
        · cases hs
        · cases hs
    · cases hs
    · cases hs
    · cases hs
    · cases hs
    · cases hs
theorem js_s_isub (hC : js_Cl) (X : js_X p s m args meth c D k) (hM : jr_M s0 b n xs D s L g H) (hl : js_L s0 b L (jv_ml k) LS ls) (hS : js_S s0 b L ST st) (hF : js_F s0 s H locs) (hfr : jm_ht k ≤ R.frames) (hlo : jm_rl k ≤ R.locals) {len : Nat} {r : List Nat} {z : Int} (hd : decode (jm_c k) pc = .ok (.isub, len)) (hie : js_i1 k pc (.isub) len r z) {cs : List jv_C} {nx : jv_N} (hs : jv_sx (pc, .isub, len, r, z) ls st L g = some (cs, nx)) (hok : jv_ok cs = true) (hk : js_K p l e R s m args below meth c H locs cells slots Q s0 b n xs D k pc LS ST L g nx) : W p l e R s m args below meth c H locs cells slots Q (F0 m pc LS ST) := by
  have h1 : len = 1 := hie
  subst h1
  cases st with
  | nil => cases hs
  | cons a0 st =>
    rcases a0 with x0 | x0 | x0 | ⟨x0, w0⟩ | x0 | u0
    ·
      cases st with
      | nil => cases hs
      | cons a1 st =>
        rcases a1 with x1 | x1 | x1 | ⟨x1, w1⟩ | x1 | u1
        · cases hs
          exact js_o_isub X hM hl hF hS hd hk
        · cases hs
        · cases hs
        · cases hs
        · cases hs
        · cases hs
    · cases hs
    · cases hs
    · cases hs
    · cases hs
    · cases hs
theorem js_s_imul (hC : js_Cl) (X : js_X p s m args meth c D k) (hM : jr_M s0 b n xs D s L g H) (hl : js_L s0 b L (jv_ml k) LS ls) (hS : js_S s0 b L ST st) (hF : js_F s0 s H locs) (hfr : jm_ht k ≤ R.frames) (hlo : jm_rl k ≤ R.locals) {len : Nat} {r : List Nat} {z : Int} (hd : decode (jm_c k) pc = .ok (.imul, len)) (hie : js_i1 k pc (.imul) len r z) {cs : List jv_C} {nx : jv_N} (hs : jv_sx (pc, .imul, len, r, z) ls st L g = some (cs, nx)) (hok : jv_ok cs = true) (hk : js_K p l e R s m args below meth c H locs cells slots Q s0 b n xs D k pc LS ST L g nx) : W p l e R s m args below meth c H locs cells slots Q (F0 m pc LS ST) := by
  have h1 : len = 1 := hie
  subst h1
  cases st with
  | nil => cases hs
  | cons a0 st =>
    rcases a0 with x0 | x0 | x0 | ⟨x0, w0⟩ | x0 | u0
    ·
      cases st with
      | nil => cases hs
      | cons a1 st =>
        rcases a1 with x1 | x1 | x1 | ⟨x1, w1⟩ | x1 | u1
        · cases hs
          exact js_o_imul X hM hl hF hS hd hk
        · cases hs
        · cases hs
        · cases hs
        · cases hs
        · cases hs
    · cases hs
    · cases hs
    · cases hs
    · cases hs
    · cases hs
theorem js_s_ladd (hC : js_Cl) (X : js_X p s m args meth c D k) (hM : jr_M s0 b n xs D s L g H) (hl : js_L s0 b L (jv_ml k) LS ls) (hS : js_S s0 b L ST st) (hF : js_F s0 s H locs) (hfr : jm_ht k ≤ R.frames) (hlo : jm_rl k ≤ R.locals) {len : Nat} {r : List Nat} {z : Int} (hd : decode (jm_c k) pc = .ok (.ladd, len)) (hie : js_i1 k pc (.ladd) len r z) {cs : List jv_C} {nx : jv_N} (hs : jv_sx (pc, .ladd, len, r, z) ls st L g = some (cs, nx)) (hok : jv_ok cs = true) (hk : js_K p l e R s m args below meth c H locs cells slots Q s0 b n xs D k pc LS ST L g nx) : W p l e R s m args below meth c H locs cells slots Q (F0 m pc LS ST) := by
  have h1 : len = 1 := hie
  subst h1
  cases st with
  | nil => cases hs
  | cons a0 st =>
    rcases a0 with x0 | x0 | x0 | ⟨x0, w0⟩ | x0 | u0
    · cases hs
    ·
      cases st with
      | nil => cases hs
      | cons a1 st =>
        rcases a1 with x1 | x1 | x1 | ⟨x1, w1⟩ | x1 | u1
        · cases hs
        · cases hs
          exact js_o_ladd X hM hl hF hS hd hk
        · cases hs
        · cases hs
        · cases hs
        · cases hs
    · cases hs
    · cases hs
    · cases hs
    · cases hs
theorem js_s_lmul (hC : js_Cl) (X : js_X p s m args meth c D k) (hM : jr_M s0 b n xs D s L g H) (hl : js_L s0 b L (jv_ml k) LS ls) (hS : js_S s0 b L ST st) (hF : js_F s0 s H locs) (hfr : jm_ht k ≤ R.frames) (hlo : jm_rl k ≤ R.locals) {len : Nat} {r : List Nat} {z : Int} (hd : decode (jm_c k) pc = .ok (.lmul, len)) (hie : js_i1 k pc (.lmul) len r z) {cs : List jv_C} {nx : jv_N} (hs : jv_sx (pc, .lmul, len, r, z) ls st L g = some (cs, nx)) (hok : jv_ok cs = true) (hk : js_K p l e R s m args below meth c H locs cells slots Q s0 b n xs D k pc LS ST L g nx) : W p l e R s m args below meth c H locs cells slots Q (F0 m pc LS ST) := by
  have h1 : len = 1 := hie
  subst h1
  cases st with
  | nil => cases hs
  | cons a0 st =>
    rcases a0 with x0 | x0 | x0 | ⟨x0, w0⟩ | x0 | u0
    · cases hs
    ·
      cases st with
      | nil => cases hs
      | cons a1 st =>
        rcases a1 with x1 | x1 | x1 | ⟨x1, w1⟩ | x1 | u1
        · cases hs
        · cases hs
          exact js_o_lmul X hM hl hF hS hd hk
        · cases hs
        · cases hs
        · cases hs
        · cases hs
    · cases hs
    · cases hs
    · cases hs
    · cases hs
theorem js_s_ineg (hC : js_Cl) (X : js_X p s m args meth c D k) (hM : jr_M s0 b n xs D s L g H) (hl : js_L s0 b L (jv_ml k) LS ls) (hS : js_S s0 b L ST st) (hF : js_F s0 s H locs) (hfr : jm_ht k ≤ R.frames) (hlo : jm_rl k ≤ R.locals) {len : Nat} {r : List Nat} {z : Int} (hd : decode (jm_c k) pc = .ok (.ineg, len)) (hie : js_i1 k pc (.ineg) len r z) {cs : List jv_C} {nx : jv_N} (hs : jv_sx (pc, .ineg, len, r, z) ls st L g = some (cs, nx)) (hok : jv_ok cs = true) (hk : js_K p l e R s m args below meth c H locs cells slots Q s0 b n xs D k pc LS ST L g nx) : W p l e R s m args below meth c H locs cells slots Q (F0 m pc LS ST) := by
  have h1 : len = 1 := hie
  subst h1
  cases st with
  | nil => cases hs
  | cons a0 st =>
    rcases a0 with x0 | x0 | x0 | ⟨x0, w0⟩ | x0 | u0
    · cases hs
      exact js_o_ineg X hM hl hF hS hd hk
    · cases hs
    · cases hs
    · cases hs
    · cases hs
    · cases hs
theorem js_s_lneg (hC : js_Cl) (X : js_X p s m args meth c D k) (hM : jr_M s0 b n xs D s L g H) (hl : js_L s0 b L (jv_ml k) LS ls) (hS : js_S s0 b L ST st) (hF : js_F s0 s H locs) (hfr : jm_ht k ≤ R.frames) (hlo : jm_rl k ≤ R.locals) {len : Nat} {r : List Nat} {z : Int} (hd : decode (jm_c k) pc = .ok (.lneg, len)) (hie : js_i1 k pc (.lneg) len r z) {cs : List jv_C} {nx : jv_N} (hs : jv_sx (pc, .lneg, len, r, z) ls st L g = some (cs, nx)) (hok : jv_ok cs = true) (hk : js_K p l e R s m args below meth c H locs cells slots Q s0 b n xs D k pc LS ST L g nx) : W p l e R s m args below meth c H locs cells slots Q (F0 m pc LS ST) := by
  have h1 : len = 1 := hie
  subst h1
  cases st with
  | nil => cases hs
  | cons a0 st =>
    rcases a0 with x0 | x0 | x0 | ⟨x0, w0⟩ | x0 | u0
    · cases hs
    · cases hs
      exact js_o_lneg X hM hl hF hS hd hk
    · cases hs
    · cases hs
    · cases hs
    · cases hs
theorem js_s_iand (hC : js_Cl) (X : js_X p s m args meth c D k) (hM : jr_M s0 b n xs D s L g H) (hl : js_L s0 b L (jv_ml k) LS ls) (hS : js_S s0 b L ST st) (hF : js_F s0 s H locs) (hfr : jm_ht k ≤ R.frames) (hlo : jm_rl k ≤ R.locals) {len : Nat} {r : List Nat} {z : Int} (hd : decode (jm_c k) pc = .ok (.iand, len)) (hie : js_i1 k pc (.iand) len r z) {cs : List jv_C} {nx : jv_N} (hs : jv_sx (pc, .iand, len, r, z) ls st L g = some (cs, nx)) (hok : jv_ok cs = true) (hk : js_K p l e R s m args below meth c H locs cells slots Q s0 b n xs D k pc LS ST L g nx) : W p l e R s m args below meth c H locs cells slots Q (F0 m pc LS ST) := by
  have h1 : len = 1 := hie
  subst h1
  cases st with
  | nil => cases hs
  | cons a0 st =>
    rcases a0 with x0 | x0 | x0 | ⟨x0, w0⟩ | x0 | u0
    ·
      cases st with
      | nil => cases hs
      | cons a1 st =>
        rcases a1 with x1 | x1 | x1 | ⟨x1, w1⟩ | x1 | u1
        · cases hs
          exact js_o_iand X hM hl hF hS hd hk.1
        · cases hs
        · cases hs
        · cases hs
        · cases hs
        · cases hs
    · cases hs
    · cases hs
    · cases hs
    · cases hs
    · cases hs
theorem js_s_ior (hC : js_Cl) (X : js_X p s m args meth c D k) (hM : jr_M s0 b n xs D s L g H) (hl : js_L s0 b L (jv_ml k) LS ls) (hS : js_S s0 b L ST st) (hF : js_F s0 s H locs) (hfr : jm_ht k ≤ R.frames) (hlo : jm_rl k ≤ R.locals) {len : Nat} {r : List Nat} {z : Int} (hd : decode (jm_c k) pc = .ok (.ior, len)) (hie : js_i1 k pc (.ior) len r z) {cs : List jv_C} {nx : jv_N} (hs : jv_sx (pc, .ior, len, r, z) ls st L g = some (cs, nx)) (hok : jv_ok cs = true) (hk : js_K p l e R s m args below meth c H locs cells slots Q s0 b n xs D k pc LS ST L g nx) : W p l e R s m args below meth c H locs cells slots Q (F0 m pc LS ST) := by
  have h1 : len = 1 := hie
  subst h1
  cases st with
  | nil => cases hs
  | cons a0 st =>
    rcases a0 with x0 | x0 | x0 | ⟨x0, w0⟩ | x0 | u0
    ·
      cases st with
      | nil => cases hs
      | cons a1 st =>
        rcases a1 with x1 | x1 | x1 | ⟨x1, w1⟩ | x1 | u1
        · cases hs
          exact js_o_ior X hM hl hF hS hd hk.1
        · cases hs
        · cases hs
        · cases hs
        · cases hs
        · cases hs
    · cases hs
    · cases hs
    · cases hs
    · cases hs
    · cases hs
theorem js_s_ixor (hC : js_Cl) (X : js_X p s m args meth c D k) (hM : jr_M s0 b n xs D s L g H) (hl : js_L s0 b L (jv_ml k) LS ls) (hS : js_S s0 b L ST st) (hF : js_F s0 s H locs) (hfr : jm_ht k ≤ R.frames) (hlo : jm_rl k ≤ R.locals) {len : Nat} {r : List Nat} {z : Int} (hd : decode (jm_c k) pc = .ok (.ixor, len)) (hie : js_i1 k pc (.ixor) len r z) {cs : List jv_C} {nx : jv_N} (hs : jv_sx (pc, .ixor, len, r, z) ls st L g = some (cs, nx)) (hok : jv_ok cs = true) (hk : js_K p l e R s m args below meth c H locs cells slots Q s0 b n xs D k pc LS ST L g nx) : W p l e R s m args below meth c H locs cells slots Q (F0 m pc LS ST) := by
  have h1 : len = 1 := hie
  subst h1
  cases st with
  | nil => cases hs
  | cons a0 st =>
    rcases a0 with x0 | x0 | x0 | ⟨x0, w0⟩ | x0 | u0
    ·
      cases st with
      | nil => cases hs
      | cons a1 st =>
        rcases a1 with x1 | x1 | x1 | ⟨x1, w1⟩ | x1 | u1
        · cases hs
          exact js_o_ixor X hM hl hF hS hd hk.1
        · cases hs
        · cases hs
        · cases hs
        · cases hs
        · cases hs
    · cases hs
    · cases hs
    · cases hs
    · cases hs
    · cases hs
theorem js_s_ishl (hC : js_Cl) (X : js_X p s m args meth c D k) (hM : jr_M s0 b n xs D s L g H) (hl : js_L s0 b L (jv_ml k) LS ls) (hS : js_S s0 b L ST st) (hF : js_F s0 s H locs) (hfr : jm_ht k ≤ R.frames) (hlo : jm_rl k ≤ R.locals) {len : Nat} {r : List Nat} {z : Int} (hd : decode (jm_c k) pc = .ok (.ishl, len)) (hie : js_i1 k pc (.ishl) len r z) {cs : List jv_C} {nx : jv_N} (hs : jv_sx (pc, .ishl, len, r, z) ls st L g = some (cs, nx)) (hok : jv_ok cs = true) (hk : js_K p l e R s m args below meth c H locs cells slots Q s0 b n xs D k pc LS ST L g nx) : W p l e R s m args below meth c H locs cells slots Q (F0 m pc LS ST) := by
  have h1 : len = 1 := hie
  subst h1
  cases st with
  | nil => cases hs
  | cons a0 st =>
    rcases a0 with x0 | x0 | x0 | ⟨x0, w0⟩ | x0 | u0
    ·
      cases st with
      | nil => cases hs
      | cons a1 st =>
        rcases a1 with x1 | x1 | x1 | ⟨x1, w1⟩ | x1 | u1
        · cases hs
          exact js_o_ishl X hM hl hF hS hd hk.1
        · cases hs
        · cases hs
        · cases hs
        · cases hs
        · cases hs
    · cases hs
    · cases hs
    · cases hs
    · cases hs
    · cases hs
theorem js_s_ishr (hC : js_Cl) (X : js_X p s m args meth c D k) (hM : jr_M s0 b n xs D s L g H) (hl : js_L s0 b L (jv_ml k) LS ls) (hS : js_S s0 b L ST st) (hF : js_F s0 s H locs) (hfr : jm_ht k ≤ R.frames) (hlo : jm_rl k ≤ R.locals) {len : Nat} {r : List Nat} {z : Int} (hd : decode (jm_c k) pc = .ok (.ishr, len)) (hie : js_i1 k pc (.ishr) len r z) {cs : List jv_C} {nx : jv_N} (hs : jv_sx (pc, .ishr, len, r, z) ls st L g = some (cs, nx)) (hok : jv_ok cs = true) (hk : js_K p l e R s m args below meth c H locs cells slots Q s0 b n xs D k pc LS ST L g nx) : W p l e R s m args below meth c H locs cells slots Q (F0 m pc LS ST) := by
  have h1 : len = 1 := hie
  subst h1
  cases st with
  | nil => cases hs
  | cons a0 st =>
    rcases a0 with x0 | x0 | x0 | ⟨x0, w0⟩ | x0 | u0
    ·
      cases st with
      | nil => cases hs
      | cons a1 st =>
        rcases a1 with x1 | x1 | x1 | ⟨x1, w1⟩ | x1 | u1
        · cases hs
          exact js_o_ishr X hM hl hF hS hd hk.1
        · cases hs
        · cases hs
        · cases hs
        · cases hs
        · cases hs
    · cases hs
    · cases hs
    · cases hs
    · cases hs
    · cases hs
theorem js_s_iushr (hC : js_Cl) (X : js_X p s m args meth c D k) (hM : jr_M s0 b n xs D s L g H) (hl : js_L s0 b L (jv_ml k) LS ls) (hS : js_S s0 b L ST st) (hF : js_F s0 s H locs) (hfr : jm_ht k ≤ R.frames) (hlo : jm_rl k ≤ R.locals) {len : Nat} {r : List Nat} {z : Int} (hd : decode (jm_c k) pc = .ok (.iushr, len)) (hie : js_i1 k pc (.iushr) len r z) {cs : List jv_C} {nx : jv_N} (hs : jv_sx (pc, .iushr, len, r, z) ls st L g = some (cs, nx)) (hok : jv_ok cs = true) (hk : js_K p l e R s m args below meth c H locs cells slots Q s0 b n xs D k pc LS ST L g nx) : W p l e R s m args below meth c H locs cells slots Q (F0 m pc LS ST) := by
  have h1 : len = 1 := hie
  subst h1
  cases st with
  | nil => cases hs
  | cons a0 st =>
    rcases a0 with x0 | x0 | x0 | ⟨x0, w0⟩ | x0 | u0
    ·
      cases st with
      | nil => cases hs
      | cons a1 st =>
        rcases a1 with x1 | x1 | x1 | ⟨x1, w1⟩ | x1 | u1
        · cases hs
          exact js_o_iushr X hM hl hF hS hd hk.1
        · cases hs
        · cases hs
        · cases hs
        · cases hs
        · cases hs
    · cases hs
    · cases hs
    · cases hs
    · cases hs
    · cases hs
theorem js_s_i2b (hC : js_Cl) (X : js_X p s m args meth c D k) (hM : jr_M s0 b n xs D s L g H) (hl : js_L s0 b L (jv_ml k) LS ls) (hS : js_S s0 b L ST st) (hF : js_F s0 s H locs) (hfr : jm_ht k ≤ R.frames) (hlo : jm_rl k ≤ R.locals) {len : Nat} {r : List Nat} {z : Int} (hd : decode (jm_c k) pc = .ok (.i2b, len)) (hie : js_i1 k pc (.i2b) len r z) {cs : List jv_C} {nx : jv_N} (hs : jv_sx (pc, .i2b, len, r, z) ls st L g = some (cs, nx)) (hok : jv_ok cs = true) (hk : js_K p l e R s m args below meth c H locs cells slots Q s0 b n xs D k pc LS ST L g nx) : W p l e R s m args below meth c H locs cells slots Q (F0 m pc LS ST) := by
  have h1 : len = 1 := hie
  subst h1
  cases st with
  | nil => cases hs
  | cons a0 st =>
    rcases a0 with x0 | x0 | x0 | ⟨x0, w0⟩ | x0 | u0
    · cases hs
      exact js_o_i2b X hM hl hF hS hd hk.1
    · cases hs
    · cases hs
    · cases hs
    · cases hs
    · cases hs
theorem js_s_i2s (hC : js_Cl) (X : js_X p s m args meth c D k) (hM : jr_M s0 b n xs D s L g H) (hl : js_L s0 b L (jv_ml k) LS ls) (hS : js_S s0 b L ST st) (hF : js_F s0 s H locs) (hfr : jm_ht k ≤ R.frames) (hlo : jm_rl k ≤ R.locals) {len : Nat} {r : List Nat} {z : Int} (hd : decode (jm_c k) pc = .ok (.i2s, len)) (hie : js_i1 k pc (.i2s) len r z) {cs : List jv_C} {nx : jv_N} (hs : jv_sx (pc, .i2s, len, r, z) ls st L g = some (cs, nx)) (hok : jv_ok cs = true) (hk : js_K p l e R s m args below meth c H locs cells slots Q s0 b n xs D k pc LS ST L g nx) : W p l e R s m args below meth c H locs cells slots Q (F0 m pc LS ST) := by
  have h1 : len = 1 := hie
  subst h1
  cases st with
  | nil => cases hs
  | cons a0 st =>
    rcases a0 with x0 | x0 | x0 | ⟨x0, w0⟩ | x0 | u0
    · cases hs
      exact js_o_i2s X hM hl hF hS hd hk.1
    · cases hs
    · cases hs
    · cases hs
    · cases hs
    · cases hs
theorem js_s_i2l (hC : js_Cl) (X : js_X p s m args meth c D k) (hM : jr_M s0 b n xs D s L g H) (hl : js_L s0 b L (jv_ml k) LS ls) (hS : js_S s0 b L ST st) (hF : js_F s0 s H locs) (hfr : jm_ht k ≤ R.frames) (hlo : jm_rl k ≤ R.locals) {len : Nat} {r : List Nat} {z : Int} (hd : decode (jm_c k) pc = .ok (.i2l, len)) (hie : js_i1 k pc (.i2l) len r z) {cs : List jv_C} {nx : jv_N} (hs : jv_sx (pc, .i2l, len, r, z) ls st L g = some (cs, nx)) (hok : jv_ok cs = true) (hk : js_K p l e R s m args below meth c H locs cells slots Q s0 b n xs D k pc LS ST L g nx) : W p l e R s m args below meth c H locs cells slots Q (F0 m pc LS ST) := by
  have h1 : len = 1 := hie
  subst h1
  cases st with
  | nil => cases hs
  | cons a0 st =>
    rcases a0 with x0 | x0 | x0 | ⟨x0, w0⟩ | x0 | u0
    · cases hs
      exact js_o_i2l X hM hl hF hS hd hk.1
    · cases hs
    · cases hs
    · cases hs
    · cases hs
    · cases hs
theorem js_s_lcmp (hC : js_Cl) (X : js_X p s m args meth c D k) (hM : jr_M s0 b n xs D s L g H) (hl : js_L s0 b L (jv_ml k) LS ls) (hS : js_S s0 b L ST st) (hF : js_F s0 s H locs) (hfr : jm_ht k ≤ R.frames) (hlo : jm_rl k ≤ R.locals) {len : Nat} {r : List Nat} {z : Int} (hd : decode (jm_c k) pc = .ok (.lcmp, len)) (hie : js_i1 k pc (.lcmp) len r z) {cs : List jv_C} {nx : jv_N} (hs : jv_sx (pc, .lcmp, len, r, z) ls st L g = some (cs, nx)) (hok : jv_ok cs = true) (hk : js_K p l e R s m args below meth c H locs cells slots Q s0 b n xs D k pc LS ST L g nx) : W p l e R s m args below meth c H locs cells slots Q (F0 m pc LS ST) := by
  have h1 : len = 1 := hie
  subst h1
  cases st with
  | nil => cases hs
  | cons a0 st =>
    rcases a0 with x0 | x0 | x0 | ⟨x0, w0⟩ | x0 | u0
    · cases hs
    ·
      cases st with
      | nil => cases hs
      | cons a1 st =>
        rcases a1 with x1 | x1 | x1 | ⟨x1, w1⟩ | x1 | u1
        · cases hs
        · cases hs
          exact js_o_lcmp X hM hl hF hS hd hk.1
        · cases hs
        · cases hs
        · cases hs
        · cases hs
    · cases hs
    · cases hs
    · cases hs
    · cases hs
theorem js_s_idiv (hC : js_Cl) (X : js_X p s m args meth c D k) (hM : jr_M s0 b n xs D s L g H) (hl : js_L s0 b L (jv_ml k) LS ls) (hS : js_S s0 b L ST st) (hF : js_F s0 s H locs) (hfr : jm_ht k ≤ R.frames) (hlo : jm_rl k ≤ R.locals) {len : Nat} {r : List Nat} {z : Int} (hd : decode (jm_c k) pc = .ok (.idiv, len)) (hie : js_i1 k pc (.idiv) len r z) {cs : List jv_C} {nx : jv_N} (hs : jv_sx (pc, .idiv, len, r, z) ls st L g = some (cs, nx)) (hok : jv_ok cs = true) (hk : js_K p l e R s m args below meth c H locs cells slots Q s0 b n xs D k pc LS ST L g nx) : W p l e R s m args below meth c H locs cells slots Q (F0 m pc LS ST) := by
  have h1 : len = 1 := hie
  subst h1
  cases st with
  | nil => cases hs
  | cons a0 st =>
    rcases a0 with x0 | x0 | x0 | ⟨x0, w0⟩ | x0 | u0
    ·
      cases st with
      | nil => cases hs
      | cons a1 st =>
        rcases a1 with x1 | x1 | x1 | ⟨x1, w1⟩ | x1 | u1
        · cases hs
          exact js_o_idiv X hM hl hF hS hd (jv_ok1 hok) hk.1
        · cases hs
        · cases hs
        · cases hs
        · cases hs
        · cases hs
    · cases hs
    · cases hs
    · cases hs
    · cases hs
    · cases hs
theorem js_s_irem (hC : js_Cl) (X : js_X p s m args meth c D k) (hM : jr_M s0 b n xs D s L g H) (hl : js_L s0 b L (jv_ml k) LS ls) (hS : js_S s0 b L ST st) (hF : js_F s0 s H locs) (hfr : jm_ht k ≤ R.frames) (hlo : jm_rl k ≤ R.locals) {len : Nat} {r : List Nat} {z : Int} (hd : decode (jm_c k) pc = .ok (.irem, len)) (hie : js_i1 k pc (.irem) len r z) {cs : List jv_C} {nx : jv_N} (hs : jv_sx (pc, .irem, len, r, z) ls st L g = some (cs, nx)) (hok : jv_ok cs = true) (hk : js_K p l e R s m args below meth c H locs cells slots Q s0 b n xs D k pc LS ST L g nx) : W p l e R s m args below meth c H locs cells slots Q (F0 m pc LS ST) := by
  have h1 : len = 1 := hie
  subst h1
  cases st with
  | nil => cases hs
  | cons a0 st =>
    rcases a0 with x0 | x0 | x0 | ⟨x0, w0⟩ | x0 | u0
    ·
      cases st with
      | nil => cases hs
      | cons a1 st =>
        rcases a1 with x1 | x1 | x1 | ⟨x1, w1⟩ | x1 | u1
        · cases hs
          exact js_o_irem X hM hl hF hS hd (jv_ok1 hok) hk.1
        · cases hs
        · cases hs
        · cases hs
        · cases hs
        · cases hs
    · cases hs
    · cases hs
    · cases hs
    · cases hs
    · cases hs
theorem js_s_ldiv (hC : js_Cl) (X : js_X p s m args meth c D k) (hM : jr_M s0 b n xs D s L g H) (hl : js_L s0 b L (jv_ml k) LS ls) (hS : js_S s0 b L ST st) (hF : js_F s0 s H locs) (hfr : jm_ht k ≤ R.frames) (hlo : jm_rl k ≤ R.locals) {len : Nat} {r : List Nat} {z : Int} (hd : decode (jm_c k) pc = .ok (.ldiv, len)) (hie : js_i1 k pc (.ldiv) len r z) {cs : List jv_C} {nx : jv_N} (hs : jv_sx (pc, .ldiv, len, r, z) ls st L g = some (cs, nx)) (hok : jv_ok cs = true) (hk : js_K p l e R s m args below meth c H locs cells slots Q s0 b n xs D k pc LS ST L g nx) : W p l e R s m args below meth c H locs cells slots Q (F0 m pc LS ST) := by
  have h1 : len = 1 := hie
  subst h1
  cases st with
  | nil => cases hs
  | cons a0 st =>
    rcases a0 with x0 | x0 | x0 | ⟨x0, w0⟩ | x0 | u0
    · cases hs
    ·
      cases st with
      | nil => cases hs
      | cons a1 st =>
        rcases a1 with x1 | x1 | x1 | ⟨x1, w1⟩ | x1 | u1
        · cases hs
        · cases hs
          exact js_o_ldiv X hM hl hF hS hd (jv_ok1 hok) hk.1
        · cases hs
        · cases hs
        · cases hs
        · cases hs
    · cases hs
    · cases hs
    · cases hs
    · cases hs
theorem js_s_lrem (hC : js_Cl) (X : js_X p s m args meth c D k) (hM : jr_M s0 b n xs D s L g H) (hl : js_L s0 b L (jv_ml k) LS ls) (hS : js_S s0 b L ST st) (hF : js_F s0 s H locs) (hfr : jm_ht k ≤ R.frames) (hlo : jm_rl k ≤ R.locals) {len : Nat} {r : List Nat} {z : Int} (hd : decode (jm_c k) pc = .ok (.lrem, len)) (hie : js_i1 k pc (.lrem) len r z) {cs : List jv_C} {nx : jv_N} (hs : jv_sx (pc, .lrem, len, r, z) ls st L g = some (cs, nx)) (hok : jv_ok cs = true) (hk : js_K p l e R s m args below meth c H locs cells slots Q s0 b n xs D k pc LS ST L g nx) : W p l e R s m args below meth c H locs cells slots Q (F0 m pc LS ST) := by
  have h1 : len = 1 := hie
  subst h1
  cases st with
  | nil => cases hs
  | cons a0 st =>
    rcases a0 with x0 | x0 | x0 | ⟨x0, w0⟩ | x0 | u0
    · cases hs
    ·
      cases st with
      | nil => cases hs
      | cons a1 st =>
        rcases a1 with x1 | x1 | x1 | ⟨x1, w1⟩ | x1 | u1
        · cases hs
        · cases hs
          exact js_o_lrem X hM hl hF hS hd (jv_ok1 hok) hk.1
        · cases hs
        · cases hs
        · cases hs
        · cases hs
    · cases hs
    · cases hs
    · cases hs
    · cases hs
theorem js_s_dup (hC : js_Cl) (X : js_X p s m args meth c D k) (hM : jr_M s0 b n xs D s L g H) (hl : js_L s0 b L (jv_ml k) LS ls) (hS : js_S s0 b L ST st) (hF : js_F s0 s H locs) (hfr : jm_ht k ≤ R.frames) (hlo : jm_rl k ≤ R.locals) {len : Nat} {r : List Nat} {z : Int} (hd : decode (jm_c k) pc = .ok (.dup, len)) (hie : js_i1 k pc (.dup) len r z) {cs : List jv_C} {nx : jv_N} (hs : jv_sx (pc, .dup, len, r, z) ls st L g = some (cs, nx)) (hok : jv_ok cs = true) (hk : js_K p l e R s m args below meth c H locs cells slots Q s0 b n xs D k pc LS ST L g nx) : W p l e R s m args below meth c H locs cells slots Q (F0 m pc LS ST) := by
  have h1 : len = 1 := hie
  subst h1
  cases st with
  | nil => cases hs
  | cons a st =>
    rcases a with x | x | x | ⟨x, w⟩ | x | u
    · cases hs
      exact js_o_dup X hM hl hF hS (by simp) hd hk.1
    · cases hs
    · cases hs
      exact js_o_dup X hM hl hF hS (by simp) hd hk.1
    · cases hs
      exact js_o_dup X hM hl hF hS (by simp) hd hk.1
    · cases hs
      exact js_o_dup X hM hl hF hS (by simp) hd hk.1
    · obtain ⟨v, vs, rfl, hu, -⟩ := hS.cons
      exact absurd rfl hu
theorem js_s_dup2 (hC : js_Cl) (X : js_X p s m args meth c D k) (hM : jr_M s0 b n xs D s L g H) (hl : js_L s0 b L (jv_ml k) LS ls) (hS : js_S s0 b L ST st) (hF : js_F s0 s H locs) (hfr : jm_ht k ≤ R.frames) (hlo : jm_rl k ≤ R.locals) {len : Nat} {r : List Nat} {z : Int} (hd : decode (jm_c k) pc = .ok (.dup2, len)) (hie : js_i1 k pc (.dup2) len r z) {cs : List jv_C} {nx : jv_N} (hs : jv_sx (pc, .dup2, len, r, z) ls st L g = some (cs, nx)) (hok : jv_ok cs = true) (hk : js_K p l e R s m args below meth c H locs cells slots Q s0 b n xs D k pc LS ST L g nx) : W p l e R s m args below meth c H locs cells slots Q (F0 m pc LS ST) := by
  have h1 : len = 1 := hie
  subst h1
  cases st with
  | nil => cases hs
  | cons a st =>
    rcases a with x | x | x | ⟨x, w⟩ | x | u
    · cases st with
      | nil => cases hs
      | cons a st =>
        rcases a with y | y | y | ⟨y, w⟩ | y | u
        · cases hs
          exact js_o_dup2 X hM hl hF hS (by simp) hd hk.1
        · cases hs
        · cases hs
          exact js_o_dup2 X hM hl hF hS (by simp) hd hk.1
        · cases hs
          exact js_o_dup2 X hM hl hF hS (by simp) hd hk.1
        · cases hs
          exact js_o_dup2 X hM hl hF hS (by simp) hd hk.1
        · obtain ⟨w, vs1, rfl, -, hS1⟩ := hS.cI
          obtain ⟨v, vs, rfl, hu, -⟩ := hS1.cons
          exact absurd rfl hu
    · cases hs
    · cases hs
    · cases hs
    · cases hs
    · cases hs
theorem js_s_goto (hC : js_Cl) (X : js_X p s m args meth c D k) (hM : jr_M s0 b n xs D s L g H) (hl : js_L s0 b L (jv_ml k) LS ls) (hS : js_S s0 b L ST st) (hF : js_F s0 s H locs) (hfr : jm_ht k ≤ R.frames) (hlo : jm_rl k ≤ R.locals) {len : Nat} {r : List Nat} {z : Int} {off : Int} (hd : decode (jm_c k) pc = .ok (.goto off, len)) (hie : js_i1 k pc (.goto off) len r z) {cs : List jv_C} {nx : jv_N} (hs : jv_sx (pc, .goto off, len, r, z) ls st L g = some (cs, nx)) (hok : jv_ok cs = true) (hk : js_K p l e R s m args below meth c H locs cells slots Q s0 b n xs D k pc LS ST L g nx) : W p l e R s m args below meth c H locs cells slots Q (F0 m pc LS ST) := by
  obtain ⟨rfl, ht⟩ := hie
  match r, hs with
  | [t], hs =>
    cases hs
    exact js_o_goto X hM hl hF hS (ht t rfl) hd hk.1
theorem js_s_ifCond (hC : js_Cl) (X : js_X p s m args meth c D k) (hM : jr_M s0 b n xs D s L g H) (hl : js_L s0 b L (jv_ml k) LS ls) (hS : js_S s0 b L ST st) (hF : js_F s0 s H locs) (hfr : jm_ht k ≤ R.frames) (hlo : jm_rl k ≤ R.locals) {len : Nat} {r : List Nat} {z : Int} {cd : Jvm.ClassFile.Cond} {off : Int} (hd : decode (jm_c k) pc = .ok (.ifCond cd off, len)) (hie : js_i1 k pc (.ifCond cd off) len r z) {cs : List jv_C} {nx : jv_N} (hs : jv_sx (pc, .ifCond cd off, len, r, z) ls st L g = some (cs, nx)) (hok : jv_ok cs = true) (hk : js_K p l e R s m args below meth c H locs cells slots Q s0 b n xs D k pc LS ST L g nx) : W p l e R s m args below meth c H locs cells slots Q (F0 m pc LS ST) := by
  obtain ⟨rfl, ht⟩ := hie
  match r, hs with
  | [t], hs =>
    cases st with
    | nil => cases hs
    | cons a0 st =>
      rcases a0 with x0 | x0 | x0 | ⟨x0, w0⟩ | x0 | u0
      · cases cd
        · cases hs
          exact js_o_if_eq X hM hl hF hS (ht t rfl) hd hk.1
        · cases hs
          exact js_o_if_ne X hM hl hF hS (ht t rfl) hd hk.1
        · cases hs
          exact js_o_if_lt X hM hl hF hS (ht t rfl) hd hk.1
        · cases hs
          exact js_o_if_ge X hM hl hF hS (ht t rfl) hd hk.1
        · cases hs
          exact js_o_if_gt X hM hl hF hS (ht t rfl) hd hk.1
        · cases hs
          exact js_o_if_le X hM hl hF hS (ht t rfl) hd hk.1
      · cases hs
      · cases hs
      · cases hs
      · cases hs
      · cases hs
  | [], hs =>
    unfold jv_sx jv_st at hs
    dsimp only at hs
    split at hs <;> first | (cases hs; done) | (injections; done) | (exfalso; simp_all; done)
  | _ :: _ :: _, hs =>
    unfold jv_sx jv_st at hs
    dsimp only at hs
    split at hs <;> first | (cases hs; done) | (injections; done) | (exfalso; simp_all; done)
theorem js_s_if_icmp (hC : js_Cl) (X : js_X p s m args meth c D k) (hM : jr_M s0 b n xs D s L g H) (hl : js_L s0 b L (jv_ml k) LS ls) (hS : js_S s0 b L ST st) (hF : js_F s0 s H locs) (hfr : jm_ht k ≤ R.frames) (hlo : jm_rl k ≤ R.locals) {len : Nat} {r : List Nat} {z : Int} {cd : Jvm.ClassFile.Cond} {off : Int} (hd : decode (jm_c k) pc = .ok (.if_icmp cd off, len)) (hie : js_i1 k pc (.if_icmp cd off) len r z) {cs : List jv_C} {nx : jv_N} (hs : jv_sx (pc, .if_icmp cd off, len, r, z) ls st L g = some (cs, nx)) (hok : jv_ok cs = true) (hk : js_K p l e R s m args below meth c H locs cells slots Q s0 b n xs D k pc LS ST L g nx) : W p l e R s m args below meth c H locs cells slots Q (F0 m pc LS ST) := by
  obtain ⟨rfl, ht⟩ := hie
  match r, hs with
  | [t], hs =>
    cases st with
    | nil => cases hs
    | cons a0 st =>
      rcases a0 with x0 | x0 | x0 | ⟨x0, w0⟩ | x0 | u0
      ·
        cases st with
        | nil => cases hs
        | cons a1 st =>
          rcases a1 with x1 | x1 | x1 | ⟨x1, w1⟩ | x1 | u1
          · cases cd
            · cases hs
              exact js_o_icmp_eq X hM hl hF hS (ht t rfl) hd hk.1
            · cases hs
              exact js_o_icmp_ne X hM hl hF hS (ht t rfl) hd hk.1
            · cases hs
              exact js_o_icmp_lt X hM hl hF hS (ht t rfl) hd hk.1
            · cases hs
              exact js_o_icmp_ge X hM hl hF hS (ht t rfl) hd hk.1
            · cases hs
              exact js_o_icmp_gt X hM hl hF hS (ht t rfl) hd hk.1
            · cases hs
              exact js_o_icmp_le X hM hl hF hS (ht t rfl) hd hk.1
          · cases hs
          · cases hs
          · cases hs
          · cases hs
          · cases hs
      · cases hs
      · cases hs
      · cases hs
      · cases hs
      · cases hs
  | [], hs =>
    unfold jv_sx jv_st at hs
    dsimp only at hs
    split at hs <;> first | (cases hs; done) | (injections; done) | (exfalso; simp_all; done)
  | _ :: _ :: _, hs =>
    unfold jv_sx jv_st at hs
    dsimp only at hs
    split at hs <;> first | (cases hs; done) | (injections; done) | (exfalso; simp_all; done)
theorem js_s_ifnull (hC : js_Cl) (X : js_X p s m args meth c D k) (hM : jr_M s0 b n xs D s L g H) (hl : js_L s0 b L (jv_ml k) LS ls) (hS : js_S s0 b L ST st) (hF : js_F s0 s H locs) (hfr : jm_ht k ≤ R.frames) (hlo : jm_rl k ≤ R.locals) {len : Nat} {r : List Nat} {z : Int} {off : Int} (hd : decode (jm_c k) pc = .ok (.ifnull off, len)) (hie : js_i1 k pc (.ifnull off) len r z) {cs : List jv_C} {nx : jv_N} (hs : jv_sx (pc, .ifnull off, len, r, z) ls st L g = some (cs, nx)) (hok : jv_ok cs = true) (hk : js_K p l e R s m args below meth c H locs cells slots Q s0 b n xs D k pc LS ST L g nx) : W p l e R s m args below meth c H locs cells slots Q (F0 m pc LS ST) := by
  obtain ⟨rfl, ht⟩ := hie
  match r, hs with
  | [t], hs =>
    cases st with
    | nil => cases hs
    | cons a st =>
      rcases a with x | x | x | ⟨x, w⟩ | x | u
      · cases hs
      · cases hs
      · cases hs
      · cases hs
      · cases hs
        exact js_o_ifnull X hM hl hF hS (ht t rfl) hd hk.1
      · cases hs
  | [], hs =>
    unfold jv_sx jv_st at hs
    dsimp only at hs
    split at hs <;> first | (cases hs; done) | (injections; done) | (exfalso; simp_all; done)
  | _ :: _ :: _, hs =>
    unfold jv_sx jv_st at hs
    dsimp only at hs
    split at hs <;> first | (cases hs; done) | (injections; done) | (exfalso; simp_all; done)
theorem js_s_ifnonnull (hC : js_Cl) (X : js_X p s m args meth c D k) (hM : jr_M s0 b n xs D s L g H) (hl : js_L s0 b L (jv_ml k) LS ls) (hS : js_S s0 b L ST st) (hF : js_F s0 s H locs) (hfr : jm_ht k ≤ R.frames) (hlo : jm_rl k ≤ R.locals) {len : Nat} {r : List Nat} {z : Int} {off : Int} (hd : decode (jm_c k) pc = .ok (.ifnonnull off, len)) (hie : js_i1 k pc (.ifnonnull off) len r z) {cs : List jv_C} {nx : jv_N} (hs : jv_sx (pc, .ifnonnull off, len, r, z) ls st L g = some (cs, nx)) (hok : jv_ok cs = true) (hk : js_K p l e R s m args below meth c H locs cells slots Q s0 b n xs D k pc LS ST L g nx) : W p l e R s m args below meth c H locs cells slots Q (F0 m pc LS ST) := by
  obtain ⟨rfl, ht⟩ := hie
  match r, hs with
  | [t], hs =>
    cases st with
    | nil => cases hs
    | cons a st =>
      rcases a with x | x | x | ⟨x, w⟩ | x | u
      · cases hs
      · cases hs
      · cases hs
      · cases hs
      · cases hs
        exact js_o_ifnonnull X hM hl hF hS (ht t rfl) hd hk.1
      · cases hs
  | [], hs =>
    unfold jv_sx jv_st at hs
    dsimp only at hs
    split at hs <;> first | (cases hs; done) | (injections; done) | (exfalso; simp_all; done)
  | _ :: _ :: _, hs =>
    unfold jv_sx jv_st at hs
    dsimp only at hs
    split at hs <;> first | (cases hs; done) | (injections; done) | (exfalso; simp_all; done)
theorem js_s_ireturn (hC : js_Cl) (X : js_X p s m args meth c D k) (hM : jr_M s0 b n xs D s L g H) (hl : js_L s0 b L (jv_ml k) LS ls) (hS : js_S s0 b L ST st) (hF : js_F s0 s H locs) (hfr : jm_ht k ≤ R.frames) (hlo : jm_rl k ≤ R.locals) {len : Nat} {r : List Nat} {z : Int} (hd : decode (jm_c k) pc = .ok (.ireturn, len)) (hie : js_i1 k pc (.ireturn) len r z) {cs : List jv_C} {nx : jv_N} (hs : jv_sx (pc, .ireturn, len, r, z) ls st L g = some (cs, nx)) (hok : jv_ok cs = true) (hk : js_K p l e R s m args below meth c H locs cells slots Q s0 b n xs D k pc LS ST L g nx) : W p l e R s m args below meth c H locs cells slots Q (F0 m pc LS ST) := by
  obtain ⟨rfl, h1, h2⟩ := hie
  match st, r, hs, hS with
  | [.inl x], [0], hs, hS =>
    cases hs
    obtain ⟨w, vs, rfl, hw, hS1⟩ := hS.cI
    cases vs with
    | cons => exact hS1.elim
    | nil => exact hk rfl rfl (Or.inl ⟨x, w, rfl, hw, rfl, hd, Or.inl (h1 rfl)⟩)
  | [.inl x], [1], hs, hS =>
    cases hs
    obtain ⟨w, vs, rfl, hw, hS1⟩ := hS.cI
    cases vs with
    | cons => exact hS1.elim
    | nil => exact hk rfl rfl (Or.inl ⟨x, w, rfl, hw, rfl, hd, Or.inr ⟨h2 rfl, jv_ok1 hok⟩⟩)
theorem js_s_lreturn (hC : js_Cl) (X : js_X p s m args meth c D k) (hM : jr_M s0 b n xs D s L g H) (hl : js_L s0 b L (jv_ml k) LS ls) (hS : js_S s0 b L ST st) (hF : js_F s0 s H locs) (hfr : jm_ht k ≤ R.frames) (hlo : jm_rl k ≤ R.locals) {len : Nat} {r : List Nat} {z : Int} (hd : decode (jm_c k) pc = .ok (.lreturn, len)) (hie : js_i1 k pc (.lreturn) len r z) {cs : List jv_C} {nx : jv_N} (hs : jv_sx (pc, .lreturn, len, r, z) ls st L g = some (cs, nx)) (hok : jv_ok cs = true) (hk : js_K p l e R s m args below meth c H locs cells slots Q s0 b n xs D k pc LS ST L g nx) : W p l e R s m args below meth c H locs cells slots Q (F0 m pc LS ST) := by
  obtain ⟨rfl, h1⟩ := hie
  match st, hs, hS with
  | [.inr (.inl x)], hs, hS =>
    cases hs
    obtain ⟨w, vs, rfl, hw, hS1⟩ := hS.cJ
    cases vs with
    | cons => exact hS1.elim
    | nil => exact hk rfl rfl (Or.inr (Or.inl ⟨x, w, rfl, hw, rfl, hd, h1⟩))
theorem js_s_areturn (hC : js_Cl) (X : js_X p s m args meth c D k) (hM : jr_M s0 b n xs D s L g H) (hl : js_L s0 b L (jv_ml k) LS ls) (hS : js_S s0 b L ST st) (hF : js_F s0 s H locs) (hfr : jm_ht k ≤ R.frames) (hlo : jm_rl k ≤ R.locals) {len : Nat} {r : List Nat} {z : Int} (hd : decode (jm_c k) pc = .ok (.areturn, len)) (hie : js_i1 k pc (.areturn) len r z) {cs : List jv_C} {nx : jv_N} (hs : jv_sx (pc, .areturn, len, r, z) ls st L g = some (cs, nx)) (hok : jv_ok cs = true) (hk : js_K p l e R s m args below meth c H locs cells slots Q s0 b n xs D k pc LS ST L g nx) : W p l e R s m args below meth c H locs cells slots Q (F0 m pc LS ST) := by
  obtain ⟨rfl, h1⟩ := hie
  match st, hs, hS with
  | [.inr (.inr (.inr (.inr (.inl x))))], hs, hS =>
    cases hs
    obtain ⟨v, vs, rfl, -, hv, hS1⟩ := hS.cons
    cases vs with
    | cons => exact hS1.elim
    | nil => exact hk rfl rfl (Or.inr (Or.inr (Or.inl ⟨x, v, rfl, hv, rfl, hd, h1⟩)))
theorem js_s_return (hC : js_Cl) (X : js_X p s m args meth c D k) (hM : jr_M s0 b n xs D s L g H) (hl : js_L s0 b L (jv_ml k) LS ls) (hS : js_S s0 b L ST st) (hF : js_F s0 s H locs) (hfr : jm_ht k ≤ R.frames) (hlo : jm_rl k ≤ R.locals) {len : Nat} {r : List Nat} {z : Int} (hd : decode (jm_c k) pc = .ok (.return_, len)) (hie : js_i1 k pc (.return_) len r z) {cs : List jv_C} {nx : jv_N} (hs : jv_sx (pc, .return_, len, r, z) ls st L g = some (cs, nx)) (hok : jv_ok cs = true) (hk : js_K p l e R s m args below meth c H locs cells slots Q s0 b n xs D k pc LS ST L g nx) : W p l e R s m args below meth c H locs cells slots Q (F0 m pc LS ST) := by
  obtain ⟨rfl, h1⟩ := hie
  match st, hs, hS with
  | [], hs, hS =>
    cases hs
    cases ST with
    | cons => exact hS.elim
    | nil => exact hk rfl rfl (Or.inr (Or.inr (Or.inr ⟨rfl, rfl, hd, h1⟩)))
end
