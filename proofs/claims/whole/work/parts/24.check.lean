/-! ===== a check of each instruction against the links ===== -/
def jm_oc (k : Nat) : Nat := (jm_e k).1
def js_fin (ci f : Nat) : Bool := match vwCl[ci]? with
  | some r => (r.2.1 f).2.2.2
  | none => false
def js_ckI (k i x : Nat) (r : List Nat) : Bool := match r with
  | [k', c, rc] => decide (k' < 224 ∧ jm_ht k' + 1 ≤ jm_ht k ∧ 8 + (jv_ml k' + 11) + jm_rl k' ≤ jm_rl k ∧ (jm_oc k, x, k') ∈ js_ML ∧ (k', i, c - (if rc = 0 then 0 else 1), rc) ∈ js_MK ∧ (rc = 0 ∨ 0 < c))
  | _ => true
def js_ck (k pc : Nat) (i : Instr) (len : Nat) (r : List Nat) (z : Int) : Bool := match i with
  | .iconst n => decide (len = 1 ∧ (Int32.ofInt n).toInt = z)
  | .bipush n => decide (len = 2 ∧ (Int8.ofInt n).toInt32.toInt = z)
  | .sipush n => decide (len = 3 ∧ (Int16.ofInt n).toInt32.toInt = z)
  | .ldc_w x => decide (len = 3 ∧ (jm_oc k, x, z) ∈ js_KI)
  | .lconst n => decide (len = 1 ∧ (Int64.ofNat n.val).toInt = z)
  | .ldc2_w x => decide (len = 3 ∧ (jm_oc k, x, z) ∈ js_KJ)
  | .iload _ | .lload _ | .aload _ | .istore _ | .lstore _ | .astore _ => decide (len = 2)
  | .iinc _ c => decide (len = 3 ∧ (Int32.ofInt c).toInt = c)
  | .goto off | .ifCond _ off | .if_icmp _ off | .ifnull off | .ifnonnull off => decide (len = 3) && (match r with
    | [t] => decide ((pc : Int) + off = (t : Int))
    | _ => true)
  | .tableswitch dflt lo hi offs => match r with
    | d :: ts => decide ((pc : Int) + dflt = (d : Int) ∧ ts.length = offs.size ∧ hi = lo + (ts.length : Int) - 1) && (ts.zip offs.toList).all (fun q => decide ((pc : Int) + q.2 = (q.1 : Int)))
    | [] => true
  | .lookupswitch dflt ps => (ps.toList.zip (ps.toList.drop 1)).all (fun (a, next) => a.1 < next.1) && (match r with
    | d :: ts => decide ((pc : Int) + dflt = (d : Int) ∧ ts.length = ps.toList.length) && (ts.zip ps.toList).all (fun q => decide ((pc : Int) + q.2.2 = (q.1 : Int)))
    | [] => true)
  | .getfield x => match r with
    | [kd, f, ty] => decide (len = 3 ∧ (jm_oc k, x, kd, f) ∈ js_FL ∧ jv_ft (kd - 10) f = ty)
    | _ => decide (len = 3)
  | .putfield x => match r with
    | [kd, f, ty] => decide (len = 3 ∧ (jm_oc k, x, kd, f) ∈ js_FL ∧ jv_ft (kd - 10) f = ty ∧ (js_fin (kd - 10) f = true → (jm_y k).name = "<init>" ∧ jm_oc k = kd - 10))
    | _ => decide (len = 3)
  | .invokevirtual x => decide (len = 3 ∧ r.length ≠ 1) && js_ckI k 0 x r
  | .invokespecial x => decide (len = 3) && js_ckI k 1 x r && decide ((r = [1001] → (jm_oc k, x) ∈ js_OL ∧ 1 ≤ jm_ht k ∧ 20 ≤ jm_rl k) ∧ (r.length = 1 → r = [1001]))
  | .invokestatic x => decide (len = 3) && js_ckI k 2 x r && decide ((r = [1000] → (jm_oc k, x) ∈ js_AL ∧ 1 ≤ jm_ht k ∧ 60 ≤ jm_rl k) ∧ r ≠ [1001] ∧ (r = [1002] → (jm_oc k, x) ∈ js_X2 ∧ 1 ≤ jm_ht k ∧ 30 ≤ jm_rl k) ∧ (r = [1003] → (jm_oc k, x) ∈ js_X3 ∧ 1 ≤ jm_ht k ∧ 30 ≤ jm_rl k) ∧ (r = [1004] → (jm_oc k, x) ∈ js_X4 ∧ 1 ≤ jm_ht k ∧ 30 ≤ jm_rl k))
  | .new x => match r with
    | [ci, ns] => decide (len = 3 ∧ (jm_oc k, x, ci) ∈ js_CL ∧ ((vwCl[ci]?).map (fun r => r.2.2)) = some ns)
    | _ => decide (len = 3)
  | .newarray .int => decide (len = 2)
  | .newarray .long => decide (len = 2)
  | .anewarray x => decide (len = 3 ∧ (jm_oc k, x) ∈ js_LL)
  | .multianewarray x d => decide (len = 4 ∧ d = 2 ∧ (jm_oc k, x) ∈ js_RL)
  | .ireturn => decide (len = 1 ∧ (r = [0] → jm_ret k = some .int) ∧ (r = [1] → jm_ret k = some .boolean))
  | .lreturn => decide (len = 1 ∧ jm_ret k = some .long)
  | .areturn => decide (len = 1 ∧ jm_ret k = some (.object "LaneWaits$Load"))
  | .return_ => decide (len = 1 ∧ jm_ret k = none)
  | _ => decide (len = 1)
theorem js_zip {α β : Type} {P : α × β → Prop} : ∀ (l : List α) (m : List β), (∀ q ∈ l.zip m, P q) → ∀ (j : Nat) (a : α) (c : β), l[j]? = some a → m[j]? = some c → P (a, c)
  | [], _, _, j, a, c, h, _ => by cases h
  | _ :: _, [], _, j, a, c, _, h => by cases h
  | x :: l, y :: m, hP, 0, a, c, h1, h2 => by
    cases h1
    cases h2
    exact hP _ List.mem_cons_self
  | x :: l, y :: m, hP, j + 1, a, c, h1, h2 => js_zip l m (fun q hq => hP q (List.mem_cons_of_mem _ hq)) j a c h1 h2
theorem js_on_vw : ∀ (ci : Nat) (C : String) (T : u_T) (N : Nat), vwCl[ci]? = some (C, T, N) → jm_on.getD ci "" = C := by
  intro ci C T N h
  have hl : ci < 13 := (List.getElem?_eq_some_iff.mp h).1
  rcases (show ci = 0 ∨ ci = 1 ∨ ci = 2 ∨ ci = 3 ∨ ci = 4 ∨ ci = 5 ∨ ci = 6 ∨ ci = 7 ∨ ci = 8 ∨ ci = 9 ∨ ci = 10 ∨ ci = 11 ∨ ci = 12 by omega) with rfl | rfl | rfl | rfl | rfl | rfl | rfl | rfl | rfl | rfl | rfl | rfl | rfl <;> cases h <;> rfl
theorem js_ckI_ok {k i x : Nat} {r : List Nat} (hi : i ≤ 2) (h : js_ckI k i x r = true) : ∀ k' c rc : Nat, r = [k', c, rc] → js_iv k x i k' c rc := by
  rintro k' c rc rfl
  have h := of_decide_eq_true (show decide _ = true from h)
  obtain ⟨h1, h2, h3, h4, h5, h6⟩ := h
  have m1 := js_ML_ok _ h4
  have m2 := js_MK_ok _ h5
  dsimp only at m1 m2
  refine ⟨h1, trivial, h2, h3, m1, m2.1, ?_⟩
  rcases m2.2 with ⟨rfl, a2, a3⟩ | ⟨rfl, a2, a3, a4, a5, a6⟩ | ⟨rfl, a2, a3, a4, a5, a6⟩
  · rw [if_pos rfl]
    exact ⟨a3, a2⟩
  · rw [if_neg (by decide)]
    refine ⟨by omega, a3, a2, a4, ?_⟩
    rw [if_pos rfl]
    exact ⟨a5, a6⟩
  · rw [if_neg (by decide)]
    refine ⟨by omega, a3, a2, a4, ?_⟩
    rw [if_neg (by decide)]
    exact ⟨a5, a6⟩
theorem js_fl_of {k x kd f ty : Nat} (h : (jm_oc k, x, kd, f) ∈ js_FL) (ht : jv_ft (kd - 10) f = ty) : js_fl k x kd f ty := by
  obtain ⟨h1, C, T, N, h2, h3, h4, h5⟩ := js_FL_ok _ h
  exact ⟨h1, C, T, N, h2, h3, h4, h5, ht⟩
theorem js_ck_br {pc len : Nat} {r : List Nat} {off : Int} (h : (decide (len = 3) && (match r with
    | [t] => decide ((pc : Int) + off = (t : Int))
    | _ => true)) = true) : len = 3 ∧ ∀ t : Nat, r = [t] → (pc : Int) + off = (t : Int) := by
  rw [Bool.and_eq_true] at h
  obtain ⟨h1, h2⟩ := h
  refine ⟨of_decide_eq_true h1, ?_⟩
  rintro t rfl
  exact of_decide_eq_true h2
theorem js_ck_ok {k pc : Nat} {i : Instr} {len : Nat} {r : List Nat} {z : Int} (h : js_ck k pc i len r z = true) : js_i1 k pc i len r z := by
  cases i with
  | iconst n =>
    have h2 := of_decide_eq_true (show decide _ = true from h)
    exact h2
  | bipush n =>
    have h2 := of_decide_eq_true (show decide _ = true from h)
    exact h2
  | sipush n =>
    have h2 := of_decide_eq_true (show decide _ = true from h)
    exact h2
  | ldc_w x =>
    obtain ⟨h1, h2⟩ := of_decide_eq_true (show decide _ = true from h)
    exact ⟨h1, js_KI_ok _ h2⟩
  | lconst n =>
    have h2 := of_decide_eq_true (show decide _ = true from h)
    exact h2
  | ldc2_w x =>
    obtain ⟨h1, h2⟩ := of_decide_eq_true (show decide _ = true from h)
    exact ⟨h1, js_KJ_ok _ h2⟩
  | iinc a c =>
    have h2 := of_decide_eq_true (show decide _ = true from h)
    exact h2
  | goto off => exact js_ck_br h
  | ifCond c off => exact js_ck_br h
  | if_icmp c off => exact js_ck_br h
  | ifnull off => exact js_ck_br h
  | ifnonnull off => exact js_ck_br h
  | tableswitch df lo hi offs =>
    rintro d ts rfl
    have h : (decide ((pc : Int) + df = (d : Int) ∧ ts.length = offs.size ∧ hi = lo + (ts.length : Int) - 1) && (ts.zip offs.toList).all (fun q => decide ((pc : Int) + q.2 = (q.1 : Int)))) = true := h
    rw [Bool.and_eq_true] at h
    obtain ⟨h1, h2, h3⟩ := of_decide_eq_true h.1
    refine ⟨h1, h2, h3, fun j t off a b => ?_⟩
    exact js_zip (P := fun (q : Nat × Int) => (pc : Int) + q.2 = (q.1 : Int)) ts offs.toList (fun q hq => of_decide_eq_true (List.all_eq_true.mp h.2 q hq)) j t off a (by rw [Array.getElem?_toList]; exact b)
  | lookupswitch df ps =>
    unfold js_ck at h
    dsimp only at h
    rw [Bool.and_eq_true] at h
    refine ⟨h.1, ?_⟩
    rintro d ts rfl
    have h2 := h.2
    dsimp only at h2
    rw [Bool.and_eq_true] at h2
    obtain ⟨a1, a2⟩ := of_decide_eq_true h2.1
    exact ⟨a1, a2, fun j t q a b => js_zip (P := fun (q : Nat × Int × Int) => (pc : Int) + q.2.2 = (q.1 : Int)) ts ps.toList (fun q hq => of_decide_eq_true (List.all_eq_true.mp h2.2 q hq)) j t q a b⟩
  | getfield x =>
    have hlen : len = 3 := by
      unfold js_ck at h
      dsimp only at h
      split at h
      · exact (of_decide_eq_true h).1
      · exact of_decide_eq_true h
    refine ⟨hlen, ?_⟩
    rintro kd f ty rfl
    obtain ⟨-, h2, h3⟩ := of_decide_eq_true (show decide _ = true from h)
    exact js_fl_of h2 h3
  | putfield x =>
    have hlen : len = 3 := by
      unfold js_ck at h
      dsimp only at h
      split at h
      · exact (of_decide_eq_true h).1
      · exact of_decide_eq_true h
    refine ⟨hlen, ?_⟩
    rintro kd f ty rfl
    obtain ⟨-, h2, h3, h4⟩ := of_decide_eq_true (show decide _ = true from h)
    refine ⟨js_fl_of h2 h3, fun C T N hc hf => ?_⟩
    have hfin : js_fin (kd - 10) f = true := by
      unfold js_fin
      rw [hc]
      exact hf
    obtain ⟨a1, a2⟩ := h4 hfin
    refine ⟨a1, ?_⟩
    have := js_on_vw _ _ _ _ hc
    rw [← a2] at this
    exact this
  | invokevirtual x =>
    have h : (decide (len = 3 ∧ r.length ≠ 1) && js_ckI k 0 x r) = true := h
    rw [Bool.and_eq_true] at h
    obtain ⟨h1, h2⟩ := of_decide_eq_true h.1
    exact ⟨h1, js_ckI_ok (by decide) h.2, h2⟩
  | invokespecial x =>
    have h : (decide (len = 3) && js_ckI k 1 x r && decide ((r = [1001] → (jm_oc k, x) ∈ js_OL ∧ 1 ≤ jm_ht k ∧ 20 ≤ jm_rl k) ∧ (r.length = 1 → r = [1001]))) = true := h
    rw [Bool.and_eq_true, Bool.and_eq_true] at h
    obtain ⟨⟨h1, h2⟩, h3⟩ := h
    obtain ⟨h4, h5⟩ := of_decide_eq_true h3
    exact ⟨of_decide_eq_true h1, js_ckI_ok (by decide) h2, fun hr => ⟨js_OL_ok _ (h4 hr).1, (h4 hr).2⟩, h5⟩
  | invokestatic x =>
    have h : (decide (len = 3) && js_ckI k 2 x r && decide ((r = [1000] → (jm_oc k, x) ∈ js_AL ∧ 1 ≤ jm_ht k ∧ 60 ≤ jm_rl k) ∧ r ≠ [1001] ∧ (r = [1002] → (jm_oc k, x) ∈ js_X2 ∧ 1 ≤ jm_ht k ∧ 30 ≤ jm_rl k) ∧ (r = [1003] → (jm_oc k, x) ∈ js_X3 ∧ 1 ≤ jm_ht k ∧ 30 ≤ jm_rl k) ∧ (r = [1004] → (jm_oc k, x) ∈ js_X4 ∧ 1 ≤ jm_ht k ∧ 30 ≤ jm_rl k))) = true := h
    rw [Bool.and_eq_true, Bool.and_eq_true] at h
    obtain ⟨⟨h1, h2⟩, h3⟩ := h
    obtain ⟨h4, h5, h6, h7, h8⟩ := of_decide_eq_true h3
    exact ⟨of_decide_eq_true h1, js_ckI_ok (by decide) h2, fun hr => ⟨js_AL_ok _ (h4 hr).1, (h4 hr).2⟩, h5, fun hr => ⟨js_X2_ok _ (h6 hr).1, (h6 hr).2⟩, fun hr => ⟨js_X3_ok _ (h7 hr).1, (h7 hr).2⟩, fun hr => ⟨js_X4_ok _ (h8 hr).1, (h8 hr).2⟩⟩
  | new x =>
    have hlen : len = 3 := by
      unfold js_ck at h
      dsimp only at h
      split at h
      · exact (of_decide_eq_true h).1
      · exact of_decide_eq_true h
    refine ⟨hlen, ?_⟩
    rintro ci ns rfl
    obtain ⟨-, h2, h3⟩ := of_decide_eq_true (show decide _ = true from h)
    obtain ⟨C, T, ns', a1, a2, a3, a4⟩ := js_CL_ok _ h2
    dsimp only at a1 a2
    rw [a1] at h3
    cases h3
    exact ⟨C, T, a1, a2, a3, a4⟩
  | newarray t =>
    cases t with
    | int => exact ⟨of_decide_eq_true (show decide _ = true from h), js_aI⟩
    | long => exact ⟨of_decide_eq_true (show decide _ = true from h), js_aJ⟩
    | _ =>
    have h2 := of_decide_eq_true (show decide _ = true from h)
    exact h2
  | anewarray x =>
    obtain ⟨h1, h2⟩ := of_decide_eq_true (show decide _ = true from h)
    exact ⟨h1, js_LL_ok _ h2⟩
  | multianewarray x d =>
    obtain ⟨h1, h2, h3⟩ := of_decide_eq_true (show decide _ = true from h)
    exact ⟨h1, h2, js_RL_ok _ h3, js_aI⟩
  | ireturn =>
    have h2 := of_decide_eq_true (show decide _ = true from h)
    exact h2
  | lreturn =>
    have h2 := of_decide_eq_true (show decide _ = true from h)
    exact h2
  | areturn =>
    obtain ⟨h1, h2⟩ := of_decide_eq_true (show decide _ = true from h)
    exact ⟨h1, _, h2⟩
  | return_ =>
    have h2 := of_decide_eq_true (show decide _ = true from h)
    exact h2
  | _ =>
    have h2 := of_decide_eq_true (show decide _ = true from h)
    exact h2
/-- all of one method -/
def js_okm (k : Nat) (t : List jv_E) : Bool := t.all (fun q => js_ck k q.1 q.2.1 q.2.2.1 q.2.2.2.1 q.2.2.2.2)
def js_dec (cc : ByteArray) (t : List jv_E) : Bool := t.all (fun q => decide (decode cc q.1 = .ok (q.2.1, q.2.2.1)))
theorem js_okm_ok {k : Nat} {t : List jv_E} (h1 : js_okm k t = true) (h2 : js_dec (jm_c k) t = true) : ∀ q ∈ t, js_ie k q := fun q hq => ⟨of_decide_eq_true (List.all_eq_true.mp h2 q hq), js_ck_ok (List.all_eq_true.mp h1 q hq)⟩
