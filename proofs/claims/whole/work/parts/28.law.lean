/-! THE CLAIM OUT OF ONE WALK OF THE LAW'S BODY. Your part is whole_start (and what it stands on); all else here is the same for every law, but numbers. -/
def R_law : String := "LaneWaitsLaw"
def lw_P (b : Addr) (xs : List Int32) (args : Array Value) (s : State) : Prop := args = #[.ref b] ∧ s.IntsAt b xs ∧ xs.length ≤ 384 ∧ (Jvm.Cond.and given_1 narrow_1).before args s = true
def lw_Q (_ : Array Value) (s : State) (o : Outcome) (t : State) : Prop := o = .returned (some (.int 1)) ∧ Framed s o t [] 600000 7302250
def lw_Z (below : List Frame) (a : Array Value) (s : State) : State → Prop := fun t => ∃ o, t.status = .running ∧ Ended t below o ∧ lw_Q a s o t
/-- the law's own end, with 1 on the stack, nothing written that was there before, its room as the claim has it -/
theorem lw_ret {p : Program} {l : Launch} {e : Env} {s : State} {m : MethodId} {below : List Frame} {meth : Method} {c : Code} {b : Nat} (hx : p.tables.exec = Jvm.exec) (hb : c.code = code) (hr : meth.sig.returnType = ret) (hlocks : meth.locks = false) {pc : Nat} {H : Heap} {ls : Array Slot} (hdg : decode code pc = .ok (.ireturn, 1)) : W p l e room_1 s m #[Value.ref b] below meth c H [] 600000 7302250 (lw_Z below #[Value.ref b] s) (F0 m pc ls [.int 1]) := by
  intro T hT X
  obtain ⟨fs, hret, hrun, hended, hW, hframe⟩ := X.leave (v := some (.int 1)) (hlocks := hlocks) (fun h => by rw [hr] at h; cases h)
  have hmeth' : T.vm.method? m = some meth := X.method'
  refine ⟨T.setFrames fs, ?_, .returned (some (.int 1)), hrun, hended, rfl, ⟨_, rfl⟩, hW, hframe⟩
  jvm_step X.here [X.here.top, hx, hb, hdg, hmeth', hr, ret, narrow_b1]
  (try refine ⟨rfl, ?_⟩); (try refine ⟨rfl, ?_⟩)
  first | (intro acts; rw [hret _ acts rfl rfl rfl]) | rw [hret _ _ rfl rfl rfl]
  exact Steps.refl _
/-- what holds at the law's entry: the machine, the code, the tables' words (any of lw_tbl by 'hts w (by decide +kernel)'), the script of L ints xs at the cell b, what the Statement gives of the start (any of its parts by flat_of_before) -/
def lw_At (p : Program) (s : State) (m : MethodId) (meth : Method) (c : Code) (b L : Nat) (xs : Nat → Int32) : Prop :=
  p.tables.exec = Jvm.exec ∧ c.code = code ∧ meth.sig.returnType = ret ∧ c.maxLocals = 4 ∧ s.vm.findClass R_law = some m.cls ∧ (∀ w ∈ lw_tbl, w.before #[Value.ref b] s = true) ∧ va_X b L xs s s.heap ∧ b < s.heap.size ∧ meth.locks = false ∧ (Jvm.Cond.and given_1 narrow_1).before #[Value.ref b] s = true

/-- the script as the small machine has it -/
def jl_g (xs : Nat → Int32) : jv_S := fun p i => if p = 0 then (xs i.toNat).toInt else 0
/-- what is left: the law's run on the small machine -/
def jl_Law : Prop := ∀ (n : Nat) (xs : Nat → Int32), n ≤ 384 → ∃ (fuel : Nat) (L' : jv_L) (g' : jv_S), jv_ex jv_T jv_ml fuel kLaw_law 0 (jv_en (jv_ml kLaw_law) [jv_P 0]) [] [(5, n, [])] (jl_g xs) = some (jv_I 1, L', g') ∧ L'.length ≤ 500 ∧ js_sz L' ≤ 200000
theorem jl_nest : ∀ q ∈ jm_nest, Cond.methodLinkNest q.1 q.2.1 q.2.2.1 q.2.2.2 ∈ lw_tbl := by
  have h : (jm_nest.all (fun q => decide (Cond.methodLinkNest q.1 q.2.1 q.2.2.1 q.2.2.2 ∈ lw_tbl))) = true := by decide +kernel
  exact fun q hq => of_decide_eq_true (List.all_eq_true.mp h q hq)
theorem jl_inst : ∀ (ci : Nat) (C : String) (T : u_T) (N : Nat), vwCl[ci]? = some (C, T, N) → Cond.instantiable C N ∈ lw_tbl := by
  intro ci C T N h
  have hl : ci < 13 := (List.getElem?_eq_some_iff.mp h).1
  rcases (show ci = 0 ∨ ci = 1 ∨ ci = 2 ∨ ci = 3 ∨ ci = 4 ∨ ci = 5 ∨ ci = 6 ∨ ci = 7 ∨ ci = 8 ∨ ci = 9 ∨ ci = 10 ∨ ci = 11 ∨ ci = 12 by omega) with rfl | rfl | rfl | rfl | rfl | rfl | rfl | rfl | rfl | rfl | rfl | rfl | rfl <;> cases h <;> decide +kernel
set_option maxRecDepth 1000000 in
theorem jl_start (hlaw : jl_Law) {p : Program} {e : Env} {s : State} {m : MethodId} {below : List Frame} {meth : Method} {c : Code} (l : Launch) {b L : Nat} {xs : Nat → Int32} (hL : L ≤ 384) (C0 : lw_At p s m meth c b L xs) : W p l e room_1 s m #[Value.ref b] below meth c s.heap [] 0 0 (lw_Z below #[Value.ref b] s) (entryFrame m ([Value.ref b] : List Value).toArray 4) := by
  obtain ⟨hx, hb, hr, hml, hown, hts, hX, hbl, hlk, -⟩ := C0
  obtain ⟨fuel, L', g', hex, hL1, hL2⟩ := hlaw L xs hL
  have hws : ∀ w ∈ jm_ws, w.before #[Value.ref b] s = true := fun w hw => hts w (List.mem_filter.mp hw).1
  have hN : js_N s := ⟨fun q hq => va_Nw.of rfl (hts _ (jl_nest q hq)), va_AO.of (hts _ (by decide +kernel)), hts (.arrayOver (.array .int)) (by decide +kernel)⟩
  have hDk : ∀ ci : Nat, ∃ (q : ClassId × (Nat → Nat)), ∀ (C : String) (T : u_T) (N : Nat), vwCl[ci]? = some (C, T, N) → u_Kn s C T N q.1 q.2 := by
    intro ci
    cases hc : vwCl[ci]? with
    | none => exact ⟨(0, fun _ => 0), fun C T N h => by cases h⟩
    | some r =>
      obtain ⟨C, T, N⟩ := r
      obtain ⟨cC, iS, h⟩ := u_known hws (js_cl.1 ci C T N hc).1 (hts _ (jl_inst ci C T N hc))
      exact ⟨(cC, iS), fun C' T' N' h' => by cases h'; exact h⟩
  let D : va_G := (fun ci => (Classical.choose (hDk ci)).1, fun ci => (Classical.choose (hDk ci)).2)
  have hK : va_K D vwCl [] s := ⟨fun ci q hq => by obtain ⟨C, T, N⟩ := q; exact Classical.choose_spec (hDk ci) C T N hq, fun k q hk => by cases hk⟩
  have hXX : js_X p s m #[Value.ref b] meth c D kLaw_law := ⟨hx, hb, hr, hml, hown, hws, hlk, fun h => absurd h (by decide +kernel), hN, hK⟩
  have hM : jr_M s.heap.size b L xs D s [(5, L, [])] (jl_g xs) s.heap := by
    refine ⟨rfl, rfl, by simp, hbl, hX, fun i _ => by simp [jl_g], ⟨fun a n rs h => ?_, fun a n rs h => ?_, fun a n rs h => ?_, fun a d h => ?_⟩, fun q d h => by simp at h, fun q d h => by simp at h⟩
    · cases a with
      | zero => cases h
      | succ a => simp at h
    · cases a with
      | zero => cases h
      | succ a => simp at h
    · cases a with
      | zero => cases h
      | succ a => simp at h
    · cases a with
      | zero => cases h; show L < _; omega
      | succ a => simp at h
  have hS : js_S s.heap.size b [(5, L, [])] [Value.ref b] [jv_P 0] := ⟨by simp, ⟨by simp, rfl⟩, trivial⟩
  have hF : js_F s.heap.size s s.heap [] := ⟨Nat.le_refl _, fun _ _ => rfl, fun _ h => by cases h⟩
  rw [lg_entry_eq]
  have hz : js_sz [(5, L, [])] = L := by simp [js_sz]
  refine js_body js_cl js_all fuel kLaw_law 0 _ _ _ _ _ L' g' hex (by decide) trivial (R := room_1) hXX hM (js_entry hS (by decide)) trivial hF (by decide +kernel) (by decide +kernel) ?_ ?_ (fun H' locs' LS' ST' pc' hM' hF' hR => ?_)
  · show 0 + (L'.length - 1) ≤ 600000
    omega
  · show 0 + (js_sz L' - js_sz [(5, L, [])]) ≤ 7302250
    omega
  · refine va_forget hF'.2.2 ?_
    refine W.widen (k := 600000) (n := 7302250) (by show 0 + (L'.length - 1) ≤ 600000; omega) (by omega) ?_
    rcases hR with ⟨x, w, h1, hw, rfl, hd, -⟩ | ⟨x, w, h1, -⟩ | ⟨x, v, h1, -⟩ | ⟨h1, -⟩
    · cases h1
      have hw1 : w = 1 := Int32.toInt_inj.mp (by rw [hw]; rfl)
      subst hw1
      exact lw_ret hx hb hr hlk hd
    · cases h1
    · cases h1
    · cases h1
