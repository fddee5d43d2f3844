/-! ===== a run of the small machine is a run of the machine ===== -/
/-- what a call answers -/
def js_O (s0 b : Nat) (L : jv_L) (r : jv_V) (v : Option Value) : Prop := (r = jv_U ∧ v = none) ∨ (r ≠ jv_U ∧ ∃ w, v = some w ∧ jr_V s0 b L r w)
def js_Pc (s0 b n : Nat) (xs : Nat → Int32) (D : va_G) (vs : List Value) (L : jv_L) (g : jv_S) : Array Value → State → Prop := fun a U => a = vs.toArray ∧ jr_M s0 b n xs D U L g U.heap ∧ js_N U ∧ va_K D vwCl [] U
def js_Qc (s0 b n : Nat) (xs : Nat → Int32) (D : va_G) (L' : jv_L) (g' : jv_S) (r : jv_V) : Array Value → State → Outcome → State → Prop := fun _ st o t => ∃ v : Option Value, o = .returned v ∧ js_O s0 b L' r v ∧ jr_M s0 b n xs D t L' g' t.heap ∧ (∀ q : Nat, q < s0 → t.heap[q]? = st.heap[q]?) ∧ st.heap.size ≤ t.heap.size
def js_rm (k mc ms : Nat) : Room := { frames := jm_ht k, cells := mc, slots := ms, locals := jm_rl k }
def js_w (k : Nat) : List Cond := Cond.code (jm_y k) (jm_c k) (jv_ml k) (jm_ret k) :: jm_ws
def js_Met (l : Launch) (s0 b n : Nat) (xs : Nat → Int32) (D : va_G) (k : Nat) (vs : List Value) (L : jv_L) (g : jv_S) (r : jv_V) (L' : jv_L) (g' : jv_S) : Prop := Met l (jm_y k) (js_w k) (js_rm k (L'.length - L.length) (js_sz L' - js_sz L)) (js_Pc s0 b n xs D vs L g) (js_Qc s0 b n xs D L' g' r) (L'.length - L.length) (js_sz L' - js_sz L) (fun q => s0 ≤ q)
/-- all methods are as the tables say -/
def js_All : Prop := ∀ k, k < 225 → True → ∀ q ∈ jv_T k, js_ie k q
theorem jv_fi_mem {t : List jv_E} {pc : Nat} {q : jv_E} (h : jv_fi t pc = some q) : q ∈ t ∧ q.1 = pc := by
  induction t with
  | nil => cases h
  | cons a t ih =>
    unfold jv_fi at h
    split at h
    · next hb =>
      cases h
      exact ⟨List.mem_cons_self, Nat.eq_of_beq_eq_true hb⟩
    · obtain ⟨h1, h2⟩ := ih h
      exact ⟨List.mem_cons_of_mem _ h1, h2⟩
/-- the locals with which a method begins -/
theorem js_fl_sl {s0 b : Nat} {L : jv_L} : ∀ {vs : List Value} {as : List jv_V}, js_S s0 b L vs as → (lg_sl vs).length = (jv_fl as).length ∧ ∀ (i : Nat) (a : jv_V), (jv_fl as)[i]? = some a → a ≠ jv_U → ∃ v : Value, (lg_sl vs)[i]? = some (.val v) ∧ jr_V s0 b L a v
  | [], [], _ => ⟨rfl, fun i a h => by simp [jv_fl] at h⟩
  | v :: vs, a :: as, h => by
    obtain ⟨hu, hv, hs⟩ := h
    obtain ⟨ih1, ih2⟩ := js_fl_sl hs
    by_cases hj : ∃ x, a = jv_J x
    · obtain ⟨x, rfl⟩ := hj
      have hc := js_cat2 hv
      have e1 : lg_sl (v :: vs) = .val v :: .second :: lg_sl vs := by unfold lg_sl; simp [List.flatMap_cons, hc]
      have e2 : jv_fl (jv_J x :: as) = jv_J x :: jv_U :: jv_fl as := rfl
      rw [e1, e2]
      refine ⟨by simp [ih1], fun i a' hi ha' => ?_⟩
      match i, hi with
      | 0, hi => cases hi; exact ⟨v, rfl, hv⟩
      | 1, hi => cases hi; exact absurd rfl ha'
      | i + 2, hi => exact ih2 i a' hi ha'
    · have hc := js_cat1 hv hu (fun x hx => hj ⟨x, hx⟩)
      have e1 : lg_sl (v :: vs) = .val v :: lg_sl vs := by unfold lg_sl; simp [List.flatMap_cons, hc]
      have e2 : jv_fl (a :: as) = a :: jv_fl as := by
        rcases a with i | i | q | ⟨q, i⟩ | q | u
        · rfl
        · exact absurd ⟨i, rfl⟩ hj
        · rfl
        · rfl
        · rfl
        · rfl
      rw [e1, e2]
      refine ⟨by simp [ih1], fun i a' hi ha' => ?_⟩
      match i, hi with
      | 0, hi => cases hi; exact ⟨v, rfl, hv⟩
      | i + 1, hi => exact ih2 i a' hi ha'
theorem js_entry {s0 b : Nat} {L : jv_L} {vs : List Value} {as : List jv_V} (h : js_S s0 b L vs as) {ml : Nat} (hml : (jv_fl as).length ≤ ml) : js_L s0 b L ml ((lg_sl vs ++ List.replicate (ml - (lg_sl vs).length) Slot.unset).toArray) (jv_en ml as) := by
  obtain ⟨h1, h2⟩ := js_fl_sl h
  obtain ⟨e1, e2, e3⟩ := lv_entry vs (n := ml) (by omega)
  refine ⟨e1, e2, by unfold jv_en; simp; omega, fun i a ha hu _ => ?_⟩
  unfold jv_en at ha
  by_cases hi : i < (jv_fl as).length
  · rw [List.getElem?_append_left hi] at ha
    obtain ⟨v, v1, v2⟩ := h2 i a ha hu
    refine ⟨v, ?_, v2⟩
    rw [List.getElem?_toArray, List.getElem?_append_left (by omega)]
    exact v1
  · rw [List.getElem?_append_right (by omega), List.getElem?_replicate] at ha
    split at ha
    · cases ha
      exact absurd rfl hu
    · cases ha
section
variable {l : Launch} {s0 b n : Nat} {xs : Nat → Int32} {D : va_G}
/-- the body of a method, from a point on -/
def js_Body (l : Launch) (s0 b n : Nat) (xs : Nat → Int32) (D : va_G) (fuel : Nat) : Prop := ∀ (k pc : Nat) (ls st : List jv_V) (L : jv_L) (g : jv_S) (r : jv_V) (L' : jv_L) (g' : jv_S), jv_ex jv_T jv_ml fuel k pc ls st L g = some (r, L', g') → k < 225 → True →
  ∀ {p : Program} {e : Env} {R : Room} {s : State} {m : MethodId} {args : Array Value} {below : List Frame} {meth : Method} {c : Code} {H : Heap} {locs : List Loc} {cells slots : Nat} {Q : State → Prop} {LS : Array Slot} {ST : List Value},
    js_X p s m args meth c D k → jr_M s0 b n xs D s L g H → js_L s0 b L (jv_ml k) LS ls → js_S s0 b L ST st → js_F s0 s H locs → jm_ht k ≤ R.frames → jm_rl k ≤ R.locals → cells + (L'.length - L.length) ≤ R.cells → slots + (js_sz L' - js_sz L) ≤ R.slots →
    (∀ (H' : Heap) (locs' : List Loc) (LS' : Array Slot) (ST' : List Value) (pc' : Nat), jr_M s0 b n xs D s L' g' H' → js_F s0 s H' locs' → js_R s0 b L' k pc' r ST' → W p l e R s m args below meth c H' locs' (cells + (L'.length - L.length)) (slots + (js_sz L' - js_sz L)) Q (F0 m pc' LS' ST')) →
    W p l e R s m args below meth c H locs cells slots Q (F0 m pc LS ST)
theorem js_met (hC : js_Cl) {fuel : Nat} (ih : js_Body l s0 b n xs D fuel) {k : Nat} {as : List jv_V} {vs : List Value} {L : jv_L} {g : jv_S} {r : jv_V} {L' : jv_L} {g' : jv_S} (hx : jv_ex jv_T jv_ml fuel k 0 (jv_en (jv_ml k) as) [] L g = some (r, L', g')) (hk : k < 224) (hk1 : True) (hS : js_S s0 b L vs as) (hml : (jv_fl as).length ≤ jv_ml k) : js_Met l s0 b n xs D k vs L g r L' g' := by
  obtain ⟨hcode, hini, hmh, hpl, hown⟩ := hC.2.2.2.2.2.2.2.2 k hk hk1
  refine Met.ofW (cc := jm_c k) (maxL := jv_ml k) (ret := jm_ret k) hpl rfl ?_
  intro p e s m args below meth c s₁ B hml' hv
  obtain ⟨rfl, hM, hN, hK⟩ := hv
  have hts := atoms_spec (ws := js_w k) B.pre
  have hX : js_X p s m vs.toArray meth c D k := ⟨B.exec, B.bytes, B.returns, hml', by rw [hown]; exact findClass_of_methodNamed B.named, fun w hw => hts w (List.mem_cons_of_mem _ hw), B.notSynchronized, fun h => (name_of_methodNamed B.named B.method).1.trans h, hN, hK⟩
  rw [lg_entry_eq]
  have hF0 : js_F s0 s s.heap [] := ⟨Nat.le_refl _, fun _ _ => rfl, fun _ h => by cases h⟩
  have hlk := B.notSynchronized
  refine ih k 0 _ _ L g r L' g' hx (by omega) hk1 (R := js_rm k (L'.length - L.length) (js_sz L' - js_sz L)) hX hM (js_entry hS hml) trivial hF0 (Nat.le_refl _) (Nat.le_refl _) (by simp [js_rm]) (by simp [js_rm]) (fun H' locs' LS' ST' pc' hM' hF' hR => ?_)
  rw [Nat.zero_add, Nat.zero_add]
  have hQ : ∀ (v : Option Value), js_O s0 b L' r v → ∀ t : State, t.heap = H' → s.WarmedH t.vm → js_Qc s0 b n xs D L' g' r vs.toArray s (.returned v) t := by
    intro v hv t ht hW
    exact ⟨v, rfl, hv, by rw [ht]; exact hM'.moved hW.alike, fun q hq => by rw [ht]; exact hF'.2.1 q hq, by rw [ht]; exact hF'.1⟩
  rcases hR with ⟨x, w, rfl, hw, rfl, hd, hr⟩ | ⟨x, w, rfl, hw, rfl, hd, hr⟩ | ⟨x, v, rfl, hv, rfl, hd, C, hr⟩ | ⟨rfl, rfl, hd, hr⟩
  · have hO : js_O s0 b L' (jv_I x) (some (.int w)) := Or.inr ⟨by simp, _, rfl, w, rfl, hw⟩
    rcases hr with hr | ⟨hr, h01⟩
    · exact W.iret B.exec B.bytes (by rw [B.returns]; exact hr) (hQ _ hO) hF'.2.2 hd hlk
    · refine W.zret (ty := .boolean) B.exec B.bytes (by rw [B.returns]; exact hr) ?_ (hQ _ hO) hF'.2.2 hd hlk
      rcases h01 with h | h
      · have : w = 0 := Int32.toInt_inj.mp (by rw [hw, h]; rfl)
        subst this
        decide
      · have : w = 1 := Int32.toInt_inj.mp (by rw [hw, h]; rfl)
        subst this
        decide
  · exact W.lret B.exec B.bytes (by rw [B.returns]; exact hr) (hQ _ (Or.inr ⟨by simp, _, rfl, w, rfl, hw⟩)) hF'.2.2 hd hlk
  · refine W.aret B.exec B.bytes (by rw [B.returns]; exact hr) (Or.inl ⟨C, rfl⟩) ?_ (hQ _ (Or.inr ⟨by simp, _, rfl, hv⟩)) hF'.2.2 hd hlk
    rcases hv with ⟨-, h⟩ | ⟨-, -, h⟩
    · exact Or.inl h
    · exact Or.inr ⟨_, h⟩
  · exact W.vret B.exec B.bytes (by rw [B.returns]; exact hr) (hQ _ (Or.inl ⟨rfl, rfl⟩)) hF'.2.2 hd hlk
theorem js_good : ∀ w ∈ jm_ws, (w.onTables && w.keeps) = true ∨ ∃ ty, w = .arrayClass ty := fun w hw => good_of_word (List.mem_filter.mp hw).2
/-- a call, by the contract of what is called -/
theorem js_call (hC : js_Cl) {p : Program} {e : Env} {R : Room} {s : State} {m : MethodId} {args : Array Value} {below : List Frame} {meth : Method} {c : Code} {H : Heap} {locs : List Loc} {cells slots : Nat} {Q : State → Prop} {LS : Array Slot} {ST : List Value} {k pc : Nat} {L : jv_L} {g : jv_S} (X : js_X p s m args meth c D k) (hM : jr_M s0 b n xs D s L g H) (hlz : LS.size = jv_ml k) (hF : js_F s0 s H locs) (hfr : jm_ht k ≤ R.frames) (hlo : jm_rl k ≤ R.locals) {k' : Nat} {as rest : List jv_V} {x i rc : Nat} {vs STr : List Value} (hCF : js_CF s0 b L k pc ST k' as rest x i rc vs STr) {r : jv_V} {L1 : jv_L} {g1 : jv_S} (hm : js_Met l s0 b n xs D k' vs L g r L1 g1) (hr1 : cells + (L1.length - L.length) ≤ R.cells) (hr2 : slots + (js_sz L1 - js_sz L) ≤ R.slots)
    (kk : ∀ (H' : Heap) (locs' : List Loc) (v : Option Value), jr_M s0 b n xs D s L1 g1 H' → js_F s0 s H' locs' → js_O s0 b L1 r v → W p l e R s m args below meth c H' locs' (cells + (L1.length - L.length)) (slots + (js_sz L1 - js_sz L)) Q (F0 m (pc + 3) LS (v.toList ++ STr))) : W p l e R s m args below meth c H locs cells slots Q (F0 m pc LS ST) := by
  obtain ⟨hop, hiv, hrc, rfl, hSv, hSr, hcat⟩ := hCF
  obtain ⟨hk, hk1, hh, hrl, hlink, hdesc, hop2⟩ := hiv
  obtain ⟨hcode, hini, hmh, hpl, hown⟩ := hC.2.2.2.2.2.2.2.2 k' hk hk1
  have hts := X.2.2.2.2.2.1
  have hN := X.2.2.2.2.2.2.2.2.1
  have hpay : ∀ w ∈ js_w k', ∀ (a' : Array Value) (U : State), s.WarmedH U.vm → w.before a' U = true := by
    intro w hw a' U hW
    rcases List.mem_cons.mp hw with rfl | hw
    · exact word_at hW (js_good _ hcode) (hts _ hcode)
    · exact word_at hW (js_good _ hw) (hts _ hw)
  have hNl : ∀ host, (jm_own k, x, jm_y k', host) ∈ jm_nest → (Cond.methodLinkNest (jm_own k) x (jm_y k') host).before args s = true := fun host h => va_Nw.use (w := Cond.methodLinkNest (jm_own k) x (jm_y k') host) rfl (hN.1 (jm_own k, x, jm_y k', host) h)
  have hlenv := hSv.len
  have hn : ∀ sig, parseMethodDescriptor (jm_y k').desc = some sig → (as.length - (if rc = 0 then 0 else 1)) = sig.parameters.length := by
    intro sig h
    rw [h] at hdesc
    exact (Option.some.inj hdesc).symm
  have hfrm : (js_rm k' (L1.length - L.length) (js_sz L1 - js_sz L)).frames + 1 ≤ R.frames := by show jm_ht k' + 1 ≤ _; omega
  have hlom : 8 + (jv_ml k' + 11) + (js_rm k' (L1.length - L.length) (js_sz L1 - js_sz L)).locals ≤ R.locals := by show _ + jm_rl k' ≤ _; omega
  have hfb : FrameBlind (js_Pc s0 b n xs D vs L g) := fun a U fr mk q => ⟨q.1, q.2.1.moved (Vm.Alike.refl U.vm), ⟨fun z hz => va_Nw.same (w := .methodLinkNest z.1 z.2.1 z.2.2.1 z.2.2.2) rfl rfl (q.2.2.1.1 z hz), q.2.2.1.2.1.moved (Vm.Alike.refl U.vm), q.2.2.1.2.2.moved (Vm.Alike.refl U.vm)⟩, va_K.moved (u := U) (U := U.calling fr mk a) (Vm.Alike.refl U.vm) q.2.2.2⟩
  have hpre : ∀ U : State, U.heap = H → s.WarmedH U.vm → js_Pc s0 b n xs D vs L g vs.toArray U := fun U hU hW => ⟨rfl, by rw [hU]; exact hM.moved hW.alike, hN.warm hW, va_K.moved hW.alike X.2.2.2.2.2.2.2.2.2⟩
  have S : CallFix p m c (jm_c k) (jv_ml k) s args jm_ws (jm_own k) := ⟨X.1, X.2.1, X.2.2.2.1, X.2.2.2.2.1, hts⟩
  have hW8 : 2 * (F0 m pc LS (vs.reverse ++ STr)).monitorRoom + (STr.map fun v => v.category).sum ≤ 8 := lv_room (by rw [hSr.cat]; exact hcat)
  have fin : va_Run p l e R s m args below meth c H locs cells slots (L1.length - L.length) (js_sz L1 - js_sz L) (F0 m pc LS (vs.reverse ++ STr)) STr (js_Qc s0 b n xs D L1 g1 r vs.toArray) (fun q => s0 ≤ q) → W p l e R s m args below meth c H locs cells slots Q (F0 m pc LS (vs.reverse ++ STr)) := by
    intro run T hT Xs
    obtain ⟨v, st₀, t, T', Lc, h0, X', hL, e1, e2, ⟨v', hv', hO, hM1, hold, hsz⟩, st⟩ := run T hT Xs
    cases hv'
    have hal : s.vm.Alike t.vm := by rw [← e2]; exact X'.warmed.alike
    have hM2 : jr_M s0 b n xs D s L1 g1 T'.heap := by rw [e1]; exact hM1.moved hal.symm
    have hF2 : js_F s0 s T'.heap (locs ++ Lc) := by
      refine ⟨by rw [e1]; rw [h0] at hsz; exact Nat.le_trans hF.1 hsz, fun q hq => by rw [e1, hold q hq, h0]; exact hF.2.1 q hq, fun z hz => ?_⟩
      rcases List.mem_append.mp hz with h | h
      · exact hF.2.2 z h
      · exact hL z h
    obtain ⟨t2, a1, b1⟩ := kk T'.heap (locs ++ Lc) v hM2 hF2 hO T' rfl X'
    exact ⟨t2, st t2 a1, b1⟩
  apply fin
  by_cases h2 : i = 2
  · rw [if_pos h2] at hop2
    obtain ⟨rfl, hstat⟩ := hop2
    have hd : decode (jm_c k) pc = .ok (.invokestatic x, 3) := by
      rcases hop with ⟨h, -⟩ | ⟨h, -⟩ | ⟨-, h⟩
      · omega
      · omega
      · exact h
    rw [if_pos rfl, Nat.sub_zero] at hn
    rcases hlink with hl1 | ⟨host, hl1⟩
    · exact va_runS (bytes := jm_c k') (maxL := jv_ml k') (ret := jm_ret k') (n := as.length) S hm ⟨⟨rfl, rfl, hfrm, hlom, hpay, List.mem_cons_self, hts _ hcode, hts _ hini, hmh, hn, hts _ hl1⟩, hts _ hstat⟩ ⟨hfb, hpre⟩ rfl hlenv hlz rfl hW8 hd ⟨hr1, hr2⟩
    · exact va_runSN (host := host) (bytes := jm_c k') (maxL := jv_ml k') (ret := jm_ret k') (n := as.length) S hm ⟨⟨⟨rfl, rfl, hfrm, hlom, hpay, List.mem_cons_self⟩, hts _ hcode, hts _ hini, hmh, hn, hNl host hl1⟩, hts _ hstat, trivial⟩ ⟨hfb, hpre⟩ rfl hlenv hlz rfl hW8 hd ⟨hr1, hr2⟩
  · rw [if_neg h2] at hop2
    obtain ⟨hc0, hrc10, hinst, ⟨T0, N0, hvw⟩, hop3⟩ := hop2
    obtain ⟨va, vs', rfl⟩ : ∃ va vs', vs = va :: vs' := by
      cases vs with
      | nil => simp at hlenv; omega
      | cons a t => exact ⟨a, t, rfl⟩
    obtain ⟨aa, as', rfl⟩ : ∃ aa as', as = aa :: as' := by
      cases as with
      | nil => simp at hc0
      | cons a t => exact ⟨a, t, rfl⟩
    have hrecv : ∃ (q nn : Nat) (rs : List Nat), va = .ref (jr_ad s0 b q) ∧ L[q]? = some (rc - 1, nn, rs) := by
      rcases hrc (by omega) with ⟨q, nn, rs, t, he, hq⟩ | ⟨rfl, q, t, he, h0, hq⟩
      · cases he
        exact ⟨q, nn, rs, hSv.2.1.2, hq⟩
      · cases he
        rcases hSv.2.1 with ⟨h, -⟩ | ⟨-, -, h⟩
        · omega
        · exact ⟨_, 8, [], h, hq⟩
    obtain ⟨q, nn, rs, rfl, hq⟩ := hrecv
    have hst : (Value.ref (jr_ad s0 b q) :: vs').reverse ++ STr = vs'.reverse ++ .ref (jr_ad s0 b q) :: STr := by simp
    rw [hst] at hW8 ⊢
    have hn1 : ∀ sig, parseMethodDescriptor (jm_y k').desc = some sig → as'.length = sig.parameters.length := by
      intro sig h
      have := hn sig h
      rw [if_neg (by omega)] at this
      simpa using this
    have hlen1 : vs'.length = as'.length := by simpa using hlenv
    by_cases h1 : i = 1
    · rw [if_pos h1] at hop3
      obtain ⟨hname, hret⟩ := hop3
      have hd : decode (jm_c k) pc = .ok (.invokespecial x, 3) := by
        rcases hop with ⟨h, -⟩ | ⟨-, h⟩ | ⟨h, -⟩
        · omega
        · exact h
        · omega
      have hcode' : Cond.code (jm_y k') (jm_c k') (jv_ml k') none ∈ js_w k' := by
        have : Cond.code (jm_y k') (jm_c k') (jv_ml k') (jm_ret k') ∈ js_w k' := List.mem_cons_self
        rw [hret] at this
        exact this
      have hcode2 : (Cond.code (jm_y k') (jm_c k') (jv_ml k') none).before args s = true := by
        have := hts _ hcode
        rw [hret] at this
        exact this
      rcases hlink with hl1 | ⟨host, hl1⟩
      · exact va_runI (bytes := jm_c k') (maxL := jv_ml k') (n := as'.length) S hm ⟨⟨rfl, rfl, hfrm, hlom, hpay, hcode', hcode2, hts _ hini, hmh, hn1, hts _ hl1⟩, hname, hts _ hinst⟩ ⟨hfb, hpre⟩ rfl hlen1 hlz rfl hW8 hd ⟨hr1, hr2⟩
      · exact va_runIN (host := host) (bytes := jm_c k') (maxL := jv_ml k') (n := as'.length) S hm ⟨⟨⟨rfl, rfl, hfrm, hlom, hpay, hcode'⟩, hcode2, hts _ hini, hmh, hn1, hNl host hl1⟩, hname, hts _ hinst⟩ ⟨hfb, hpre⟩ rfl hlen1 hlz rfl hW8 hd ⟨hr1, hr2⟩
    · rw [if_neg h1] at hop3
      obtain ⟨h12, hsel⟩ := hop3
      have hd : decode (jm_c k) pc = .ok (.invokevirtual x, 3) := by
        rcases hop with ⟨-, h⟩ | ⟨h, -⟩ | ⟨h, -⟩
        · exact h
        · omega
        · omega
      obtain ⟨q', -, cell, c1, c2, -⟩ := hM.at' hq (by show rc - 1 ≠ 5; omega)
      have hcls : cell.cls = D.1 (rc - 1 - 10) := by
        rcases c2.2 with hhh | hhh
        · have := hhh.1
          dsimp only at this
          omega
        · exact hhh.2.1
      have hfc : s.vm.findClass (jm_y k').cls = some cell.cls := by
        rw [hcls, show rc - 1 - 10 = rc - 11 by omega]
        exact (X.2.2.2.2.2.2.2.2.2.1 _ _ hvw).2.1
      have hcb : ∃ cellB : Cell, H[jr_ad s0 b q]? = some cellB ∧ cellB.vm.isStatics = false ∧ s.vm.findClass (jm_y k').cls = some cellB.cls := ⟨cell, c1, by rw [c2.1]; rfl, hfc⟩
      rcases hlink with hl1 | ⟨host, hl1⟩
      · exact va_runV (bytes := jm_c k') (maxL := jv_ml k') (ret := jm_ret k') (n := as'.length) S hm ⟨⟨rfl, rfl, hfrm, hlom, hpay, List.mem_cons_self, hts _ hcode, hts _ hini, hmh, hn1, hts _ hl1⟩, hts _ hinst, hts _ hsel⟩ ⟨hfb, hcb, hpre⟩ rfl hlen1 hlz rfl hW8 hd ⟨hr1, hr2⟩
      · exact va_runVN (host := host) (bytes := jm_c k') (maxL := jv_ml k') (ret := jm_ret k') (n := as'.length) S hm ⟨⟨⟨rfl, rfl, hfrm, hlom, hpay, List.mem_cons_self⟩, hts _ hcode, hts _ hini, hmh, hn1, hNl host hl1⟩, hts _ hinst, hts _ hsel⟩ ⟨hfb, hcb, hpre⟩ rfl hlen1 hlz rfl hW8 hd ⟨hr1, hr2⟩
end
