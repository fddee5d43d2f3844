/-! ===== new cells ===== -/
theorem jr_W.push {L : jv_L} (h : jr_W L) {d : Nat × Nat × List Nat} (h2 : d.1 ≠ 2) (h4 : d.1 ≠ 4) (h11 : d.1 = 11 → d.2 = (8, [])) (hb : d.2.1 < 2147483648) : jr_W (L ++ [d]) := by
  have at_ : ∀ (x : Nat) (e : Nat × Nat × List Nat), (L ++ [d])[x]? = some e → L[x]? = some e ∨ (x = L.length ∧ e = d) := by
    intro x e hx
    by_cases hl : x < L.length
    · rw [List.getElem?_append_left hl] at hx
      exact Or.inl hx
    · rw [List.getElem?_append_right (by omega)] at hx
      have : x - L.length < 1 := (List.getElem?_eq_some_iff.mp hx).1
      have e0 : x - L.length = 0 := by omega
      rw [e0] at hx
      cases hx
      exact Or.inr ⟨by omega, rfl⟩
  have up : ∀ {x : Nat} {e : Nat × Nat × List Nat}, L[x]? = some e → (L ++ [d])[x]? = some e := by
    intro x e hx
    rw [List.getElem?_append_left (List.getElem?_eq_some_iff.mp hx).1]
    exact hx
  refine ⟨fun a n rs ha => ?_, fun q m rs hq => ?_, fun q m rs hq => ?_, fun q e hq => ?_⟩
  · rcases at_ _ _ ha with h1 | ⟨-, h1⟩
    · obtain ⟨m, e1, e2⟩ := h.1 a n rs h1
      exact ⟨m, e1, fun j hj => up (e2 j hj)⟩
    · exact absurd (congrArg Prod.fst h1).symm h2
  · rcases at_ _ _ hq with h1 | ⟨-, h1⟩
    · obtain ⟨a, j, n, e1, e2, e3, e4⟩ := h.2.1 q m rs h1
      exact ⟨a, j, n, e1, e2, up e3, e4⟩
    · exact absurd (congrArg Prod.fst h1).symm h4
  · rcases at_ _ _ hq with h1 | ⟨-, h1⟩
    · exact h.2.2.1 q m rs h1
    · subst h1
      have := h11 rfl
      cases this
      exact ⟨rfl, rfl⟩
  · rcases at_ _ _ hq with h1 | ⟨-, rfl⟩
    · exact h.2.2.2 q e h1
    · exact hb
theorem jv_rows_len (a n m : Nat) : (jv_rows a n m).length = n := by simp [jv_rows]
theorem jv_rows_at {a n m j : Nat} (hj : j < n) : (jv_rows a n m)[j]? = some (4, m, [a, j]) := by
  unfold jv_rows
  rw [List.getElem?_map, List.getElem?_range hj]
  rfl
theorem jv_rows_of {a n m j : Nat} {e : Nat × Nat × List Nat} (h : (jv_rows a n m)[j]? = some e) : j < n ∧ e = (4, m, [a, j]) := by
  have hj : j < n := by have := (List.getElem?_eq_some_iff.mp h).1; rw [jv_rows_len] at this; exact this
  rw [jv_rows_at hj] at h
  cases h
  exact ⟨hj, rfl⟩
/-- the tables of rows, with one more -/
theorem jr_W.pushR {L : jv_L} (h : jr_W L) {c m : Nat} (hc : c < 2147483648) (hm : m < 2147483648) : jr_W (L ++ (2, c, [m]) :: jv_rows L.length c m) := by
  have at_ : ∀ (x : Nat) (e : Nat × Nat × List Nat), (L ++ (2, c, [m]) :: jv_rows L.length c m)[x]? = some e → L[x]? = some e ∨ (x = L.length ∧ e = (2, c, [m])) ∨ ∃ j, j < c ∧ x = L.length + 1 + j ∧ e = (4, m, [L.length, j]) := by
    intro x e hx
    by_cases hl : x < L.length
    · rw [List.getElem?_append_left hl] at hx
      exact Or.inl hx
    · rw [List.getElem?_append_right (by omega)] at hx
      by_cases h0 : x = L.length
      · subst h0
        rw [Nat.sub_self] at hx
        cases hx
        exact Or.inr (Or.inl ⟨rfl, rfl⟩)
      · obtain ⟨j, hj⟩ : ∃ j, x - L.length = j + 1 := ⟨x - L.length - 1, by omega⟩
        rw [hj, List.getElem?_cons_succ] at hx
        obtain ⟨h1, h2⟩ := jv_rows_of hx
        exact Or.inr (Or.inr ⟨j, h1, by omega, h2⟩)
  have up : ∀ {x : Nat} {e : Nat × Nat × List Nat}, L[x]? = some e → (L ++ (2, c, [m]) :: jv_rows L.length c m)[x]? = some e := by
    intro x e hx
    rw [List.getElem?_append_left (List.getElem?_eq_some_iff.mp hx).1]
    exact hx
  have new0 : (L ++ (2, c, [m]) :: jv_rows L.length c m)[L.length]? = some (2, c, [m]) := by
    rw [List.getElem?_append_right (Nat.le_refl _), Nat.sub_self]
    rfl
  have newj : ∀ j, j < c → (L ++ (2, c, [m]) :: jv_rows L.length c m)[L.length + 1 + j]? = some (4, m, [L.length, j]) := by
    intro j hj
    rw [List.getElem?_append_right (by omega), show L.length + 1 + j - L.length = j + 1 by omega, List.getElem?_cons_succ]
    exact jv_rows_at hj
  refine ⟨fun a n rs ha => ?_, fun q mm rs hq => ?_, fun q mm rs hq => ?_, fun q e hq => ?_⟩
  · rcases at_ _ _ ha with h1 | ⟨rfl, h1⟩ | ⟨j, -, -, h1⟩
    · obtain ⟨m', e1, e2⟩ := h.1 a n rs h1
      exact ⟨m', e1, fun j hj => up (e2 j hj)⟩
    · cases h1
      exact ⟨m, rfl, newj⟩
    · cases h1
  · rcases at_ _ _ hq with h1 | ⟨-, h1⟩ | ⟨j, hj, hx, h1⟩
    · obtain ⟨a, j, n, e1, e2, e3, e4⟩ := h.2.1 q mm rs h1
      exact ⟨a, j, n, e1, e2, up e3, e4⟩
    · cases h1
    · cases h1
      exact ⟨L.length, j, c, rfl, hx, new0, hj⟩
  · rcases at_ _ _ hq with h1 | ⟨-, h1⟩ | ⟨j, hj, hx, h1⟩
    · exact h.2.2.1 q mm rs h1
    · cases h1
    · cases h1
  · rcases at_ _ _ hq with h1 | ⟨-, rfl⟩ | ⟨j, hj, hx, rfl⟩
    · exact h.2.2.2 q e h1
    · exact hc
    · exact hm
theorem jr_lo_lt {L : jv_L} (hW : jr_W L) {q j : Nat} {e : Nat × Nat × List Nat} (hq : L[q]? = some e) : (jr_lo q e j).1 < L.length ∨ (e.1 = 11 ∧ jr_lo q e j = (1000, 8 * (Int.ofNat q + 1) + Int.ofNat j)) := by
  have hl : q < L.length := (List.getElem?_eq_some_iff.mp hq).1
  unfold jr_lo
  split
  · obtain ⟨a, r, n, e1, e2, e3, e4⟩ := hW.2.1 q _ _ hq
    cases e1
    exact Or.inl (List.getElem?_eq_some_iff.mp e3).1
  · exact Or.inr ⟨rfl, rfl⟩
  · exact Or.inl hl
section
variable {p : Program} {l : Launch} {e : Env} {R : Room} {s : State} {m : MethodId} {args : Array Value} {below : List Frame} {meth : Method} {c : Code} {H : Heap} {locs : List Loc} {cells slots : Nat} {Q : State → Prop}
variable {s0 b n : Nat} {xs : Nat → Int32} {D : va_G} {k : Nat} {L : jv_L} {g g' : jv_S} {LS : Array Slot} {ST : List Value} {ls st ls' st' : List jv_V} {pc pc' : Nat}
theorem jr_M.ad (hM : jr_M s0 b n xs D s L g H) : jr_ad s0 b L.length = H.size ∧ 0 < L.length := by
  have h0 : 0 < L.length := (List.getElem?_eq_some_iff.mp hM.1).1
  refine ⟨?_, h0⟩
  obtain ⟨z, hz⟩ : ∃ z, L.length = z + 1 := ⟨L.length - 1, by omega⟩
  have := hM.2.1
  rw [hz] at this ⊢
  show s0 + z = H.size
  omega
theorem js_F.grow (hF : js_F s0 s H locs) (hM : jr_M s0 b n xs D s L g H) {H' : Heap} (hz : H.size ≤ H'.size) (ho : ∀ q, q < H.size → H'[q]? = H[q]?) : js_F s0 s H' locs := by
  have h0 := hM.ad.2
  have := hM.2.1
  exact ⟨Nat.le_trans hF.1 hz, fun q hq => by rw [ho q (by omega)]; exact hF.2.1 q hq, hF.2.2⟩
/-- one new cell -/
theorem jr_M.push (hM : jr_M s0 b n xs D s L g H) (hlen : L.length < 999) {d : Nat × Nat × List Nat} (h2 : d.1 ≠ 2) (h4 : d.1 ≠ 4) (h5 : d.1 ≠ 5) (h11 : d.1 = 11 → d.2 = (8, [])) (hb : d.2.1 < 2147483648) {H' : Heap} {cell : Cell} (e1 : H'[H.size]? = some cell) (e2 : H'.size = H.size + 1) (e3 : ∀ q, q < H.size → H'[q]? = H[q]?)
    (hs : jr_sh D s d cell) (hg' : g' = (if d.1 = 11 then jv_cll g (Int.ofNat L.length + 1) else jv_cl g L.length)) (hv : ∀ i : Nat, i < d.2.1 → ∃ v : Value, cell.slots[jr_si D d.1 i]? = some v ∧ jr_V s0 b (L ++ [d]) (jr_ct g' L.length d i) v) : jr_M s0 b n xs D s (L ++ [d]) g' H' := by
  refine hM.grow (by simpa using e2) e3 (hM.2.2.2.2.2.2.1.push h2 h4 h11 hb) (fun x hx => by rw [List.mem_singleton.mp hx]; exact h5) (by simp; omega) (fun q ee j hq hj htg => ?_) (fun j d' hj => ?_)
  · have hql : q < L.length := (List.getElem?_eq_some_iff.mp hq).1
    have h999 := hM.2.2.1
    rw [hg']
    split
    · unfold jv_cll
      rw [if_neg]
      rintro ⟨h1, h2, h3⟩
      rcases jr_lo_lt (j := j) hM.2.2.2.2.2.2.1 hq with h | ⟨h, h'⟩
      · omega
      · rw [h'] at h2 h3
        dsimp only at h2 h3
        obtain ⟨kk, mm, rr⟩ := ee
        dsimp only at h
        subst h
        have := (hM.2.2.2.2.2.2.1.2.2.1 q mm rr hq).1
        dsimp only at hj
        have a1 : Int.ofNat L.length = (L.length : Int) := rfl
        have a2 : Int.ofNat q = (q : Int) := rfl
        have a3 : Int.ofNat j = (j : Int) := rfl
        rw [a1, a2, a3] at h2
        omega
    · unfold jv_cl
      rw [if_neg]
      intro h1
      rcases jr_lo_lt (j := j) hM.2.2.2.2.2.2.1 hq with h | ⟨h, h'⟩
      · omega
      · rw [h'] at h1
        dsimp only at h1
        omega
  · have h0 : j < 1 := (List.getElem?_eq_some_iff.mp hj).1
    have : j = 0 := by omega
    subst this
    cases hj
    exact ⟨cell, by rw [Nat.add_zero, hM.ad.1]; exact e1, hs, by rw [Nat.add_zero]; exact hv⟩
theorem js_KG.push {d : Nat × Nat × List Nat} (hk : js_KG p l e R s m args below meth c cells slots Q s0 b n xs D k L (pc', ls', st', L ++ [d], g')) {H' : Heap} (hM : jr_M s0 b n xs D s (L ++ [d]) g' H') (hl : js_L s0 b L (jv_ml k) LS ls') (hs : js_S s0 b (L ++ [d]) ST st') (hF : js_F s0 s H' locs) : W p l e R s m args below meth c H' locs (cells + 1) (slots + d.2.1) Q (F0 m pc' LS ST) := by
  have := hk H' locs LS ST hM (jr_le.app _ _) (hl.mono (jr_le.app _ _)) hs hF
  dsimp only at this
  rw [js_sz_app] at this
  simpa [js_sz] using this
theorem js_o_new (X : js_X p s m args meth c D k) (hC : js_Cl) (hM : jr_M s0 b n xs D s L g H) (hl : js_L s0 b L (jv_ml k) LS ls) (hF : js_F s0 s H locs) (hS : js_S s0 b L ST st) {x ci ns : Nat} (hlen : L.length < 999) (hx : ∃ (C : String) (T : u_T), vwCl[ci]? = some (C, T, ns) ∧ Cond.classLink (jm_own k) x C ∈ jm_ws ∧ Cond.instantiable C ns ∈ jm_ws ∧ Cond.initialized C ∈ jm_ws) (hr1 : cells + 1 ≤ R.cells) (hr2 : slots + ns ≤ R.slots) (hd : decode (jm_c k) pc = .ok (.new x, 3)) {top : jv_V} {d : Nat × Nat × List Nat} (htop : (ci ≠ 1 ∧ top = jv_P L.length ∧ d = (10 + ci, ns, List.replicate ns 0) ∧ g' = jv_cl g L.length) ∨ (ci = 1 ∧ ns = 8 ∧ top = jv_D (Int.ofNat L.length + 1) ∧ d = (11, 8, []) ∧ g' = jv_cll g (Int.ofNat L.length + 1)))
    (hk : js_KG p l e R s m args below meth c cells slots Q s0 b n xs D k L (pc + 3, ls, top :: st, L ++ [d], g')) : W p l e R s m args below meth c H locs cells slots Q (F0 m pc LS ST) := by
  obtain ⟨C, T, hc, hcl, hins, hini⟩ := hx
  have hts := X.2.2.2.2.2.1
  obtain ⟨hin, hnm, ty0, hty0, htys⟩ := hC.1 _ _ _ _ hc
  have hKn := X.2.2.2.2.2.2.2.2.2.1 _ _ hc
  have hcil : ci < 13 := (List.getElem?_eq_some_iff.mp hc).1
  have hnsb : ns < 2147483648 := by
    have : ∀ (ci : Nat) (r : vw_C), ci < 13 → vwCl[ci]? = some r → r.2.2 ≤ 50 := by
      intro ci r h1 h2
      rcases (show ci = 0 ∨ ci = 1 ∨ ci = 2 ∨ ci = 3 ∨ ci = 4 ∨ ci = 5 ∨ ci = 6 ∨ ci = 7 ∨ ci = 8 ∨ ci = 9 ∨ ci = 10 ∨ ci = 11 ∨ ci = 12 by omega) with rfl | rfl | rfl | rfl | rfl | rfl | rfl | rfl | rfl | rfl | rfl | rfl | rfl <;> cases h2 <;> decide
    have := this ci _ hcil hc
    dsimp only at this
    omega
  refine W.newcK X.1 X.2.1 X.2.2.2.2.1 (hts _ hcl) (hts _ hins) (hts _ hini) rfl hd hr1 hr2 hKn.2.1 rfl (fun H' kC hkC e1 e2 e3 => ?_)
  obtain ⟨cell, o1, o2, o3, o4⟩ := u_born ty0 hts hin hKn hkC e1 hty0
  rw [e1] at o1
  cases o1
  have hd1 : d.1 = 10 + ci ∧ d.2.1 = ns := by
    rcases htop with ⟨-, -, rfl, -⟩ | ⟨rfl, rfl, -, rfl, -⟩ <;> exact ⟨rfl, rfl⟩
  have hM' : jr_M s0 b n xs D s (L ++ [d]) g' H' := by
    refine hM.push hlen (by omega) (by omega) (by omega) (fun h => ?_) (by omega) e1 e2 e3 ⟨o3, Or.inr ⟨by omega, ?_, (C, T, ns), ?_, hd1.2.symm⟩⟩ ?_ (fun i hi => ?_)
    · rcases htop with ⟨h1, -, rfl, -⟩ | ⟨-, -, -, rfl, -⟩
      · dsimp only at h
        omega
      · rfl
    · rw [hd1.1, show 10 + ci - 10 = ci by omega]
      exact o2
    · rw [hd1.1, show 10 + ci - 10 = ci by omega]
      exact hc
    · rcases htop with ⟨h1, -, rfl, rfl⟩ | ⟨-, -, -, rfl, rfl⟩
      · rw [if_neg (by dsimp only; omega)]
      · rfl
    · rw [hd1.2] at hi
      refine ⟨defaultValue (ty0 i), ?_, ?_⟩
      · have : jr_si D d.1 i = D.2 ci i := by unfold jr_si; rw [if_neg (by omega), hd1.1, show 10 + ci - 10 = ci by omega]
        rw [this]
        exact o4 i hi
      · have hdef : (jv_ft ci i = 2) ∨ (jv_ft ci i ≠ 2 ∧ defaultValue (ty0 i) = .int 0) := by
          rcases htys i hi with ⟨t0, t1⟩ | ⟨t0, t1⟩ | ⟨t0, t1⟩
          · exact Or.inr ⟨by omega, by rw [t1]; rfl⟩
          · exact Or.inr ⟨by omega, by rw [t1]; rfl⟩
          · exact Or.inl t0
        rcases htop with ⟨h1, -, rfl, rfl⟩ | ⟨rfl, rfl, -, rfl, rfl⟩
        · rcases hdef with hh | ⟨hh, hv⟩
          · have : jr_ct (jv_cl g L.length) L.length (10 + ci, ns, List.replicate ns 0) i = jv_U := by
              have h3 : jr_tg (10 + ci, ns, List.replicate ns 0) i = 3 := by
                unfold jr_tg
                rw [show (10 + ci, ns, List.replicate ns 0).1 = (ci + 4) + 6 by dsimp only; omega]
                show (if jv_ft (ci + 4 + 6 - 10) i = 2 then 3 else 0) = 3
                rw [show ci + 4 + 6 - 10 = ci by omega, if_pos hh]
              unfold jr_ct
              rw [h3]
              dsimp only
              rw [show (List.replicate ns 0).getD i 0 = 0 by simp [List.getD, List.getElem?_replicate, hi]]
              rw [show 10 + ci = (ci + 7) + 3 by omega]
              rfl
            rw [this]
            trivial
          · rw [(jr_ct_obj (g := jv_cl g L.length) (q := L.length) (kd := 10 + ci) (nn := ns) (rs := List.replicate ns 0) (by omega) (by omega) (by rw [show 10 + ci - 10 = ci by omega]; exact hh)).1, hv]
            refine ⟨0, rfl, ?_⟩
            simp [jv_cl]
        · rcases hdef with hh | ⟨hh, hv⟩
          · exfalso
            revert hh
            rcases (show i = 0 ∨ i = 1 ∨ i = 2 ∨ i = 3 ∨ i = 4 ∨ i = 5 ∨ i = 6 ∨ i = 7 by omega) with rfl | rfl | rfl | rfl | rfl | rfl | rfl | rfl <;> decide
          · rw [jr_ct_1000' hi, hv]
            refine ⟨0, rfl, ?_⟩
            unfold jv_cll
            have a1 : Int.ofNat L.length = (L.length : Int) := rfl
            have a3 : Int.ofNat i = (i : Int) := rfl
            rw [if_pos ⟨rfl, by rw [a1, a3]; omega, by rw [a1, a3]; omega⟩]
            rfl
  have hS' : js_S s0 b (L ++ [d]) (.ref H.size :: ST) (top :: st) := by
    rcases htop with ⟨-, rfl, -, -⟩ | ⟨-, -, rfl, rfl, -⟩
    · exact ⟨by simp, ⟨by simp, by rw [hM.ad.1]⟩, hS.mono (jr_le.app _ _)⟩
    · refine ⟨by simp, Or.inr ⟨?_, ?_, ?_⟩, hS.mono (jr_le.app _ _)⟩
      · have a1 : Int.ofNat L.length = (L.length : Int) := rfl
        omega
      · rw [show (Int.ofNat L.length + 1 - 1).toNat = L.length by have a1 : Int.ofNat L.length = (L.length : Int) := rfl; omega]
        simp
      · rw [show (Int.ofNat L.length + 1 - 1).toNat = L.length by have a1 : Int.ofNat L.length = (L.length : Int) := rfl; omega, hM.ad.1]
  have := hk.push hM' hl hS' (hF.grow hM (by omega) e3)
  rw [hd1.2] at this
  exact this
end
