/-! ===== every instruction that is no call ===== -/
/-- what a return leaves -/
def js_R (s0 b : Nat) (L : jv_L) (k pc : Nat) (r : jv_V) (ST : List Value) : Prop :=
  (∃ (x : Int) (w : Int32), r = jv_I x ∧ w.toInt = x ∧ ST = [.int w] ∧ decode (jm_c k) pc = .ok (.ireturn, 1) ∧ (jm_ret k = some .int ∨ (jm_ret k = some .boolean ∧ (x = 0 ∨ x = 1)))) ∨
  (∃ (x : Int) (w : Int64), r = jv_J x ∧ w.toInt = x ∧ ST = [.long w] ∧ decode (jm_c k) pc = .ok (.lreturn, 1) ∧ jm_ret k = some .long) ∨
  (∃ (x : Int) (v : Value), r = jv_D x ∧ jr_V s0 b L r v ∧ ST = [v] ∧ decode (jm_c k) pc = .ok (.areturn, 1) ∧ ∃ C : String, jm_ret k = some (.object C)) ∨
  (r = jv_U ∧ ST = [] ∧ decode (jm_c k) pc = .ok (.return_, 1) ∧ jm_ret k = none)
/-- what a call finds -/
def js_CF (s0 b : Nat) (L : jv_L) (k pc : Nat) (ST : List Value) (k' : Nat) (as rest : List jv_V) (x i rc : Nat) (vs STr : List Value) : Prop :=
  ((i = 0 ∧ decode (jm_c k) pc = .ok (.invokevirtual x, 3)) ∨ (i = 1 ∧ decode (jm_c k) pc = .ok (.invokespecial x, 3)) ∨ (i = 2 ∧ decode (jm_c k) pc = .ok (.invokestatic x, 3))) ∧ js_iv k x i k' as.length rc ∧
  (0 < rc → (∃ (q nn : Nat) (rs : List Nat) (t : List jv_V), as = jv_P q :: t ∧ L[q]? = some (rc - 1, nn, rs)) ∨ (rc = 12 ∧ ∃ (q : Int) (t : List jv_V), as = jv_D q :: t ∧ 0 < q ∧ L[(q - 1).toNat]? = some (11, 8, []))) ∧ ST = vs.reverse ++ STr ∧ js_S s0 b L vs as ∧ js_S s0 b L STr rest ∧ jv_cat rest ≤ 8
section
variable {p : Program} {l : Launch} {e : Env} {R : Room} {s : State} {m : MethodId} {args : Array Value} {below : List Frame} {meth : Method} {c : Code} {H : Heap} {locs : List Loc} {cells slots : Nat} {Q : State → Prop}
variable {s0 b n : Nat} {xs : Nat → Int32} {D : va_G} {k : Nat} {L : jv_L} {g g' : jv_S} {LS : Array Slot} {ST : List Value} {ls st ls' st' : List jv_V} {pc pc' : Nat}
theorem js_S.app {L : jv_L} : ∀ {vs : List Value} {as : List jv_V} {ws : List Value} {bs : List jv_V}, js_S s0 b L vs as → js_S s0 b L ws bs → js_S s0 b L (vs ++ ws) (as ++ bs)
  | [], [], _, _, _, h => h
  | v :: vs, a :: as, _, _, h1, h2 => ⟨h1.1, h1.2.1, js_S.app h1.2.2 h2⟩
theorem js_S.rev {L : jv_L} : ∀ {vs : List Value} {as : List jv_V}, js_S s0 b L vs as → js_S s0 b L vs.reverse as.reverse
  | [], [], _ => trivial
  | v :: vs, a :: as, h => by
    rw [List.reverse_cons, List.reverse_cons]
    exact js_S.app (js_S.rev h.2.2) ⟨h.1, h.2.1, trivial⟩
theorem js_S.split {L : jv_L} : ∀ (c : Nat) {vs : List Value} {as : List jv_V}, js_S s0 b L vs as → js_S s0 b L (vs.take c) (as.take c) ∧ js_S s0 b L (vs.drop c) (as.drop c)
  | 0, _, _, h => ⟨trivial, h⟩
  | _ + 1, [], [], _ => ⟨trivial, trivial⟩
  | c + 1, v :: vs, a :: as, h => by
    obtain ⟨h1, h2⟩ := js_S.split c h.2.2
    exact ⟨⟨h.1, h.2.1, h1⟩, h2⟩
theorem js_S.len {L : jv_L} : ∀ {vs : List Value} {as : List jv_V}, js_S s0 b L vs as → vs.length = as.length
  | [], [], _ => rfl
  | v :: vs, a :: as, h => by simp [js_S.len h.2.2]
def js_K (p : Program) (l : Launch) (e : Env) (R : Room) (s : State) (m : MethodId) (args : Array Value) (below : List Frame) (meth : Method) (c : Code) (H : Heap) (locs : List Loc) (cells slots : Nat) (Q : State → Prop) (s0 b n : Nat) (xs : Nat → Int32) (D : va_G) (k : Nat) (pc : Nat) (LS : Array Slot) (ST : List Value) (L : jv_L) (g : jv_S) (nx : jv_N) : Prop := match nx with
  | .inl (li, d) => js_KG p l e R s m args below meth c cells slots Q s0 b n xs D k L (jv_dl id li d) ∧ cells + ((jv_dl id li d).2.2.2.1.length - L.length) ≤ R.cells ∧ slots + (js_sz (jv_dl id li d).2.2.2.1 - js_sz L) ≤ R.slots
  | .inr (.inl (z, f)) => js_KG p l e R s m args below meth c cells slots Q s0 b n xs D k L (f (jv_w32 z))
  | .inr (.inr (.inl (z, f))) => js_KG p l e R s m args below meth c cells slots Q s0 b n xs D k L (f (jv_w64 z))
  | .inr (.inr (.inr (.inl (r, L', g')))) => L' = L → g' = g → js_R s0 b L k pc r ST → W p l e R s m args below meth c H locs cells slots Q (F0 m pc LS ST)
  | .inr (.inr (.inr (.inr (k', as, rest)))) => ∀ (x i rc : Nat) (vs STr : List Value), js_CF s0 b L k pc ST k' as rest x i rc vs STr → W p l e R s m args below meth c H locs cells slots Q (F0 m pc LS ST)
theorem jv_dl1 {cc : Prop} {dc : Decidable cc} {a d : jv_Go} : jv_dl id [((⟨cc, dc⟩ : jv_C), a)] d = @ite _ cc dc a d := rfl
theorem jv_ok1 {cc : Prop} {dc : Decidable cc} (h : jv_ok [(⟨cc, dc⟩ : jv_C)] = true) : cc := by
  unfold jv_ok at h
  by_cases hc : cc
  · exact hc
  · rw [if_neg hc] at h
    cases h
theorem jv_ok2 {cc c2 : Prop} {dc : Decidable cc} {d2 : Decidable c2} (h : jv_ok [(⟨cc, dc⟩ : jv_C), ⟨c2, d2⟩] = true) : cc ∧ c2 := by
  unfold jv_ok at h
  by_cases hc : cc
  · rw [if_pos hc] at h
    exact ⟨hc, jv_ok1 h⟩
  · rw [if_neg hc] at h
    cases h
end
