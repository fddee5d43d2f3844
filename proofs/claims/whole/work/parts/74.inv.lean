/-! ===== what holds between calls ===== -/
/-- sheets: 0 sort (-9: nothing), 1 length, 2 + k the cells of sheet k -/
def ShW (S : jB) : Prop := ∀ k : Nat, k < 4 → (S 0 k = -9 ∨ ((0 ≤ S 0 k ∧ S 0 k ≤ 2) ∧ 0 ≤ S 1 k ∧ S 1 k ≤ 60)) ∧ ∀ i : Nat, i < 60 → jv_r32 (S (2 + k) i)
def ShC (S : jB) (g : jv_S) : Prop := ∀ k : Nat, k < 4 → (S 0 k = -9 → g 9 k = -1) ∧ (S 0 k ≠ -9 → g 9 k = S 1 k ∧ g 8 k = S 0 k) ∧ ∀ i : Nat, i < 60 → g 3 ((k : Int) * 60 + i) = S (2 + k) i
def ShM (S : jB) (g : jv_S) : Prop := ∀ k : Nat, k < 4 → g 137 k = S 0 k ∧ (S 0 k ≠ -9 → g 138 k = S 1 k) ∧ ∀ i : Nat, i < 60 → g 139 (60 * (k : Int) + i) = S (2 + k) i
/-- the works kept -/
def KK (A : jA) (g : jv_S) : Prop := g 80 8 = 0 ∧ (g 60 10 ≤ g 40 5 ∧ (g 60 10 = g 40 5 → WK A g)) ∧ (g 67 7 ≤ g 40 5 ∧ (g 67 7 = g 40 5 → SK A g)) ∧ (g 80 12 ≤ g 40 5 ∧ (g 80 12 = g 40 5 → StK A g)) ∧ (g 101 8 ≤ g 40 5 ∧ (g 101 8 = g 40 5 → MK A g)) ∧ (g 131 7 ≤ g 40 5 ∧ (g 131 7 = g 40 5 → BK A g))
def IC (A : jA) (B S : jB) (tr fl rb : Int) (l t : Nat) (g : jv_S) : Prop := CN A g ∧ CW 40 A g ∧ (0 ≤ g 40 5 ∧ g 40 5 ≤ t) ∧ KK A g ∧ TC A B rb l g ∧ ShC S g ∧ (g 1 10 = tr ∧ g 1 11 = fl) ∧ (0 ≤ g 104 5 ∧ g 104 5 ≤ 70000 * (t : Int))
def IM (A : jA) (B S : jB) (tr fl : Int) (g : jv_S) : Prop := MN A g ∧ TMr A B g ∧ ShM S g ∧ g 136 1 = tr ∧ g 136 0 = fl
def PW (A : jA) (B S : jB) (rb : Int) (l t : Nat) : Prop := BW A B ∧ rst B ∧ B 0 1 ≤ 50 * (t : Int) ∧ rb + B 0 0 = 174 + l ∧ l ≤ t ∧ ShW S ∧ t ≤ 64
/-- the class's calls keep this -/
def kC (g g' : jv_S) : Prop := ∀ (p : Nat) (i : Int), (p = 0 ∨ (136 ≤ p ∧ p ≤ 999)) → g' p i = g p i
/-- the model's calls keep this -/
def kM (g g' : jv_S) : Prop := ∀ (p : Nat) (i : Int), (p ≤ 135 ∨ p = 1000) → g' p i = g p i
theorem kC_r (g : jv_S) : kC g g := fun _ _ _ => rfl
theorem kM_r (g : jv_S) : kM g g := fun _ _ _ => rfl
theorem kC_t {g g1 g2 : jv_S} (h1 : kC g g1) (h2 : kC g1 g2) : kC g g2 := fun p i h => by rw [h2 p i h, h1 p i h]
theorem kM_t {g g1 g2 : jv_S} (h1 : kM g g1) (h2 : kM g1 g2) : kM g g2 := fun p i h => by rw [h2 p i h, h1 p i h]
theorem SK_fr {A : jA} {g g' : jv_S} (h5 : g' 67 5 = g 67 5) (h6 : g' 67 6 = g 67 6) (h : SK A g) : SK A g' := by
  unfold SK at h ⊢
  rw [h5, h6]
  exact h
theorem StK_fr {A : jA} {g g' : jv_S} (h1 : g' 80 9 = g 80 9) (h2 : g' 80 10 = g 80 10) (h3 : g' 80 11 = g 80 11) (h : StK A g) : StK A g' := by
  unfold StK at h ⊢
  rw [h1, h2, h3]
  exact h
theorem MK_fr {A : jA} {g g' : jv_S} (h1 : g' 101 7 = g 101 7) (h2 : g' 103 0 = g 103 0) (h3 : g' 103 1 = g 103 1) (h : MK A g) : MK A g' := by
  unfold MK at h ⊢
  rw [h1, h2, h3]
  exact h
theorem BK_fr {A : jA} {g g' : jv_S} (h1 : ∀ i, g' 132 i = g 132 i) (h2 : ∀ i, g' 133 i = g 133 i) (h : BK A g) : BK A g' := SR_fr h h1 h2
theorem KK_fr {A : jA} {g g' : jv_S} (hf : ∀ (p : Nat) (i : Int), ((p = 40 ∧ i = 5) ∨ (60 ≤ p ∧ p ≤ 67) ∨ p = 80 ∨ p = 101 ∨ p = 103 ∨ (131 ≤ p ∧ p ≤ 133)) → g' p i = g p i) (h : KK A g) : KK A g' := by
  obtain ⟨h1, h2, h3, h4, h5, h6⟩ := h
  unfold KK
  rw [hf 80 8 (by omega), hf 60 10 (by omega), hf 40 5 (by omega), hf 67 7 (by omega), hf 80 12 (by omega), hf 101 8 (by omega), hf 131 7 (by omega)]
  exact ⟨h1, ⟨h2.1, fun e => WK_fr (fun p i a b => hf p i (by omega)) (h2.2 e)⟩, ⟨h3.1, fun e => SK_fr (hf _ _ (by omega)) (hf _ _ (by omega)) (h3.2 e)⟩, ⟨h4.1, fun e => StK_fr (hf _ _ (by omega)) (hf _ _ (by omega)) (hf _ _ (by omega)) (h4.2 e)⟩, ⟨h5.1, fun e => MK_fr (hf _ _ (by omega)) (hf _ _ (by omega)) (hf _ _ (by omega)) (h5.2 e)⟩, ⟨h6.1, fun e => BK_fr (fun i => hf _ _ (by omega)) (fun i => hf _ _ (by omega)) (h6.2 e)⟩⟩
/-- all works are old when the ways have changed -/
theorem KK_old {A A' : jA} {g g' : jv_S} (h5 : g' 40 5 = g 40 5 + 1) (hf : ∀ (p : Nat) (i : Int), ((60 ≤ p ∧ p ≤ 67) ∨ p = 80 ∨ p = 101 ∨ p = 131) → g' p i = g p i) (h : KK A g) : KK A' g' := by
  obtain ⟨h1, h2, h3, h4, h5', h6⟩ := h
  have a1 := h2.1
  have a2 := h3.1
  have a3 := h4.1
  have a4 := h5'.1
  have a5 := h6.1
  unfold KK
  rw [hf 80 8 (by omega), hf 60 10 (by omega), h5, hf 67 7 (by omega), hf 80 12 (by omega), hf 101 8 (by omega), hf 131 7 (by omega)]
  exact ⟨h1, ⟨by omega, fun e => by omega⟩, ⟨by omega, fun e => by omega⟩, ⟨by omega, fun e => by omega⟩, ⟨by omega, fun e => by omega⟩, ⟨by omega, fun e => by omega⟩⟩
theorem ShC_fr {S : jB} {g g' : jv_S} (hf : ∀ (p : Nat) (i : Int), (p = 3 ∨ p = 8 ∨ p = 9) → g' p i = g p i) (h : ShC S g) : ShC S g' := by
  intro k hk
  obtain ⟨h1, h2, h3⟩ := h k hk
  rw [hf 9 _ (by omega), hf 8 _ (by omega)]
  exact ⟨h1, h2, fun i hi => by rw [hf 3 _ (by omega)]; exact h3 i hi⟩
theorem ShM_fr {S : jB} {g g' : jv_S} (hf : ∀ (p : Nat) (i : Int), (137 ≤ p ∧ p ≤ 139) → g' p i = g p i) (h : ShM S g) : ShM S g' := by
  intro k hk
  obtain ⟨h1, h2, h3⟩ := h k hk
  rw [hf 137 _ (by omega), hf 138 _ (by omega)]
  exact ⟨h1, h2, fun i hi => by rw [hf 139 _ (by omega)]; exact h3 i hi⟩
theorem CW40_fr {A : jA} {g g' : jv_S} (h : CW 40 A g) (hf : ∀ (p : Nat) (i : Int), ((p = 40 ∧ i = 4) ∨ (41 ≤ p ∧ p ≤ 59)) → g' p i = g p i) : CW 40 A g' := CW_fr h (hf _ _ (by omega)) (fun i => hf _ _ (by omega)) (fun i => hf _ _ (by omega)) (fun i => hf _ _ (by omega))
section
variable {A : jA} {B S : jB} {tr fl rb : Int} {l t : Nat} {g g' : jv_S}
theorem IC_fr (h : IC A B S tr fl rb l t g) (hf : kM g g') : IC A B S tr fl rb l t g' := by
  obtain ⟨h1, h2, h3, h4, h5, h6, h7, h8⟩ := h
  refine ⟨CN_fr h1 (fun p i a b => hf p i (by omega)), CW40_fr h2 (fun p i a => hf p i (by omega)), by rw [hf 40 5 (by omega)]; exact h3, KK_fr (fun p i a => hf p i (by omega)) h4, TC_fr h5 (fun p i a => hf p i (by omega)), ShC_fr (fun p i a => hf p i (by omega)) h6, by rw [hf 1 10 (by omega), hf 1 11 (by omega)]; exact h7, by rw [hf 104 5 (by omega)]; exact h8⟩
theorem IM_fr (h : IM A B S tr fl g) (hf : kC g g') : IM A B S tr fl g' := by
  obtain ⟨h1, h2, h3, h4, h5⟩ := h
  refine ⟨MN_fr h1 (fun p i a b => hf p i (by omega)) (hf _ _ (by omega)) (hf _ _ (by omega)) (hf _ _ (by omega)), TMr_fr h2 (fun p i a => hf p i (by omega)), ShM_fr (fun p i a => hf p i (by omega)) h3, by rw [hf 136 1 (by omega)]; exact h4, by rw [hf 136 0 (by omega)]; exact h5⟩
theorem IC_t (h : IC A B S tr fl rb l t g) : IC A B S tr fl rb l (t + 1) g := by
  obtain ⟨h1, h2, h3, h4, h5, h6, h7, h8⟩ := h
  exact ⟨h1, h2, ⟨h3.1, by omega⟩, h4, h5, h6, h7, ⟨h8.1, by omega⟩⟩
/-- place 1 alone has changed -/
theorem IC_1 {tr' fl' : Int} (h : IC A B S tr fl rb l t g) (hf : ∀ (p : Nat) (i : Int), ¬ p = 1 → g' p i = g p i) (e1 : g' 1 10 = tr') (e2 : g' 1 11 = fl') : IC A B S tr' fl' rb l t g' := by
  obtain ⟨h1, h2, h3, h4, h5, h6, h7, h8⟩ := h
  refine ⟨CN_fr h1 (fun p i a b => hf p i (by omega)), CW40_fr h2 (fun p i a => hf p i (by omega)), by rw [hf 40 5 (by omega)]; exact h3, KK_fr (fun p i a => hf p i (by omega)) h4, TC_fr h5 (fun p i a => hf p i (by omega)), ShC_fr (fun p i a => hf p i (by omega)) h6, ⟨e1, e2⟩, by rw [hf 104 5 (by omega)]; exact h8⟩
/-- the sheets alone have changed -/
theorem IC_sh {S' : jB} (h : IC A B S tr fl rb l t g) (hf : ∀ (p : Nat) (i : Int), ¬ (2 ≤ p ∧ p ≤ 9) → g' p i = g p i) (hS : ShC S' g') : IC A B S' tr fl rb l t g' := by
  obtain ⟨h1, h2, h3, h4, h5, h6, h7, h8⟩ := h
  refine ⟨CN_fr h1 (fun p i a b => hf p i (by omega)), CW40_fr h2 (fun p i a => hf p i (by omega)), by rw [hf 40 5 (by omega)]; exact h3, KK_fr (fun p i a => hf p i (by omega)) h4, TC_fr h5 (fun p i a => hf p i (by omega)), hS, by rw [hf 1 10 (by omega), hf 1 11 (by omega)]; exact h7, by rw [hf 104 5 (by omega)]; exact h8⟩
/-- the works alone have changed -/
theorem IC_k (h : IC A B S tr fl rb l t g) (hf : ∀ (p : Nat) (i : Int), ¬ ((60 ≤ p ∧ p ≤ 86) ∨ (101 ≤ p ∧ p ≤ 135)) → g' p i = g p i) (hK : KK A g') (h104 : 0 ≤ g' 104 5 ∧ g' 104 5 ≤ 70000 * (t : Int)) : IC A B S tr fl rb l t g' := by
  obtain ⟨h1, h2, h3, h4, h5, h6, h7, h8⟩ := h
  refine ⟨CN_fr h1 (fun p i a b => hf p i (by omega)), CW40_fr h2 (fun p i a => hf p i (by omega)), by rw [hf 40 5 (by omega)]; exact h3, hK, TC_fr h5 (fun p i a => hf p i (by omega)), ShC_fr (fun p i a => hf p i (by omega)) h6, by rw [hf 1 10 (by omega), hf 1 11 (by omega)]; exact h7, h104⟩
/-- the loads alone have changed -/
theorem IC_tc {B' : jB} {rb' : Int} {l' : Nat} (h : IC A B S tr fl rb l t g) (hf : ∀ (p : Nat) (i : Int), ¬ ((87 ≤ p ∧ p ≤ 100) ∨ p = 1000) → g' p i = g p i) (hT : TC A B' rb' l' g') : IC A B' S tr fl rb' l' t g' := by
  obtain ⟨h1, h2, h3, h4, h5, h6, h7, h8⟩ := h
  refine ⟨CN_fr h1 (fun p i a b => hf p i (by omega)), CW40_fr h2 (fun p i a => hf p i (by omega)), by rw [hf 40 5 (by omega)]; exact h3, KK_fr (fun p i a => hf p i (by omega)) h4, hT, ShC_fr (fun p i a => hf p i (by omega)) h6, by rw [hf 1 10 (by omega), hf 1 11 (by omega)]; exact h7, by rw [hf 104 5 (by omega)]; exact h8⟩
/-- the ways alone have changed -/
theorem IC_w {A' : jA} (h : IC A B S tr fl rb l t g) (hf : ∀ (p : Nat) (i : Int), ¬ (40 ≤ p ∧ p ≤ 59) → g' p i = g p i) (hN : CN A' g') (hW : CW 40 A' g') (h5' : g' 40 5 = g 40 5 + 1) (hT : TC A B rb l g' → TC A' B rb l g') : IC A' B S tr fl rb l (t + 1) g' := by
  obtain ⟨h1, h2, h3, h4, h5, h6, h7, h8⟩ := h
  refine ⟨hN, hW, by rw [h5']; omega, KK_old h5' (fun p i a => hf p i (by omega)) h4, hT (TC_fr h5 (fun p i a => hf p i (by omega))), ShC_fr (fun p i a => hf p i (by omega)) h6, by rw [hf 1 10 (by omega), hf 1 11 (by omega)]; exact h7, by rw [hf 104 5 (by omega)]; omega⟩
end
/-- all that holds between calls: s the script, t calls so far -/
def IV (s : Int → Int) (l t : Nat) (g : jv_S) : Prop := (∀ i, g 0 i = s i) ∧ ∃ (A : jA) (B S : jB) (tr fl rb : Int), PW A B S rb l t ∧ IC A B S tr fl rb l t g ∧ IM A B S tr fl g
/-- both sides of one call, int answers -/
def CI (s : Int → Int) (n t kx ky : Nat) (as : List jv_V) (l : Nat) (g : jv_S) : Prop := jv_Ca jv_T jv_ml kx (jv_P 1 :: as) (LL n l) g (fun r L1 g1 => ∃ (v : Int) (l1 : Nat), r = jv_I v ∧ L1 = LL n l1 ∧ (∀ i, g1 0 i = s i) ∧ jv_Ca jv_T jv_ml ky (jv_P 136 :: as) (LL n l1) g1 (fun r2 L2 g2 => r2 = jv_I v ∧ L2 = LL n l1 ∧ IV s l1 (t + 1) g2))
/-- both sides of one call, long answers -/
def CJ (s : Int → Int) (n t kx ky : Nat) (as : List jv_V) (l : Nat) (g : jv_S) : Prop := jv_Ca jv_T jv_ml kx (jv_P 1 :: as) (LL n l) g (fun r L1 g1 => ∃ (v : Int) (l1 : Nat), r = jv_J v ∧ L1 = LL n l1 ∧ (∀ i, g1 0 i = s i) ∧ jv_Ca jv_T jv_ml ky (jv_P 136 :: as) (LL n l1) g1 (fun r2 L2 g2 => r2 = jv_J v ∧ L2 = LL n l1 ∧ IV s l1 (t + 1) g2))
