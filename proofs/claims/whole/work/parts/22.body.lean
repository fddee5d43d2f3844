/-! ===== every run ===== -/
theorem js_body {l : Launch} {s0 b n : Nat} {xs : Nat → Int32} {D : va_G} (hC : js_Cl) (hA : js_All) : ∀ fuel, js_Body l s0 b n xs D fuel := by
  intro fuel
  induction fuel with
  | zero => intro k pc ls st L g r L' g' h; cases h
  | succ fuel ih =>
    intro k pc ls st L g r L' g' h hk hk1 p e R s m args below meth c H locs cells slots Q LS ST X hM hl hS hF hfr hlo hr1 hr2 hret
    have hgr := jv_ex_grow _ _ _ _ _ _ _ _ _ _ h
    rw [jv_ex] at h
    cases he : jv_fi (jv_T k) pc with
    | none => rw [he] at h; cases h
    | some q =>
      rw [he] at h
      dsimp only at h
      obtain ⟨hq, rfl⟩ := jv_fi_mem he
      have hie := hA k hk hk1 q hq
      cases hs : jv_sx q ls st L g with
      | none => rw [hs] at h; cases h
      | some y =>
        obtain ⟨cs, nx⟩ := y
        rw [hs] at h
        dsimp only at h
        have hm := js_Gd.st (L := L) (g := g) cs nx hs
        cases hok : jv_ok cs with
        | false => rw [hok] at h; cases h
        | true =>
          rw [hok] at h
          dsimp only at h
          have go : ∀ {z : jv_Go}, js_P L z → jv_ex jv_T jv_ml fuel k z.1 z.2.1 z.2.2.1 z.2.2.2.1 z.2.2.2.2 = some (r, L', g') → js_KG p l e R s m args below meth c cells slots Q s0 b n xs D k L z ∧ cells + (z.2.2.2.1.length - L.length) ≤ R.cells ∧ slots + (js_sz z.2.2.2.1 - js_sz L) ≤ R.slots := by
            intro z hz hx
            have hg2 := jv_ex_grow _ _ _ _ _ _ _ _ _ _ hx
            have z1 := hz.1.1
            have hg3 := hg2.1.1
            have hg4 := hg2.2
            have hgr1 := hgr.1.1
            have hgr2 := hgr.2
            have z2 := hz.2
            refine ⟨?_, by omega, by omega⟩
            intro H' locs' LS' ST' hM' _ hl' hS' hF'
            refine ih k _ _ _ _ _ r L' g' hx hk hk1 X hM' hl' hS' hF' hfr hlo (by omega) (by omega) (fun H2 locs2 LS2 ST2 pc2 hM2 hF2 hR2 => ?_)
            have := hret H2 locs2 LS2 ST2 pc2 hM2 hF2 hR2
            have e1 : cells + (z.2.2.2.1.length - L.length) + (L'.length - z.2.2.2.1.length) = cells + (L'.length - L.length) := by omega
            have e2 : slots + (js_sz z.2.2.2.1 - js_sz L) + (js_sz L' - js_sz z.2.2.2.1) = slots + (js_sz L' - js_sz L) := by omega
            rw [e1, e2]
            exact this
          refine js_step hC X hM hl hS hF hfr hlo hie hs hok ?_
          rcases nx with ⟨li, d⟩ | ⟨z, f⟩ | ⟨z, f⟩ | ⟨r', L2, g2⟩ | ⟨k', as, rest⟩ <;> unfold jv_nx at h <;> dsimp only at h
          · rw [jv_dl_id] at h
            exact go (js_dl_P li d hm.1 hm.2) h
          · exact (go (hm _) h).1
          · exact (go (hm _) h).1
          · cases h
            obtain ⟨rfl, rfl⟩ := hm
            intro _ _ hR
            have := hret H locs LS ST q.1 hM hF hR
            simpa using this
          · cases hb : Nat.ble (jv_fl as).length (jv_ml k') with
            | false => rw [hb] at h; cases h
            | true =>
              rw [hb] at h
              dsimp only at h
              have hb := Nat.le_of_ble_eq_true hb
              cases hc : jv_ex jv_T jv_ml fuel k' 0 (jv_en (jv_ml k') as) [] L g with
              | none => rw [hc] at h; cases h
              | some w =>
                obtain ⟨r1, L1, g1⟩ := w
                rw [hc] at h
                have hg1 := jv_ex_grow _ _ _ _ _ _ _ _ _ _ hc
                have hg2 := jv_ex_grow _ _ _ _ _ _ _ _ _ _ h
                have a1 := hg1.1.1
                have a2 := hg1.2
                have a3 := hg2.1.1
                have a4 := hg2.2
                intro x i rc vs STr hCF
                have hk' := hCF.2.1.1
                have hk1' := hCF.2.1.2.1
                have hSv := hCF.2.2.2.2.1
                have hSr := hCF.2.2.2.2.2.1
                refine js_call hC X hM hl.1 hF hfr hlo hCF (js_met hC ih hc hk' hk1' hSv hb) (by omega) (by omega) (fun H' locs' v hM' hF' hO => ?_)
                have hle : jr_le L L1 := hg1.1
                have hS' : js_S s0 b L1 (v.toList ++ STr) (jv_pu r1 rest) := by
                  have hSr' := hSr.mono hle
                  rcases hO with ⟨rfl, rfl⟩ | ⟨hu, w, rfl, hw⟩
                  · exact hSr'
                  · have : jv_pu r1 rest = r1 :: rest := by
                      rcases r1 with a | a | a | a | a | a
                      · rfl
                      · rfl
                      · rfl
                      · rfl
                      · rfl
                      · exact absurd rfl hu
                    rw [this]
                    exact ⟨hu, hw, hSr'⟩
                refine ih k _ _ _ _ _ r L' g' h hk hk1 X hM' (hl.mono hle) hS' hF' hfr hlo (by omega) (by omega) (fun H2 locs2 LS2 ST2 pc2 hM2 hF2 hR2 => ?_)
                have := hret H2 locs2 LS2 ST2 pc2 hM2 hF2 hR2
                have e1 : cells + (L1.length - L.length) + (L'.length - L1.length) = cells + (L'.length - L.length) := by omega
                have e2 : slots + (js_sz L1 - js_sz L) + (js_sz L' - js_sz L1) = slots + (js_sz L' - js_sz L) := by omega
                rw [e1, e2]
                exact this
