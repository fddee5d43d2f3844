/-! ===== the classes (written by a program) ===== -/
set_option maxRecDepth 1000000 in
set_option maxHeartbeats 16000000 in
theorem js_u_0 : ∀ w ∈ u_ws RX0 TX0 8, w ∈ jm_ws := List.forall_mem_cons.mpr ⟨js_wm (i := 406) rfl rfl, List.forall_mem_cons.mpr ⟨js_wm (i := 408) rfl rfl, List.forall_mem_cons.mpr ⟨js_wm (i := 410) rfl rfl, List.forall_mem_cons.mpr ⟨js_wm (i := 412) rfl rfl, List.forall_mem_cons.mpr ⟨js_wm (i := 414) rfl rfl, List.forall_mem_cons.mpr ⟨js_wm (i := 416) rfl rfl, List.forall_mem_cons.mpr ⟨js_wm (i := 418) rfl rfl, List.forall_mem_cons.mpr ⟨js_wm (i := 420) rfl rfl, fun _ h => absurd h List.not_mem_nil⟩⟩⟩⟩⟩⟩⟩⟩
set_option maxRecDepth 1000000 in
set_option maxHeartbeats 16000000 in
theorem js_t_0 : ∀ k, k < 8 → (jv_ft 0 k = 0 ∧ tyX0 k = .int) ∨ (jv_ft 0 k = 1 ∧ tyX0 k = .boolean) ∨ (jv_ft 0 k = 2 ∧ ((∃ C, tyX0 k = .object C) ∨ ∃ t, tyX0 k = .array t)) := by
  intro k hk
  rcases (show k = 0 ∨ k = 1 ∨ k = 2 ∨ k = 3 ∨ k = 4 ∨ k = 5 ∨ k = 6 ∨ k = 7 by omega) with rfl | rfl | rfl | rfl | rfl | rfl | rfl | rfl
  · exact Or.inr (Or.inr ⟨rfl, Or.inl ⟨_, rfl⟩⟩)
  · exact Or.inr (Or.inr ⟨rfl, Or.inl ⟨_, rfl⟩⟩)
  · exact Or.inr (Or.inr ⟨rfl, Or.inl ⟨_, rfl⟩⟩)
  · exact Or.inr (Or.inr ⟨rfl, Or.inr ⟨_, rfl⟩⟩)
  · exact Or.inr (Or.inr ⟨rfl, Or.inr ⟨_, rfl⟩⟩)
  · exact Or.inr (Or.inr ⟨rfl, Or.inr ⟨_, rfl⟩⟩)
  · exact Or.inr (Or.inr ⟨rfl, Or.inr ⟨_, rfl⟩⟩)
  · exact Or.inl ⟨rfl, rfl⟩
set_option maxRecDepth 1000000 in
set_option maxHeartbeats 16000000 in
theorem js_u_1 : ∀ w ∈ u_ws RX1 TX1 8, w ∈ jm_ws := List.forall_mem_cons.mpr ⟨js_wm (i := 807) rfl rfl, List.forall_mem_cons.mpr ⟨js_wm (i := 809) rfl rfl, List.forall_mem_cons.mpr ⟨js_wm (i := 811) rfl rfl, List.forall_mem_cons.mpr ⟨js_wm (i := 813) rfl rfl, List.forall_mem_cons.mpr ⟨js_wm (i := 815) rfl rfl, List.forall_mem_cons.mpr ⟨js_wm (i := 817) rfl rfl, List.forall_mem_cons.mpr ⟨js_wm (i := 819) rfl rfl, List.forall_mem_cons.mpr ⟨js_wm (i := 821) rfl rfl, fun _ h => absurd h List.not_mem_nil⟩⟩⟩⟩⟩⟩⟩⟩
set_option maxRecDepth 1000000 in
set_option maxHeartbeats 16000000 in
theorem js_t_1 : ∀ k, k < 8 → (jv_ft 1 k = 0 ∧ tyX1 k = .int) ∨ (jv_ft 1 k = 1 ∧ tyX1 k = .boolean) ∨ (jv_ft 1 k = 2 ∧ ((∃ C, tyX1 k = .object C) ∨ ∃ t, tyX1 k = .array t)) := by
  intro k hk
  rcases (show k = 0 ∨ k = 1 ∨ k = 2 ∨ k = 3 ∨ k = 4 ∨ k = 5 ∨ k = 6 ∨ k = 7 by omega) with rfl | rfl | rfl | rfl | rfl | rfl | rfl | rfl
  · exact Or.inl ⟨rfl, rfl⟩
  · exact Or.inl ⟨rfl, rfl⟩
  · exact Or.inl ⟨rfl, rfl⟩
  · exact Or.inl ⟨rfl, rfl⟩
  · exact Or.inl ⟨rfl, rfl⟩
  · exact Or.inl ⟨rfl, rfl⟩
  · exact Or.inl ⟨rfl, rfl⟩
  · exact Or.inl ⟨rfl, rfl⟩
set_option maxRecDepth 1000000 in
set_option maxHeartbeats 16000000 in
theorem js_u_2 : ∀ w ∈ u_ws RX2 TX2 9, w ∈ jm_ws := List.forall_mem_cons.mpr ⟨js_wm (i := 371) rfl rfl, List.forall_mem_cons.mpr ⟨js_wm (i := 373) rfl rfl, List.forall_mem_cons.mpr ⟨js_wm (i := 375) rfl rfl, List.forall_mem_cons.mpr ⟨js_wm (i := 377) rfl rfl, List.forall_mem_cons.mpr ⟨js_wm (i := 379) rfl rfl, List.forall_mem_cons.mpr ⟨js_wm (i := 381) rfl rfl, List.forall_mem_cons.mpr ⟨js_wm (i := 383) rfl rfl, List.forall_mem_cons.mpr ⟨js_wm (i := 385) rfl rfl, List.forall_mem_cons.mpr ⟨js_wm (i := 387) rfl rfl, fun _ h => absurd h List.not_mem_nil⟩⟩⟩⟩⟩⟩⟩⟩⟩
set_option maxRecDepth 1000000 in
set_option maxHeartbeats 16000000 in
theorem js_t_2 : ∀ k, k < 9 → (jv_ft 2 k = 0 ∧ tyX2 k = .int) ∨ (jv_ft 2 k = 1 ∧ tyX2 k = .boolean) ∨ (jv_ft 2 k = 2 ∧ ((∃ C, tyX2 k = .object C) ∨ ∃ t, tyX2 k = .array t)) := by
  intro k hk
  rcases (show k = 0 ∨ k = 1 ∨ k = 2 ∨ k = 3 ∨ k = 4 ∨ k = 5 ∨ k = 6 ∨ k = 7 ∨ k = 8 by omega) with rfl | rfl | rfl | rfl | rfl | rfl | rfl | rfl | rfl
  · exact Or.inr (Or.inr ⟨rfl, Or.inl ⟨_, rfl⟩⟩)
  · exact Or.inr (Or.inr ⟨rfl, Or.inl ⟨_, rfl⟩⟩)
  · exact Or.inr (Or.inr ⟨rfl, Or.inl ⟨_, rfl⟩⟩)
  · exact Or.inr (Or.inr ⟨rfl, Or.inl ⟨_, rfl⟩⟩)
  · exact Or.inr (Or.inr ⟨rfl, Or.inl ⟨_, rfl⟩⟩)
  · exact Or.inr (Or.inr ⟨rfl, Or.inr ⟨_, rfl⟩⟩)
  · exact Or.inr (Or.inr ⟨rfl, Or.inr ⟨_, rfl⟩⟩)
  · exact Or.inl ⟨rfl, rfl⟩
  · exact Or.inl ⟨rfl, rfl⟩
set_option maxRecDepth 1000000 in
set_option maxHeartbeats 16000000 in
theorem js_u_3 : ∀ w ∈ u_ws RX3 TX3 9, w ∈ jm_ws := List.forall_mem_cons.mpr ⟨js_wm (i := 121) rfl rfl, List.forall_mem_cons.mpr ⟨js_wm (i := 123) rfl rfl, List.forall_mem_cons.mpr ⟨js_wm (i := 125) rfl rfl, List.forall_mem_cons.mpr ⟨js_wm (i := 127) rfl rfl, List.forall_mem_cons.mpr ⟨js_wm (i := 129) rfl rfl, List.forall_mem_cons.mpr ⟨js_wm (i := 131) rfl rfl, List.forall_mem_cons.mpr ⟨js_wm (i := 133) rfl rfl, List.forall_mem_cons.mpr ⟨js_wm (i := 135) rfl rfl, List.forall_mem_cons.mpr ⟨js_wm (i := 137) rfl rfl, fun _ h => absurd h List.not_mem_nil⟩⟩⟩⟩⟩⟩⟩⟩⟩
set_option maxRecDepth 1000000 in
set_option maxHeartbeats 16000000 in
theorem js_t_3 : ∀ k, k < 9 → (jv_ft 3 k = 0 ∧ tyX3 k = .int) ∨ (jv_ft 3 k = 1 ∧ tyX3 k = .boolean) ∨ (jv_ft 3 k = 2 ∧ ((∃ C, tyX3 k = .object C) ∨ ∃ t, tyX3 k = .array t)) := by
  intro k hk
  rcases (show k = 0 ∨ k = 1 ∨ k = 2 ∨ k = 3 ∨ k = 4 ∨ k = 5 ∨ k = 6 ∨ k = 7 ∨ k = 8 by omega) with rfl | rfl | rfl | rfl | rfl | rfl | rfl | rfl | rfl
  · exact Or.inl ⟨rfl, rfl⟩
  · exact Or.inl ⟨rfl, rfl⟩
  · exact Or.inr (Or.inr ⟨rfl, Or.inr ⟨_, rfl⟩⟩)
  · exact Or.inr (Or.inr ⟨rfl, Or.inr ⟨_, rfl⟩⟩)
  · exact Or.inr (Or.inr ⟨rfl, Or.inr ⟨_, rfl⟩⟩)
  · exact Or.inr (Or.inr ⟨rfl, Or.inr ⟨_, rfl⟩⟩)
  · exact Or.inr (Or.inr ⟨rfl, Or.inr ⟨_, rfl⟩⟩)
  · exact Or.inr (Or.inr ⟨rfl, Or.inr ⟨_, rfl⟩⟩)
  · exact Or.inr (Or.inr ⟨rfl, Or.inr ⟨_, rfl⟩⟩)
set_option maxRecDepth 1000000 in
set_option maxHeartbeats 16000000 in
theorem js_u_4 : ∀ w ∈ u_ws RX4 TX4 3, w ∈ jm_ws := List.forall_mem_cons.mpr ⟨js_wm (i := 39) rfl rfl, List.forall_mem_cons.mpr ⟨js_wm (i := 41) rfl rfl, List.forall_mem_cons.mpr ⟨js_wm (i := 43) rfl rfl, fun _ h => absurd h List.not_mem_nil⟩⟩⟩
set_option maxRecDepth 1000000 in
set_option maxHeartbeats 16000000 in
theorem js_t_4 : ∀ k, k < 3 → (jv_ft 4 k = 0 ∧ tyX4 k = .int) ∨ (jv_ft 4 k = 1 ∧ tyX4 k = .boolean) ∨ (jv_ft 4 k = 2 ∧ ((∃ C, tyX4 k = .object C) ∨ ∃ t, tyX4 k = .array t)) := by
  intro k hk
  rcases (show k = 0 ∨ k = 1 ∨ k = 2 by omega) with rfl | rfl | rfl
  · exact Or.inr (Or.inr ⟨rfl, Or.inr ⟨_, rfl⟩⟩)
  · exact Or.inr (Or.inr ⟨rfl, Or.inr ⟨_, rfl⟩⟩)
  · exact Or.inr (Or.inr ⟨rfl, Or.inr ⟨_, rfl⟩⟩)
set_option maxRecDepth 1000000 in
set_option maxHeartbeats 16000000 in
theorem js_u_5 : ∀ w ∈ u_ws RX5 TX5 13, w ∈ jm_ws := List.forall_mem_cons.mpr ⟨js_wm (i := 289) rfl rfl, List.forall_mem_cons.mpr ⟨js_wm (i := 291) rfl rfl, List.forall_mem_cons.mpr ⟨js_wm (i := 293) rfl rfl, List.forall_mem_cons.mpr ⟨js_wm (i := 295) rfl rfl, List.forall_mem_cons.mpr ⟨js_wm (i := 297) rfl rfl, List.forall_mem_cons.mpr ⟨js_wm (i := 299) rfl rfl, List.forall_mem_cons.mpr ⟨js_wm (i := 301) rfl rfl, List.forall_mem_cons.mpr ⟨js_wm (i := 303) rfl rfl, List.forall_mem_cons.mpr ⟨js_wm (i := 305) rfl rfl, List.forall_mem_cons.mpr ⟨js_wm (i := 307) rfl rfl, List.forall_mem_cons.mpr ⟨js_wm (i := 309) rfl rfl, List.forall_mem_cons.mpr ⟨js_wm (i := 311) rfl rfl, List.forall_mem_cons.mpr ⟨js_wm (i := 313) rfl rfl, fun _ h => absurd h List.not_mem_nil⟩⟩⟩⟩⟩⟩⟩⟩⟩⟩⟩⟩⟩
set_option maxRecDepth 1000000 in
set_option maxHeartbeats 16000000 in
theorem js_t_5 : ∀ k, k < 13 → (jv_ft 5 k = 0 ∧ tyX5 k = .int) ∨ (jv_ft 5 k = 1 ∧ tyX5 k = .boolean) ∨ (jv_ft 5 k = 2 ∧ ((∃ C, tyX5 k = .object C) ∨ ∃ t, tyX5 k = .array t)) := by
  intro k hk
  rcases (show k = 0 ∨ k = 1 ∨ k = 2 ∨ k = 3 ∨ k = 4 ∨ k = 5 ∨ k = 6 ∨ k = 7 ∨ k = 8 ∨ k = 9 ∨ k = 10 ∨ k = 11 ∨ k = 12 by omega) with rfl | rfl | rfl | rfl | rfl | rfl | rfl | rfl | rfl | rfl | rfl | rfl | rfl
  · exact Or.inr (Or.inr ⟨rfl, Or.inl ⟨_, rfl⟩⟩)
  · exact Or.inr (Or.inr ⟨rfl, Or.inl ⟨_, rfl⟩⟩)
  · exact Or.inr (Or.inr ⟨rfl, Or.inr ⟨_, rfl⟩⟩)
  · exact Or.inr (Or.inr ⟨rfl, Or.inr ⟨_, rfl⟩⟩)
  · exact Or.inr (Or.inr ⟨rfl, Or.inr ⟨_, rfl⟩⟩)
  · exact Or.inr (Or.inr ⟨rfl, Or.inr ⟨_, rfl⟩⟩)
  · exact Or.inr (Or.inr ⟨rfl, Or.inr ⟨_, rfl⟩⟩)
  · exact Or.inr (Or.inr ⟨rfl, Or.inr ⟨_, rfl⟩⟩)
  · exact Or.inr (Or.inl ⟨rfl, rfl⟩)
  · exact Or.inl ⟨rfl, rfl⟩
  · exact Or.inl ⟨rfl, rfl⟩
  · exact Or.inl ⟨rfl, rfl⟩
  · exact Or.inl ⟨rfl, rfl⟩
set_option maxRecDepth 1000000 in
set_option maxHeartbeats 16000000 in
theorem js_u_6 : ∀ w ∈ u_ws RX6 TX6 8, w ∈ jm_ws := List.forall_mem_cons.mpr ⟨js_wm (i := 250) rfl rfl, List.forall_mem_cons.mpr ⟨js_wm (i := 252) rfl rfl, List.forall_mem_cons.mpr ⟨js_wm (i := 254) rfl rfl, List.forall_mem_cons.mpr ⟨js_wm (i := 256) rfl rfl, List.forall_mem_cons.mpr ⟨js_wm (i := 258) rfl rfl, List.forall_mem_cons.mpr ⟨js_wm (i := 260) rfl rfl, List.forall_mem_cons.mpr ⟨js_wm (i := 262) rfl rfl, List.forall_mem_cons.mpr ⟨js_wm (i := 264) rfl rfl, fun _ h => absurd h List.not_mem_nil⟩⟩⟩⟩⟩⟩⟩⟩
set_option maxRecDepth 1000000 in
set_option maxHeartbeats 16000000 in
theorem js_t_6 : ∀ k, k < 8 → (jv_ft 6 k = 0 ∧ tyX6 k = .int) ∨ (jv_ft 6 k = 1 ∧ tyX6 k = .boolean) ∨ (jv_ft 6 k = 2 ∧ ((∃ C, tyX6 k = .object C) ∨ ∃ t, tyX6 k = .array t)) := by
  intro k hk
  rcases (show k = 0 ∨ k = 1 ∨ k = 2 ∨ k = 3 ∨ k = 4 ∨ k = 5 ∨ k = 6 ∨ k = 7 by omega) with rfl | rfl | rfl | rfl | rfl | rfl | rfl | rfl
  · exact Or.inr (Or.inr ⟨rfl, Or.inl ⟨_, rfl⟩⟩)
  · exact Or.inr (Or.inr ⟨rfl, Or.inl ⟨_, rfl⟩⟩)
  · exact Or.inr (Or.inr ⟨rfl, Or.inl ⟨_, rfl⟩⟩)
  · exact Or.inr (Or.inr ⟨rfl, Or.inr ⟨_, rfl⟩⟩)
  · exact Or.inr (Or.inr ⟨rfl, Or.inr ⟨_, rfl⟩⟩)
  · exact Or.inl ⟨rfl, rfl⟩
  · exact Or.inl ⟨rfl, rfl⟩
  · exact Or.inl ⟨rfl, rfl⟩
set_option maxRecDepth 1000000 in
set_option maxHeartbeats 16000000 in
theorem js_u_7 : ∀ w ∈ u_ws RX7 TX7 6, w ∈ jm_ws := List.forall_mem_cons.mpr ⟨js_wm (i := 64) rfl rfl, List.forall_mem_cons.mpr ⟨js_wm (i := 66) rfl rfl, List.forall_mem_cons.mpr ⟨js_wm (i := 68) rfl rfl, List.forall_mem_cons.mpr ⟨js_wm (i := 70) rfl rfl, List.forall_mem_cons.mpr ⟨js_wm (i := 72) rfl rfl, List.forall_mem_cons.mpr ⟨js_wm (i := 74) rfl rfl, fun _ h => absurd h List.not_mem_nil⟩⟩⟩⟩⟩⟩
set_option maxRecDepth 1000000 in
set_option maxHeartbeats 16000000 in
theorem js_t_7 : ∀ k, k < 6 → (jv_ft 7 k = 0 ∧ tyX7 k = .int) ∨ (jv_ft 7 k = 1 ∧ tyX7 k = .boolean) ∨ (jv_ft 7 k = 2 ∧ ((∃ C, tyX7 k = .object C) ∨ ∃ t, tyX7 k = .array t)) := by
  intro k hk
  rcases (show k = 0 ∨ k = 1 ∨ k = 2 ∨ k = 3 ∨ k = 4 ∨ k = 5 by omega) with rfl | rfl | rfl | rfl | rfl | rfl
  · exact Or.inr (Or.inr ⟨rfl, Or.inr ⟨_, rfl⟩⟩)
  · exact Or.inr (Or.inr ⟨rfl, Or.inr ⟨_, rfl⟩⟩)
  · exact Or.inr (Or.inr ⟨rfl, Or.inr ⟨_, rfl⟩⟩)
  · exact Or.inl ⟨rfl, rfl⟩
  · exact Or.inl ⟨rfl, rfl⟩
  · exact Or.inl ⟨rfl, rfl⟩
set_option maxRecDepth 1000000 in
set_option maxHeartbeats 16000000 in
theorem js_u_8 : ∀ w ∈ u_ws RX8 TX8 7, w ∈ jm_ws := List.forall_mem_cons.mpr ⟨js_wm (i := 335) rfl rfl, List.forall_mem_cons.mpr ⟨js_wm (i := 337) rfl rfl, List.forall_mem_cons.mpr ⟨js_wm (i := 339) rfl rfl, List.forall_mem_cons.mpr ⟨js_wm (i := 341) rfl rfl, List.forall_mem_cons.mpr ⟨js_wm (i := 343) rfl rfl, List.forall_mem_cons.mpr ⟨js_wm (i := 345) rfl rfl, List.forall_mem_cons.mpr ⟨js_wm (i := 347) rfl rfl, fun _ h => absurd h List.not_mem_nil⟩⟩⟩⟩⟩⟩⟩
set_option maxRecDepth 1000000 in
set_option maxHeartbeats 16000000 in
theorem js_t_8 : ∀ k, k < 7 → (jv_ft 8 k = 0 ∧ tyX8 k = .int) ∨ (jv_ft 8 k = 1 ∧ tyX8 k = .boolean) ∨ (jv_ft 8 k = 2 ∧ ((∃ C, tyX8 k = .object C) ∨ ∃ t, tyX8 k = .array t)) := by
  intro k hk
  rcases (show k = 0 ∨ k = 1 ∨ k = 2 ∨ k = 3 ∨ k = 4 ∨ k = 5 ∨ k = 6 by omega) with rfl | rfl | rfl | rfl | rfl | rfl | rfl
  · exact Or.inr (Or.inr ⟨rfl, Or.inl ⟨_, rfl⟩⟩)
  · exact Or.inr (Or.inr ⟨rfl, Or.inl ⟨_, rfl⟩⟩)
  · exact Or.inr (Or.inr ⟨rfl, Or.inr ⟨_, rfl⟩⟩)
  · exact Or.inr (Or.inr ⟨rfl, Or.inr ⟨_, rfl⟩⟩)
  · exact Or.inr (Or.inr ⟨rfl, Or.inr ⟨_, rfl⟩⟩)
  · exact Or.inl ⟨rfl, rfl⟩
  · exact Or.inl ⟨rfl, rfl⟩
set_option maxRecDepth 1000000 in
set_option maxHeartbeats 16000000 in
theorem js_u_9 : ∀ w ∈ u_ws RX9 TX9 11, w ∈ jm_ws := List.forall_mem_cons.mpr ⟨js_wm (i := 210) rfl rfl, List.forall_mem_cons.mpr ⟨js_wm (i := 212) rfl rfl, List.forall_mem_cons.mpr ⟨js_wm (i := 214) rfl rfl, List.forall_mem_cons.mpr ⟨js_wm (i := 216) rfl rfl, List.forall_mem_cons.mpr ⟨js_wm (i := 218) rfl rfl, List.forall_mem_cons.mpr ⟨js_wm (i := 220) rfl rfl, List.forall_mem_cons.mpr ⟨js_wm (i := 222) rfl rfl, List.forall_mem_cons.mpr ⟨js_wm (i := 224) rfl rfl, List.forall_mem_cons.mpr ⟨js_wm (i := 226) rfl rfl, List.forall_mem_cons.mpr ⟨js_wm (i := 228) rfl rfl, List.forall_mem_cons.mpr ⟨js_wm (i := 230) rfl rfl, fun _ h => absurd h List.not_mem_nil⟩⟩⟩⟩⟩⟩⟩⟩⟩⟩⟩
set_option maxRecDepth 1000000 in
set_option maxHeartbeats 16000000 in
theorem js_t_9 : ∀ k, k < 11 → (jv_ft 9 k = 0 ∧ tyX9 k = .int) ∨ (jv_ft 9 k = 1 ∧ tyX9 k = .boolean) ∨ (jv_ft 9 k = 2 ∧ ((∃ C, tyX9 k = .object C) ∨ ∃ t, tyX9 k = .array t)) := by
  intro k hk
  rcases (show k = 0 ∨ k = 1 ∨ k = 2 ∨ k = 3 ∨ k = 4 ∨ k = 5 ∨ k = 6 ∨ k = 7 ∨ k = 8 ∨ k = 9 ∨ k = 10 by omega) with rfl | rfl | rfl | rfl | rfl | rfl | rfl | rfl | rfl | rfl | rfl
  · exact Or.inr (Or.inr ⟨rfl, Or.inl ⟨_, rfl⟩⟩)
  · exact Or.inr (Or.inr ⟨rfl, Or.inl ⟨_, rfl⟩⟩)
  · exact Or.inr (Or.inr ⟨rfl, Or.inr ⟨_, rfl⟩⟩)
  · exact Or.inr (Or.inr ⟨rfl, Or.inr ⟨_, rfl⟩⟩)
  · exact Or.inr (Or.inr ⟨rfl, Or.inr ⟨_, rfl⟩⟩)
  · exact Or.inr (Or.inr ⟨rfl, Or.inr ⟨_, rfl⟩⟩)
  · exact Or.inr (Or.inr ⟨rfl, Or.inr ⟨_, rfl⟩⟩)
  · exact Or.inr (Or.inr ⟨rfl, Or.inr ⟨_, rfl⟩⟩)
  · exact Or.inr (Or.inl ⟨rfl, rfl⟩)
  · exact Or.inl ⟨rfl, rfl⟩
  · exact Or.inl ⟨rfl, rfl⟩
set_option maxRecDepth 1000000 in
set_option maxHeartbeats 16000000 in
theorem js_u_10 : ∀ w ∈ u_ws RX10 TX10 6, w ∈ jm_ws := List.forall_mem_cons.mpr ⟨js_wm (i := 169) rfl rfl, List.forall_mem_cons.mpr ⟨js_wm (i := 171) rfl rfl, List.forall_mem_cons.mpr ⟨js_wm (i := 173) rfl rfl, List.forall_mem_cons.mpr ⟨js_wm (i := 175) rfl rfl, List.forall_mem_cons.mpr ⟨js_wm (i := 177) rfl rfl, List.forall_mem_cons.mpr ⟨js_wm (i := 179) rfl rfl, fun _ h => absurd h List.not_mem_nil⟩⟩⟩⟩⟩⟩
set_option maxRecDepth 1000000 in
set_option maxHeartbeats 16000000 in
theorem js_t_10 : ∀ k, k < 6 → (jv_ft 10 k = 0 ∧ tyX10 k = .int) ∨ (jv_ft 10 k = 1 ∧ tyX10 k = .boolean) ∨ (jv_ft 10 k = 2 ∧ ((∃ C, tyX10 k = .object C) ∨ ∃ t, tyX10 k = .array t)) := by
  intro k hk
  rcases (show k = 0 ∨ k = 1 ∨ k = 2 ∨ k = 3 ∨ k = 4 ∨ k = 5 by omega) with rfl | rfl | rfl | rfl | rfl | rfl
  · exact Or.inr (Or.inr ⟨rfl, Or.inl ⟨_, rfl⟩⟩)
  · exact Or.inr (Or.inr ⟨rfl, Or.inr ⟨_, rfl⟩⟩)
  · exact Or.inr (Or.inr ⟨rfl, Or.inr ⟨_, rfl⟩⟩)
  · exact Or.inr (Or.inr ⟨rfl, Or.inr ⟨_, rfl⟩⟩)
  · exact Or.inl ⟨rfl, rfl⟩
  · exact Or.inl ⟨rfl, rfl⟩
set_option maxRecDepth 1000000 in
set_option maxHeartbeats 16000000 in
theorem js_u_11 : ∀ w ∈ u_ws RX11 TX11 12, w ∈ jm_ws := List.forall_mem_cons.mpr ⟨js_wm (i := 436) rfl rfl, List.forall_mem_cons.mpr ⟨js_wm (i := 438) rfl rfl, List.forall_mem_cons.mpr ⟨js_wm (i := 440) rfl rfl, List.forall_mem_cons.mpr ⟨js_wm (i := 442) rfl rfl, List.forall_mem_cons.mpr ⟨js_wm (i := 444) rfl rfl, List.forall_mem_cons.mpr ⟨js_wm (i := 446) rfl rfl, List.forall_mem_cons.mpr ⟨js_wm (i := 448) rfl rfl, List.forall_mem_cons.mpr ⟨js_wm (i := 450) rfl rfl, List.forall_mem_cons.mpr ⟨js_wm (i := 452) rfl rfl, List.forall_mem_cons.mpr ⟨js_wm (i := 454) rfl rfl, List.forall_mem_cons.mpr ⟨js_wm (i := 456) rfl rfl, List.forall_mem_cons.mpr ⟨js_wm (i := 458) rfl rfl, fun _ h => absurd h List.not_mem_nil⟩⟩⟩⟩⟩⟩⟩⟩⟩⟩⟩⟩
set_option maxRecDepth 1000000 in
set_option maxHeartbeats 16000000 in
theorem js_t_11 : ∀ k, k < 12 → (jv_ft 11 k = 0 ∧ tyX11 k = .int) ∨ (jv_ft 11 k = 1 ∧ tyX11 k = .boolean) ∨ (jv_ft 11 k = 2 ∧ ((∃ C, tyX11 k = .object C) ∨ ∃ t, tyX11 k = .array t)) := by
  intro k hk
  rcases (show k = 0 ∨ k = 1 ∨ k = 2 ∨ k = 3 ∨ k = 4 ∨ k = 5 ∨ k = 6 ∨ k = 7 ∨ k = 8 ∨ k = 9 ∨ k = 10 ∨ k = 11 by omega) with rfl | rfl | rfl | rfl | rfl | rfl | rfl | rfl | rfl | rfl | rfl | rfl
  · exact Or.inr (Or.inr ⟨rfl, Or.inl ⟨_, rfl⟩⟩)
  · exact Or.inr (Or.inr ⟨rfl, Or.inl ⟨_, rfl⟩⟩)
  · exact Or.inr (Or.inr ⟨rfl, Or.inl ⟨_, rfl⟩⟩)
  · exact Or.inr (Or.inr ⟨rfl, Or.inl ⟨_, rfl⟩⟩)
  · exact Or.inr (Or.inr ⟨rfl, Or.inl ⟨_, rfl⟩⟩)
  · exact Or.inr (Or.inr ⟨rfl, Or.inl ⟨_, rfl⟩⟩)
  · exact Or.inr (Or.inr ⟨rfl, Or.inl ⟨_, rfl⟩⟩)
  · exact Or.inr (Or.inr ⟨rfl, Or.inl ⟨_, rfl⟩⟩)
  · exact Or.inr (Or.inr ⟨rfl, Or.inl ⟨_, rfl⟩⟩)
  · exact Or.inr (Or.inr ⟨rfl, Or.inl ⟨_, rfl⟩⟩)
  · exact Or.inl ⟨rfl, rfl⟩
  · exact Or.inl ⟨rfl, rfl⟩
set_option maxRecDepth 1000000 in
set_option maxHeartbeats 16000000 in
theorem js_u_12 : ∀ w ∈ u_ws RX12 TX12 50, w ∈ jm_ws := List.forall_mem_cons.mpr ⟨js_wm (i := 1109) rfl rfl, List.forall_mem_cons.mpr ⟨js_wm (i := 1111) rfl rfl, List.forall_mem_cons.mpr ⟨js_wm (i := 1113) rfl rfl, List.forall_mem_cons.mpr ⟨js_wm (i := 1115) rfl rfl, List.forall_mem_cons.mpr ⟨js_wm (i := 1117) rfl rfl, List.forall_mem_cons.mpr ⟨js_wm (i := 1119) rfl rfl, List.forall_mem_cons.mpr ⟨js_wm (i := 1121) rfl rfl, List.forall_mem_cons.mpr ⟨js_wm (i := 1123) rfl rfl, List.forall_mem_cons.mpr ⟨js_wm (i := 1125) rfl rfl, List.forall_mem_cons.mpr ⟨js_wm (i := 1127) rfl rfl, List.forall_mem_cons.mpr ⟨js_wm (i := 1129) rfl rfl, List.forall_mem_cons.mpr ⟨js_wm (i := 1131) rfl rfl, List.forall_mem_cons.mpr ⟨js_wm (i := 1133) rfl rfl, List.forall_mem_cons.mpr ⟨js_wm (i := 1135) rfl rfl, List.forall_mem_cons.mpr ⟨js_wm (i := 1137) rfl rfl, List.forall_mem_cons.mpr ⟨js_wm (i := 1139) rfl rfl, List.forall_mem_cons.mpr ⟨js_wm (i := 1141) rfl rfl, List.forall_mem_cons.mpr ⟨js_wm (i := 1143) rfl rfl, List.forall_mem_cons.mpr ⟨js_wm (i := 1145) rfl rfl, List.forall_mem_cons.mpr ⟨js_wm (i := 1147) rfl rfl, List.forall_mem_cons.mpr ⟨js_wm (i := 1149) rfl rfl, List.forall_mem_cons.mpr ⟨js_wm (i := 1151) rfl rfl, List.forall_mem_cons.mpr ⟨js_wm (i := 1153) rfl rfl, List.forall_mem_cons.mpr ⟨js_wm (i := 1155) rfl rfl, List.forall_mem_cons.mpr ⟨js_wm (i := 1157) rfl rfl, List.forall_mem_cons.mpr ⟨js_wm (i := 1159) rfl rfl, List.forall_mem_cons.mpr ⟨js_wm (i := 1161) rfl rfl, List.forall_mem_cons.mpr ⟨js_wm (i := 1163) rfl rfl, List.forall_mem_cons.mpr ⟨js_wm (i := 1165) rfl rfl, List.forall_mem_cons.mpr ⟨js_wm (i := 1167) rfl rfl, List.forall_mem_cons.mpr ⟨js_wm (i := 1169) rfl rfl, List.forall_mem_cons.mpr ⟨js_wm (i := 1171) rfl rfl, List.forall_mem_cons.mpr ⟨js_wm (i := 1173) rfl rfl, List.forall_mem_cons.mpr ⟨js_wm (i := 1175) rfl rfl, List.forall_mem_cons.mpr ⟨js_wm (i := 1177) rfl rfl, List.forall_mem_cons.mpr ⟨js_wm (i := 1179) rfl rfl, List.forall_mem_cons.mpr ⟨js_wm (i := 1181) rfl rfl, List.forall_mem_cons.mpr ⟨js_wm (i := 1183) rfl rfl, List.forall_mem_cons.mpr ⟨js_wm (i := 1185) rfl rfl, List.forall_mem_cons.mpr ⟨js_wm (i := 1187) rfl rfl, List.forall_mem_cons.mpr ⟨js_wm (i := 1189) rfl rfl, List.forall_mem_cons.mpr ⟨js_wm (i := 1191) rfl rfl, List.forall_mem_cons.mpr ⟨js_wm (i := 1193) rfl rfl, List.forall_mem_cons.mpr ⟨js_wm (i := 1195) rfl rfl, List.forall_mem_cons.mpr ⟨js_wm (i := 1197) rfl rfl, List.forall_mem_cons.mpr ⟨js_wm (i := 1199) rfl rfl, List.forall_mem_cons.mpr ⟨js_wm (i := 1201) rfl rfl, List.forall_mem_cons.mpr ⟨js_wm (i := 1203) rfl rfl, List.forall_mem_cons.mpr ⟨js_wm (i := 1205) rfl rfl, List.forall_mem_cons.mpr ⟨js_wm (i := 1207) rfl rfl, fun _ h => absurd h List.not_mem_nil⟩⟩⟩⟩⟩⟩⟩⟩⟩⟩⟩⟩⟩⟩⟩⟩⟩⟩⟩⟩⟩⟩⟩⟩⟩⟩⟩⟩⟩⟩⟩⟩⟩⟩⟩⟩⟩⟩⟩⟩⟩⟩⟩⟩⟩⟩⟩⟩⟩⟩
set_option maxRecDepth 1000000 in
set_option maxHeartbeats 16000000 in
theorem js_t_12 : ∀ k, k < 50 → (jv_ft 12 k = 0 ∧ tyX12 k = .int) ∨ (jv_ft 12 k = 1 ∧ tyX12 k = .boolean) ∨ (jv_ft 12 k = 2 ∧ ((∃ C, tyX12 k = .object C) ∨ ∃ t, tyX12 k = .array t)) := by
  intro k hk
  rcases (show k = 0 ∨ k = 1 ∨ k = 2 ∨ k = 3 ∨ k = 4 ∨ k = 5 ∨ k = 6 ∨ k = 7 ∨ k = 8 ∨ k = 9 ∨ k = 10 ∨ k = 11 ∨ k = 12 ∨ k = 13 ∨ k = 14 ∨ k = 15 ∨ k = 16 ∨ k = 17 ∨ k = 18 ∨ k = 19 ∨ k = 20 ∨ k = 21 ∨ k = 22 ∨ k = 23 ∨ k = 24 ∨ k = 25 ∨ k = 26 ∨ k = 27 ∨ k = 28 ∨ k = 29 ∨ k = 30 ∨ k = 31 ∨ k = 32 ∨ k = 33 ∨ k = 34 ∨ k = 35 ∨ k = 36 ∨ k = 37 ∨ k = 38 ∨ k = 39 ∨ k = 40 ∨ k = 41 ∨ k = 42 ∨ k = 43 ∨ k = 44 ∨ k = 45 ∨ k = 46 ∨ k = 47 ∨ k = 48 ∨ k = 49 by omega) with rfl | rfl | rfl | rfl | rfl | rfl | rfl | rfl | rfl | rfl | rfl | rfl | rfl | rfl | rfl | rfl | rfl | rfl | rfl | rfl | rfl | rfl | rfl | rfl | rfl | rfl | rfl | rfl | rfl | rfl | rfl | rfl | rfl | rfl | rfl | rfl | rfl | rfl | rfl | rfl | rfl | rfl | rfl | rfl | rfl | rfl | rfl | rfl | rfl | rfl
  · exact Or.inl ⟨rfl, rfl⟩
  · exact Or.inl ⟨rfl, rfl⟩
  · exact Or.inr (Or.inr ⟨rfl, Or.inr ⟨_, rfl⟩⟩)
  · exact Or.inr (Or.inr ⟨rfl, Or.inr ⟨_, rfl⟩⟩)
  · exact Or.inr (Or.inr ⟨rfl, Or.inr ⟨_, rfl⟩⟩)
  · exact Or.inl ⟨rfl, rfl⟩
  · exact Or.inl ⟨rfl, rfl⟩
  · exact Or.inr (Or.inr ⟨rfl, Or.inr ⟨_, rfl⟩⟩)
  · exact Or.inr (Or.inr ⟨rfl, Or.inr ⟨_, rfl⟩⟩)
  · exact Or.inr (Or.inr ⟨rfl, Or.inr ⟨_, rfl⟩⟩)
  · exact Or.inr (Or.inr ⟨rfl, Or.inr ⟨_, rfl⟩⟩)
  · exact Or.inr (Or.inr ⟨rfl, Or.inr ⟨_, rfl⟩⟩)
  · exact Or.inl ⟨rfl, rfl⟩
  · exact Or.inl ⟨rfl, rfl⟩
  · exact Or.inl ⟨rfl, rfl⟩
  · exact Or.inr (Or.inr ⟨rfl, Or.inr ⟨_, rfl⟩⟩)
  · exact Or.inr (Or.inr ⟨rfl, Or.inr ⟨_, rfl⟩⟩)
  · exact Or.inr (Or.inr ⟨rfl, Or.inr ⟨_, rfl⟩⟩)
  · exact Or.inr (Or.inr ⟨rfl, Or.inr ⟨_, rfl⟩⟩)
  · exact Or.inr (Or.inr ⟨rfl, Or.inr ⟨_, rfl⟩⟩)
  · exact Or.inr (Or.inr ⟨rfl, Or.inr ⟨_, rfl⟩⟩)
  · exact Or.inl ⟨rfl, rfl⟩
  · exact Or.inr (Or.inr ⟨rfl, Or.inr ⟨_, rfl⟩⟩)
  · exact Or.inr (Or.inr ⟨rfl, Or.inr ⟨_, rfl⟩⟩)
  · exact Or.inr (Or.inr ⟨rfl, Or.inr ⟨_, rfl⟩⟩)
  · exact Or.inl ⟨rfl, rfl⟩
  · exact Or.inr (Or.inr ⟨rfl, Or.inr ⟨_, rfl⟩⟩)
  · exact Or.inl ⟨rfl, rfl⟩
  · exact Or.inr (Or.inr ⟨rfl, Or.inr ⟨_, rfl⟩⟩)
  · exact Or.inr (Or.inr ⟨rfl, Or.inr ⟨_, rfl⟩⟩)
  · exact Or.inr (Or.inr ⟨rfl, Or.inr ⟨_, rfl⟩⟩)
  · exact Or.inr (Or.inr ⟨rfl, Or.inr ⟨_, rfl⟩⟩)
  · exact Or.inr (Or.inr ⟨rfl, Or.inr ⟨_, rfl⟩⟩)
  · exact Or.inr (Or.inr ⟨rfl, Or.inr ⟨_, rfl⟩⟩)
  · exact Or.inr (Or.inr ⟨rfl, Or.inr ⟨_, rfl⟩⟩)
  · exact Or.inr (Or.inr ⟨rfl, Or.inr ⟨_, rfl⟩⟩)
  · exact Or.inr (Or.inr ⟨rfl, Or.inr ⟨_, rfl⟩⟩)
  · exact Or.inr (Or.inr ⟨rfl, Or.inr ⟨_, rfl⟩⟩)
  · exact Or.inl ⟨rfl, rfl⟩
  · exact Or.inr (Or.inr ⟨rfl, Or.inr ⟨_, rfl⟩⟩)
  · exact Or.inr (Or.inr ⟨rfl, Or.inr ⟨_, rfl⟩⟩)
  · exact Or.inl ⟨rfl, rfl⟩
  · exact Or.inl ⟨rfl, rfl⟩
  · exact Or.inl ⟨rfl, rfl⟩
  · exact Or.inr (Or.inr ⟨rfl, Or.inr ⟨_, rfl⟩⟩)
  · exact Or.inr (Or.inr ⟨rfl, Or.inr ⟨_, rfl⟩⟩)
  · exact Or.inr (Or.inr ⟨rfl, Or.inr ⟨_, rfl⟩⟩)
  · exact Or.inr (Or.inr ⟨rfl, Or.inr ⟨_, rfl⟩⟩)
  · exact Or.inr (Or.inr ⟨rfl, Or.inr ⟨_, rfl⟩⟩)
  · exact Or.inr (Or.inr ⟨rfl, Or.inr ⟨_, rfl⟩⟩)
set_option maxRecDepth 1000000 in
set_option maxHeartbeats 16000000 in
theorem js_mc_all : ∀ k, k < 224 → k ∈ js_MC := by
  have h : (List.range 224).all (fun k => decide (k ∈ js_MC)) = true := by decide +kernel
  intro k hk
  exact of_decide_eq_true (List.all_eq_true.mp h k (List.mem_range.mpr hk))
set_option maxRecDepth 1000000 in
set_option maxHeartbeats 16000000 in
theorem js_cl : js_Cl := by
  refine ⟨fun ci C T N h => ?_, ?_, ?_, ?_, ?_, ?_, ?_, ⟨?_, ?_, ?_, ?_, ?_, ?_, ?_⟩, fun k hk _ => ?_⟩
  · have hl : ci < 13 := (List.getElem?_eq_some_iff.mp h).1
    rcases (show ci = 0 ∨ ci = 1 ∨ ci = 2 ∨ ci = 3 ∨ ci = 4 ∨ ci = 5 ∨ ci = 6 ∨ ci = 7 ∨ ci = 8 ∨ ci = 9 ∨ ci = 10 ∨ ci = 11 ∨ ci = 12 by omega) with rfl | rfl | rfl | rfl | rfl | rfl | rfl | rfl | rfl | rfl | rfl | rfl | rfl <;> cases h
    · exact ⟨js_u_0, nmX0, tyX0, tyX0_ok, js_t_0⟩
    · exact ⟨js_u_1, nmX1, tyX1, tyX1_ok, js_t_1⟩
    · exact ⟨js_u_2, nmX2, tyX2, tyX2_ok, js_t_2⟩
    · exact ⟨js_u_3, nmX3, tyX3, tyX3_ok, js_t_3⟩
    · exact ⟨js_u_4, nmX4, tyX4, tyX4_ok, js_t_4⟩
    · exact ⟨js_u_5, nmX5, tyX5, tyX5_ok, js_t_5⟩
    · exact ⟨js_u_6, nmX6, tyX6, tyX6_ok, js_t_6⟩
    · exact ⟨js_u_7, nmX7, tyX7, tyX7_ok, js_t_7⟩
    · exact ⟨js_u_8, nmX8, tyX8, tyX8_ok, js_t_8⟩
    · exact ⟨js_u_9, nmX9, tyX9, tyX9_ok, js_t_9⟩
    · exact ⟨js_u_10, nmX10, tyX10, tyX10_ok, js_t_10⟩
    · exact ⟨js_u_11, nmX11, tyX11, tyX11_ok, js_t_11⟩
    · exact ⟨js_u_12, nmX12, tyX12, tyX12_ok, js_t_12⟩
  · exact js_wm (i := 24) rfl rfl
  · exact js_wm (i := 25) rfl rfl
  · exact js_wm (i := 528) rfl rfl
  · exact js_wm (i := 527) rfl rfl
  · exact js_wm (i := 13) rfl rfl
  · exact js_wm (i := 781) rfl rfl
  · exact js_wm (i := 15) rfl rfl
  · exact js_wm (i := 667) rfl rfl
  · exact js_wm (i := 668) rfl rfl
  · exact js_wm (i := 937) rfl rfl
  · exact js_wm (i := 938) rfl rfl
  · exact js_wm (i := 940) rfl rfl
  · exact js_wm (i := 941) rfl rfl
  · exact js_MC_ok k (js_mc_all k hk)
