/-! ===== each method as the tables have it (written by a program), 3 ===== -/
set_option maxRecDepth 1000000 in
set_option maxHeartbeats 16000000 in
theorem js_a_Y_mend : ∀ q ∈ jt_Y_mend, js_ie kY_mend q := js_okm_ok (by decide +kernel) (by decide +kernel)
set_option maxRecDepth 1000000 in
set_option maxHeartbeats 16000000 in
theorem js_a_Y_findMends_0 : ∀ q ∈ jt_Y_findMends_0, js_ie kY_findMends q := js_okm_ok (by decide +kernel) (by decide +kernel)
set_option maxRecDepth 1000000 in
set_option maxHeartbeats 16000000 in
theorem js_a_Y_findMends_1 : ∀ q ∈ jt_Y_findMends_1, js_ie kY_findMends q := js_okm_ok (by decide +kernel) (by decide +kernel)
theorem js_a_Y_findMends : ∀ q ∈ jt_Y_findMends, js_ie kY_findMends q := fun q h => (List.mem_append.mp h).elim (fun h => js_a_Y_findMends_0 q h) (fun h => js_a_Y_findMends_1 q h)
set_option maxRecDepth 1000000 in
set_option maxHeartbeats 16000000 in
theorem js_a_Y_isMended : ∀ q ∈ jt_Y_isMended, js_ie kY_isMended q := js_okm_ok (by decide +kernel) (by decide +kernel)
set_option maxRecDepth 1000000 in
set_option maxHeartbeats 16000000 in
theorem js_a_Y_allCome : ∀ q ∈ jt_Y_allCome, js_ie kY_allCome q := js_okm_ok (by decide +kernel) (by decide +kernel)
set_option maxRecDepth 1000000 in
set_option maxHeartbeats 16000000 in
theorem js_a_Y_layTurns : ∀ q ∈ jt_Y_layTurns, js_ie kY_layTurns q := js_okm_ok (by decide +kernel) (by decide +kernel)
set_option maxRecDepth 1000000 in
set_option maxHeartbeats 16000000 in
theorem js_a_Y_barTurn : ∀ q ∈ jt_Y_barTurn, js_ie kY_barTurn q := js_okm_ok (by decide +kernel) (by decide +kernel)
set_option maxRecDepth 1000000 in
set_option maxHeartbeats 16000000 in
theorem js_a_Y_bears : ∀ q ∈ jt_Y_bears, js_ie kY_bears q := js_okm_ok (by decide +kernel) (by decide +kernel)
set_option maxRecDepth 1000000 in
set_option maxHeartbeats 16000000 in
theorem js_a_Y_layBears_0 : ∀ q ∈ jt_Y_layBears_0, js_ie kY_layBears q := js_okm_ok (by decide +kernel) (by decide +kernel)
set_option maxRecDepth 1000000 in
set_option maxHeartbeats 16000000 in
theorem js_a_Y_layBears_1 : ∀ q ∈ jt_Y_layBears_1, js_ie kY_layBears q := js_okm_ok (by decide +kernel) (by decide +kernel)
theorem js_a_Y_layBears : ∀ q ∈ jt_Y_layBears, js_ie kY_layBears q := fun q h => (List.mem_append.mp h).elim (fun h => js_a_Y_layBears_0 q h) (fun h => js_a_Y_layBears_1 q h)
set_option maxRecDepth 1000000 in
set_option maxHeartbeats 16000000 in
theorem js_a_Y_clear : ∀ q ∈ jt_Y_clear, js_ie kY_clear q := js_okm_ok (by decide +kernel) (by decide +kernel)
set_option maxRecDepth 1000000 in
set_option maxHeartbeats 16000000 in
theorem js_a_Y_part : ∀ q ∈ jt_Y_part, js_ie kY_part q := js_okm_ok (by decide +kernel) (by decide +kernel)
set_option maxRecDepth 1000000 in
set_option maxHeartbeats 16000000 in
theorem js_a_Y_add : ∀ q ∈ jt_Y_add, js_ie kY_add q := js_okm_ok (by decide +kernel) (by decide +kernel)
set_option maxRecDepth 1000000 in
set_option maxHeartbeats 16000000 in
theorem js_a_Y_common : ∀ q ∈ jt_Y_common, js_ie kY_common q := js_okm_ok (by decide +kernel) (by decide +kernel)
set_option maxRecDepth 1000000 in
set_option maxHeartbeats 16000000 in
theorem js_a_Y_takeNext : ∀ q ∈ jt_Y_takeNext, js_ie kY_takeNext q := js_okm_ok (by decide +kernel) (by decide +kernel)
set_option maxRecDepth 1000000 in
set_option maxHeartbeats 16000000 in
theorem js_a_Y_busiest : ∀ q ∈ jt_Y_busiest, js_ie kY_busiest q := js_okm_ok (by decide +kernel) (by decide +kernel)
set_option maxRecDepth 1000000 in
set_option maxHeartbeats 16000000 in
theorem js_a_Y_sheet : ∀ q ∈ jt_Y_sheet, js_ie kY_sheet q := js_okm_ok (by decide +kernel) (by decide +kernel)
set_option maxRecDepth 1000000 in
set_option maxHeartbeats 16000000 in
theorem js_a_Y_lose : ∀ q ∈ jt_Y_lose, js_ie kY_lose q := js_okm_ok (by decide +kernel) (by decide +kernel)
set_option maxRecDepth 1000000 in
set_option maxHeartbeats 16000000 in
theorem js_a_Y_put : ∀ q ∈ jt_Y_put, js_ie kY_put q := js_okm_ok (by decide +kernel) (by decide +kernel)
set_option maxRecDepth 1000000 in
set_option maxHeartbeats 16000000 in
theorem js_a_Y_cell_0 : ∀ q ∈ jt_Y_cell_0, js_ie kY_cell q := js_okm_ok (by decide +kernel) (by decide +kernel)
set_option maxRecDepth 1000000 in
set_option maxHeartbeats 16000000 in
theorem js_a_Y_cell_1 : ∀ q ∈ jt_Y_cell_1, js_ie kY_cell q := js_okm_ok (by decide +kernel) (by decide +kernel)
theorem js_a_Y_cell : ∀ q ∈ jt_Y_cell, js_ie kY_cell q := fun q h => (List.mem_append.mp h).elim (fun h => js_a_Y_cell_0 q h) (fun h => js_a_Y_cell_1 q h)
set_option maxRecDepth 1000000 in
set_option maxHeartbeats 16000000 in
theorem js_a_Y_lost : ∀ q ∈ jt_Y_lost, js_ie kY_lost q := js_okm_ok (by decide +kernel) (by decide +kernel)
set_option maxRecDepth 1000000 in
set_option maxHeartbeats 16000000 in
theorem js_a_Y_copy_0 : ∀ q ∈ jt_Y_copy_0, js_ie kY_copy q := js_okm_ok (by decide +kernel) (by decide +kernel)
set_option maxRecDepth 1000000 in
set_option maxHeartbeats 16000000 in
theorem js_a_Y_copy_1 : ∀ q ∈ jt_Y_copy_1, js_ie kY_copy q := js_okm_ok (by decide +kernel) (by decide +kernel)
set_option maxRecDepth 1000000 in
set_option maxHeartbeats 16000000 in
theorem js_a_Y_copy_2 : ∀ q ∈ jt_Y_copy_2, js_ie kY_copy q := js_okm_ok (by decide +kernel) (by decide +kernel)
theorem js_a_Y_copy : ∀ q ∈ jt_Y_copy, js_ie kY_copy q := fun q h => (List.mem_append.mp h).elim (fun h => js_a_Y_copy_0 q h) (fun h => (List.mem_append.mp h).elim (fun h => js_a_Y_copy_1 q h) (fun h => js_a_Y_copy_2 q h))
set_option maxRecDepth 1000000 in
set_option maxHeartbeats 16000000 in
theorem js_a_Y_tell : ∀ q ∈ jt_Y_tell, js_ie kY_tell q := js_okm_ok (by decide +kernel) (by decide +kernel)
set_option maxRecDepth 1000000 in
set_option maxHeartbeats 16000000 in
theorem js_a_Y_begins : ∀ q ∈ jt_Y_begins, js_ie kY_begins q := js_okm_ok (by decide +kernel) (by decide +kernel)
set_option maxRecDepth 1000000 in
set_option maxHeartbeats 16000000 in
theorem js_a_Y_stamp : ∀ q ∈ jt_Y_stamp, js_ie kY_stamp q := js_okm_ok (by decide +kernel) (by decide +kernel)
set_option maxRecDepth 1000000 in
set_option maxHeartbeats 16000000 in
theorem js_a_Y_as : ∀ q ∈ jt_Y_as, js_ie kY_as q := js_okm_ok (by decide +kernel) (by decide +kernel)
set_option maxRecDepth 1000000 in
set_option maxHeartbeats 16000000 in
theorem js_a_Y_trace : ∀ q ∈ jt_Y_trace, js_ie kY_trace q := js_okm_ok (by decide +kernel) (by decide +kernel)
set_option maxRecDepth 1000000 in
set_option maxHeartbeats 16000000 in
theorem js_a_Y_fault : ∀ q ∈ jt_Y_fault, js_ie kY_fault q := js_okm_ok (by decide +kernel) (by decide +kernel)
set_option maxRecDepth 1000000 in
set_option maxHeartbeats 16000000 in
theorem js_a_Y_many : ∀ q ∈ jt_Y_many, js_ie kY_many q := js_okm_ok (by decide +kernel) (by decide +kernel)
set_option maxRecDepth 1000000 in
set_option maxHeartbeats 16000000 in
theorem js_a_Law_law_0 : ∀ q ∈ jt_Law_law_0, js_ie kLaw_law q := js_okm_ok (by decide +kernel) (by decide +kernel)
set_option maxRecDepth 1000000 in
set_option maxHeartbeats 16000000 in
theorem js_a_Law_law_1 : ∀ q ∈ jt_Law_law_1, js_ie kLaw_law q := js_okm_ok (by decide +kernel) (by decide +kernel)
set_option maxRecDepth 1000000 in
set_option maxHeartbeats 16000000 in
theorem js_a_Law_law_2 : ∀ q ∈ jt_Law_law_2, js_ie kLaw_law q := js_okm_ok (by decide +kernel) (by decide +kernel)
set_option maxRecDepth 1000000 in
set_option maxHeartbeats 16000000 in
theorem js_a_Law_law_3 : ∀ q ∈ jt_Law_law_3, js_ie kLaw_law q := js_okm_ok (by decide +kernel) (by decide +kernel)
set_option maxRecDepth 1000000 in
set_option maxHeartbeats 16000000 in
theorem js_a_Law_law_4 : ∀ q ∈ jt_Law_law_4, js_ie kLaw_law q := js_okm_ok (by decide +kernel) (by decide +kernel)
set_option maxRecDepth 1000000 in
set_option maxHeartbeats 16000000 in
theorem js_a_Law_law_5 : ∀ q ∈ jt_Law_law_5, js_ie kLaw_law q := js_okm_ok (by decide +kernel) (by decide +kernel)
set_option maxRecDepth 1000000 in
set_option maxHeartbeats 16000000 in
theorem js_a_Law_law_6 : ∀ q ∈ jt_Law_law_6, js_ie kLaw_law q := js_okm_ok (by decide +kernel) (by decide +kernel)
set_option maxRecDepth 1000000 in
set_option maxHeartbeats 16000000 in
theorem js_a_Law_law_7 : ∀ q ∈ jt_Law_law_7, js_ie kLaw_law q := js_okm_ok (by decide +kernel) (by decide +kernel)
set_option maxRecDepth 1000000 in
set_option maxHeartbeats 16000000 in
theorem js_a_Law_law_8 : ∀ q ∈ jt_Law_law_8, js_ie kLaw_law q := js_okm_ok (by decide +kernel) (by decide +kernel)
set_option maxRecDepth 1000000 in
set_option maxHeartbeats 16000000 in
theorem js_a_Law_law_9 : ∀ q ∈ jt_Law_law_9, js_ie kLaw_law q := js_okm_ok (by decide +kernel) (by decide +kernel)
set_option maxRecDepth 1000000 in
set_option maxHeartbeats 16000000 in
theorem js_a_Law_law_10 : ∀ q ∈ jt_Law_law_10, js_ie kLaw_law q := js_okm_ok (by decide +kernel) (by decide +kernel)
set_option maxRecDepth 1000000 in
set_option maxHeartbeats 16000000 in
theorem js_a_Law_law_11 : ∀ q ∈ jt_Law_law_11, js_ie kLaw_law q := js_okm_ok (by decide +kernel) (by decide +kernel)
set_option maxRecDepth 1000000 in
set_option maxHeartbeats 16000000 in
theorem js_a_Law_law_12 : ∀ q ∈ jt_Law_law_12, js_ie kLaw_law q := js_okm_ok (by decide +kernel) (by decide +kernel)
set_option maxRecDepth 1000000 in
set_option maxHeartbeats 16000000 in
theorem js_a_Law_law_13 : ∀ q ∈ jt_Law_law_13, js_ie kLaw_law q := js_okm_ok (by decide +kernel) (by decide +kernel)
theorem js_a_Law_law : ∀ q ∈ jt_Law_law, js_ie kLaw_law q := fun q h => (List.mem_append.mp h).elim (fun h => js_a_Law_law_0 q h) (fun h => (List.mem_append.mp h).elim (fun h => js_a_Law_law_1 q h) (fun h => (List.mem_append.mp h).elim (fun h => js_a_Law_law_2 q h) (fun h => (List.mem_append.mp h).elim (fun h => js_a_Law_law_3 q h) (fun h => (List.mem_append.mp h).elim (fun h => js_a_Law_law_4 q h) (fun h => (List.mem_append.mp h).elim (fun h => js_a_Law_law_5 q h) (fun h => (List.mem_append.mp h).elim (fun h => js_a_Law_law_6 q h) (fun h => (List.mem_append.mp h).elim (fun h => js_a_Law_law_7 q h) (fun h => (List.mem_append.mp h).elim (fun h => js_a_Law_law_8 q h) (fun h => (List.mem_append.mp h).elim (fun h => js_a_Law_law_9 q h) (fun h => (List.mem_append.mp h).elim (fun h => js_a_Law_law_10 q h) (fun h => (List.mem_append.mp h).elim (fun h => js_a_Law_law_11 q h) (fun h => (List.mem_append.mp h).elim (fun h => js_a_Law_law_12 q h) (fun h => js_a_Law_law_13 q h)))))))))))))
