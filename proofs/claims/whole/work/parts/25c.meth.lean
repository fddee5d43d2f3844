/-! ===== each method as the tables have it (written by a program), 2 ===== -/
set_option maxRecDepth 1000000 in
set_option maxHeartbeats 16000000 in
theorem js_a_Y_net_0 : ∀ q ∈ jt_Y_net_0, js_ie kY_net q := js_okm_ok (by decide +kernel) (by decide +kernel)
set_option maxRecDepth 1000000 in
set_option maxHeartbeats 16000000 in
theorem js_a_Y_net_1 : ∀ q ∈ jt_Y_net_1, js_ie kY_net q := js_okm_ok (by decide +kernel) (by decide +kernel)
set_option maxRecDepth 1000000 in
set_option maxHeartbeats 16000000 in
theorem js_a_Y_net_2 : ∀ q ∈ jt_Y_net_2, js_ie kY_net q := js_okm_ok (by decide +kernel) (by decide +kernel)
theorem js_a_Y_net : ∀ q ∈ jt_Y_net, js_ie kY_net q := fun q h => (List.mem_append.mp h).elim (fun h => js_a_Y_net_0 q h) (fun h => (List.mem_append.mp h).elim (fun h => js_a_Y_net_1 q h) (fun h => js_a_Y_net_2 q h))
set_option maxRecDepth 1000000 in
set_option maxHeartbeats 16000000 in
theorem js_a_Y_isSheet : ∀ q ∈ jt_Y_isSheet, js_ie kY_isSheet q := js_okm_ok (by decide +kernel) (by decide +kernel)
set_option maxRecDepth 1000000 in
set_option maxHeartbeats 16000000 in
theorem js_a_Y_within : ∀ q ∈ jt_Y_within, js_ie kY_within q := js_okm_ok (by decide +kernel) (by decide +kernel)
set_option maxRecDepth 1000000 in
set_option maxHeartbeats 16000000 in
theorem js_a_Y_isSort : ∀ q ∈ jt_Y_isSort, js_ie kY_isSort q := js_okm_ok (by decide +kernel) (by decide +kernel)
set_option maxRecDepth 1000000 in
set_option maxHeartbeats 16000000 in
theorem js_a_Y_fails : ∀ q ∈ jt_Y_fails, js_ie kY_fails q := js_okm_ok (by decide +kernel) (by decide +kernel)
set_option maxRecDepth 1000000 in
set_option maxHeartbeats 16000000 in
theorem js_a_Y_readNet_0 : ∀ q ∈ jt_Y_readNet_0, js_ie kY_readNet q := js_okm_ok (by decide +kernel) (by decide +kernel)
set_option maxRecDepth 1000000 in
set_option maxHeartbeats 16000000 in
theorem js_a_Y_readNet_1 : ∀ q ∈ jt_Y_readNet_1, js_ie kY_readNet q := js_okm_ok (by decide +kernel) (by decide +kernel)
set_option maxRecDepth 1000000 in
set_option maxHeartbeats 16000000 in
theorem js_a_Y_readNet_2 : ∀ q ∈ jt_Y_readNet_2, js_ie kY_readNet q := js_okm_ok (by decide +kernel) (by decide +kernel)
theorem js_a_Y_readNet : ∀ q ∈ jt_Y_readNet, js_ie kY_readNet q := fun q h => (List.mem_append.mp h).elim (fun h => js_a_Y_readNet_0 q h) (fun h => (List.mem_append.mp h).elim (fun h => js_a_Y_readNet_1 q h) (fun h => js_a_Y_readNet_2 q h))
set_option maxRecDepth 1000000 in
set_option maxHeartbeats 16000000 in
theorem js_a_Y_digitAt : ∀ q ∈ jt_Y_digitAt, js_ie kY_digitAt q := js_okm_ok (by decide +kernel) (by decide +kernel)
set_option maxRecDepth 1000000 in
set_option maxHeartbeats 16000000 in
theorem js_a_Y_layFar_0 : ∀ q ∈ jt_Y_layFar_0, js_ie kY_layFar q := js_okm_ok (by decide +kernel) (by decide +kernel)
set_option maxRecDepth 1000000 in
set_option maxHeartbeats 16000000 in
theorem js_a_Y_layFar_1 : ∀ q ∈ jt_Y_layFar_1, js_ie kY_layFar q := js_okm_ok (by decide +kernel) (by decide +kernel)
theorem js_a_Y_layFar : ∀ q ∈ jt_Y_layFar, js_ie kY_layFar q := fun q h => (List.mem_append.mp h).elim (fun h => js_a_Y_layFar_0 q h) (fun h => js_a_Y_layFar_1 q h)
set_option maxRecDepth 1000000 in
set_option maxHeartbeats 16000000 in
theorem js_a_Y_ofLane : ∀ q ∈ jt_Y_ofLane, js_ie kY_ofLane q := js_okm_ok (by decide +kernel) (by decide +kernel)
set_option maxRecDepth 1000000 in
set_option maxHeartbeats 16000000 in
theorem js_a_Y_isLane : ∀ q ∈ jt_Y_isLane, js_ie kY_isLane q := js_okm_ok (by decide +kernel) (by decide +kernel)
set_option maxRecDepth 1000000 in
set_option maxHeartbeats 16000000 in
theorem js_a_Y_far : ∀ q ∈ jt_Y_far, js_ie kY_far q := js_okm_ok (by decide +kernel) (by decide +kernel)
set_option maxRecDepth 1000000 in
set_option maxHeartbeats 16000000 in
theorem js_a_Y_isNode : ∀ q ∈ jt_Y_isNode, js_ie kY_isNode q := js_okm_ok (by decide +kernel) (by decide +kernel)
set_option maxRecDepth 1000000 in
set_option maxHeartbeats 16000000 in
theorem js_a_Y_rule : ∀ q ∈ jt_Y_rule, js_ie kY_rule q := js_okm_ok (by decide +kernel) (by decide +kernel)
set_option maxRecDepth 1000000 in
set_option maxHeartbeats 16000000 in
theorem js_a_Y_bar_0 : ∀ q ∈ jt_Y_bar_0, js_ie kY_bar q := js_okm_ok (by decide +kernel) (by decide +kernel)
set_option maxRecDepth 1000000 in
set_option maxHeartbeats 16000000 in
theorem js_a_Y_bar_1 : ∀ q ∈ jt_Y_bar_1, js_ie kY_bar q := js_okm_ok (by decide +kernel) (by decide +kernel)
theorem js_a_Y_bar : ∀ q ∈ jt_Y_bar, js_ie kY_bar q := fun q h => (List.mem_append.mp h).elim (fun h => js_a_Y_bar_0 q h) (fun h => js_a_Y_bar_1 q h)
set_option maxRecDepth 1000000 in
set_option maxHeartbeats 16000000 in
theorem js_a_Y_may : ∀ q ∈ jt_Y_may, js_ie kY_may q := js_okm_ok (by decide +kernel) (by decide +kernel)
set_option maxRecDepth 1000000 in
set_option maxHeartbeats 16000000 in
theorem js_a_Y_takes_0 : ∀ q ∈ jt_Y_takes_0, js_ie kY_takes q := js_okm_ok (by decide +kernel) (by decide +kernel)
set_option maxRecDepth 1000000 in
set_option maxHeartbeats 16000000 in
theorem js_a_Y_takes_1 : ∀ q ∈ jt_Y_takes_1, js_ie kY_takes q := js_okm_ok (by decide +kernel) (by decide +kernel)
theorem js_a_Y_takes : ∀ q ∈ jt_Y_takes, js_ie kY_takes q := fun q h => (List.mem_append.mp h).elim (fun h => js_a_Y_takes_0 q h) (fun h => js_a_Y_takes_1 q h)
set_option maxRecDepth 1000000 in
set_option maxHeartbeats 16000000 in
theorem js_a_Y_has : ∀ q ∈ jt_Y_has, js_ie kY_has q := js_okm_ok (by decide +kernel) (by decide +kernel)
set_option maxRecDepth 1000000 in
set_option maxHeartbeats 16000000 in
theorem js_a_Y_out : ∀ q ∈ jt_Y_out, js_ie kY_out q := js_okm_ok (by decide +kernel) (by decide +kernel)
set_option maxRecDepth 1000000 in
set_option maxHeartbeats 16000000 in
theorem js_a_Y_comes : ∀ q ∈ jt_Y_comes, js_ie kY_comes q := js_okm_ok (by decide +kernel) (by decide +kernel)
set_option maxRecDepth 1000000 in
set_option maxHeartbeats 16000000 in
theorem js_a_Y_comesBy_0 : ∀ q ∈ jt_Y_comesBy_0, js_ie kY_comesBy q := js_okm_ok (by decide +kernel) (by decide +kernel)
set_option maxRecDepth 1000000 in
set_option maxHeartbeats 16000000 in
theorem js_a_Y_comesBy_1 : ∀ q ∈ jt_Y_comesBy_1, js_ie kY_comesBy q := js_okm_ok (by decide +kernel) (by decide +kernel)
theorem js_a_Y_comesBy : ∀ q ∈ jt_Y_comesBy, js_ie kY_comesBy q := fun q h => (List.mem_append.mp h).elim (fun h => js_a_Y_comesBy_0 q h) (fun h => js_a_Y_comesBy_1 q h)
set_option maxRecDepth 1000000 in
set_option maxHeartbeats 16000000 in
theorem js_a_Y_comesInto : ∀ q ∈ jt_Y_comesInto, js_ie kY_comesInto q := js_okm_ok (by decide +kernel) (by decide +kernel)
set_option maxRecDepth 1000000 in
set_option maxHeartbeats 16000000 in
theorem js_a_Y_goesRound : ∀ q ∈ jt_Y_goesRound, js_ie kY_goesRound q := js_okm_ok (by decide +kernel) (by decide +kernel)
set_option maxRecDepth 1000000 in
set_option maxHeartbeats 16000000 in
theorem js_a_Y_carries : ∀ q ∈ jt_Y_carries, js_ie kY_carries q := js_okm_ok (by decide +kernel) (by decide +kernel)
set_option maxRecDepth 1000000 in
set_option maxHeartbeats 16000000 in
theorem js_a_Y_layCarried_0 : ∀ q ∈ jt_Y_layCarried_0, js_ie kY_layCarried q := js_okm_ok (by decide +kernel) (by decide +kernel)
set_option maxRecDepth 1000000 in
set_option maxHeartbeats 16000000 in
theorem js_a_Y_layCarried_1 : ∀ q ∈ jt_Y_layCarried_1, js_ie kY_layCarried q := js_okm_ok (by decide +kernel) (by decide +kernel)
theorem js_a_Y_layCarried : ∀ q ∈ jt_Y_layCarried, js_ie kY_layCarried q := fun q h => (List.mem_append.mp h).elim (fun h => js_a_Y_layCarried_0 q h) (fun h => js_a_Y_layCarried_1 q h)
set_option maxRecDepth 1000000 in
set_option maxHeartbeats 16000000 in
theorem js_a_Y_waits : ∀ q ∈ jt_Y_waits, js_ie kY_waits q := js_okm_ok (by decide +kernel) (by decide +kernel)
set_option maxRecDepth 1000000 in
set_option maxHeartbeats 16000000 in
theorem js_a_Y_layWaiting : ∀ q ∈ jt_Y_layWaiting, js_ie kY_layWaiting q := js_okm_ok (by decide +kernel) (by decide +kernel)
set_option maxRecDepth 1000000 in
set_option maxHeartbeats 16000000 in
theorem js_a_Y_ring : ∀ q ∈ jt_Y_ring, js_ie kY_ring q := js_okm_ok (by decide +kernel) (by decide +kernel)
set_option maxRecDepth 1000000 in
set_option maxHeartbeats 16000000 in
theorem js_a_Y_hasRing : ∀ q ∈ jt_Y_hasRing, js_ie kY_hasRing q := js_okm_ok (by decide +kernel) (by decide +kernel)
set_option maxRecDepth 1000000 in
set_option maxHeartbeats 16000000 in
theorem js_a_Y_findRing_0 : ∀ q ∈ jt_Y_findRing_0, js_ie kY_findRing q := js_okm_ok (by decide +kernel) (by decide +kernel)
set_option maxRecDepth 1000000 in
set_option maxHeartbeats 16000000 in
theorem js_a_Y_findRing_1 : ∀ q ∈ jt_Y_findRing_1, js_ie kY_findRing q := js_okm_ok (by decide +kernel) (by decide +kernel)
theorem js_a_Y_findRing : ∀ q ∈ jt_Y_findRing, js_ie kY_findRing q := fun q h => (List.mem_append.mp h).elim (fun h => js_a_Y_findRing_0 q h) (fun h => js_a_Y_findRing_1 q h)
set_option maxRecDepth 1000000 in
set_option maxHeartbeats 16000000 in
theorem js_a_Y_isAhead : ∀ q ∈ jt_Y_isAhead, js_ie kY_isAhead q := js_okm_ok (by decide +kernel) (by decide +kernel)
set_option maxRecDepth 1000000 in
set_option maxHeartbeats 16000000 in
theorem js_a_Y_rank_0 : ∀ q ∈ jt_Y_rank_0, js_ie kY_rank q := js_okm_ok (by decide +kernel) (by decide +kernel)
set_option maxRecDepth 1000000 in
set_option maxHeartbeats 16000000 in
theorem js_a_Y_rank_1 : ∀ q ∈ jt_Y_rank_1, js_ie kY_rank q := js_okm_ok (by decide +kernel) (by decide +kernel)
theorem js_a_Y_rank : ∀ q ∈ jt_Y_rank, js_ie kY_rank q := fun q h => (List.mem_append.mp h).elim (fun h => js_a_Y_rank_0 q h) (fun h => js_a_Y_rank_1 q h)
set_option maxRecDepth 1000000 in
set_option maxHeartbeats 16000000 in
theorem js_a_Y_still : ∀ q ∈ jt_Y_still, js_ie kY_still q := js_okm_ok (by decide +kernel) (by decide +kernel)
set_option maxRecDepth 1000000 in
set_option maxHeartbeats 16000000 in
theorem js_a_Y_allStill : ∀ q ∈ jt_Y_allStill, js_ie kY_allStill q := js_okm_ok (by decide +kernel) (by decide +kernel)
set_option maxRecDepth 1000000 in
set_option maxHeartbeats 16000000 in
theorem js_a_Y_standsStill : ∀ q ∈ jt_Y_standsStill, js_ie kY_standsStill q := js_okm_ok (by decide +kernel) (by decide +kernel)
set_option maxRecDepth 1000000 in
set_option maxHeartbeats 16000000 in
theorem js_a_Y_bitsOf : ∀ q ∈ jt_Y_bitsOf, js_ie kY_bitsOf q := js_okm_ok (by decide +kernel) (by decide +kernel)
set_option maxRecDepth 1000000 in
set_option maxHeartbeats 16000000 in
theorem js_a_Y_isStill : ∀ q ∈ jt_Y_isStill, js_ie kY_isStill q := js_okm_ok (by decide +kernel) (by decide +kernel)
set_option maxRecDepth 1000000 in
set_option maxHeartbeats 16000000 in
theorem js_a_Y_states_0 : ∀ q ∈ jt_Y_states_0, js_ie kY_states q := js_okm_ok (by decide +kernel) (by decide +kernel)
set_option maxRecDepth 1000000 in
set_option maxHeartbeats 16000000 in
theorem js_a_Y_states_1 : ∀ q ∈ jt_Y_states_1, js_ie kY_states q := js_okm_ok (by decide +kernel) (by decide +kernel)
theorem js_a_Y_states : ∀ q ∈ jt_Y_states, js_ie kY_states q := fun q h => (List.mem_append.mp h).elim (fun h => js_a_Y_states_0 q h) (fun h => js_a_Y_states_1 q h)
set_option maxRecDepth 1000000 in
set_option maxHeartbeats 16000000 in
theorem js_a_Y_isSmall : ∀ q ∈ jt_Y_isSmall, js_ie kY_isSmall q := js_okm_ok (by decide +kernel) (by decide +kernel)
set_option maxRecDepth 1000000 in
set_option maxHeartbeats 16000000 in
theorem js_a_Y_enter : ∀ q ∈ jt_Y_enter, js_ie kY_enter q := js_okm_ok (by decide +kernel) (by decide +kernel)
set_option maxRecDepth 1000000 in
set_option maxHeartbeats 16000000 in
theorem js_a_Y_stepFrom_0 : ∀ q ∈ jt_Y_stepFrom_0, js_ie kY_stepFrom q := js_okm_ok (by decide +kernel) (by decide +kernel)
set_option maxRecDepth 1000000 in
set_option maxHeartbeats 16000000 in
theorem js_a_Y_stepFrom_1 : ∀ q ∈ jt_Y_stepFrom_1, js_ie kY_stepFrom q := js_okm_ok (by decide +kernel) (by decide +kernel)
theorem js_a_Y_stepFrom : ∀ q ∈ jt_Y_stepFrom, js_ie kY_stepFrom q := fun q h => (List.mem_append.mp h).elim (fun h => js_a_Y_stepFrom_0 q h) (fun h => js_a_Y_stepFrom_1 q h)
set_option maxRecDepth 1000000 in
set_option maxHeartbeats 16000000 in
theorem js_a_Y_layContent : ∀ q ∈ jt_Y_layContent, js_ie kY_layContent q := js_okm_ok (by decide +kernel) (by decide +kernel)
set_option maxRecDepth 1000000 in
set_option maxHeartbeats 16000000 in
theorem js_a_Y_goOn : ∀ q ∈ jt_Y_goOn, js_ie kY_goOn q := js_okm_ok (by decide +kernel) (by decide +kernel)
set_option maxRecDepth 1000000 in
set_option maxHeartbeats 16000000 in
theorem js_a_Y_fives : ∀ q ∈ jt_Y_fives, js_ie kY_fives q := js_okm_ok (by decide +kernel) (by decide +kernel)
set_option maxRecDepth 1000000 in
set_option maxHeartbeats 16000000 in
theorem js_a_Y_isDead_0 : ∀ q ∈ jt_Y_isDead_0, js_ie kY_isDead q := js_okm_ok (by decide +kernel) (by decide +kernel)
set_option maxRecDepth 1000000 in
set_option maxHeartbeats 16000000 in
theorem js_a_Y_isDead_1 : ∀ q ∈ jt_Y_isDead_1, js_ie kY_isDead q := js_okm_ok (by decide +kernel) (by decide +kernel)
theorem js_a_Y_isDead : ∀ q ∈ jt_Y_isDead, js_ie kY_isDead q := fun q h => (List.mem_append.mp h).elim (fun h => js_a_Y_isDead_0 q h) (fun h => js_a_Y_isDead_1 q h)
set_option maxRecDepth 1000000 in
set_option maxHeartbeats 16000000 in
theorem js_a_Y_send_0 : ∀ q ∈ jt_Y_send_0, js_ie kY_send q := js_okm_ok (by decide +kernel) (by decide +kernel)
set_option maxRecDepth 1000000 in
set_option maxHeartbeats 16000000 in
theorem js_a_Y_send_1 : ∀ q ∈ jt_Y_send_1, js_ie kY_send q := js_okm_ok (by decide +kernel) (by decide +kernel)
theorem js_a_Y_send : ∀ q ∈ jt_Y_send, js_ie kY_send q := fun q h => (List.mem_append.mp h).elim (fun h => js_a_Y_send_0 q h) (fun h => js_a_Y_send_1 q h)
set_option maxRecDepth 1000000 in
set_option maxHeartbeats 16000000 in
theorem js_a_Y_laneFor : ∀ q ∈ jt_Y_laneFor, js_ie kY_laneFor q := js_okm_ok (by decide +kernel) (by decide +kernel)
set_option maxRecDepth 1000000 in
set_option maxHeartbeats 16000000 in
theorem js_a_Y_comesIn : ∀ q ∈ jt_Y_comesIn, js_ie kY_comesIn q := js_okm_ok (by decide +kernel) (by decide +kernel)
set_option maxRecDepth 1000000 in
set_option maxHeartbeats 16000000 in
theorem js_a_Y_ticks_0 : ∀ q ∈ jt_Y_ticks_0, js_ie kY_ticks q := js_okm_ok (by decide +kernel) (by decide +kernel)
set_option maxRecDepth 1000000 in
set_option maxHeartbeats 16000000 in
theorem js_a_Y_ticks_1 : ∀ q ∈ jt_Y_ticks_1, js_ie kY_ticks q := js_okm_ok (by decide +kernel) (by decide +kernel)
theorem js_a_Y_ticks : ∀ q ∈ jt_Y_ticks, js_ie kY_ticks q := fun q h => (List.mem_append.mp h).elim (fun h => js_a_Y_ticks_0 q h) (fun h => js_a_Y_ticks_1 q h)
set_option maxRecDepth 1000000 in
set_option maxHeartbeats 16000000 in
theorem js_a_Y_pass : ∀ q ∈ jt_Y_pass, js_ie kY_pass q := js_okm_ok (by decide +kernel) (by decide +kernel)
set_option maxRecDepth 1000000 in
set_option maxHeartbeats 16000000 in
theorem js_a_Y_goFrom_0 : ∀ q ∈ jt_Y_goFrom_0, js_ie kY_goFrom q := js_okm_ok (by decide +kernel) (by decide +kernel)
set_option maxRecDepth 1000000 in
set_option maxHeartbeats 16000000 in
theorem js_a_Y_goFrom_1 : ∀ q ∈ jt_Y_goFrom_1, js_ie kY_goFrom q := js_okm_ok (by decide +kernel) (by decide +kernel)
theorem js_a_Y_goFrom : ∀ q ∈ jt_Y_goFrom, js_ie kY_goFrom q := fun q h => (List.mem_append.mp h).elim (fun h => js_a_Y_goFrom_0 q h) (fun h => js_a_Y_goFrom_1 q h)
set_option maxRecDepth 1000000 in
set_option maxHeartbeats 16000000 in
theorem js_a_Y_leaves : ∀ q ∈ jt_Y_leaves, js_ie kY_leaves q := js_okm_ok (by decide +kernel) (by decide +kernel)
set_option maxRecDepth 1000000 in
set_option maxHeartbeats 16000000 in
theorem js_a_Y_ofLoad : ∀ q ∈ jt_Y_ofLoad, js_ie kY_ofLoad q := js_okm_ok (by decide +kernel) (by decide +kernel)
set_option maxRecDepth 1000000 in
set_option maxHeartbeats 16000000 in
theorem js_a_Y_isLoad : ∀ q ∈ jt_Y_isLoad, js_ie kY_isLoad q := js_okm_ok (by decide +kernel) (by decide +kernel)
set_option maxRecDepth 1000000 in
set_option maxHeartbeats 16000000 in
theorem js_a_Y_frozen_0 : ∀ q ∈ jt_Y_frozen_0, js_ie kY_frozen q := js_okm_ok (by decide +kernel) (by decide +kernel)
set_option maxRecDepth 1000000 in
set_option maxHeartbeats 16000000 in
theorem js_a_Y_frozen_1 : ∀ q ∈ jt_Y_frozen_1, js_ie kY_frozen q := js_okm_ok (by decide +kernel) (by decide +kernel)
theorem js_a_Y_frozen : ∀ q ∈ jt_Y_frozen, js_ie kY_frozen q := fun q h => (List.mem_append.mp h).elim (fun h => js_a_Y_frozen_0 q h) (fun h => js_a_Y_frozen_1 q h)
set_option maxRecDepth 1000000 in
set_option maxHeartbeats 16000000 in
theorem js_a_Y_isHeld_0 : ∀ q ∈ jt_Y_isHeld_0, js_ie kY_isHeld q := js_okm_ok (by decide +kernel) (by decide +kernel)
set_option maxRecDepth 1000000 in
set_option maxHeartbeats 16000000 in
theorem js_a_Y_isHeld_1 : ∀ q ∈ jt_Y_isHeld_1, js_ie kY_isHeld q := js_okm_ok (by decide +kernel) (by decide +kernel)
theorem js_a_Y_isHeld : ∀ q ∈ jt_Y_isHeld, js_ie kY_isHeld q := fun q h => (List.mem_append.mp h).elim (fun h => js_a_Y_isHeld_0 q h) (fun h => js_a_Y_isHeld_1 q h)
