/-! ===== each method as the tables have it (written by a program), 0 ===== -/
set_option maxRecDepth 1000000 in
set_option maxHeartbeats 16000000 in
theorem js_a_X_init_0 : ∀ q ∈ jt_X_init_0, js_ie kX_init q := js_okm_ok (by decide +kernel) (by decide +kernel)
set_option maxRecDepth 1000000 in
set_option maxHeartbeats 16000000 in
theorem js_a_X_init_1 : ∀ q ∈ jt_X_init_1, js_ie kX_init q := js_okm_ok (by decide +kernel) (by decide +kernel)
theorem js_a_X_init : ∀ q ∈ jt_X_init, js_ie kX_init q := fun q h => (List.mem_append.mp h).elim (fun h => js_a_X_init_0 q h) (fun h => js_a_X_init_1 q h)
set_option maxRecDepth 1000000 in
set_option maxHeartbeats 16000000 in
theorem js_a_Sh_init : ∀ q ∈ jt_Sh_init, js_ie kSh_init q := js_okm_ok (by decide +kernel) (by decide +kernel)
set_option maxRecDepth 1000000 in
set_option maxHeartbeats 16000000 in
theorem js_a_Tx_init : ∀ q ∈ jt_Tx_init, js_ie kTx_init q := js_okm_ok (by decide +kernel) (by decide +kernel)
set_option maxRecDepth 1000000 in
set_option maxHeartbeats 16000000 in
theorem js_a_N_init : ∀ q ∈ jt_N_init, js_ie kN_init q := js_okm_ok (by decide +kernel) (by decide +kernel)
set_option maxRecDepth 1000000 in
set_option maxHeartbeats 16000000 in
theorem js_a_Wy_init : ∀ q ∈ jt_Wy_init, js_ie kWy_init q := js_okm_ok (by decide +kernel) (by decide +kernel)
set_option maxRecDepth 1000000 in
set_option maxHeartbeats 16000000 in
theorem js_a_Wa_init : ∀ q ∈ jt_Wa_init, js_ie kWa_init q := js_okm_ok (by decide +kernel) (by decide +kernel)
set_option maxRecDepth 1000000 in
set_option maxHeartbeats 16000000 in
theorem js_a_Sl_init : ∀ q ∈ jt_Sl_init, js_ie kSl_init q := js_okm_ok (by decide +kernel) (by decide +kernel)
set_option maxRecDepth 1000000 in
set_option maxHeartbeats 16000000 in
theorem js_a_Sa_init : ∀ q ∈ jt_Sa_init, js_ie kSa_init q := js_okm_ok (by decide +kernel) (by decide +kernel)
set_option maxRecDepth 1000000 in
set_option maxHeartbeats 16000000 in
theorem js_a_Tr_init : ∀ q ∈ jt_Tr_init, js_ie kTr_init q := js_okm_ok (by decide +kernel) (by decide +kernel)
set_option maxRecDepth 1000000 in
set_option maxHeartbeats 16000000 in
theorem js_a_M_init : ∀ q ∈ jt_M_init, js_ie kM_init q := js_okm_ok (by decide +kernel) (by decide +kernel)
set_option maxRecDepth 1000000 in
set_option maxHeartbeats 16000000 in
theorem js_a_B_init : ∀ q ∈ jt_B_init, js_ie kB_init q := js_okm_ok (by decide +kernel) (by decide +kernel)
set_option maxRecDepth 1000000 in
set_option maxHeartbeats 16000000 in
theorem js_a_X_net_0 : ∀ q ∈ jt_X_net_0, js_ie kX_net q := js_okm_ok (by decide +kernel) (by decide +kernel)
set_option maxRecDepth 1000000 in
set_option maxHeartbeats 16000000 in
theorem js_a_X_net_1 : ∀ q ∈ jt_X_net_1, js_ie kX_net q := js_okm_ok (by decide +kernel) (by decide +kernel)
theorem js_a_X_net : ∀ q ∈ jt_X_net, js_ie kX_net q := fun q h => (List.mem_append.mp h).elim (fun h => js_a_X_net_0 q h) (fun h => js_a_X_net_1 q h)
set_option maxRecDepth 1000000 in
set_option maxHeartbeats 16000000 in
theorem js_a_Sh_isSheet : ∀ q ∈ jt_Sh_isSheet, js_ie kSh_isSheet q := js_okm_ok (by decide +kernel) (by decide +kernel)
set_option maxRecDepth 1000000 in
set_option maxHeartbeats 16000000 in
theorem js_a_Sh_isSort : ∀ q ∈ jt_Sh_isSort, js_ie kSh_isSort q := js_okm_ok (by decide +kernel) (by decide +kernel)
set_option maxRecDepth 1000000 in
set_option maxHeartbeats 16000000 in
theorem js_a_Sh_isOfAnother : ∀ q ∈ jt_Sh_isOfAnother, js_ie kSh_isOfAnother q := js_okm_ok (by decide +kernel) (by decide +kernel)
set_option maxRecDepth 1000000 in
set_option maxHeartbeats 16000000 in
theorem js_a_Sh_hasRow : ∀ q ∈ jt_Sh_hasRow, js_ie kSh_hasRow q := js_okm_ok (by decide +kernel) (by decide +kernel)
set_option maxRecDepth 1000000 in
set_option maxHeartbeats 16000000 in
theorem js_a_X_fail : ∀ q ∈ jt_X_fail, js_ie kX_fail q := js_okm_ok (by decide +kernel) (by decide +kernel)
set_option maxRecDepth 1000000 in
set_option maxHeartbeats 16000000 in
theorem js_a_Sh_hasCells : ∀ q ∈ jt_Sh_hasCells, js_ie kSh_hasCells q := js_okm_ok (by decide +kernel) (by decide +kernel)
set_option maxRecDepth 1000000 in
set_option maxHeartbeats 16000000 in
theorem js_a_Tx_firstFault : ∀ q ∈ jt_Tx_firstFault, js_ie kTx_firstFault q := js_okm_ok (by decide +kernel) (by decide +kernel)
set_option maxRecDepth 1000000 in
set_option maxHeartbeats 16000000 in
theorem js_a_Tx_takes_0 : ∀ q ∈ jt_Tx_takes_0, js_ie kTx_takes q := js_okm_ok (by decide +kernel) (by decide +kernel)
set_option maxRecDepth 1000000 in
set_option maxHeartbeats 16000000 in
theorem js_a_Tx_takes_1 : ∀ q ∈ jt_Tx_takes_1, js_ie kTx_takes q := js_okm_ok (by decide +kernel) (by decide +kernel)
theorem js_a_Tx_takes : ∀ q ∈ jt_Tx_takes, js_ie kTx_takes q := fun q h => (List.mem_append.mp h).elim (fun h => js_a_Tx_takes_0 q h) (fun h => js_a_Tx_takes_1 q h)
set_option maxRecDepth 1000000 in
set_option maxHeartbeats 16000000 in
theorem js_a_Tx_goesOn : ∀ q ∈ jt_Tx_goesOn, js_ie kTx_goesOn q := js_okm_ok (by decide +kernel) (by decide +kernel)
set_option maxRecDepth 1000000 in
set_option maxHeartbeats 16000000 in
theorem js_a_Tx_takesNodes : ∀ q ∈ jt_Tx_takesNodes, js_ie kTx_takesNodes q := js_okm_ok (by decide +kernel) (by decide +kernel)
set_option maxRecDepth 1000000 in
set_option maxHeartbeats 16000000 in
theorem js_a_Tx_takesFrom : ∀ q ∈ jt_Tx_takesFrom, js_ie kTx_takesFrom q := js_okm_ok (by decide +kernel) (by decide +kernel)
set_option maxRecDepth 1000000 in
set_option maxHeartbeats 16000000 in
theorem js_a_Tx_takesTo : ∀ q ∈ jt_Tx_takesTo, js_ie kTx_takesTo q := js_okm_ok (by decide +kernel) (by decide +kernel)
set_option maxRecDepth 1000000 in
set_option maxHeartbeats 16000000 in
theorem js_a_Tx_opensLane : ∀ q ∈ jt_Tx_opensLane, js_ie kTx_opensLane q := js_okm_ok (by decide +kernel) (by decide +kernel)
set_option maxRecDepth 1000000 in
set_option maxHeartbeats 16000000 in
theorem js_a_Tx_takesCells : ∀ q ∈ jt_Tx_takesCells, js_ie kTx_takesCells q := js_okm_ok (by decide +kernel) (by decide +kernel)
set_option maxRecDepth 1000000 in
set_option maxHeartbeats 16000000 in
theorem js_a_N_build : ∀ q ∈ jt_N_build, js_ie kN_build q := js_okm_ok (by decide +kernel) (by decide +kernel)
set_option maxRecDepth 1000000 in
set_option maxHeartbeats 16000000 in
theorem js_a_N_measure_0 : ∀ q ∈ jt_N_measure_0, js_ie kN_measure q := js_okm_ok (by decide +kernel) (by decide +kernel)
set_option maxRecDepth 1000000 in
set_option maxHeartbeats 16000000 in
theorem js_a_N_measure_1 : ∀ q ∈ jt_N_measure_1, js_ie kN_measure q := js_okm_ok (by decide +kernel) (by decide +kernel)
theorem js_a_N_measure : ∀ q ∈ jt_N_measure, js_ie kN_measure q := fun q h => (List.mem_append.mp h).elim (fun h => js_a_N_measure_0 q h) (fun h => js_a_N_measure_1 q h)
set_option maxRecDepth 1000000 in
set_option maxHeartbeats 16000000 in
theorem js_a_N_collect_0 : ∀ q ∈ jt_N_collect_0, js_ie kN_collect q := js_okm_ok (by decide +kernel) (by decide +kernel)
set_option maxRecDepth 1000000 in
set_option maxHeartbeats 16000000 in
theorem js_a_N_collect_1 : ∀ q ∈ jt_N_collect_1, js_ie kN_collect q := js_okm_ok (by decide +kernel) (by decide +kernel)
theorem js_a_N_collect : ∀ q ∈ jt_N_collect, js_ie kN_collect q := fun q h => (List.mem_append.mp h).elim (fun h => js_a_N_collect_0 q h) (fun h => js_a_N_collect_1 q h)
set_option maxRecDepth 1000000 in
set_option maxHeartbeats 16000000 in
theorem js_a_Wy_unbarAll : ∀ q ∈ jt_Wy_unbarAll, js_ie kWy_unbarAll q := js_okm_ok (by decide +kernel) (by decide +kernel)
set_option maxRecDepth 1000000 in
set_option maxHeartbeats 16000000 in
theorem js_a_Ar_fill : ∀ q ∈ jt_Ar_fill, js_ie kAr_fill q := js_okm_ok (by decide +kernel) (by decide +kernel)
set_option maxRecDepth 1000000 in
set_option maxHeartbeats 16000000 in
theorem js_a_Wy_layAll : ∀ q ∈ jt_Wy_layAll, js_ie kWy_layAll q := js_okm_ok (by decide +kernel) (by decide +kernel)
set_option maxRecDepth 1000000 in
set_option maxHeartbeats 16000000 in
theorem js_a_Wy_ruled : ∀ q ∈ jt_Wy_ruled, js_ie kWy_ruled q := js_okm_ok (by decide +kernel) (by decide +kernel)
set_option maxRecDepth 1000000 in
set_option maxHeartbeats 16000000 in
theorem js_a_Wy_layLane : ∀ q ∈ jt_Wy_layLane, js_ie kWy_layLane q := js_okm_ok (by decide +kernel) (by decide +kernel)
set_option maxRecDepth 1000000 in
set_option maxHeartbeats 16000000 in
theorem js_a_Tr_clear : ∀ q ∈ jt_Tr_clear, js_ie kTr_clear q := js_okm_ok (by decide +kernel) (by decide +kernel)
set_option maxRecDepth 1000000 in
set_option maxHeartbeats 16000000 in
theorem js_a_X_ofLane : ∀ q ∈ jt_X_ofLane, js_ie kX_ofLane q := js_okm_ok (by decide +kernel) (by decide +kernel)
set_option maxRecDepth 1000000 in
set_option maxHeartbeats 16000000 in
theorem js_a_N_isLane : ∀ q ∈ jt_N_isLane, js_ie kN_isLane q := js_okm_ok (by decide +kernel) (by decide +kernel)
set_option maxRecDepth 1000000 in
set_option maxHeartbeats 16000000 in
theorem js_a_Tr_standsIn : ∀ q ∈ jt_Tr_standsIn, js_ie kTr_standsIn q := js_okm_ok (by decide +kernel) (by decide +kernel)
set_option maxRecDepth 1000000 in
set_option maxHeartbeats 16000000 in
theorem js_a_X_far : ∀ q ∈ jt_X_far, js_ie kX_far q := js_okm_ok (by decide +kernel) (by decide +kernel)
set_option maxRecDepth 1000000 in
set_option maxHeartbeats 16000000 in
theorem js_a_N_areNodes : ∀ q ∈ jt_N_areNodes, js_ie kN_areNodes q := js_okm_ok (by decide +kernel) (by decide +kernel)
set_option maxRecDepth 1000000 in
set_option maxHeartbeats 16000000 in
theorem js_a_N_isNode : ∀ q ∈ jt_N_isNode, js_ie kN_isNode q := js_okm_ok (by decide +kernel) (by decide +kernel)
set_option maxRecDepth 1000000 in
set_option maxHeartbeats 16000000 in
theorem js_a_X_rule : ∀ q ∈ jt_X_rule, js_ie kX_rule q := js_okm_ok (by decide +kernel) (by decide +kernel)
set_option maxRecDepth 1000000 in
set_option maxHeartbeats 16000000 in
theorem js_a_Wy_ruleBy : ∀ q ∈ jt_Wy_ruleBy, js_ie kWy_ruleBy q := js_okm_ok (by decide +kernel) (by decide +kernel)
set_option maxRecDepth 1000000 in
set_option maxHeartbeats 16000000 in
theorem js_a_X_bar : ∀ q ∈ jt_X_bar, js_ie kX_bar q := js_okm_ok (by decide +kernel) (by decide +kernel)
set_option maxRecDepth 1000000 in
set_option maxHeartbeats 16000000 in
theorem js_a_Wy_isBarred : ∀ q ∈ jt_Wy_isBarred, js_ie kWy_isBarred q := js_okm_ok (by decide +kernel) (by decide +kernel)
set_option maxRecDepth 1000000 in
set_option maxHeartbeats 16000000 in
theorem js_a_X_has : ∀ q ∈ jt_X_has, js_ie kX_has q := js_okm_ok (by decide +kernel) (by decide +kernel)
set_option maxRecDepth 1000000 in
set_option maxHeartbeats 16000000 in
theorem js_a_Wy_setBarred : ∀ q ∈ jt_Wy_setBarred, js_ie kWy_setBarred q := js_okm_ok (by decide +kernel) (by decide +kernel)
set_option maxRecDepth 1000000 in
set_option maxHeartbeats 16000000 in
theorem js_a_X_may : ∀ q ∈ jt_X_may, js_ie kX_may q := js_okm_ok (by decide +kernel) (by decide +kernel)
set_option maxRecDepth 1000000 in
set_option maxHeartbeats 16000000 in
theorem js_a_X_out : ∀ q ∈ jt_X_out, js_ie kX_out q := js_okm_ok (by decide +kernel) (by decide +kernel)
set_option maxRecDepth 1000000 in
set_option maxHeartbeats 16000000 in
theorem js_a_X_comes : ∀ q ∈ jt_X_comes, js_ie kX_comes q := js_okm_ok (by decide +kernel) (by decide +kernel)
set_option maxRecDepth 1000000 in
set_option maxHeartbeats 16000000 in
theorem js_a_Wa_howItComes : ∀ q ∈ jt_Wa_howItComes, js_ie kWa_howItComes q := js_okm_ok (by decide +kernel) (by decide +kernel)
set_option maxRecDepth 1000000 in
set_option maxHeartbeats 16000000 in
theorem js_a_Wa_reach : ∀ q ∈ jt_Wa_reach, js_ie kWa_reach q := js_okm_ok (by decide +kernel) (by decide +kernel)
set_option maxRecDepth 1000000 in
set_option maxHeartbeats 16000000 in
theorem js_a_Wa_endsWell : ∀ q ∈ jt_Wa_endsWell, js_ie kWa_endsWell q := js_okm_ok (by decide +kernel) (by decide +kernel)
set_option maxRecDepth 1000000 in
set_option maxHeartbeats 16000000 in
theorem js_a_X_knot : ∀ q ∈ jt_X_knot, js_ie kX_knot q := js_okm_ok (by decide +kernel) (by decide +kernel)
set_option maxRecDepth 1000000 in
set_option maxHeartbeats 16000000 in
theorem js_a_X_carries : ∀ q ∈ jt_X_carries, js_ie kX_carries q := js_okm_ok (by decide +kernel) (by decide +kernel)
set_option maxRecDepth 1000000 in
set_option maxHeartbeats 16000000 in
theorem js_a_Wa_work : ∀ q ∈ jt_Wa_work, js_ie kWa_work q := js_okm_ok (by decide +kernel) (by decide +kernel)
set_option maxRecDepth 1000000 in
set_option maxHeartbeats 16000000 in
theorem js_a_Wa_survey_0 : ∀ q ∈ jt_Wa_survey_0, js_ie kWa_survey q := js_okm_ok (by decide +kernel) (by decide +kernel)
set_option maxRecDepth 1000000 in
set_option maxHeartbeats 16000000 in
theorem js_a_Wa_survey_1 : ∀ q ∈ jt_Wa_survey_1, js_ie kWa_survey q := js_okm_ok (by decide +kernel) (by decide +kernel)
theorem js_a_Wa_survey : ∀ q ∈ jt_Wa_survey, js_ie kWa_survey q := fun q h => (List.mem_append.mp h).elim (fun h => js_a_Wa_survey_0 q h) (fun h => js_a_Wa_survey_1 q h)
set_option maxRecDepth 1000000 in
set_option maxHeartbeats 16000000 in
theorem js_a_Wa_findRing : ∀ q ∈ jt_Wa_findRing, js_ie kWa_findRing q := js_okm_ok (by decide +kernel) (by decide +kernel)
set_option maxRecDepth 1000000 in
set_option maxHeartbeats 16000000 in
theorem js_a_Wa_measureRing_0 : ∀ q ∈ jt_Wa_measureRing_0, js_ie kWa_measureRing q := js_okm_ok (by decide +kernel) (by decide +kernel)
set_option maxRecDepth 1000000 in
set_option maxHeartbeats 16000000 in
theorem js_a_Wa_measureRing_1 : ∀ q ∈ jt_Wa_measureRing_1, js_ie kWa_measureRing q := js_okm_ok (by decide +kernel) (by decide +kernel)
theorem js_a_Wa_measureRing : ∀ q ∈ jt_Wa_measureRing, js_ie kWa_measureRing q := fun q h => (List.mem_append.mp h).elim (fun h => js_a_Wa_measureRing_0 q h) (fun h => js_a_Wa_measureRing_1 q h)
set_option maxRecDepth 1000000 in
set_option maxHeartbeats 16000000 in
theorem js_a_Wa_layRing : ∀ q ∈ jt_Wa_layRing, js_ie kWa_layRing q := js_okm_ok (by decide +kernel) (by decide +kernel)
set_option maxRecDepth 1000000 in
set_option maxHeartbeats 16000000 in
theorem js_a_Wa_findRanks : ∀ q ∈ jt_Wa_findRanks, js_ie kWa_findRanks q := js_okm_ok (by decide +kernel) (by decide +kernel)
set_option maxRecDepth 1000000 in
set_option maxHeartbeats 16000000 in
theorem js_a_X_waits : ∀ q ∈ jt_X_waits, js_ie kX_waits q := js_okm_ok (by decide +kernel) (by decide +kernel)
set_option maxRecDepth 1000000 in
set_option maxHeartbeats 16000000 in
theorem js_a_X_ring : ∀ q ∈ jt_X_ring, js_ie kX_ring q := js_okm_ok (by decide +kernel) (by decide +kernel)
set_option maxRecDepth 1000000 in
set_option maxHeartbeats 16000000 in
theorem js_a_X_rank : ∀ q ∈ jt_X_rank, js_ie kX_rank q := js_okm_ok (by decide +kernel) (by decide +kernel)
set_option maxRecDepth 1000000 in
set_option maxHeartbeats 16000000 in
theorem js_a_X_still : ∀ q ∈ jt_X_still, js_ie kX_still q := js_okm_ok (by decide +kernel) (by decide +kernel)
set_option maxRecDepth 1000000 in
set_option maxHeartbeats 16000000 in
theorem js_a_Sl_work : ∀ q ∈ jt_Sl_work, js_ie kSl_work q := js_okm_ok (by decide +kernel) (by decide +kernel)
set_option maxRecDepth 1000000 in
set_option maxHeartbeats 16000000 in
theorem js_a_Sl_findNeeds : ∀ q ∈ jt_Sl_findNeeds, js_ie kSl_findNeeds q := js_okm_ok (by decide +kernel) (by decide +kernel)
set_option maxRecDepth 1000000 in
set_option maxHeartbeats 16000000 in
theorem js_a_Sl_findAll : ∀ q ∈ jt_Sl_findAll, js_ie kSl_findAll q := js_okm_ok (by decide +kernel) (by decide +kernel)
set_option maxRecDepth 1000000 in
set_option maxHeartbeats 16000000 in
theorem js_a_Sl_canStand : ∀ q ∈ jt_Sl_canStand, js_ie kSl_canStand q := js_okm_ok (by decide +kernel) (by decide +kernel)
set_option maxRecDepth 1000000 in
set_option maxHeartbeats 16000000 in
theorem js_a_Sl_findLeast : ∀ q ∈ jt_Sl_findLeast, js_ie kSl_findLeast q := js_okm_ok (by decide +kernel) (by decide +kernel)
set_option maxRecDepth 1000000 in
set_option maxHeartbeats 16000000 in
theorem js_a_In_bitCount : ∀ q ∈ jt_In_bitCount, js_ie kIn_bitCount q := js_okm_ok (by decide +kernel) (by decide +kernel)
set_option maxRecDepth 1000000 in
set_option maxHeartbeats 16000000 in
theorem js_a_Sl_stands : ∀ q ∈ jt_Sl_stands, js_ie kSl_stands q := js_okm_ok (by decide +kernel) (by decide +kernel)
set_option maxRecDepth 1000000 in
set_option maxHeartbeats 16000000 in
theorem js_a_X_states : ∀ q ∈ jt_X_states, js_ie kX_states q := js_okm_ok (by decide +kernel) (by decide +kernel)
set_option maxRecDepth 1000000 in
set_option maxHeartbeats 16000000 in
theorem js_a_Sa_fit : ∀ q ∈ jt_Sa_fit, js_ie kSa_fit q := js_okm_ok (by decide +kernel) (by decide +kernel)
set_option maxRecDepth 1000000 in
set_option maxHeartbeats 16000000 in
theorem js_a_Sa_work : ∀ q ∈ jt_Sa_work, js_ie kSa_work q := js_okm_ok (by decide +kernel) (by decide +kernel)
