/-! ===== each method as the tables have it (written by a program), 1 ===== -/
set_option maxRecDepth 1000000 in
set_option maxHeartbeats 16000000 in
theorem js_a_Sa_prepare_0 : ∀ q ∈ jt_Sa_prepare_0, js_ie kSa_prepare q := js_okm_ok (by decide +kernel) (by decide +kernel)
set_option maxRecDepth 1000000 in
set_option maxHeartbeats 16000000 in
theorem js_a_Sa_prepare_1 : ∀ q ∈ jt_Sa_prepare_1, js_ie kSa_prepare q := js_okm_ok (by decide +kernel) (by decide +kernel)
theorem js_a_Sa_prepare : ∀ q ∈ jt_Sa_prepare, js_ie kSa_prepare q := fun q h => (List.mem_append.mp h).elim (fun h => js_a_Sa_prepare_0 q h) (fun h => js_a_Sa_prepare_1 q h)
set_option maxRecDepth 1000000 in
set_option maxHeartbeats 16000000 in
theorem js_a_Sa_reach : ∀ q ∈ jt_Sa_reach, js_ie kSa_reach q := js_okm_ok (by decide +kernel) (by decide +kernel)
set_option maxRecDepth 1000000 in
set_option maxHeartbeats 16000000 in
theorem js_a_Sa_visitAll : ∀ q ∈ jt_Sa_visitAll, js_ie kSa_visitAll q := js_okm_ok (by decide +kernel) (by decide +kernel)
set_option maxRecDepth 1000000 in
set_option maxHeartbeats 16000000 in
theorem js_a_Sa_visit_0 : ∀ q ∈ jt_Sa_visit_0, js_ie kSa_visit q := js_okm_ok (by decide +kernel) (by decide +kernel)
set_option maxRecDepth 1000000 in
set_option maxHeartbeats 16000000 in
theorem js_a_Sa_visit_1 : ∀ q ∈ jt_Sa_visit_1, js_ie kSa_visit q := js_okm_ok (by decide +kernel) (by decide +kernel)
theorem js_a_Sa_visit : ∀ q ∈ jt_Sa_visit, js_ie kSa_visit q := fun q h => (List.mem_append.mp h).elim (fun h => js_a_Sa_visit_0 q h) (fun h => js_a_Sa_visit_1 q h)
set_option maxRecDepth 1000000 in
set_option maxHeartbeats 16000000 in
theorem js_a_Sa_isDead_0 : ∀ q ∈ jt_Sa_isDead_0, js_ie kSa_isDead q := js_okm_ok (by decide +kernel) (by decide +kernel)
set_option maxRecDepth 1000000 in
set_option maxHeartbeats 16000000 in
theorem js_a_Sa_isDead_1 : ∀ q ∈ jt_Sa_isDead_1, js_ie kSa_isDead q := js_okm_ok (by decide +kernel) (by decide +kernel)
theorem js_a_Sa_isDead : ∀ q ∈ jt_Sa_isDead, js_ie kSa_isDead q := fun q h => (List.mem_append.mp h).elim (fun h => js_a_Sa_isDead_0 q h) (fun h => js_a_Sa_isDead_1 q h)
set_option maxRecDepth 1000000 in
set_option maxHeartbeats 16000000 in
theorem js_a_Sa_setOut : ∀ q ∈ jt_Sa_setOut, js_ie kSa_setOut q := js_okm_ok (by decide +kernel) (by decide +kernel)
set_option maxRecDepth 1000000 in
set_option maxHeartbeats 16000000 in
theorem js_a_Sa_goOn_0 : ∀ q ∈ jt_Sa_goOn_0, js_ie kSa_goOn q := js_okm_ok (by decide +kernel) (by decide +kernel)
set_option maxRecDepth 1000000 in
set_option maxHeartbeats 16000000 in
theorem js_a_Sa_goOn_1 : ∀ q ∈ jt_Sa_goOn_1, js_ie kSa_goOn q := js_okm_ok (by decide +kernel) (by decide +kernel)
theorem js_a_Sa_goOn : ∀ q ∈ jt_Sa_goOn, js_ie kSa_goOn q := fun q h => (List.mem_append.mp h).elim (fun h => js_a_Sa_goOn_0 q h) (fun h => js_a_Sa_goOn_1 q h)
set_option maxRecDepth 1000000 in
set_option maxHeartbeats 16000000 in
theorem js_a_X_send : ∀ q ∈ jt_X_send, js_ie kX_send q := js_okm_ok (by decide +kernel) (by decide +kernel)
set_option maxRecDepth 1000000 in
set_option maxHeartbeats 16000000 in
theorem js_a_X_isKind : ∀ q ∈ jt_X_isKind, js_ie kX_isKind q := js_okm_ok (by decide +kernel) (by decide +kernel)
set_option maxRecDepth 1000000 in
set_option maxHeartbeats 16000000 in
theorem js_a_Tr_choose : ∀ q ∈ jt_Tr_choose, js_ie kTr_choose q := js_okm_ok (by decide +kernel) (by decide +kernel)
set_option maxRecDepth 1000000 in
set_option maxHeartbeats 16000000 in
theorem js_a_Tr_hasRoom : ∀ q ∈ jt_Tr_hasRoom, js_ie kTr_hasRoom q := js_okm_ok (by decide +kernel) (by decide +kernel)
set_option maxRecDepth 1000000 in
set_option maxHeartbeats 16000000 in
theorem js_a_Tr_setOut : ∀ q ∈ jt_Tr_setOut, js_ie kTr_setOut q := js_okm_ok (by decide +kernel) (by decide +kernel)
set_option maxRecDepth 1000000 in
set_option maxHeartbeats 16000000 in
theorem js_a_Ld_init : ∀ q ∈ jt_Ld_init, js_ie kLd_init q := js_okm_ok (by decide +kernel) (by decide +kernel)
set_option maxRecDepth 1000000 in
set_option maxHeartbeats 16000000 in
theorem js_a_Tr_enter : ∀ q ∈ jt_Tr_enter, js_ie kTr_enter q := js_okm_ok (by decide +kernel) (by decide +kernel)
set_option maxRecDepth 1000000 in
set_option maxHeartbeats 16000000 in
theorem js_a_X_ticks : ∀ q ∈ jt_X_ticks, js_ie kX_ticks q := js_okm_ok (by decide +kernel) (by decide +kernel)
set_option maxRecDepth 1000000 in
set_option maxHeartbeats 16000000 in
theorem js_a_Tr_tickOnce : ∀ q ∈ jt_Tr_tickOnce, js_ie kTr_tickOnce q := js_okm_ok (by decide +kernel) (by decide +kernel)
set_option maxRecDepth 1000000 in
set_option maxHeartbeats 16000000 in
theorem js_a_Tr_moveFirsts : ∀ q ∈ jt_Tr_moveFirsts, js_ie kTr_moveFirsts q := js_okm_ok (by decide +kernel) (by decide +kernel)
set_option maxRecDepth 1000000 in
set_option maxHeartbeats 16000000 in
theorem js_a_Tr_numbered : ∀ q ∈ jt_Tr_numbered, js_ie kTr_numbered q := js_okm_ok (by decide +kernel) (by decide +kernel)
set_option maxRecDepth 1000000 in
set_option maxHeartbeats 16000000 in
theorem js_a_Tr_moves_0 : ∀ q ∈ jt_Tr_moves_0, js_ie kTr_moves q := js_okm_ok (by decide +kernel) (by decide +kernel)
set_option maxRecDepth 1000000 in
set_option maxHeartbeats 16000000 in
theorem js_a_Tr_moves_1 : ∀ q ∈ jt_Tr_moves_1, js_ie kTr_moves q := js_okm_ok (by decide +kernel) (by decide +kernel)
theorem js_a_Tr_moves : ∀ q ∈ jt_Tr_moves, js_ie kTr_moves q := fun q h => (List.mem_append.mp h).elim (fun h => js_a_Tr_moves_0 q h) (fun h => js_a_Tr_moves_1 q h)
set_option maxRecDepth 1000000 in
set_option maxHeartbeats 16000000 in
theorem js_a_X_ofLoad : ∀ q ∈ jt_X_ofLoad, js_ie kX_ofLoad q := js_okm_ok (by decide +kernel) (by decide +kernel)
set_option maxRecDepth 1000000 in
set_option maxHeartbeats 16000000 in
theorem js_a_X_frozen : ∀ q ∈ jt_X_frozen, js_ie kX_frozen q := js_okm_ok (by decide +kernel) (by decide +kernel)
set_option maxRecDepth 1000000 in
set_option maxHeartbeats 16000000 in
theorem js_a_Tr_frozenSet_0 : ∀ q ∈ jt_Tr_frozenSet_0, js_ie kTr_frozenSet q := js_okm_ok (by decide +kernel) (by decide +kernel)
set_option maxRecDepth 1000000 in
set_option maxHeartbeats 16000000 in
theorem js_a_Tr_frozenSet_1 : ∀ q ∈ jt_Tr_frozenSet_1, js_ie kTr_frozenSet q := js_okm_ok (by decide +kernel) (by decide +kernel)
theorem js_a_Tr_frozenSet : ∀ q ∈ jt_Tr_frozenSet, js_ie kTr_frozenSet q := fun q h => (List.mem_append.mp h).elim (fun h => js_a_Tr_frozenSet_0 q h) (fun h => js_a_Tr_frozenSet_1 q h)
set_option maxRecDepth 1000000 in
set_option maxHeartbeats 16000000 in
theorem js_a_Tr_thaw : ∀ q ∈ jt_Tr_thaw, js_ie kTr_thaw q := js_okm_ok (by decide +kernel) (by decide +kernel)
set_option maxRecDepth 1000000 in
set_option maxHeartbeats 16000000 in
theorem js_a_Tr_isHeld : ∀ q ∈ jt_Tr_isHeld, js_ie kTr_isHeld q := js_okm_ok (by decide +kernel) (by decide +kernel)
set_option maxRecDepth 1000000 in
set_option maxHeartbeats 16000000 in
theorem js_a_In_lowestOneBit : ∀ q ∈ jt_In_lowestOneBit, js_ie kIn_lowestOneBit q := js_okm_ok (by decide +kernel) (by decide +kernel)
set_option maxRecDepth 1000000 in
set_option maxHeartbeats 16000000 in
theorem js_a_X_mend : ∀ q ∈ jt_X_mend, js_ie kX_mend q := js_okm_ok (by decide +kernel) (by decide +kernel)
set_option maxRecDepth 1000000 in
set_option maxHeartbeats 16000000 in
theorem js_a_M_work : ∀ q ∈ jt_M_work, js_ie kM_work q := js_okm_ok (by decide +kernel) (by decide +kernel)
set_option maxRecDepth 1000000 in
set_option maxHeartbeats 16000000 in
theorem js_a_Wy_takeFrom : ∀ q ∈ jt_Wy_takeFrom, js_ie kWy_takeFrom q := js_okm_ok (by decide +kernel) (by decide +kernel)
set_option maxRecDepth 1000000 in
set_option maxHeartbeats 16000000 in
theorem js_a_M_gather : ∀ q ∈ jt_M_gather, js_ie kM_gather q := js_okm_ok (by decide +kernel) (by decide +kernel)
set_option maxRecDepth 1000000 in
set_option maxHeartbeats 16000000 in
theorem js_a_M_isFound_0 : ∀ q ∈ jt_M_isFound_0, js_ie kM_isFound q := js_okm_ok (by decide +kernel) (by decide +kernel)
set_option maxRecDepth 1000000 in
set_option maxHeartbeats 16000000 in
theorem js_a_M_isFound_1 : ∀ q ∈ jt_M_isFound_1, js_ie kM_isFound q := js_okm_ok (by decide +kernel) (by decide +kernel)
theorem js_a_M_isFound : ∀ q ∈ jt_M_isFound, js_ie kM_isFound q := fun q h => (List.mem_append.mp h).elim (fun h => js_a_M_isFound_0 q h) (fun h => js_a_M_isFound_1 q h)
set_option maxRecDepth 1000000 in
set_option maxHeartbeats 16000000 in
theorem js_a_M_setTried : ∀ q ∈ jt_M_setTried, js_ie kM_setTried q := js_okm_ok (by decide +kernel) (by decide +kernel)
set_option maxRecDepth 1000000 in
set_option maxHeartbeats 16000000 in
theorem js_a_Wa_isSound : ∀ q ∈ jt_Wa_isSound, js_ie kWa_isSound q := js_okm_ok (by decide +kernel) (by decide +kernel)
set_option maxRecDepth 1000000 in
set_option maxHeartbeats 16000000 in
theorem js_a_X_bears : ∀ q ∈ jt_X_bears, js_ie kX_bears q := js_okm_ok (by decide +kernel) (by decide +kernel)
set_option maxRecDepth 1000000 in
set_option maxHeartbeats 16000000 in
theorem js_a_B_work : ∀ q ∈ jt_B_work, js_ie kB_work q := js_okm_ok (by decide +kernel) (by decide +kernel)
set_option maxRecDepth 1000000 in
set_option maxHeartbeats 16000000 in
theorem js_a_Ar_fillJ : ∀ q ∈ jt_Ar_fillJ, js_ie kAr_fillJ q := js_okm_ok (by decide +kernel) (by decide +kernel)
set_option maxRecDepth 1000000 in
set_option maxHeartbeats 16000000 in
theorem js_a_B_pour_0 : ∀ q ∈ jt_B_pour_0, js_ie kB_pour q := js_okm_ok (by decide +kernel) (by decide +kernel)
set_option maxRecDepth 1000000 in
set_option maxHeartbeats 16000000 in
theorem js_a_B_pour_1 : ∀ q ∈ jt_B_pour_1, js_ie kB_pour q := js_okm_ok (by decide +kernel) (by decide +kernel)
theorem js_a_B_pour : ∀ q ∈ jt_B_pour, js_ie kB_pour q := fun q h => (List.mem_append.mp h).elim (fun h => js_a_B_pour_0 q h) (fun h => js_a_B_pour_1 q h)
set_option maxRecDepth 1000000 in
set_option maxHeartbeats 16000000 in
theorem js_a_B_spread : ∀ q ∈ jt_B_spread, js_ie kB_spread q := js_okm_ok (by decide +kernel) (by decide +kernel)
set_option maxRecDepth 1000000 in
set_option maxHeartbeats 16000000 in
theorem js_a_B_add : ∀ q ∈ jt_B_add, js_ie kB_add q := js_okm_ok (by decide +kernel) (by decide +kernel)
set_option maxRecDepth 1000000 in
set_option maxHeartbeats 16000000 in
theorem js_a_B_commonDivisor : ∀ q ∈ jt_B_commonDivisor, js_ie kB_commonDivisor q := js_okm_ok (by decide +kernel) (by decide +kernel)
set_option maxRecDepth 1000000 in
set_option maxHeartbeats 16000000 in
theorem js_a_B_ledToFrom : ∀ q ∈ jt_B_ledToFrom, js_ie kB_ledToFrom q := js_okm_ok (by decide +kernel) (by decide +kernel)
set_option maxRecDepth 1000000 in
set_option maxHeartbeats 16000000 in
theorem js_a_X_busiest : ∀ q ∈ jt_X_busiest, js_ie kX_busiest q := js_okm_ok (by decide +kernel) (by decide +kernel)
set_option maxRecDepth 1000000 in
set_option maxHeartbeats 16000000 in
theorem js_a_B_greatest : ∀ q ∈ jt_B_greatest, js_ie kB_greatest q := js_okm_ok (by decide +kernel) (by decide +kernel)
set_option maxRecDepth 1000000 in
set_option maxHeartbeats 16000000 in
theorem js_a_X_sheet : ∀ q ∈ jt_X_sheet, js_ie kX_sheet q := js_okm_ok (by decide +kernel) (by decide +kernel)
set_option maxRecDepth 1000000 in
set_option maxHeartbeats 16000000 in
theorem js_a_Sh_renew : ∀ q ∈ jt_Sh_renew, js_ie kSh_renew q := js_okm_ok (by decide +kernel) (by decide +kernel)
set_option maxRecDepth 1000000 in
set_option maxHeartbeats 16000000 in
theorem js_a_X_lose : ∀ q ∈ jt_X_lose, js_ie kX_lose q := js_okm_ok (by decide +kernel) (by decide +kernel)
set_option maxRecDepth 1000000 in
set_option maxHeartbeats 16000000 in
theorem js_a_Sh_drop : ∀ q ∈ jt_Sh_drop, js_ie kSh_drop q := js_okm_ok (by decide +kernel) (by decide +kernel)
set_option maxRecDepth 1000000 in
set_option maxHeartbeats 16000000 in
theorem js_a_X_put : ∀ q ∈ jt_X_put, js_ie kX_put q := js_okm_ok (by decide +kernel) (by decide +kernel)
set_option maxRecDepth 1000000 in
set_option maxHeartbeats 16000000 in
theorem js_a_Sh_hasCell : ∀ q ∈ jt_Sh_hasCell, js_ie kSh_hasCell q := js_okm_ok (by decide +kernel) (by decide +kernel)
set_option maxRecDepth 1000000 in
set_option maxHeartbeats 16000000 in
theorem js_a_Sh_cut : ∀ q ∈ jt_Sh_cut, js_ie kSh_cut q := js_okm_ok (by decide +kernel) (by decide +kernel)
set_option maxRecDepth 1000000 in
set_option maxHeartbeats 16000000 in
theorem js_a_X_cell : ∀ q ∈ jt_X_cell, js_ie kX_cell q := js_okm_ok (by decide +kernel) (by decide +kernel)
set_option maxRecDepth 1000000 in
set_option maxHeartbeats 16000000 in
theorem js_a_X_lost : ∀ q ∈ jt_X_lost, js_ie kX_lost q := js_okm_ok (by decide +kernel) (by decide +kernel)
set_option maxRecDepth 1000000 in
set_option maxHeartbeats 16000000 in
theorem js_a_X_copy_0 : ∀ q ∈ jt_X_copy_0, js_ie kX_copy q := js_okm_ok (by decide +kernel) (by decide +kernel)
set_option maxRecDepth 1000000 in
set_option maxHeartbeats 16000000 in
theorem js_a_X_copy_1 : ∀ q ∈ jt_X_copy_1, js_ie kX_copy q := js_okm_ok (by decide +kernel) (by decide +kernel)
theorem js_a_X_copy : ∀ q ∈ jt_X_copy, js_ie kX_copy q := fun q h => (List.mem_append.mp h).elim (fun h => js_a_X_copy_0 q h) (fun h => js_a_X_copy_1 q h)
set_option maxRecDepth 1000000 in
set_option maxHeartbeats 16000000 in
theorem js_a_X_tell : ∀ q ∈ jt_X_tell, js_ie kX_tell q := js_okm_ok (by decide +kernel) (by decide +kernel)
set_option maxRecDepth 1000000 in
set_option maxHeartbeats 16000000 in
theorem js_a_X_sealedTelling : ∀ q ∈ jt_X_sealedTelling, js_ie kX_sealedTelling q := js_okm_ok (by decide +kernel) (by decide +kernel)
set_option maxRecDepth 1000000 in
set_option maxHeartbeats 16000000 in
theorem js_a_X_leave : ∀ q ∈ jt_X_leave, js_ie kX_leave q := js_okm_ok (by decide +kernel) (by decide +kernel)
set_option maxRecDepth 1000000 in
set_option maxHeartbeats 16000000 in
theorem js_a_X_hastyTelling : ∀ q ∈ jt_X_hastyTelling, js_ie kX_hastyTelling q := js_okm_ok (by decide +kernel) (by decide +kernel)
set_option maxRecDepth 1000000 in
set_option maxHeartbeats 16000000 in
theorem js_a_X_plainTelling : ∀ q ∈ jt_X_plainTelling, js_ie kX_plainTelling q := js_okm_ok (by decide +kernel) (by decide +kernel)
set_option maxRecDepth 1000000 in
set_option maxHeartbeats 16000000 in
theorem js_a_X_stamp : ∀ q ∈ jt_X_stamp, js_ie kX_stamp q := js_okm_ok (by decide +kernel) (by decide +kernel)
set_option maxRecDepth 1000000 in
set_option maxHeartbeats 16000000 in
theorem js_a_X_ownStamp : ∀ q ∈ jt_X_ownStamp, js_ie kX_ownStamp q := js_okm_ok (by decide +kernel) (by decide +kernel)
set_option maxRecDepth 1000000 in
set_option maxHeartbeats 16000000 in
theorem js_a_X_lentStamp : ∀ q ∈ jt_X_lentStamp, js_ie kX_lentStamp q := js_okm_ok (by decide +kernel) (by decide +kernel)
set_option maxRecDepth 1000000 in
set_option maxHeartbeats 16000000 in
theorem js_a_X_as : ∀ q ∈ jt_X_as, js_ie kX_as q := js_okm_ok (by decide +kernel) (by decide +kernel)
set_option maxRecDepth 1000000 in
set_option maxHeartbeats 16000000 in
theorem js_a_X_trace : ∀ q ∈ jt_X_trace, js_ie kX_trace q := js_okm_ok (by decide +kernel) (by decide +kernel)
set_option maxRecDepth 1000000 in
set_option maxHeartbeats 16000000 in
theorem js_a_X_fault : ∀ q ∈ jt_X_fault, js_ie kX_fault q := js_okm_ok (by decide +kernel) (by decide +kernel)
set_option maxRecDepth 1000000 in
set_option maxHeartbeats 16000000 in
theorem js_a_X_many : ∀ q ∈ jt_X_many, js_ie kX_many q := js_okm_ok (by decide +kernel) (by decide +kernel)
set_option maxRecDepth 1000000 in
set_option maxHeartbeats 16000000 in
theorem js_a_Tr_countInLanes : ∀ q ∈ jt_Tr_countInLanes, js_ie kTr_countInLanes q := js_okm_ok (by decide +kernel) (by decide +kernel)
set_option maxRecDepth 1000000 in
set_option maxHeartbeats 16000000 in
theorem js_a_Wy_countBarred : ∀ q ∈ jt_Wy_countBarred, js_ie kWy_countBarred q := js_okm_ok (by decide +kernel) (by decide +kernel)
set_option maxRecDepth 1000000 in
set_option maxHeartbeats 16000000 in
theorem js_a_Y_init_0 : ∀ q ∈ jt_Y_init_0, js_ie kY_init q := js_okm_ok (by decide +kernel) (by decide +kernel)
set_option maxRecDepth 1000000 in
set_option maxHeartbeats 16000000 in
theorem js_a_Y_init_1 : ∀ q ∈ jt_Y_init_1, js_ie kY_init q := js_okm_ok (by decide +kernel) (by decide +kernel)
set_option maxRecDepth 1000000 in
set_option maxHeartbeats 16000000 in
theorem js_a_Y_init_2 : ∀ q ∈ jt_Y_init_2, js_ie kY_init q := js_okm_ok (by decide +kernel) (by decide +kernel)
theorem js_a_Y_init : ∀ q ∈ jt_Y_init, js_ie kY_init q := fun q h => (List.mem_append.mp h).elim (fun h => js_a_Y_init_0 q h) (fun h => (List.mem_append.mp h).elim (fun h => js_a_Y_init_1 q h) (fun h => js_a_Y_init_2 q h))
