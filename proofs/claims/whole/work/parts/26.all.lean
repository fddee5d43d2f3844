/-! ===== all methods ===== -/
set_option maxRecDepth 1000000 in
set_option maxHeartbeats 16000000 in
theorem js_all_0 : ∀ k, 0 ≤ k → k < 16 → ∀ q ∈ jv_T k, js_ie k q := by
  intro k h1 h2
  rcases (show k = 0 ∨ k = 1 ∨ k = 2 ∨ k = 3 ∨ k = 4 ∨ k = 5 ∨ k = 6 ∨ k = 7 ∨ k = 8 ∨ k = 9 ∨ k = 10 ∨ k = 11 ∨ k = 12 ∨ k = 13 ∨ k = 14 ∨ k = 15 by omega) with rfl | rfl | rfl | rfl | rfl | rfl | rfl | rfl | rfl | rfl | rfl | rfl | rfl | rfl | rfl | rfl
  · exact js_a_X_init
  · exact js_a_Sh_init
  · exact js_a_Tx_init
  · exact js_a_N_init
  · exact js_a_Wy_init
  · exact js_a_Wa_init
  · exact js_a_Sl_init
  · exact js_a_Sa_init
  · exact js_a_Tr_init
  · exact js_a_M_init
  · exact js_a_B_init
  · exact js_a_X_net
  · exact js_a_Sh_isSheet
  · exact js_a_Sh_isSort
  · exact js_a_Sh_isOfAnother
  · exact js_a_Sh_hasRow
set_option maxRecDepth 1000000 in
set_option maxHeartbeats 16000000 in
theorem js_all_1 : ∀ k, 16 ≤ k → k < 32 → ∀ q ∈ jv_T k, js_ie k q := by
  intro k h1 h2
  rcases (show k = 16 ∨ k = 17 ∨ k = 18 ∨ k = 19 ∨ k = 20 ∨ k = 21 ∨ k = 22 ∨ k = 23 ∨ k = 24 ∨ k = 25 ∨ k = 26 ∨ k = 27 ∨ k = 28 ∨ k = 29 ∨ k = 30 ∨ k = 31 by omega) with rfl | rfl | rfl | rfl | rfl | rfl | rfl | rfl | rfl | rfl | rfl | rfl | rfl | rfl | rfl | rfl
  · exact js_a_X_fail
  · exact js_a_Sh_hasCells
  · exact js_a_Tx_firstFault
  · exact js_a_Tx_takes
  · exact js_a_Tx_goesOn
  · exact js_a_Tx_takesNodes
  · exact js_a_Tx_takesFrom
  · exact js_a_Tx_takesTo
  · exact js_a_Tx_opensLane
  · exact js_a_Tx_takesCells
  · exact js_a_N_build
  · exact js_a_N_measure
  · exact js_a_N_collect
  · exact js_a_Wy_unbarAll
  · exact js_a_Ar_fill
  · exact js_a_Wy_layAll
set_option maxRecDepth 1000000 in
set_option maxHeartbeats 16000000 in
theorem js_all_2 : ∀ k, 32 ≤ k → k < 48 → ∀ q ∈ jv_T k, js_ie k q := by
  intro k h1 h2
  rcases (show k = 32 ∨ k = 33 ∨ k = 34 ∨ k = 35 ∨ k = 36 ∨ k = 37 ∨ k = 38 ∨ k = 39 ∨ k = 40 ∨ k = 41 ∨ k = 42 ∨ k = 43 ∨ k = 44 ∨ k = 45 ∨ k = 46 ∨ k = 47 by omega) with rfl | rfl | rfl | rfl | rfl | rfl | rfl | rfl | rfl | rfl | rfl | rfl | rfl | rfl | rfl | rfl
  · exact js_a_Wy_ruled
  · exact js_a_Wy_layLane
  · exact js_a_Tr_clear
  · exact js_a_X_ofLane
  · exact js_a_N_isLane
  · exact js_a_Tr_standsIn
  · exact js_a_X_far
  · exact js_a_N_areNodes
  · exact js_a_N_isNode
  · exact js_a_X_rule
  · exact js_a_Wy_ruleBy
  · exact js_a_X_bar
  · exact js_a_Wy_isBarred
  · exact js_a_X_has
  · exact js_a_Wy_setBarred
  · exact js_a_X_may
set_option maxRecDepth 1000000 in
set_option maxHeartbeats 16000000 in
theorem js_all_3 : ∀ k, 48 ≤ k → k < 64 → ∀ q ∈ jv_T k, js_ie k q := by
  intro k h1 h2
  rcases (show k = 48 ∨ k = 49 ∨ k = 50 ∨ k = 51 ∨ k = 52 ∨ k = 53 ∨ k = 54 ∨ k = 55 ∨ k = 56 ∨ k = 57 ∨ k = 58 ∨ k = 59 ∨ k = 60 ∨ k = 61 ∨ k = 62 ∨ k = 63 by omega) with rfl | rfl | rfl | rfl | rfl | rfl | rfl | rfl | rfl | rfl | rfl | rfl | rfl | rfl | rfl | rfl
  · exact js_a_X_out
  · exact js_a_X_comes
  · exact js_a_Wa_howItComes
  · exact js_a_Wa_reach
  · exact js_a_Wa_endsWell
  · exact js_a_X_knot
  · exact js_a_X_carries
  · exact js_a_Wa_work
  · exact js_a_Wa_survey
  · exact js_a_Wa_findRing
  · exact js_a_Wa_measureRing
  · exact js_a_Wa_layRing
  · exact js_a_Wa_findRanks
  · exact js_a_X_waits
  · exact js_a_X_ring
  · exact js_a_X_rank
set_option maxRecDepth 1000000 in
set_option maxHeartbeats 16000000 in
theorem js_all_4 : ∀ k, 64 ≤ k → k < 80 → ∀ q ∈ jv_T k, js_ie k q := by
  intro k h1 h2
  rcases (show k = 64 ∨ k = 65 ∨ k = 66 ∨ k = 67 ∨ k = 68 ∨ k = 69 ∨ k = 70 ∨ k = 71 ∨ k = 72 ∨ k = 73 ∨ k = 74 ∨ k = 75 ∨ k = 76 ∨ k = 77 ∨ k = 78 ∨ k = 79 by omega) with rfl | rfl | rfl | rfl | rfl | rfl | rfl | rfl | rfl | rfl | rfl | rfl | rfl | rfl | rfl | rfl
  · exact js_a_X_still
  · exact js_a_Sl_work
  · exact js_a_Sl_findNeeds
  · exact js_a_Sl_findAll
  · exact js_a_Sl_canStand
  · exact js_a_Sl_findLeast
  · exact js_a_In_bitCount
  · exact js_a_Sl_stands
  · exact js_a_X_states
  · exact js_a_Sa_fit
  · exact js_a_Sa_work
  · exact js_a_Sa_prepare
  · exact js_a_Sa_reach
  · exact js_a_Sa_visitAll
  · exact js_a_Sa_visit
  · exact js_a_Sa_isDead
set_option maxRecDepth 1000000 in
set_option maxHeartbeats 16000000 in
theorem js_all_5 : ∀ k, 80 ≤ k → k < 96 → ∀ q ∈ jv_T k, js_ie k q := by
  intro k h1 h2
  rcases (show k = 80 ∨ k = 81 ∨ k = 82 ∨ k = 83 ∨ k = 84 ∨ k = 85 ∨ k = 86 ∨ k = 87 ∨ k = 88 ∨ k = 89 ∨ k = 90 ∨ k = 91 ∨ k = 92 ∨ k = 93 ∨ k = 94 ∨ k = 95 by omega) with rfl | rfl | rfl | rfl | rfl | rfl | rfl | rfl | rfl | rfl | rfl | rfl | rfl | rfl | rfl | rfl
  · exact js_a_Sa_setOut
  · exact js_a_Sa_goOn
  · exact js_a_X_send
  · exact js_a_X_isKind
  · exact js_a_Tr_choose
  · exact js_a_Tr_hasRoom
  · exact js_a_Tr_setOut
  · exact js_a_Ld_init
  · exact js_a_Tr_enter
  · exact js_a_X_ticks
  · exact js_a_Tr_tickOnce
  · exact js_a_Tr_moveFirsts
  · exact js_a_Tr_numbered
  · exact js_a_Tr_moves
  · exact js_a_X_ofLoad
  · exact js_a_X_frozen
set_option maxRecDepth 1000000 in
set_option maxHeartbeats 16000000 in
theorem js_all_6 : ∀ k, 96 ≤ k → k < 112 → ∀ q ∈ jv_T k, js_ie k q := by
  intro k h1 h2
  rcases (show k = 96 ∨ k = 97 ∨ k = 98 ∨ k = 99 ∨ k = 100 ∨ k = 101 ∨ k = 102 ∨ k = 103 ∨ k = 104 ∨ k = 105 ∨ k = 106 ∨ k = 107 ∨ k = 108 ∨ k = 109 ∨ k = 110 ∨ k = 111 by omega) with rfl | rfl | rfl | rfl | rfl | rfl | rfl | rfl | rfl | rfl | rfl | rfl | rfl | rfl | rfl | rfl
  · exact js_a_Tr_frozenSet
  · exact js_a_Tr_thaw
  · exact js_a_Tr_isHeld
  · exact js_a_In_lowestOneBit
  · exact js_a_X_mend
  · exact js_a_M_work
  · exact js_a_Wy_takeFrom
  · exact js_a_M_gather
  · exact js_a_M_isFound
  · exact js_a_M_setTried
  · exact js_a_Wa_isSound
  · exact js_a_X_bears
  · exact js_a_B_work
  · exact js_a_Ar_fillJ
  · exact js_a_B_pour
  · exact js_a_B_spread
set_option maxRecDepth 1000000 in
set_option maxHeartbeats 16000000 in
theorem js_all_7 : ∀ k, 112 ≤ k → k < 128 → ∀ q ∈ jv_T k, js_ie k q := by
  intro k h1 h2
  rcases (show k = 112 ∨ k = 113 ∨ k = 114 ∨ k = 115 ∨ k = 116 ∨ k = 117 ∨ k = 118 ∨ k = 119 ∨ k = 120 ∨ k = 121 ∨ k = 122 ∨ k = 123 ∨ k = 124 ∨ k = 125 ∨ k = 126 ∨ k = 127 by omega) with rfl | rfl | rfl | rfl | rfl | rfl | rfl | rfl | rfl | rfl | rfl | rfl | rfl | rfl | rfl | rfl
  · exact js_a_B_add
  · exact js_a_B_commonDivisor
  · exact js_a_B_ledToFrom
  · exact js_a_X_busiest
  · exact js_a_B_greatest
  · exact js_a_X_sheet
  · exact js_a_Sh_renew
  · exact js_a_X_lose
  · exact js_a_Sh_drop
  · exact js_a_X_put
  · exact js_a_Sh_hasCell
  · exact js_a_Sh_cut
  · exact js_a_X_cell
  · exact js_a_X_lost
  · exact js_a_X_copy
  · exact js_a_X_tell
set_option maxRecDepth 1000000 in
set_option maxHeartbeats 16000000 in
theorem js_all_8 : ∀ k, 128 ≤ k → k < 144 → ∀ q ∈ jv_T k, js_ie k q := by
  intro k h1 h2
  rcases (show k = 128 ∨ k = 129 ∨ k = 130 ∨ k = 131 ∨ k = 132 ∨ k = 133 ∨ k = 134 ∨ k = 135 ∨ k = 136 ∨ k = 137 ∨ k = 138 ∨ k = 139 ∨ k = 140 ∨ k = 141 ∨ k = 142 ∨ k = 143 by omega) with rfl | rfl | rfl | rfl | rfl | rfl | rfl | rfl | rfl | rfl | rfl | rfl | rfl | rfl | rfl | rfl
  · exact js_a_X_sealedTelling
  · exact js_a_X_leave
  · exact js_a_X_hastyTelling
  · exact js_a_X_plainTelling
  · exact js_a_X_stamp
  · exact js_a_X_ownStamp
  · exact js_a_X_lentStamp
  · exact js_a_X_as
  · exact js_a_X_trace
  · exact js_a_X_fault
  · exact js_a_X_many
  · exact js_a_Tr_countInLanes
  · exact js_a_Wy_countBarred
  · exact js_a_Y_init
  · exact js_a_Y_net
  · exact js_a_Y_isSheet
set_option maxRecDepth 1000000 in
set_option maxHeartbeats 16000000 in
theorem js_all_9 : ∀ k, 144 ≤ k → k < 160 → ∀ q ∈ jv_T k, js_ie k q := by
  intro k h1 h2
  rcases (show k = 144 ∨ k = 145 ∨ k = 146 ∨ k = 147 ∨ k = 148 ∨ k = 149 ∨ k = 150 ∨ k = 151 ∨ k = 152 ∨ k = 153 ∨ k = 154 ∨ k = 155 ∨ k = 156 ∨ k = 157 ∨ k = 158 ∨ k = 159 by omega) with rfl | rfl | rfl | rfl | rfl | rfl | rfl | rfl | rfl | rfl | rfl | rfl | rfl | rfl | rfl | rfl
  · exact js_a_Y_within
  · exact js_a_Y_isSort
  · exact js_a_Y_fails
  · exact js_a_Y_readNet
  · exact js_a_Y_digitAt
  · exact js_a_Y_layFar
  · exact js_a_Y_ofLane
  · exact js_a_Y_isLane
  · exact js_a_Y_far
  · exact js_a_Y_isNode
  · exact js_a_Y_rule
  · exact js_a_Y_bar
  · exact js_a_Y_may
  · exact js_a_Y_takes
  · exact js_a_Y_has
  · exact js_a_Y_out
set_option maxRecDepth 1000000 in
set_option maxHeartbeats 16000000 in
theorem js_all_10 : ∀ k, 160 ≤ k → k < 176 → ∀ q ∈ jv_T k, js_ie k q := by
  intro k h1 h2
  rcases (show k = 160 ∨ k = 161 ∨ k = 162 ∨ k = 163 ∨ k = 164 ∨ k = 165 ∨ k = 166 ∨ k = 167 ∨ k = 168 ∨ k = 169 ∨ k = 170 ∨ k = 171 ∨ k = 172 ∨ k = 173 ∨ k = 174 ∨ k = 175 by omega) with rfl | rfl | rfl | rfl | rfl | rfl | rfl | rfl | rfl | rfl | rfl | rfl | rfl | rfl | rfl | rfl
  · exact js_a_Y_comes
  · exact js_a_Y_comesBy
  · exact js_a_Y_comesInto
  · exact js_a_Y_goesRound
  · exact js_a_Y_carries
  · exact js_a_Y_layCarried
  · exact js_a_Y_waits
  · exact js_a_Y_layWaiting
  · exact js_a_Y_ring
  · exact js_a_Y_hasRing
  · exact js_a_Y_findRing
  · exact js_a_Y_isAhead
  · exact js_a_Y_rank
  · exact js_a_Y_still
  · exact js_a_Y_allStill
  · exact js_a_Y_standsStill
set_option maxRecDepth 1000000 in
set_option maxHeartbeats 16000000 in
theorem js_all_11 : ∀ k, 176 ≤ k → k < 192 → ∀ q ∈ jv_T k, js_ie k q := by
  intro k h1 h2
  rcases (show k = 176 ∨ k = 177 ∨ k = 178 ∨ k = 179 ∨ k = 180 ∨ k = 181 ∨ k = 182 ∨ k = 183 ∨ k = 184 ∨ k = 185 ∨ k = 186 ∨ k = 187 ∨ k = 188 ∨ k = 189 ∨ k = 190 ∨ k = 191 by omega) with rfl | rfl | rfl | rfl | rfl | rfl | rfl | rfl | rfl | rfl | rfl | rfl | rfl | rfl | rfl | rfl
  · exact js_a_Y_bitsOf
  · exact js_a_Y_isStill
  · exact js_a_Y_states
  · exact js_a_Y_isSmall
  · exact js_a_Y_enter
  · exact js_a_Y_stepFrom
  · exact js_a_Y_layContent
  · exact js_a_Y_goOn
  · exact js_a_Y_fives
  · exact js_a_Y_isDead
  · exact js_a_Y_send
  · exact js_a_Y_laneFor
  · exact js_a_Y_comesIn
  · exact js_a_Y_ticks
  · exact js_a_Y_pass
  · exact js_a_Y_goFrom
set_option maxRecDepth 1000000 in
set_option maxHeartbeats 16000000 in
theorem js_all_12 : ∀ k, 192 ≤ k → k < 208 → ∀ q ∈ jv_T k, js_ie k q := by
  intro k h1 h2
  rcases (show k = 192 ∨ k = 193 ∨ k = 194 ∨ k = 195 ∨ k = 196 ∨ k = 197 ∨ k = 198 ∨ k = 199 ∨ k = 200 ∨ k = 201 ∨ k = 202 ∨ k = 203 ∨ k = 204 ∨ k = 205 ∨ k = 206 ∨ k = 207 by omega) with rfl | rfl | rfl | rfl | rfl | rfl | rfl | rfl | rfl | rfl | rfl | rfl | rfl | rfl | rfl | rfl
  · exact js_a_Y_leaves
  · exact js_a_Y_ofLoad
  · exact js_a_Y_isLoad
  · exact js_a_Y_frozen
  · exact js_a_Y_isHeld
  · exact js_a_Y_mend
  · exact js_a_Y_findMends
  · exact js_a_Y_isMended
  · exact js_a_Y_allCome
  · exact js_a_Y_layTurns
  · exact js_a_Y_barTurn
  · exact js_a_Y_bears
  · exact js_a_Y_layBears
  · exact js_a_Y_clear
  · exact js_a_Y_part
  · exact js_a_Y_add
set_option maxRecDepth 1000000 in
set_option maxHeartbeats 16000000 in
theorem js_all_13 : ∀ k, 208 ≤ k → k < 224 → ∀ q ∈ jv_T k, js_ie k q := by
  intro k h1 h2
  rcases (show k = 208 ∨ k = 209 ∨ k = 210 ∨ k = 211 ∨ k = 212 ∨ k = 213 ∨ k = 214 ∨ k = 215 ∨ k = 216 ∨ k = 217 ∨ k = 218 ∨ k = 219 ∨ k = 220 ∨ k = 221 ∨ k = 222 ∨ k = 223 by omega) with rfl | rfl | rfl | rfl | rfl | rfl | rfl | rfl | rfl | rfl | rfl | rfl | rfl | rfl | rfl | rfl
  · exact js_a_Y_common
  · exact js_a_Y_takeNext
  · exact js_a_Y_busiest
  · exact js_a_Y_sheet
  · exact js_a_Y_lose
  · exact js_a_Y_put
  · exact js_a_Y_cell
  · exact js_a_Y_lost
  · exact js_a_Y_copy
  · exact js_a_Y_tell
  · exact js_a_Y_begins
  · exact js_a_Y_stamp
  · exact js_a_Y_as
  · exact js_a_Y_trace
  · exact js_a_Y_fault
  · exact js_a_Y_many
set_option maxRecDepth 1000000 in
set_option maxHeartbeats 16000000 in
theorem js_all_14 : ∀ k, 224 ≤ k → k < 225 → ∀ q ∈ jv_T k, js_ie k q := by
  intro k h1 h2
  rcases (show k = 224 by omega) with rfl
  · exact js_a_Law_law
theorem js_all : js_All := by
  intro k hk _
  by_cases h0 : k < 16
  · exact js_all_0 k (by omega) h0
  by_cases h1 : k < 32
  · exact js_all_1 k (by omega) h1
  by_cases h2 : k < 48
  · exact js_all_2 k (by omega) h2
  by_cases h3 : k < 64
  · exact js_all_3 k (by omega) h3
  by_cases h4 : k < 80
  · exact js_all_4 k (by omega) h4
  by_cases h5 : k < 96
  · exact js_all_5 k (by omega) h5
  by_cases h6 : k < 112
  · exact js_all_6 k (by omega) h6
  by_cases h7 : k < 128
  · exact js_all_7 k (by omega) h7
  by_cases h8 : k < 144
  · exact js_all_8 k (by omega) h8
  by_cases h9 : k < 160
  · exact js_all_9 k (by omega) h9
  by_cases h10 : k < 176
  · exact js_all_10 k (by omega) h10
  by_cases h11 : k < 192
  · exact js_all_11 k (by omega) h11
  by_cases h12 : k < 208
  · exact js_all_12 k (by omega) h12
  by_cases h13 : k < 224
  · exact js_all_13 k (by omega) h13
  exact js_all_14 k (by omega) (by omega)
