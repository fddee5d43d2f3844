/-! ===== what each method is (written by a program) ===== -/
def jm_on : List String := ["LaneWaits$Bears", "LaneWaits$Load", "LaneWaits$Mends", "LaneWaits$Net", "LaneWaits$Sheets", "LaneWaits$States", "LaneWaits$Stills", "LaneWaits$Text", "LaneWaits$Traffic", "LaneWaits$Waits", "LaneWaits$Ways", "LaneWaits", "LaneWaitsModel", "LaneWaitsLaw", "java/lang/Integer", "java/lang/Math", "java/util/Arrays", "java/lang/Object"]
def jm_L : List (Nat × MethodName × ByteArray × Option FieldType × Nat × Nat) := [(11, ⟨"LaneWaits", "<init>", "()V"⟩, prog_1_method_1_code, none, 3, 75),
  (4, ⟨"LaneWaits$Sheets", "<init>", "()V"⟩, prog_6_method_1_code, none, 1, 30),
  (7, ⟨"LaneWaits$Text", "<init>", "()V"⟩, prog_9_method_1_code, none, 1, 30),
  (3, ⟨"LaneWaits$Net", "<init>", "()V"⟩, prog_5_method_1_code, none, 1, 30),
  (10, ⟨"LaneWaits$Ways", "<init>", "(LLaneWaits$Net;)V"⟩, prog_12_method_1_code, none, 1, 30),
  (9, ⟨"LaneWaits$Waits", "<init>", "(LLaneWaits$Net;LLaneWaits$Ways;)V"⟩, prog_11_method_1_code, none, 1, 30),
  (6, ⟨"LaneWaits$Stills", "<init>", "(LLaneWaits$Net;LLaneWaits$Ways;LLaneWaits$Waits;)V"⟩, prog_8_method_1_code, none, 1, 30),
  (5, ⟨"LaneWaits$States", "<init>", "(LLaneWaits$Net;LLaneWaits$Ways;)V"⟩, prog_7_method_1_code, none, 1, 30),
  (8, ⟨"LaneWaits$Traffic", "<init>", "(LLaneWaits$Net;LLaneWaits$Ways;)V"⟩, prog_10_method_1_code, none, 1, 30),
  (2, ⟨"LaneWaits$Mends", "<init>", "(LLaneWaits$Net;LLaneWaits$Ways;LLaneWaits$Waits;)V"⟩, prog_4_method_1_code, none, 2, 52),
  (0, ⟨"LaneWaits$Bears", "<init>", "(LLaneWaits$Net;LLaneWaits$Ways;LLaneWaits$Waits;)V"⟩, prog_2_method_1_code, none, 1, 30),
  (11, ⟨"LaneWaits", "net", "(IIII)I"⟩, prog_1_method_2_code, (some FieldType.int), 4, 88),
  (4, ⟨"LaneWaits$Sheets", "isSheet", "(I)Z"⟩, prog_6_method_2_code, (some FieldType.boolean), 0, 0),
  (4, ⟨"LaneWaits$Sheets", "isSort", "(I)Z"⟩, prog_6_method_3_code, (some FieldType.boolean), 0, 0),
  (4, ⟨"LaneWaits$Sheets", "isOfAnother", "(II)Z"⟩, prog_6_method_5_code, (some FieldType.boolean), 1, 21),
  (4, ⟨"LaneWaits$Sheets", "hasRow", "(I)Z"⟩, prog_6_method_4_code, (some FieldType.boolean), 0, 0),
  (11, ⟨"LaneWaits", "fail", "(I)I"⟩, prog_1_method_34_code, (some FieldType.int), 0, 0),
  (4, ⟨"LaneWaits$Sheets", "hasCells", "(III)Z"⟩, prog_6_method_7_code, (some FieldType.boolean), 0, 0),
  (7, ⟨"LaneWaits$Text", "firstFault", "([III)I"⟩, prog_9_method_2_code, (some FieldType.int), 3, 64),
  (7, ⟨"LaneWaits$Text", "takes", "(I)Z"⟩, prog_9_method_3_code, (some FieldType.boolean), 2, 43),
  (7, ⟨"LaneWaits$Text", "goesOn", "(ZI)Z"⟩, prog_9_method_4_code, (some FieldType.boolean), 0, 0),
  (7, ⟨"LaneWaits$Text", "takesNodes", "(I)Z"⟩, prog_9_method_6_code, (some FieldType.boolean), 1, 22),
  (7, ⟨"LaneWaits$Text", "takesFrom", "(I)Z"⟩, prog_9_method_7_code, (some FieldType.boolean), 1, 22),
  (7, ⟨"LaneWaits$Text", "takesTo", "(I)Z"⟩, prog_9_method_8_code, (some FieldType.boolean), 1, 22),
  (7, ⟨"LaneWaits$Text", "opensLane", "(I)Z"⟩, prog_9_method_5_code, (some FieldType.boolean), 1, 22),
  (7, ⟨"LaneWaits$Text", "takesCells", "(I)Z"⟩, prog_9_method_9_code, (some FieldType.boolean), 1, 22),
  (3, ⟨"LaneWaits$Net", "build", "(LLaneWaits$Text;)V"⟩, prog_5_method_5_code, none, 1, 60),
  (3, ⟨"LaneWaits$Net", "measure", "(I)V"⟩, prog_5_method_6_code, none, 0, 0),
  (3, ⟨"LaneWaits$Net", "collect", "(I)V"⟩, prog_5_method_7_code, none, 0, 0),
  (10, ⟨"LaneWaits$Ways", "unbarAll", "()V"⟩, prog_12_method_3_code, none, 3, 68),
  (16, ⟨"java/util/Arrays", "fill", "([II)V"⟩, prog_18_method_103_code, none, 0, 0),
  (10, ⟨"LaneWaits$Ways", "layAll", "()V"⟩, prog_12_method_8_code, none, 2, 46),
  (10, ⟨"LaneWaits$Ways", "ruled", "(III)I"⟩, prog_12_method_10_code, (some FieldType.int), 0, 0),
  (10, ⟨"LaneWaits$Ways", "layLane", "(I)V"⟩, prog_12_method_9_code, none, 1, 24),
  (8, ⟨"LaneWaits$Traffic", "clear", "()V"⟩, prog_10_method_2_code, none, 1, 23),
  (11, ⟨"LaneWaits", "ofLane", "(II)I"⟩, prog_1_method_3_code, (some FieldType.int), 1, 22),
  (3, ⟨"LaneWaits$Net", "isLane", "(I)Z"⟩, prog_5_method_4_code, (some FieldType.boolean), 0, 0),
  (8, ⟨"LaneWaits$Traffic", "standsIn", "(II)I"⟩, prog_10_method_4_code, (some FieldType.int), 0, 0),
  (11, ⟨"LaneWaits", "far", "(II)I"⟩, prog_1_method_4_code, (some FieldType.int), 2, 43),
  (3, ⟨"LaneWaits$Net", "areNodes", "(II)Z"⟩, prog_5_method_3_code, (some FieldType.boolean), 1, 21),
  (3, ⟨"LaneWaits$Net", "isNode", "(I)Z"⟩, prog_5_method_2_code, (some FieldType.boolean), 0, 0),
  (11, ⟨"LaneWaits", "rule", "(I)I"⟩, prog_1_method_5_code, (some FieldType.int), 4, 89),
  (10, ⟨"LaneWaits$Ways", "ruleBy", "(I)V"⟩, prog_12_method_2_code, none, 3, 68),
  (11, ⟨"LaneWaits", "bar", "(III)I"⟩, prog_1_method_6_code, (some FieldType.int), 3, 69),
  (10, ⟨"LaneWaits$Ways", "isBarred", "(II)Z"⟩, prog_12_method_5_code, (some FieldType.boolean), 1, 21),
  (11, ⟨"LaneWaits", "has", "(II)Z"⟩, prog_1_method_43_code, (some FieldType.boolean), 0, 0),
  (10, ⟨"LaneWaits$Ways", "setBarred", "(IIZ)V"⟩, prog_12_method_6_code, none, 2, 46),
  (11, ⟨"LaneWaits", "may", "(II)I"⟩, prog_1_method_7_code, (some FieldType.int), 1, 21),
  (11, ⟨"LaneWaits", "out", "(II)I"⟩, prog_1_method_8_code, (some FieldType.int), 2, 43),
  (11, ⟨"LaneWaits", "comes", "(II)I"⟩, prog_1_method_9_code, (some FieldType.int), 3, 72),
  (9, ⟨"LaneWaits$Waits", "howItComes", "(II)I"⟩, prog_11_method_5_code, (some FieldType.int), 2, 49),
  (9, ⟨"LaneWaits$Waits", "reach", "(II)I"⟩, prog_11_method_6_code, (some FieldType.int), 1, 21),
  (9, ⟨"LaneWaits$Waits", "endsWell", "(II)Z"⟩, prog_11_method_7_code, (some FieldType.boolean), 1, 26),
  (11, ⟨"LaneWaits", "knot", "([III)I"⟩, prog_1_method_44_code, (some FieldType.int), 0, 0),
  (11, ⟨"LaneWaits", "carries", "(I)I"⟩, prog_1_method_10_code, (some FieldType.int), 4, 95),
  (9, ⟨"LaneWaits$Waits", "work", "()V"⟩, prog_11_method_2_code, none, 3, 74),
  (9, ⟨"LaneWaits$Waits", "survey", "(I)Z"⟩, prog_11_method_4_code, (some FieldType.boolean), 2, 49),
  (9, ⟨"LaneWaits$Waits", "findRing", "()V"⟩, prog_11_method_8_code, none, 2, 49),
  (9, ⟨"LaneWaits$Waits", "measureRing", "(I)I"⟩, prog_11_method_9_code, (some FieldType.int), 1, 23),
  (9, ⟨"LaneWaits$Waits", "layRing", "(I)V"⟩, prog_11_method_10_code, none, 1, 21),
  (9, ⟨"LaneWaits$Waits", "findRanks", "()V"⟩, prog_11_method_11_code, none, 1, 30),
  (11, ⟨"LaneWaits", "waits", "(I)I"⟩, prog_1_method_11_code, (some FieldType.int), 4, 95),
  (11, ⟨"LaneWaits", "ring", "(I)I"⟩, prog_1_method_12_code, (some FieldType.int), 4, 95),
  (11, ⟨"LaneWaits", "rank", "(I)I"⟩, prog_1_method_13_code, (some FieldType.int), 4, 95),
  (11, ⟨"LaneWaits", "still", "(I)I"⟩, prog_1_method_14_code, (some FieldType.int), 5, 116),
  (6, ⟨"LaneWaits$Stills", "work", "()V"⟩, prog_8_method_2_code, none, 4, 95),
  (6, ⟨"LaneWaits$Stills", "findNeeds", "(I)V"⟩, prog_8_method_3_code, none, 1, 21),
  (6, ⟨"LaneWaits$Stills", "findAll", "()V"⟩, prog_8_method_5_code, none, 1, 23),
  (6, ⟨"LaneWaits$Stills", "canStand", "(II)Z"⟩, prog_8_method_4_code, (some FieldType.boolean), 0, 0),
  (6, ⟨"LaneWaits$Stills", "findLeast", "()V"⟩, prog_8_method_6_code, none, 2, 45),
  (14, ⟨"java/lang/Integer", "bitCount", "(I)I"⟩, prog_15_method_49_code, (some FieldType.int), 0, 0),
  (6, ⟨"LaneWaits$Stills", "stands", "(I)Z"⟩, prog_8_method_7_code, (some FieldType.boolean), 1, 23),
  (11, ⟨"LaneWaits", "states", "(I)I"⟩, prog_1_method_15_code, (some FieldType.int), 5, 118),
  (5, ⟨"LaneWaits$States", "fit", "()Z"⟩, prog_7_method_2_code, (some FieldType.boolean), 0, 0),
  (5, ⟨"LaneWaits$States", "work", "()V"⟩, prog_7_method_3_code, none, 4, 97),
  (5, ⟨"LaneWaits$States", "prepare", "()V"⟩, prog_7_method_4_code, none, 1, 23),
  (5, ⟨"LaneWaits$States", "reach", "(I)V"⟩, prog_7_method_5_code, none, 0, 0),
  (5, ⟨"LaneWaits$States", "visitAll", "(I)V"⟩, prog_7_method_6_code, none, 3, 74),
  (5, ⟨"LaneWaits$States", "visit", "(II)V"⟩, prog_7_method_7_code, none, 2, 49),
  (5, ⟨"LaneWaits$States", "isDead", "()Z"⟩, prog_7_method_8_code, (some FieldType.boolean), 1, 21),
  (5, ⟨"LaneWaits$States", "setOut", "(II)V"⟩, prog_7_method_9_code, none, 1, 23),
  (5, ⟨"LaneWaits$States", "goOn", "(III)V"⟩, prog_7_method_10_code, none, 1, 23),
  (11, ⟨"LaneWaits", "send", "(III)I"⟩, prog_1_method_16_code, (some FieldType.int), 3, 79),
  (11, ⟨"LaneWaits", "isKind", "(I)Z"⟩, prog_1_method_42_code, (some FieldType.boolean), 0, 0),
  (8, ⟨"LaneWaits$Traffic", "choose", "(II)I"⟩, prog_10_method_7_code, (some FieldType.int), 1, 21),
  (8, ⟨"LaneWaits$Traffic", "hasRoom", "(I)Z"⟩, prog_10_method_6_code, (some FieldType.boolean), 0, 0),
  (8, ⟨"LaneWaits$Traffic", "setOut", "(IIII)I"⟩, prog_10_method_8_code, (some FieldType.int), 2, 54),
  (1, ⟨"LaneWaits$Load", "<init>", "(IIII)V"⟩, prog_3_method_1_code, none, 1, 30),
  (8, ⟨"LaneWaits$Traffic", "enter", "(LLaneWaits$Load;I)V"⟩, prog_10_method_9_code, none, 0, 0),
  (11, ⟨"LaneWaits", "ticks", "(I)I"⟩, prog_1_method_17_code, (some FieldType.int), 5, 116),
  (8, ⟨"LaneWaits$Traffic", "tickOnce", "()I"⟩, prog_10_method_10_code, (some FieldType.int), 4, 95),
  (8, ⟨"LaneWaits$Traffic", "moveFirsts", "(ZI)I"⟩, prog_10_method_11_code, (some FieldType.int), 3, 69),
  (8, ⟨"LaneWaits$Traffic", "numbered", "(I)LLaneWaits$Load;"⟩, prog_10_method_3_code, (some (FieldType.object "LaneWaits$Load")), 0, 0),
  (8, ⟨"LaneWaits$Traffic", "moves", "(LLaneWaits$Load;)Z"⟩, prog_10_method_12_code, (some FieldType.boolean), 2, 44),
  (11, ⟨"LaneWaits", "ofLoad", "(II)I"⟩, prog_1_method_18_code, (some FieldType.int), 1, 21),
  (11, ⟨"LaneWaits", "frozen", "()I"⟩, prog_1_method_19_code, (some FieldType.int), 4, 94),
  (8, ⟨"LaneWaits$Traffic", "frozenSet", "()I"⟩, prog_10_method_13_code, (some FieldType.int), 3, 70),
  (8, ⟨"LaneWaits$Traffic", "thaw", "(II)I"⟩, prog_10_method_14_code, (some FieldType.int), 2, 45),
  (8, ⟨"LaneWaits$Traffic", "isHeld", "(LLaneWaits$Load;I)Z"⟩, prog_10_method_15_code, (some FieldType.boolean), 1, 21),
  (14, ⟨"java/lang/Integer", "lowestOneBit", "(I)I"⟩, prog_15_method_46_code, (some FieldType.int), 0, 0),
  (11, ⟨"LaneWaits", "mend", "(I)I"⟩, prog_1_method_20_code, (some FieldType.int), 6, 142),
  (2, ⟨"LaneWaits$Mends", "work", "()V"⟩, prog_4_method_2_code, none, 5, 120),
  (10, ⟨"LaneWaits$Ways", "takeFrom", "(LLaneWaits$Ways;)V"⟩, prog_12_method_4_code, none, 4, 89),
  (2, ⟨"LaneWaits$Mends", "gather", "()I"⟩, prog_4_method_3_code, (some FieldType.int), 1, 21),
  (2, ⟨"LaneWaits$Mends", "isFound", "(II)Z"⟩, prog_4_method_4_code, (some FieldType.boolean), 4, 95),
  (2, ⟨"LaneWaits$Mends", "setTried", "(IZ)V"⟩, prog_4_method_5_code, none, 3, 69),
  (9, ⟨"LaneWaits$Waits", "isSound", "()Z"⟩, prog_11_method_3_code, (some FieldType.boolean), 3, 74),
  (11, ⟨"LaneWaits", "bears", "(II)J"⟩, prog_1_method_21_code, (some FieldType.long), 6, 168),
  (0, ⟨"LaneWaits$Bears", "work", "()V"⟩, prog_2_method_2_code, none, 5, 146),
  (16, ⟨"java/util/Arrays", "fill", "([JJ)V"⟩, prog_18_method_101_code, none, 0, 0),
  (0, ⟨"LaneWaits$Bears", "pour", "(I)V"⟩, prog_2_method_3_code, none, 4, 121),
  (0, ⟨"LaneWaits$Bears", "spread", "(IJJ)V"⟩, prog_2_method_5_code, none, 3, 94),
  (0, ⟨"LaneWaits$Bears", "add", "([J[JIJJ)V"⟩, prog_2_method_6_code, none, 2, 60),
  (0, ⟨"LaneWaits$Bears", "commonDivisor", "(JJ)J"⟩, prog_2_method_7_code, (some FieldType.long), 1, 30),
  (0, ⟨"LaneWaits$Bears", "ledToFrom", "(II)I"⟩, prog_2_method_4_code, (some FieldType.int), 1, 21),
  (11, ⟨"LaneWaits", "busiest", "()I"⟩, prog_1_method_22_code, (some FieldType.int), 6, 168),
  (0, ⟨"LaneWaits$Bears", "greatest", "()I"⟩, prog_2_method_8_code, (some FieldType.int), 2, 60),
  (11, ⟨"LaneWaits", "sheet", "(III)I"⟩, prog_1_method_23_code, (some FieldType.int), 2, 46),
  (4, ⟨"LaneWaits$Sheets", "renew", "(III)V"⟩, prog_6_method_8_code, none, 1, 23),
  (11, ⟨"LaneWaits", "lose", "(I)I"⟩, prog_1_method_24_code, (some FieldType.int), 2, 43),
  (4, ⟨"LaneWaits$Sheets", "drop", "(I)Z"⟩, prog_6_method_9_code, (some FieldType.boolean), 1, 21),
  (11, ⟨"LaneWaits", "put", "(III)I"⟩, prog_1_method_25_code, (some FieldType.int), 1, 22),
  (4, ⟨"LaneWaits$Sheets", "hasCell", "(II)Z"⟩, prog_6_method_6_code, (some FieldType.boolean), 0, 0),
  (4, ⟨"LaneWaits$Sheets", "cut", "(II)I"⟩, prog_6_method_10_code, (some FieldType.int), 0, 0),
  (11, ⟨"LaneWaits", "cell", "(III)J"⟩, prog_1_method_26_code, (some FieldType.long), 2, 43),
  (11, ⟨"LaneWaits", "lost", "(I)J"⟩, prog_1_method_35_code, (some FieldType.long), 0, 0),
  (11, ⟨"LaneWaits", "copy", "(IIIII)I"⟩, prog_1_method_27_code, (some FieldType.int), 1, 60),
  (11, ⟨"LaneWaits", "tell", "(I)I"⟩, prog_1_method_28_code, (some FieldType.int), 4, 85),
  (11, ⟨"LaneWaits", "sealedTelling", "(LLaneWaits$Load;)I"⟩, prog_1_method_39_code, (some FieldType.int), 3, 63),
  (11, ⟨"LaneWaits", "leave", "(I)V"⟩, prog_1_method_36_code, none, 0, 0),
  (11, ⟨"LaneWaits", "hastyTelling", "(LLaneWaits$Load;)I"⟩, prog_1_method_38_code, (some FieldType.int), 2, 42),
  (11, ⟨"LaneWaits", "plainTelling", "(LLaneWaits$Load;)I"⟩, prog_1_method_37_code, (some FieldType.int), 1, 21),
  (11, ⟨"LaneWaits", "stamp", "(I)I"⟩, prog_1_method_29_code, (some FieldType.int), 2, 42),
  (11, ⟨"LaneWaits", "ownStamp", "()I"⟩, prog_1_method_41_code, (some FieldType.int), 1, 21),
  (11, ⟨"LaneWaits", "lentStamp", "(LLaneWaits$Load;)I"⟩, prog_1_method_40_code, (some FieldType.int), 1, 21),
  (11, ⟨"LaneWaits", "as", "(II)I"⟩, prog_1_method_30_code, (some FieldType.int), 1, 21),
  (11, ⟨"LaneWaits", "trace", "()I"⟩, prog_1_method_31_code, (some FieldType.int), 0, 0),
  (11, ⟨"LaneWaits", "fault", "()I"⟩, prog_1_method_32_code, (some FieldType.int), 0, 0),
  (11, ⟨"LaneWaits", "many", "(I)I"⟩, prog_1_method_33_code, (some FieldType.int), 2, 42),
  (8, ⟨"LaneWaits$Traffic", "countInLanes", "()I"⟩, prog_10_method_5_code, (some FieldType.int), 0, 0),
  (10, ⟨"LaneWaits$Ways", "countBarred", "()I"⟩, prog_12_method_7_code, (some FieldType.int), 1, 20),
  (12, ⟨"LaneWaitsModel", "<init>", "()V"⟩, prog_14_method_1_code, none, 1, 30),
  (12, ⟨"LaneWaitsModel", "net", "(IIII)I"⟩, prog_14_method_13_code, (some FieldType.int), 3, 71),
  (12, ⟨"LaneWaitsModel", "isSheet", "(I)Z"⟩, prog_14_method_9_code, (some FieldType.boolean), 1, 22),
  (12, ⟨"LaneWaitsModel", "within", "(III)Z"⟩, prog_14_method_5_code, (some FieldType.boolean), 0, 0),
  (12, ⟨"LaneWaitsModel", "isSort", "(I)Z"⟩, prog_14_method_10_code, (some FieldType.boolean), 1, 22),
  (12, ⟨"LaneWaitsModel", "fails", "(I)I"⟩, prog_14_method_3_code, (some FieldType.int), 0, 0),
  (12, ⟨"LaneWaitsModel", "readNet", "(II)I"⟩, prog_14_method_15_code, (some FieldType.int), 2, 44),
  (12, ⟨"LaneWaitsModel", "digitAt", "(II)I"⟩, prog_14_method_14_code, (some FieldType.int), 1, 22),
  (12, ⟨"LaneWaitsModel", "layFar", "()V"⟩, prog_14_method_16_code, none, 0, 0),
  (12, ⟨"LaneWaitsModel", "ofLane", "(II)I"⟩, prog_14_method_17_code, (some FieldType.int), 1, 22),
  (12, ⟨"LaneWaitsModel", "isLane", "(I)Z"⟩, prog_14_method_12_code, (some FieldType.boolean), 0, 0),
  (12, ⟨"LaneWaitsModel", "far", "(II)I"⟩, prog_14_method_18_code, (some FieldType.int), 1, 21),
  (12, ⟨"LaneWaitsModel", "isNode", "(I)Z"⟩, prog_14_method_11_code, (some FieldType.boolean), 0, 0),
  (12, ⟨"LaneWaitsModel", "rule", "(I)I"⟩, prog_14_method_19_code, (some FieldType.int), 1, 22),
  (12, ⟨"LaneWaitsModel", "bar", "(III)I"⟩, prog_14_method_20_code, (some FieldType.int), 1, 22),
  (12, ⟨"LaneWaitsModel", "may", "(II)I"⟩, prog_14_method_22_code, (some FieldType.int), 2, 47),
  (12, ⟨"LaneWaitsModel", "takes", "(II)I"⟩, prog_14_method_21_code, (some FieldType.int), 1, 21),
  (12, ⟨"LaneWaitsModel", "has", "(II)Z"⟩, prog_14_method_6_code, (some FieldType.boolean), 0, 0),
  (12, ⟨"LaneWaitsModel", "out", "(II)I"⟩, prog_14_method_23_code, (some FieldType.int), 2, 47),
  (12, ⟨"LaneWaitsModel", "comes", "(II)I"⟩, prog_14_method_27_code, (some FieldType.int), 4, 98),
  (12, ⟨"LaneWaitsModel", "comesBy", "(II)I"⟩, prog_14_method_26_code, (some FieldType.int), 3, 72),
  (12, ⟨"LaneWaitsModel", "comesInto", "(II)I"⟩, prog_14_method_24_code, (some FieldType.int), 2, 47),
  (12, ⟨"LaneWaitsModel", "goesRound", "(II)Z"⟩, prog_14_method_25_code, (some FieldType.boolean), 2, 47),
  (12, ⟨"LaneWaitsModel", "carries", "(I)I"⟩, prog_14_method_31_code, (some FieldType.int), 4, 96),
  (12, ⟨"LaneWaitsModel", "layCarried", "()V"⟩, prog_14_method_29_code, none, 3, 72),
  (12, ⟨"LaneWaitsModel", "waits", "(I)I"⟩, prog_14_method_32_code, (some FieldType.int), 5, 118),
  (12, ⟨"LaneWaitsModel", "layWaiting", "()V"⟩, prog_14_method_30_code, none, 4, 96),
  (12, ⟨"LaneWaitsModel", "ring", "(I)I"⟩, prog_14_method_36_code, (some FieldType.int), 6, 141),
  (12, ⟨"LaneWaitsModel", "hasRing", "()Z"⟩, prog_14_method_35_code, (some FieldType.boolean), 5, 118),
  (12, ⟨"LaneWaitsModel", "findRing", "(I)Z"⟩, prog_14_method_34_code, (some FieldType.boolean), 1, 23),
  (12, ⟨"LaneWaitsModel", "isAhead", "(II)Z"⟩, prog_14_method_33_code, (some FieldType.boolean), 0, 0),
  (12, ⟨"LaneWaitsModel", "rank", "(I)I"⟩, prog_14_method_37_code, (some FieldType.int), 6, 141),
  (12, ⟨"LaneWaitsModel", "still", "(I)I"⟩, prog_14_method_41_code, (some FieldType.int), 4, 96),
  (12, ⟨"LaneWaitsModel", "allStill", "()I"⟩, prog_14_method_40_code, (some FieldType.int), 3, 70),
  (12, ⟨"LaneWaitsModel", "standsStill", "(II)Z"⟩, prog_14_method_38_code, (some FieldType.boolean), 2, 47),
  (12, ⟨"LaneWaitsModel", "bitsOf", "(I)I"⟩, prog_14_method_7_code, (some FieldType.int), 0, 0),
  (12, ⟨"LaneWaitsModel", "isStill", "(I)Z"⟩, prog_14_method_39_code, (some FieldType.boolean), 3, 70),
  (12, ⟨"LaneWaitsModel", "states", "(I)I"⟩, prog_14_method_49_code, (some FieldType.int), 3, 72),
  (12, ⟨"LaneWaitsModel", "isSmall", "()Z"⟩, prog_14_method_48_code, (some FieldType.boolean), 0, 0),
  (12, ⟨"LaneWaitsModel", "enter", "(II)V"⟩, prog_14_method_42_code, none, 0, 0),
  (12, ⟨"LaneWaitsModel", "stepFrom", "(I)V"⟩, prog_14_method_46_code, none, 2, 47),
  (12, ⟨"LaneWaitsModel", "layContent", "(I)V"⟩, prog_14_method_44_code, none, 0, 0),
  (12, ⟨"LaneWaitsModel", "goOn", "(IIII)V"⟩, prog_14_method_45_code, none, 1, 22),
  (12, ⟨"LaneWaitsModel", "fives", "(I)I"⟩, prog_14_method_43_code, (some FieldType.int), 0, 0),
  (12, ⟨"LaneWaitsModel", "isDead", "(I)Z"⟩, prog_14_method_47_code, (some FieldType.boolean), 2, 47),
  (12, ⟨"LaneWaitsModel", "send", "(III)I"⟩, prog_14_method_53_code, (some FieldType.int), 2, 47),
  (12, ⟨"LaneWaitsModel", "laneFor", "(II)I"⟩, prog_14_method_51_code, (some FieldType.int), 1, 21),
  (12, ⟨"LaneWaitsModel", "comesIn", "(II)V"⟩, prog_14_method_52_code, none, 0, 0),
  (12, ⟨"LaneWaitsModel", "ticks", "(I)I"⟩, prog_14_method_57_code, (some FieldType.int), 4, 94),
  (12, ⟨"LaneWaitsModel", "pass", "(Z)I"⟩, prog_14_method_56_code, (some FieldType.int), 3, 70),
  (12, ⟨"LaneWaitsModel", "goFrom", "(I)I"⟩, prog_14_method_55_code, (some FieldType.int), 2, 47),
  (12, ⟨"LaneWaitsModel", "leaves", "(I)V"⟩, prog_14_method_54_code, none, 0, 0),
  (12, ⟨"LaneWaitsModel", "ofLoad", "(II)I"⟩, prog_14_method_58_code, (some FieldType.int), 1, 21),
  (12, ⟨"LaneWaitsModel", "isLoad", "(I)Z"⟩, prog_14_method_50_code, (some FieldType.boolean), 0, 0),
  (12, ⟨"LaneWaitsModel", "frozen", "()I"⟩, prog_14_method_60_code, (some FieldType.int), 3, 72),
  (12, ⟨"LaneWaitsModel", "isHeld", "(II)Z"⟩, prog_14_method_59_code, (some FieldType.boolean), 2, 47),
  (12, ⟨"LaneWaitsModel", "mend", "(I)I"⟩, prog_14_method_65_code, (some FieldType.int), 8, 184),
  (12, ⟨"LaneWaitsModel", "findMends", "()I"⟩, prog_14_method_64_code, (some FieldType.int), 7, 161),
  (12, ⟨"LaneWaitsModel", "isMended", "()Z"⟩, prog_14_method_61_code, (some FieldType.boolean), 6, 141),
  (12, ⟨"LaneWaitsModel", "allCome", "()Z"⟩, prog_14_method_28_code, (some FieldType.boolean), 4, 98),
  (12, ⟨"LaneWaitsModel", "layTurns", "()V"⟩, prog_14_method_62_code, none, 5, 118),
  (12, ⟨"LaneWaitsModel", "barTurn", "(I)V"⟩, prog_14_method_63_code, none, 0, 0),
  (12, ⟨"LaneWaitsModel", "bears", "(II)J"⟩, prog_14_method_72_code, (some FieldType.long), 5, 120),
  (12, ⟨"LaneWaitsModel", "layBears", "()V"⟩, prog_14_method_71_code, none, 3, 90),
  (12, ⟨"LaneWaitsModel", "clear", "([J[J)V"⟩, prog_14_method_68_code, none, 0, 0),
  (12, ⟨"LaneWaitsModel", "part", "(IJJ)V"⟩, prog_14_method_69_code, none, 2, 63),
  (12, ⟨"LaneWaitsModel", "add", "([J[JIJJ)V"⟩, prog_14_method_67_code, none, 1, 29),
  (12, ⟨"LaneWaitsModel", "common", "(JJ)J"⟩, prog_14_method_66_code, (some FieldType.long), 0, 0),
  (12, ⟨"LaneWaitsModel", "takeNext", "()V"⟩, prog_14_method_70_code, none, 1, 23),
  (12, ⟨"LaneWaitsModel", "busiest", "()I"⟩, prog_14_method_73_code, (some FieldType.int), 5, 120),
  (12, ⟨"LaneWaitsModel", "sheet", "(III)I"⟩, prog_14_method_74_code, (some FieldType.int), 2, 42),
  (12, ⟨"LaneWaitsModel", "lose", "(I)I"⟩, prog_14_method_75_code, (some FieldType.int), 2, 42),
  (12, ⟨"LaneWaitsModel", "put", "(III)I"⟩, prog_14_method_76_code, (some FieldType.int), 2, 42),
  (12, ⟨"LaneWaitsModel", "cell", "(III)J"⟩, prog_14_method_77_code, (some FieldType.long), 2, 42),
  (12, ⟨"LaneWaitsModel", "lost", "(I)J"⟩, prog_14_method_4_code, (some FieldType.long), 0, 0),
  (12, ⟨"LaneWaitsModel", "copy", "(IIIII)I"⟩, prog_14_method_78_code, (some FieldType.int), 2, 42),
  (12, ⟨"LaneWaitsModel", "tell", "(I)I"⟩, prog_14_method_80_code, (some FieldType.int), 1, 21),
  (12, ⟨"LaneWaitsModel", "begins", "(I)V"⟩, prog_14_method_79_code, none, 0, 0),
  (12, ⟨"LaneWaitsModel", "stamp", "(I)I"⟩, prog_14_method_81_code, (some FieldType.int), 1, 21),
  (12, ⟨"LaneWaitsModel", "as", "(II)I"⟩, prog_14_method_82_code, (some FieldType.int), 1, 22),
  (12, ⟨"LaneWaitsModel", "trace", "()I"⟩, prog_14_method_83_code, (some FieldType.int), 0, 0),
  (12, ⟨"LaneWaitsModel", "fault", "()I"⟩, prog_14_method_84_code, (some FieldType.int), 0, 0),
  (12, ⟨"LaneWaitsModel", "many", "(I)I"⟩, prog_14_method_85_code, (some FieldType.int), 1, 22),
  (13, ⟨"LaneWaitsLaw", "law", "([I)Z"⟩, code, (some FieldType.boolean), 9, 207)]
def jm_e (k : Nat) : Nat × MethodName × ByteArray × Option FieldType × Nat × Nat := jm_L.getD k (17, ⟨"", "", ""⟩, ⟨#[]⟩, none, 0, 0)
def jm_own (k : Nat) : String := jm_on.getD (jm_e k).1 ""
def jm_y (k : Nat) : MethodName := (jm_e k).2.1
def jm_c (k : Nat) : ByteArray := (jm_e k).2.2.1
def jm_ret (k : Nat) : Option FieldType := (jm_e k).2.2.2.1
def jm_ht (k : Nat) : Nat := (jm_e k).2.2.2.2.1
def jm_rl (k : Nat) : Nat := (jm_e k).2.2.2.2.2
/-- the words that hold at every call -/
def jm_ws : List Cond := lw_tbl.filter goodWord
/-- calls of nest mates' private methods -/
def jm_nest : List (String × Nat × MethodName × String) := [("LaneWaits", 11, ⟨"LaneWaits$Sheets", "<init>", "()V"⟩, "LaneWaits"), ("LaneWaits", 20, ⟨"LaneWaits$Text", "<init>", "()V"⟩, "LaneWaits"), ("LaneWaits", 27, ⟨"LaneWaits$Net", "<init>", "()V"⟩, "LaneWaits"), ("LaneWaits$Ways", 50, ⟨"LaneWaits", "has", "(II)Z"⟩, "LaneWaits"), ("LaneWaits$Waits", 90, ⟨"LaneWaits", "has", "(II)Z"⟩, "LaneWaits"), ("LaneWaits$Waits", 78, ⟨"LaneWaits", "knot", "([III)I"⟩, "LaneWaits"), ("LaneWaits$Stills", 67, ⟨"LaneWaits", "has", "(II)Z"⟩, "LaneWaits"), ("LaneWaits$States", 97, ⟨"LaneWaits", "has", "(II)Z"⟩, "LaneWaits"), ("LaneWaits$Traffic", 55, ⟨"LaneWaits", "has", "(II)Z"⟩, "LaneWaits"), ("LaneWaits$Mends", 86, ⟨"LaneWaits", "has", "(II)Z"⟩, "LaneWaits"), ("LaneWaits$Bears", 85, ⟨"LaneWaits", "has", "(II)Z"⟩, "LaneWaits")]
def js_AA (U : State) : Prop := (Cond.arrayOver (.array .int)).before #[] U = true
theorem js_AA.moved {u U : State} (hvm : u.vm.Alike U.vm) (h : js_AA u) : js_AA U := by
  obtain ⟨comp, c, k, h1, h2, h3, h4, h5⟩ := arrayOverA_spec h
  obtain ⟨k', hk', he⟩ := hvm.2.2 _ _ h3
  have hi : (U.vm.classes.findIdx? fun (x : Class) => match x.kind with | .array component _ => component == comp | _ => false) = some c := by
    refine (va_idx_bare U.vm comp).symm.trans ?_
    first | rw [hvm.bare_eq] | rw [← hvm.bare_eq]
    exact (va_idx_bare u.vm comp).trans h2
  have hkind : k'.kind = .array comp (.array .int) := by rw [he]; exact h4
  have f1 : U.vm.findClass (FieldType.array .int).toString = some comp := by rw [hvm.findClass]; exact h1
  have f2 : U.vm.findClass ("[" ++ (FieldType.array .int).toString) = some c := by rw [hvm.findClass]; exact h5
  unfold js_AA Cond.before Cond.holds
  simp only [Cond.value]
  rw [f1, Option.bind_some]
  refine (congrArg (fun o : Option Nat => (o.bind (fun c => (U.vm.classes[c]?).map fun (k : Class) => match k.kind with | .array _ ty => decide (ty = FieldType.array .int) && decide (U.vm.findClass ("[" ++ (FieldType.array .int).toString) = some c) | _ => false) == some true)) hi).trans ?_
  simp [hk', hkind, f2]
def js_N (s : State) : Prop := (∀ q ∈ jm_nest, va_Nw (.methodLinkNest q.1 q.2.1 q.2.2.1 q.2.2.2) s) ∧ va_AO "LaneWaits$Load" s ∧ js_AA s
theorem js_N.warm {s U : State} (hW : s.WarmedH U.vm) (h : js_N s) : js_N U := ⟨fun q hq => va_Nw.warmM hW (h.1 q hq), h.2.1.moved hW.alike, h.2.2.moved hW.alike⟩
/-- a field's link -/
def js_fl (k x kd f ty : Nat) : Prop := 10 ≤ kd ∧ ∃ (C : String) (T : u_T) (N : Nat), vwCl[kd - 10]? = some (C, T, N) ∧ f < N ∧ Cond.fieldLink (jm_own k) x C (T f).2.1 (T f).2.2.1 ∈ jm_ws ∧ (T f).1 = C ∧ jv_ft (kd - 10) f = ty
/-- a call: r = [k', c, rc] -/
def js_iv (k x : Nat) (i : Nat) (k' c rc : Nat) : Prop := k' < 224 ∧ True ∧ jm_ht k' + 1 ≤ jm_ht k ∧ 8 + (jv_ml k' + 11) + jm_rl k' ≤ jm_rl k ∧ (Cond.methodLink (jm_own k) x (jm_y k') ∈ jm_ws ∨ ∃ host, (jm_own k, x, jm_y k', host) ∈ jm_nest) ∧
  (parseMethodDescriptor (jm_y k').desc).map (fun d => d.parameters.length) = some (c - (if rc = 0 then 0 else 1)) ∧ (if i = 2 then rc = 0 ∧ Cond.static (jm_y k') ∈ jm_ws else 0 < c ∧ 10 < rc ∧ Cond.instanceMethod (jm_y k') ∈ jm_ws ∧ (∃ (T : u_T) (N : Nat), vwCl[rc - 11]? = some ((jm_y k').cls, T, N)) ∧
    (if i = 1 then (jm_y k').name = "<init>" ∧ jm_ret k' = none else rc ≠ 12 ∧ Cond.selects (jm_y k').cls (jm_y k') (jm_y k') ∈ jm_ws))
def js_i1 (k pc : Nat) (i : Instr) (len : Nat) (r : List Nat) (z : Int) : Prop := match i with
  | .iconst n => len = 1 ∧ (Int32.ofInt n).toInt = z
  | .bipush n => len = 2 ∧ (Int8.ofInt n).toInt32.toInt = z
  | .sipush n => len = 3 ∧ (Int16.ofInt n).toInt32.toInt = z
  | .ldc_w x => len = 3 ∧ ∃ v : Int32, Cond.constant (jm_own k) x v ∈ jm_ws ∧ v.toInt = z
  | .lconst n => len = 1 ∧ (Int64.ofNat n.val).toInt = z
  | .ldc2_w x => len = 3 ∧ ∃ v : Int64, Cond.constantLong (jm_own k) x v ∈ jm_ws ∧ v.toInt = z
  | .iload _ | .lload _ | .aload _ | .istore _ | .lstore _ | .astore _ => len = 2
  | .iinc _ c => len = 3 ∧ (Int32.ofInt c).toInt = c
  | .goto off | .ifCond _ off | .if_icmp _ off | .ifnull off | .ifnonnull off => len = 3 ∧ ∀ t : Nat, r = [t] → (pc : Int) + off = (t : Int)
  | .tableswitch dflt lo hi offs => ∀ (d : Nat) (ts : List Nat), r = d :: ts → (pc : Int) + dflt = (d : Int) ∧ ts.length = offs.size ∧ hi = lo + (ts.length : Int) - 1 ∧ ∀ (j t : Nat) (off : Int), ts[j]? = some t → offs[j]? = some off → (pc : Int) + off = (t : Int)
  | .lookupswitch dflt ps => (ps.toList.zip (ps.toList.drop 1)).all (fun (a, next) => a.1 < next.1) = true ∧ ∀ (d : Nat) (ts : List Nat), r = d :: ts → (pc : Int) + dflt = (d : Int) ∧ ts.length = ps.toList.length ∧ ∀ (j t : Nat) (q : Int × Int), ts[j]? = some t → ps.toList[j]? = some q → (pc : Int) + q.2 = (t : Int)
  | .getfield x => len = 3 ∧ ∀ kd f ty : Nat, r = [kd, f, ty] → js_fl k x kd f ty
  | .putfield x => len = 3 ∧ ∀ kd f ty : Nat, r = [kd, f, ty] → js_fl k x kd f ty ∧ ∀ (C : String) (T : u_T) (N : Nat), vwCl[kd - 10]? = some (C, T, N) → (T f).2.2.2 = true → ((jm_y k).name = "<init>" ∧ jm_own k = C)
  | .invokevirtual x => len = 3 ∧ (∀ k' c rc : Nat, r = [k', c, rc] → js_iv k x 0 k' c rc) ∧ r.length ≠ 1
  | .invokespecial x => len = 3 ∧ (∀ k' c rc : Nat, r = [k', c, rc] → js_iv k x 1 k' c rc) ∧ (r = [1001] → Cond.methodLink (jm_own k) x objectInit ∈ jm_ws ∧ 1 ≤ jm_ht k ∧ 20 ≤ jm_rl k) ∧ (r.length = 1 → r = [1001])
  | .invokestatic x => len = 3 ∧ (∀ k' c rc : Nat, r = [k', c, rc] → js_iv k x 2 k' c rc) ∧ (r = [1000] → Cond.methodLink (jm_own k) x arraycopyName ∈ jm_ws ∧ 1 ≤ jm_ht k ∧ 60 ≤ jm_rl k) ∧ r ≠ [1001] ∧ (r = [1002] → Cond.methodLink (jm_own k) x Lib.Math.max.name ∈ jm_ws ∧ 1 ≤ jm_ht k ∧ 30 ≤ jm_rl k) ∧ (r = [1003] → Cond.methodLink (jm_own k) x Lib.MathLoose.abs_long.x ∈ jm_ws ∧ 1 ≤ jm_ht k ∧ 30 ≤ jm_rl k) ∧ (r = [1004] → Cond.methodLink (jm_own k) x Lib.MathLoose.max_long.x ∈ jm_ws ∧ 1 ≤ jm_ht k ∧ 30 ≤ jm_rl k)
  | .new x => len = 3 ∧ ∀ ci ns : Nat, r = [ci, ns] → ∃ (C : String) (T : u_T), vwCl[ci]? = some (C, T, ns) ∧ Cond.classLink (jm_own k) x C ∈ jm_ws ∧ Cond.instantiable C ns ∈ jm_ws ∧ Cond.initialized C ∈ jm_ws
  | .newarray .int => len = 2 ∧ Cond.arrayClass .int ∈ jm_ws
  | .newarray .long => len = 2 ∧ Cond.arrayClass .long ∈ jm_ws
  | .anewarray x => len = 3 ∧ Cond.classLink (jm_own k) x "LaneWaits$Load" ∈ jm_ws
  | .multianewarray x d => len = 4 ∧ d = 2 ∧ Cond.classLink (jm_own k) x "[[I" ∈ jm_ws ∧ Cond.arrayClass .int ∈ jm_ws
  | .ireturn => len = 1 ∧ (r = [0] → jm_ret k = some .int) ∧ (r = [1] → jm_ret k = some .boolean)
  | .lreturn => len = 1 ∧ jm_ret k = some .long
  | .areturn => len = 1 ∧ ∃ C : String, jm_ret k = some (.object C)
  | .return_ => len = 1 ∧ jm_ret k = none
  | _ => len = 1
def js_ie (k : Nat) (q : jv_E) : Prop := decode (jm_c k) q.1 = .ok (q.2.1, q.2.2.1) ∧ js_i1 k q.1 q.2.1 q.2.2.1 q.2.2.2.1 q.2.2.2.2
/-- what is so of the classes -/
def js_Cl : Prop := (∀ (ci : Nat) (C : String) (T : u_T) (N : Nat), vwCl[ci]? = some (C, T, N) → (∀ w ∈ u_ws C T N, w ∈ jm_ws) ∧ (∀ a, a < N → ∀ b, b < N → a ≠ b → (T a).2.1 ≠ (T b).2.1) ∧ ∃ ty : Nat → FieldType, (∀ k, k < N → parseFieldDescriptor (T k).2.2.1 = some (ty k)) ∧
  ∀ k, k < N → (jv_ft ci k = 0 ∧ ty k = .int) ∨ (jv_ft ci k = 1 ∧ ty k = .boolean) ∨ (jv_ft ci k = 2 ∧ ((∃ C, ty k = .object C) ∨ ∃ t, ty k = .array t))) ∧
  Cond.instanceMethod objectInit ∈ jm_ws ∧ Cond.code objectInit ⟨#[0xb1]⟩ 1 none ∈ jm_ws ∧ Cond.native arraycopyName ∈ jm_ws ∧ Cond.static arraycopyName ∈ jm_ws ∧ Cond.initialized "java/lang/System" ∈ jm_ws ∧ Cond.instantiable "LaneWaits$Load" 8 ∈ jm_ws ∧
  (Cond.initialized "java/lang/Math" ∈ jm_ws ∧ Cond.static Lib.Math.max.name ∈ jm_ws ∧ Cond.code Lib.Math.max.name Lib.Math.max.code 2 (some .int) ∈ jm_ws ∧ Cond.static Lib.MathLoose.abs_long.x ∈ jm_ws ∧ Cond.code Lib.MathLoose.abs_long.x Lib.MathLoose.abs_long.code 2 (some .long) ∈ jm_ws ∧ Cond.static Lib.MathLoose.max_long.x ∈ jm_ws ∧ Cond.code Lib.MathLoose.max_long.x Lib.MathLoose.max_long.code 4 (some .long) ∈ jm_ws) ∧
  ∀ k, k < 224 → True → Cond.code (jm_y k) (jm_c k) (jv_ml k) (jm_ret k) ∈ jm_ws ∧ Cond.initialized (jm_y k).cls ∈ jm_ws ∧ ((jm_y k).cls ≠ "java/lang/invoke/MethodHandle" ∧ (jm_y k).cls ≠ "java/lang/invoke/VarHandle") ∧ plainName (jm_y k).cls = true ∧ jm_own k = (jm_y k).cls
