def zz_T0 : u_T := fun k => match k with
  | 0 => ("HexIsland$State", "phase", "I", false)
  | 1 => ("HexIsland$State", "turn", "I", false)
  | 2 => ("HexIsland$State", "settled", "I", false)
  | 3 => ("HexIsland$State", "lastHut", "I", false)
  | 4 => ("HexIsland$State", "blocked", "I", false)
  | 5 => ("HexIsland$State", "drawn", "I", false)
  | 6 => ("HexIsland$State", "freeRoads", "I", false)
  | 7 => ("HexIsland$State", "offerTo", "I", false)
  | 8 => ("HexIsland$State", "offerGives", "I", false)
  | 9 => ("HexIsland$State", "offerGets", "I", false)
  | 10 => ("HexIsland$State", "award", "I", false)
  | 11 => ("HexIsland$State", "played", "Z", false)
  | 12 => ("HexIsland$State", "roads", "[I", true)
  | 13 => ("HexIsland$State", "buildings", "[I", true)
  | 14 => ("HexIsland$State", "hands", "[I", true)
  | 15 => ("HexIsland$State", "cards", "[I", true)
  | 16 => ("HexIsland$State", "fresh", "[I", true)
  | _ => ("HexIsland$State", "toGive", "[I", true)
def zz_T1 : u_T := fun k => match k with
  | 0 => ("HexIsland", "hexGood", "[I", true)
  | 1 => ("HexIsland", "hexNumber", "[I", true)
  | 2 => ("HexIsland", "cornerPort", "[I", true)
  | 3 => ("HexIsland", "ports", "I", false)
  | 4 => ("HexIsland", "deckKinds", "J", false)
  | 5 => ("HexIsland", "playerCount", "I", false)
  | 6 => ("HexIsland", "target", "I", false)
  | 7 => ("HexIsland", "now", "LHexIsland$State;", true)
  | 8 => ("HexIsland", "before", "LHexIsland$State;", true)
  | _ => ("HexIsland", "undoable", "Z", false)
def zz_T2 : u_T := fun k => match k with
  | 0 => ("HexIslandModel", "thrown", "I", false)
  | 1 => ("HexIslandModel", "s", "[I", true)
  | 2 => ("HexIslandModel", "before", "[I", true)
  | 3 => ("HexIslandModel", "can", "Z", false)
  | 4 => ("HexIslandModel", "lines", "[I", true)
  | 5 => ("HexIslandModel", "places", "[I", true)
  | 6 => ("HexIslandModel", "firstEnds", "[I", true)
  | 7 => ("HexIslandModel", "otherEnds", "[I", true)
  | 8 => ("HexIslandModel", "hexCorners", "[I", true)
  | 9 => ("HexIslandModel", "hexGoods", "[I", true)
  | 10 => ("HexIslandModel", "hexNumbers", "[I", true)
  | 11 => ("HexIslandModel", "portCount", "I", false)
  | 12 => ("HexIslandModel", "portEdges", "[I", true)
  | 13 => ("HexIslandModel", "portKinds", "[I", true)
  | 14 => ("HexIslandModel", "deckKinds", "[I", true)
  | 15 => ("HexIslandModel", "many", "I", false)
  | 16 => ("HexIslandModel", "target", "I", false)
  | 17 => ("HexIslandModel", "roadHuts", "[I", true)
  | 18 => ("HexIslandModel", "firstPlaces", "[I", true)
  | 19 => ("HexIslandModel", "lineSizes", "[I", true)
  | 20 => ("HexIslandModel", "own", "[I", true)
  | 21 => ("HexIslandModel", "cornersOn", "[I", true)
  | 22 => ("HexIslandModel", "choices", "[I", true)
  | 23 => ("HexIslandModel", "taken", "[I", true)
  | _ => ("HexIslandModel", "claims", "[I", true)
def zz_TE : u_T := fun _ => ("", "", "", false)
def zz_cl : List vw_C := [("HexIsland$State", zz_T0, 18), ("HexIsland", zz_T1, 10), ("HexIslandModel", zz_T2, 25), ("java/lang/IllegalStateException", zz_TE, 0), ("java/lang/IllegalArgumentException", zz_TE, 0), ("java/lang/UnsupportedOperationException", zz_TE, 0), ("java/lang/IndexOutOfBoundsException", zz_TE, 0)]
def zz_fk : List (List Nat) := [[0, 0, 0, 0, 0, 0, 0, 0, 0, 0, 0, 1, 3, 3, 3, 3, 3, 3], [3, 3, 3, 0, 2, 0, 0, 3, 3, 1], [0, 3, 3, 1, 3, 3, 3, 3, 3, 3, 3, 0, 3, 3, 3, 0, 0, 3, 3, 3, 3, 3, 3, 3, 3], [], [], [], []]
def zz_nslot : List Nat := [18, 10, 25, 6, 6, 6, 6]
def zz_sf : Nat → Option String := fun i => match i with
  | 1 => some "PRICES"
  | 2 => some "HEX_CORNERS"
  | 3 => some "EDGE_CORNERS"
  | 4 => some "CORNER_EDGES"
  | _ => none
def zz_nm : List MethodName := [⟨"HexIsland", "<init>", "()V"⟩,
  ⟨"HexIsland", "hex", "(III)V"⟩,
  ⟨"HexIsland", "port", "(II)I"⟩,
  ⟨"HexIsland", "deck", "(J)V"⟩,
  ⟨"HexIsland", "players", "(II)V"⟩,
  ⟨"HexIsland", "place", "(II)I"⟩,
  ⟨"HexIsland", "roll", "(I)I"⟩,
  ⟨"HexIsland", "give", "(II)I"⟩,
  ⟨"HexIsland", "block", "(III)I"⟩,
  ⟨"HexIsland", "bank", "(II)I"⟩,
  ⟨"HexIsland", "offer", "(III)V"⟩,
  ⟨"HexIsland", "accept", "()I"⟩,
  ⟨"HexIsland", "buy", "()I"⟩,
  ⟨"HexIsland", "play", "(III)I"⟩,
  ⟨"HexIsland", "pass", "()I"⟩,
  ⟨"HexIsland", "undo", "()I"⟩,
  ⟨"HexIsland", "phase", "()I"⟩,
  ⟨"HexIsland", "turn", "()I"⟩,
  ⟨"HexIsland", "winner", "()I"⟩,
  ⟨"HexIsland", "goods", "(II)I"⟩,
  ⟨"HexIsland", "cards", "(II)I"⟩,
  ⟨"HexIsland", "points", "(I)I"⟩,
  ⟨"HexIsland", "chain", "(I)I"⟩,
  ⟨"HexIsland", "award", "()I"⟩,
  ⟨"HexIsland", "owner", "(II)I"⟩,
  ⟨"HexIsland", "legal", "(I)I"⟩,
  ⟨"HexIsland", "forecast", "(III)I"⟩,
  ⟨"HexIsland", "requirePhase", "(I)V"⟩,
  ⟨"HexIsland", "requirePlayer", "(I)V"⟩,
  ⟨"HexIsland", "isPlayer", "(I)Z"⟩,
  ⟨"HexIsland", "isHex", "(I)Z"⟩,
  ⟨"HexIsland", "isGood", "(I)Z"⟩,
  ⟨"HexIsland", "isYield", "(II)Z"⟩,
  ⟨"HexIsland", "isSpot", "(II)Z"⟩,
  ⟨"HexIsland", "spotsFor", "(I)I"⟩,
  ⟨"HexIsland", "isBundle", "(I)Z"⟩,
  ⟨"HexIsland", "isPlay", "(III)Z"⟩,
  ⟨"HexIsland", "isShore", "(II)Z"⟩,
  ⟨"HexIsland", "isBeside", "(II)Z"⟩,
  ⟨"HexIsland", "isAt", "(II)Z"⟩,
  ⟨"HexIsland", "otherEnd", "(II)I"⟩,
  ⟨"HexIsland", "firstBarrenHex", "()I"⟩,
  ⟨"HexIsland", "inHand", "(II)I"⟩,
  ⟨"HexIsland", "handSize", "(I)I"⟩,
  ⟨"HexIsland", "move", "(IIII)V"⟩,
  ⟨"HexIsland", "canPay", "(I)Z"⟩,
  ⟨"HexIsland", "pay", "(I)V"⟩,
  ⟨"HexIsland", "inBundle", "(II)I"⟩,
  ⟨"HexIsland", "hasBundle", "(II)Z"⟩,
  ⟨"HexIsland", "moveBundle", "(III)I"⟩,
  ⟨"HexIsland", "bankPrice", "(I)I"⟩,
  ⟨"HexIsland", "isTimeFor", "(I)Z"⟩,
  ⟨"HexIsland", "hasPieceLeft", "(I)Z"⟩,
  ⟨"HexIsland", "countOf", "([II)I"⟩,
  ⟨"HexIsland", "fits", "(II)Z"⟩,
  ⟨"HexIsland", "roadFits", "(I)Z"⟩,
  ⟨"HexIsland", "leadsOn", "(I)Z"⟩,
  ⟨"HexIsland", "hasRoadAt", "(I)Z"⟩,
  ⟨"HexIsland", "hutFits", "(I)Z"⟩,
  ⟨"HexIsland", "hasNeighbour", "(I)Z"⟩,
  ⟨"HexIsland", "put", "(II)V"⟩,
  ⟨"HexIsland", "moveOn", "(I)V"⟩,
  ⟨"HexIsland", "bringFirstGoods", "(I)V"⟩,
  ⟨"HexIsland", "nextToSettle", "()V"⟩,
  ⟨"HexIsland", "endFreeRoadsIfStuck", "()V"⟩,
  ⟨"HexIsland", "anyRoadFits", "()Z"⟩,
  ⟨"HexIsland", "worth", "(II)I"⟩,
  ⟨"HexIsland", "worthBeside", "(II)I"⟩,
  ⟨"HexIsland", "claimOf", "(III)I"⟩,
  ⟨"HexIsland", "bring", "(II)I"⟩,
  ⟨"HexIsland", "demandGoods", "()Z"⟩,
  ⟨"HexIsland", "mustAnyGive", "()Z"⟩,
  ⟨"HexIsland", "waysToRoll", "(I)I"⟩,
  ⟨"HexIsland", "isVictim", "(II)Z"⟩,
  ⟨"HexIsland", "hasVictim", "(I)Z"⟩,
  ⟨"HexIsland", "goodOfCard", "(II)I"⟩,
  ⟨"HexIsland", "deckKind", "(I)I"⟩,
  ⟨"HexIsland", "mayPlay", "(III)Z"⟩,
  ⟨"HexIsland", "takeEffect", "(III)I"⟩,
  ⟨"HexIsland", "collectAll", "(I)I"⟩,
  ⟨"HexIsland", "pointsOf", "(I)I"⟩,
  ⟨"HexIsland", "chainOf", "(I)I"⟩,
  ⟨"HexIsland", "farthest", "(LHexIsland$State;III)I"⟩,
  ⟨"HexIsland", "isForeign", "(II)Z"⟩,
  ⟨"HexIsland", "settleAward", "()V"⟩,
  ⟨"HexIsland", "endTurn", "()V"⟩,
  ⟨"HexIsland", "settleWin", "()V"⟩,
  ⟨"HexIsland", "remember", "()V"⟩,
  ⟨"HexIslandModel", "<init>", "()V"⟩,
  ⟨"HexIslandModel", "thrown", "()I"⟩,
  ⟨"HexIslandModel", "far", "(I)I"⟩,
  ⟨"HexIslandModel", "areNear", "(II)Z"⟩,
  ⟨"HexIslandModel", "cornerAt", "(II)I"⟩,
  ⟨"HexIslandModel", "isBeside", "(II)Z"⟩,
  ⟨"HexIslandModel", "isShore", "(I)Z"⟩,
  ⟨"HexIslandModel", "refused", "(ZZZ)Z"⟩,
  ⟨"HexIslandModel", "hex", "(III)V"⟩,
  ⟨"HexIslandModel", "hasPort", "(I)Z"⟩,
  ⟨"HexIslandModel", "port", "(II)I"⟩,
  ⟨"HexIslandModel", "deck", "(J)V"⟩,
  ⟨"HexIslandModel", "players", "(II)V"⟩,
  ⟨"HexIslandModel", "isMine", "(II)Z"⟩,
  ⟨"HexIslandModel", "isOthers", "(II)Z"⟩,
  ⟨"HexIslandModel", "piecesOf", "(II)I"⟩,
  ⟨"HexIslandModel", "hasRoadAt", "(II)Z"⟩,
  ⟨"HexIslandModel", "isAlone", "(I)Z"⟩,
  ⟨"HexIslandModel", "reaches", "(II)Z"⟩,
  ⟨"HexIslandModel", "mayBuild", "(II)Z"⟩,
  ⟨"HexIslandModel", "price", "(II)I"⟩,
  ⟨"HexIslandModel", "canPay", "(II)Z"⟩,
  ⟨"HexIslandModel", "pay", "(II)V"⟩,
  ⟨"HexIslandModel", "isTimeFor", "(I)Z"⟩,
  ⟨"HexIslandModel", "isSpot", "(II)Z"⟩,
  ⟨"HexIslandModel", "chainOf", "(I)I"⟩,
  ⟨"HexIslandModel", "chainFrom", "(III)I"⟩,
  ⟨"HexIslandModel", "pointsOf", "(I)I"⟩,
  ⟨"HexIslandModel", "lookAround", "()V"⟩,
  ⟨"HexIslandModel", "remember", "()V"⟩,
  ⟨"HexIslandModel", "endRoads", "()V"⟩,
  ⟨"HexIslandModel", "setHut", "(I)V"⟩,
  ⟨"HexIslandModel", "setRoad", "()V"⟩,
  ⟨"HexIslandModel", "place", "(II)I"⟩,
  ⟨"HexIslandModel", "claimOf", "(II)I"⟩,
  ⟨"HexIslandModel", "giveOut", "(I)I"⟩,
  ⟨"HexIslandModel", "handOf", "(I)I"⟩,
  ⟨"HexIslandModel", "mustAny", "()Z"⟩,
  ⟨"HexIslandModel", "roll", "(I)I"⟩,
  ⟨"HexIslandModel", "isPlayer", "(I)Z"⟩,
  ⟨"HexIslandModel", "isGood", "(I)Z"⟩,
  ⟨"HexIslandModel", "give", "(II)I"⟩,
  ⟨"HexIslandModel", "isVictim", "(II)Z"⟩,
  ⟨"HexIslandModel", "hasVictim", "(I)Z"⟩,
  ⟨"HexIslandModel", "block", "(III)I"⟩,
  ⟨"HexIslandModel", "rateOf", "(II)I"⟩,
  ⟨"HexIslandModel", "bank", "(II)I"⟩,
  ⟨"HexIslandModel", "has", "(II)Z"⟩,
  ⟨"HexIslandModel", "offer", "(III)V"⟩,
  ⟨"HexIslandModel", "accept", "()I"⟩,
  ⟨"HexIslandModel", "buy", "()I"⟩,
  ⟨"HexIslandModel", "canPlay", "(III)Z"⟩,
  ⟨"HexIslandModel", "takeAll", "(II)I"⟩,
  ⟨"HexIslandModel", "play", "(III)I"⟩,
  ⟨"HexIslandModel", "pass", "()I"⟩,
  ⟨"HexIslandModel", "undo", "()I"⟩,
  ⟨"HexIslandModel", "phase", "()I"⟩,
  ⟨"HexIslandModel", "turn", "()I"⟩,
  ⟨"HexIslandModel", "winner", "()I"⟩,
  ⟨"HexIslandModel", "goods", "(II)I"⟩,
  ⟨"HexIslandModel", "cards", "(II)I"⟩,
  ⟨"HexIslandModel", "points", "(I)I"⟩,
  ⟨"HexIslandModel", "chain", "(I)I"⟩,
  ⟨"HexIslandModel", "award", "()I"⟩,
  ⟨"HexIslandModel", "owner", "(II)I"⟩,
  ⟨"HexIslandModel", "legal", "(I)I"⟩,
  ⟨"HexIslandModel", "forecast", "(III)I"⟩,
  ⟨"HexIsland$State", "<init>", "()V"⟩,
  ⟨"HexIsland$State", "copyFrom", "(LHexIsland$State;)V"⟩,
  ⟨"HexIslandLaw", "hex", "(LHexIsland;III)I"⟩,
  ⟨"HexIslandLaw", "port", "(LHexIsland;II[J)I"⟩,
  ⟨"HexIslandLaw", "deck", "(LHexIsland;J)I"⟩,
  ⟨"HexIslandLaw", "players", "(LHexIsland;II)I"⟩,
  ⟨"HexIslandLaw", "place", "(LHexIsland;II[J)I"⟩,
  ⟨"HexIslandLaw", "roll", "(LHexIsland;I[J)I"⟩,
  ⟨"HexIslandLaw", "give", "(LHexIsland;II[J)I"⟩,
  ⟨"HexIslandLaw", "block", "(LHexIsland;III[J)I"⟩,
  ⟨"HexIslandLaw", "bank", "(LHexIsland;II[J)I"⟩,
  ⟨"HexIslandLaw", "offer", "(LHexIsland;III)I"⟩,
  ⟨"HexIslandLaw", "accept", "(LHexIsland;[J)I"⟩,
  ⟨"HexIslandLaw", "buy", "(LHexIsland;[J)I"⟩,
  ⟨"HexIslandLaw", "play", "(LHexIsland;III[J)I"⟩,
  ⟨"HexIslandLaw", "pass", "(LHexIsland;[J)I"⟩,
  ⟨"HexIslandLaw", "undo", "(LHexIsland;[J)I"⟩,
  ⟨"HexIslandLaw", "goods", "(LHexIsland;II[J)I"⟩,
  ⟨"HexIslandLaw", "cards", "(LHexIsland;II[J)I"⟩,
  ⟨"HexIslandLaw", "points", "(LHexIsland;I[J)I"⟩,
  ⟨"HexIslandLaw", "chain", "(LHexIsland;I[J)I"⟩,
  ⟨"HexIslandLaw", "owner", "(LHexIsland;II[J)I"⟩,
  ⟨"HexIslandLaw", "forecast", "(LHexIsland;III[J)I"⟩,
  ⟨"java/util/Arrays", "fill", "([II)V"⟩,
  ⟨"HexIslandLaw", "law", "([I)Z"⟩]
def zz_by : List ByteArray := [prog_1_method_1_code, prog_1_method_2_code, prog_1_method_3_code, prog_1_method_4_code, prog_1_method_5_code, prog_1_method_6_code, prog_1_method_7_code, prog_1_method_8_code, prog_1_method_9_code, prog_1_method_10_code, prog_1_method_11_code, prog_1_method_12_code, prog_1_method_13_code, prog_1_method_14_code, prog_1_method_15_code, prog_1_method_16_code, prog_1_method_17_code, prog_1_method_18_code, prog_1_method_19_code, prog_1_method_20_code, prog_1_method_21_code, prog_1_method_22_code, prog_1_method_23_code, prog_1_method_24_code, prog_1_method_25_code, prog_1_method_26_code, prog_1_method_27_code, prog_1_method_28_code, prog_1_method_29_code, prog_1_method_30_code, prog_1_method_31_code, prog_1_method_32_code, prog_1_method_33_code, prog_1_method_34_code, prog_1_method_35_code, prog_1_method_36_code, prog_1_method_37_code, prog_1_method_38_code, prog_1_method_39_code, prog_1_method_40_code, prog_1_method_41_code, prog_1_method_42_code, prog_1_method_43_code, prog_1_method_44_code, prog_1_method_45_code, prog_1_method_46_code, prog_1_method_47_code, prog_1_method_48_code, prog_1_method_49_code, prog_1_method_50_code, prog_1_method_51_code, prog_1_method_52_code, prog_1_method_53_code, prog_1_method_54_code, prog_1_method_55_code, prog_1_method_56_code, prog_1_method_57_code, prog_1_method_58_code, prog_1_method_59_code, prog_1_method_60_code, prog_1_method_61_code, prog_1_method_62_code, prog_1_method_63_code, prog_1_method_64_code, prog_1_method_65_code, prog_1_method_66_code, prog_1_method_67_code, prog_1_method_68_code, prog_1_method_69_code, prog_1_method_70_code, prog_1_method_71_code, prog_1_method_72_code, prog_1_method_73_code, prog_1_method_74_code, prog_1_method_75_code, prog_1_method_76_code, prog_1_method_77_code, prog_1_method_78_code, prog_1_method_79_code, prog_1_method_80_code, prog_1_method_81_code, prog_1_method_82_code, prog_1_method_83_code, prog_1_method_84_code, prog_1_method_85_code, prog_1_method_86_code, prog_1_method_87_code, prog_1_method_88_code, prog_4_method_1_code, prog_4_method_2_code, prog_4_method_3_code, prog_4_method_4_code, prog_4_method_5_code, prog_4_method_6_code, prog_4_method_7_code, prog_4_method_8_code, prog_4_method_9_code, prog_4_method_10_code, prog_4_method_11_code, prog_4_method_12_code, prog_4_method_13_code, prog_4_method_14_code, prog_4_method_15_code, prog_4_method_16_code, prog_4_method_17_code, prog_4_method_18_code, prog_4_method_19_code, prog_4_method_20_code, prog_4_method_21_code, prog_4_method_22_code, prog_4_method_23_code, prog_4_method_24_code, prog_4_method_25_code, prog_4_method_26_code, prog_4_method_27_code, prog_4_method_28_code, prog_4_method_29_code, prog_4_method_30_code, prog_4_method_31_code, prog_4_method_32_code, prog_4_method_33_code, prog_4_method_34_code, prog_4_method_35_code, prog_4_method_36_code, prog_4_method_37_code, prog_4_method_38_code, prog_4_method_39_code, prog_4_method_40_code, prog_4_method_41_code, prog_4_method_42_code, prog_4_method_43_code, prog_4_method_44_code, prog_4_method_45_code, prog_4_method_46_code, prog_4_method_47_code, prog_4_method_48_code, prog_4_method_49_code, prog_4_method_50_code, prog_4_method_51_code, prog_4_method_52_code, prog_4_method_53_code, prog_4_method_54_code, prog_4_method_55_code, prog_4_method_56_code, prog_4_method_57_code, prog_4_method_58_code, prog_4_method_59_code, prog_4_method_60_code, prog_4_method_61_code, prog_4_method_62_code, prog_4_method_63_code, prog_4_method_64_code, prog_4_method_65_code, prog_4_method_66_code, prog_4_method_67_code, prog_2_method_1_code, prog_2_method_2_code, method_3_code, method_4_code, method_5_code, method_6_code, method_7_code, method_8_code, method_9_code, method_10_code, method_11_code, method_12_code, method_13_code, method_14_code, method_15_code, method_16_code, method_17_code, method_18_code, method_19_code, method_20_code, method_21_code, method_22_code, method_23_code, prog_14_method_103_code, code]
def zz_rt : List (Option FieldType) := [none, none, some .int, none, none, some .int, some .int, some .int, some .int, some .int, none, some .int, some .int, some .int, some .int, some .int, some .int, some .int, some .int, some .int, some .int, some .int, some .int, some .int, some .int, some .int, some .int, none, none, some .boolean, some .boolean, some .boolean, some .boolean, some .boolean, some .int, some .boolean, some .boolean, some .boolean, some .boolean, some .boolean, some .int, some .int, some .int, some .int, none, some .boolean, none, some .int, some .boolean, some .int, some .int, some .boolean, some .boolean, some .int, some .boolean, some .boolean, some .boolean, some .boolean, some .boolean, some .boolean, none, none, none, none, none, some .boolean, some .int, some .int, some .int, some .int, some .boolean, some .boolean, some .int, some .boolean, some .boolean, some .int, some .int, some .boolean, some .int, some .int, some .int, some .int, some .int, some .boolean, none, none, none, none, none, some .int, some .int, some .boolean, some .int, some .boolean, some .boolean, some .boolean, none, some .boolean, some .int, none, none, some .boolean, some .boolean, some .int, some .boolean, some .boolean, some .boolean, some .boolean, some .int, some .boolean, none, some .boolean, some .boolean, some .int, some .int, some .int, none, none, none, none, none, some .int, some .int, some .int, some .int, some .boolean, some .int, some .boolean, some .boolean, some .int, some .boolean, some .boolean, some .int, some .int, some .int, some .boolean, none, some .int, some .int, some .boolean, some .int, some .int, some .int, some .int, some .int, some .int, some .int, some .int, some .int, some .int, some .int, some .int, some .int, some .int, some .int, none, none, some .int, some .int, some .int, some .int, some .int, some .int, some .int, some .int, some .int, some .int, some .int, some .int, some .int, some .int, some .int, some .int, some .int, some .int, some .int, some .int, some .int, none, some .boolean]
def zz_hr : List (List (Nat × Nat × Nat × Nat)) := [[], [], [], [], [], [], [], [], [], [], [], [], [], [], [], [], [], [], [], [], [], [], [], [], [], [], [], [], [], [], [], [], [], [], [], [], [], [], [], [], [], [], [], [], [], [], [], [], [], [], [], [], [], [], [], [], [], [], [], [], [], [], [], [], [], [], [], [], [], [], [], [], [], [], [], [], [], [], [], [], [], [], [], [], [], [], [], [], [], [], [], [], [], [], [], [], [], [], [], [], [], [], [], [], [], [], [], [], [], [], [], [], [], [], [], [], [], [], [], [], [], [], [], [], [], [], [], [], [], [], [], [], [], [], [], [], [], [], [], [], [], [], [], [], [], [], [], [], [], [], [], [], [], [], [], [], [], [(0, 7, 10, 13), (0, 7, 14, 15)], [(0, 10, 13, 13), (0, 10, 17, 15), (0, 10, 21, 21)], [(0, 5, 8, 13)], [(0, 6, 9, 13), (0, 6, 12, 15)], [(0, 10, 13, 15), (0, 10, 17, 13), (0, 10, 21, 21)], [(0, 9, 12, 13), (0, 9, 15, 15)], [(0, 10, 13, 13), (0, 10, 17, 15)], [(0, 12, 15, 13), (0, 12, 19, 15)], [(0, 10, 13, 15), (0, 10, 17, 13)], [(0, 7, 10, 15), (0, 7, 14, 13)], [(0, 8, 11, 13)], [(0, 8, 11, 13)], [(0, 12, 15, 15), (0, 12, 19, 13)], [(0, 8, 11, 13)], [(0, 8, 11, 13)], [(0, 10, 13, 70)], [(0, 10, 13, 70)], [(0, 9, 12, 70)], [(0, 9, 12, 70)], [(0, 10, 13, 70)], [(0, 12, 15, 70), (0, 12, 19, 15)], [], []]
