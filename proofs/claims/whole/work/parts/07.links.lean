/-! which words stand behind the instructions, by their places in lw_tbl -/
def hk_mt : List (MethodName × ByteArray × Nat × Nat × Nat) := [
  (⟨"HatFields", "<init>", "()V"⟩, prog_1_method_1_code, 2, 7, 1021),
  (⟨"HatFields$Plain", "<init>", "()V"⟩, prog_5_method_1_code, 2, 3, 1029),
  (⟨"HatFields$Person", "<init>", "()V"⟩, prog_4_method_1_code, 1, 2, 1038),
  (⟨"HatFields$Hat", "<init>", "()V"⟩, prog_3_method_1_code, 1, 1, 1055),
  (⟨"HatFields$Tape", "<init>", "()V"⟩, prog_8_method_1_code, 1, 6, 1119),
  (⟨"HatFields$Actor", "<init>", "()V"⟩, prog_2_method_1_code, 1, 0, 1150),
  (⟨"HatFields$Shelf", "<init>", "()V"⟩, prog_7_method_1_code, 1, 5, 1176),
  (⟨"HatFields", "feed", "(JI)I"⟩, prog_1_method_2_code, 5, 7, 1227),
  (⟨"HatFields$Tape", "room", "()I"⟩, prog_8_method_2_code, 1, 6, 1231),
  (⟨"HatFields$Tape", "take", "(B)V"⟩, prog_8_method_3_code, 2, 6, 1235),
  (⟨"HatFields", "plain", "()I"⟩, prog_1_method_3_code, 2, 7, 1239),
  (⟨"HatFields$Tape", "tellTo", "(LHatFields$Plain;)I"⟩, prog_8_method_4_code, 3, 6, 2003),
  (⟨"HatFields$Plain", "clear", "()V"⟩, prog_5_method_2_code, 1, 3, 2007),
  (⟨"HatFields$Plain", "stillWinds", "()V"⟩, prog_5_method_3_code, 2, 3, 2011),
  (⟨"HatFields$Plain", "setWind", "(III)V"⟩, prog_5_method_7_code, 4, 3, 2015),
  (⟨"HatFields$Tape", "step", "()V"⟩, prog_8_method_16_code, 1, 6, 2019),
  (⟨"HatFields$Tape", "sortAt", "(I)I"⟩, prog_8_method_17_code, 2, 6, 2023),
  (⟨"HatFields$Tape", "readOne", "(LHatFields$Plain;)V"⟩, prog_8_method_5_code, 3, 6, 2027),
  (⟨"HatFields$Tape", "kindNamed", "()I"⟩, prog_8_method_9_code, 1, 6, 2031),
  (⟨"HatFields$Tape", "spells", "(Ljava/lang/String;)Z"⟩, prog_8_method_11_code, 3, 6, 2036),
  (⟨"java/lang/String", "length", "()I"⟩, prog_13_method_54_code, 1, 9, 2040),
  (⟨"java/lang/String", "coder", "()B"⟩, prog_13_method_152_code, 1, 9, 2044),
  (⟨"java/lang/String", "charAt", "(I)C"⟩, prog_13_method_56_code, 2, 9, 2050),
  (⟨"java/lang/String", "isLatin1", "()Z"⟩, prog_13_method_154_code, 1, 9, 2054),
  (⟨"java/lang/StringLatin1", "charAt", "([BI)C"⟩, prog_14_method_2_code, 2, 11, 2057),
  (⟨"java/lang/String", "checkIndex", "(II)V"⟩, prog_13_method_155_code, 2, 9, 2060),
  (⟨"jdk/internal/util/Preconditions", "checkIndex", "(IILjava/util/function/BiFunction;)I"⟩, prog_17_method_11_code, 3, 12, 2065),
  (⟨"HatFields$Tape", "readHat", "(LHatFields$Plain;I)V"⟩, prog_8_method_7_code, 5, 6, 2093),
  (⟨"HatFields$Tape", "number", "(I)I"⟩, prog_8_method_13_code, 4, 6, 2097),
  (⟨"HatFields$Tape", "fail", "()V"⟩, prog_8_method_15_code, 1, 6, 2101),
  (⟨"HatFields$Tape", "word", "(Ljava/lang/String;)V"⟩, prog_8_method_12_code, 2, 6, 2106),
  (⟨"HatFields$Plain", "addHat", "(III)I"⟩, prog_5_method_9_code, 4, 3, 2110),
  (⟨"HatFields$Hat", "become", "(II)V"⟩, prog_3_method_3_code, 3, 1, 2114),
  (⟨"HatFields$Hat", "goOn", "(I)V"⟩, prog_3_method_4_code, 2, 1, 2119),
  (⟨"HatFields$Hat", "lieIn", "(I)V"⟩, prog_3_method_5_code, 2, 1, 2124),
  (⟨"HatFields$Tape", "semicolon", "()V"⟩, prog_8_method_14_code, 1, 6, 2128),
  (⟨"HatFields$Tape", "readPerson", "(LHatFields$Plain;)V"⟩, prog_8_method_6_code, 4, 6, 2133),
  (⟨"HatFields$Plain", "addPerson", "(II)I"⟩, prog_5_method_8_code, 3, 3, 2138),
  (⟨"HatFields$Tape", "readWind", "(LHatFields$Plain;)V"⟩, prog_8_method_8_code, 4, 6, 2143),
  (⟨"HatFields$Tape", "directionNamed", "()I"⟩, prog_8_method_10_code, 1, 6, 2147),
  (⟨"HatFields$Plain", "copyFrom", "(LHatFields$Plain;)V"⟩, prog_5_method_4_code, 3, 3, 2157),
  (⟨"HatFields$Person", "copyFrom", "(LHatFields$Person;)V"⟩, prog_4_method_2_code, 2, 2, 2164),
  (⟨"HatFields$Hat", "copyFrom", "(LHatFields$Hat;)V"⟩, prog_3_method_2_code, 2, 1, 2168),
  (⟨"HatFields", "wind", "(III)I"⟩, prog_1_method_4_code, 5, 7, 2172),
  (⟨"HatFields", "isBelow", "(II)Z"⟩, prog_1_method_45_code, 2, 7, 2175),
  (⟨"HatFields$Plain", "windIn", "(I)I"⟩, prog_5_method_6_code, 2, 3, 2179),
  (⟨"HatFields", "windOf", "(I)I"⟩, prog_1_method_5_code, 2, 7, 2184),
  (⟨"HatFields", "person", "(II)I"⟩, prog_1_method_6_code, 3, 7, 2188),
  (⟨"HatFields", "personOf", "(II)I"⟩, prog_1_method_7_code, 3, 7, 2193),
  (⟨"HatFields", "isPerson", "(I)Z"⟩, prog_1_method_48_code, 2, 7, 2197),
  (⟨"HatFields$Plain", "ownedBy", "(I)I"⟩, prog_5_method_11_code, 4, 3, 2201),
  (⟨"HatFields$Plain", "wornBy", "(I)I"⟩, prog_5_method_12_code, 4, 3, 2205),
  (⟨"HatFields", "moves", "(II)I"⟩, prog_1_method_8_code, 4, 7, 2209),
  (⟨"HatFields", "speed", "(II)I"⟩, prog_1_method_9_code, 4, 7, 2213),
  (⟨"HatFields", "hat", "(IIII)I"⟩, prog_1_method_10_code, 6, 7, 2217),
  (⟨"HatFields", "hatOf", "(II)I"⟩, prog_1_method_11_code, 4, 7, 2223),
  (⟨"HatFields", "isHat", "(I)Z"⟩, prog_1_method_49_code, 2, 7, 2227),
  (⟨"HatFields$Plain", "placeOf", "(I)I"⟩, prog_5_method_10_code, 3, 3, 2231),
  (⟨"HatFields$Hat", "isWorn", "()Z"⟩, prog_3_method_6_code, 1, 1, 2235),
  (⟨"HatFields$Hat", "firmness", "()I"⟩, prog_3_method_10_code, 2, 1, 2239),
  (⟨"HatFields$Plain", "hour", "()I"⟩, prog_5_method_5_code, 1, 3, 3006),
  (⟨"HatFields$Hat", "flight", "(I)I"⟩, prog_3_method_11_code, 4, 1, 3010),
  (⟨"HatFields", "make", "(III)I"⟩, prog_1_method_12_code, 5, 7, 3014),
  (⟨"HatFields", "puts", "(II)I"⟩, prog_1_method_13_code, 4, 7, 3019),
  (⟨"HatFields$Hat", "lies", "()Z"⟩, prog_3_method_7_code, 1, 1, 3023),
  (⟨"HatFields", "down", "(I)I"⟩, prog_1_method_14_code, 3, 7, 3028),
  (⟨"HatFields", "found", "(II)I"⟩, prog_1_method_15_code, 3, 7, 3033),
  (⟨"HatFields$Hat", "isGone", "()Z"⟩, prog_3_method_8_code, 1, 1, 3037),
  (⟨"HatFields", "bow", "(II)I"⟩, prog_1_method_16_code, 3, 7, 3041),
  (⟨"HatFields$Plain", "swapHats", "(II)I"⟩, prog_5_method_16_code, 6, 3, 3045),
  (⟨"HatFields", "hours", "(I)I"⟩, prog_1_method_17_code, 2, 7, 3050),
  (⟨"HatFields", "isTrialLength", "(I)Z"⟩, prog_1_method_46_code, 1, 7, 3053),
  (⟨"HatFields$Plain", "passHours", "(I)V"⟩, prog_5_method_17_code, 3, 3, 3057),
  (⟨"HatFields$Plain", "passHour", "()V"⟩, prog_5_method_18_code, 3, 3, 3061),
  (⟨"HatFields$Plain", "blow", "(II)V"⟩, prog_5_method_19_code, 5, 3, 3066),
  (⟨"HatFields$Hat", "fly", "(II)V"⟩, prog_3_method_12_code, 5, 1, 3075),
  (⟨"HatFields$Plain", "runForNearest", "(I)V"⟩, prog_5_method_20_code, 4, 3, 3080),
  (⟨"HatFields$Plain", "nearestTo", "(I)I"⟩, prog_5_method_21_code, 7, 3, 3084),
  (⟨"HatFields$Person", "runTo", "(I)V"⟩, prog_4_method_3_code, 4, 2, 3091),
  (⟨"HatFields$Person", "atMost", "(II)I"⟩, prog_4_method_4_code, 2, 2, 3094),
  (⟨"HatFields$Plain", "putOnAll", "(II)V"⟩, prog_5_method_22_code, 4, 3, 3103),
  (⟨"HatFields", "clock", "(I)I"⟩, prog_1_method_18_code, 3, 7, 3107),
  (⟨"HatFields", "owns", "(II)I"⟩, prog_1_method_19_code, 3, 7, 3111),
  (⟨"HatFields", "tryHours", "(I)V"⟩, prog_1_method_52_code, 2, 7, 3115),
  (⟨"HatFields", "where", "(II)I"⟩, prog_1_method_20_code, 3, 7, 3119),
  (⟨"HatFields", "wears", "(II)I"⟩, prog_1_method_21_code, 3, 7, 3123),
  (⟨"HatFields", "lost", "(I)I"⟩, prog_1_method_22_code, 3, 7, 3127),
  (⟨"HatFields", "master", "(I)I"⟩, prog_1_method_23_code, 4, 7, 3131),
  (⟨"HatFields", "wish", "(II)I"⟩, prog_1_method_24_code, 3, 7, 3135),
  (⟨"HatFields", "isPlanLength", "(I)Z"⟩, prog_1_method_47_code, 1, 7, 3138),
  (⟨"HatFields", "bestFor", "(IIII)I"⟩, prog_1_method_53_code, 9, 7, 3142),
  (⟨"HatFields", "changeTrial", "(III)V"⟩, prog_1_method_54_code, 4, 7, 3146),
  (⟨"HatFields", "start", "(II)I"⟩, prog_1_method_25_code, 3, 7, 3150),
  (⟨"HatFields", "tie", "(II)I"⟩, prog_1_method_26_code, 3, 7, 3154),
  (⟨"HatFields", "calm", "()I"⟩, prog_1_method_27_code, 2, 7, 3158),
  (⟨"HatFields$Plain", "anyLies", "()Z"⟩, prog_5_method_15_code, 2, 3, 3163),
  (⟨"HatFields", "seed", "(I)I"⟩, prog_1_method_28_code, 3, 7, 3168),
  (⟨"HatFields", "draw", "(I)I"⟩, prog_1_method_29_code, 2, 7, 3172),
  (⟨"HatFields", "prove", "(I)I"⟩, prog_1_method_30_code, 3, 7, 3177),
  (⟨"HatFields$Plain", "allWorn", "()I"⟩, prog_5_method_13_code, 3, 3, 3181),
  (⟨"HatFields$Plain", "allGone", "()I"⟩, prog_5_method_14_code, 3, 3, 3185),
  (⟨"HatFields", "row", "(II)I"⟩, prog_1_method_31_code, 3, 7, 3190),
  (⟨"HatFields", "isRowPart", "(II)Z"⟩, prog_1_method_50_code, 3, 7, 3194),
  (⟨"HatFields", "alterRow", "(III)I"⟩, prog_1_method_32_code, 5, 7, 3198),
  (⟨"HatFields", "judge", "()I"⟩, prog_1_method_33_code, 2, 7, 3202),
  (⟨"HatFields", "isRowOfTrial", "(I)Z"⟩, prog_1_method_51_code, 2, 7, 3206),
  (⟨"HatFields", "winds", "(IIII)I"⟩, prog_1_method_34_code, 7, 7, 3210),
  (⟨"HatFields", "sheet", "(III)I"⟩, prog_1_method_35_code, 4, 7, 3216),
  (⟨"HatFields$Row", "<init>", "(II)V"⟩, prog_6_method_1_code, 3, 4, 3220),
  (⟨"HatFields", "put", "(III)I"⟩, prog_1_method_36_code, 5, 7, 3234),
  (⟨"HatFields$Row", "narrowed", "(I)I"⟩, prog_6_method_2_code, 2, 4, 3238),
  (⟨"HatFields", "item", "(III)I"⟩, prog_1_method_37_code, 5, 7, 4002),
  (⟨"HatFields", "shelf", "(III)I"⟩, prog_1_method_38_code, 4, 7, 4006),
  (⟨"HatFields$Shelf", "takeHat", "(I)V"⟩, prog_7_method_2_code, 2, 5, 4010),
  (⟨"HatFields$Shelf", "takeRow", "(LHatFields$Row;)V"⟩, prog_7_method_3_code, 2, 5, 4014),
  (⟨"HatFields", "taken", "(II)I"⟩, prog_1_method_39_code, 7, 7, 4018),
  (⟨"HatFields$Hat", "isOfKind", "(I)Z"⟩, prog_3_method_9_code, 2, 1, 4022),
  (⟨"HatFields", "act", "(III)I"⟩, prog_1_method_40_code, 5, 7, 4028),
  (⟨"HatFields$Actor", "forget", "()V"⟩, prog_2_method_2_code, 1, 0, 4032),
  (⟨"HatFields$Actor", "perform", "(ILHatFields$Hat;II)I"⟩, prog_2_method_3_code, 6, 0, 4036),
  (⟨"HatFields$Actor", "run", "(IIII)I"⟩, prog_2_method_4_code, 7, 0, 4040),
  (⟨"HatFields$Actor", "begin", "(I)V"⟩, prog_2_method_6_code, 2, 0, 4046),
  (⟨"HatFields$Actor", "share", "(I)I"⟩, prog_2_method_5_code, 3, 0, 4050),
  (⟨"HatFields", "trace", "(I)I"⟩, prog_1_method_41_code, 2, 7, 4054),
  (⟨"HatFields", "many", "(I)I"⟩, prog_1_method_42_code, 2, 7, 4058),
  (⟨"java/lang/Integer", "bitCount", "(I)I"⟩, prog_11_method_49_code, 1, 14, 4061),
  (⟨"HatFields", "keep", "()I"⟩, prog_1_method_43_code, 1, 7, 4068),
  (⟨"HatFields", "again", "()I"⟩, prog_1_method_44_code, 1, 7, 4072),
  (⟨"HatFieldsModel", "<init>", "()V"⟩, prog_10_method_1_code, 1, 8, 4077),
  (⟨"HatFieldsModel", "feed", "(JI)I"⟩, prog_10_method_9_code, 5, 8, 4237),
  (⟨"HatFieldsModel", "in", "(III)Z"⟩, prog_10_method_2_code, 3, 8, 5000),
  (⟨"HatFieldsModel", "plain", "()I"⟩, prog_10_method_25_code, 2, 8, 5005),
  (⟨"HatFieldsModel", "advance", "()V"⟩, prog_10_method_13_code, 2, 8, 5009),
  (⟨"HatFieldsModel", "byteAt", "(I)I"⟩, prog_10_method_10_code, 2, 8, 5013),
  (⟨"HatFieldsModel", "isLetter", "(I)Z"⟩, prog_10_method_11_code, 1, 8, 5016),
  (⟨"HatFieldsModel", "isDigit", "(I)Z"⟩, prog_10_method_12_code, 1, 8, 5019),
  (⟨"HatFieldsModel", "wantClause", "()V"⟩, prog_10_method_24_code, 1, 8, 5026),
  (⟨"HatFieldsModel", "isWord", "(J)Z"⟩, prog_10_method_14_code, 3, 8, 5031),
  (⟨"HatFieldsModel", "wantPerson", "()V"⟩, prog_10_method_21_code, 3, 8, 5035),
  (⟨"HatFieldsModel", "wantNumber", "(II)I"⟩, prog_10_method_18_code, 4, 8, 5039),
  (⟨"HatFieldsModel", "takes", "(J)Z"⟩, prog_10_method_20_code, 4, 8, 5044),
  (⟨"HatFieldsModel", "wantEnd", "()V"⟩, prog_10_method_19_code, 1, 8, 5048),
  (⟨"HatFieldsModel", "isMark", "(I)Z"⟩, prog_10_method_15_code, 2, 8, 5052),
  (⟨"HatFieldsModel", "wantWind", "()V"⟩, prog_10_method_23_code, 4, 8, 5057),
  (⟨"HatFieldsModel", "directionHere", "()I"⟩, prog_10_method_17_code, 1, 8, 5061),
  (⟨"HatFieldsModel", "kindHere", "()I"⟩, prog_10_method_16_code, 1, 8, 5070),
  (⟨"HatFieldsModel", "wantHat", "(I)V"⟩, prog_10_method_22_code, 6, 8, 5080),
  (⟨"HatFieldsModel", "turnsInto", "()V"⟩, prog_10_method_26_code, 2, 8, 5087),
  (⟨"HatFieldsModel", "windOf", "(I)I"⟩, prog_10_method_27_code, 2, 8, 5091),
  (⟨"HatFieldsModel", "isHour", "(I)Z"⟩, prog_10_method_3_code, 1, 8, 5094),
  (⟨"HatFieldsModel", "wind", "(III)I"⟩, prog_10_method_29_code, 5, 8, 5098),
  (⟨"HatFieldsModel", "isWind", "(II)Z"⟩, prog_10_method_28_code, 2, 8, 5101),
  (⟨"HatFieldsModel", "person", "(II)I"⟩, prog_10_method_30_code, 3, 8, 5106),
  (⟨"HatFieldsModel", "isPlace", "(I)Z"⟩, prog_10_method_4_code, 1, 8, 5109),
  (⟨"HatFieldsModel", "personOf", "(II)I"⟩, prog_10_method_33_code, 3, 8, 5113),
  (⟨"HatFieldsModel", "isPerson", "(I)Z"⟩, prog_10_method_5_code, 2, 8, 5117),
  (⟨"HatFieldsModel", "ownedBy", "(I)I"⟩, prog_10_method_32_code, 4, 8, 5121),
  (⟨"HatFieldsModel", "its", "(I)I"⟩, prog_10_method_7_code, 2, 8, 5125),
  (⟨"HatFieldsModel", "wornBy", "(I)I"⟩, prog_10_method_31_code, 4, 8, 5129),
  (⟨"HatFieldsModel", "moves", "(II)I"⟩, prog_10_method_34_code, 4, 8, 5133),
  (⟨"HatFieldsModel", "speed", "(II)I"⟩, prog_10_method_35_code, 4, 8, 5137),
  (⟨"HatFieldsModel", "hat", "(IIII)I"⟩, prog_10_method_36_code, 5, 8, 5141),
  (⟨"HatFieldsModel", "hatOf", "(II)I"⟩, prog_10_method_41_code, 3, 8, 5145),
  (⟨"HatFieldsModel", "isHat", "(I)Z"⟩, prog_10_method_6_code, 2, 8, 5149),
  (⟨"HatFieldsModel", "orNot", "(I)I"⟩, prog_10_method_40_code, 1, 8, 5152),
  (⟨"HatFieldsModel", "placeOf", "(I)I"⟩, prog_10_method_39_code, 2, 8, 5156),
  (⟨"HatFieldsModel", "holds", "(I)I"⟩, prog_10_method_37_code, 2, 8, 5160),
  (⟨"HatFieldsModel", "flies", "(II)I"⟩, prog_10_method_38_code, 5, 8, 5164),
  (⟨"HatFieldsModel", "make", "(III)I"⟩, prog_10_method_42_code, 5, 8, 5168),
  (⟨"HatFieldsModel", "puts", "(II)I"⟩, prog_10_method_44_code, 3, 8, 5172),
  (⟨"HatFieldsModel", "isLying", "(I)Z"⟩, prog_10_method_43_code, 2, 8, 5176),
  (⟨"HatFieldsModel", "down", "(I)I"⟩, prog_10_method_46_code, 2, 8, 5180),
  (⟨"HatFieldsModel", "lays", "(I)V"⟩, prog_10_method_45_code, 2, 8, 5184),
  (⟨"HatFieldsModel", "becomes", "(II)V"⟩, prog_10_method_8_code, 3, 8, 5188),
  (⟨"HatFieldsModel", "found", "(II)I"⟩, prog_10_method_48_code, 3, 8, 5192),
  (⟨"HatFieldsModel", "isGone", "(I)Z"⟩, prog_10_method_47_code, 2, 8, 5196),
  (⟨"HatFieldsModel", "bow", "(II)I"⟩, prog_10_method_49_code, 6, 8, 5200),
  (⟨"HatFieldsModel", "hours", "(I)I"⟩, prog_10_method_57_code, 2, 8, 5204),
  (⟨"HatFieldsModel", "isTrial", "(I)Z"⟩, prog_10_method_56_code, 1, 8, 5207),
  (⟨"HatFieldsModel", "go", "(I)V"⟩, prog_10_method_55_code, 4, 8, 5211),
  (⟨"HatFieldsModel", "hourGoes", "(II)V"⟩, prog_10_method_54_code, 4, 8, 5215),
  (⟨"HatFieldsModel", "blows", "(II)V"⟩, prog_10_method_50_code, 7, 8, 5219),
  (⟨"HatFieldsModel", "runs", "(I)V"⟩, prog_10_method_53_code, 5, 8, 5223),
  (⟨"HatFieldsModel", "apart", "(II)I"⟩, prog_10_method_51_code, 4, 8, 5226),
  (⟨"HatFieldsModel", "stepTo", "(II)I"⟩, prog_10_method_52_code, 3, 8, 5229),
  (⟨"HatFieldsModel", "clock", "(I)I"⟩, prog_10_method_58_code, 3, 8, 5233),
  (⟨"HatFieldsModel", "owns", "(II)I"⟩, prog_10_method_61_code, 3, 8, 5237),
  (⟨"HatFieldsModel", "ownsThen", "(II)I"⟩, prog_10_method_60_code, 4, 8, 6001),
  (⟨"HatFieldsModel", "lends", "()V"⟩, prog_10_method_59_code, 2, 8, 6005),
  (⟨"HatFieldsModel", "where", "(II)I"⟩, prog_10_method_62_code, 4, 8, 6009),
  (⟨"HatFieldsModel", "wears", "(II)I"⟩, prog_10_method_63_code, 4, 8, 6013),
  (⟨"HatFieldsModel", "lost", "(I)I"⟩, prog_10_method_64_code, 4, 8, 6017),
  (⟨"HatFieldsModel", "master", "(I)I"⟩, prog_10_method_65_code, 4, 8, 6021),
  (⟨"HatFieldsModel", "wish", "(II)I"⟩, prog_10_method_67_code, 10, 8, 6025),
  (⟨"HatFieldsModel", "isSoon", "(I)Z"⟩, prog_10_method_66_code, 1, 8, 6028),
  (⟨"HatFieldsModel", "start", "(II)I"⟩, prog_10_method_68_code, 8, 8, 6032),
  (⟨"HatFieldsModel", "tie", "(II)I"⟩, prog_10_method_69_code, 9, 8, 6036),
  (⟨"HatFieldsModel", "calm", "()I"⟩, prog_10_method_71_code, 2, 8, 6040),
  (⟨"HatFieldsModel", "isAllWorn", "()Z"⟩, prog_10_method_70_code, 3, 8, 6044),
  (⟨"HatFieldsModel", "seed", "(I)I"⟩, prog_10_method_72_code, 3, 8, 6048),
  (⟨"HatFieldsModel", "draw", "(I)I"⟩, prog_10_method_73_code, 2, 8, 6052),
  (⟨"HatFieldsModel", "prove", "(I)I"⟩, prog_10_method_76_code, 3, 8, 6057),
  (⟨"HatFieldsModel", "findRows", "(I)V"⟩, prog_10_method_75_code, 4, 8, 6061),
  (⟨"HatFieldsModel", "goneSet", "()I"⟩, prog_10_method_74_code, 3, 8, 6065),
  (⟨"HatFieldsModel", "row", "(II)I"⟩, prog_10_method_78_code, 3, 8, 6069),
  (⟨"HatFieldsModel", "isRow", "(II)Z"⟩, prog_10_method_77_code, 3, 8, 6073),
  (⟨"HatFieldsModel", "alterRow", "(III)I"⟩, prog_10_method_79_code, 5, 8, 6077),
  (⟨"HatFieldsModel", "judge", "()I"⟩, prog_10_method_80_code, 4, 8, 6081),
  (⟨"HatFieldsModel", "winds", "(IIII)I"⟩, prog_10_method_81_code, 9, 8, 6085),
  (⟨"HatFieldsModel", "isShelf", "(I)Z"⟩, prog_10_method_82_code, 1, 8, 6088),
  (⟨"HatFieldsModel", "lacksSort", "(II)I"⟩, prog_10_method_85_code, 3, 8, 6092),
  (⟨"HatFieldsModel", "sheet", "(III)I"⟩, prog_10_method_83_code, 5, 8, 6097),
  (⟨"HatFieldsModel", "put", "(III)I"⟩, prog_10_method_84_code, 4, 8, 6101),
  (⟨"HatFieldsModel", "item", "(III)I"⟩, prog_10_method_86_code, 5, 8, 6105),
  (⟨"HatFieldsModel", "shelf", "(III)I"⟩, prog_10_method_88_code, 4, 8, 6109),
  (⟨"HatFieldsModel", "isHeld", "(II)Z"⟩, prog_10_method_87_code, 3, 8, 6113),
  (⟨"HatFieldsModel", "taken", "(II)I"⟩, prog_10_method_91_code, 4, 8, 6117),
  (⟨"HatFieldsModel", "kindOn", "(I)I"⟩, prog_10_method_89_code, 2, 8, 6121),
  (⟨"HatFieldsModel", "isUnder", "(II)Z"⟩, prog_10_method_90_code, 2, 8, 6124),
  (⟨"HatFieldsModel", "act", "(III)I"⟩, prog_10_method_102_code, 6, 8, 6128),
  (⟨"HatFieldsModel", "holdsIt", "(I)I"⟩, prog_10_method_95_code, 2, 8, 6132),
  (⟨"HatFieldsModel", "strawHolds", "(I)I"⟩, prog_10_method_94_code, 2, 8, 6136),
  (⟨"HatFieldsModel", "ran", "(I)V"⟩, prog_10_method_92_code, 2, 8, 6140),
  (⟨"HatFieldsModel", "plainHolds", "(I)I"⟩, prog_10_method_93_code, 2, 8, 6144),
  (⟨"HatFieldsModel", "fliesIt", "(I)I"⟩, prog_10_method_97_code, 3, 8, 6148),
  (⟨"HatFieldsModel", "plainFlies", "(I)I"⟩, prog_10_method_96_code, 2, 8, 6152),
  (⟨"HatFieldsModel", "sharesIt", "(I)I"⟩, prog_10_method_99_code, 3, 8, 6156),
  (⟨"HatFieldsModel", "plainShares", "(I)I"⟩, prog_10_method_98_code, 2, 8, 6160),
  (⟨"HatFieldsModel", "tellsIt", "(I)I"⟩, prog_10_method_101_code, 3, 8, 6164),
  (⟨"HatFieldsModel", "plainTells", "(I)I"⟩, prog_10_method_100_code, 2, 8, 6168),
  (⟨"HatFieldsModel", "trace", "(I)I"⟩, prog_10_method_103_code, 2, 8, 6172),
  (⟨"HatFieldsModel", "many", "(I)I"⟩, prog_10_method_104_code, 4, 8, 6176),
  (⟨"HatFieldsModel", "keep", "()I"⟩, prog_10_method_107_code, 1, 8, 6180),
  (⟨"HatFieldsModel", "moveAll", "(Z)V"⟩, prog_10_method_106_code, 2, 8, 6184),
  (⟨"HatFieldsModel", "moveRow", "([IIZ)V"⟩, prog_10_method_105_code, 5, 8, 6188),
  (⟨"HatFieldsModel", "again", "()I"⟩, prog_10_method_108_code, 1, 8, 6192),
  (⟨"HatFieldsLaw", "law", "([I)Z"⟩, code, 4, 10, 0)]
def hk_fL : List (Nat × Nat × Nat × Nat × Nat) := [
  (0, 11, 0, 0, 1152),
  (0, 15, 0, 1, 1154),
  (0, 19, 1, 0, 1058),
  (0, 24, 0, 2, 1156),
  (0, 25, 0, 3, 1157),
  (0, 28, 1, 1, 1061),
  (0, 31, 0, 4, 1158),
  (0, 32, 0, 5, 1159),
  (1, 9, 1, 3, 1066),
  (1, 15, 1, 4, 1069),
  (1, 18, 1, 0, 1057),
  (1, 21, 1, 1, 1060),
  (1, 24, 1, 2, 1063),
  (2, 9, 2, 0, 1040),
  (2, 15, 2, 1, 1043),
  (3, 9, 3, 0, 1083),
  (3, 15, 3, 1, 1084),
  (3, 20, 3, 2, 1086),
  (3, 26, 3, 3, 1088),
  (3, 35, 3, 4, 1091),
  (3, 39, 3, 5, 1094),
  (3, 42, 3, 6, 1097),
  (3, 62, 2, 0, 1042),
  (3, 65, 2, 1, 1045),
  (3, 72, 1, 2, 1064),
  (3, 79, 1, 3, 1067),
  (3, 82, 1, 4, 1070),
  (4, 9, 4, 0, 3222),
  (4, 15, 4, 1, 3224),
  (5, 9, 5, 0, 1178),
  (5, 13, 5, 1, 1180),
  (6, 9, 6, 0, 1121),
  (6, 15, 6, 1, 1122),
  (6, 19, 6, 4, 1126),
  (6, 22, 6, 5, 1127),
  (6, 33, 6, 2, 1124),
  (6, 44, 3, 5, 1096),
  (6, 57, 3, 4, 1092),
  (6, 74, 3, 6, 1098),
  (6, 94, 3, 3, 1089),
  (6, 142, 6, 3, 1125),
  (7, 10, 7, 0, 1187),
  (7, 16, 7, 1, 1188),
  (7, 19, 7, 2, 1189),
  (7, 22, 7, 4, 1191),
  (7, 29, 7, 6, 1193),
  (7, 33, 7, 7, 1194),
  (7, 39, 7, 9, 1196),
  (7, 45, 7, 10, 1197),
  (7, 52, 7, 11, 1198),
  (7, 65, 6, 1, 1123),
  (7, 76, 7, 8, 1195),
  (7, 79, 3, 5, 1095),
  (7, 94, 3, 4, 1093),
  (7, 105, 3, 2, 1087),
  (7, 109, 2, 0, 1041),
  (7, 114, 2, 1, 1044),
  (7, 127, 3, 3, 1090),
  (7, 140, 1, 0, 1059),
  (7, 143, 1, 1, 1062),
  (7, 146, 1, 2, 1065),
  (7, 149, 1, 3, 1068),
  (7, 158, 3, 1, 1085),
  (7, 175, 1, 4, 1071),
  (7, 196, 3, 6, 1099),
  (7, 231, 4, 0, 3223),
  (7, 234, 4, 1, 3225),
  (7, 257, 5, 0, 1179),
  (7, 260, 5, 1, 1181),
  (7, 274, 0, 1, 1155),
  (7, 277, 0, 0, 1153),
  (7, 285, 7, 5, 1192),
  (7, 288, 7, 3, 1190),
  (8, 7, 8, 0, 4079),
  (8, 13, 8, 1, 4080),
  (8, 16, 8, 3, 4082),
  (8, 19, 8, 5, 4084),
  (8, 22, 8, 6, 4085),
  (8, 25, 8, 7, 4086),
  (8, 28, 8, 8, 4087),
  (8, 31, 8, 10, 4089),
  (8, 35, 8, 11, 4090),
  (8, 38, 8, 22, 4101),
  (8, 41, 8, 23, 4102),
  (8, 44, 8, 24, 4103),
  (8, 47, 8, 25, 4104),
  (8, 50, 8, 26, 4105),
  (8, 53, 8, 27, 4106),
  (8, 56, 8, 28, 4107),
  (8, 59, 8, 29, 4108),
  (8, 62, 8, 30, 4109),
  (8, 65, 8, 31, 4110),
  (8, 68, 8, 32, 4111),
  (8, 71, 8, 35, 4114),
  (8, 74, 8, 36, 4115),
  (8, 77, 8, 37, 4116),
  (8, 81, 8, 38, 4117),
  (8, 84, 8, 39, 4118),
  (8, 87, 8, 40, 4119),
  (8, 90, 8, 44, 4123),
  (8, 93, 8, 48, 4127),
  (8, 96, 8, 50, 4129),
  (8, 103, 8, 2, 4081),
  (8, 106, 8, 4, 4083),
  (8, 109, 8, 9, 4088),
  (8, 112, 8, 12, 4091),
  (8, 117, 8, 15, 4094),
  (8, 120, 8, 14, 4093),
  (8, 134, 8, 13, 4092),
  (8, 137, 8, 16, 4095),
  (8, 141, 8, 17, 4096),
  (8, 174, 8, 18, 4097),
  (8, 184, 8, 19, 4098),
  (8, 199, 8, 20, 4099),
  (8, 224, 8, 21, 4100),
  (8, 240, 8, 33, 4112),
  (8, 331, 8, 34, 4113),
  (8, 360, 8, 45, 4124),
  (8, 366, 8, 42, 4121),
  (8, 372, 8, 41, 4120),
  (8, 384, 8, 43, 4122),
  (8, 387, 8, 46, 4125),
  (8, 405, 8, 49, 4128),
  (8, 416, 8, 47, 4126),
  (9, 9, 9, 0, 6194),
  (9, 15, 9, 1, 6195)]
def hk_zL : List (Nat × Nat × Nat × Nat) := [
  (0, 40, 1, 4041),
  (1, 27, 0, 4023),
  (9, 38, 2, 2045),
  (9, 1053, 3, 2061)]
def hk_zn (a : Nat) : String × String × String := match a with
  | 0 => ("HatFields$Hat", "ABOVE", "[I")
  | 1 => ("HatFields$Actor", "BODIES", "[I")
  | 2 => ("java/lang/String", "COMPACT_STRINGS", "Z")
  | _ => ("jdk/internal/util/Preconditions", "SIOOBE_FORMATTER", "Ljava/util/function/BiFunction;")
def hk_mL_0 : List (Nat × Nat × Nat × Nat × Nat × Nat × Nat × Nat × Nat) := [
  (0, 36, 0, 120, 4037, 4039, 24, 1006, 4040),
  (0, 43, 0, 121, 4043, 4045, 25, 1006, 4046),
  (0, 47, 0, 122, 4047, 4049, 26, 1006, 4050),
  (1, 37, 3, 44, 3076, 2174, 0, 1001, 2175),
  (2, 18, 1, 79, 3092, 3093, 0, 1003, 3094),
  (3, 30, 4, 2, 1036, 1037, 0, 1003, 1038),
  (3, 31, 4, 3, 1053, 1054, 0, 1004, 1055),
  (3, 32, 0, 13, 2008, 2009, 2010, 1002, 2011),
  (3, 45, 0, 14, 2012, 2013, 2014, 1002, 2015),
  (3, 55, 0, 41, 2161, 2162, 2163, 1003, 2164),
  (3, 59, 0, 42, 2165, 2166, 2167, 1004, 2168),
  (3, 68, 0, 32, 2111, 2112, 2113, 1004, 2114),
  (3, 75, 0, 58, 2232, 2233, 2234, 1004, 2235),
  (3, 85, 0, 67, 3186, 3035, 3036, 1004, 3037),
  (3, 88, 0, 64, 3070, 3021, 3022, 1004, 3023),
  (3, 91, 0, 33, 3046, 2117, 2118, 1004, 2119)]
def hk_mL_1 : List (Nat × Nat × Nat × Nat × Nat × Nat × Nat × Nat × Nat) := [
  (3, 95, 0, 73, 3058, 3059, 3060, 1002, 3061),
  (3, 98, 0, 60, 3062, 3004, 3005, 1002, 3006),
  (3, 102, 0, 74, 3063, 3065, 15, 1002, 3066),
  (3, 105, 0, 76, 3077, 3079, 16, 1002, 3080),
  (3, 108, 0, 59, 3067, 2237, 2238, 1004, 2239),
  (3, 111, 0, 57, 3068, 2229, 2230, 1002, 2231),
  (3, 115, 0, 34, 3069, 2122, 2123, 1004, 2124),
  (3, 118, 0, 61, 3071, 3008, 3009, 1004, 3010),
  (3, 121, 0, 75, 3072, 3073, 3074, 1004, 3075),
  (3, 124, 0, 77, 3081, 3083, 17, 1002, 3084),
  (3, 127, 0, 78, 3088, 3089, 3090, 1003, 3091),
  (3, 130, 0, 80, 3100, 3102, 18, 1002, 3103),
  (6, 25, 0, 12, 2004, 2005, 2006, 1002, 2007),
  (6, 30, 0, 15, 2016, 2018, 0, 1005, 2019),
  (6, 36, 0, 17, 2024, 2026, 2, 1005, 2027),
  (6, 40, 0, 18, 2028, 2030, 3, 1005, 2031)]
def hk_mL_2 : List (Nat × Nat × Nat × Nat × Nat × Nat × Nat × Nat × Nat) := [
  (6, 47, 0, 27, 2090, 2092, 5, 1005, 2093),
  (6, 53, 0, 19, 2033, 2035, 4, 1005, 2036),
  (6, 60, 0, 36, 2130, 2132, 10, 1005, 2133),
  (6, 65, 0, 38, 2140, 2142, 11, 1005, 2143),
  (6, 70, 0, 28, 2094, 2096, 6, 1005, 2097),
  (6, 76, 0, 35, 2125, 2127, 9, 1005, 2128),
  (6, 79, 0, 29, 2098, 2100, 7, 1005, 2101),
  (6, 84, 0, 37, 2135, 2136, 2137, 1002, 2138),
  (6, 90, 0, 30, 2103, 2105, 8, 1005, 2106),
  (6, 98, 0, 31, 2107, 2108, 2109, 1002, 2110),
  (6, 104, 0, 33, 2116, 2117, 2118, 1004, 2119),
  (6, 112, 0, 34, 2121, 2122, 2123, 1004, 2124),
  (6, 115, 0, 39, 2144, 2146, 12, 1005, 2147),
  (6, 118, 0, 14, 2152, 2013, 2014, 1002, 2015),
  (6, 145, 0, 20, 2037, 2038, 2039, 1009, 2040),
  (6, 149, 0, 22, 2047, 2048, 2049, 1009, 2050)]
def hk_mL_3 : List (Nat × Nat × Nat × Nat × Nat × Nat × Nat × Nat × Nat) := [
  (6, 153, 0, 16, 2020, 2022, 1, 1005, 2023),
  (7, 9, 2, 1, 1027, 1028, 0, 1002, 1029),
  (7, 28, 4, 4, 1117, 1118, 0, 1005, 1119),
  (7, 51, 4, 5, 1148, 1149, 0, 1006, 1150),
  (7, 56, 4, 6, 1174, 1175, 0, 1007, 1176),
  (7, 57, 0, 8, 1228, 1229, 1230, 1005, 1231),
  (7, 61, 0, 9, 1232, 1233, 1234, 1005, 1235),
  (7, 68, 0, 11, 2000, 2001, 2002, 1005, 2003),
  (7, 72, 0, 40, 2154, 2155, 2156, 1002, 2157),
  (7, 82, 1, 44, 2173, 2174, 0, 1001, 2175),
  (7, 86, 0, 45, 2176, 2177, 2178, 1002, 2179),
  (7, 90, 0, 14, 2180, 2013, 2014, 1002, 2015),
  (7, 97, 0, 37, 2189, 2136, 2137, 1002, 2138),
  (7, 101, 0, 49, 2194, 2196, 13, 1001, 2197),
  (7, 117, 0, 50, 2198, 2199, 2200, 1002, 2201),
  (7, 120, 0, 51, 2202, 2203, 2204, 1002, 2205)]
def hk_mL_4 : List (Nat × Nat × Nat × Nat × Nat × Nat × Nat × Nat × Nat) := [
  (7, 123, 0, 31, 2218, 2108, 2109, 1002, 2110),
  (7, 131, 0, 34, 2219, 2122, 2123, 1004, 2124),
  (7, 137, 0, 56, 2224, 2226, 14, 1001, 2227),
  (7, 152, 0, 57, 2228, 2229, 2230, 1002, 2231),
  (7, 155, 0, 59, 2236, 2237, 2238, 1004, 2239),
  (7, 161, 0, 60, 3003, 3004, 3005, 1002, 3006),
  (7, 164, 0, 61, 3007, 3008, 3009, 1004, 3010),
  (7, 167, 0, 32, 3015, 2112, 2113, 1004, 2114),
  (7, 171, 0, 64, 3020, 3021, 3022, 1004, 3023),
  (7, 178, 0, 33, 3024, 2117, 2118, 1004, 2119),
  (7, 181, 0, 58, 3029, 2233, 2234, 1004, 2235),
  (7, 184, 0, 67, 3034, 3035, 3036, 1004, 3037),
  (7, 187, 0, 69, 3042, 3043, 3044, 1002, 3045),
  (7, 190, 1, 71, 3051, 3052, 0, 1001, 3053),
  (7, 193, 0, 72, 3054, 3055, 3056, 1002, 3057),
  (7, 199, 0, 83, 3112, 3114, 19, 1001, 3115)]
def hk_mL_5 : List (Nat × Nat × Nat × Nat × Nat × Nat × Nat × Nat × Nat) := [
  (7, 202, 1, 89, 3136, 3137, 0, 1001, 3138),
  (7, 205, 0, 90, 3139, 3141, 20, 1001, 3142),
  (7, 209, 0, 13, 3159, 2009, 2010, 1002, 2011),
  (7, 212, 0, 95, 3160, 3161, 3162, 1002, 3163),
  (7, 215, 0, 73, 3164, 3059, 3060, 1002, 3061),
  (7, 219, 0, 99, 3178, 3179, 3180, 1002, 3181),
  (7, 222, 0, 100, 3182, 3183, 3184, 1002, 3185),
  (7, 225, 0, 102, 3191, 3193, 22, 1001, 3194),
  (7, 228, 0, 105, 3203, 3205, 23, 1001, 3206),
  (7, 245, 2, 108, 3218, 3219, 0, 1015, 3220),
  (7, 247, 0, 110, 3235, 3236, 3237, 1015, 3238),
  (7, 250, 0, 113, 4007, 4008, 4009, 1007, 4010),
  (7, 253, 0, 114, 4011, 4012, 4013, 1007, 4014),
  (7, 264, 0, 116, 4019, 4020, 4021, 1004, 4022),
  (7, 267, 0, 118, 4029, 4030, 4031, 1006, 4032),
  (7, 270, 0, 119, 4033, 4034, 4035, 1006, 4036)]
def hk_mL_6 : List (Nat × Nat × Nat × Nat × Nat × Nat × Nat × Nat × Nat) := [
  (7, 280, 1, 125, 4059, 4060, 0, 1016, 4061),
  (7, 292, 0, 91, 3143, 3145, 21, 1001, 3146),
  (8, 99, 1, 130, 4238, 4239, 0, 1008, 5000),
  (8, 123, 0, 133, 5010, 5012, 28, 1008, 5013),
  (8, 127, 1, 134, 5014, 5015, 0, 1008, 5016),
  (8, 131, 1, 135, 5017, 5018, 0, 1008, 5019),
  (8, 152, 0, 137, 5028, 5030, 30, 1008, 5031),
  (8, 178, 0, 132, 5006, 5008, 27, 1008, 5009),
  (8, 181, 0, 142, 5049, 5051, 35, 1008, 5052),
  (8, 187, 0, 139, 5036, 5038, 32, 1008, 5039),
  (8, 193, 0, 140, 5041, 5043, 33, 1008, 5044),
  (8, 196, 0, 141, 5045, 5047, 34, 1008, 5048),
  (8, 208, 0, 144, 5058, 5060, 37, 1008, 5061),
  (8, 214, 0, 138, 5032, 5034, 31, 1008, 5035),
  (8, 219, 0, 143, 5054, 5056, 36, 1008, 5057),
  (8, 227, 0, 145, 5067, 5069, 38, 1008, 5070)]
def hk_mL_7 : List (Nat × Nat × Nat × Nat × Nat × Nat × Nat × Nat × Nat) := [
  (8, 230, 0, 146, 5077, 5079, 39, 1008, 5080),
  (8, 234, 0, 136, 5023, 5025, 29, 1008, 5026),
  (8, 237, 0, 147, 5084, 5086, 40, 1008, 5087),
  (8, 243, 1, 149, 5092, 5093, 0, 1008, 5094),
  (8, 246, 1, 151, 5099, 5100, 0, 1008, 5101),
  (8, 250, 0, 148, 5102, 5089, 5090, 1008, 5091),
  (8, 253, 1, 153, 5107, 5108, 0, 1008, 5109),
  (8, 256, 0, 157, 5122, 5124, 43, 1008, 5125),
  (8, 259, 0, 155, 5114, 5116, 41, 1008, 5117),
  (8, 262, 0, 156, 5118, 5120, 42, 1008, 5121),
  (8, 265, 0, 158, 5126, 5128, 44, 1008, 5129),
  (8, 268, 0, 163, 5146, 5148, 45, 1008, 5149),
  (8, 271, 1, 164, 5150, 5151, 0, 1008, 5152),
  (8, 274, 0, 165, 5153, 5155, 46, 1008, 5156),
  (8, 277, 0, 166, 5157, 5159, 47, 1008, 5160),
  (8, 280, 0, 167, 5161, 5163, 48, 1008, 5164)]
def hk_mL_8 : List (Nat × Nat × Nat × Nat × Nat × Nat × Nat × Nat × Nat) := [
  (8, 283, 0, 170, 5173, 5175, 49, 1008, 5176),
  (8, 286, 0, 173, 5185, 5187, 51, 1008, 5188),
  (8, 290, 0, 172, 5181, 5183, 50, 1008, 5184),
  (8, 293, 0, 175, 5193, 5195, 52, 1008, 5196),
  (8, 296, 1, 183, 5224, 5225, 0, 1008, 5226),
  (8, 299, 1, 184, 5227, 5228, 0, 1008, 5229),
  (8, 302, 0, 181, 5216, 5218, 55, 1008, 5219),
  (8, 305, 0, 182, 5220, 5222, 56, 1008, 5223),
  (8, 308, 0, 180, 5212, 5214, 54, 1008, 5215),
  (8, 311, 1, 178, 5205, 5206, 0, 1008, 5207),
  (8, 314, 0, 179, 5208, 5210, 53, 1008, 5211),
  (8, 317, 0, 188, 6002, 6004, 58, 1008, 6005),
  (8, 320, 0, 187, 5238, 6000, 57, 1008, 6001),
  (8, 323, 1, 194, 6026, 6027, 0, 1008, 6028),
  (8, 326, 0, 198, 6041, 6043, 59, 1008, 6044),
  (8, 334, 0, 203, 6062, 6064, 61, 1008, 6065)]
def hk_mL_9 : List (Nat × Nat × Nat × Nat × Nat × Nat × Nat × Nat × Nat) := [
  (8, 337, 0, 202, 6058, 6060, 60, 1008, 6061),
  (8, 340, 0, 205, 6070, 6072, 62, 1008, 6073),
  (8, 343, 1, 209, 6086, 6087, 0, 1008, 6088),
  (8, 346, 0, 210, 6089, 6091, 63, 1008, 6092),
  (8, 351, 0, 215, 6110, 6112, 64, 1008, 6113),
  (8, 354, 0, 217, 6118, 6120, 65, 1008, 6121),
  (8, 357, 1, 218, 6122, 6123, 0, 1008, 6124),
  (8, 363, 0, 222, 6137, 6139, 68, 1008, 6140),
  (8, 369, 0, 223, 6141, 6143, 69, 1008, 6144),
  (8, 375, 0, 221, 6133, 6135, 67, 1008, 6136),
  (8, 378, 0, 220, 6129, 6131, 66, 1008, 6132),
  (8, 381, 0, 225, 6149, 6151, 71, 1008, 6152),
  (8, 390, 0, 227, 6157, 6159, 73, 1008, 6160),
  (8, 393, 0, 224, 6145, 6147, 70, 1008, 6148),
  (8, 396, 0, 229, 6165, 6167, 75, 1008, 6168),
  (8, 399, 0, 226, 6153, 6155, 72, 1008, 6156)]
def hk_mL_10 : List (Nat × Nat × Nat × Nat × Nat × Nat × Nat × Nat × Nat) := [
  (8, 402, 0, 228, 6161, 6163, 74, 1008, 6164),
  (8, 408, 0, 234, 6185, 6187, 77, 1008, 6188),
  (8, 412, 0, 233, 6181, 6183, 76, 1008, 6184),
  (9, 335, 0, 21, 2041, 2042, 2043, 1009, 2044),
  (9, 492, 0, 23, 2051, 2052, 2053, 1009, 2054),
  (9, 495, 1, 24, 2055, 2056, 0, 1010, 2057),
  (9, 1059, 1, 26, 2063, 2064, 0, 1011, 2065),
  (10, 9, 2, 0, 1019, 1020, 0, 1001, 1021),
  (10, 12, 2, 128, 4075, 4076, 0, 1008, 4077),
  (10, 15, 0, 7, 1224, 1225, 1226, 1001, 1227),
  (10, 19, 0, 129, 4234, 4235, 4236, 1008, 4237),
  (10, 20, 0, 10, 1236, 1237, 1238, 1001, 1239),
  (10, 24, 0, 131, 5002, 5003, 5004, 1008, 5005),
  (10, 25, 0, 43, 2169, 2170, 2171, 1001, 2172),
  (10, 29, 0, 150, 5095, 5096, 5097, 1008, 5098),
  (10, 30, 0, 46, 2181, 2182, 2183, 1001, 2184)]
def hk_mL_11 : List (Nat × Nat × Nat × Nat × Nat × Nat × Nat × Nat × Nat) := [
  (10, 34, 0, 148, 5088, 5089, 5090, 1008, 5091),
  (10, 35, 0, 47, 2185, 2186, 2187, 1001, 2188),
  (10, 39, 0, 152, 5103, 5104, 5105, 1008, 5106),
  (10, 40, 0, 48, 2190, 2191, 2192, 1001, 2193),
  (10, 43, 0, 154, 5110, 5111, 5112, 1008, 5113),
  (10, 44, 0, 52, 2206, 2207, 2208, 1001, 2209),
  (10, 47, 0, 159, 5130, 5131, 5132, 1008, 5133),
  (10, 48, 0, 53, 2210, 2211, 2212, 1001, 2213),
  (10, 51, 0, 160, 5134, 5135, 5136, 1008, 5137),
  (10, 52, 0, 54, 2214, 2215, 2216, 1001, 2217),
  (10, 56, 0, 161, 5138, 5139, 5140, 1008, 5141),
  (10, 57, 0, 55, 2220, 2221, 2222, 1001, 2223),
  (10, 60, 0, 162, 5142, 5143, 5144, 1008, 5145),
  (10, 61, 0, 62, 3011, 3012, 3013, 1001, 3014),
  (10, 64, 0, 168, 5165, 5166, 5167, 1008, 5168),
  (10, 65, 0, 63, 3016, 3017, 3018, 1001, 3019)]
def hk_mL_12 : List (Nat × Nat × Nat × Nat × Nat × Nat × Nat × Nat × Nat) := [
  (10, 68, 0, 169, 5169, 5170, 5171, 1008, 5172),
  (10, 69, 0, 65, 3025, 3026, 3027, 1001, 3028),
  (10, 72, 0, 171, 5177, 5178, 5179, 1008, 5180),
  (10, 73, 0, 66, 3030, 3031, 3032, 1001, 3033),
  (10, 76, 0, 174, 5189, 5190, 5191, 1008, 5192),
  (10, 77, 0, 68, 3038, 3039, 3040, 1001, 3041),
  (10, 80, 0, 176, 5197, 5198, 5199, 1008, 5200),
  (10, 81, 0, 70, 3047, 3048, 3049, 1001, 3050),
  (10, 84, 0, 177, 5201, 5202, 5203, 1008, 5204),
  (10, 85, 0, 81, 3104, 3105, 3106, 1001, 3107),
  (10, 88, 0, 185, 5230, 5231, 5232, 1008, 5233),
  (10, 89, 0, 82, 3108, 3109, 3110, 1001, 3111),
  (10, 92, 0, 186, 5234, 5235, 5236, 1008, 5237),
  (10, 93, 0, 84, 3116, 3117, 3118, 1001, 3119),
  (10, 96, 0, 189, 6006, 6007, 6008, 1008, 6009),
  (10, 97, 0, 85, 3120, 3121, 3122, 1001, 3123)]
def hk_mL_13 : List (Nat × Nat × Nat × Nat × Nat × Nat × Nat × Nat × Nat) := [
  (10, 100, 0, 190, 6010, 6011, 6012, 1008, 6013),
  (10, 101, 0, 86, 3124, 3125, 3126, 1001, 3127),
  (10, 104, 0, 191, 6014, 6015, 6016, 1008, 6017),
  (10, 105, 0, 87, 3128, 3129, 3130, 1001, 3131),
  (10, 108, 0, 192, 6018, 6019, 6020, 1008, 6021),
  (10, 109, 0, 88, 3132, 3133, 3134, 1001, 3135),
  (10, 112, 0, 193, 6022, 6023, 6024, 1008, 6025),
  (10, 113, 0, 92, 3147, 3148, 3149, 1001, 3150),
  (10, 116, 0, 195, 6029, 6030, 6031, 1008, 6032),
  (10, 117, 0, 93, 3151, 3152, 3153, 1001, 3154),
  (10, 120, 0, 196, 6033, 6034, 6035, 1008, 6036),
  (10, 121, 0, 94, 3155, 3156, 3157, 1001, 3158),
  (10, 124, 0, 197, 6037, 6038, 6039, 1008, 6040),
  (10, 125, 0, 96, 3165, 3166, 3167, 1001, 3168),
  (10, 128, 0, 199, 6045, 6046, 6047, 1008, 6048),
  (10, 129, 0, 97, 3169, 3170, 3171, 1001, 3172)]
def hk_mL_14 : List (Nat × Nat × Nat × Nat × Nat × Nat × Nat × Nat × Nat) := [
  (10, 132, 0, 200, 6049, 6050, 6051, 1008, 6052),
  (10, 133, 0, 98, 3174, 3175, 3176, 1001, 3177),
  (10, 136, 0, 201, 6054, 6055, 6056, 1008, 6057),
  (10, 137, 0, 101, 3187, 3188, 3189, 1001, 3190),
  (10, 140, 0, 204, 6066, 6067, 6068, 1008, 6069),
  (10, 141, 0, 103, 3195, 3196, 3197, 1001, 3198),
  (10, 144, 0, 206, 6074, 6075, 6076, 1008, 6077),
  (10, 145, 0, 104, 3199, 3200, 3201, 1001, 3202),
  (10, 148, 0, 207, 6078, 6079, 6080, 1008, 6081),
  (10, 149, 0, 106, 3207, 3208, 3209, 1001, 3210),
  (10, 152, 0, 208, 6082, 6083, 6084, 1008, 6085),
  (10, 153, 0, 107, 3213, 3214, 3215, 1001, 3216),
  (10, 156, 0, 211, 6094, 6095, 6096, 1008, 6097),
  (10, 157, 0, 109, 3231, 3232, 3233, 1001, 3234),
  (10, 160, 0, 212, 6098, 6099, 6100, 1008, 6101),
  (10, 161, 0, 111, 3239, 4000, 4001, 1001, 4002)]
def hk_mL_15 : List (Nat × Nat × Nat × Nat × Nat × Nat × Nat × Nat × Nat) := [
  (10, 164, 0, 213, 6102, 6103, 6104, 1008, 6105),
  (10, 165, 0, 112, 4003, 4004, 4005, 1001, 4006),
  (10, 168, 0, 214, 6106, 6107, 6108, 1008, 6109),
  (10, 169, 0, 115, 4015, 4016, 4017, 1001, 4018),
  (10, 172, 0, 216, 6114, 6115, 6116, 1008, 6117),
  (10, 173, 0, 117, 4025, 4026, 4027, 1001, 4028),
  (10, 176, 0, 219, 6125, 6126, 6127, 1008, 6128),
  (10, 177, 0, 123, 4051, 4052, 4053, 1001, 4054),
  (10, 180, 0, 230, 6169, 6170, 6171, 1008, 6172),
  (10, 181, 0, 124, 4055, 4056, 4057, 1001, 4058),
  (10, 184, 0, 231, 6173, 6174, 6175, 1008, 6176),
  (10, 185, 0, 126, 4065, 4066, 4067, 1001, 4068),
  (10, 188, 0, 232, 6177, 6178, 6179, 1008, 6180),
  (10, 189, 0, 127, 4069, 4070, 4071, 1001, 4072),
  (10, 192, 0, 235, 6189, 6190, 6191, 1008, 6192),
  (11, 9, 1, 25, 2058, 2059, 0, 1009, 2060)]
def hk_mL : List (Nat × Nat × Nat × Nat × Nat × Nat × Nat × Nat × Nat) := hk_mL_0 ++ hk_mL_1 ++ hk_mL_2 ++ hk_mL_3 ++ hk_mL_4 ++ hk_mL_5 ++ hk_mL_6 ++ hk_mL_7 ++ hk_mL_8 ++ hk_mL_9 ++ hk_mL_10 ++ hk_mL_11 ++ hk_mL_12 ++ hk_mL_13 ++ hk_mL_14 ++ hk_mL_15
def hk_oL : List (Nat × Nat × Nat) := [
  (0, 3, 1151),
  (1, 3, 1056),
  (2, 3, 1039),
  (3, 3, 1030),
  (4, 3, 3221),
  (5, 1, 1177),
  (6, 3, 1120),
  (7, 1, 1022),
  (8, 1, 4078)]
def hk_yL : List (Nat × Nat × Nat) := [
  (3, 49, 2158)]
def hk_xL : List (Nat × Nat × Nat × Nat) := [
  (7, 237, 1, 3211),
  (7, 242, 0, 3212),
  (1, 31, 0, 3000),
  (2, 22, 2, 3099),
  (2, 28, 1, 3095),
  (2, 31, 0, 3098),
  (3, 133, 2, 3085)]
def hk_nL : List (Nat × Nat × Nat × Nat × Nat × Nat) := [
  (3, 18, 2, 1031, 1035, 1003),
  (3, 24, 1, 1033, 1052, 1004),
  (7, 7, 3, 1025, 1026, 1002),
  (7, 26, 6, 1115, 1116, 1005),
  (7, 37, 4, 1142, 3217, 1015),
  (7, 43, 5, 1144, 1173, 1007),
  (7, 49, 0, 1146, 1147, 1006),
  (10, 7, 7, 1017, 1018, 1001),
  (10, 10, 8, 4073, 4074, 1008)]
def hk_aL : List (Nat × Nat × Nat × Nat × Nat) := [
  (3, 18, 13, 1031, 1032),
  (3, 24, 14, 1033, 1034),
  (7, 37, 15, 1142, 1143),
  (7, 43, 16, 1144, 1145)]
def hk_iL : List (Nat × Nat × Int32 × Nat) := [
  (7, 218, 1103515245, 3173),
  (8, 330, 1103515245, 6053),
  (14, 265, 1431655765, 4062),
  (14, 266, 858993459, 4063),
  (14, 267, 252645135, 4064)]
def hk_lL : List (Nat × Nat × Nat × Nat) := [
  (10, 13, 23, 6193),
  (8, 115, 6, 5001),
  (8, 144, 4, 5020),
  (8, 146, 5, 5021),
  (8, 148, 2, 5022),
  (8, 150, 9, 5071),
  (8, 156, 22, 5072),
  (8, 158, 19, 5073),
  (8, 160, 13, 5074),
  (8, 162, 24, 5075),
  (8, 164, 12, 5076),
  (8, 166, 16, 5062),
  (8, 168, 11, 5063),
  (8, 170, 17, 5064),
  (8, 172, 14, 5065),
  (8, 191, 18, 5040),
  (8, 202, 20, 5081),
  (8, 204, 8, 5082),
  (8, 206, 7, 5083),
  (8, 212, 21, 5027),
  (8, 217, 15, 5053),
  (8, 222, 10, 5066),
  (8, 349, 3, 6093)]
def hk_sL : List (Nat × Nat × Nat × String × Nat) := [
  (6, 122, 4, "hat", 2032),
  (6, 124, 5, "pinned", 2085),
  (6, 126, 6, "straw", 2086),
  (6, 128, 7, "tied", 2087),
  (6, 130, 8, "feathered", 2088),
  (6, 132, 9, "felt", 2089),
  (6, 88, 10, "worth", 2102),
  (6, 102, 11, "of", 2115),
  (6, 110, 12, "on", 2120),
  (6, 51, 13, "person", 2129),
  (6, 82, 14, "speed", 2134),
  (6, 63, 15, "wind", 2139),
  (6, 134, 16, "north", 2148),
  (6, 136, 17, "east", 2149),
  (6, 138, 18, "south", 2150),
  (6, 140, 19, "west", 2151),
  (6, 68, 20, "now", 2153)]
def hk_good (w : Cond) : Bool := match w with
  | .methodLinkNest _ _ _ _ => true
  | .stringRef _ _ _ => true
  | .arrayOver (.object _) => true
  | w => goodWord w
def hk_tb (k : Nat) : List Cond := match k with
  | 0 => k2_sels lw_privs
  | 1 => tables_1_1
  | 2 => tables_1_2
  | 3 => tables_1_3
  | 4 => tables_1_4
  | 5 => tables_1_5
  | 6 => tables_1_6
  | _ => []
def hk_w (p : Nat) (w : Cond) : Bool := decide (hk_nth (hk_tb (p / 1000)) (p % 1000) = some w) && hk_good w
theorem hk_nth_in {α : Type} : ∀ {l : List α} {n : Nat} {a : α}, hk_nth l n = some a → a ∈ l
  | [], _, _, h => by cases h
  | b :: l, 0, a, h => by cases h; exact List.mem_cons_self
  | b :: l, n + 1, a, h => List.mem_cons_of_mem _ (hk_nth_in (l := l) (n := n) h)
theorem hk_tb_in {k : Nat} {w : Cond} (h : w ∈ hk_tb k) : w ∈ lw_tbl := by
  unfold hk_tb at h
  unfold lw_tbl tables_1
  split at h
  all_goals first
    | exact List.mem_append_left _ h
    | exact List.mem_append_right _ (List.mem_append_left _ h)
    | exact List.mem_append_right _ (List.mem_append_right _ (List.mem_append_left _ h))
    | exact List.mem_append_right _ (List.mem_append_right _ (List.mem_append_right _ (List.mem_append_left _ h)))
    | exact List.mem_append_right _ (List.mem_append_right _ (List.mem_append_right _ (List.mem_append_right _ (List.mem_append_left _ h))))
    | exact List.mem_append_right _ (List.mem_append_right _ (List.mem_append_right _ (List.mem_append_right _ (List.mem_append_right _ (List.mem_append_left _ h)))))
    | exact List.mem_append_right _ (List.mem_append_right _ (List.mem_append_right _ (List.mem_append_right _ (List.mem_append_right _ (List.mem_append_right _ h)))))
    | exact absurd h List.not_mem_nil
theorem hk_w_in {p : Nat} {w : Cond} (h : hk_w p w = true) : w ∈ lw_tbl ∧ hk_good w = true := by
  unfold hk_w at h
  rw [Bool.and_eq_true] at h
  exact ⟨hk_tb_in (hk_nth_in (of_decide_eq_true h.1)), h.2⟩
def hk_my (M : Nat) : MethodName := match hk_nth hk_mt M with
  | some e => e.1
  | none => ⟨"", "", ""⟩
def hk_mb (M : Nat) : ByteArray := match hk_nth hk_mt M with
  | some e => e.2.1
  | none => ⟨#[]⟩
def hk_ml (M : Nat) : Nat := match hk_nth hk_mt M with
  | some e => e.2.2.1
  | none => 0
def hk_mo (M : Nat) : Nat := match hk_nth hk_mt M with
  | some e => e.2.2.2.1
  | none => 0
def hk_mr (M : Nat) : Option FieldType := match hk_nth hk_bds M with
  | some e => e.2.1
  | none => none
def hk_mc (M : Nat) : hk_Cd := match hk_nth hk_bds M with
  | some e => e.1
  | none => []
def hk_fOK (e : Nat × Nat × Nat × Nat × Nat) : Bool := hk_w e.2.2.2.2 (.fieldLink (hk_cn e.1) e.2.1 (hk_cn e.2.2.1) (hk_T e.2.2.1 e.2.2.2.1).2.1 (hk_T e.2.2.1 e.2.2.2.1).2.2.1) && Nat.blt e.2.2.2.1 (hk_nf e.2.2.1) && Nat.ble e.2.2.1 9
set_option maxRecDepth 100000 in
theorem hk_fL_ok : hk_fL.all hk_fOK = true := by decide +kernel
def hk_zOK (e : Nat × Nat × Nat × Nat) : Bool := hk_w e.2.2.2 (.fieldLink (hk_cn e.1) e.2.1 (hk_zn e.2.2.1).1 (hk_zn e.2.2.1).2.1 (hk_zn e.2.2.1).2.2)
set_option maxRecDepth 100000 in
theorem hk_zL_ok : hk_zL.all hk_zOK = true := by decide +kernel
def hk_ok1 (e : Nat × Nat × Nat) : Bool := hk_w e.2.2 (.methodLink (hk_cn e.1) e.2.1 objectInit)
set_option maxRecDepth 100000 in
theorem hk_oL_ok : hk_oL.all hk_ok1 = true := by decide +kernel
def hk_yOK (e : Nat × Nat × Nat) : Bool := hk_w e.2.2 (.methodLink (hk_cn e.1) e.2.1 arraycopyName)
set_option maxRecDepth 100000 in
theorem hk_yL_ok : hk_yL.all hk_yOK = true := by decide +kernel
def hk_xn (w : Nat) : MethodName := match w with
  | 0 => Lib.Math.max.name
  | 1 => Lib.Math.min.name
  | _ => Lib.Math.abs.name
def hk_xOK (e : Nat × Nat × Nat × Nat) : Bool := hk_w e.2.2.2 (.methodLink (hk_cn e.1) e.2.1 (hk_xn e.2.2.1))
set_option maxRecDepth 100000 in
theorem hk_xL_ok : hk_xL.all hk_xOK = true := by decide +kernel
def hk_nOK (e : Nat × Nat × Nat × Nat × Nat × Nat) : Bool := hk_w e.2.2.2.1 (.classLink (hk_cn e.1) e.2.1 (hk_cn e.2.2.1)) && hk_w e.2.2.2.2.1 (.instantiable (hk_cn e.2.2.1) (hk_nf e.2.2.1)) && hk_w e.2.2.2.2.2 (.initialized (hk_cn e.2.2.1)) && Nat.blt e.2.2.1 9
set_option maxRecDepth 100000 in
theorem hk_nL_ok : hk_nL.all hk_nOK = true := by decide +kernel
def hk_an (t : Nat) : String := hk_cn (hk_comp t)
def hk_aOK (e : Nat × Nat × Nat × Nat × Nat) : Bool := hk_w e.2.2.2.1 (.classLink (hk_cn e.1) e.2.1 (hk_an e.2.2.1)) && hk_w e.2.2.2.2 (.arrayOver (.object (hk_an e.2.2.1))) && Nat.ble 13 e.2.2.1 && Nat.ble e.2.2.1 16
set_option maxRecDepth 100000 in
theorem hk_aL_ok : hk_aL.all hk_aOK = true := by decide +kernel
def hk_iOK (e : Nat × Nat × Int32 × Nat) : Bool := hk_w e.2.2.2 (.constant (hk_cn e.1) e.2.1 e.2.2.1)
set_option maxRecDepth 100000 in
theorem hk_iL_ok : hk_iL.all hk_iOK = true := by decide +kernel
def hk_lOK (e : Nat × Nat × Nat × Nat) : Bool := match hk_nth hk_lc e.2.2.1 with
  | some v => hk_w e.2.2.2 (.constantLong (hk_cn e.1) e.2.1 v)
  | none => false
set_option maxRecDepth 100000 in
theorem hk_lL_ok : hk_lL.all hk_lOK = true := by decide +kernel
def hk_sOK (e : Nat × Nat × Nat × String × Nat) : Bool := hk_w e.2.2.2.2 (.stringRef (hk_cn e.1) e.2.1 e.2.2.2.1)
set_option maxRecDepth 100000 in
theorem hk_sL_ok : hk_sL.all hk_sOK = true := by decide +kernel
def hk_dsc (M : Nat) : Option Nat := (parseMethodDescriptor (hk_my M).desc).map (fun d => d.parameters.length)
def hk_noMH (y : MethodName) : Bool := decide (y.cls ≠ "java/lang/invoke/MethodHandle" ∧ y.cls ≠ "java/lang/invoke/VarHandle")
def hk_mOK (e : Nat × Nat × Nat × Nat × Nat × Nat × Nat × Nat × Nat) : Bool :=
  let own := e.1
  let idx := e.2.1
  let kind := e.2.2.1
  let M := e.2.2.2.1
  let y := hk_my M
  hk_noMH y && hk_w e.2.2.2.2.2.2.2.1 (.initialized y.cls) && Nat.ble (hk_ml M) 40 && decide (y.cls = hk_cn (hk_mo M)) &&
  (match kind with
    | 0 => hk_w e.2.2.2.2.1 (.methodLink (hk_cn own) idx y) && hk_w e.2.2.2.2.2.1 (.instanceMethod y) && hk_w e.2.2.2.2.2.2.1 (.selects y.cls y y)
    | 1 => hk_w e.2.2.2.2.1 (.methodLink (hk_cn own) idx y) && hk_w e.2.2.2.2.2.1 (.static y)
    | 2 => hk_w e.2.2.2.2.1 (.methodLink (hk_cn own) idx y) && hk_w e.2.2.2.2.2.1 (.instanceMethod y) && decide (y.name = "<init>") && decide (hk_mr M = none)
    | 3 => hk_w e.2.2.2.2.1 (.methodLinkNest (hk_cn own) idx y "HatFields") && hk_w e.2.2.2.2.2.1 (.static y)
    | _ => hk_w e.2.2.2.2.1 (.methodLinkNest (hk_cn own) idx y "HatFields") && hk_w e.2.2.2.2.2.1 (.instanceMethod y) && decide (y.name = "<init>") && decide (hk_mr M = none))

set_option maxRecDepth 100000 in
theorem hk_mL_ok0 : hk_mL_0.all hk_mOK = true := by decide +kernel
set_option maxRecDepth 100000 in
theorem hk_mL_ok1 : hk_mL_1.all hk_mOK = true := by decide +kernel
set_option maxRecDepth 100000 in
theorem hk_mL_ok2 : hk_mL_2.all hk_mOK = true := by decide +kernel
set_option maxRecDepth 100000 in
theorem hk_mL_ok3 : hk_mL_3.all hk_mOK = true := by decide +kernel
set_option maxRecDepth 100000 in
theorem hk_mL_ok4 : hk_mL_4.all hk_mOK = true := by decide +kernel
set_option maxRecDepth 100000 in
theorem hk_mL_ok5 : hk_mL_5.all hk_mOK = true := by decide +kernel
set_option maxRecDepth 100000 in
theorem hk_mL_ok6 : hk_mL_6.all hk_mOK = true := by decide +kernel
set_option maxRecDepth 100000 in
theorem hk_mL_ok7 : hk_mL_7.all hk_mOK = true := by decide +kernel
set_option maxRecDepth 100000 in
theorem hk_mL_ok8 : hk_mL_8.all hk_mOK = true := by decide +kernel
set_option maxRecDepth 100000 in
theorem hk_mL_ok9 : hk_mL_9.all hk_mOK = true := by decide +kernel
set_option maxRecDepth 100000 in
theorem hk_mL_ok10 : hk_mL_10.all hk_mOK = true := by decide +kernel
set_option maxRecDepth 100000 in
theorem hk_mL_ok11 : hk_mL_11.all hk_mOK = true := by decide +kernel
set_option maxRecDepth 100000 in
theorem hk_mL_ok12 : hk_mL_12.all hk_mOK = true := by decide +kernel
set_option maxRecDepth 100000 in
theorem hk_mL_ok13 : hk_mL_13.all hk_mOK = true := by decide +kernel
set_option maxRecDepth 100000 in
theorem hk_mL_ok14 : hk_mL_14.all hk_mOK = true := by decide +kernel
set_option maxRecDepth 100000 in
theorem hk_mL_ok15 : hk_mL_15.all hk_mOK = true := by decide +kernel
theorem hk_mL_ok : hk_mL.all hk_mOK = true := by
  unfold hk_mL
  simp only [List.all_append, Bool.and_eq_true]
  exact ⟨⟨⟨⟨⟨⟨⟨⟨⟨⟨⟨⟨⟨⟨⟨hk_mL_ok0, hk_mL_ok1⟩, hk_mL_ok2⟩, hk_mL_ok3⟩, hk_mL_ok4⟩, hk_mL_ok5⟩, hk_mL_ok6⟩, hk_mL_ok7⟩, hk_mL_ok8⟩, hk_mL_ok9⟩, hk_mL_ok10⟩, hk_mL_ok11⟩, hk_mL_ok12⟩, hk_mL_ok13⟩, hk_mL_ok14⟩, hk_mL_ok15⟩
def hk_cP (M : Nat) : Prop := Cond.code (hk_my M) (hk_mb M) (hk_ml M) (hk_mr M) ∈ lw_tbl
theorem hk_cw0 : hk_cP 0 := hk_tb_in (k := 1) (hk_nth_in (n := 21) rfl)
theorem hk_cw1 : hk_cP 1 := hk_tb_in (k := 1) (hk_nth_in (n := 29) rfl)
theorem hk_cw2 : hk_cP 2 := hk_tb_in (k := 1) (hk_nth_in (n := 38) rfl)
theorem hk_cw3 : hk_cP 3 := hk_tb_in (k := 1) (hk_nth_in (n := 55) rfl)
theorem hk_cw4 : hk_cP 4 := hk_tb_in (k := 1) (hk_nth_in (n := 119) rfl)
theorem hk_cw5 : hk_cP 5 := hk_tb_in (k := 1) (hk_nth_in (n := 150) rfl)
theorem hk_cw6 : hk_cP 6 := hk_tb_in (k := 1) (hk_nth_in (n := 176) rfl)
theorem hk_cw7 : hk_cP 7 := hk_tb_in (k := 1) (hk_nth_in (n := 227) rfl)
theorem hk_cw8 : hk_cP 8 := hk_tb_in (k := 1) (hk_nth_in (n := 231) rfl)
theorem hk_cw9 : hk_cP 9 := hk_tb_in (k := 1) (hk_nth_in (n := 235) rfl)
theorem hk_cw10 : hk_cP 10 := hk_tb_in (k := 1) (hk_nth_in (n := 239) rfl)
theorem hk_cw11 : hk_cP 11 := hk_tb_in (k := 2) (hk_nth_in (n := 3) rfl)
theorem hk_cw12 : hk_cP 12 := hk_tb_in (k := 2) (hk_nth_in (n := 7) rfl)
theorem hk_cw13 : hk_cP 13 := hk_tb_in (k := 2) (hk_nth_in (n := 11) rfl)
theorem hk_cw14 : hk_cP 14 := hk_tb_in (k := 2) (hk_nth_in (n := 15) rfl)
theorem hk_cw15 : hk_cP 15 := hk_tb_in (k := 2) (hk_nth_in (n := 19) rfl)
theorem hk_cw16 : hk_cP 16 := hk_tb_in (k := 2) (hk_nth_in (n := 23) rfl)
theorem hk_cw17 : hk_cP 17 := hk_tb_in (k := 2) (hk_nth_in (n := 27) rfl)
theorem hk_cw18 : hk_cP 18 := hk_tb_in (k := 2) (hk_nth_in (n := 31) rfl)
theorem hk_cw19 : hk_cP 19 := hk_tb_in (k := 2) (hk_nth_in (n := 36) rfl)
theorem hk_cw20 : hk_cP 20 := hk_tb_in (k := 2) (hk_nth_in (n := 40) rfl)
theorem hk_cw21 : hk_cP 21 := hk_tb_in (k := 2) (hk_nth_in (n := 44) rfl)
theorem hk_cw22 : hk_cP 22 := hk_tb_in (k := 2) (hk_nth_in (n := 50) rfl)
theorem hk_cw23 : hk_cP 23 := hk_tb_in (k := 2) (hk_nth_in (n := 54) rfl)
theorem hk_cw24 : hk_cP 24 := hk_tb_in (k := 2) (hk_nth_in (n := 57) rfl)
theorem hk_cw25 : hk_cP 25 := hk_tb_in (k := 2) (hk_nth_in (n := 60) rfl)
theorem hk_cw26 : hk_cP 26 := hk_tb_in (k := 2) (hk_nth_in (n := 65) rfl)
theorem hk_cw27 : hk_cP 27 := hk_tb_in (k := 2) (hk_nth_in (n := 93) rfl)
theorem hk_cw28 : hk_cP 28 := hk_tb_in (k := 2) (hk_nth_in (n := 97) rfl)
theorem hk_cw29 : hk_cP 29 := hk_tb_in (k := 2) (hk_nth_in (n := 101) rfl)
theorem hk_cw30 : hk_cP 30 := hk_tb_in (k := 2) (hk_nth_in (n := 106) rfl)
theorem hk_cw31 : hk_cP 31 := hk_tb_in (k := 2) (hk_nth_in (n := 110) rfl)
theorem hk_cw32 : hk_cP 32 := hk_tb_in (k := 2) (hk_nth_in (n := 114) rfl)
theorem hk_cw33 : hk_cP 33 := hk_tb_in (k := 2) (hk_nth_in (n := 119) rfl)
theorem hk_cw34 : hk_cP 34 := hk_tb_in (k := 2) (hk_nth_in (n := 124) rfl)
theorem hk_cw35 : hk_cP 35 := hk_tb_in (k := 2) (hk_nth_in (n := 128) rfl)
theorem hk_cw36 : hk_cP 36 := hk_tb_in (k := 2) (hk_nth_in (n := 133) rfl)
theorem hk_cw37 : hk_cP 37 := hk_tb_in (k := 2) (hk_nth_in (n := 138) rfl)
theorem hk_cw38 : hk_cP 38 := hk_tb_in (k := 2) (hk_nth_in (n := 143) rfl)
theorem hk_cw39 : hk_cP 39 := hk_tb_in (k := 2) (hk_nth_in (n := 147) rfl)
theorem hk_cw40 : hk_cP 40 := hk_tb_in (k := 2) (hk_nth_in (n := 157) rfl)
theorem hk_cw41 : hk_cP 41 := hk_tb_in (k := 2) (hk_nth_in (n := 164) rfl)
theorem hk_cw42 : hk_cP 42 := hk_tb_in (k := 2) (hk_nth_in (n := 168) rfl)
theorem hk_cw43 : hk_cP 43 := hk_tb_in (k := 2) (hk_nth_in (n := 172) rfl)
theorem hk_cw44 : hk_cP 44 := hk_tb_in (k := 2) (hk_nth_in (n := 175) rfl)
theorem hk_cw45 : hk_cP 45 := hk_tb_in (k := 2) (hk_nth_in (n := 179) rfl)
theorem hk_cw46 : hk_cP 46 := hk_tb_in (k := 2) (hk_nth_in (n := 184) rfl)
theorem hk_cw47 : hk_cP 47 := hk_tb_in (k := 2) (hk_nth_in (n := 188) rfl)
theorem hk_cw48 : hk_cP 48 := hk_tb_in (k := 2) (hk_nth_in (n := 193) rfl)
theorem hk_cw49 : hk_cP 49 := hk_tb_in (k := 2) (hk_nth_in (n := 197) rfl)
theorem hk_cw50 : hk_cP 50 := hk_tb_in (k := 2) (hk_nth_in (n := 201) rfl)
theorem hk_cw51 : hk_cP 51 := hk_tb_in (k := 2) (hk_nth_in (n := 205) rfl)
theorem hk_cw52 : hk_cP 52 := hk_tb_in (k := 2) (hk_nth_in (n := 209) rfl)
theorem hk_cw53 : hk_cP 53 := hk_tb_in (k := 2) (hk_nth_in (n := 213) rfl)
theorem hk_cw54 : hk_cP 54 := hk_tb_in (k := 2) (hk_nth_in (n := 217) rfl)
theorem hk_cw55 : hk_cP 55 := hk_tb_in (k := 2) (hk_nth_in (n := 223) rfl)
theorem hk_cw56 : hk_cP 56 := hk_tb_in (k := 2) (hk_nth_in (n := 227) rfl)
theorem hk_cw57 : hk_cP 57 := hk_tb_in (k := 2) (hk_nth_in (n := 231) rfl)
theorem hk_cw58 : hk_cP 58 := hk_tb_in (k := 2) (hk_nth_in (n := 235) rfl)
theorem hk_cw59 : hk_cP 59 := hk_tb_in (k := 2) (hk_nth_in (n := 239) rfl)
theorem hk_cw60 : hk_cP 60 := hk_tb_in (k := 3) (hk_nth_in (n := 6) rfl)
theorem hk_cw61 : hk_cP 61 := hk_tb_in (k := 3) (hk_nth_in (n := 10) rfl)
theorem hk_cw62 : hk_cP 62 := hk_tb_in (k := 3) (hk_nth_in (n := 14) rfl)
theorem hk_cw63 : hk_cP 63 := hk_tb_in (k := 3) (hk_nth_in (n := 19) rfl)
theorem hk_cw64 : hk_cP 64 := hk_tb_in (k := 3) (hk_nth_in (n := 23) rfl)
theorem hk_cw65 : hk_cP 65 := hk_tb_in (k := 3) (hk_nth_in (n := 28) rfl)
theorem hk_cw66 : hk_cP 66 := hk_tb_in (k := 3) (hk_nth_in (n := 33) rfl)
theorem hk_cw67 : hk_cP 67 := hk_tb_in (k := 3) (hk_nth_in (n := 37) rfl)
theorem hk_cw68 : hk_cP 68 := hk_tb_in (k := 3) (hk_nth_in (n := 41) rfl)
theorem hk_cw69 : hk_cP 69 := hk_tb_in (k := 3) (hk_nth_in (n := 45) rfl)
theorem hk_cw70 : hk_cP 70 := hk_tb_in (k := 3) (hk_nth_in (n := 50) rfl)
theorem hk_cw71 : hk_cP 71 := hk_tb_in (k := 3) (hk_nth_in (n := 53) rfl)
theorem hk_cw72 : hk_cP 72 := hk_tb_in (k := 3) (hk_nth_in (n := 57) rfl)
theorem hk_cw73 : hk_cP 73 := hk_tb_in (k := 3) (hk_nth_in (n := 61) rfl)
theorem hk_cw74 : hk_cP 74 := hk_tb_in (k := 3) (hk_nth_in (n := 66) rfl)
theorem hk_cw75 : hk_cP 75 := hk_tb_in (k := 3) (hk_nth_in (n := 75) rfl)
theorem hk_cw76 : hk_cP 76 := hk_tb_in (k := 3) (hk_nth_in (n := 80) rfl)
theorem hk_cw77 : hk_cP 77 := hk_tb_in (k := 3) (hk_nth_in (n := 84) rfl)
theorem hk_cw78 : hk_cP 78 := hk_tb_in (k := 3) (hk_nth_in (n := 91) rfl)
theorem hk_cw79 : hk_cP 79 := hk_tb_in (k := 3) (hk_nth_in (n := 94) rfl)
theorem hk_cw80 : hk_cP 80 := hk_tb_in (k := 3) (hk_nth_in (n := 103) rfl)
theorem hk_cw81 : hk_cP 81 := hk_tb_in (k := 3) (hk_nth_in (n := 107) rfl)
theorem hk_cw82 : hk_cP 82 := hk_tb_in (k := 3) (hk_nth_in (n := 111) rfl)
theorem hk_cw83 : hk_cP 83 := hk_tb_in (k := 3) (hk_nth_in (n := 115) rfl)
theorem hk_cw84 : hk_cP 84 := hk_tb_in (k := 3) (hk_nth_in (n := 119) rfl)
theorem hk_cw85 : hk_cP 85 := hk_tb_in (k := 3) (hk_nth_in (n := 123) rfl)
theorem hk_cw86 : hk_cP 86 := hk_tb_in (k := 3) (hk_nth_in (n := 127) rfl)
theorem hk_cw87 : hk_cP 87 := hk_tb_in (k := 3) (hk_nth_in (n := 131) rfl)
theorem hk_cw88 : hk_cP 88 := hk_tb_in (k := 3) (hk_nth_in (n := 135) rfl)
theorem hk_cw89 : hk_cP 89 := hk_tb_in (k := 3) (hk_nth_in (n := 138) rfl)
theorem hk_cw90 : hk_cP 90 := hk_tb_in (k := 3) (hk_nth_in (n := 142) rfl)
theorem hk_cw91 : hk_cP 91 := hk_tb_in (k := 3) (hk_nth_in (n := 146) rfl)
theorem hk_cw92 : hk_cP 92 := hk_tb_in (k := 3) (hk_nth_in (n := 150) rfl)
theorem hk_cw93 : hk_cP 93 := hk_tb_in (k := 3) (hk_nth_in (n := 154) rfl)
theorem hk_cw94 : hk_cP 94 := hk_tb_in (k := 3) (hk_nth_in (n := 158) rfl)
theorem hk_cw95 : hk_cP 95 := hk_tb_in (k := 3) (hk_nth_in (n := 163) rfl)
theorem hk_cw96 : hk_cP 96 := hk_tb_in (k := 3) (hk_nth_in (n := 168) rfl)
theorem hk_cw97 : hk_cP 97 := hk_tb_in (k := 3) (hk_nth_in (n := 172) rfl)
theorem hk_cw98 : hk_cP 98 := hk_tb_in (k := 3) (hk_nth_in (n := 177) rfl)
theorem hk_cw99 : hk_cP 99 := hk_tb_in (k := 3) (hk_nth_in (n := 181) rfl)
theorem hk_cw100 : hk_cP 100 := hk_tb_in (k := 3) (hk_nth_in (n := 185) rfl)
theorem hk_cw101 : hk_cP 101 := hk_tb_in (k := 3) (hk_nth_in (n := 190) rfl)
theorem hk_cw102 : hk_cP 102 := hk_tb_in (k := 3) (hk_nth_in (n := 194) rfl)
theorem hk_cw103 : hk_cP 103 := hk_tb_in (k := 3) (hk_nth_in (n := 198) rfl)
theorem hk_cw104 : hk_cP 104 := hk_tb_in (k := 3) (hk_nth_in (n := 202) rfl)
theorem hk_cw105 : hk_cP 105 := hk_tb_in (k := 3) (hk_nth_in (n := 206) rfl)
theorem hk_cw106 : hk_cP 106 := hk_tb_in (k := 3) (hk_nth_in (n := 210) rfl)
theorem hk_cw107 : hk_cP 107 := hk_tb_in (k := 3) (hk_nth_in (n := 216) rfl)
theorem hk_cw108 : hk_cP 108 := hk_tb_in (k := 3) (hk_nth_in (n := 220) rfl)
theorem hk_cw109 : hk_cP 109 := hk_tb_in (k := 3) (hk_nth_in (n := 234) rfl)
theorem hk_cw110 : hk_cP 110 := hk_tb_in (k := 3) (hk_nth_in (n := 238) rfl)
theorem hk_cw111 : hk_cP 111 := hk_tb_in (k := 4) (hk_nth_in (n := 2) rfl)
theorem hk_cw112 : hk_cP 112 := hk_tb_in (k := 4) (hk_nth_in (n := 6) rfl)
theorem hk_cw113 : hk_cP 113 := hk_tb_in (k := 4) (hk_nth_in (n := 10) rfl)
theorem hk_cw114 : hk_cP 114 := hk_tb_in (k := 4) (hk_nth_in (n := 14) rfl)
theorem hk_cw115 : hk_cP 115 := hk_tb_in (k := 4) (hk_nth_in (n := 18) rfl)
theorem hk_cw116 : hk_cP 116 := hk_tb_in (k := 4) (hk_nth_in (n := 22) rfl)
theorem hk_cw117 : hk_cP 117 := hk_tb_in (k := 4) (hk_nth_in (n := 28) rfl)
theorem hk_cw118 : hk_cP 118 := hk_tb_in (k := 4) (hk_nth_in (n := 32) rfl)
theorem hk_cw119 : hk_cP 119 := hk_tb_in (k := 4) (hk_nth_in (n := 36) rfl)
theorem hk_cw120 : hk_cP 120 := hk_tb_in (k := 4) (hk_nth_in (n := 40) rfl)
theorem hk_cw121 : hk_cP 121 := hk_tb_in (k := 4) (hk_nth_in (n := 46) rfl)
theorem hk_cw122 : hk_cP 122 := hk_tb_in (k := 4) (hk_nth_in (n := 50) rfl)
theorem hk_cw123 : hk_cP 123 := hk_tb_in (k := 4) (hk_nth_in (n := 54) rfl)
theorem hk_cw124 : hk_cP 124 := hk_tb_in (k := 4) (hk_nth_in (n := 58) rfl)
theorem hk_cw125 : hk_cP 125 := hk_tb_in (k := 4) (hk_nth_in (n := 61) rfl)
theorem hk_cw126 : hk_cP 126 := hk_tb_in (k := 4) (hk_nth_in (n := 68) rfl)
theorem hk_cw127 : hk_cP 127 := hk_tb_in (k := 4) (hk_nth_in (n := 72) rfl)
theorem hk_cw128 : hk_cP 128 := hk_tb_in (k := 4) (hk_nth_in (n := 77) rfl)
theorem hk_cw129 : hk_cP 129 := hk_tb_in (k := 4) (hk_nth_in (n := 237) rfl)
theorem hk_cw130 : hk_cP 130 := hk_tb_in (k := 5) (hk_nth_in (n := 0) rfl)
theorem hk_cw131 : hk_cP 131 := hk_tb_in (k := 5) (hk_nth_in (n := 5) rfl)
theorem hk_cw132 : hk_cP 132 := hk_tb_in (k := 5) (hk_nth_in (n := 9) rfl)
theorem hk_cw133 : hk_cP 133 := hk_tb_in (k := 5) (hk_nth_in (n := 13) rfl)
theorem hk_cw134 : hk_cP 134 := hk_tb_in (k := 5) (hk_nth_in (n := 16) rfl)
theorem hk_cw135 : hk_cP 135 := hk_tb_in (k := 5) (hk_nth_in (n := 19) rfl)
theorem hk_cw136 : hk_cP 136 := hk_tb_in (k := 5) (hk_nth_in (n := 26) rfl)
theorem hk_cw137 : hk_cP 137 := hk_tb_in (k := 5) (hk_nth_in (n := 31) rfl)
theorem hk_cw138 : hk_cP 138 := hk_tb_in (k := 5) (hk_nth_in (n := 35) rfl)
theorem hk_cw139 : hk_cP 139 := hk_tb_in (k := 5) (hk_nth_in (n := 39) rfl)
theorem hk_cw140 : hk_cP 140 := hk_tb_in (k := 5) (hk_nth_in (n := 44) rfl)
theorem hk_cw141 : hk_cP 141 := hk_tb_in (k := 5) (hk_nth_in (n := 48) rfl)
theorem hk_cw142 : hk_cP 142 := hk_tb_in (k := 5) (hk_nth_in (n := 52) rfl)
theorem hk_cw143 : hk_cP 143 := hk_tb_in (k := 5) (hk_nth_in (n := 57) rfl)
theorem hk_cw144 : hk_cP 144 := hk_tb_in (k := 5) (hk_nth_in (n := 61) rfl)
theorem hk_cw145 : hk_cP 145 := hk_tb_in (k := 5) (hk_nth_in (n := 70) rfl)
theorem hk_cw146 : hk_cP 146 := hk_tb_in (k := 5) (hk_nth_in (n := 80) rfl)
theorem hk_cw147 : hk_cP 147 := hk_tb_in (k := 5) (hk_nth_in (n := 87) rfl)
theorem hk_cw148 : hk_cP 148 := hk_tb_in (k := 5) (hk_nth_in (n := 91) rfl)
theorem hk_cw149 : hk_cP 149 := hk_tb_in (k := 5) (hk_nth_in (n := 94) rfl)
theorem hk_cw150 : hk_cP 150 := hk_tb_in (k := 5) (hk_nth_in (n := 98) rfl)
theorem hk_cw151 : hk_cP 151 := hk_tb_in (k := 5) (hk_nth_in (n := 101) rfl)
theorem hk_cw152 : hk_cP 152 := hk_tb_in (k := 5) (hk_nth_in (n := 106) rfl)
theorem hk_cw153 : hk_cP 153 := hk_tb_in (k := 5) (hk_nth_in (n := 109) rfl)
theorem hk_cw154 : hk_cP 154 := hk_tb_in (k := 5) (hk_nth_in (n := 113) rfl)
theorem hk_cw155 : hk_cP 155 := hk_tb_in (k := 5) (hk_nth_in (n := 117) rfl)
theorem hk_cw156 : hk_cP 156 := hk_tb_in (k := 5) (hk_nth_in (n := 121) rfl)
theorem hk_cw157 : hk_cP 157 := hk_tb_in (k := 5) (hk_nth_in (n := 125) rfl)
theorem hk_cw158 : hk_cP 158 := hk_tb_in (k := 5) (hk_nth_in (n := 129) rfl)
theorem hk_cw159 : hk_cP 159 := hk_tb_in (k := 5) (hk_nth_in (n := 133) rfl)
theorem hk_cw160 : hk_cP 160 := hk_tb_in (k := 5) (hk_nth_in (n := 137) rfl)
theorem hk_cw161 : hk_cP 161 := hk_tb_in (k := 5) (hk_nth_in (n := 141) rfl)
theorem hk_cw162 : hk_cP 162 := hk_tb_in (k := 5) (hk_nth_in (n := 145) rfl)
theorem hk_cw163 : hk_cP 163 := hk_tb_in (k := 5) (hk_nth_in (n := 149) rfl)
theorem hk_cw164 : hk_cP 164 := hk_tb_in (k := 5) (hk_nth_in (n := 152) rfl)
theorem hk_cw165 : hk_cP 165 := hk_tb_in (k := 5) (hk_nth_in (n := 156) rfl)
theorem hk_cw166 : hk_cP 166 := hk_tb_in (k := 5) (hk_nth_in (n := 160) rfl)
theorem hk_cw167 : hk_cP 167 := hk_tb_in (k := 5) (hk_nth_in (n := 164) rfl)
theorem hk_cw168 : hk_cP 168 := hk_tb_in (k := 5) (hk_nth_in (n := 168) rfl)
theorem hk_cw169 : hk_cP 169 := hk_tb_in (k := 5) (hk_nth_in (n := 172) rfl)
theorem hk_cw170 : hk_cP 170 := hk_tb_in (k := 5) (hk_nth_in (n := 176) rfl)
theorem hk_cw171 : hk_cP 171 := hk_tb_in (k := 5) (hk_nth_in (n := 180) rfl)
theorem hk_cw172 : hk_cP 172 := hk_tb_in (k := 5) (hk_nth_in (n := 184) rfl)
theorem hk_cw173 : hk_cP 173 := hk_tb_in (k := 5) (hk_nth_in (n := 188) rfl)
theorem hk_cw174 : hk_cP 174 := hk_tb_in (k := 5) (hk_nth_in (n := 192) rfl)
theorem hk_cw175 : hk_cP 175 := hk_tb_in (k := 5) (hk_nth_in (n := 196) rfl)
theorem hk_cw176 : hk_cP 176 := hk_tb_in (k := 5) (hk_nth_in (n := 200) rfl)
theorem hk_cw177 : hk_cP 177 := hk_tb_in (k := 5) (hk_nth_in (n := 204) rfl)
theorem hk_cw178 : hk_cP 178 := hk_tb_in (k := 5) (hk_nth_in (n := 207) rfl)
theorem hk_cw179 : hk_cP 179 := hk_tb_in (k := 5) (hk_nth_in (n := 211) rfl)
theorem hk_cw180 : hk_cP 180 := hk_tb_in (k := 5) (hk_nth_in (n := 215) rfl)
theorem hk_cw181 : hk_cP 181 := hk_tb_in (k := 5) (hk_nth_in (n := 219) rfl)
theorem hk_cw182 : hk_cP 182 := hk_tb_in (k := 5) (hk_nth_in (n := 223) rfl)
theorem hk_cw183 : hk_cP 183 := hk_tb_in (k := 5) (hk_nth_in (n := 226) rfl)
theorem hk_cw184 : hk_cP 184 := hk_tb_in (k := 5) (hk_nth_in (n := 229) rfl)
theorem hk_cw185 : hk_cP 185 := hk_tb_in (k := 5) (hk_nth_in (n := 233) rfl)
theorem hk_cw186 : hk_cP 186 := hk_tb_in (k := 5) (hk_nth_in (n := 237) rfl)
theorem hk_cw187 : hk_cP 187 := hk_tb_in (k := 6) (hk_nth_in (n := 1) rfl)
theorem hk_cw188 : hk_cP 188 := hk_tb_in (k := 6) (hk_nth_in (n := 5) rfl)
theorem hk_cw189 : hk_cP 189 := hk_tb_in (k := 6) (hk_nth_in (n := 9) rfl)
theorem hk_cw190 : hk_cP 190 := hk_tb_in (k := 6) (hk_nth_in (n := 13) rfl)
theorem hk_cw191 : hk_cP 191 := hk_tb_in (k := 6) (hk_nth_in (n := 17) rfl)
theorem hk_cw192 : hk_cP 192 := hk_tb_in (k := 6) (hk_nth_in (n := 21) rfl)
theorem hk_cw193 : hk_cP 193 := hk_tb_in (k := 6) (hk_nth_in (n := 25) rfl)
theorem hk_cw194 : hk_cP 194 := hk_tb_in (k := 6) (hk_nth_in (n := 28) rfl)
theorem hk_cw195 : hk_cP 195 := hk_tb_in (k := 6) (hk_nth_in (n := 32) rfl)
theorem hk_cw196 : hk_cP 196 := hk_tb_in (k := 6) (hk_nth_in (n := 36) rfl)
theorem hk_cw197 : hk_cP 197 := hk_tb_in (k := 6) (hk_nth_in (n := 40) rfl)
theorem hk_cw198 : hk_cP 198 := hk_tb_in (k := 6) (hk_nth_in (n := 44) rfl)
theorem hk_cw199 : hk_cP 199 := hk_tb_in (k := 6) (hk_nth_in (n := 48) rfl)
theorem hk_cw200 : hk_cP 200 := hk_tb_in (k := 6) (hk_nth_in (n := 52) rfl)
theorem hk_cw201 : hk_cP 201 := hk_tb_in (k := 6) (hk_nth_in (n := 57) rfl)
theorem hk_cw202 : hk_cP 202 := hk_tb_in (k := 6) (hk_nth_in (n := 61) rfl)
theorem hk_cw203 : hk_cP 203 := hk_tb_in (k := 6) (hk_nth_in (n := 65) rfl)
theorem hk_cw204 : hk_cP 204 := hk_tb_in (k := 6) (hk_nth_in (n := 69) rfl)
theorem hk_cw205 : hk_cP 205 := hk_tb_in (k := 6) (hk_nth_in (n := 73) rfl)
theorem hk_cw206 : hk_cP 206 := hk_tb_in (k := 6) (hk_nth_in (n := 77) rfl)
theorem hk_cw207 : hk_cP 207 := hk_tb_in (k := 6) (hk_nth_in (n := 81) rfl)
theorem hk_cw208 : hk_cP 208 := hk_tb_in (k := 6) (hk_nth_in (n := 85) rfl)
theorem hk_cw209 : hk_cP 209 := hk_tb_in (k := 6) (hk_nth_in (n := 88) rfl)
theorem hk_cw210 : hk_cP 210 := hk_tb_in (k := 6) (hk_nth_in (n := 92) rfl)
theorem hk_cw211 : hk_cP 211 := hk_tb_in (k := 6) (hk_nth_in (n := 97) rfl)
theorem hk_cw212 : hk_cP 212 := hk_tb_in (k := 6) (hk_nth_in (n := 101) rfl)
theorem hk_cw213 : hk_cP 213 := hk_tb_in (k := 6) (hk_nth_in (n := 105) rfl)
theorem hk_cw214 : hk_cP 214 := hk_tb_in (k := 6) (hk_nth_in (n := 109) rfl)
theorem hk_cw215 : hk_cP 215 := hk_tb_in (k := 6) (hk_nth_in (n := 113) rfl)
theorem hk_cw216 : hk_cP 216 := hk_tb_in (k := 6) (hk_nth_in (n := 117) rfl)
theorem hk_cw217 : hk_cP 217 := hk_tb_in (k := 6) (hk_nth_in (n := 121) rfl)
theorem hk_cw218 : hk_cP 218 := hk_tb_in (k := 6) (hk_nth_in (n := 124) rfl)
theorem hk_cw219 : hk_cP 219 := hk_tb_in (k := 6) (hk_nth_in (n := 128) rfl)
theorem hk_cw220 : hk_cP 220 := hk_tb_in (k := 6) (hk_nth_in (n := 132) rfl)
theorem hk_cw221 : hk_cP 221 := hk_tb_in (k := 6) (hk_nth_in (n := 136) rfl)
theorem hk_cw222 : hk_cP 222 := hk_tb_in (k := 6) (hk_nth_in (n := 140) rfl)
theorem hk_cw223 : hk_cP 223 := hk_tb_in (k := 6) (hk_nth_in (n := 144) rfl)
theorem hk_cw224 : hk_cP 224 := hk_tb_in (k := 6) (hk_nth_in (n := 148) rfl)
theorem hk_cw225 : hk_cP 225 := hk_tb_in (k := 6) (hk_nth_in (n := 152) rfl)
theorem hk_cw226 : hk_cP 226 := hk_tb_in (k := 6) (hk_nth_in (n := 156) rfl)
theorem hk_cw227 : hk_cP 227 := hk_tb_in (k := 6) (hk_nth_in (n := 160) rfl)
theorem hk_cw228 : hk_cP 228 := hk_tb_in (k := 6) (hk_nth_in (n := 164) rfl)
theorem hk_cw229 : hk_cP 229 := hk_tb_in (k := 6) (hk_nth_in (n := 168) rfl)
theorem hk_cw230 : hk_cP 230 := hk_tb_in (k := 6) (hk_nth_in (n := 172) rfl)
theorem hk_cw231 : hk_cP 231 := hk_tb_in (k := 6) (hk_nth_in (n := 176) rfl)
theorem hk_cw232 : hk_cP 232 := hk_tb_in (k := 6) (hk_nth_in (n := 180) rfl)
theorem hk_cw233 : hk_cP 233 := hk_tb_in (k := 6) (hk_nth_in (n := 184) rfl)
theorem hk_cw234 : hk_cP 234 := hk_tb_in (k := 6) (hk_nth_in (n := 188) rfl)
theorem hk_cw235 : hk_cP 235 := hk_tb_in (k := 6) (hk_nth_in (n := 192) rfl)
theorem hk_mL_c0 : ∀ e ∈ hk_mL_0, hk_cP e.2.2.2.1 := List.forall_mem_cons.mpr ⟨hk_cw120, List.forall_mem_cons.mpr ⟨hk_cw121, List.forall_mem_cons.mpr ⟨hk_cw122, List.forall_mem_cons.mpr ⟨hk_cw44, List.forall_mem_cons.mpr ⟨hk_cw79, List.forall_mem_cons.mpr ⟨hk_cw2, List.forall_mem_cons.mpr ⟨hk_cw3, List.forall_mem_cons.mpr ⟨hk_cw13, List.forall_mem_cons.mpr ⟨hk_cw14, List.forall_mem_cons.mpr ⟨hk_cw41, List.forall_mem_cons.mpr ⟨hk_cw42, List.forall_mem_cons.mpr ⟨hk_cw32, List.forall_mem_cons.mpr ⟨hk_cw58, List.forall_mem_cons.mpr ⟨hk_cw67, List.forall_mem_cons.mpr ⟨hk_cw64, List.forall_mem_cons.mpr ⟨hk_cw33, fun _ h => absurd h List.not_mem_nil⟩⟩⟩⟩⟩⟩⟩⟩⟩⟩⟩⟩⟩⟩⟩⟩
theorem hk_mL_c1 : ∀ e ∈ hk_mL_1, hk_cP e.2.2.2.1 := List.forall_mem_cons.mpr ⟨hk_cw73, List.forall_mem_cons.mpr ⟨hk_cw60, List.forall_mem_cons.mpr ⟨hk_cw74, List.forall_mem_cons.mpr ⟨hk_cw76, List.forall_mem_cons.mpr ⟨hk_cw59, List.forall_mem_cons.mpr ⟨hk_cw57, List.forall_mem_cons.mpr ⟨hk_cw34, List.forall_mem_cons.mpr ⟨hk_cw61, List.forall_mem_cons.mpr ⟨hk_cw75, List.forall_mem_cons.mpr ⟨hk_cw77, List.forall_mem_cons.mpr ⟨hk_cw78, List.forall_mem_cons.mpr ⟨hk_cw80, List.forall_mem_cons.mpr ⟨hk_cw12, List.forall_mem_cons.mpr ⟨hk_cw15, List.forall_mem_cons.mpr ⟨hk_cw17, List.forall_mem_cons.mpr ⟨hk_cw18, fun _ h => absurd h List.not_mem_nil⟩⟩⟩⟩⟩⟩⟩⟩⟩⟩⟩⟩⟩⟩⟩⟩
theorem hk_mL_c2 : ∀ e ∈ hk_mL_2, hk_cP e.2.2.2.1 := List.forall_mem_cons.mpr ⟨hk_cw27, List.forall_mem_cons.mpr ⟨hk_cw19, List.forall_mem_cons.mpr ⟨hk_cw36, List.forall_mem_cons.mpr ⟨hk_cw38, List.forall_mem_cons.mpr ⟨hk_cw28, List.forall_mem_cons.mpr ⟨hk_cw35, List.forall_mem_cons.mpr ⟨hk_cw29, List.forall_mem_cons.mpr ⟨hk_cw37, List.forall_mem_cons.mpr ⟨hk_cw30, List.forall_mem_cons.mpr ⟨hk_cw31, List.forall_mem_cons.mpr ⟨hk_cw33, List.forall_mem_cons.mpr ⟨hk_cw34, List.forall_mem_cons.mpr ⟨hk_cw39, List.forall_mem_cons.mpr ⟨hk_cw14, List.forall_mem_cons.mpr ⟨hk_cw20, List.forall_mem_cons.mpr ⟨hk_cw22, fun _ h => absurd h List.not_mem_nil⟩⟩⟩⟩⟩⟩⟩⟩⟩⟩⟩⟩⟩⟩⟩⟩
theorem hk_mL_c3 : ∀ e ∈ hk_mL_3, hk_cP e.2.2.2.1 := List.forall_mem_cons.mpr ⟨hk_cw16, List.forall_mem_cons.mpr ⟨hk_cw1, List.forall_mem_cons.mpr ⟨hk_cw4, List.forall_mem_cons.mpr ⟨hk_cw5, List.forall_mem_cons.mpr ⟨hk_cw6, List.forall_mem_cons.mpr ⟨hk_cw8, List.forall_mem_cons.mpr ⟨hk_cw9, List.forall_mem_cons.mpr ⟨hk_cw11, List.forall_mem_cons.mpr ⟨hk_cw40, List.forall_mem_cons.mpr ⟨hk_cw44, List.forall_mem_cons.mpr ⟨hk_cw45, List.forall_mem_cons.mpr ⟨hk_cw14, List.forall_mem_cons.mpr ⟨hk_cw37, List.forall_mem_cons.mpr ⟨hk_cw49, List.forall_mem_cons.mpr ⟨hk_cw50, List.forall_mem_cons.mpr ⟨hk_cw51, fun _ h => absurd h List.not_mem_nil⟩⟩⟩⟩⟩⟩⟩⟩⟩⟩⟩⟩⟩⟩⟩⟩
theorem hk_mL_c4 : ∀ e ∈ hk_mL_4, hk_cP e.2.2.2.1 := List.forall_mem_cons.mpr ⟨hk_cw31, List.forall_mem_cons.mpr ⟨hk_cw34, List.forall_mem_cons.mpr ⟨hk_cw56, List.forall_mem_cons.mpr ⟨hk_cw57, List.forall_mem_cons.mpr ⟨hk_cw59, List.forall_mem_cons.mpr ⟨hk_cw60, List.forall_mem_cons.mpr ⟨hk_cw61, List.forall_mem_cons.mpr ⟨hk_cw32, List.forall_mem_cons.mpr ⟨hk_cw64, List.forall_mem_cons.mpr ⟨hk_cw33, List.forall_mem_cons.mpr ⟨hk_cw58, List.forall_mem_cons.mpr ⟨hk_cw67, List.forall_mem_cons.mpr ⟨hk_cw69, List.forall_mem_cons.mpr ⟨hk_cw71, List.forall_mem_cons.mpr ⟨hk_cw72, List.forall_mem_cons.mpr ⟨hk_cw83, fun _ h => absurd h List.not_mem_nil⟩⟩⟩⟩⟩⟩⟩⟩⟩⟩⟩⟩⟩⟩⟩⟩
theorem hk_mL_c5 : ∀ e ∈ hk_mL_5, hk_cP e.2.2.2.1 := List.forall_mem_cons.mpr ⟨hk_cw89, List.forall_mem_cons.mpr ⟨hk_cw90, List.forall_mem_cons.mpr ⟨hk_cw13, List.forall_mem_cons.mpr ⟨hk_cw95, List.forall_mem_cons.mpr ⟨hk_cw73, List.forall_mem_cons.mpr ⟨hk_cw99, List.forall_mem_cons.mpr ⟨hk_cw100, List.forall_mem_cons.mpr ⟨hk_cw102, List.forall_mem_cons.mpr ⟨hk_cw105, List.forall_mem_cons.mpr ⟨hk_cw108, List.forall_mem_cons.mpr ⟨hk_cw110, List.forall_mem_cons.mpr ⟨hk_cw113, List.forall_mem_cons.mpr ⟨hk_cw114, List.forall_mem_cons.mpr ⟨hk_cw116, List.forall_mem_cons.mpr ⟨hk_cw118, List.forall_mem_cons.mpr ⟨hk_cw119, fun _ h => absurd h List.not_mem_nil⟩⟩⟩⟩⟩⟩⟩⟩⟩⟩⟩⟩⟩⟩⟩⟩
theorem hk_mL_c6 : ∀ e ∈ hk_mL_6, hk_cP e.2.2.2.1 := List.forall_mem_cons.mpr ⟨hk_cw125, List.forall_mem_cons.mpr ⟨hk_cw91, List.forall_mem_cons.mpr ⟨hk_cw130, List.forall_mem_cons.mpr ⟨hk_cw133, List.forall_mem_cons.mpr ⟨hk_cw134, List.forall_mem_cons.mpr ⟨hk_cw135, List.forall_mem_cons.mpr ⟨hk_cw137, List.forall_mem_cons.mpr ⟨hk_cw132, List.forall_mem_cons.mpr ⟨hk_cw142, List.forall_mem_cons.mpr ⟨hk_cw139, List.forall_mem_cons.mpr ⟨hk_cw140, List.forall_mem_cons.mpr ⟨hk_cw141, List.forall_mem_cons.mpr ⟨hk_cw144, List.forall_mem_cons.mpr ⟨hk_cw138, List.forall_mem_cons.mpr ⟨hk_cw143, List.forall_mem_cons.mpr ⟨hk_cw145, fun _ h => absurd h List.not_mem_nil⟩⟩⟩⟩⟩⟩⟩⟩⟩⟩⟩⟩⟩⟩⟩⟩
theorem hk_mL_c7 : ∀ e ∈ hk_mL_7, hk_cP e.2.2.2.1 := List.forall_mem_cons.mpr ⟨hk_cw146, List.forall_mem_cons.mpr ⟨hk_cw136, List.forall_mem_cons.mpr ⟨hk_cw147, List.forall_mem_cons.mpr ⟨hk_cw149, List.forall_mem_cons.mpr ⟨hk_cw151, List.forall_mem_cons.mpr ⟨hk_cw148, List.forall_mem_cons.mpr ⟨hk_cw153, List.forall_mem_cons.mpr ⟨hk_cw157, List.forall_mem_cons.mpr ⟨hk_cw155, List.forall_mem_cons.mpr ⟨hk_cw156, List.forall_mem_cons.mpr ⟨hk_cw158, List.forall_mem_cons.mpr ⟨hk_cw163, List.forall_mem_cons.mpr ⟨hk_cw164, List.forall_mem_cons.mpr ⟨hk_cw165, List.forall_mem_cons.mpr ⟨hk_cw166, List.forall_mem_cons.mpr ⟨hk_cw167, fun _ h => absurd h List.not_mem_nil⟩⟩⟩⟩⟩⟩⟩⟩⟩⟩⟩⟩⟩⟩⟩⟩
theorem hk_mL_c8 : ∀ e ∈ hk_mL_8, hk_cP e.2.2.2.1 := List.forall_mem_cons.mpr ⟨hk_cw170, List.forall_mem_cons.mpr ⟨hk_cw173, List.forall_mem_cons.mpr ⟨hk_cw172, List.forall_mem_cons.mpr ⟨hk_cw175, List.forall_mem_cons.mpr ⟨hk_cw183, List.forall_mem_cons.mpr ⟨hk_cw184, List.forall_mem_cons.mpr ⟨hk_cw181, List.forall_mem_cons.mpr ⟨hk_cw182, List.forall_mem_cons.mpr ⟨hk_cw180, List.forall_mem_cons.mpr ⟨hk_cw178, List.forall_mem_cons.mpr ⟨hk_cw179, List.forall_mem_cons.mpr ⟨hk_cw188, List.forall_mem_cons.mpr ⟨hk_cw187, List.forall_mem_cons.mpr ⟨hk_cw194, List.forall_mem_cons.mpr ⟨hk_cw198, List.forall_mem_cons.mpr ⟨hk_cw203, fun _ h => absurd h List.not_mem_nil⟩⟩⟩⟩⟩⟩⟩⟩⟩⟩⟩⟩⟩⟩⟩⟩
theorem hk_mL_c9 : ∀ e ∈ hk_mL_9, hk_cP e.2.2.2.1 := List.forall_mem_cons.mpr ⟨hk_cw202, List.forall_mem_cons.mpr ⟨hk_cw205, List.forall_mem_cons.mpr ⟨hk_cw209, List.forall_mem_cons.mpr ⟨hk_cw210, List.forall_mem_cons.mpr ⟨hk_cw215, List.forall_mem_cons.mpr ⟨hk_cw217, List.forall_mem_cons.mpr ⟨hk_cw218, List.forall_mem_cons.mpr ⟨hk_cw222, List.forall_mem_cons.mpr ⟨hk_cw223, List.forall_mem_cons.mpr ⟨hk_cw221, List.forall_mem_cons.mpr ⟨hk_cw220, List.forall_mem_cons.mpr ⟨hk_cw225, List.forall_mem_cons.mpr ⟨hk_cw227, List.forall_mem_cons.mpr ⟨hk_cw224, List.forall_mem_cons.mpr ⟨hk_cw229, List.forall_mem_cons.mpr ⟨hk_cw226, fun _ h => absurd h List.not_mem_nil⟩⟩⟩⟩⟩⟩⟩⟩⟩⟩⟩⟩⟩⟩⟩⟩
theorem hk_mL_c10 : ∀ e ∈ hk_mL_10, hk_cP e.2.2.2.1 := List.forall_mem_cons.mpr ⟨hk_cw228, List.forall_mem_cons.mpr ⟨hk_cw234, List.forall_mem_cons.mpr ⟨hk_cw233, List.forall_mem_cons.mpr ⟨hk_cw21, List.forall_mem_cons.mpr ⟨hk_cw23, List.forall_mem_cons.mpr ⟨hk_cw24, List.forall_mem_cons.mpr ⟨hk_cw26, List.forall_mem_cons.mpr ⟨hk_cw0, List.forall_mem_cons.mpr ⟨hk_cw128, List.forall_mem_cons.mpr ⟨hk_cw7, List.forall_mem_cons.mpr ⟨hk_cw129, List.forall_mem_cons.mpr ⟨hk_cw10, List.forall_mem_cons.mpr ⟨hk_cw131, List.forall_mem_cons.mpr ⟨hk_cw43, List.forall_mem_cons.mpr ⟨hk_cw150, List.forall_mem_cons.mpr ⟨hk_cw46, fun _ h => absurd h List.not_mem_nil⟩⟩⟩⟩⟩⟩⟩⟩⟩⟩⟩⟩⟩⟩⟩⟩
theorem hk_mL_c11 : ∀ e ∈ hk_mL_11, hk_cP e.2.2.2.1 := List.forall_mem_cons.mpr ⟨hk_cw148, List.forall_mem_cons.mpr ⟨hk_cw47, List.forall_mem_cons.mpr ⟨hk_cw152, List.forall_mem_cons.mpr ⟨hk_cw48, List.forall_mem_cons.mpr ⟨hk_cw154, List.forall_mem_cons.mpr ⟨hk_cw52, List.forall_mem_cons.mpr ⟨hk_cw159, List.forall_mem_cons.mpr ⟨hk_cw53, List.forall_mem_cons.mpr ⟨hk_cw160, List.forall_mem_cons.mpr ⟨hk_cw54, List.forall_mem_cons.mpr ⟨hk_cw161, List.forall_mem_cons.mpr ⟨hk_cw55, List.forall_mem_cons.mpr ⟨hk_cw162, List.forall_mem_cons.mpr ⟨hk_cw62, List.forall_mem_cons.mpr ⟨hk_cw168, List.forall_mem_cons.mpr ⟨hk_cw63, fun _ h => absurd h List.not_mem_nil⟩⟩⟩⟩⟩⟩⟩⟩⟩⟩⟩⟩⟩⟩⟩⟩
theorem hk_mL_c12 : ∀ e ∈ hk_mL_12, hk_cP e.2.2.2.1 := List.forall_mem_cons.mpr ⟨hk_cw169, List.forall_mem_cons.mpr ⟨hk_cw65, List.forall_mem_cons.mpr ⟨hk_cw171, List.forall_mem_cons.mpr ⟨hk_cw66, List.forall_mem_cons.mpr ⟨hk_cw174, List.forall_mem_cons.mpr ⟨hk_cw68, List.forall_mem_cons.mpr ⟨hk_cw176, List.forall_mem_cons.mpr ⟨hk_cw70, List.forall_mem_cons.mpr ⟨hk_cw177, List.forall_mem_cons.mpr ⟨hk_cw81, List.forall_mem_cons.mpr ⟨hk_cw185, List.forall_mem_cons.mpr ⟨hk_cw82, List.forall_mem_cons.mpr ⟨hk_cw186, List.forall_mem_cons.mpr ⟨hk_cw84, List.forall_mem_cons.mpr ⟨hk_cw189, List.forall_mem_cons.mpr ⟨hk_cw85, fun _ h => absurd h List.not_mem_nil⟩⟩⟩⟩⟩⟩⟩⟩⟩⟩⟩⟩⟩⟩⟩⟩
theorem hk_mL_c13 : ∀ e ∈ hk_mL_13, hk_cP e.2.2.2.1 := List.forall_mem_cons.mpr ⟨hk_cw190, List.forall_mem_cons.mpr ⟨hk_cw86, List.forall_mem_cons.mpr ⟨hk_cw191, List.forall_mem_cons.mpr ⟨hk_cw87, List.forall_mem_cons.mpr ⟨hk_cw192, List.forall_mem_cons.mpr ⟨hk_cw88, List.forall_mem_cons.mpr ⟨hk_cw193, List.forall_mem_cons.mpr ⟨hk_cw92, List.forall_mem_cons.mpr ⟨hk_cw195, List.forall_mem_cons.mpr ⟨hk_cw93, List.forall_mem_cons.mpr ⟨hk_cw196, List.forall_mem_cons.mpr ⟨hk_cw94, List.forall_mem_cons.mpr ⟨hk_cw197, List.forall_mem_cons.mpr ⟨hk_cw96, List.forall_mem_cons.mpr ⟨hk_cw199, List.forall_mem_cons.mpr ⟨hk_cw97, fun _ h => absurd h List.not_mem_nil⟩⟩⟩⟩⟩⟩⟩⟩⟩⟩⟩⟩⟩⟩⟩⟩
theorem hk_mL_c14 : ∀ e ∈ hk_mL_14, hk_cP e.2.2.2.1 := List.forall_mem_cons.mpr ⟨hk_cw200, List.forall_mem_cons.mpr ⟨hk_cw98, List.forall_mem_cons.mpr ⟨hk_cw201, List.forall_mem_cons.mpr ⟨hk_cw101, List.forall_mem_cons.mpr ⟨hk_cw204, List.forall_mem_cons.mpr ⟨hk_cw103, List.forall_mem_cons.mpr ⟨hk_cw206, List.forall_mem_cons.mpr ⟨hk_cw104, List.forall_mem_cons.mpr ⟨hk_cw207, List.forall_mem_cons.mpr ⟨hk_cw106, List.forall_mem_cons.mpr ⟨hk_cw208, List.forall_mem_cons.mpr ⟨hk_cw107, List.forall_mem_cons.mpr ⟨hk_cw211, List.forall_mem_cons.mpr ⟨hk_cw109, List.forall_mem_cons.mpr ⟨hk_cw212, List.forall_mem_cons.mpr ⟨hk_cw111, fun _ h => absurd h List.not_mem_nil⟩⟩⟩⟩⟩⟩⟩⟩⟩⟩⟩⟩⟩⟩⟩⟩
theorem hk_mL_c15 : ∀ e ∈ hk_mL_15, hk_cP e.2.2.2.1 := List.forall_mem_cons.mpr ⟨hk_cw213, List.forall_mem_cons.mpr ⟨hk_cw112, List.forall_mem_cons.mpr ⟨hk_cw214, List.forall_mem_cons.mpr ⟨hk_cw115, List.forall_mem_cons.mpr ⟨hk_cw216, List.forall_mem_cons.mpr ⟨hk_cw117, List.forall_mem_cons.mpr ⟨hk_cw219, List.forall_mem_cons.mpr ⟨hk_cw123, List.forall_mem_cons.mpr ⟨hk_cw230, List.forall_mem_cons.mpr ⟨hk_cw124, List.forall_mem_cons.mpr ⟨hk_cw231, List.forall_mem_cons.mpr ⟨hk_cw126, List.forall_mem_cons.mpr ⟨hk_cw232, List.forall_mem_cons.mpr ⟨hk_cw127, List.forall_mem_cons.mpr ⟨hk_cw235, List.forall_mem_cons.mpr ⟨hk_cw25, fun _ h => absurd h List.not_mem_nil⟩⟩⟩⟩⟩⟩⟩⟩⟩⟩⟩⟩⟩⟩⟩⟩
theorem hk_mL_c : ∀ e ∈ hk_mL, hk_cP e.2.2.2.1 := by
  unfold hk_mL
  simp only [List.forall_mem_append]
  exact ⟨⟨⟨⟨⟨⟨⟨⟨⟨⟨⟨⟨⟨⟨⟨hk_mL_c0, hk_mL_c1⟩, hk_mL_c2⟩, hk_mL_c3⟩, hk_mL_c4⟩, hk_mL_c5⟩, hk_mL_c6⟩, hk_mL_c7⟩, hk_mL_c8⟩, hk_mL_c9⟩, hk_mL_c10⟩, hk_mL_c11⟩, hk_mL_c12⟩, hk_mL_c13⟩, hk_mL_c14⟩, hk_mL_c15⟩
theorem hk_xc_max : Cond.code Lib.Math.max.name Lib.Math.max.code 2 (some .int) ∈ lw_tbl := hk_tb_in (k := 3) (hk_nth_in (n := 2) rfl)
theorem hk_xs_max : Cond.static Lib.Math.max.name ∈ lw_tbl := hk_tb_in (k := 3) (hk_nth_in (n := 1) rfl)
theorem hk_xc_min : Cond.code Lib.Math.min.name Lib.Math.min.code 2 (some .int) ∈ lw_tbl := hk_tb_in (k := 3) (hk_nth_in (n := 97) rfl)
theorem hk_xs_min : Cond.static Lib.Math.min.name ∈ lw_tbl := hk_tb_in (k := 3) (hk_nth_in (n := 96) rfl)
theorem hk_xc_abs : Cond.code Lib.Math.abs.name Lib.Math.abs.code 1 (some .int) ∈ lw_tbl := hk_tb_in (k := 3) (hk_nth_in (n := 87) rfl)
theorem hk_xs_abs : Cond.static Lib.Math.abs.name ∈ lw_tbl := hk_tb_in (k := 3) (hk_nth_in (n := 86) rfl)
theorem hk_xi : Cond.initialized "java/lang/Math" ∈ lw_tbl := hk_tb_in (k := 1) (hk_nth_in (n := 14) rfl)
