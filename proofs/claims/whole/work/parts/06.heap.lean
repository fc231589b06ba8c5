/-! the methods, and the cells of one object, one reference, the rows that were made -/
def hk_bds : List (hk_Cd × Option FieldType × Nat × Nat × Nat) := [
  (hcd0, none, 59, 636, 2),
  (hcd1, none, 15, 99, 2),
  (hcd2, none, 0, 0, 1),
  (hcd3, none, 0, 0, 1),
  (hcd4, none, 1, 200, 1),
  (hcd5, none, 1, 30, 1),
  (hcd6, none, 0, 0, 1),
  (hcd7, (some .int), 0, 0, 5),
  (hcd8, (some .int), 0, 0, 1),
  (hcd9, none, 0, 0, 2),
  (hcd10, (some .int), 0, 0, 2),
  (hcd11, (some .int), 0, 0, 3),
  (hcd12, none, 0, 0, 1),
  (hcd13, none, 0, 0, 2),
  (hcd14, none, 0, 0, 4),
  (hcd15, none, 0, 0, 1),
  (hcd16, (some .int), 0, 0, 2),
  (hcd17, none, 0, 0, 3),
  (hcd18, (some .int), 0, 0, 1),
  (hcd19, (some .boolean), 0, 0, 3),
  (hcd20, (some .int), 0, 0, 1),
  (hcd21, (some .byte), 0, 0, 1),
  (hcd22, (some .char), 0, 0, 2),
  (hcd23, (some .boolean), 0, 0, 1),
  (hcd24, (some .char), 0, 0, 2),
  (hcd25, none, 0, 0, 2),
  (hcd26, (some .int), 0, 0, 3),
  (hcd27, none, 0, 0, 5),
  (hcd28, (some .int), 0, 0, 4),
  (hcd29, none, 0, 0, 1),
  (hcd30, none, 0, 0, 2),
  (hcd31, (some .int), 0, 0, 4),
  (hcd32, none, 0, 0, 3),
  (hcd33, none, 0, 0, 2),
  (hcd34, none, 0, 0, 2),
  (hcd35, none, 0, 0, 1),
  (hcd36, none, 0, 0, 4),
  (hcd37, (some .int), 0, 0, 3),
  (hcd38, none, 0, 0, 4),
  (hcd39, (some .int), 0, 0, 1),
  (hcd40, none, 0, 0, 3),
  (hcd41, none, 0, 0, 2),
  (hcd42, none, 0, 0, 2),
  (hcd43, (some .int), 0, 0, 5),
  (hcd44, (some .boolean), 0, 0, 2),
  (hcd45, (some .int), 0, 0, 2),
  (hcd46, (some .int), 0, 0, 2),
  (hcd47, (some .int), 0, 0, 3),
  (hcd48, (some .int), 0, 0, 3),
  (hcd49, (some .boolean), 0, 0, 2),
  (hcd50, (some .int), 0, 0, 4),
  (hcd51, (some .int), 0, 0, 4),
  (hcd52, (some .int), 0, 0, 4),
  (hcd53, (some .int), 0, 0, 4),
  (hcd54, (some .int), 0, 0, 6),
  (hcd55, (some .int), 0, 0, 4),
  (hcd56, (some .boolean), 0, 0, 2),
  (hcd57, (some .int), 0, 0, 3),
  (hcd58, (some .boolean), 0, 0, 1),
  (hcd59, (some .int), 0, 0, 2),
  (hcd60, (some .int), 0, 0, 1),
  (hcd61, (some .int), 0, 0, 4),
  (hcd62, (some .int), 0, 0, 5),
  (hcd63, (some .int), 0, 0, 4),
  (hcd64, (some .boolean), 0, 0, 1),
  (hcd65, (some .int), 0, 0, 3),
  (hcd66, (some .int), 0, 0, 3),
  (hcd67, (some .boolean), 0, 0, 1),
  (hcd68, (some .int), 0, 0, 3),
  (hcd69, (some .int), 0, 0, 6),
  (hcd70, (some .int), 0, 0, 2),
  (hcd71, (some .boolean), 0, 0, 1),
  (hcd72, none, 0, 0, 3),
  (hcd73, none, 0, 0, 3),
  (hcd74, none, 0, 0, 5),
  (hcd75, none, 0, 0, 5),
  (hcd76, none, 0, 0, 4),
  (hcd77, (some .int), 0, 0, 7),
  (hcd78, none, 0, 0, 4),
  (hcd79, (some .int), 0, 0, 2),
  (hcd80, none, 0, 0, 4),
  (hcd81, (some .int), 0, 0, 3),
  (hcd82, (some .int), 0, 0, 3),
  (hcd83, none, 0, 0, 2),
  (hcd84, (some .int), 0, 0, 3),
  (hcd85, (some .int), 0, 0, 3),
  (hcd86, (some .int), 0, 0, 3),
  (hcd87, (some .int), 0, 0, 4),
  (hcd88, (some .int), 0, 0, 3),
  (hcd89, (some .boolean), 0, 0, 1),
  (hcd90, (some .int), 0, 0, 9),
  (hcd91, none, 0, 0, 4),
  (hcd92, (some .int), 0, 0, 3),
  (hcd93, (some .int), 0, 0, 3),
  (hcd94, (some .int), 0, 0, 2),
  (hcd95, (some .boolean), 0, 0, 2),
  (hcd96, (some .int), 0, 0, 3),
  (hcd97, (some .int), 0, 0, 2),
  (hcd98, (some .int), 0, 0, 3),
  (hcd99, (some .int), 0, 0, 3),
  (hcd100, (some .int), 0, 0, 3),
  (hcd101, (some .int), 0, 0, 3),
  (hcd102, (some .boolean), 0, 0, 3),
  (hcd103, (some .int), 0, 0, 5),
  (hcd104, (some .int), 0, 0, 2),
  (hcd105, (some .boolean), 0, 0, 2),
  (hcd106, (some .int), 0, 0, 7),
  (hcd107, (some .int), 2, 42, 4),
  (hcd108, none, 1, 40, 3),
  (hcd109, (some .int), 0, 0, 5),
  (hcd110, (some .int), 0, 0, 2),
  (hcd111, (some .int), 0, 0, 5),
  (hcd112, (some .int), 0, 0, 4),
  (hcd113, none, 0, 0, 2),
  (hcd114, none, 0, 0, 2),
  (hcd115, (some .int), 0, 0, 7),
  (hcd116, (some .boolean), 0, 0, 2),
  (hcd117, (some .int), 0, 0, 5),
  (hcd118, none, 0, 0, 1),
  (hcd119, (some .int), 0, 0, 6),
  (hcd120, (some .int), 0, 0, 7),
  (hcd121, none, 0, 0, 2),
  (hcd122, (some .int), 0, 0, 3),
  (hcd123, (some .int), 0, 0, 2),
  (hcd124, (some .int), 0, 0, 2),
  (hcd125, (some .int), 0, 0, 1),
  (hcd126, (some .int), 0, 0, 1),
  (hcd127, (some .int), 0, 0, 1),
  (hcd128, none, 28, 828, 1),
  (hcd129, (some .int), 0, 0, 5),
  (hcd130, (some .boolean), 0, 0, 3),
  (hcd131, (some .int), 0, 0, 2),
  (hcd132, none, 0, 0, 2),
  (hcd133, (some .int), 0, 0, 2),
  (hcd134, (some .boolean), 0, 0, 1),
  (hcd135, (some .boolean), 0, 0, 1),
  (hcd136, none, 0, 0, 1),
  (hcd137, (some .boolean), 0, 0, 3),
  (hcd138, none, 0, 0, 3),
  (hcd139, (some .int), 0, 0, 4),
  (hcd140, (some .boolean), 0, 0, 4),
  (hcd141, none, 0, 0, 1),
  (hcd142, (some .boolean), 0, 0, 2),
  (hcd143, none, 0, 0, 4),
  (hcd144, (some .int), 0, 0, 1),
  (hcd145, (some .int), 0, 0, 1),
  (hcd146, none, 0, 0, 6),
  (hcd147, none, 0, 0, 2),
  (hcd148, (some .int), 0, 0, 2),
  (hcd149, (some .boolean), 0, 0, 1),
  (hcd150, (some .int), 0, 0, 5),
  (hcd151, (some .boolean), 0, 0, 2),
  (hcd152, (some .int), 0, 0, 3),
  (hcd153, (some .boolean), 0, 0, 1),
  (hcd154, (some .int), 0, 0, 3),
  (hcd155, (some .boolean), 0, 0, 2),
  (hcd156, (some .int), 0, 0, 4),
  (hcd157, (some .int), 0, 0, 2),
  (hcd158, (some .int), 0, 0, 4),
  (hcd159, (some .int), 0, 0, 4),
  (hcd160, (some .int), 0, 0, 4),
  (hcd161, (some .int), 0, 0, 5),
  (hcd162, (some .int), 0, 0, 3),
  (hcd163, (some .boolean), 0, 0, 2),
  (hcd164, (some .int), 0, 0, 1),
  (hcd165, (some .int), 0, 0, 2),
  (hcd166, (some .int), 0, 0, 2),
  (hcd167, (some .int), 0, 0, 5),
  (hcd168, (some .int), 0, 0, 5),
  (hcd169, (some .int), 0, 0, 3),
  (hcd170, (some .boolean), 0, 0, 2),
  (hcd171, (some .int), 0, 0, 2),
  (hcd172, none, 0, 0, 2),
  (hcd173, none, 0, 0, 3),
  (hcd174, (some .int), 0, 0, 3),
  (hcd175, (some .boolean), 0, 0, 2),
  (hcd176, (some .int), 0, 0, 6),
  (hcd177, (some .int), 0, 0, 2),
  (hcd178, (some .boolean), 0, 0, 1),
  (hcd179, none, 0, 0, 4),
  (hcd180, none, 0, 0, 4),
  (hcd181, none, 0, 0, 7),
  (hcd182, none, 0, 0, 5),
  (hcd183, (some .int), 0, 0, 4),
  (hcd184, (some .int), 0, 0, 3),
  (hcd185, (some .int), 0, 0, 3),
  (hcd186, (some .int), 0, 0, 3),
  (hcd187, (some .int), 0, 0, 4),
  (hcd188, none, 0, 0, 2),
  (hcd189, (some .int), 0, 0, 4),
  (hcd190, (some .int), 0, 0, 4),
  (hcd191, (some .int), 0, 0, 4),
  (hcd192, (some .int), 0, 0, 4),
  (hcd193, (some .int), 0, 0, 10),
  (hcd194, (some .boolean), 0, 0, 1),
  (hcd195, (some .int), 0, 0, 8),
  (hcd196, (some .int), 0, 0, 9),
  (hcd197, (some .int), 0, 0, 2),
  (hcd198, (some .boolean), 0, 0, 3),
  (hcd199, (some .int), 0, 0, 3),
  (hcd200, (some .int), 0, 0, 2),
  (hcd201, (some .int), 0, 0, 3),
  (hcd202, none, 0, 0, 4),
  (hcd203, (some .int), 0, 0, 3),
  (hcd204, (some .int), 0, 0, 3),
  (hcd205, (some .boolean), 0, 0, 3),
  (hcd206, (some .int), 0, 0, 5),
  (hcd207, (some .int), 0, 0, 4),
  (hcd208, (some .int), 0, 0, 9),
  (hcd209, (some .boolean), 0, 0, 1),
  (hcd210, (some .int), 0, 0, 3),
  (hcd211, (some .int), 0, 0, 5),
  (hcd212, (some .int), 0, 0, 4),
  (hcd213, (some .int), 0, 0, 5),
  (hcd214, (some .int), 0, 0, 4),
  (hcd215, (some .boolean), 0, 0, 3),
  (hcd216, (some .int), 0, 0, 4),
  (hcd217, (some .int), 0, 0, 2),
  (hcd218, (some .boolean), 0, 0, 2),
  (hcd219, (some .int), 0, 0, 6),
  (hcd220, (some .int), 0, 0, 2),
  (hcd221, (some .int), 0, 0, 2),
  (hcd222, none, 0, 0, 2),
  (hcd223, (some .int), 0, 0, 2),
  (hcd224, (some .int), 0, 0, 3),
  (hcd225, (some .int), 0, 0, 2),
  (hcd226, (some .int), 0, 0, 3),
  (hcd227, (some .int), 0, 0, 2),
  (hcd228, (some .int), 0, 0, 3),
  (hcd229, (some .int), 0, 0, 2),
  (hcd230, (some .int), 0, 0, 2),
  (hcd231, (some .int), 0, 0, 4),
  (hcd232, (some .int), 0, 0, 1),
  (hcd233, none, 0, 0, 2),
  (hcd234, none, 0, 0, 5),
  (hcd235, (some .int), 0, 0, 1),
  (hcdLAW, (some .boolean), 217, 4215, 4)]
abbrev mC_init : Nat := 0
abbrev mP_init : Nat := 1
abbrev mN_init : Nat := 2
abbrev mH_init : Nat := 3
abbrev mT_init : Nat := 4
abbrev mA_init : Nat := 5
abbrev mS_init : Nat := 6
abbrev mC_feed : Nat := 7
abbrev mT_room : Nat := 8
abbrev mT_take : Nat := 9
abbrev mC_plain : Nat := 10
abbrev mT_tellTo : Nat := 11
abbrev mP_clear : Nat := 12
abbrev mP_stillWinds : Nat := 13
abbrev mP_setWind : Nat := 14
abbrev mT_step : Nat := 15
abbrev mT_sortAt : Nat := 16
abbrev mT_readOne : Nat := 17
abbrev mT_kindNamed : Nat := 18
abbrev mT_spells : Nat := 19
abbrev mJString_length : Nat := 20
abbrev mJString_coder : Nat := 21
abbrev mJString_charAt : Nat := 22
abbrev mJString_isLatin1 : Nat := 23
abbrev mJStringLatin1_charAt : Nat := 24
abbrev mJString_checkIndex : Nat := 25
abbrev mJPreconditions_checkIndex : Nat := 26
abbrev mT_readHat : Nat := 27
abbrev mT_number : Nat := 28
abbrev mT_fail : Nat := 29
abbrev mT_word : Nat := 30
abbrev mP_addHat : Nat := 31
abbrev mH_become : Nat := 32
abbrev mH_goOn : Nat := 33
abbrev mH_lieIn : Nat := 34
abbrev mT_semicolon : Nat := 35
abbrev mT_readPerson : Nat := 36
abbrev mP_addPerson : Nat := 37
abbrev mT_readWind : Nat := 38
abbrev mT_directionNamed : Nat := 39
abbrev mP_copyFrom : Nat := 40
abbrev mN_copyFrom : Nat := 41
abbrev mH_copyFrom : Nat := 42
abbrev mC_wind : Nat := 43
abbrev mC_isBelow : Nat := 44
abbrev mP_windIn : Nat := 45
abbrev mC_windOf : Nat := 46
abbrev mC_person : Nat := 47
abbrev mC_personOf : Nat := 48
abbrev mC_isPerson : Nat := 49
abbrev mP_ownedBy : Nat := 50
abbrev mP_wornBy : Nat := 51
abbrev mC_moves : Nat := 52
abbrev mC_speed : Nat := 53
abbrev mC_hat : Nat := 54
abbrev mC_hatOf : Nat := 55
abbrev mC_isHat : Nat := 56
abbrev mP_placeOf : Nat := 57
abbrev mH_isWorn : Nat := 58
abbrev mH_firmness : Nat := 59
abbrev mP_hour : Nat := 60
abbrev mH_flight : Nat := 61
abbrev mC_make : Nat := 62
abbrev mC_puts : Nat := 63
abbrev mH_lies : Nat := 64
abbrev mC_down : Nat := 65
abbrev mC_found : Nat := 66
abbrev mH_isGone : Nat := 67
abbrev mC_bow : Nat := 68
abbrev mP_swapHats : Nat := 69
abbrev mC_hours : Nat := 70
abbrev mC_isTrialLength : Nat := 71
abbrev mP_passHours : Nat := 72
abbrev mP_passHour : Nat := 73
abbrev mP_blow : Nat := 74
abbrev mH_fly : Nat := 75
abbrev mP_runForNearest : Nat := 76
abbrev mP_nearestTo : Nat := 77
abbrev mN_runTo : Nat := 78
abbrev mN_atMost : Nat := 79
abbrev mP_putOnAll : Nat := 80
abbrev mC_clock : Nat := 81
abbrev mC_owns : Nat := 82
abbrev mC_tryHours : Nat := 83
abbrev mC_where : Nat := 84
abbrev mC_wears : Nat := 85
abbrev mC_lost : Nat := 86
abbrev mC_master : Nat := 87
abbrev mC_wish : Nat := 88
abbrev mC_isPlanLength : Nat := 89
abbrev mC_bestFor : Nat := 90
abbrev mC_changeTrial : Nat := 91
abbrev mC_start : Nat := 92
abbrev mC_tie : Nat := 93
abbrev mC_calm : Nat := 94
abbrev mP_anyLies : Nat := 95
abbrev mC_seed : Nat := 96
abbrev mC_draw : Nat := 97
abbrev mC_prove : Nat := 98
abbrev mP_allWorn : Nat := 99
abbrev mP_allGone : Nat := 100
abbrev mC_row : Nat := 101
abbrev mC_isRowPart : Nat := 102
abbrev mC_alterRow : Nat := 103
abbrev mC_judge : Nat := 104
abbrev mC_isRowOfTrial : Nat := 105
abbrev mC_winds : Nat := 106
abbrev mC_sheet : Nat := 107
abbrev mR_init : Nat := 108
abbrev mC_put : Nat := 109
abbrev mR_narrowed : Nat := 110
abbrev mC_item : Nat := 111
abbrev mC_shelf : Nat := 112
abbrev mS_takeHat : Nat := 113
abbrev mS_takeRow : Nat := 114
abbrev mC_taken : Nat := 115
abbrev mH_isOfKind : Nat := 116
abbrev mC_act : Nat := 117
abbrev mA_forget : Nat := 118
abbrev mA_perform : Nat := 119
abbrev mA_run : Nat := 120
abbrev mA_begin : Nat := 121
abbrev mA_share : Nat := 122
abbrev mC_trace : Nat := 123
abbrev mC_many : Nat := 124
abbrev mJInteger_bitCount : Nat := 125
abbrev mC_keep : Nat := 126
abbrev mC_again : Nat := 127
abbrev mM_init : Nat := 128
abbrev mM_feed : Nat := 129
abbrev mM_in : Nat := 130
abbrev mM_plain : Nat := 131
abbrev mM_advance : Nat := 132
abbrev mM_byteAt : Nat := 133
abbrev mM_isLetter : Nat := 134
abbrev mM_isDigit : Nat := 135
abbrev mM_wantClause : Nat := 136
abbrev mM_isWord : Nat := 137
abbrev mM_wantPerson : Nat := 138
abbrev mM_wantNumber : Nat := 139
abbrev mM_takes : Nat := 140
abbrev mM_wantEnd : Nat := 141
abbrev mM_isMark : Nat := 142
abbrev mM_wantWind : Nat := 143
abbrev mM_directionHere : Nat := 144
abbrev mM_kindHere : Nat := 145
abbrev mM_wantHat : Nat := 146
abbrev mM_turnsInto : Nat := 147
abbrev mM_windOf : Nat := 148
abbrev mM_isHour : Nat := 149
abbrev mM_wind : Nat := 150
abbrev mM_isWind : Nat := 151
abbrev mM_person : Nat := 152
abbrev mM_isPlace : Nat := 153
abbrev mM_personOf : Nat := 154
abbrev mM_isPerson : Nat := 155
abbrev mM_ownedBy : Nat := 156
abbrev mM_its : Nat := 157
abbrev mM_wornBy : Nat := 158
abbrev mM_moves : Nat := 159
abbrev mM_speed : Nat := 160
abbrev mM_hat : Nat := 161
abbrev mM_hatOf : Nat := 162
abbrev mM_isHat : Nat := 163
abbrev mM_orNot : Nat := 164
abbrev mM_placeOf : Nat := 165
abbrev mM_holds : Nat := 166
abbrev mM_flies : Nat := 167
abbrev mM_make : Nat := 168
abbrev mM_puts : Nat := 169
abbrev mM_isLying : Nat := 170
abbrev mM_down : Nat := 171
abbrev mM_lays : Nat := 172
abbrev mM_becomes : Nat := 173
abbrev mM_found : Nat := 174
abbrev mM_isGone : Nat := 175
abbrev mM_bow : Nat := 176
abbrev mM_hours : Nat := 177
abbrev mM_isTrial : Nat := 178
abbrev mM_go : Nat := 179
abbrev mM_hourGoes : Nat := 180
abbrev mM_blows : Nat := 181
abbrev mM_runs : Nat := 182
abbrev mM_apart : Nat := 183
abbrev mM_stepTo : Nat := 184
abbrev mM_clock : Nat := 185
abbrev mM_owns : Nat := 186
abbrev mM_ownsThen : Nat := 187
abbrev mM_lends : Nat := 188
abbrev mM_where : Nat := 189
abbrev mM_wears : Nat := 190
abbrev mM_lost : Nat := 191
abbrev mM_master : Nat := 192
abbrev mM_wish : Nat := 193
abbrev mM_isSoon : Nat := 194
abbrev mM_start : Nat := 195
abbrev mM_tie : Nat := 196
abbrev mM_calm : Nat := 197
abbrev mM_isAllWorn : Nat := 198
abbrev mM_seed : Nat := 199
abbrev mM_draw : Nat := 200
abbrev mM_prove : Nat := 201
abbrev mM_findRows : Nat := 202
abbrev mM_goneSet : Nat := 203
abbrev mM_row : Nat := 204
abbrev mM_isRow : Nat := 205
abbrev mM_alterRow : Nat := 206
abbrev mM_judge : Nat := 207
abbrev mM_winds : Nat := 208
abbrev mM_isShelf : Nat := 209
abbrev mM_lacksSort : Nat := 210
abbrev mM_sheet : Nat := 211
abbrev mM_put : Nat := 212
abbrev mM_item : Nat := 213
abbrev mM_shelf : Nat := 214
abbrev mM_isHeld : Nat := 215
abbrev mM_taken : Nat := 216
abbrev mM_kindOn : Nat := 217
abbrev mM_isUnder : Nat := 218
abbrev mM_act : Nat := 219
abbrev mM_holdsIt : Nat := 220
abbrev mM_strawHolds : Nat := 221
abbrev mM_ran : Nat := 222
abbrev mM_plainHolds : Nat := 223
abbrev mM_fliesIt : Nat := 224
abbrev mM_plainFlies : Nat := 225
abbrev mM_sharesIt : Nat := 226
abbrev mM_plainShares : Nat := 227
abbrev mM_tellsIt : Nat := 228
abbrev mM_plainTells : Nat := 229
abbrev mM_trace : Nat := 230
abbrev mM_many : Nat := 231
abbrev mM_keep : Nat := 232
abbrev mM_moveAll : Nat := 233
abbrev mM_moveRow : Nat := 234
abbrev mM_again : Nat := 235
abbrev mL_law : Nat := 236
def hk_dft (t k : Nat) : Value := defaultValue (hk_ty t k)
def hk_ev (h h' : hk_Hp) : Prop := h.1 = h'.1 ∧ ∀ a, (h.2 a).1 = (h'.2 a).1 ∧ (h.2 a).2.1 = (h'.2 a).2.1 ∧ ∀ k, k < (h.2 a).2.1 → (h.2 a).2.2 k = (h'.2 a).2.2 k
def hk_qe (Q : hk_Q) : hk_Q := fun r h => ∃ h', hk_ev h h' ∧ Q r h'
theorem hk_ev_rf (h : hk_Hp) : hk_ev h h := ⟨rfl, fun _ => ⟨rfl, rfl, fun _ _ => rfl⟩⟩
theorem hk_qe_of {Q : hk_Q} {r : Option Value} {h : hk_Hp} (q : Q r h) : hk_qe Q r h := ⟨h, hk_ev_rf h, q⟩
def hk_call : Nat → hk_C
  | 0 => fun _ _ _ _ => False
  | d + 1 => fun M as h Q => match hk_nth hk_bds M with
    | none => False
    | some (cd, rt, C, S, mx) => bif Nat.ble (hk_cs as) mx then hk_ent 0 as (fun ls => hk_wp rt C S hk_dft cd (hk_call d) (hk_qe Q) 0 ls [] h 0 0) else False
theorem hk_ent_m {K K' : hk_Ls → Prop} (h : ∀ l, K l → K' l) : ∀ (as : List Value) (i : Nat), hk_ent i as K → hk_ent i as K'
  | [], _, g => h _ g
  | v :: vs, i, g => by
    unfold hk_ent at g ⊢
    cases hb : Nat.beq v.category 2
    · rw [hb] at g; exact hk_ent_m (fun l => h _) vs _ g
    · rw [hb] at g; exact hk_ent_m (fun l => h _) vs _ g
theorem hk_ent_eq : ∀ (as : List Value) (i : Nat) (K : hk_Ls → Prop), hk_ent i as K = K (lv_args i as)
  | [], _, _ => rfl
  | v :: vs, i, K => by
    unfold hk_ent lv_args
    cases hb : Nat.beq v.category 2
    · rw [if_neg (by have := Nat.ne_of_beq_eq_false hb; exact this)]; exact hk_ent_eq vs _ _
    · rw [if_pos (Nat.eq_of_beq_eq_true hb)]; exact hk_ent_eq vs _ _
theorem hk_call_m : ∀ d, hk_cm (hk_call d)
  | 0 => fun _ _ _ _ _ _ g => g
  | d + 1 => fun M as h Q Q' hQ g => by
    unfold hk_call at g ⊢
    cases hb : hk_nth hk_bds M with
    | none => rw [hb] at g; exact g
    | some e =>
      rw [hb] at g
      exact hk_bif_m (hk_ent_m (fun l q => hk_wp_m (hk_call_m d) (fun r h ⟨h', a, b⟩ => ⟨h', a, hQ _ _ b⟩) q) _ _) g
abbrev hk_D : Type := Int64 × (Nat → Int64) × Nat × (Nat → Nat) × (Nat → Option Nat) × (Nat → Option Nat) × Nat × (Nat → Int32)

def hk_tab : List (Nat × Nat × (Nat × Nat) × List (Nat × Nat)) := [
  (7, 12, (0, 0), [(1, 39), (1, 55), (1, 71), (0, 0), (0, 0), (0, 0), (1, 87), (1, 89), (0, 0), (1, 90), (1, 91), (1, 92)]),
  (3, 7, (0, 0), [(1, 40), (1, 41), (1, 42), (1, 43), (0, 0), (0, 0), (0, 0)]),
  (10, 24, (0, 0), []),
  (10, 24, (0, 0), []),
  (13, 5, (2, 44), []),
  (14, 6, (2, 49), []),
  (2, 2, (0, 0), [(0, 0), (0, 0)]),
  (2, 2, (0, 0), [(0, 0), (0, 0)]),
  (2, 2, (0, 0), [(0, 0), (0, 0)]),
  (2, 2, (0, 0), [(0, 0), (0, 0)]),
  (2, 2, (0, 0), [(0, 0), (0, 0)]),
  (1, 5, (0, 0), [(0, 0), (0, 0), (0, 0), (0, 0), (0, 0)]),
  (1, 5, (0, 0), [(0, 0), (0, 0), (0, 0), (0, 0), (0, 0)]),
  (1, 5, (0, 0), [(0, 0), (0, 0), (0, 0), (0, 0), (0, 0)]),
  (1, 5, (0, 0), [(0, 0), (0, 0), (0, 0), (0, 0), (0, 0)]),
  (1, 5, (0, 0), [(0, 0), (0, 0), (0, 0), (0, 0), (0, 0)]),
  (1, 5, (0, 0), [(0, 0), (0, 0), (0, 0), (0, 0), (0, 0)]),
  (3, 7, (0, 0), [(1, 56), (1, 57), (1, 58), (1, 59), (0, 0), (0, 0), (0, 0)]),
  (10, 24, (0, 0), []),
  (10, 24, (0, 0), []),
  (13, 5, (2, 60), []),
  (14, 6, (2, 65), []),
  (2, 2, (0, 0), [(0, 0), (0, 0)]),
  (2, 2, (0, 0), [(0, 0), (0, 0)]),
  (2, 2, (0, 0), [(0, 0), (0, 0)]),
  (2, 2, (0, 0), [(0, 0), (0, 0)]),
  (2, 2, (0, 0), [(0, 0), (0, 0)]),
  (1, 5, (0, 0), [(0, 0), (0, 0), (0, 0), (0, 0), (0, 0)]),
  (1, 5, (0, 0), [(0, 0), (0, 0), (0, 0), (0, 0), (0, 0)]),
  (1, 5, (0, 0), [(0, 0), (0, 0), (0, 0), (0, 0), (0, 0)]),
  (1, 5, (0, 0), [(0, 0), (0, 0), (0, 0), (0, 0), (0, 0)]),
  (1, 5, (0, 0), [(0, 0), (0, 0), (0, 0), (0, 0), (0, 0)]),
  (1, 5, (0, 0), [(0, 0), (0, 0), (0, 0), (0, 0), (0, 0)]),
  (3, 7, (0, 0), [(1, 72), (1, 73), (1, 74), (1, 75), (0, 0), (0, 0), (0, 0)]),
  (10, 24, (0, 0), []),
  (10, 24, (0, 0), []),
  (13, 5, (2, 76), []),
  (14, 6, (2, 81), []),
  (2, 2, (0, 0), [(0, 0), (0, 0)]),
  (2, 2, (0, 0), [(0, 0), (0, 0)]),
  (2, 2, (0, 0), [(0, 0), (0, 0)]),
  (2, 2, (0, 0), [(0, 0), (0, 0)]),
  (2, 2, (0, 0), [(0, 0), (0, 0)]),
  (1, 5, (0, 0), [(0, 0), (0, 0), (0, 0), (0, 0), (0, 0)]),
  (1, 5, (0, 0), [(0, 0), (0, 0), (0, 0), (0, 0), (0, 0)]),
  (1, 5, (0, 0), [(0, 0), (0, 0), (0, 0), (0, 0), (0, 0)]),
  (1, 5, (0, 0), [(0, 0), (0, 0), (0, 0), (0, 0), (0, 0)]),
  (1, 5, (0, 0), [(0, 0), (0, 0), (0, 0), (0, 0), (0, 0)]),
  (1, 5, (0, 0), [(0, 0), (0, 0), (0, 0), (0, 0), (0, 0)]),
  (6, 6, (0, 0), [(1, 88), (0, 0), (0, 0), (0, 0), (0, 0), (0, 0)]),
  (12, 200, (0, 0), []),
  (10, 60, (0, 0), []),
  (15, 4, (5, 0), []),
  (16, 4, (2, 94), []),
  (0, 6, (0, 0), [(1, 93), (0, 0), (0, 0), (0, 0), (0, 0), (0, 0)]),
  (10, 30, (0, 0), []),
  (5, 2, (0, 0), [(0, 0), (6, 0)]),
  (5, 2, (0, 0), [(0, 0), (6, 1)]),
  (5, 2, (0, 0), [(0, 0), (6, 2)]),
  (5, 2, (0, 0), [(0, 0), (6, 3)]),
  (8, 51, (0, 0), [(1, 99), (1, 100), (0, 0), (1, 101), (0, 0), (1, 102), (1, 103), (1, 104), (1, 105), (0, 0), (0, 0), (1, 106), (0, 0), (0, 0), (0, 0), (0, 0), (3, 0), (0, 0), (0, 0), (0, 0), (0, 0), (0, 0), (1, 107), (1, 108), (1, 109), (1, 110), (1, 111), (1, 112), (1, 113), (1, 114), (1, 115), (1, 116), (1, 117), (0, 0), (0, 0), (1, 118), (1, 119), (1, 120), (1, 121), (1, 122), (1, 123), (0, 0), (0, 0), (0, 0), (1, 124), (0, 0), (0, 0), (0, 0), (1, 125), (0, 0), (1, 126)]),
  (10, 24, (0, 0), []),
  (10, 24, (0, 0), []),
  (10, 5, (0, 0), []),
  (10, 6, (0, 0), []),
  (10, 6, (0, 0), []),
  (10, 6, (0, 0), []),
  (10, 36, (0, 0), []),
  (10, 200, (0, 0), []),
  (10, 5, (0, 0), []),
  (10, 5, (0, 0), []),
  (10, 6, (0, 0), []),
  (10, 6, (0, 0), []),
  (10, 6, (0, 0), []),
  (10, 6, (0, 0), []),
  (10, 6, (0, 0), []),
  (10, 24, (0, 0), []),
  (10, 24, (0, 0), []),
  (10, 60, (0, 0), []),
  (10, 60, (0, 0), []),
  (10, 4, (0, 0), []),
  (10, 4, (0, 0), []),
  (11, 160, (4, 0), []),
  (10, 4, (0, 0), []),
  (10, 4, (0, 0), []),
  (10, 4, (0, 0), []),
  (10, 30, (0, 0), []),
  (10, 100, (0, 0), []),
  (10, 3, (0, 0), [])]
def hk_knd (dk : Nat × Nat) (ks : List (Nat × Nat)) (k : Nat) : Nat × Nat := match ks with
  | [] => dk
  | q :: l => match hk_nth (q :: l) k with
    | some q => q
    | none => dk
def hk_rr (o : Option Nat) : Value := match o with
  | none => .null
  | some j => .ref (127 + 2 * j)
def hk_kv (R : Nat → Nat → Int32) (X : hk_D) (a k : Nat) (q : Nat × Nat) : Value := match q with
  | (0, _) => .int (R a k)
  | (1, b) => .ref b
  | (2, b) => .ref (b + k)
  | (3, _) => .long X.1
  | (4, _) => .long (X.2.1 k)
  | (5, _) => hk_rr (X.2.2.2.2.1 k)
  | (_, b) => hk_rr (X.2.2.2.2.2.1 b)
def hk_nd (l : List Int32) (k : Nat) : Int32 := match hk_nth l k with
  | some x => x
  | none => 0
def hk_ext (X : hk_D) (a : Nat) : hk_Ce := match hk_nth [
  ((10, X.2.2.2.2.2.2.1, fun k => .int (X.2.2.2.2.2.2.2 k)) : hk_Ce),
  (10, 6, fun k => .int (hk_nd [0, 0, 0, 1, 2, 0] k)),
  (10, 24, fun k => .int (hk_nd [10, 11, 12, 13, 10, 20, 12, 13, 30, 11, 12, 31, 51, 20, 50, 13, 40, 41, 12, 31, 10, 11, 61, 60] k)),
  (99, 0, fun _ => .null),
  (9, 2, fun k => match k with | 0 => .ref 21 | _ => .int 0),
  (9, 2, fun k => match k with | 0 => .ref 22 | _ => .int 0),
  (9, 2, fun k => match k with | 0 => .ref 23 | _ => .int 0),
  (9, 2, fun k => match k with | 0 => .ref 24 | _ => .int 0),
  (9, 2, fun k => match k with | 0 => .ref 25 | _ => .int 0),
  (9, 2, fun k => match k with | 0 => .ref 26 | _ => .int 0),
  (9, 2, fun k => match k with | 0 => .ref 27 | _ => .int 0),
  (9, 2, fun k => match k with | 0 => .ref 28 | _ => .int 0),
  (9, 2, fun k => match k with | 0 => .ref 29 | _ => .int 0),
  (9, 2, fun k => match k with | 0 => .ref 30 | _ => .int 0),
  (9, 2, fun k => match k with | 0 => .ref 31 | _ => .int 0),
  (9, 2, fun k => match k with | 0 => .ref 32 | _ => .int 0),
  (9, 2, fun k => match k with | 0 => .ref 33 | _ => .int 0),
  (9, 2, fun k => match k with | 0 => .ref 34 | _ => .int 0),
  (9, 2, fun k => match k with | 0 => .ref 35 | _ => .int 0),
  (9, 2, fun k => match k with | 0 => .ref 36 | _ => .int 0),
  (9, 2, fun k => match k with | 0 => .ref 37 | _ => .int 0),
  (12, 3, fun k => .int (hk_nd [104, 97, 116] k)),
  (12, 6, fun k => .int (hk_nd [112, 105, 110, 110, 101, 100] k)),
  (12, 5, fun k => .int (hk_nd [115, 116, 114, 97, 119] k)),
  (12, 4, fun k => .int (hk_nd [116, 105, 101, 100] k)),
  (12, 9, fun k => .int (hk_nd [102, 101, 97, 116, 104, 101, 114, 101, 100] k)),
  (12, 4, fun k => .int (hk_nd [102, 101, 108, 116] k)),
  (12, 5, fun k => .int (hk_nd [119, 111, 114, 116, 104] k)),
  (12, 2, fun k => .int (hk_nd [111, 102] k)),
  (12, 2, fun k => .int (hk_nd [111, 110] k)),
  (12, 6, fun k => .int (hk_nd [112, 101, 114, 115, 111, 110] k)),
  (12, 5, fun k => .int (hk_nd [115, 112, 101, 101, 100] k)),
  (12, 4, fun k => .int (hk_nd [119, 105, 110, 100] k)),
  (12, 5, fun k => .int (hk_nd [110, 111, 114, 116, 104] k)),
  (12, 4, fun k => .int (hk_nd [101, 97, 115, 116] k)),
  (12, 5, fun k => .int (hk_nd [115, 111, 117, 116, 104] k)),
  (12, 4, fun k => .int (hk_nd [119, 101, 115, 116] k)),
  (12, 3, fun k => .int (hk_nd [110, 111, 119] k))] a with
  | some c => c
  | none => (99, 0, fun _ => .null)
def hk_fix (R : Nat → Nat → Int32) (X : hk_D) (a : Nat) : hk_Ce := match hk_nth hk_tab (a - 38) with
  | some (t, n, dk, ks) => (t, n, fun k => hk_kv R X a k (hk_knd dk ks k))
  | none => (99, 0, fun _ => .null)
def hk_row (R : Nat → Nat → Int32) (X : hk_D) (a : Nat) : hk_Ce :=
  bif Nat.ble (127 + 2 * X.2.2.1) a then (99, 0, fun _ => .null) else
  bif Nat.beq ((a - 127) % 2) 0 then (4, 2, fun k => match k with | 0 => .int (R a 0) | _ => .ref (a + 1)) else (10, X.2.2.2.1 ((a - 127) / 2), fun k => .int (R a k))
def hw (R : Nat → Nat → Int32) (X : hk_D) : hk_Hp := (127 + 2 * X.2.2.1, fun a => bif Nat.ble a 37 then hk_ext X a else bif Nat.ble a 126 then hk_fix R X a else hk_row R X a)
def up2 (R : Nat → Nat → Int32) (a k : Nat) (v : Int32) : Nat → Nat → Int32 := fun b j => if b = a ∧ j = k then v else R b j
