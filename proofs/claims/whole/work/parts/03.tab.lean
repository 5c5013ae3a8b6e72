/-! the tables of the small machine, printed by wip/whole/gentab.py out of the claim's listings -/
abbrev rBench : Nat := 0
abbrev rFace : Nat := 1
abbrev rHead : Nat := 2
abbrev rMind : Nat := 3
abbrev rRow : Nat := 4
abbrev rSaid : Nat := 5
abbrev rShow : Nat := 6
abbrev rTape : Nat := 7
abbrev rTexts : Nat := 8
abbrev rWay : Nat := 9
abbrev rWorld : Nat := 10
abbrev rX : Nat := 11
abbrev rM : Nat := 12
abbrev rBench_given : Nat := 13
abbrev rBench_weights : Nat := 14
abbrev rBench_odds : Nat := 15
abbrev rBench_composed : Nat := 16
abbrev rBench_points : Nat := 17
abbrev rBench_aparts : Nat := 18
abbrev rBench_rights : Nat := 19
abbrev rBench_wrongs : Nat := 20
abbrev rBench_nest : Nat := 21
abbrev rFace_numbers : Nat := 22
abbrev rHead_steps : Nat := 23
abbrev rHead_worths : Nat := 24
abbrev rHead_from : Nat := 25
abbrev rHead_till : Nat := 26
abbrev rHead_values : Nat := 27
abbrev rMind_memory : Nat := 28
abbrev rMind_type : Nat := 29
abbrev rRow_places : Nat := 30
abbrev rSaid_which : Nat := 31
abbrev rSaid_signs : Nat := 32
abbrev rSaid_values : Nat := 33
abbrev rTape_bytes : Nat := 34
abbrev rTape_tokens : Nat := 35
abbrev rTape_places : Nat := 36
abbrev rTape_worths : Nat := 37
abbrev rTexts_heads : Nat := 38
abbrev rTexts_ways : Nat := 39
abbrev rX_faces : Nat := 40
abbrev rX_types : Nat := 41
abbrev rX_rows : Nat := 42
abbrev rX_minds : Nat := 43
abbrev rX_showings : Nat := 44
abbrev rX_worlds : Nat := 45
abbrev rX_deeds : Nat := 46
abbrev rX_deedDays : Nat := 47
abbrev rM_number : Nat := 48
abbrev rM_kinOf : Nat := 49
abbrev rM_madeBy : Nat := 50
abbrev rM_typeOf : Nat := 51
abbrev rM_rowAt : Nat := 52
abbrev rM_rowLong : Nat := 53
abbrev rM_line : Nat := 54
abbrev rM_step : Nat := 55
abbrev rM_wordFrom : Nat := 56
abbrev rM_wordTo : Nat := 57
abbrev rM_headLong : Nat := 58
abbrev rM_fresh : Nat := 59
abbrev rM_freshFrom : Nat := 60
abbrev rM_freshTo : Nat := 61
abbrev rM_tape : Nat := 62
abbrev rM_pile : Nat := 63
abbrev rM_saidAt : Nat := 64
abbrev rM_saidHow : Nat := 65
abbrev rM_saidWhat : Nat := 66
abbrev rM_freshAt : Nat := 67
abbrev rM_freshHow : Nat := 68
abbrev rM_freshWhat : Nat := 69
abbrev rM_wayEach : Nat := 70
abbrev rM_wayPraise : Nat := 71
abbrev rM_wayLed : Nat := 72
abbrev rM_wayDrawn : Nat := 73
abbrev rM_wayLong : Nat := 74
abbrev rM_facts : Nat := 75
abbrev rM_memory : Nat := 76
abbrev rM_type : Nat := 77
abbrev rM_odds : Nat := 78
abbrev rM_weight : Nat := 79
abbrev rM_headOf : Nat := 80
abbrev rM_ownOf : Nat := 81
abbrev rM_seenOf : Nat := 82
abbrev rM_secsOf : Nat := 83
abbrev rM_lightOf : Nat := 84
abbrev rM_fearOf : Nat := 85
abbrev rM_dayOf : Nat := 86
abbrev rM_toldOf : Nat := 87
abbrev rM_kept : Nat := 88
abbrev rM_keptType : Nat := 89
abbrev rM_logKind : Nat := 90
abbrev rM_logWho : Nat := 91
abbrev rM_logWhat : Nat := 92
abbrev rM_begun : Nat := 93
abbrev rM_showWho : Nat := 94
abbrev rM_showKind : Nat := 95
abbrev rM_showDay : Nat := 96
abbrev rM_showPick : Nat := 97
abbrev rM_showLed : Nat := 98
abbrev rM_showPush : Nat := 99
abbrev rM_showOdds : Nat := 100
abbrev rM_showSure : Nat := 101
abbrev rM_showLine : Nat := 102
abbrev rM_showLong : Nat := 103
abbrev rM_made : Nat := 104
abbrev rM_worldHead : Nat := 105
abbrev rM_worldKin : Nat := 106
abbrev rM_doer : Nat := 107
abbrev rM_worldSecs : Nat := 108
abbrev rM_worldLight : Nat := 109
abbrev rM_worldFear : Nat := 110
abbrev rM_waits : Nat := 111
abbrev rM_worldLine : Nat := 112
abbrev rM_worldLong : Nat := 113
abbrev rM_suspect : Nat := 114
abbrev rTypeIn : Nat := 115
abbrev rROM : Nat := 116
abbrev rSTR : Nat := 117
abbrev rSCR : Nat := 118
abbrev kBench_init : Nat := 0
abbrev kBench_oddsAt : Nat := 1
abbrev kBench_shareOut : Nat := 2
abbrev kBench_isBettered : Nat := 3
abbrev kBench_mockOddsAmong : Nat := 4
abbrev kBench_apartOf : Nat := 5
abbrev kBench_breed : Nat := 6
abbrev kBench_bear : Nat := 7
abbrev kFace_init : Nat := 8
abbrev kFace_setFour : Nat := 9
abbrev kFace_copy : Nat := 10
abbrev kFace_differenceFrom : Nat := 11
abbrev kHead_init : Nat := 12
abbrev kHead_empty : Nat := 13
abbrev kHead_has : Nat := 14
abbrev kHead_open : Nat := 15
abbrev kHead_close : Nat := 16
abbrev kHead_add : Nat := 17
abbrev kHead_answer : Nat := 18
abbrev kHead_run : Nat := 19
abbrev kMind_init : Nat := 20
abbrev kMind_setSight : Nat := 21
abbrev kMind_copySight : Nat := 22
abbrev kMind_pullTo : Nat := 23
abbrev kRow_init : Nat := 24
abbrev kRow_has : Nat := 25
abbrev kRow_faceAt : Nat := 26
abbrev kRow_countFaces : Nat := 27
abbrev kRow_copy : Nat := 28
abbrev kSaid_init : Nat := 29
abbrev kSaid_set : Nat := 30
abbrev kSaid_countSo : Nat := 31
abbrev kSaid_isSo : Nat := 32
abbrev kShow_init : Nat := 33
abbrev kTape_init : Nat := 34
abbrev kTape_addFour : Nat := 35
abbrev kTape_forgetFault : Nat := 36
abbrev kTape_refuse : Nat := 37
abbrev kTape_step : Nat := 38
abbrev kTape_split : Nat := 39
abbrev kTape_keep : Nat := 40
abbrev kTape_readNumber : Nat := 41
abbrev kTape_readWord : Nat := 42
abbrev kTape_stands : Nat := 43
abbrev kTape_isLetter : Nat := 44
abbrev kTape_isDigit : Nat := 45
abbrev kTape_isSign : Nat := 46
abbrev kTape_spelling : Nat := 47
abbrev kTexts_init : Nat := 48
abbrev kTexts_take : Nat := 49
abbrev kTexts_keepHead : Nat := 50
abbrev kTexts_keepSaid : Nat := 51
abbrev kTexts_keepWay : Nat := 52
abbrev kTexts_readHead : Nat := 53
abbrev kTexts_readSum : Nat := 54
abbrev kTexts_readProduct : Nat := 55
abbrev kTexts_readDivisor : Nat := 56
abbrev kTexts_readUnit : Nat := 57
abbrev kTexts_readSign : Nat := 58
abbrev kTexts_readNumber : Nat := 59
abbrev kTexts_readSaid : Nat := 60
abbrev kTexts_readSaidLine : Nat := 61
abbrev kTexts_readWay : Nat := 62
abbrev kTexts_readWayLine : Nat := 63
abbrev kWay_init : Nat := 64
abbrev kWay_empty : Nat := 65
abbrev kWay_has : Nat := 66
abbrev kWay_set : Nat := 67
abbrev kWorld_init : Nat := 68
abbrev kWorld_sortOf : Nat := 69
abbrev kx_init : Nat := 70
abbrev kx_face : Nat := 71
abbrev kx_number : Nat := 72
abbrev kx_type : Nat := 73
abbrev kx_put : Nat := 74
abbrev kx_clear : Nat := 75
abbrev kx_feed : Nat := 76
abbrev kx_end : Nat := 77
abbrev kx_text : Nat := 78
abbrev kx_fault : Nat := 79
abbrev kx_days : Nat := 80
abbrev kx_witness : Nat := 81
abbrev kx_memory : Nat := 82
abbrev kx_far : Nat := 83
abbrev kx_odds : Nat := 84
abbrev kx_show : Nat := 85
abbrev kx_showing : Nat := 86
abbrev kx_praise : Nat := 87
abbrev kx_sure : Nat := 88
abbrev kx_together : Nat := 89
abbrev kx_known : Nat := 90
abbrev kx_bred : Nat := 91
abbrev kx_score : Nat := 92
abbrev kx_mock : Nat := 93
abbrev kx_fillers : Nat := 94
abbrev kx_world : Nat := 95
abbrev kx_tried : Nat := 96
abbrev kx_way : Nat := 97
abbrev kx_replayed : Nat := 98
abbrev kx_spoilt : Nat := 99
abbrev kx_both : Nat := 100
abbrev kx_look : Nat := 101
abbrev kx_isIn : Nat := 102
abbrev kx_cut : Nat := 103
abbrev kx_isFace : Nat := 104
abbrev kx_isRow : Nat := 105
abbrev kx_isMind : Nat := 106
abbrev kx_isShowing : Nat := 107
abbrev kx_isEarlier : Nat := 108
abbrev kx_canSee : Nat := 109
abbrev kx_canLead : Nat := 110
abbrev kx_canPick : Nat := 111
abbrev kx_askMind : Nat := 112
abbrev kx_askFace : Nat := 113
abbrev kx_ask : Nat := 114
abbrev kx_farOf : Nat := 115
abbrev kx_sureOf : Nat := 116
abbrev kx_gapBehind : Nat := 117
abbrev kx_typeOfSeen : Nat := 118
abbrev kx_see : Nat := 119
abbrev kx_waitDays : Nat := 120
abbrev kx_pullByShowing : Nat := 121
abbrev kx_compose : Nat := 122
abbrev kx_nearestByPart : Nat := 123
abbrev kx_blurred : Nat := 124
abbrev kx_differences : Nat := 125
abbrev kx_countNearer : Nat := 126
abbrev kx_weigh : Nat := 127
abbrev kx_oddsOfPick : Nat := 128
abbrev kx_mockOdds : Nat := 129
abbrev kx_startFillers : Nat := 130
abbrev kx_startNest : Nat := 131
abbrev kx_nearestInNest : Nat := 132
abbrev kx_tryOut : Nat := 133
abbrev kx_shareOf : Nat := 134
abbrev kx_sumUp : Nat := 135
abbrev kx_allInBin : Nat := 136
abbrev kx_shareInBin : Nat := 137
abbrev kx_allMissed : Nat := 138
abbrev kx_keepDeed : Nat := 139
abbrev kx_whoseDeed : Nat := 140
abbrev kx_replay : Nat := 141
abbrev kx_repeatDeed : Nat := 142
abbrev kx_areApart : Nat := 143
abbrev kx_hasMadeBy : Nat := 144
abbrev km_init : Nat := 145
abbrev km_isIn : Nat := 146
abbrev km_isFace : Nat := 147
abbrev km_isRow : Nat := 148
abbrev km_isKin : Nat := 149
abbrev km_isWitness : Nat := 150
abbrev km_face : Nat := 151
abbrev km_number : Nat := 152
abbrev km_type : Nat := 153
abbrev km_put : Nat := 154
abbrev km_clear : Nat := 155
abbrev km_takesRow : Nat := 156
abbrev km_isPlace : Nat := 157
abbrev km_facesInLine : Nat := 158
abbrev km_feed : Nat := 159
abbrev km_end : Nat := 160
abbrev km_see : Nat := 161
abbrev km_isLetter : Nat := 162
abbrev km_isDigit : Nat := 163
abbrev km_is : Nat := 164
abbrev km_headWord : Nat := 165
abbrev km_word : Nat := 166
abbrev km_isSign : Nat := 167
abbrev km_next0 : Nat := 168
abbrev km_bad : Nat := 169
abbrev km_need : Nat := 170
abbrev km_lay : Nat := 171
abbrev km_sumUp : Nat := 172
abbrev km_product : Nat := 173
abbrev km_unit : Nat := 174
abbrev km_headLine : Nat := 175
abbrev km_saidLine : Nat := 176
abbrev km_wayLine : Nat := 177
abbrev km_reads : Nat := 178
abbrev km_text : Nat := 179
abbrev km_keeps : Nat := 180
abbrev km_fault : Nat := 181
abbrev km_cut : Nat := 182
abbrev km_comesTo : Nat := 183
abbrev km_asks : Nat := 184
abbrev km_holdsNone : Nat := 185
abbrev km_apart : Nat := 186
abbrev km_holds : Nat := 187
abbrev km_farOf : Nat := 188
abbrev km_blurred : Nat := 189
abbrev km_pulled : Nat := 190
abbrev km_sees : Nat := 191
abbrev km_aDay : Nat := 192
abbrev km_oddsOf : Nat := 193
abbrev km_sureOf : Nat := 194
abbrev km_logs : Nat := 195
abbrev km_takes : Nat := 196
abbrev km_remembers : Nat := 197
abbrev km_isHead : Nat := 198
abbrev km_witness : Nat := 199
abbrev km_days : Nat := 200
abbrev km_memory : Nat := 201
abbrev km_far : Nat := 202
abbrev km_odds : Nat := 203
abbrev km_pulls : Nat := 204
abbrev km_show : Nat := 205
abbrev km_isShowing : Nat := 206
abbrev km_takesShown : Nat := 207
abbrev km_showing : Nat := 208
abbrev km_praise : Nat := 209
abbrev km_sure : Nat := 210
abbrev km_differs : Nat := 211
abbrev km_putTogether : Nat := 212
abbrev km_pulledToMade : Nat := 213
abbrev km_together : Nat := 214
abbrev km_between : Nat := 215
abbrev km_known : Nat := 216
abbrev km_nearest : Nat := 217
abbrev km_breeds : Nat := 218
abbrev km_bred : Nat := 219
abbrev km_scoreOf : Nat := 220
abbrev km_score : Nat := 221
abbrev km_mockOf : Nat := 222
abbrev km_mock : Nat := 223
abbrev km_bits : Nat := 224
abbrev km_fillers : Nat := 225
abbrev km_world : Nat := 226
abbrev km_leads : Nat := 227
abbrev km_comes : Nat := 228
abbrev km_isWay : Nat := 229
abbrev km_tried : Nat := 230
abbrev km_inAll : Nat := 231
abbrev km_isBettered : Nat := 232
abbrev km_worth : Nat := 233
abbrev km_kins : Nat := 234
abbrev km_way : Nat := 235
abbrev km_replays : Nat := 236
abbrev km_canReplay : Nat := 237
abbrev km_replayed : Nat := 238
abbrev km_spoilt : Nat := 239
abbrev km_wasShown : Nat := 240
abbrev km_both : Nat := 241
abbrev km_look : Nat := 242
abbrev kJ_compare : Nat := 243
abbrev kJ_bitCount : Nat := 244
abbrev kJ_floorMod : Nat := 245
abbrev kJ_abs : Nat := 246
abbrev kJ_max : Nat := 247
abbrev kJ_min : Nat := 248
abbrev kJ_fill : Nat := 249
abbrev kL_law : Nat := 250
def mcl : List vw_C := [(RX0, TX0, 12), (RX1, TX1, 3), (RX2, TX2, 7), (RX3, TX3, 11), (RX4, TX4, 2), (RX5, TX5, 4), (RX6, TX6, 9), (RX7, TX7, 13), (RX8, TX8, 7), (RX9, TX9, 5), (RX10, TX10, 4), (RX11, TX11, 17), (RX12, TX12, 94)]
def ownN : List String := [RX0, RX1, RX2, RX3, RX4, RX5, RX6, RX7, RX8, RX9, RX10, RX11, RX12, RJ6, RJ9, RJ7, RL]
def codT : List ByteArray := [
  cX0_init, cX0_oddsAt, cX0_shareOut, cX0_isBettered, cX0_mockOddsAmong, cX0_apartOf,
  cX0_breed, cX0_bear, cX1_init, cX1_setFour, cX1_copy, cX1_differenceFrom,
  cX2_init, cX2_empty, cX2_has, cX2_open, cX2_close, cX2_add,
  cX2_answer, cX2_run, cX3_init, cX3_setSight, cX3_copySight, cX3_pullTo,
  cX4_init, cX4_has, cX4_faceAt, cX4_countFaces, cX4_copy, cX5_init,
  cX5_set, cX5_countSo, cX5_isSo, cX6_init, cX7_init, cX7_addFour,
  cX7_forgetFault, cX7_refuse, cX7_step, cX7_split, cX7_keep, cX7_readNumber,
  cX7_readWord, cX7_stands, cX7_isLetter, cX7_isDigit, cX7_isSign, cX7_spelling,
  cX8_init, cX8_take, cX8_keepHead, cX8_keepSaid, cX8_keepWay, cX8_readHead,
  cX8_readSum, cX8_readProduct, cX8_readDivisor, cX8_readUnit, cX8_readSign, cX8_readNumber,
  cX8_readSaid, cX8_readSaidLine, cX8_readWay, cX8_readWayLine, cX9_init, cX9_empty,
  cX9_has, cX9_set, cX10_init, cX10_sortOf, cX11_init, cX11_face,
  cX11_number, cX11_type, cX11_put, cX11_clear, cX11_feed, cX11_end,
  cX11_text, cX11_fault, cX11_days, cX11_witness, cX11_memory, cX11_far,
  cX11_odds, cX11_show, cX11_showing, cX11_praise, cX11_sure, cX11_together,
  cX11_known, cX11_bred, cX11_score, cX11_mock, cX11_fillers, cX11_world,
  cX11_tried, cX11_way, cX11_replayed, cX11_spoilt, cX11_both, cX11_look,
  cX11_isIn, cX11_cut, cX11_isFace, cX11_isRow, cX11_isMind, cX11_isShowing,
  cX11_isEarlier, cX11_canSee, cX11_canLead, cX11_canPick, cX11_askMind, cX11_askFace,
  cX11_ask, cX11_farOf, cX11_sureOf, cX11_gapBehind, cX11_typeOfSeen, cX11_see,
  cX11_waitDays, cX11_pullByShowing, cX11_compose, cX11_nearestByPart, cX11_blurred, cX11_differences,
  cX11_countNearer, cX11_weigh, cX11_oddsOfPick, cX11_mockOdds, cX11_startFillers, cX11_startNest,
  cX11_nearestInNest, cX11_tryOut, cX11_shareOf, cX11_sumUp, cX11_allInBin, cX11_shareInBin,
  cX11_allMissed, cX11_keepDeed, cX11_whoseDeed, cX11_replay, cX11_repeatDeed, cX11_areApart,
  cX11_hasMadeBy, cX12_init, cX12_isIn, cX12_isFace, cX12_isRow, cX12_isKin,
  cX12_isWitness, cX12_face, cX12_number, cX12_type, cX12_put, cX12_clear,
  cX12_takesRow, cX12_isPlace, cX12_facesInLine, cX12_feed, cX12_end, cX12_see,
  cX12_isLetter, cX12_isDigit, cX12_is, cX12_headWord, cX12_word, cX12_isSign,
  cX12_next0, cX12_bad, cX12_need, cX12_lay, cX12_sumUp, cX12_product,
  cX12_unit, cX12_headLine, cX12_saidLine, cX12_wayLine, cX12_reads, cX12_text,
  cX12_keeps, cX12_fault, cX12_cut, cX12_comesTo, cX12_asks, cX12_holdsNone,
  cX12_apart, cX12_holds, cX12_farOf, cX12_blurred, cX12_pulled, cX12_sees,
  cX12_aDay, cX12_oddsOf, cX12_sureOf, cX12_logs, cX12_takes, cX12_remembers,
  cX12_isHead, cX12_witness, cX12_days, cX12_memory, cX12_far, cX12_odds,
  cX12_pulls, cX12_show, cX12_isShowing, cX12_takesShown, cX12_showing, cX12_praise,
  cX12_sure, cX12_differs, cX12_putTogether, cX12_pulledToMade, cX12_together, cX12_between,
  cX12_known, cX12_nearest, cX12_breeds, cX12_bred, cX12_scoreOf, cX12_score,
  cX12_mockOf, cX12_mock, cX12_bits, cX12_fillers, cX12_world, cX12_leads,
  cX12_comes, cX12_isWay, cX12_tried, cX12_inAll, cX12_isBettered, cX12_worth,
  cX12_kins, cX12_way, cX12_replays, cX12_canReplay, cX12_replayed, cX12_spoilt,
  cX12_wasShown, cX12_both, cX12_look, cJ6_compare_7cf53, cJ6_bitCount_0f7a4, cJ9_floorMod_7cf53,
  cJ9_abs_0f7a4, cJ9_max_7cf53, cJ9_min_7cf53, cJ7_fill_53178, cL_law
  ]
def ymT : List MethodName := [
  yX0_init, yX0_oddsAt, yX0_shareOut, yX0_isBettered, yX0_mockOddsAmong, yX0_apartOf,
  yX0_breed, yX0_bear, yX1_init, yX1_setFour, yX1_copy, yX1_differenceFrom,
  yX2_init, yX2_empty, yX2_has, yX2_open, yX2_close, yX2_add,
  yX2_answer, yX2_run, yX3_init, yX3_setSight, yX3_copySight, yX3_pullTo,
  yX4_init, yX4_has, yX4_faceAt, yX4_countFaces, yX4_copy, yX5_init,
  yX5_set, yX5_countSo, yX5_isSo, yX6_init, yX7_init, yX7_addFour,
  yX7_forgetFault, yX7_refuse, yX7_step, yX7_split, yX7_keep, yX7_readNumber,
  yX7_readWord, yX7_stands, yX7_isLetter, yX7_isDigit, yX7_isSign, yX7_spelling,
  yX8_init, yX8_take, yX8_keepHead, yX8_keepSaid, yX8_keepWay, yX8_readHead,
  yX8_readSum, yX8_readProduct, yX8_readDivisor, yX8_readUnit, yX8_readSign, yX8_readNumber,
  yX8_readSaid, yX8_readSaidLine, yX8_readWay, yX8_readWayLine, yX9_init, yX9_empty,
  yX9_has, yX9_set, yX10_init, yX10_sortOf, yX11_init, yX11_face,
  yX11_number, yX11_type, yX11_put, yX11_clear, yX11_feed, yX11_end,
  yX11_text, yX11_fault, yX11_days, yX11_witness, yX11_memory, yX11_far,
  yX11_odds, yX11_show, yX11_showing, yX11_praise, yX11_sure, yX11_together,
  yX11_known, yX11_bred, yX11_score, yX11_mock, yX11_fillers, yX11_world,
  yX11_tried, yX11_way, yX11_replayed, yX11_spoilt, yX11_both, yX11_look,
  yX11_isIn, yX11_cut, yX11_isFace, yX11_isRow, yX11_isMind, yX11_isShowing,
  yX11_isEarlier, yX11_canSee, yX11_canLead, yX11_canPick, yX11_askMind, yX11_askFace,
  yX11_ask, yX11_farOf, yX11_sureOf, yX11_gapBehind, yX11_typeOfSeen, yX11_see,
  yX11_waitDays, yX11_pullByShowing, yX11_compose, yX11_nearestByPart, yX11_blurred, yX11_differences,
  yX11_countNearer, yX11_weigh, yX11_oddsOfPick, yX11_mockOdds, yX11_startFillers, yX11_startNest,
  yX11_nearestInNest, yX11_tryOut, yX11_shareOf, yX11_sumUp, yX11_allInBin, yX11_shareInBin,
  yX11_allMissed, yX11_keepDeed, yX11_whoseDeed, yX11_replay, yX11_repeatDeed, yX11_areApart,
  yX11_hasMadeBy, yX12_init, yX12_isIn, yX12_isFace, yX12_isRow, yX12_isKin,
  yX12_isWitness, yX12_face, yX12_number, yX12_type, yX12_put, yX12_clear,
  yX12_takesRow, yX12_isPlace, yX12_facesInLine, yX12_feed, yX12_end, yX12_see,
  yX12_isLetter, yX12_isDigit, yX12_is, yX12_headWord, yX12_word, yX12_isSign,
  yX12_next0, yX12_bad, yX12_need, yX12_lay, yX12_sumUp, yX12_product,
  yX12_unit, yX12_headLine, yX12_saidLine, yX12_wayLine, yX12_reads, yX12_text,
  yX12_keeps, yX12_fault, yX12_cut, yX12_comesTo, yX12_asks, yX12_holdsNone,
  yX12_apart, yX12_holds, yX12_farOf, yX12_blurred, yX12_pulled, yX12_sees,
  yX12_aDay, yX12_oddsOf, yX12_sureOf, yX12_logs, yX12_takes, yX12_remembers,
  yX12_isHead, yX12_witness, yX12_days, yX12_memory, yX12_far, yX12_odds,
  yX12_pulls, yX12_show, yX12_isShowing, yX12_takesShown, yX12_showing, yX12_praise,
  yX12_sure, yX12_differs, yX12_putTogether, yX12_pulledToMade, yX12_together, yX12_between,
  yX12_known, yX12_nearest, yX12_breeds, yX12_bred, yX12_scoreOf, yX12_score,
  yX12_mockOf, yX12_mock, yX12_bits, yX12_fillers, yX12_world, yX12_leads,
  yX12_comes, yX12_isWay, yX12_tried, yX12_inAll, yX12_isBettered, yX12_worth,
  yX12_kins, yX12_way, yX12_replays, yX12_canReplay, yX12_replayed, yX12_spoilt,
  yX12_wasShown, yX12_both, yX12_look, yJ6_compare_7cf53, yJ6_bitCount_0f7a4, yJ9_floorMod_7cf53,
  yJ9_abs_0f7a4, yJ9_max_7cf53, yJ9_min_7cf53, yJ7_fill_53178, yL_law
  ]
def mxT : List Nat := [
  2, 2, 12, 4, 5, 4, 5, 6, 1, 4, 2, 2, 1, 1, 2, 2, 2, 3, 4, 8, 1, 7, 2, 4, 1, 2, 2, 3, 2, 1,
  5, 4, 4, 1, 1, 3, 1, 2, 1, 4, 4, 2, 3, 5, 1, 1, 1, 1, 2, 4, 3, 2, 3, 3, 5, 5, 1, 3, 2, 2,
  2, 5, 3, 3, 1, 1, 2, 3, 1, 3, 2, 7, 4, 3, 4, 2, 7, 2, 3, 2, 3, 8, 3, 3, 7, 8, 4, 2, 4, 5,
  6, 10, 2, 6, 12, 11, 4, 4, 3, 7, 8, 2, 3, 3, 2, 2, 2, 2, 3, 7, 3, 3, 3, 4, 3, 3, 7, 9, 2, 6,
  4, 6, 9, 13, 3, 7, 5, 11, 3, 9, 6, 5, 8, 5, 6, 3, 7, 8, 8, 2, 2, 8, 4, 5, 5, 2, 3, 2, 1, 1,
  2, 8, 3, 4, 3, 2, 3, 2, 3, 8, 2, 2, 1, 1, 4, 1, 1, 2, 2, 2, 2, 3, 2, 2, 2, 2, 2, 3, 1, 5,
  3, 2, 3, 8, 3, 1, 2, 3, 3, 2, 4, 10, 3, 11, 6, 4, 3, 3, 1, 9, 4, 3, 3, 7, 4, 9, 2, 3, 3, 2,
  4, 4, 7, 3, 4, 5, 7, 6, 6, 11, 6, 2, 6, 6, 3, 12, 12, 4, 6, 1, 4, 6, 12, 9, 6, 3, 6, 2, 3, 7,
  6, 9, 4, 2, 1, 3, 1, 2, 2, 4, 4
  ]
def rtT : List (Option FieldType) := [
  none, some .int, none, some .boolean, some .int, some .int, none, none,
  none, none, none, some .int, none, none, some .boolean, none,
  none, none, some .int, some .int, none, none, none, none,
  none, some .boolean, some .int, some .int, none, none, none, some .int,
  some .boolean, none, none, none, none, some .boolean, none, none,
  none, some .int, some .int, some .boolean, some .boolean, some .boolean, some .boolean, some (.object "java/lang/String"),
  none, some .int, some .int, some .int, some .int, some .boolean, some .boolean, some .boolean,
  some .boolean, some .boolean, some .boolean, some .boolean, some .boolean, some .boolean, some .boolean, some .boolean,
  none, none, some .boolean, none, none, some .int, none, some .int,
  some .int, some .boolean, some .int, some .boolean, some .int, some .boolean, some .int, some .int,
  some .int, some .int, some .int, some .int, some .int, some .int, some .int, some .int,
  some .int, some .int, some .int, some .int, some .int, some .int, some .int, some .int,
  some .int, some .long, some .int, some .int, some .int, some .int, some .boolean, some .int,
  some .boolean, some .boolean, some .boolean, some .boolean, some .boolean, some .boolean, some .boolean, some .boolean,
  none, none, some .int, some .int, some .int, some .int, some (.array .int), none,
  none, none, none, some .int, some .int, some .int, some .int, none,
  some .int, some .int, some .int, some .int, some .int, none, some .int, none,
  some .long, some .int, some .long, none, some .int, some .int, none, some .boolean,
  some .boolean, none, some .boolean, some .boolean, some .boolean, some .boolean, some .boolean, some .int,
  some .int, some .boolean, some .int, some .boolean, none, some .boolean, some .int, some .int,
  some .boolean, some .int, some .boolean, some .boolean, some .boolean, some .int, some .int, some .boolean,
  none, some .boolean, some .boolean, none, some .boolean, some .boolean, some .boolean, some .boolean,
  some .boolean, some .boolean, some .boolean, some .int, none, some .int, some .int, some .int,
  some .int, none, some .int, none, some .int, some .int, none, none,
  none, none, some .int, none, none, none, some .boolean, some .int,
  some .int, some .int, some .int, some .int, none, some .int, some .boolean, none,
  some .int, some .int, some .int, some .int, none, none, some .int, some .int,
  some .int, some .int, none, some .int, some .int, some .int, some .int, some .int,
  some .int, some .int, some .int, none, some .int, some .boolean, some .int, some .long,
  some .boolean, some .long, some .long, some .long, some .int, some .boolean, some .int, some .int,
  some .boolean, some .int, some .int, some .int, some .int, some .int, some .int, some .int,
  some .int, none, some .boolean
  ]
def owT : List Nat := [
  0, 0, 0, 0, 0, 0, 0, 0, 1, 1, 1, 1, 2, 2, 2, 2, 2, 2, 2, 2, 3, 3, 3, 3, 4, 4, 4, 4, 4, 5,
  5, 5, 5, 6, 7, 7, 7, 7, 7, 7, 7, 7, 7, 7, 7, 7, 7, 7, 8, 8, 8, 8, 8, 8, 8, 8, 8, 8, 8, 8,
  8, 8, 8, 8, 9, 9, 9, 9, 10, 10, 11, 11, 11, 11, 11, 11, 11, 11, 11, 11, 11, 11, 11, 11, 11, 11, 11, 11, 11, 11,
  11, 11, 11, 11, 11, 11, 11, 11, 11, 11, 11, 11, 11, 11, 11, 11, 11, 11, 11, 11, 11, 11, 11, 11, 11, 11, 11, 11, 11, 11,
  11, 11, 11, 11, 11, 11, 11, 11, 11, 11, 11, 11, 11, 11, 11, 11, 11, 11, 11, 11, 11, 11, 11, 11, 11, 12, 12, 12, 12, 12,
  12, 12, 12, 12, 12, 12, 12, 12, 12, 12, 12, 12, 12, 12, 12, 12, 12, 12, 12, 12, 12, 12, 12, 12, 12, 12, 12, 12, 12, 12,
  12, 12, 12, 12, 12, 12, 12, 12, 12, 12, 12, 12, 12, 12, 12, 12, 12, 12, 12, 12, 12, 12, 12, 12, 12, 12, 12, 12, 12, 12,
  12, 12, 12, 12, 12, 12, 12, 12, 12, 12, 12, 12, 12, 12, 12, 12, 12, 12, 12, 12, 12, 12, 12, 12, 12, 12, 12, 12, 12, 12,
  12, 12, 12, 13, 13, 14, 14, 14, 14, 15, 16
  ]
def knT : List Nat := [
  2, 1, 1, 1, 1, 1, 1, 1, 2, 1, 1, 1, 2, 1, 1, 1, 1, 1, 1, 1, 2, 1, 1, 1, 2, 1, 1, 1, 1, 2, 1, 1, 1, 2, 2, 1, 1, 1, 1, 1,
  1, 1, 1, 1, 0, 0, 0, 0, 2, 1, 1, 1, 1, 1, 1, 1, 1, 1, 1, 1, 1, 1, 1, 1, 2, 1, 1, 1, 2, 1, 2, 1, 1, 1, 1, 1, 1, 1, 1, 1,
  1, 1, 1, 1, 1, 1, 1, 1, 1, 1, 1, 1, 1, 1, 1, 1, 1, 1, 1, 1, 1, 1, 0, 0, 1, 1, 1, 1, 1, 1, 0, 0, 1, 1, 1, 1, 1, 1, 1, 1,
  1, 1, 1, 1, 0, 0, 1, 1, 1, 1, 1, 1, 1, 1, 1, 1, 1, 1, 1, 1, 1, 1, 1, 1, 1, 2, 0, 1, 0, 0, 1, 1, 1, 1, 1, 1, 1, 1, 1, 1,
  1, 1, 0, 0, 1, 1, 1, 1, 1, 1, 1, 1, 1, 1, 1, 1, 1, 1, 1, 1, 1, 1, 0, 1, 1, 1, 0, 1, 1, 0, 1, 1, 1, 1, 1, 1, 1, 1, 0, 1,
  1, 1, 1, 1, 1, 1, 1, 1, 1, 1, 1, 1, 1, 1, 1, 1, 1, 1, 1, 1, 1, 1, 1, 1, 0, 1, 1, 1, 1, 0, 1, 1, 1, 1, 1, 1, 1, 1, 1, 1,
  1, 1, 1, 0, 0, 0, 0, 0, 0, 0, 0
  ]
def naT : List Nat := [
  0, 1, 2, 1, 2, 1, 3, 3, 0, 2, 1, 1, 0, 0, 1, 1, 1, 2, 2, 2, 0, 6, 1, 2, 0, 1, 1, 0, 1, 0, 4, 1, 2, 0, 0, 1, 0, 1, 0, 0,
  3, 1, 1, 3, 1, 1, 1, 1, 0, 2, 1, 0, 1, 0, 1, 1, 0, 1, 1, 1, 0, 1, 0, 1, 0, 0, 1, 2, 0, 2, 0, 5, 2, 2, 2, 1, 5, 1, 2, 1,
  1, 6, 2, 2, 6, 6, 2, 1, 3, 2, 3, 3, 1, 3, 3, 9, 3, 2, 2, 1, 5, 1, 3, 3, 1, 1, 1, 1, 2, 6, 3, 3, 1, 2, 2, 2, 3, 4, 1, 2,
  2, 2, 2, 4, 2, 4, 2, 5, 2, 2, 2, 1, 3, 2, 2, 1, 3, 3, 2, 1, 1, 2, 3, 2, 2, 0, 3, 1, 1, 1, 1, 5, 2, 2, 2, 1, 1, 1, 0, 5,
  1, 1, 1, 1, 1, 0, 0, 1, 0, 1, 1, 2, 0, 0, 0, 0, 0, 0, 0, 2, 1, 1, 3, 1, 1, 0, 2, 1, 1, 2, 2, 7, 0, 3, 1, 3, 1, 1, 1, 6,
  1, 2, 2, 6, 1, 6, 1, 1, 2, 1, 3, 3, 0, 0, 2, 2, 3, 1, 2, 3, 1, 1, 1, 3, 1, 3, 9, 2, 2, 1, 3, 2, 1, 3, 2, 2, 2, 1, 2, 1,
  2, 5, 1, 2, 1, 2, 1, 2, 2, 2, 1
  ]
def mwT : List (Nat × Nat × Nat × Nat) := [
  (210, 209, 7, 0), (853, 852, 7, 10053), (847, 846, 7, 10052), (1050, 1049, 7, 10082), (1008, 1007, 7, 10075), (1012, 1011, 7, 10076), (955, 954, 7, 10069), (960, 959, 7, 10070), (266, 265, 9, 0), (470, 469, 9, 10000),
  (946, 945, 9, 10067), (929, 928, 9, 10064), (123, 122, 5, 0), (639, 638, 5, 10013), (648, 647, 5, 10015), (652, 651, 5, 10016), (681, 680, 5, 10023), (673, 672, 5, 10021), (755, 754, 5, 10039), (762, 761, 5, 10040),
  (216, 215, 8, 0), (788, 787, 8, 10043), (1028, 1027, 8, 10078), (776, 775, 8, 10041), (335, 334, 11, 0), (834, 833, 11, 10049), (842, 841, 11, 10051), (910, 909, 11, 10061), (865, 864, 11, 10054), (103, 102, 4, 0),
  (701, 700, 4, 10028), (974, 973, 4, 10071), (978, 977, 4, 10072), (350, 349, 12, 0), (46, 45, 3, 0), (505, 504, 3, 10003), (521, 520, 3, 10005), (644, 643, 3, 10014), (630, 629, 3, 10011), (525, 524, 3, 10006),
  (616, 615, 3, 10009), (623, 622, 3, 10010), (533, 532, 3, 10007), (564, 563, 3, 10008), (528, 527, 3, 0), (619, 618, 3, 0), (626, 625, 3, 0), (536, 535, 3, 0), (40, 39, 2, 0), (517, 516, 2, 10004),
  (685, 684, 2, 10024), (706, 705, 2, 10029), (730, 729, 2, 10035), (635, 634, 2, 10012), (657, 656, 2, 10017), (661, 660, 2, 10018), (677, 676, 2, 10022), (665, 664, 2, 10019), (669, 668, 2, 10020), (697, 696, 2, 10027),
  (689, 688, 2, 10025), (693, 692, 2, 10026), (710, 709, 2, 10030), (722, 721, 2, 10033), (151, 150, 6, 0), (714, 713, 6, 10031), (718, 717, 6, 10032), (726, 725, 6, 10034), (386, 385, 13, 0), (1037, 1036, 13, 10080),
  (26, 25, 1, 0), (463, 461, 1, 462), (474, 472, 1, 473), (482, 480, 1, 481), (489, 487, 1, 488), (497, 495, 1, 496), (501, 499, 1, 500), (509, 507, 1, 508), (513, 511, 1, 512), (735, 733, 1, 734),
  (739, 737, 1, 738), (780, 778, 1, 779), (804, 802, 1, 803), (812, 810, 1, 811), (827, 825, 1, 826), (858, 856, 1, 857), (890, 888, 1, 889), (898, 896, 1, 897), (902, 900, 1, 901), (906, 904, 1, 905),
  (925, 923, 1, 924), (938, 936, 1, 937), (970, 968, 1, 969), (985, 983, 1, 984), (994, 992, 1, 993), (1016, 1014, 1, 1015), (1020, 1018, 1, 1019), (1041, 1039, 1, 1040), (1066, 1064, 1, 1065), (1086, 1084, 1, 1085),
  (1090, 1088, 1, 1089), (1103, 1101, 1, 1102), (466, 465, 1, 0), (966, 965, 1, 0), (478, 477, 1, 10001), (493, 492, 1, 10002), (808, 807, 1, 10046), (894, 893, 1, 10060), (1070, 1069, 1, 10086), (784, 783, 1, 10042),
  (830, 829, 1, 0), (861, 860, 1, 0), (751, 750, 1, 10038), (820, 819, 1, 10048), (747, 746, 1, 10037), (816, 815, 1, 10047), (874, 873, 1, 10056), (878, 877, 1, 10057), (792, 791, 1, 10044), (796, 795, 1, 10045),
  (743, 742, 1, 10036), (882, 881, 1, 10058), (914, 913, 1, 10062), (918, 917, 1, 10063), (799, 798, 1, 0), (823, 822, 1, 0), (934, 933, 1, 10065), (838, 837, 1, 10050), (870, 869, 1, 10055), (989, 988, 1, 10073),
  (998, 997, 1, 10074), (942, 941, 1, 10066), (951, 950, 1, 10068), (1024, 1023, 1, 10077), (1033, 1032, 1, 10079), (1046, 1045, 1, 10081), (1054, 1053, 1, 10083), (1058, 1057, 1, 10084), (1062, 1061, 1, 10085), (886, 885, 1, 10059),
  (1078, 1077, 1, 10088), (1074, 1073, 1, 10087), (1082, 1081, 1, 10089), (1094, 1093, 1, 10090), (1098, 1097, 1, 10091), (1108, 1107, 14, 0), (1403, 1402, 14, 0), (1411, 1410, 14, 10092), (1422, 1421, 14, 0), (1400, 1399, 14, 0),
  (1598, 1597, 14, 10118), (1397, 1395, 14, 1396), (1407, 1405, 14, 1406), (1415, 1413, 14, 1414), (1419, 1417, 14, 1418), (1426, 1424, 14, 1425), (1621, 1620, 14, 10121), (1625, 1624, 14, 10122), (1670, 1669, 14, 10128), (1430, 1428, 14, 1429),
  (1434, 1432, 14, 1433), (1446, 1445, 14, 10094), (1449, 1448, 14, 0), (1489, 1488, 14, 0), (1462, 1461, 14, 10097), (1457, 1456, 14, 10096), (1453, 1452, 14, 10095), (1493, 1492, 14, 10098), (1442, 1441, 14, 10093), (1505, 1504, 14, 10101),
  (1521, 1520, 14, 10105), (1525, 1524, 14, 10106), (1509, 1508, 14, 10102), (1513, 1512, 14, 10103), (1517, 1516, 14, 10104), (1501, 1500, 14, 10100), (1529, 1528, 14, 10107), (1533, 1532, 14, 10108), (1497, 1496, 14, 10099), (1438, 1436, 14, 1437),
  (1537, 1536, 14, 10109), (1541, 1539, 14, 1540), (1567, 1566, 14, 0), (1564, 1563, 14, 10113), (1560, 1559, 14, 10112), (1556, 1555, 14, 10111), (1613, 1612, 14, 0), (1610, 1609, 14, 10120), (1606, 1605, 14, 10119), (1570, 1569, 14, 0),
  (1646, 1645, 14, 10126), (1552, 1551, 14, 10110), (1586, 1585, 14, 10116), (1629, 1628, 14, 10123), (1638, 1637, 14, 10124), (1590, 1589, 14, 10117), (1582, 1581, 14, 10115), (1574, 1573, 14, 10114), (1548, 1547, 14, 0), (1545, 1543, 14, 1544),
  (1578, 1576, 14, 1577), (1594, 1592, 14, 1593), (1602, 1600, 14, 1601), (1617, 1615, 14, 1616), (1642, 1641, 14, 10125), (1634, 1632, 14, 1633), (1654, 1653, 14, 10127), (1782, 1781, 14, 10145), (1650, 1648, 14, 1649), (1658, 1656, 14, 1657),
  (1662, 1660, 14, 1661), (1678, 1677, 14, 10130), (1674, 1673, 14, 10129), (1682, 1681, 14, 10131), (1666, 1664, 14, 1665), (1690, 1689, 14, 10132), (1686, 1684, 14, 1685), (1698, 1697, 14, 10133), (1702, 1701, 14, 10134), (1694, 1692, 14, 1693),
  (1710, 1709, 14, 10135), (1706, 1704, 14, 1705), (1718, 1717, 14, 10136), (1714, 1712, 14, 1713), (1726, 1725, 14, 0), (1723, 1721, 14, 1722), (1730, 1728, 14, 1729), (1741, 1740, 14, 10137), (1745, 1744, 14, 10138), (1737, 1736, 14, 0),
  (1734, 1732, 14, 1733), (1754, 1753, 14, 10139), (1758, 1757, 14, 10140), (1762, 1761, 14, 10141), (1766, 1765, 14, 10142), (1749, 1747, 14, 1748), (1778, 1777, 14, 10144), (1774, 1773, 14, 10143), (1770, 1768, 14, 1769), (1786, 1784, 14, 1785),
  (1794, 1793, 14, 10146), (1790, 1788, 14, 1789), (1798, 1796, 14, 1797), (981, 980, 21, 0), (1001, 1000, 21, 0), (963, 962, 20, 0), (921, 920, 20, 0), (772, 771, 20, 0), (769, 768, 20, 0), (331, 330, 10, 0),
  (0, 0, 0, 0)
  ]
def fldT : List (List (Nat × (Nat × Nat × Nat × Nat))) := [
  [(9, (0, 0, 0, 282)), (15, (0, 1, 0, 284)), (18, (0, 2, 0, 286)), (21, (0, 3, 0, 287)), (24, (0, 4, 0, 289)), (27, (0, 5, 0, 291)), (30, (0, 6, 0, 293)), (34, (0, 7, 0, 295)), (40, (0, 8, 0, 297)), (46, (0, 9, 0, 299)), (51, (0, 10, 0, 301)), (55, (0, 11, 0, 302)), (73, (1, 0, 1, 270))],
  [(9, (1, 0, 0, 268)), (15, (1, 2, 0, 273)), (19, (1, 1, 0, 272))],
  [(9, (2, 0, 0, 125)), (15, (2, 1, 0, 126)), (18, (2, 2, 0, 127)), (21, (2, 3, 0, 128)), (24, (2, 4, 0, 129)), (27, (2, 5, 0, 130)), (31, (2, 6, 0, 131))],
  [(9, (3, 0, 0, 218)), (15, (3, 1, 0, 220)), (18, (3, 2, 0, 222)), (22, (3, 3, 0, 224)), (25, (3, 4, 0, 227)), (28, (3, 5, 0, 229)), (31, (3, 6, 0, 231)), (34, (3, 7, 0, 233))],
  [(9, (4, 0, 0, 337)), (15, (4, 1, 0, 339))],
  [(11, (5, 0, 0, 105)), (15, (5, 1, 0, 106)), (18, (5, 2, 0, 107)), (25, (5, 3, 0, 108))],
  [(10, (6, 0, 0, 354))],
  [(9, (7, 0, 0, 48)), (15, (7, 1, 0, 49)), (18, (7, 2, 0, 50)), (21, (7, 3, 0, 51)), (24, (7, 12, 0, 65)), (28, (7, 4, 0, 52)), (31, (7, 11, 0, 63)), (34, (7, 9, 0, 60)), (37, (7, 7, 0, 57)), (40, (7, 6, 0, 56)), (43, (7, 8, 0, 58)), (46, (7, 10, 0, 61)), (49, (7, 5, 0, 55))],
  [(12, (8, 0, 0, 174)), (20, (8, 1, 0, 176)), (26, (8, 2, 0, 178)), (33, (8, 3, 0, 180)), (38, (8, 4, 0, 182)), (43, (8, 5, 0, 183)), (47, (8, 6, 0, 184)), (81, (7, 4, 1, 53)), (85, (2, 6, 1, 132)), (88, (5, 3, 1, 109)), (89, (9, 4, 1, 162)), (93, (7, 8, 1, 59)), (132, (7, 10, 1, 62))],
  [(9, (9, 2, 0, 157)), (15, (9, 3, 0, 159)), (18, (9, 0, 0, 153)), (22, (9, 1, 0, 155)), (25, (9, 4, 0, 161))],
  [(12, (10, 0, 0, 392)), (21, (10, 1, 0, 394)), (25, (3, 4, 1, 226)), (29, (10, 3, 0, 397))],
  [(11, (11, 0, 0, 408)), (17, (11, 1, 0, 409)), (22, (11, 2, 0, 410)), (29, (11, 3, 0, 411)), (35, (11, 4, 0, 412)), (41, (11, 5, 0, 413)), (47, (11, 6, 0, 414)), (51, (11, 7, 0, 415)), (55, (11, 8, 0, 416)), (61, (11, 9, 0, 417)), (80, (11, 10, 0, 418)), (84, (1, 1, 1, 271)), (87, (1, 2, 1, 274)), (98, (1, 0, 1, 269)), (110, (4, 1, 1, 340)), (113, (4, 0, 1, 338)), (116, (8, 0, 1, 175)), (120, (7, 4, 1, 54)), (131, (7, 11, 1, 64)), (134, (7, 12, 1, 66)), (137, (11, 16, 0, 424)), (140, (11, 12, 0, 420)), (155, (3, 9, 1, 236)), (169, (3, 0, 1, 219)), (191, (11, 13, 0, 421)), (197, (6, 1, 1, 356)), (200, (6, 2, 1, 357)), (203, (6, 3, 1, 358)), (206, (6, 0, 1, 355)), (214, (6, 4, 1, 359)), (217, (6, 5, 1, 360)), (220, (6, 6, 1, 361)), (227, (6, 7, 1, 362)), (234, (6, 8, 1, 363)), (250, (3, 8, 1, 235)), (266, (3, 4, 1, 228)), (269, (0, 3, 1, 288)), (279, (11, 11, 0, 419)), (297, (0, 9, 1, 300)), (304, (8, 3, 1, 181)), (335, (11, 14, 0, 422)), (338, (10, 0, 1, 393)), (342, (10, 2, 1, 396)), (345, (10, 1, 1, 395)), (346, (10, 3, 1, 398)), (349, (8, 2, 1, 179)), (366, (0, 6, 1, 294)), (370, (0, 7, 1, 296)), (399, (5, 3, 1, 110)), (402, (0, 0, 1, 283)), (405, (3, 5, 1, 230)), (408, (3, 6, 1, 232)), (411, (3, 7, 1, 234)), (414, (3, 10, 1, 237)), (421, (3, 3, 1, 225)), (426, (8, 1, 1, 177)), (430, (3, 2, 1, 223)), (447, (3, 1, 1, 221)), (456, (0, 1, 1, 285)), (463, (0, 4, 1, 290)), (466, (0, 5, 1, 292)), (472, (0, 8, 1, 298)), (476, (9, 3, 1, 160)), (481, (9, 2, 1, 158)), (482, (9, 0, 1, 154)), (489, (9, 1, 1, 156)), (496, (11, 15, 0, 423))],
  [(7, (12, 5, 0, 1115)), (13, (12, 6, 0, 1116)), (16, (12, 7, 0, 1117)), (19, (12, 8, 0, 1118)), (22, (12, 9, 0, 1119)), (25, (12, 10, 0, 1120)), (28, (12, 11, 0, 1121)), (31, (12, 13, 0, 1123)), (34, (12, 14, 0, 1124)), (37, (12, 15, 0, 1125)), (40, (12, 16, 0, 1126)), (43, (12, 17, 0, 1127)), (46, (12, 18, 0, 1128)), (49, (12, 19, 0, 1129)), (52, (12, 20, 0, 1130)), (55, (12, 21, 0, 1131)), (58, (12, 22, 0, 1132)), (61, (12, 23, 0, 1133)), (64, (12, 24, 0, 1134)), (67, (12, 25, 0, 1135)), (70, (12, 26, 0, 1136)), (73, (12, 27, 0, 1137)), (76, (12, 28, 0, 1138)), (80, (12, 29, 0, 1139)), (83, (12, 30, 0, 1140)), (86, (12, 31, 0, 1141)), (89, (12, 32, 0, 1142)), (92, (12, 50, 0, 1160)), (96, (12, 51, 0, 1161)), (99, (12, 52, 0, 1162)), (102, (12, 53, 0, 1163)), (105, (12, 56, 0, 1166)), (108, (12, 57, 0, 1167)), (111, (12, 58, 0, 1168)), (114, (12, 59, 0, 1169)), (117, (12, 60, 0, 1170)), (120, (12, 61, 0, 1171)), (123, (12, 62, 0, 1172)), (126, (12, 63, 0, 1173)), (129, (12, 64, 0, 1174)), (132, (12, 65, 0, 1175)), (135, (12, 66, 0, 1176)), (138, (12, 67, 0, 1177)), (141, (12, 68, 0, 1178)), (144, (12, 69, 0, 1179)), (147, (12, 70, 0, 1180)), (150, (12, 71, 0, 1181)), (153, (12, 73, 0, 1183)), (156, (12, 74, 0, 1184)), (159, (12, 75, 0, 1185)), (162, (12, 76, 0, 1186)), (165, (12, 77, 0, 1187)), (168, (12, 78, 0, 1188)), (171, (12, 79, 0, 1189)), (174, (12, 80, 0, 1190)), (177, (12, 81, 0, 1191)), (180, (12, 82, 0, 1192)), (183, (12, 83, 0, 1193)), (186, (12, 84, 0, 1194)), (189, (12, 85, 0, 1195)), (192, (12, 86, 0, 1196)), (195, (12, 87, 0, 1197)), (198, (12, 88, 0, 1198)), (201, (12, 89, 0, 1199)), (204, (12, 90, 0, 1200)), (207, (12, 91, 0, 1201)), (210, (12, 92, 0, 1202)), (213, (12, 93, 0, 1203)), (216, (12, 1, 0, 1111)), (223, (12, 2, 0, 1112)), (236, (12, 12, 0, 1122)), (239, (12, 36, 0, 1146)), (242, (12, 37, 0, 1147)), (245, (12, 39, 0, 1149)), (298, (12, 45, 0, 1155)), (318, (12, 38, 0, 1148)), (330, (12, 40, 0, 1150)), (336, (12, 41, 0, 1151)), (339, (12, 42, 0, 1152)), (348, (12, 35, 0, 1145)), (362, (12, 44, 0, 1154)), (371, (12, 34, 0, 1144)), (374, (12, 48, 0, 1158)), (378, (12, 49, 0, 1159)), (381, (12, 46, 0, 1156)), (384, (12, 47, 0, 1157)), (396, (12, 43, 0, 1153)), (406, (12, 33, 0, 1143)), (409, (12, 54, 0, 1164)), (426, (12, 55, 0, 1165)), (443, (12, 72, 0, 1182)), (446, (12, 0, 0, 1110)), (484, (12, 3, 0, 1113)), (527, (12, 4, 0, 1114))],
  [],
  [],
  [],
  []
  ]
def mthT : List (List (Nat × (Nat × Nat × Nat))) := [
  [(3, (900, 0, 211)), (39, (20, 1, 214)), (50, (8, 1, 264)), (58, (102, 1, 854)), (65, (10, 1, 956)), (69, (7, 0, 957)), (76, (245, 0, 961)), (82, (103, 1, 964))],
  [(3, (900, 0, 267)), (22, (901, 0, 947)), (28, (125, 1, 930))],
  [(3, (900, 0, 124)), (34, (249, 0, 640)), (43, (14, 0, 758)), (47, (19, 0, 759)), (57, (905, 0, 767)), (63, (904, 0, 770))],
  [(3, (900, 0, 217)), (37, (21, 0, 1029))],
  [(3, (900, 0, 336)), (19, (901, 0, 866))],
  [(3, (900, 0, 104)), (21, (102, 1, 702)), (29, (32, 0, 975)), (33, (243, 0, 979))],
  [(1, (900, 0, 351)), (9, (24, 1, 353))],
  [(3, (900, 0, 47)), (52, (44, 0, 526)), (56, (42, 0, 530)), (60, (40, 0, 613)), (64, (45, 0, 617)), (67, (41, 0, 620)), (70, (46, 0, 624)), (73, (38, 0, 627)), (76, (47, 0, 534)), (80, (43, 0, 561)), (84, (902, 0, 565)), (90, (903, 0, 575)), (94, (102, 1, 529))],
  [(3, (900, 0, 41)), (11, (34, 1, 44)), (32, (29, 1, 101)), (37, (12, 1, 121)), (42, (64, 1, 149)), (50, (36, 1, 518)), (53, (39, 1, 522)), (56, (102, 1, 631)), (60, (53, 0, 632)), (64, (50, 0, 682)), (68, (60, 0, 686)), (71, (51, 0, 703)), (75, (62, 0, 707)), (78, (52, 0, 727)), (90, (13, 1, 636)), (96, (37, 1, 641)), (100, (14, 1, 645)), (103, (15, 1, 649)), (107, (38, 1, 653)), (110, (54, 0, 654)), (113, (58, 0, 666)), (116, (16, 1, 678)), (119, (55, 0, 658)), (122, (17, 1, 670)), (126, (57, 0, 662)), (129, (56, 0, 674)), (135, (61, 0, 690)), (138, (59, 0, 694)), (141, (30, 1, 698)), (145, (65, 1, 711)), (146, (66, 1, 715)), (147, (63, 0, 719)), (150, (67, 1, 723))],
  [(3, (900, 0, 152))],
  [(3, (900, 0, 387)), (11, (20, 1, 389)), (20, (24, 1, 391))],
  [(1, (900, 0, 27)), (28, (48, 1, 38)), (60, (0, 1, 208)), (65, (8, 1, 328)), (66, (249, 0, 329)), (72, (24, 1, 333)), (73, (20, 1, 346)), (74, (33, 1, 348)), (75, (68, 1, 384)), (76, (102, 0, 464)), (90, (9, 1, 467)), (94, (104, 0, 475)), (101, (901, 0, 483)), (107, (105, 0, 490)), (123, (35, 1, 502)), (127, (49, 1, 514)), (143, (120, 0, 740)), (147, (109, 0, 781)), (151, (21, 1, 785)), (158, (118, 0, 789)), (162, (119, 0, 793)), (166, (106, 0, 805)), (172, (115, 0, 813)), (176, (110, 0, 828)), (180, (25, 1, 831)), (183, (127, 0, 835)), (187, (1, 1, 850)), (194, (111, 0, 859)), (210, (28, 1, 862)), (223, (128, 0, 867)), (230, (116, 0, 871)), (237, (121, 0, 879)), (241, (139, 0, 883)), (244, (107, 0, 891)), (247, (26, 1, 839)), (253, (905, 0, 800)), (258, (27, 1, 907)), (262, (122, 0, 911)), (272, (114, 0, 744)), (276, (23, 1, 773)), (282, (11, 1, 926)), (286, (126, 0, 931)), (289, (131, 0, 939)), (293, (132, 0, 948)), (300, (6, 1, 952)), (308, (31, 1, 971)), (313, (129, 0, 986)), (318, (904, 0, 843)), (321, (130, 0, 995)), (324, (244, 0, 999)), (329, (4, 1, 1005)), (332, (5, 1, 1009)), (353, (133, 0, 1021)), (357, (134, 0, 1030)), (363, (135, 0, 1043)), (373, (3, 1, 1047)), (376, (136, 0, 1051)), (380, (138, 0, 1059)), (384, (108, 0, 1067)), (388, (141, 0, 1071)), (391, (906, 0, 919)), (394, (143, 0, 1091)), (417, (125, 0, 821)), (422, (112, 0, 748)), (433, (18, 1, 752)), (439, (113, 0, 817)), (443, (117, 0, 875)), (450, (124, 0, 797)), (453, (123, 0, 915)), (459, (2, 1, 844)), (469, (10, 1, 943)), (473, (22, 1, 1025)), (486, (69, 1, 1034)), (492, (137, 0, 1055)), (499, (140, 0, 1075)), (502, (142, 0, 1079)), (506, (144, 0, 1095))],
  [(1, (900, 0, 1109)), (219, (146, 0, 1401)), (226, (149, 0, 1398)), (230, (147, 0, 1408)), (233, (148, 0, 1420)), (248, (902, 0, 1463)), (254, (903, 0, 1464)), (260, (164, 0, 1459)), (301, (165, 0, 1454)), (314, (161, 0, 1443)), (321, (162, 0, 1447)), (324, (166, 0, 1450)), (327, (163, 0, 1487)), (333, (167, 0, 1490)), (342, (169, 0, 1502)), (345, (168, 0, 1439)), (351, (173, 0, 1510)), (355, (171, 0, 1522)), (359, (174, 0, 1514)), (365, (172, 0, 1506)), (368, (170, 0, 1518)), (387, (175, 0, 1498)), (390, (176, 0, 1526)), (393, (177, 0, 1530)), (399, (178, 0, 1494)), (402, (180, 0, 1534)), (412, (183, 0, 1561)), (415, (182, 0, 1565)), (419, (185, 0, 1553)), (422, (186, 0, 1611)), (429, (187, 0, 1607)), (432, (184, 0, 1557)), (435, (189, 0, 1568)), (438, (188, 0, 1603)), (449, (198, 0, 1546)), (452, (191, 0, 1549)), (456, (197, 0, 1571)), (459, (196, 0, 1579)), (462, (192, 0, 1583)), (465, (195, 0, 1587)), (469, (150, 0, 1595)), (472, (156, 0, 1618)), (475, (157, 0, 1622)), (478, (193, 0, 1626)), (481, (190, 0, 1643)), (487, (194, 0, 1635)), (490, (204, 0, 1639)), (493, (206, 0, 1651)), (496, (211, 0, 1675)), (499, (158, 0, 1667)), (502, (212, 0, 1671)), (505, (213, 0, 1679)), (508, (215, 0, 1687)), (511, (217, 0, 1695)), (514, (218, 0, 1699)), (517, (220, 0, 1707)), (521, (222, 0, 1715)), (524, (224, 0, 1724)), (530, (229, 0, 1735)), (533, (227, 0, 1738)), (536, (228, 0, 1742)), (539, (231, 0, 1751)), (545, (232, 0, 1755)), (548, (233, 0, 1759)), (552, (234, 0, 1763)), (556, (207, 0, 1779)), (559, (237, 0, 1771)), (562, (236, 0, 1775)), (565, (240, 0, 1791))],
  [],
  [],
  [],
  [(9, (70, 0, 24)), (12, (145, 0, 1106)), (13, (71, 0, 460)), (17, (151, 0, 1394)), (18, (72, 0, 471)), (22, (152, 0, 1404)), (23, (73, 0, 479)), (27, (153, 0, 1412)), (28, (74, 0, 486)), (31, (154, 0, 1416)), (32, (75, 0, 494)), (36, (155, 0, 1423)), (37, (76, 0, 498)), (40, (159, 0, 1427)), (41, (77, 0, 506)), (44, (160, 0, 1431)), (45, (78, 0, 510)), (48, (179, 0, 1435)), (49, (79, 0, 732)), (53, (181, 0, 1538)), (54, (80, 0, 736)), (57, (200, 0, 1575)), (58, (81, 0, 777)), (62, (199, 0, 1542)), (63, (82, 0, 801)), (66, (201, 0, 1591)), (67, (83, 0, 809)), (70, (202, 0, 1599)), (71, (84, 0, 824)), (74, (203, 0, 1614)), (75, (85, 0, 855)), (78, (205, 0, 1631)), (79, (86, 0, 887)), (82, (208, 0, 1647)), (83, (87, 0, 895)), (86, (209, 0, 1655)), (87, (88, 0, 899)), (91, (210, 0, 1659)), (92, (89, 0, 903)), (95, (214, 0, 1663)), (96, (90, 0, 922)), (99, (216, 0, 1683)), (100, (91, 0, 935)), (103, (219, 0, 1691)), (104, (92, 0, 967)), (107, (221, 0, 1703)), (108, (93, 0, 982)), (111, (223, 0, 1711)), (112, (94, 0, 991)), (115, (225, 0, 1720)), (116, (95, 0, 1013)), (120, (226, 0, 1727)), (121, (96, 0, 1017)), (124, (230, 0, 1731)), (125, (97, 0, 1038)), (129, (235, 0, 1746)), (130, (98, 0, 1063)), (133, (238, 0, 1767)), (134, (99, 0, 1083)), (137, (239, 0, 1783)), (138, (100, 0, 1087)), (141, (241, 0, 1787)), (142, (101, 0, 1100)), (145, (242, 0, 1795))]
  ]
def clsT : List (List (Nat × (Nat × Nat))) := [
  [(37, (3, 212)), (44, (1, 262))],
  [],
  [],
  [],
  [],
  [],
  [(7, (4, 352))],
  [],
  [(9, (7, 42)), (18, (2, 95)), (24, (9, 97)), (30, (5, 99))],
  [],
  [(9, (3, 388)), (18, (4, 390))],
  [(9, (1, 30)), (15, (99, 32)), (20, (4, 34)), (26, (8, 36)), (33, (3, 200)), (39, (6, 202)), (45, (10, 204)), (58, (0, 206))],
  [],
  [],
  [],
  [],
  [(7, (11, 22)), (10, (12, 1104))]
  ]
def intT : List (List (Nat × (Int × Nat))) := [
  [(62, (1000000, 848))],
  [],
  [],
  [],
  [],
  [],
  [],
  [],
  [],
  [],
  [],
  [(317, (1000000, 990))],
  [(520, (1000000, 1719))],
  [(265, (1431655765, 1002)), (266, (858993459, 1003)), (267, (252645135, 1004))],
  [],
  [],
  []
  ]
def lngT : List (List (Nat × (Int × Nat))) := [
  [(63, (1000000, 849))],
  [],
  [],
  [],
  [],
  [],
  [],
  [],
  [],
  [],
  [],
  [(361, (-1, 1042)), (397, (1000000, 1099))],
  [(441, (1000000, 1630)), (543, (-1, 1750))],
  [],
  [],
  [],
  []
  ]
def strT : List (List (Nat × Nat)) := [
  [],
  [],
  [],
  [],
  [],
  [],
  [],
  [(98, 0), (100, 1), (102, 2), (104, 3), (106, 4), (108, 5), (110, 6), (112, 7), (114, 8), (116, 9), (118, 10), (120, 11), (122, 12), (124, 13), (126, 14), (128, 15), (130, 16), (132, 17), (134, 18), (136, 19), (138, 20), (140, 21), (142, 22), (144, 23)],
  [],
  [],
  [],
  [],
  [(258, 0), (264, 1), (266, 2), (268, 3), (270, 4), (272, 5), (274, 6), (276, 7), (278, 8), (280, 9), (282, 10), (284, 11), (286, 12), (288, 13), (290, 14), (292, 15), (294, 16), (296, 17), (304, 18), (306, 19), (308, 20), (310, 21), (312, 22)],
  [],
  [],
  [],
  []
  ]
def staT : List (List (Nat × (Nat × Nat))) := [
  [],
  [],
  [(40, (2, 756)), (51, (0, 763)), (54, (1, 765))],
  [],
  [],
  [],
  [],
  [],
  [],
  [],
  [],
  [],
  [],
  [],
  [],
  [],
  []
  ]
def ftT : List (List Nat) := [
  [3, 3, 3, 3, 3, 3, 3, 3, 3, 3, 3, 3],
  [3, 0, 0],
  [3, 3, 3, 3, 3, 0, 0],
  [3, 3, 0, 0, 0, 0, 0, 0, 0, 0, 0],
  [3, 0],
  [3, 3, 3, 0],
  [3, 0, 0, 0, 0, 0, 0, 0, 0],
  [3, 3, 3, 3, 0, 0, 0, 0, 0, 0, 0, 0, 0],
  [3, 3, 3, 3, 3, 3, 3],
  [1, 1, 0, 0, 0],
  [3, 3, 0, 0],
  [3, 3, 3, 3, 3, 3, 3, 3, 3, 3, 0, 0, 0, 0, 0, 0, 0],
  [0, 0, 0, 0, 0, 3, 3, 3, 3, 3, 3, 3, 0, 3, 3, 3, 3, 3, 3, 3, 3, 3, 3, 3, 3, 3, 3, 3, 3, 3, 3, 3, 3, 0, 0, 0, 0, 0, 0, 0, 0, 0, 0, 0, 0, 0, 0, 0, 1, 1, 0, 3, 3, 3, 0, 0, 3, 3, 3, 3, 3, 3, 3, 3, 3, 3, 3, 3, 3, 3, 3, 3, 0, 3, 3, 3, 3, 3, 3, 3, 3, 3, 3, 3, 3, 3, 3, 3, 3, 3, 3, 3, 3, 3]
  ]
def shT : List (Nat ⊕ (Nat × Nat)) := [
  .inl 0,
  .inl 1,
  .inl 2,
  .inl 3,
  .inl 4,
  .inl 5,
  .inl 6,
  .inl 7,
  .inl 8,
  .inl 9,
  .inl 10,
  .inl 11,
  .inl 12,
  .inr (0, 10),
  .inr (0, 9),
  .inr (0, 10),
  .inr (0, 16),
  .inr (0, 9),
  .inr (0, 9),
  .inr (1, 4),
  .inr (1, 4),
  .inr (11, 9),
  .inr (0, 16),
  .inr (0, 400),
  .inr (0, 400),
  .inr (0, 8),
  .inr (0, 8),
  .inr (0, 24),
  .inr (0, 16),
  .inr (0, 16),
  .inr (0, 9),
  .inr (0, 12),
  .inr (0, 12),
  .inr (0, 12),
  .inr (0, 400),
  .inr (0, 401),
  .inr (0, 401),
  .inr (0, 401),
  .inr (12, 4),
  .inr (19, 4),
  .inr (11, 120),
  .inr (9, 6),
  .inr (14, 6),
  .inr (13, 20),
  .inr (16, 100),
  .inr (20, 40),
  .inr (0, 220),
  .inr (0, 220),
  .inr (0, 2112),
  .inr (0, 132),
  .inr (0, 120),
  .inr (0, 96),
  .inr (0, 54),
  .inr (0, 6),
  .inr (0, 9),
  .inr (0, 3200),
  .inr (0, 32),
  .inr (0, 32),
  .inr (0, 4),
  .inr (0, 800),
  .inr (0, 8),
  .inr (0, 8),
  .inr (0, 400),
  .inr (0, 420),
  .inr (0, 12),
  .inr (0, 12),
  .inr (0, 12),
  .inr (0, 12),
  .inr (0, 12),
  .inr (0, 12),
  .inr (2, 4),
  .inr (2, 4),
  .inr (0, 4),
  .inr (0, 4),
  .inr (0, 4),
  .inr (0, 11),
  .inr (0, 16),
  .inr (0, 16),
  .inr (0, 10),
  .inr (0, 9),
  .inr (0, 20),
  .inr (0, 20),
  .inr (0, 20),
  .inr (0, 20),
  .inr (0, 20),
  .inr (0, 20),
  .inr (0, 20),
  .inr (0, 20),
  .inr (0, 320),
  .inr (0, 320),
  .inr (0, 1900),
  .inr (0, 1900),
  .inr (0, 1900),
  .inr (0, 20),
  .inr (0, 100),
  .inr (0, 100),
  .inr (0, 100),
  .inr (0, 100),
  .inr (0, 100),
  .inr (0, 100),
  .inr (0, 100),
  .inr (0, 100),
  .inr (0, 900),
  .inr (0, 100),
  .inr (0, 16),
  .inr (0, 40),
  .inr (0, 40),
  .inr (0, 40),
  .inr (0, 40),
  .inr (0, 40),
  .inr (0, 40),
  .inr (0, 40),
  .inr (0, 360),
  .inr (0, 40),
  .inr (0, 40),
  .inr (0, 16),
  .inr (0, 8),
  .inr (7, 0),
  .inr (7, 0)
  ]
def mnT : List (List Nat) := [
  [66],
  [101, 103, 105, 107, 109, 111, 113, 115, 117, 119, 121, 123, 125, 127, 129, 131, 133, 135, 137, 139, 141, 143, 145, 147, 149, 151, 153, 155, 157, 159, 161, 163, 165, 167, 169, 171, 173, 175, 177, 179, 181, 183, 185, 187, 189, 191, 193, 195, 197, 199, 201, 203, 205, 207, 209, 211, 213, 215, 217, 219, 221, 223, 225, 227, 229, 231, 233, 235, 237, 239, 241, 243, 245, 247, 249, 251, 253, 255, 257, 259, 261, 263, 265, 267, 269, 271, 273, 275, 277, 279, 281, 283, 285, 287, 289, 291, 293, 295, 297, 299, 301, 303, 305, 307, 309, 311, 313, 315, 317, 319, 321, 323, 325, 327, 329, 331, 333, 335, 337, 339, 83, 85, 87, 89, 91, 93, 95, 97, 99, 79, 81],
  [33, 39, 45, 51, 22],
  [353, 356, 359, 362, 365, 368, 371, 374, 377, 380, 383, 386, 389, 392, 395, 398, 401, 404, 407, 410, 714, 720, 726, 732, 738, 744, 750, 756, 762, 768, 774, 780, 786, 792, 798, 804, 810, 816, 822, 828, 834, 840, 846, 852, 858, 864, 870, 876, 882, 888, 894, 900, 906, 912, 918, 924, 930, 936, 942, 948, 75],
  [341, 343, 345, 347, 349, 351, 414, 417, 420, 423, 426, 429, 432, 435, 438, 441, 444, 447, 450, 453, 456, 459, 462, 465, 468, 471, 474, 477, 480, 483, 486, 489, 492, 495, 498, 501, 504, 507, 510, 513, 516, 519, 522, 525, 528, 531, 534, 537, 540, 543, 546, 549, 552, 555, 558, 561, 564, 567, 570, 573, 576, 579, 582, 585, 588, 591, 594, 597, 600, 603, 606, 609, 612, 615, 618, 621, 624, 627, 630, 633, 636, 639, 642, 645, 648, 651, 654, 657, 660, 663, 666, 669, 672, 675, 678, 681, 684, 687, 690, 693, 696, 699, 702, 705, 708, 711, 717, 723, 729, 735, 741, 747, 753, 759, 765, 771, 777, 783, 789, 795, 801, 807, 813, 819, 825, 831, 837, 843, 849, 855, 861, 867, 873, 879, 885, 891, 897, 903, 909, 915, 921, 927, 933, 939, 945, 951],
  [18, 29],
  [413, 416, 419, 422, 425, 428, 431, 434, 437, 440, 443, 446, 449, 452, 455, 458, 461, 464, 467, 470, 473, 476, 479, 482, 485, 488, 491, 494, 497, 500, 503, 506, 509, 512, 515, 518, 521, 524, 527, 530, 533, 536, 539, 542, 545, 548, 551, 554, 557, 560, 563, 566, 569, 572, 575, 578, 581, 584, 587, 590, 593, 596, 599, 602, 605, 608, 611, 614, 617, 620, 623, 626, 629, 632, 635, 638, 641, 644, 647, 650, 653, 656, 659, 662, 665, 668, 671, 674, 677, 680, 683, 686, 689, 692, 695, 698, 701, 704, 707, 710],
  [11],
  [10],
  [57, 58, 59, 60, 28],
  [713, 719, 725, 731, 737, 743, 749, 755, 761, 767, 773, 779, 785, 791, 797, 803, 809, 815, 821, 827, 833, 839, 845, 851, 857, 863, 869, 875, 881, 887, 893, 899, 905, 911, 917, 923, 929, 935, 941, 947],
  [0],
  [953],
  [67],
  [68],
  [69],
  [70],
  [71],
  [72],
  [73],
  [74],
  [78],
  [102, 104, 106, 108, 110, 112, 114, 116, 118, 120, 122, 124, 126, 128, 130, 132, 134, 136, 138, 140, 142, 144, 146, 148, 150, 152, 154, 156, 158, 160, 162, 164, 166, 168, 170, 172, 174, 176, 178, 180, 182, 184, 186, 188, 190, 192, 194, 196, 198, 200, 202, 204, 206, 208, 210, 212, 214, 216, 218, 220, 222, 224, 226, 228, 230, 232, 234, 236, 238, 240, 242, 244, 246, 248, 250, 252, 254, 256, 258, 260, 262, 264, 266, 268, 270, 272, 274, 276, 278, 280, 282, 284, 286, 288, 290, 292, 294, 296, 298, 300, 302, 304, 306, 308, 310, 312, 314, 316, 318, 320, 322, 324, 326, 328, 330, 332, 334, 336, 338, 340, 84, 86, 88, 90, 92, 94, 96, 98, 100, 80, 82],
  [34, 40, 46, 52, 23],
  [35, 41, 47, 53, 24],
  [36, 42, 48, 54, 25],
  [37, 43, 49, 55, 26],
  [38, 44, 50, 56, 27],
  [354, 357, 360, 363, 366, 369, 372, 375, 378, 381, 384, 387, 390, 393, 396, 399, 402, 405, 408, 411, 715, 721, 727, 733, 739, 745, 751, 757, 763, 769, 775, 781, 787, 793, 799, 805, 811, 817, 823, 829, 835, 841, 847, 853, 859, 865, 871, 877, 883, 889, 895, 901, 907, 913, 919, 925, 931, 937, 943, 949, 76],
  [355, 358, 361, 364, 367, 370, 373, 376, 379, 382, 385, 388, 391, 394, 397, 400, 403, 406, 409, 412, 716, 722, 728, 734, 740, 746, 752, 758, 764, 770, 776, 782, 788, 794, 800, 806, 812, 818, 824, 830, 836, 842, 848, 854, 860, 866, 872, 878, 884, 890, 896, 902, 908, 914, 920, 926, 932, 938, 944, 950, 77],
  [342, 344, 346, 348, 350, 352, 415, 418, 421, 424, 427, 430, 433, 436, 439, 442, 445, 448, 451, 454, 457, 460, 463, 466, 469, 472, 475, 478, 481, 484, 487, 490, 493, 496, 499, 502, 505, 508, 511, 514, 517, 520, 523, 526, 529, 532, 535, 538, 541, 544, 547, 550, 553, 556, 559, 562, 565, 568, 571, 574, 577, 580, 583, 586, 589, 592, 595, 598, 601, 604, 607, 610, 613, 616, 619, 622, 625, 628, 631, 634, 637, 640, 643, 646, 649, 652, 655, 658, 661, 664, 667, 670, 673, 676, 679, 682, 685, 688, 691, 694, 697, 700, 703, 706, 709, 712, 718, 724, 730, 736, 742, 748, 754, 760, 766, 772, 778, 784, 790, 796, 802, 808, 814, 820, 826, 832, 838, 844, 850, 856, 862, 868, 874, 880, 886, 892, 898, 904, 910, 916, 922, 928, 934, 940, 946, 952],
  [19, 30],
  [20, 31],
  [21, 32],
  [12],
  [13],
  [14],
  [15],
  [16],
  [17],
  [1],
  [2],
  [9],
  [61],
  [62],
  [63],
  [64],
  [65],
  [954],
  [955],
  [956],
  [957],
  [958],
  [959],
  [960],
  [961],
  [962],
  [963],
  [964],
  [965],
  [966],
  [967],
  [968],
  [969],
  [970],
  [971],
  [972],
  [973],
  [974],
  [975],
  [976],
  [977],
  [978],
  [979],
  [980],
  [981],
  [982],
  [983],
  [984],
  [985],
  [986],
  [987],
  [988],
  [989],
  [990],
  [991],
  [992],
  [993],
  [994],
  [995],
  [996],
  [997],
  [998],
  [999],
  [1000],
  [1001],
  [1002],
  [1003],
  [1004],
  [1005],
  [1006],
  [1007],
  [1008],
  [1009],
  [1010],
  [1011],
  [1012],
  [1013],
  [1014],
  [1015],
  [1016],
  [1017],
  [1018],
  [1019],
  [1020],
  [3, 4, 5, 6, 7, 8],
  [],
  [],
  []
  ]
def nmT : List (Nat × Nat) := [
  (11, 0), (40, 0), (41, 0), (115, 0), (115, 1), (115, 2), (115, 3), (115, 4), (115, 5), (42, 0), (8, 0), (7, 0), (34, 0), (35, 0), (36, 0), (37, 0),
  (38, 0), (39, 0), (5, 0), (31, 0), (32, 0), (33, 0), (2, 4), (23, 4), (24, 4), (25, 4), (26, 4), (27, 4), (9, 4), (5, 1), (31, 1), (32, 1),
  (33, 1), (2, 0), (23, 0), (24, 0), (25, 0), (26, 0), (27, 0), (2, 1), (23, 1), (24, 1), (25, 1), (26, 1), (27, 1), (2, 2), (23, 2), (24, 2),
  (25, 2), (26, 2), (27, 2), (2, 3), (23, 3), (24, 3), (25, 3), (26, 3), (27, 3), (9, 0), (9, 1), (9, 2), (9, 3), (43, 0), (44, 0), (45, 0),
  (46, 0), (47, 0), (0, 0), (13, 0), (14, 0), (15, 0), (16, 0), (17, 0), (18, 0), (19, 0), (20, 0), (3, 60), (28, 60), (29, 60), (21, 0), (1, 129),
  (22, 129), (1, 130), (22, 130), (1, 120), (22, 120), (1, 121), (22, 121), (1, 122), (22, 122), (1, 123), (22, 123), (1, 124), (22, 124), (1, 125), (22, 125), (1, 126),
  (22, 126), (1, 127), (22, 127), (1, 128), (22, 128), (1, 0), (22, 0), (1, 1), (22, 1), (1, 2), (22, 2), (1, 3), (22, 3), (1, 4), (22, 4), (1, 5),
  (22, 5), (1, 6), (22, 6), (1, 7), (22, 7), (1, 8), (22, 8), (1, 9), (22, 9), (1, 10), (22, 10), (1, 11), (22, 11), (1, 12), (22, 12), (1, 13),
  (22, 13), (1, 14), (22, 14), (1, 15), (22, 15), (1, 16), (22, 16), (1, 17), (22, 17), (1, 18), (22, 18), (1, 19), (22, 19), (1, 20), (22, 20), (1, 21),
  (22, 21), (1, 22), (22, 22), (1, 23), (22, 23), (1, 24), (22, 24), (1, 25), (22, 25), (1, 26), (22, 26), (1, 27), (22, 27), (1, 28), (22, 28), (1, 29),
  (22, 29), (1, 30), (22, 30), (1, 31), (22, 31), (1, 32), (22, 32), (1, 33), (22, 33), (1, 34), (22, 34), (1, 35), (22, 35), (1, 36), (22, 36), (1, 37),
  (22, 37), (1, 38), (22, 38), (1, 39), (22, 39), (1, 40), (22, 40), (1, 41), (22, 41), (1, 42), (22, 42), (1, 43), (22, 43), (1, 44), (22, 44), (1, 45),
  (22, 45), (1, 46), (22, 46), (1, 47), (22, 47), (1, 48), (22, 48), (1, 49), (22, 49), (1, 50), (22, 50), (1, 51), (22, 51), (1, 52), (22, 52), (1, 53),
  (22, 53), (1, 54), (22, 54), (1, 55), (22, 55), (1, 56), (22, 56), (1, 57), (22, 57), (1, 58), (22, 58), (1, 59), (22, 59), (1, 60), (22, 60), (1, 61),
  (22, 61), (1, 62), (22, 62), (1, 63), (22, 63), (1, 64), (22, 64), (1, 65), (22, 65), (1, 66), (22, 66), (1, 67), (22, 67), (1, 68), (22, 68), (1, 69),
  (22, 69), (1, 70), (22, 70), (1, 71), (22, 71), (1, 72), (22, 72), (1, 73), (22, 73), (1, 74), (22, 74), (1, 75), (22, 75), (1, 76), (22, 76), (1, 77),
  (22, 77), (1, 78), (22, 78), (1, 79), (22, 79), (1, 80), (22, 80), (1, 81), (22, 81), (1, 82), (22, 82), (1, 83), (22, 83), (1, 84), (22, 84), (1, 85),
  (22, 85), (1, 86), (22, 86), (1, 87), (22, 87), (1, 88), (22, 88), (1, 89), (22, 89), (1, 90), (22, 90), (1, 91), (22, 91), (1, 92), (22, 92), (1, 93),
  (22, 93), (1, 94), (22, 94), (1, 95), (22, 95), (1, 96), (22, 96), (1, 97), (22, 97), (1, 98), (22, 98), (1, 99), (22, 99), (1, 100), (22, 100), (1, 101),
  (22, 101), (1, 102), (22, 102), (1, 103), (22, 103), (1, 104), (22, 104), (1, 105), (22, 105), (1, 106), (22, 106), (1, 107), (22, 107), (1, 108), (22, 108), (1, 109),
  (22, 109), (1, 110), (22, 110), (1, 111), (22, 111), (1, 112), (22, 112), (1, 113), (22, 113), (1, 114), (22, 114), (1, 115), (22, 115), (1, 116), (22, 116), (1, 117),
  (22, 117), (1, 118), (22, 118), (1, 119), (22, 119), (4, 0), (30, 0), (4, 1), (30, 1), (4, 2), (30, 2), (4, 3), (30, 3), (4, 4), (30, 4), (4, 5),
  (30, 5), (3, 0), (28, 0), (29, 0), (3, 1), (28, 1), (29, 1), (3, 2), (28, 2), (29, 2), (3, 3), (28, 3), (29, 3), (3, 4), (28, 4), (29, 4),
  (3, 5), (28, 5), (29, 5), (3, 6), (28, 6), (29, 6), (3, 7), (28, 7), (29, 7), (3, 8), (28, 8), (29, 8), (3, 9), (28, 9), (29, 9), (3, 10),
  (28, 10), (29, 10), (3, 11), (28, 11), (29, 11), (3, 12), (28, 12), (29, 12), (3, 13), (28, 13), (29, 13), (3, 14), (28, 14), (29, 14), (3, 15), (28, 15),
  (29, 15), (3, 16), (28, 16), (29, 16), (3, 17), (28, 17), (29, 17), (3, 18), (28, 18), (29, 18), (3, 19), (28, 19), (29, 19), (6, 0), (4, 6), (30, 6),
  (6, 1), (4, 7), (30, 7), (6, 2), (4, 8), (30, 8), (6, 3), (4, 9), (30, 9), (6, 4), (4, 10), (30, 10), (6, 5), (4, 11), (30, 11), (6, 6),
  (4, 12), (30, 12), (6, 7), (4, 13), (30, 13), (6, 8), (4, 14), (30, 14), (6, 9), (4, 15), (30, 15), (6, 10), (4, 16), (30, 16), (6, 11), (4, 17),
  (30, 17), (6, 12), (4, 18), (30, 18), (6, 13), (4, 19), (30, 19), (6, 14), (4, 20), (30, 20), (6, 15), (4, 21), (30, 21), (6, 16), (4, 22), (30, 22),
  (6, 17), (4, 23), (30, 23), (6, 18), (4, 24), (30, 24), (6, 19), (4, 25), (30, 25), (6, 20), (4, 26), (30, 26), (6, 21), (4, 27), (30, 27), (6, 22),
  (4, 28), (30, 28), (6, 23), (4, 29), (30, 29), (6, 24), (4, 30), (30, 30), (6, 25), (4, 31), (30, 31), (6, 26), (4, 32), (30, 32), (6, 27), (4, 33),
  (30, 33), (6, 28), (4, 34), (30, 34), (6, 29), (4, 35), (30, 35), (6, 30), (4, 36), (30, 36), (6, 31), (4, 37), (30, 37), (6, 32), (4, 38), (30, 38),
  (6, 33), (4, 39), (30, 39), (6, 34), (4, 40), (30, 40), (6, 35), (4, 41), (30, 41), (6, 36), (4, 42), (30, 42), (6, 37), (4, 43), (30, 43), (6, 38),
  (4, 44), (30, 44), (6, 39), (4, 45), (30, 45), (6, 40), (4, 46), (30, 46), (6, 41), (4, 47), (30, 47), (6, 42), (4, 48), (30, 48), (6, 43), (4, 49),
  (30, 49), (6, 44), (4, 50), (30, 50), (6, 45), (4, 51), (30, 51), (6, 46), (4, 52), (30, 52), (6, 47), (4, 53), (30, 53), (6, 48), (4, 54), (30, 54),
  (6, 49), (4, 55), (30, 55), (6, 50), (4, 56), (30, 56), (6, 51), (4, 57), (30, 57), (6, 52), (4, 58), (30, 58), (6, 53), (4, 59), (30, 59), (6, 54),
  (4, 60), (30, 60), (6, 55), (4, 61), (30, 61), (6, 56), (4, 62), (30, 62), (6, 57), (4, 63), (30, 63), (6, 58), (4, 64), (30, 64), (6, 59), (4, 65),
  (30, 65), (6, 60), (4, 66), (30, 66), (6, 61), (4, 67), (30, 67), (6, 62), (4, 68), (30, 68), (6, 63), (4, 69), (30, 69), (6, 64), (4, 70), (30, 70),
  (6, 65), (4, 71), (30, 71), (6, 66), (4, 72), (30, 72), (6, 67), (4, 73), (30, 73), (6, 68), (4, 74), (30, 74), (6, 69), (4, 75), (30, 75), (6, 70),
  (4, 76), (30, 76), (6, 71), (4, 77), (30, 77), (6, 72), (4, 78), (30, 78), (6, 73), (4, 79), (30, 79), (6, 74), (4, 80), (30, 80), (6, 75), (4, 81),
  (30, 81), (6, 76), (4, 82), (30, 82), (6, 77), (4, 83), (30, 83), (6, 78), (4, 84), (30, 84), (6, 79), (4, 85), (30, 85), (6, 80), (4, 86), (30, 86),
  (6, 81), (4, 87), (30, 87), (6, 82), (4, 88), (30, 88), (6, 83), (4, 89), (30, 89), (6, 84), (4, 90), (30, 90), (6, 85), (4, 91), (30, 91), (6, 86),
  (4, 92), (30, 92), (6, 87), (4, 93), (30, 93), (6, 88), (4, 94), (30, 94), (6, 89), (4, 95), (30, 95), (6, 90), (4, 96), (30, 96), (6, 91), (4, 97),
  (30, 97), (6, 92), (4, 98), (30, 98), (6, 93), (4, 99), (30, 99), (6, 94), (4, 100), (30, 100), (6, 95), (4, 101), (30, 101), (6, 96), (4, 102), (30, 102),
  (6, 97), (4, 103), (30, 103), (6, 98), (4, 104), (30, 104), (6, 99), (4, 105), (30, 105), (10, 0), (3, 20), (28, 20), (29, 20), (4, 106), (30, 106), (10, 1),
  (3, 21), (28, 21), (29, 21), (4, 107), (30, 107), (10, 2), (3, 22), (28, 22), (29, 22), (4, 108), (30, 108), (10, 3), (3, 23), (28, 23), (29, 23), (4, 109),
  (30, 109), (10, 4), (3, 24), (28, 24), (29, 24), (4, 110), (30, 110), (10, 5), (3, 25), (28, 25), (29, 25), (4, 111), (30, 111), (10, 6), (3, 26), (28, 26),
  (29, 26), (4, 112), (30, 112), (10, 7), (3, 27), (28, 27), (29, 27), (4, 113), (30, 113), (10, 8), (3, 28), (28, 28), (29, 28), (4, 114), (30, 114), (10, 9),
  (3, 29), (28, 29), (29, 29), (4, 115), (30, 115), (10, 10), (3, 30), (28, 30), (29, 30), (4, 116), (30, 116), (10, 11), (3, 31), (28, 31), (29, 31), (4, 117),
  (30, 117), (10, 12), (3, 32), (28, 32), (29, 32), (4, 118), (30, 118), (10, 13), (3, 33), (28, 33), (29, 33), (4, 119), (30, 119), (10, 14), (3, 34), (28, 34),
  (29, 34), (4, 120), (30, 120), (10, 15), (3, 35), (28, 35), (29, 35), (4, 121), (30, 121), (10, 16), (3, 36), (28, 36), (29, 36), (4, 122), (30, 122), (10, 17),
  (3, 37), (28, 37), (29, 37), (4, 123), (30, 123), (10, 18), (3, 38), (28, 38), (29, 38), (4, 124), (30, 124), (10, 19), (3, 39), (28, 39), (29, 39), (4, 125),
  (30, 125), (10, 20), (3, 40), (28, 40), (29, 40), (4, 126), (30, 126), (10, 21), (3, 41), (28, 41), (29, 41), (4, 127), (30, 127), (10, 22), (3, 42), (28, 42),
  (29, 42), (4, 128), (30, 128), (10, 23), (3, 43), (28, 43), (29, 43), (4, 129), (30, 129), (10, 24), (3, 44), (28, 44), (29, 44), (4, 130), (30, 130), (10, 25),
  (3, 45), (28, 45), (29, 45), (4, 131), (30, 131), (10, 26), (3, 46), (28, 46), (29, 46), (4, 132), (30, 132), (10, 27), (3, 47), (28, 47), (29, 47), (4, 133),
  (30, 133), (10, 28), (3, 48), (28, 48), (29, 48), (4, 134), (30, 134), (10, 29), (3, 49), (28, 49), (29, 49), (4, 135), (30, 135), (10, 30), (3, 50), (28, 50),
  (29, 50), (4, 136), (30, 136), (10, 31), (3, 51), (28, 51), (29, 51), (4, 137), (30, 137), (10, 32), (3, 52), (28, 52), (29, 52), (4, 138), (30, 138), (10, 33),
  (3, 53), (28, 53), (29, 53), (4, 139), (30, 139), (10, 34), (3, 54), (28, 54), (29, 54), (4, 140), (30, 140), (10, 35), (3, 55), (28, 55), (29, 55), (4, 141),
  (30, 141), (10, 36), (3, 56), (28, 56), (29, 56), (4, 142), (30, 142), (10, 37), (3, 57), (28, 57), (29, 57), (4, 143), (30, 143), (10, 38), (3, 58), (28, 58),
  (29, 58), (4, 144), (30, 144), (10, 39), (3, 59), (28, 59), (29, 59), (4, 145), (30, 145), (12, 0), (48, 0), (49, 0), (50, 0), (51, 0), (52, 0), (53, 0),
  (54, 0), (55, 0), (56, 0), (57, 0), (58, 0), (59, 0), (60, 0), (61, 0), (62, 0), (63, 0), (64, 0), (65, 0), (66, 0), (67, 0), (68, 0), (69, 0),
  (70, 0), (71, 0), (72, 0), (73, 0), (74, 0), (75, 0), (76, 0), (77, 0), (78, 0), (79, 0), (80, 0), (81, 0), (82, 0), (83, 0), (84, 0), (85, 0),
  (86, 0), (87, 0), (88, 0), (89, 0), (90, 0), (91, 0), (92, 0), (93, 0), (94, 0), (95, 0), (96, 0), (97, 0), (98, 0), (99, 0), (100, 0), (101, 0),
  (102, 0), (103, 0), (104, 0), (105, 0), (106, 0), (107, 0), (108, 0), (109, 0), (110, 0), (111, 0), (112, 0), (113, 0), (114, 0)
  ]
def strW : List (String × Nat × String × Nat × Nat) := [
  (RX7, 98, "far", 0, 537), (RX7, 100, "blur", 1, 538), (RX7, 102, "fade", 2, 539), (RX7, 104, "pull", 3, 540),
  (RX7, 106, "limit", 4, 541), (RX7, 108, "nobody", 5, 542), (RX7, 110, "sure", 6, 543), (RX7, 112, "part", 7, 544),
  (RX7, 114, "parts", 8, 545), (RX7, 116, "whole", 9, 546), (RX7, 118, "kin", 10, 547), (RX7, 120, "secs", 11, 548),
  (RX7, 122, "light", 12, 549), (RX7, 124, "fear", 13, 550), (RX7, 126, "days", 14, 551), (RX7, 128, "gap", 15, 552),
  (RX7, 130, "first", 16, 553), (RX7, 132, "told", 17, 554), (RX7, 134, "no", 18, 555), (RX7, 136, "each", 19, 556),
  (RX7, 138, "led", 20, 557), (RX7, 140, "drawn", 21, 558), (RX7, 142, "praise", 22, 559), (RX7, 144, "", 23, 560),
  (RX12, 258, "far", 0, 1458), (RX12, 264, "blur", 1, 1465), (RX12, 266, "fade", 2, 1466), (RX12, 268, "pull", 3, 1467),
  (RX12, 270, "limit", 4, 1468), (RX12, 272, "nobody", 5, 1469), (RX12, 274, "sure", 6, 1470), (RX12, 276, "part", 7, 1471),
  (RX12, 278, "parts", 8, 1472), (RX12, 280, "whole", 9, 1473), (RX12, 282, "kin", 10, 1474), (RX12, 284, "secs", 11, 1475),
  (RX12, 286, "light", 12, 1476), (RX12, 288, "fear", 13, 1477), (RX12, 290, "days", 14, 1478), (RX12, 292, "gap", 15, 1479),
  (RX12, 294, "first", 16, 1480), (RX12, 296, "told", 17, 1481), (RX12, 304, "no", 18, 1482), (RX12, 306, "each", 19, 1483),
  (RX12, 308, "led", 20, 1484), (RX12, 310, "drawn", 21, 1485), (RX12, 312, "praise", 22, 1486)
  ]
def litT : List String := [
  "far", "blur", "fade", "pull", "limit", "nobody", "sure", "part", "parts", "whole", "kin", "secs",
  "light", "fear", "days", "gap", "first", "told", "no", "each", "led", "drawn", "praise", ""
  ]
def litB : List (List Int) := [
  [102, 97, 114], [98, 108, 117, 114], [102, 97, 100, 101], [112, 117, 108, 108], [108, 105, 109, 105, 116], [110, 111, 98, 111, 100, 121],
  [115, 117, 114, 101], [112, 97, 114, 116], [112, 97, 114, 116, 115], [119, 104, 111, 108, 101], [107, 105, 110], [115, 101, 99, 115],
  [108, 105, 103, 104, 116], [102, 101, 97, 114], [100, 97, 121, 115], [103, 97, 112], [102, 105, 114, 115, 116], [116, 111, 108, 100],
  [110, 111], [101, 97, 99, 104], [108, 101, 100], [100, 114, 97, 119, 110], [112, 114, 97, 105, 115, 101], []
  ]
