/-! ===== data of this class and this reference, by program (wip/whole/gen04.py): places, methods, links ===== -/
abbrev AV : Type := Int ⊕ (Int ⊕ Nat)
abbrev SG : Type := Nat → Int → Int
abbrev LV : Type := List (Option AV)
abbrev Shp : Type := (Nat × Nat) ⊕ (Nat × List (Nat × Nat))
abbrev MTE : Type := MethodName × ByteArray × Nat × Option FieldType × Nat
def SH : List Shp := [.inr (8, [(2, 2), (2, 4), (2, 27), (2, 30), (2, 34), (2, 36), (2, 38), (2, 40), (2, 1), (3, 0)]), .inl (0, 4), .inr (7, [(2, 3), (0, 0), (0, 0), (0, 0), (0, 0), (0, 0), (0, 0)]), .inl (0, 1600), .inr (5, [(2, 2), (3, 0)]), .inr (4, [(0, 0), (0, 0), (0, 0), (0, 0), (0, 0), (2, 6), (2, 7), (2, 8), (2, 9), (2, 10), (2, 11), (2, 12), (2, 13), (2, 14), (2, 15)]), .inl (0, 72), .inl (0, 4), .inl (0, 4), .inl (0, 4), .inl (0, 4), .inl (0, 8), .inl (0, 8), .inl (0, 8), .inl (0, 7), .inl (0, 60), .inr (4, [(0, 0), (0, 0), (0, 0), (0, 0), (0, 0), (2, 17), (2, 18), (2, 19), (2, 20), (2, 21), (2, 22), (2, 23), (2, 24), (2, 25), (2, 26)]), .inl (0, 72), .inl (0, 4), .inl (0, 4), .inl (0, 4), .inl (0, 4), .inl (0, 8), .inl (0, 8), .inl (0, 8), .inl (0, 7), .inl (0, 60), .inr (3, [(2, 2), (2, 28), (2, 29), (0, 0), (0, 0), (0, 0), (0, 0), (0, 0), (0, 0), (0, 0)]), .inl (0, 1600), .inl (0, 64), .inr (2, [(2, 31), (2, 32), (2, 33)]), .inl (0, 15), .inl (0, 15), .inl (0, 15), .inr (6, [(2, 35)]), .inl (0, 214), .inr (6, [(2, 37)]), .inl (0, 214), .inr (0, [(2, 39), (0, 0), (0, 0)]), .inl (0, 4280), .inr (1, [(2, 41), (0, 0)]), .inl (0, 268), .inr (9, [(2, 43), (0, 0), (0, 0), (0, 0), (0, 0), (0, 0), (0, 0), (0, 0), (0, 0), (2, 44), (0, 0), (2, 45), (2, 46), (2, 47), (2, 48), (2, 49), (2, 50), (2, 51), (2, 52), (2, 53), (2, 54), (2, 55), (2, 56), (2, 57), (2, 58), (2, 59), (2, 60), (0, 0), (2, 61), (2, 62), (2, 63), (2, 64), (2, 65), (2, 66), (2, 67), (2, 68), (0, 0), (2, 69), (2, 70), (2, 71), (0, 0), (0, 0), (2, 72), (2, 73), (2, 74), (2, 75), (0, 0), (0, 0), (0, 0), (0, 0), (2, 76), (2, 77), (2, 78), (2, 79), (2, 80), (2, 81), (2, 82), (2, 83), (2, 84), (2, 85), (2, 86), (2, 87), (2, 88), (2, 89), (2, 90), (2, 91), (2, 92), (2, 93), (2, 94), (2, 95), (2, 96), (0, 0), (2, 97), (0, 0), (0, 0), (0, 0), (2, 98), (0, 0), (1, 0), (4, 0), (2, 99), (0, 0)]), .inl (0, 1600), .inl (0, 4), .inl (2, 5), .inl (2, 5), .inl (2, 4), .inl (2, 5), .inl (2, 3), .inl (2, 2), .inl (2, 5), .inl (2, 4), .inl (2, 4), .inl (2, 4), .inl (2, 2), .inl (2, 4), .inl (2, 4), .inl (2, 5), .inl (2, 5), .inl (2, 4), .inl (0, 8), .inl (1, 32), .inl (0, 16), .inl (0, 48), .inl (0, 14), .inl (0, 56), .inl (0, 60), .inl (0, 2), .inl (0, 254), .inl (0, 30), .inl (0, 5080), .inl (0, 254), .inl (0, 4), .inl (0, 240), .inl (0, 24), .inl (2, 5), .inl (2, 4), .inl (2, 5), .inl (2, 5), .inl (2, 4), .inl (2, 5), .inl (2, 3), .inl (2, 3), .inl (2, 2), .inl (2, 3), .inl (2, 3), .inl (2, 3), .inl (2, 3), .inl (2, 4), .inl (2, 4), .inl (2, 4), .inl (2, 4), .inl (2, 5), .inl (2, 6), .inl (2, 5), .inl (0, 1700), .inl (0, 1700), .inl (1, 1700), .inl (0, 268)]
abbrev CN : List String := [RX0, RX1, RX2, RX3, RX4, RX5, RX6, RX7, RX8, RX9, RJ6, RJ9]
abbrev mX8_feed : Nat := 0
abbrev mX7_put : Nat := 1
abbrev mX8_end : Nat := 2
abbrev mX8_realm : Nat := 3
abbrev mX5_read : Nat := 4
abbrev mX4_clear : Nat := 5
abbrev mX7_rewind : Nat := 6
abbrev mX7_advance : Nat := 7
abbrev mX7_isBlank : Nat := 8
abbrev mX7_isLetter : Nat := 9
abbrev mX7_isDigit : Nat := 10
abbrev mX7_fail : Nat := 11
abbrev mX5_readStatement : Nat := 12
abbrev mX7_wordAmong : Nat := 13
abbrev mX5_tooMany : Nat := 14
abbrev mX5_readTower : Nat := 15
abbrev mX5_takeNewName : Nat := 16
abbrev mX5_canBeName : Nat := 17
abbrev mX7_failHere : Nat := 18
abbrev mX5_towerNamedHere : Nat := 19
abbrev mX5_isNameHere : Nat := 20
abbrev mX4_letterOf : Nat := 21
abbrev mX7_letterHere : Nat := 22
abbrev mX5_guardNamedHere : Nat := 23
abbrev mX5_takeWord : Nat := 24
abbrev mX5_takeNumber : Nat := 25
abbrev mX7_numberHere : Nat := 26
abbrev mX4_addTower : Nat := 27
abbrev mX5_readWood : Nat := 28
abbrev mX5_takeTower : Nat := 29
abbrev mX5_readGap : Nat := 30
abbrev mX5_canTake : Nat := 31
abbrev mX8_bit : Nat := 32
abbrev mX5_readGuard : Nat := 33
abbrev mX4_addGuard : Nat := 34
abbrev mX5_readLoan : Nat := 35
abbrev mX4_addLoan : Nat := 36
abbrev mX5_readBends : Nat := 37
abbrev mX5_readEnemy : Nat := 38
abbrev mX7_takeSign : Nat := 39
abbrev mX7_isSign : Nat := 40
abbrev mX6_beginWith : Nat := 41
abbrev mX6_startLoan : Nat := 42
abbrev mX6_loans : Nat := 43
abbrev mX6_lowestOpen : Nat := 44
abbrev mX6_standing : Nat := 45
abbrev mX0_forget : Nat := 46
abbrev mX8_fault : Nat := 47
abbrev mX8_has : Nat := 48
abbrev mX6_openLoans : Nat := 49
abbrev mX6_hasEnded : Nat := 50
abbrev mX6_ofLoan : Nat := 51
abbrev mX6_today : Nat := 52
abbrev mX6_heldTowers : Nat := 53
abbrev mX6_isHeld : Nat := 54
abbrev mX4_leastLegs : Nat := 55
abbrev mX8_climb : Nat := 56
abbrev mX6_bentSteps : Nat := 57
abbrev mJ6_bitCount_0f7a4 : Nat := 58
abbrev mX6_stepsInYards : Nat := 59
abbrev mX8_letter : Nat := 60
abbrev mX8_isTower : Nat := 61
abbrev mX8_isGuard : Nat := 62
abbrev mX8_tower : Nat := 63
abbrev mX4_guardsOf : Nat := 64
abbrev mX8_purse : Nat := 65
abbrev mX6_inPurse : Nat := 66
abbrev mX8_step : Nat := 67
abbrev mX8_isStep : Nat := 68
abbrev mX6_howIs : Nat := 69
abbrev mX6_loanThatFills : Nat := 70
abbrev mX6_loanThatLends : Nat := 71
abbrev mX8_loan : Nat := 72
abbrev mX8_isLoan : Nat := 73
abbrev mX8_guard : Nat := 74
abbrev mX8_lend : Nat := 75
abbrev mX0_keep : Nat := 76
abbrev mJ9_min_7cf53 : Nat := 77
abbrev mX8_back : Nat := 78
abbrev mX6_endLoan : Nat := 79
abbrev mX8_refit : Nat := 80
abbrev mX6_straighten : Nat := 81
abbrev mX8_go : Nat := 82
abbrev mX6_passDay : Nat := 83
abbrev mX8_undo : Nat := 84
abbrev mX0_takeBack : Nat := 85
abbrev mX8_reaches : Nat := 86
abbrev mJ9_max_7cf53 : Nat := 87
abbrev mX8_climbRoped : Nat := 88
abbrev mX8_hops : Nat := 89
abbrev mX8_fewestHops : Nat := 90
abbrev mX8_spare : Nat := 91
abbrev mX8_spareOf : Nat := 92
abbrev mX6_thereIn : Nat := 93
abbrev mX2_forKeeping : Nat := 94
abbrev mX6_filledIn : Nat := 95
abbrev mX2_cheapest : Nat := 96
abbrev mX8_countOrStep : Nat := 97
abbrev mX8_need : Nat := 98
abbrev mX8_needOf : Nat := 99
abbrev mX2_forFilling : Nat := 100
abbrev mX8_rescue : Nat := 101
abbrev mX8_towerOfKth : Nat := 102
abbrev mX8_stepOfKth : Nat := 103
abbrev mX8_falls : Nat := 104
abbrev mX8_odds : Nat := 105
abbrev mX8_blame : Nat := 106
abbrev mX2_forLoansBack : Nat := 107
abbrev mX2_fewestSets : Nat := 108
abbrev mX2_join : Nat := 109
abbrev mX2_closeBelow : Nat := 110
abbrev mX8_netted : Nat := 111
abbrev mX6_lentMoreThanBorrowed : Nat := 112
abbrev mX8_ring : Nat := 113
abbrev mX8_ringThrough : Nat := 114
abbrev mX6_borrowersOf : Nat := 115
abbrev mX8_wood : Nat := 116
abbrev mX2_forRefits : Nat := 117
abbrev mX6_bentIn : Nat := 118
abbrev mX8_rents : Nat := 119
abbrev mX6_rentsWithin : Nat := 120
abbrev mX8_lost : Nat := 121
abbrev mX6_copy : Nat := 122
abbrev mX8_lastDayAhead : Nat := 123
abbrev mX8_ask : Nat := 124
abbrev mX3_read : Nat := 125
abbrev mX3_readTest : Nat := 126
abbrev mX3_readBoth : Nat := 127
abbrev mX3_readFact : Nat := 128
abbrev mX3_write : Nat := 129
abbrev mX3_openOne : Nat := 130
abbrev mX3_writeSign : Nat := 131
abbrev mX3_closeWith : Nat := 132
abbrev mX3_readComparison : Nat := 133
abbrev mX3_readSum : Nat := 134
abbrev mX3_readProduct : Nat := 135
abbrev mX3_readPart : Nat := 136
abbrev mX3_readNumber : Nat := 137
abbrev mX3_readPair : Nat := 138
abbrev mX3_answer : Nat := 139
abbrev mX3_countAll : Nat := 140
abbrev mX3_valueThen : Nat := 141
abbrev mX3_plainPart : Nat := 142
abbrev mX3_ofOne : Nat := 143
abbrev mX3_bounded : Nat := 144
abbrev mJ9_min_f86c9 : Nat := 145
abbrev mJ9_max_f86c9 : Nat := 146
abbrev mX3_reachThen : Nat := 147
abbrev mX3_ofTwo : Nat := 148
abbrev mJ9_floorDiv_7cf53 : Nat := 149
abbrev mX8_image : Nat := 150
abbrev mX1_draw : Nat := 151
abbrev mX1_putBytes : Nat := 152
abbrev mX1_check : Nat := 153
abbrev mX8_octet : Nat := 154
abbrev mX8_status : Nat := 155
abbrev mX9_feed : Nat := 156
abbrev mX9_end : Nat := 157
abbrev mX9_realm : Nat := 158
abbrev mX9_look : Nat := 159
abbrev mX9_statementTold : Nat := 160
abbrev mX9_fail : Nat := 161
abbrev mX9_takes : Nat := 162
abbrev mX9_isHere : Nat := 163
abbrev mX9_isLetter : Nat := 164
abbrev mX9_newTower : Nat := 165
abbrev mX9_isFull : Nat := 166
abbrev mX9_newName : Nat := 167
abbrev mX9_name : Nat := 168
abbrev mX9_isOwnHere : Nat := 169
abbrev mX9_nameOf : Nat := 170
abbrev mX9_asks : Nat := 171
abbrev mX9_number : Nat := 172
abbrev mX9_isDigit : Nat := 173
abbrev mX9_isIn : Nat := 174
abbrev mX9_woodTold : Nat := 175
abbrev mX9_towerTold : Nat := 176
abbrev mX9_gapTold : Nat := 177
abbrev mX9_takenOf : Nat := 178
abbrev mX9_guardTold : Nat := 179
abbrev mX9_loanIsTold : Nat := 180
abbrev mX9_enemyTold : Nat := 181
abbrev mX9_asksSign : Nat := 182
abbrev mX9_takesSign : Nat := 183
abbrev mX9_stands : Nat := 184
abbrev mX9_lends : Nat := 185
abbrev mX9_loanMany : Nat := 186
abbrev mX9_standSet : Nat := 187
abbrev mX9_howSet : Nat := 188
abbrev mX9_stepsOf : Nat := 189
abbrev mX9_howIs : Nat := 190
abbrev mX9_filledSet : Nat := 191
abbrev mX9_lasts : Nat := 192
abbrev mX9_loanOf : Nat := 193
abbrev mX9_makes : Nat := 194
abbrev mX9_fault : Nat := 195
abbrev mX9_has : Nat := 196
abbrev mX9_towerMany : Nat := 197
abbrev mX9_guardMany : Nat := 198
abbrev mX9_countOf : Nat := 199
abbrev mX9_isHeld : Nat := 200
abbrev mX9_isHeldBy : Nat := 201
abbrev mX9_reachesTop : Nat := 202
abbrev mX9_highest : Nat := 203
abbrev mX9_bits : Nat := 204
abbrev mX9_letter : Nat := 205
abbrev mX9_tower : Nat := 206
abbrev mX9_isTower : Nat := 207
abbrev mX9_woodOf : Nat := 208
abbrev mX9_guardsOf : Nat := 209
abbrev mX9_purse : Nat := 210
abbrev mX9_step : Nat := 211
abbrev mX9_isStep : Nat := 212
abbrev mX9_filledBy : Nat := 213
abbrev mX9_lentBy : Nat := 214
abbrev mX9_loan : Nat := 215
abbrev mX9_isLoan : Nat := 216
abbrev mX9_guard : Nat := 217
abbrev mX9_isGuard : Nat := 218
abbrev mX9_undo : Nat := 219
abbrev mX9_lend : Nat := 220
abbrev mX9_keeps : Nat := 221
abbrev mX9_back : Nat := 222
abbrev mX9_ends : Nat := 223
abbrev mX9_refit : Nat := 224
abbrev mX9_go : Nat := 225
abbrev mX9_dayGoes : Nat := 226
abbrev mX9_reaches : Nat := 227
abbrev mX9_hops : Nat := 228
abbrev mX9_spare : Nat := 229
abbrev mX9_spareSet : Nat := 230
abbrev mX9_told : Nat := 231
abbrev mX9_bitAt : Nat := 232
abbrev mX9_need : Nat := 233
abbrev mX9_needSet : Nat := 234
abbrev mX9_rescue : Nat := 235
abbrev mX9_rescueMany : Nat := 236
abbrev mX9_spareLeft : Nat := 237
abbrev mX9_falls : Nat := 238
abbrev mX9_odds : Nat := 239
abbrev mX9_blame : Nat := 240
abbrev mX9_isBlamed : Nat := 241
abbrev mX9_stepsBy : Nat := 242
abbrev mX9_loansBy : Nat := 243
abbrev mX9_netted : Nat := 244
abbrev mX9_ring : Nat := 245
abbrev mX9_hasLent : Nat := 246
abbrev mX9_wood : Nat := 247
abbrev mX9_bentUp : Nat := 248
abbrev mX9_rents : Nat := 249
abbrev mX9_putsAside : Nat := 250
abbrev mX9_takesBack : Nat := 251
abbrev mX9_lost : Nat := 252
abbrev mX9_ask : Nat := 253
abbrev mX9_qKind : Nat := 254
abbrev mX9_qTest : Nat := 255
abbrev mX9_qOpens : Nat := 256
abbrev mX9_qFact : Nat := 257
abbrev mX9_qCode : Nat := 258
abbrev mX9_qSums : Nat := 259
abbrev mX9_qPartTold : Nat := 260
abbrev mX9_qWordOf : Nat := 261
abbrev mX9_qWordHere : Nat := 262
abbrev mX9_qAsksWord : Nat := 263
abbrev mX9_qEndsPart : Nat := 264
abbrev mX9_qDrops : Nat := 265
abbrev mX9_qGoesOn : Nat := 266
abbrev mX9_qBracket : Nat := 267
abbrev mX9_qIsBracket : Nat := 268
abbrev mX9_qDropsToBracket : Nat := 269
abbrev mX9_qIsOn : Nat := 270
abbrev mX9_qDropsNots : Nat := 271
abbrev mX9_qGoesOnTest : Nat := 272
abbrev mX9_qHasSquare : Nat := 273
abbrev mX9_qTold : Nat := 274
abbrev mX9_qPuts : Nat := 275
abbrev mX9_qOf : Nat := 276
abbrev mX9_qClip : Nat := 277
abbrev mX9_qPartOf : Nat := 278
abbrev mX9_qJoins : Nat := 279
abbrev mX9_qFloor : Nat := 280
abbrev mX9_qTakes : Nat := 281
abbrev mX9_image : Nat := 282
abbrev mX9_writes : Nat := 283
abbrev mX9_octet : Nat := 284
abbrev mX9_status : Nat := 285
def KS : List (Nat × Nat × Nat) := [(5, 49, 0), (3, 49, 1), (3, 99, 2), (3, 101, 3), (3, 124, 4), (3, 97, 5), (3, 89, 6)]
def STRS : List String := ["tower steps wood costs gap of guard legs rope loan to days rent bends enemy odds ", "first last often total most least ", "all ", "not ", "day held lent bent yard purse stands reach min max ", "and ", "or "]
theorem tb_0 {w : Cond} (h : w ∈ (k2_sels lw_privs)) : w ∈ lw_tbl := by
  unfold lw_tbl
  exact List.mem_append_left _ h
theorem tb_1 {w : Cond} (h : w ∈ tables_1_1) : w ∈ lw_tbl := by
  unfold lw_tbl tables_1
  exact List.mem_append_right _ (List.mem_append_left _ h)
theorem tb_2 {w : Cond} (h : w ∈ tables_1_2) : w ∈ lw_tbl := by
  unfold lw_tbl tables_1
  exact List.mem_append_right _ (List.mem_append_right _ (List.mem_append_left _ h))
theorem tb_3 {w : Cond} (h : w ∈ tables_1_3) : w ∈ lw_tbl := by
  unfold lw_tbl tables_1
  exact List.mem_append_right _ (List.mem_append_right _ (List.mem_append_right _ (List.mem_append_left _ h)))
theorem tb_4 {w : Cond} (h : w ∈ tables_1_4) : w ∈ lw_tbl := by
  unfold lw_tbl tables_1
  exact List.mem_append_right _ (List.mem_append_right _ (List.mem_append_right _ (List.mem_append_right _ (List.mem_append_left _ h))))
theorem tb_5 {w : Cond} (h : w ∈ tables_1_5) : w ∈ lw_tbl := by
  unfold lw_tbl tables_1
  exact List.mem_append_right _ (List.mem_append_right _ (List.mem_append_right _ (List.mem_append_right _ (List.mem_append_right _ (List.mem_append_left _ h)))))
theorem tb_6 {w : Cond} (h : w ∈ tables_1_6) : w ∈ lw_tbl := by
  unfold lw_tbl tables_1
  exact List.mem_append_right _ (List.mem_append_right _ (List.mem_append_right _ (List.mem_append_right _ (List.mem_append_right _ (List.mem_append_right _ (List.mem_append_left _ h))))))
theorem tb_7 {w : Cond} (h : w ∈ tables_1_7) : w ∈ lw_tbl := by
  unfold lw_tbl tables_1
  exact List.mem_append_right _ (List.mem_append_right _ (List.mem_append_right _ (List.mem_append_right _ (List.mem_append_right _ (List.mem_append_right _ (List.mem_append_right _ (List.mem_append_left _ h)))))))
theorem tb_8 {w : Cond} (h : w ∈ tables_1_8) : w ∈ lw_tbl := by
  unfold lw_tbl tables_1
  exact List.mem_append_right _ (List.mem_append_right _ (List.mem_append_right _ (List.mem_append_right _ (List.mem_append_right _ (List.mem_append_right _ (List.mem_append_right _ (List.mem_append_right _ (h))))))))
def mw (t : MTE) : Cond := .code t.1 t.2.1 t.2.2.1 t.2.2.2.1
def MT_0 : List (MTE) := [(yX8_feed, cX8_feed, 6, (some .int), 8), (yX7_put, cX7_put, 3, none, 7), (yX8_end, cX8_end, 2, (some .boolean), 8), (yX8_realm, cX8_realm, 3, (some .int), 8), (yX5_read, cX5_read, 2, (some .int), 5), (yX4_clear, cX4_clear, 2, none, 4), (yX7_rewind, cX7_rewind, 1, none, 7), (yX7_advance, cX7_advance, 3, none, 7), (yX7_isBlank, cX7_isBlank, 1, (some .boolean), 7), (yX7_isLetter, cX7_isLetter, 1, (some .boolean), 7), (yX7_isDigit, cX7_isDigit, 1, (some .boolean), 7), (yX7_fail, cX7_fail, 3, (some .boolean), 7), (yX5_readStatement, cX5_readStatement, 3, (some .boolean), 5), (yX7_wordAmong, cX7_wordAmong, 6, (some .int), 7), (yX5_tooMany, cX5_tooMany, 2, (some .boolean), 5), (yX5_readTower, cX5_readTower, 2, (some .boolean), 5), (yX5_takeNewName, cX5_takeNewName, 3, (some .boolean), 5), (yX5_canBeName, cX5_canBeName, 1, (some .boolean), 5), (yX7_failHere, cX7_failHere, 1, (some .boolean), 7), (yX5_towerNamedHere, cX5_towerNamedHere, 2, (some .int), 5)]
set_option maxRecDepth 100000 in
theorem MT_i0 : ∀ e ∈ MT_0, mw e ∈ lw_tbl := by
  have h : MT_0.map mw = [55, 59, 63, 67, 71, 75, 79, 83, 86, 89, 92, 96, 100, 105, 157, 161, 166, 170, 174, 179].filterMap (fun i => tables_1_2[i]?) := by decide +kernel
  intro e he
  have hw : mw e ∈ MT_0.map mw := List.mem_map.mpr ⟨e, he, rfl⟩
  rw [h] at hw
  obtain ⟨i, -, hi⟩ := List.mem_filterMap.mp hw
  exact tb_2 (List.mem_of_getElem? hi)
def MT_1 : List (MTE) := [(yX5_isNameHere, cX5_isNameHere, 3, (some .boolean), 5), (yX4_letterOf, cX4_letterOf, 3, (some .int), 4), (yX7_letterHere, cX7_letterHere, 3, (some .int), 7), (yX5_guardNamedHere, cX5_guardNamedHere, 2, (some .boolean), 5), (yX5_takeWord, cX5_takeWord, 2, (some .boolean), 5), (yX5_takeNumber, cX5_takeNumber, 4, (some .int), 5), (yX7_numberHere, cX7_numberHere, 3, (some .int), 7), (yX4_addTower, cX4_addTower, 2, none, 4), (yX5_readWood, cX5_readWood, 3, (some .boolean), 5), (yX5_takeTower, cX5_takeTower, 3, (some .int), 5), (yX5_readGap, cX5_readGap, 4, (some .boolean), 5), (yX5_canTake, cX5_canTake, 4, (some .boolean), 5), (yX8_bit, cX8_bit, 1, (some .int), 8), (yX5_readGuard, cX5_readGuard, 4, (some .boolean), 5), (yX4_addGuard, cX4_addGuard, 4, none, 4)]
set_option maxRecDepth 100000 in
theorem MT_i1 : ∀ e ∈ MT_1, mw e ∈ lw_tbl := by
  have h : MT_1.map mw = [183, 187, 191, 195, 199, 203, 207, 211, 215, 219, 223, 227, 230, 234, 238].filterMap (fun i => tables_1_2[i]?) := by decide +kernel
  intro e he
  have hw : mw e ∈ MT_1.map mw := List.mem_map.mpr ⟨e, he, rfl⟩
  rw [h] at hw
  obtain ⟨i, -, hi⟩ := List.mem_filterMap.mp hw
  exact tb_2 (List.mem_of_getElem? hi)
def MT_2 : List (MTE) := [(yX5_readLoan, cX5_readLoan, 7, (some .boolean), 5), (yX4_addLoan, cX4_addLoan, 7, none, 4), (yX5_readBends, cX5_readBends, 2, (some .boolean), 5), (yX5_readEnemy, cX5_readEnemy, 4, (some .boolean), 5), (yX7_takeSign, cX7_takeSign, 2, (some .boolean), 7), (yX7_isSign, cX7_isSign, 2, (some .boolean), 7), (yX6_beginWith, cX6_beginWith, 5, none, 6), (yX6_startLoan, cX6_startLoan, 10, (some .int), 6), (yX6_loans, cX6_loans, 1, (some .int), 6), (yX6_lowestOpen, cX6_lowestOpen, 5, (some .int), 6), (yX6_standing, cX6_standing, 2, (some .int), 6), (yX0_forget, cX0_forget, 1, none, 0), (yX8_fault, cX8_fault, 2, (some .int), 8), (yX8_has, cX8_has, 2, (some .int), 8), (yX6_openLoans, cX6_openLoans, 3, (some .int), 6), (yX6_hasEnded, cX6_hasEnded, 2, (some .boolean), 6), (yX6_ofLoan, cX6_ofLoan, 3, (some .int), 6), (yX6_today, cX6_today, 1, (some .int), 6), (yX6_heldTowers, cX6_heldTowers, 4, (some .int), 6), (yX6_isHeld, cX6_isHeld, 5, (some .boolean), 6)]
set_option maxRecDepth 100000 in
theorem MT_i2 : ∀ e ∈ MT_2, mw e ∈ lw_tbl := by
  have h : MT_2.map mw = [2, 6, 11, 15, 19, 23, 28, 32, 36, 41, 45, 49, 54, 58, 63, 67, 71, 75, 79, 83].filterMap (fun i => tables_1_3[i]?) := by decide +kernel
  intro e he
  have hw : mw e ∈ MT_2.map mw := List.mem_map.mpr ⟨e, he, rfl⟩
  rw [h] at hw
  obtain ⟨i, -, hi⟩ := List.mem_filterMap.mp hw
  exact tb_3 (List.mem_of_getElem? hi)
def MT_3 : List (MTE) := [(yX4_leastLegs, cX4_leastLegs, 4, (some .int), 4), (yX8_climb, cX8_climb, 6, (some .int), 8), (yX6_bentSteps, cX6_bentSteps, 3, (some .int), 6), (yJ6_bitCount_0f7a4, cJ6_bitCount_0f7a4, 1, (some .int), 10), (yX6_stepsInYards, cX6_stepsInYards, 3, (some .int), 6), (yX8_letter, cX8_letter, 4, (some .int), 8), (yX8_isTower, cX8_isTower, 2, (some .boolean), 8), (yX8_isGuard, cX8_isGuard, 2, (some .boolean), 8), (yX8_tower, cX8_tower, 3, (some .int), 8), (yX4_guardsOf, cX4_guardsOf, 4, (some .int), 4), (yX8_purse, cX8_purse, 2, (some .int), 8), (yX6_inPurse, cX6_inPurse, 2, (some .int), 6), (yX8_step, cX8_step, 4, (some .int), 8), (yX8_isStep, cX8_isStep, 3, (some .boolean), 8), (yX6_howIs, cX6_howIs, 4, (some .int), 6), (yX6_loanThatFills, cX6_loanThatFills, 4, (some .int), 6), (yX6_loanThatLends, cX6_loanThatLends, 4, (some .int), 6), (yX8_loan, cX8_loan, 3, (some .int), 8), (yX8_isLoan, cX8_isLoan, 2, (some .boolean), 8), (yX8_guard, cX8_guard, 3, (some .int), 8)]
set_option maxRecDepth 100000 in
theorem MT_i3 : ∀ e ∈ MT_3, mw e ∈ lw_tbl := by
  have h : MT_3.map mw = [87, 90, 95, 98, 105, 109, 113, 118, 122, 129, 134, 138, 143, 147, 151, 155, 159, 163, 167, 172].filterMap (fun i => tables_1_3[i]?) := by decide +kernel
  intro e he
  have hw : mw e ∈ MT_3.map mw := List.mem_map.mpr ⟨e, he, rfl⟩
  rw [h] at hw
  obtain ⟨i, -, hi⟩ := List.mem_filterMap.mp hw
  exact tb_3 (List.mem_of_getElem? hi)
def MT_4 : List (MTE) := [(yX8_lend, cX8_lend, 7, (some .int), 8), (yX0_keep, cX0_keep, 2, none, 0), (yJ9_min_7cf53, cJ9_min_7cf53, 2, (some .int), 11), (yX8_back, cX8_back, 2, (some .boolean), 8), (yX6_endLoan, cX6_endLoan, 7, none, 6), (yX8_refit, cX8_refit, 3, (some .boolean), 8), (yX6_straighten, cX6_straighten, 4, none, 6), (yX8_go, cX8_go, 4, (some .int), 8), (yX6_passDay, cX6_passDay, 5, (some .int), 6), (yX8_undo, cX8_undo, 1, (some .boolean), 8), (yX0_takeBack, cX0_takeBack, 2, (some .boolean), 0), (yX8_reaches, cX8_reaches, 9, (some .int), 8), (yJ9_max_7cf53, cJ9_max_7cf53, 2, (some .int), 11), (yX8_climbRoped, cX8_climbRoped, 8, (some .int), 8), (yX8_hops, cX8_hops, 3, (some .int), 8)]
set_option maxRecDepth 100000 in
theorem MT_i4 : ∀ e ∈ MT_4, mw e ∈ lw_tbl := by
  have h : MT_4.map mw = [176, 180, 186, 191, 196, 200, 204, 208, 212, 217, 221, 225, 228, 231, 237].filterMap (fun i => tables_1_3[i]?) := by decide +kernel
  intro e he
  have hw : mw e ∈ MT_4.map mw := List.mem_map.mpr ⟨e, he, rfl⟩
  rw [h] at hw
  obtain ⟨i, -, hi⟩ := List.mem_filterMap.mp hw
  exact tb_3 (List.mem_of_getElem? hi)
def MT_5 : List (MTE) := [(yX8_fewestHops, cX8_fewestHops, 8, (some .int), 8), (yX8_spare, cX8_spare, 3, (some .int), 8), (yX8_spareOf, cX8_spareOf, 7, (some .int), 8), (yX6_thereIn, cX6_thereIn, 2, (some .int), 6), (yX2_forKeeping, cX2_forKeeping, 9, none, 2), (yX6_filledIn, cX6_filledIn, 2, (some .int), 6), (yX2_cheapest, cX2_cheapest, 6, (some .int), 2), (yX8_countOrStep, cX8_countOrStep, 4, (some .int), 8), (yX8_need, cX8_need, 3, (some .int), 8), (yX8_needOf, cX8_needOf, 4, (some .int), 8), (yX2_forFilling, cX2_forFilling, 6, none, 2), (yX8_rescue, cX8_rescue, 6, (some .int), 8), (yX8_towerOfKth, cX8_towerOfKth, 6, (some .int), 8), (yX8_stepOfKth, cX8_stepOfKth, 7, (some .int), 8), (yX8_falls, cX8_falls, 5, (some .int), 8), (yX8_odds, cX8_odds, 6, (some .int), 8), (yX8_blame, cX8_blame, 7, (some .int), 8), (yX2_forLoansBack, cX2_forLoansBack, 8, none, 2), (yX2_fewestSets, cX2_fewestSets, 5, (some .int), 2), (yX2_join, cX2_join, 4, none, 2)]
set_option maxRecDepth 100000 in
theorem MT_i5 : ∀ e ∈ MT_5, mw e ∈ lw_tbl := by
  have h : MT_5.map mw = [0, 4, 8, 12, 16, 21, 27, 32, 36, 40, 44, 49, 53, 57, 61, 65, 69, 73, 78, 82].filterMap (fun i => tables_1_4[i]?) := by decide +kernel
  intro e he
  have hw : mw e ∈ MT_5.map mw := List.mem_map.mpr ⟨e, he, rfl⟩
  rw [h] at hw
  obtain ⟨i, -, hi⟩ := List.mem_filterMap.mp hw
  exact tb_4 (List.mem_of_getElem? hi)
def MT_6 : List (MTE) := [(yX2_closeBelow, cX2_closeBelow, 3, none, 2), (yX8_netted, cX8_netted, 3, (some .int), 8), (yX6_lentMoreThanBorrowed, cX6_lentMoreThanBorrowed, 4, (some .int), 6), (yX8_ring, cX8_ring, 4, (some .int), 8), (yX8_ringThrough, cX8_ringThrough, 6, (some .int), 8), (yX6_borrowersOf, cX6_borrowersOf, 4, (some .int), 6), (yX8_wood, cX8_wood, 5, (some .int), 8), (yX2_forRefits, cX2_forRefits, 8, none, 2), (yX6_bentIn, cX6_bentIn, 2, (some .int), 6), (yX8_rents, cX8_rents, 3, (some .int), 8), (yX6_rentsWithin, cX6_rentsWithin, 6, (some .int), 6), (yX8_lost, cX8_lost, 5, (some .int), 8), (yX6_copy, cX6_copy, 2, none, 6), (yX8_lastDayAhead, cX8_lastDayAhead, 1, (some .int), 8), (yX8_ask, cX8_ask, 2, (some .long), 8), (yX3_read, cX3_read, 2, (some .boolean), 3), (yX3_readTest, cX3_readTest, 2, (some .boolean), 3), (yX3_readBoth, cX3_readBoth, 2, (some .boolean), 3), (yX3_readFact, cX3_readFact, 1, (some .boolean), 3), (yX3_write, cX3_write, 2, (some .boolean), 3)]
set_option maxRecDepth 100000 in
theorem MT_i6 : ∀ e ∈ MT_6, mw e ∈ lw_tbl := by
  have h : MT_6.map mw = [87, 92, 96, 100, 104, 108, 112, 116, 120, 124, 128, 133, 137, 142, 146, 150, 159, 163, 167, 172].filterMap (fun i => tables_1_4[i]?) := by decide +kernel
  intro e he
  have hw : mw e ∈ MT_6.map mw := List.mem_map.mpr ⟨e, he, rfl⟩
  rw [h] at hw
  obtain ⟨i, -, hi⟩ := List.mem_filterMap.mp hw
  exact tb_4 (List.mem_of_getElem? hi)
def MT_7 : List (MTE) := [(yX3_openOne, cX3_openOne, 1, (some .boolean), 3), (yX3_writeSign, cX3_writeSign, 2, (some .boolean), 3), (yX3_closeWith, cX3_closeWith, 2, (some .boolean), 3), (yX3_readComparison, cX3_readComparison, 2, (some .boolean), 3), (yX3_readSum, cX3_readSum, 3, (some .boolean), 3), (yX3_readProduct, cX3_readProduct, 3, (some .boolean), 3), (yX3_readPart, cX3_readPart, 2, (some .boolean), 3), (yX3_readNumber, cX3_readNumber, 2, (some .boolean), 3), (yX3_readPair, cX3_readPair, 1, (some .boolean), 3), (yX3_answer, cX3_answer, 14, (some .long), 3), (yX3_countAll, cX3_countAll, 3, none, 3), (yX3_valueThen, cX3_valueThen, 6, (some .int), 3), (yX3_plainPart, cX3_plainPart, 3, (some .int), 3)]
set_option maxRecDepth 100000 in
theorem MT_i7 : ∀ e ∈ MT_7, mw e ∈ lw_tbl := by
  have h : MT_7.map mw = [177, 182, 187, 192, 196, 200, 204, 208, 214, 221, 227, 235, 239].filterMap (fun i => tables_1_4[i]?) := by decide +kernel
  intro e he
  have hw : mw e ∈ MT_7.map mw := List.mem_map.mpr ⟨e, he, rfl⟩
  rw [h] at hw
  obtain ⟨i, -, hi⟩ := List.mem_filterMap.mp hw
  exact tb_4 (List.mem_of_getElem? hi)
def MT_8 : List (MTE) := [(yX3_ofOne, cX3_ofOne, 5, (some .int), 3), (yX3_bounded, cX3_bounded, 2, (some .int), 3), (yJ9_min_f86c9, cJ9_min_f86c9, 4, (some .long), 11), (yJ9_max_f86c9, cJ9_max_f86c9, 4, (some .long), 11), (yX3_reachThen, cX3_reachThen, 4, (some .int), 3), (yX3_ofTwo, cX3_ofTwo, 3, (some .int), 3), (yJ9_floorDiv_7cf53, cJ9_floorDiv_7cf53, 3, (some .int), 11), (yX8_image, cX8_image, 1, (some .int), 8), (yX1_draw, cX1_draw, 5, (some .int), 1), (yX1_putBytes, cX1_putBytes, 4, none, 1), (yX1_check, cX1_check, 3, (some .int), 1), (yX8_octet, cX8_octet, 2, (some .int), 8), (yX8_status, cX8_status, 2, (some .int), 8)]
set_option maxRecDepth 100000 in
theorem MT_i8 : ∀ e ∈ MT_8, mw e ∈ lw_tbl := by
  have h : MT_8.map mw = [2, 6, 11, 14, 19, 23, 28, 34, 38, 43, 51, 55, 59].filterMap (fun i => tables_1_5[i]?) := by decide +kernel
  intro e he
  have hw : mw e ∈ MT_8.map mw := List.mem_map.mpr ⟨e, he, rfl⟩
  rw [h] at hw
  obtain ⟨i, -, hi⟩ := List.mem_filterMap.mp hw
  exact tb_5 (List.mem_of_getElem? hi)
def MT_9 : List (MTE) := [(yX9_feed, cX9_feed, 8, (some .int), 9), (yX9_end, cX9_end, 2, (some .boolean), 9), (yX9_realm, cX9_realm, 2, (some .int), 9), (yX9_look, cX9_look, 1, (some .int), 9), (yX9_statementTold, cX9_statementTold, 2, none, 9), (yX9_fail, cX9_fail, 3, none, 9), (yX9_takes, cX9_takes, 2, (some .boolean), 9), (yX9_isHere, cX9_isHere, 4, (some .boolean), 9), (yX9_isLetter, cX9_isLetter, 1, (some .boolean), 9), (yX9_newTower, cX9_newTower, 7, none, 9), (yX9_isFull, cX9_isFull, 4, (some .boolean), 9), (yX9_newName, cX9_newName, 3, (some .long), 9), (yX9_name, cX9_name, 3, (some .long), 9), (yX9_isOwnHere, cX9_isOwnHere, 2, (some .boolean), 9), (yX9_nameOf, cX9_nameOf, 5, (some .int), 9), (yX9_asks, cX9_asks, 2, none, 9), (yX9_number, cX9_number, 5, (some .int), 9), (yX9_isDigit, cX9_isDigit, 1, (some .boolean), 9), (yX9_isIn, cX9_isIn, 6, (some .boolean), 9), (yX9_woodTold, cX9_woodTold, 3, none, 9)]
set_option maxRecDepth 100000 in
theorem MT_i9 : ∀ e ∈ MT_9, mw e ∈ lw_tbl := by
  have h : MT_9.map mw = [78, 82, 86, 90, 94, 98, 102, 106, 109, 113, 117, 121, 125, 129, 135, 139, 143, 146, 149, 153].filterMap (fun i => tables_1_6[i]?) := by decide +kernel
  intro e he
  have hw : mw e ∈ MT_9.map mw := List.mem_map.mpr ⟨e, he, rfl⟩
  rw [h] at hw
  obtain ⟨i, -, hi⟩ := List.mem_filterMap.mp hw
  exact tb_6 (List.mem_of_getElem? hi)
def MT_10 : List (MTE) := [(yX9_towerTold, cX9_towerTold, 4, (some .int), 9), (yX9_gapTold, cX9_gapTold, 4, none, 9), (yX9_takenOf, cX9_takenOf, 4, (some .int), 9), (yX9_guardTold, cX9_guardTold, 8, none, 9), (yX9_loanIsTold, cX9_loanIsTold, 8, none, 9), (yX9_enemyTold, cX9_enemyTold, 3, none, 9), (yX9_asksSign, cX9_asksSign, 2, none, 9), (yX9_takesSign, cX9_takesSign, 2, (some .boolean), 9), (yX9_stands, cX9_stands, 2, none, 9), (yX9_lends, cX9_lends, 10, (some .int), 9), (yX9_loanMany, cX9_loanMany, 1, (some .int), 9), (yX9_standSet, cX9_standSet, 2, (some .int), 9), (yX9_howSet, cX9_howSet, 5, (some .int), 9), (yX9_stepsOf, cX9_stepsOf, 2, (some .int), 9), (yX9_howIs, cX9_howIs, 3, (some .int), 9), (yX9_filledSet, cX9_filledSet, 4, (some .int), 9), (yX9_lasts, cX9_lasts, 2, (some .boolean), 9), (yX9_loanOf, cX9_loanOf, 3, (some .int), 9), (yX9_makes, cX9_makes, 4, none, 9), (yX9_fault, cX9_fault, 2, (some .int), 9)]
set_option maxRecDepth 100000 in
theorem MT_i10 : ∀ e ∈ MT_10, mw e ∈ lw_tbl := by
  have h : MT_10.map mw = [157, 161, 165, 169, 173, 177, 181, 185, 189, 193, 197, 201, 205, 209, 213, 217, 221, 225, 229, 233].filterMap (fun i => tables_1_6[i]?) := by decide +kernel
  intro e he
  have hw : mw e ∈ MT_10.map mw := List.mem_map.mpr ⟨e, he, rfl⟩
  rw [h] at hw
  obtain ⟨i, -, hi⟩ := List.mem_filterMap.mp hw
  exact tb_6 (List.mem_of_getElem? hi)
def MT_11 : List (MTE) := [(yX9_has, cX9_has, 2, (some .int), 9)]
set_option maxRecDepth 100000 in
theorem MT_i11 : ∀ e ∈ MT_11, mw e ∈ lw_tbl := by
  have h : MT_11.map mw = [237].filterMap (fun i => tables_1_6[i]?) := by decide +kernel
  intro e he
  have hw : mw e ∈ MT_11.map mw := List.mem_map.mpr ⟨e, he, rfl⟩
  rw [h] at hw
  obtain ⟨i, -, hi⟩ := List.mem_filterMap.mp hw
  exact tb_6 (List.mem_of_getElem? hi)
def MT_12 : List (MTE) := [(yX9_towerMany, cX9_towerMany, 1, (some .int), 9), (yX9_guardMany, cX9_guardMany, 1, (some .int), 9), (yX9_countOf, cX9_countOf, 4, (some .int), 9), (yX9_isHeld, cX9_isHeld, 2, (some .boolean), 9), (yX9_isHeldBy, cX9_isHeldBy, 4, (some .boolean), 9), (yX9_reachesTop, cX9_reachesTop, 4, (some .boolean), 9), (yX9_highest, cX9_highest, 8, (some .int), 9), (yX9_bits, cX9_bits, 3, (some .int), 9), (yX9_letter, cX9_letter, 9, (some .int), 9), (yX9_tower, cX9_tower, 3, (some .int), 9), (yX9_isTower, cX9_isTower, 2, (some .boolean), 9), (yX9_woodOf, cX9_woodOf, 2, (some .int), 9), (yX9_guardsOf, cX9_guardsOf, 6, (some .int), 9), (yX9_purse, cX9_purse, 2, (some .int), 9), (yX9_step, cX9_step, 4, (some .int), 9), (yX9_isStep, cX9_isStep, 3, (some .boolean), 9), (yX9_filledBy, cX9_filledBy, 4, (some .int), 9), (yX9_lentBy, cX9_lentBy, 4, (some .int), 9), (yX9_loan, cX9_loan, 3, (some .int), 9), (yX9_isLoan, cX9_isLoan, 2, (some .boolean), 9)]
set_option maxRecDepth 100000 in
theorem MT_i12 : ∀ e ∈ MT_12, mw e ∈ lw_tbl := by
  have h : MT_12.map mw = [1, 5, 9, 13, 17, 21, 25, 28, 32, 37, 41, 45, 49, 53, 58, 62, 66, 70, 74, 78].filterMap (fun i => tables_1_7[i]?) := by decide +kernel
  intro e he
  have hw : mw e ∈ MT_12.map mw := List.mem_map.mpr ⟨e, he, rfl⟩
  rw [h] at hw
  obtain ⟨i, -, hi⟩ := List.mem_filterMap.mp hw
  exact tb_7 (List.mem_of_getElem? hi)
def MT_13 : List (MTE) := [(yX9_guard, cX9_guard, 3, (some .int), 9), (yX9_isGuard, cX9_isGuard, 2, (some .boolean), 9), (yX9_undo, cX9_undo, 2, (some .boolean), 9), (yX9_lend, cX9_lend, 7, (some .int), 9), (yX9_keeps, cX9_keeps, 2, none, 9), (yX9_back, cX9_back, 2, (some .boolean), 9), (yX9_ends, cX9_ends, 2, none, 9), (yX9_refit, cX9_refit, 3, (some .boolean), 9), (yX9_go, cX9_go, 4, (some .int), 9), (yX9_dayGoes, cX9_dayGoes, 3, (some .int), 9), (yX9_reaches, cX9_reaches, 5, (some .int), 9), (yX9_hops, cX9_hops, 7, (some .int), 9), (yX9_spare, cX9_spare, 3, (some .int), 9), (yX9_spareSet, cX9_spareSet, 8, (some .int), 9), (yX9_told, cX9_told, 3, (some .int), 9), (yX9_bitAt, cX9_bitAt, 4, (some .int), 9), (yX9_need, cX9_need, 3, (some .int), 9), (yX9_needSet, cX9_needSet, 7, (some .int), 9), (yX9_rescue, cX9_rescue, 4, (some .int), 9), (yX9_rescueMany, cX9_rescueMany, 7, (some .int), 9)]
set_option maxRecDepth 100000 in
theorem MT_i13 : ∀ e ∈ MT_13, mw e ∈ lw_tbl := by
  have h : MT_13.map mw = [83, 87, 92, 96, 101, 105, 109, 113, 117, 122, 126, 131, 135, 139, 142, 145, 149, 153, 157, 161].filterMap (fun i => tables_1_7[i]?) := by decide +kernel
  intro e he
  have hw : mw e ∈ MT_13.map mw := List.mem_map.mpr ⟨e, he, rfl⟩
  rw [h] at hw
  obtain ⟨i, -, hi⟩ := List.mem_filterMap.mp hw
  exact tb_7 (List.mem_of_getElem? hi)
def MT_14 : List (MTE) := [(yX9_spareLeft, cX9_spareLeft, 2, (some .int), 9), (yX9_falls, cX9_falls, 4, (some .int), 9), (yX9_odds, cX9_odds, 5, (some .int), 9), (yX9_blame, cX9_blame, 5, (some .int), 9), (yX9_isBlamed, cX9_isBlamed, 6, (some .boolean), 9), (yX9_stepsBy, cX9_stepsBy, 4, (some .int), 9), (yX9_loansBy, cX9_loansBy, 4, (some .int), 9), (yX9_netted, cX9_netted, 5, (some .int), 9), (yX9_ring, cX9_ring, 9, (some .int), 9), (yX9_hasLent, cX9_hasLent, 4, (some .boolean), 9), (yX9_wood, cX9_wood, 4, (some .int), 9), (yX9_bentUp, cX9_bentUp, 8, (some .int), 9), (yX9_rents, cX9_rents, 5, (some .int), 9), (yX9_putsAside, cX9_putsAside, 2, none, 9), (yX9_takesBack, cX9_takesBack, 2, none, 9), (yX9_lost, cX9_lost, 4, (some .int), 9), (yX9_ask, cX9_ask, 3, (some .long), 9), (yX9_qKind, cX9_qKind, 2, (some .int), 9), (yX9_qTest, cX9_qTest, 3, none, 9)]
set_option maxRecDepth 100000 in
theorem MT_i14 : ∀ e ∈ MT_14, mw e ∈ lw_tbl := by
  have h : MT_14.map mw = [165, 169, 174, 178, 182, 186, 190, 194, 198, 202, 206, 210, 214, 218, 222, 226, 230, 234, 238].filterMap (fun i => tables_1_7[i]?) := by decide +kernel
  intro e he
  have hw : mw e ∈ MT_14.map mw := List.mem_map.mpr ⟨e, he, rfl⟩
  rw [h] at hw
  obtain ⟨i, -, hi⟩ := List.mem_filterMap.mp hw
  exact tb_7 (List.mem_of_getElem? hi)
def MT_15 : List (MTE) := [(yX9_qOpens, cX9_qOpens, 3, none, 9), (yX9_qFact, cX9_qFact, 2, none, 9), (yX9_qCode, cX9_qCode, 2, none, 9), (yX9_qSums, cX9_qSums, 3, none, 9), (yX9_qPartTold, cX9_qPartTold, 6, none, 9), (yX9_qWordOf, cX9_qWordOf, 4, (some .int), 9), (yX9_qWordHere, cX9_qWordHere, 1, (some .int), 9), (yX9_qAsksWord, cX9_qAsksWord, 2, none, 9), (yX9_qEndsPart, cX9_qEndsPart, 1, none, 9), (yX9_qDrops, cX9_qDrops, 1, none, 9), (yX9_qGoesOn, cX9_qGoesOn, 2, (some .boolean), 9), (yX9_qBracket, cX9_qBracket, 2, (some .int), 9), (yX9_qIsBracket, cX9_qIsBracket, 1, (some .boolean), 9), (yX9_qDropsToBracket, cX9_qDropsToBracket, 1, none, 9), (yX9_qIsOn, cX9_qIsOn, 2, (some .boolean), 9), (yX9_qDropsNots, cX9_qDropsNots, 1, none, 9), (yX9_qGoesOnTest, cX9_qGoesOnTest, 1, (some .boolean), 9), (yX9_qHasSquare, cX9_qHasSquare, 2, (some .boolean), 9), (yX9_qTold, cX9_qTold, 4, (some .long), 9), (yX9_qPuts, cX9_qPuts, 3, none, 9)]
set_option maxRecDepth 100000 in
theorem MT_i15 : ∀ e ∈ MT_15, mw e ∈ lw_tbl := by
  have h : MT_15.map mw = [2, 6, 10, 14, 18, 22, 26, 30, 34, 38, 42, 46, 49, 53, 57, 61, 65, 69, 75, 79].filterMap (fun i => tables_1_8[i]?) := by decide +kernel
  intro e he
  have hw : mw e ∈ MT_15.map mw := List.mem_map.mpr ⟨e, he, rfl⟩
  rw [h] at hw
  obtain ⟨i, -, hi⟩ := List.mem_filterMap.mp hw
  exact tb_8 (List.mem_of_getElem? hi)
def MT_16 : List (MTE) := [(yX9_qOf, cX9_qOf, 5, (some .long), 9), (yX9_qClip, cX9_qClip, 2, (some .long), 9), (yX9_qPartOf, cX9_qPartOf, 3, (some .long), 9), (yX9_qJoins, cX9_qJoins, 6, none, 9), (yX9_qFloor, cX9_qFloor, 6, (some .long), 9), (yX9_qTakes, cX9_qTakes, 6, none, 9), (yX9_image, cX9_image, 3, (some .int), 9), (yX9_writes, cX9_writes, 2, none, 9), (yX9_octet, cX9_octet, 2, (some .int), 9), (yX9_status, cX9_status, 2, (some .int), 9)]
set_option maxRecDepth 100000 in
theorem MT_i16 : ∀ e ∈ MT_16, mw e ∈ lw_tbl := by
  have h : MT_16.map mw = [83, 87, 93, 97, 100, 104, 108, 112, 116, 120].filterMap (fun i => tables_1_8[i]?) := by decide +kernel
  intro e he
  have hw : mw e ∈ MT_16.map mw := List.mem_map.mpr ⟨e, he, rfl⟩
  rw [h] at hw
  obtain ⟨i, -, hi⟩ := List.mem_filterMap.mp hw
  exact tb_8 (List.mem_of_getElem? hi)
def MT : List (MTE) := MT_0 ++ (MT_1 ++ (MT_2 ++ (MT_3 ++ (MT_4 ++ (MT_5 ++ (MT_6 ++ (MT_7 ++ (MT_8 ++ (MT_9 ++ (MT_10 ++ (MT_11 ++ (MT_12 ++ (MT_13 ++ (MT_14 ++ (MT_15 ++ (MT_16))))))))))))))))
theorem MT_in : ∀ e ∈ MT, mw e ∈ lw_tbl := by
  intro e h
  rcases List.mem_append.mp h with h | h
  · exact MT_i0 e h
  rcases List.mem_append.mp h with h | h
  · exact MT_i1 e h
  rcases List.mem_append.mp h with h | h
  · exact MT_i2 e h
  rcases List.mem_append.mp h with h | h
  · exact MT_i3 e h
  rcases List.mem_append.mp h with h | h
  · exact MT_i4 e h
  rcases List.mem_append.mp h with h | h
  · exact MT_i5 e h
  rcases List.mem_append.mp h with h | h
  · exact MT_i6 e h
  rcases List.mem_append.mp h with h | h
  · exact MT_i7 e h
  rcases List.mem_append.mp h with h | h
  · exact MT_i8 e h
  rcases List.mem_append.mp h with h | h
  · exact MT_i9 e h
  rcases List.mem_append.mp h with h | h
  · exact MT_i10 e h
  rcases List.mem_append.mp h with h | h
  · exact MT_i11 e h
  rcases List.mem_append.mp h with h | h
  · exact MT_i12 e h
  rcases List.mem_append.mp h with h | h
  · exact MT_i13 e h
  rcases List.mem_append.mp h with h | h
  · exact MT_i14 e h
  rcases List.mem_append.mp h with h | h
  · exact MT_i15 e h
  exact MT_i16 e h
def cnm (c : Nat) : String := CN.getD c ""
def fw_name (ci k : Nat) : String × String := match vwCl[ci]? with
  | some q => ((q.2.1 k).2.1, (q.2.1 k).2.2.1)
  | none => ("", "")
def fw (e : Nat × Nat × Nat × Nat) : Cond := .fieldLink (cnm e.1) e.2.1 (cnm e.2.2.1) (fw_name e.2.2.1 e.2.2.2).1 (fw_name e.2.2.1 e.2.2.2).2
def fwN (e : Nat × Nat × Nat × Nat) : Cond := .fieldLinkNest (cnm e.1) e.2.1 (cnm e.2.2.1) (fw_name e.2.2.1 e.2.2.2).1 (fw_name e.2.2.1 e.2.2.2).2 RX8
def yOf (M : Nat) : MethodName := match MT[M]? with
  | some t => t.1
  | none => ⟨"", "", ""⟩
def cwL (e : Nat × Nat × Nat) : Cond := .methodLink (cnm e.1) e.2.1 (yOf e.2.2)
def cwN (e : Nat × Nat × Nat) : Cond := .methodLinkNest (cnm e.1) e.2.1 (yOf e.2.2) RX8
def swS (M : Nat) : Cond := .static (yOf M)
def swV (M : Nat) : Cond := .instanceMethod (yOf M)
def swE (M : Nat) : Cond := .selects (yOf M).cls (yOf M) (yOf M)
def swI (c : Nat) : Cond := .initialized (cnm c)
def kwI (e : Nat × Nat × Int) : Cond := .constant (cnm e.1) e.2.1 (Int32.ofInt e.2.2)
def kwL (e : Nat × Nat × Int) : Cond := .constantLong (cnm e.1) e.2.1 (Int64.ofInt e.2.2)
def FT_0 : List (Nat × Nat × Nat × Nat) := [(7, 9, 7, 0), (7, 15, 7, 1), (7, 19, 7, 2), (7, 22, 7, 3), (7, 25, 7, 4), (7, 28, 7, 5), (7, 31, 7, 6), (4, 9, 4, 0), (4, 15, 4, 1), (4, 18, 4, 2), (4, 21, 4, 3), (4, 24, 4, 4), (4, 27, 4, 5), (4, 31, 4, 6), (4, 34, 4, 7), (4, 37, 4, 8), (4, 40, 4, 9), (4, 43, 4, 10), (4, 46, 4, 11), (4, 49, 4, 12), (4, 52, 4, 13), (4, 55, 4, 14), (5, 18, 5, 0), (5, 12, 5, 1), (3, 40, 3, 0), (3, 9, 3, 1), (3, 15, 3, 2), (3, 18, 3, 3), (3, 22, 3, 4), (3, 25, 3, 5), (3, 28, 3, 6), (3, 31, 3, 7), (3, 34, 3, 8), (3, 37, 3, 9), (2, 9, 2, 0), (2, 15, 2, 1), (2, 18, 2, 2), (6, 11, 6, 0), (0, 11, 0, 0), (0, 17, 0, 1)]
set_option maxRecDepth 100000 in
theorem FT_i0 : ∀ e ∈ FT_0, fw e ∈ lw_tbl := by
  have h : FT_0.map fw = [32, 33, 35, 37, 39, 42, 45, 75, 81, 85, 87, 90, 94, 96, 102, 105, 108, 110, 113, 116, 118, 121, 154, 155, 168, 169, 170, 171, 172, 173, 174, 175, 176, 177, 205, 206, 207, 222, 233, 234].filterMap (fun i => tables_1_1[i]?) := by decide +kernel
  intro e he
  have hw : fw e ∈ FT_0.map fw := List.mem_map.mpr ⟨e, he, rfl⟩
  rw [h] at hw
  obtain ⟨i, -, hi⟩ := List.mem_filterMap.mp hw
  exact tb_1 (List.mem_of_getElem? hi)
def FT_1 : List (Nat × Nat × Nat × Nat) := [(0, 21, 0, 2)]
set_option maxRecDepth 100000 in
theorem FT_i1 : ∀ e ∈ FT_1, fw e ∈ lw_tbl := by
  have h : FT_1.map fw = [235].filterMap (fun i => tables_1_1[i]?) := by decide +kernel
  intro e he
  have hw : fw e ∈ FT_1.map fw := List.mem_map.mpr ⟨e, he, rfl⟩
  rw [h] at hw
  obtain ⟨i, -, hi⟩ := List.mem_filterMap.mp hw
  exact tb_1 (List.mem_of_getElem? hi)
def FT_2 : List (Nat × Nat × Nat × Nat) := [(1, 13, 1, 0), (1, 17, 1, 1), (8, 10, 8, 0), (8, 21, 8, 1), (8, 28, 8, 2), (8, 35, 8, 3), (8, 42, 8, 4), (8, 46, 8, 5), (8, 52, 8, 6), (8, 59, 8, 7), (8, 63, 8, 8), (8, 70, 8, 9)]
set_option maxRecDepth 100000 in
theorem FT_i2 : ∀ e ∈ FT_2, fw e ∈ lw_tbl := by
  have h : FT_2.map fw = [10, 12, 21, 22, 23, 24, 25, 26, 27, 28, 29, 30].filterMap (fun i => tables_1_2[i]?) := by decide +kernel
  intro e he
  have hw : fw e ∈ FT_2.map fw := List.mem_map.mpr ⟨e, he, rfl⟩
  rw [h] at hw
  obtain ⟨i, -, hi⟩ := List.mem_filterMap.mp hw
  exact tb_2 (List.mem_of_getElem? hi)
def FT_3 : List (Nat × Nat × Nat × Nat) := [(9, 7, 9, 0), (9, 187, 9, 1), (9, 196, 9, 2), (9, 199, 9, 3), (9, 210, 9, 4), (9, 190, 9, 5), (9, 193, 9, 6), (9, 306, 9, 7), (9, 13, 9, 8), (9, 17, 9, 9), (9, 230, 9, 10), (9, 20, 9, 11), (9, 24, 9, 12), (9, 27, 9, 13), (9, 30, 9, 14), (9, 33, 9, 15), (9, 36, 9, 16), (9, 39, 9, 17), (9, 42, 9, 18), (9, 45, 9, 19), (9, 48, 9, 20), (9, 51, 9, 21), (9, 54, 9, 22), (9, 57, 9, 23), (9, 60, 9, 24), (9, 63, 9, 25), (9, 66, 9, 26), (9, 241, 9, 27), (9, 69, 9, 28), (9, 72, 9, 29), (9, 76, 9, 30), (9, 79, 9, 31), (9, 82, 9, 32), (9, 85, 9, 33), (9, 88, 9, 34), (9, 91, 9, 35), (9, 278, 9, 36), (9, 94, 9, 37), (9, 97, 9, 38), (9, 100, 9, 39)]
set_option maxRecDepth 100000 in
theorem FT_i3 : ∀ e ∈ FT_3, fw e ∈ lw_tbl := by
  have h : FT_3.map fw = [66, 67, 68, 69, 70, 71, 72, 73, 74, 75, 76, 77, 78, 79, 80, 81, 82, 83, 84, 85, 86, 87, 88, 89, 90, 91, 92, 93, 94, 95, 96, 97, 98, 99, 100, 101, 102, 103, 104, 105].filterMap (fun i => tables_1_5[i]?) := by decide +kernel
  intro e he
  have hw : fw e ∈ FT_3.map fw := List.mem_map.mpr ⟨e, he, rfl⟩
  rw [h] at hw
  obtain ⟨i, -, hi⟩ := List.mem_filterMap.mp hw
  exact tb_5 (List.mem_of_getElem? hi)
def FT_4 : List (Nat × Nat × Nat × Nat) := [(9, 316, 9, 40), (9, 408, 9, 41), (9, 103, 9, 42), (9, 106, 9, 43), (9, 109, 9, 44), (9, 112, 9, 45), (9, 443, 9, 46), (9, 458, 9, 47), (9, 449, 9, 48), (9, 446, 9, 49), (9, 115, 9, 50), (9, 118, 9, 51), (9, 121, 9, 52), (9, 124, 9, 53), (9, 127, 9, 54), (9, 130, 9, 55), (9, 133, 9, 56), (9, 136, 9, 57), (9, 139, 9, 58), (9, 142, 9, 59), (9, 145, 9, 60), (9, 148, 9, 61), (9, 151, 9, 62), (9, 154, 9, 63), (9, 157, 9, 64), (9, 160, 9, 65), (9, 163, 9, 66), (9, 166, 9, 67), (9, 169, 9, 68), (9, 172, 9, 69), (9, 175, 9, 70), (9, 476, 9, 71), (9, 178, 9, 72), (9, 482, 9, 73), (9, 479, 9, 74), (9, 488, 9, 75), (9, 181, 9, 76), (9, 546, 9, 77), (9, 575, 9, 78), (9, 581, 9, 79)]
set_option maxRecDepth 100000 in
theorem FT_i4 : ∀ e ∈ FT_4, fw e ∈ lw_tbl := by
  have h : FT_4.map fw = [106, 107, 108, 109, 110, 111, 112, 113, 114, 115, 116, 117, 118, 119, 120, 121, 122, 123, 124, 125, 126, 127, 128, 129, 130, 131, 132, 133, 134, 135, 136, 137, 138, 139, 140, 141, 142, 143, 144, 145].filterMap (fun i => tables_1_5[i]?) := by decide +kernel
  intro e he
  have hw : fw e ∈ FT_4.map fw := List.mem_map.mpr ⟨e, he, rfl⟩
  rw [h] at hw
  obtain ⟨i, -, hi⟩ := List.mem_filterMap.mp hw
  exact tb_5 (List.mem_of_getElem? hi)
def FT_5 : List (Nat × Nat × Nat × Nat) := [(9, 184, 9, 80), (9, 601, 9, 81)]
set_option maxRecDepth 100000 in
theorem FT_i5 : ∀ e ∈ FT_5, fw e ∈ lw_tbl := by
  have h : FT_5.map fw = [146, 147].filterMap (fun i => tables_1_5[i]?) := by decide +kernel
  intro e he
  have hw : fw e ∈ FT_5.map fw := List.mem_map.mpr ⟨e, he, rfl⟩
  rw [h] at hw
  obtain ⟨i, -, hi⟩ := List.mem_filterMap.mp hw
  exact tb_5 (List.mem_of_getElem? hi)
def FT : List (Nat × Nat × Nat × Nat) := FT_0 ++ (FT_1 ++ (FT_2 ++ (FT_3 ++ (FT_4 ++ (FT_5)))))
theorem FT_in : ∀ e ∈ FT, fw e ∈ lw_tbl := by
  intro e h
  rcases List.mem_append.mp h with h | h
  · exact FT_i0 e h
  rcases List.mem_append.mp h with h | h
  · exact FT_i1 e h
  rcases List.mem_append.mp h with h | h
  · exact FT_i2 e h
  rcases List.mem_append.mp h with h | h
  · exact FT_i3 e h
  rcases List.mem_append.mp h with h | h
  · exact FT_i4 e h
  exact FT_i5 e h
def FN_0 : List (Nat × Nat × Nat × Nat) := [(8, 74, 7, 1), (8, 94, 7, 2), (8, 97, 7, 3), (5, 30, 7, 4), (3, 68, 7, 4), (5, 34, 7, 5), (3, 75, 7, 5), (5, 153, 7, 6), (1, 29, 4, 0), (6, 21, 4, 0), (5, 83, 4, 0), (8, 100, 4, 0), (3, 184, 4, 0), (5, 89, 4, 1), (8, 103, 4, 1), (3, 206, 4, 1), (5, 86, 4, 2), (6, 36, 4, 3), (5, 92, 4, 3), (8, 112, 4, 4), (5, 140, 4, 4), (3, 148, 4, 4), (5, 165, 4, 5), (1, 38, 4, 6), (6, 27, 4, 6), (5, 120, 4, 6), (8, 142, 4, 6), (3, 212, 4, 6), (5, 116, 4, 7), (8, 145, 4, 7), (6, 30, 4, 8), (5, 126, 4, 8), (5, 146, 4, 9), (8, 193, 4, 10), (3, 209, 4, 10), (8, 196, 4, 11), (3, 215, 4, 11), (8, 199, 4, 12), (5, 143, 4, 13), (8, 260, 4, 13)]
set_option maxRecDepth 100000 in
theorem FN_i0 : ∀ e ∈ FN_0, fwN e ∈ lw_tbl := by
  have h : FN_0.map fwN = [34, 36, 38, 40, 41, 43, 44, 46, 76, 77, 78, 79, 80, 82, 83, 84, 86, 88, 89, 91, 92, 93, 95, 97, 98, 99, 100, 101, 103, 104, 106, 107, 109, 111, 112, 114, 115, 117, 119, 120].filterMap (fun i => tables_1_1[i]?) := by decide +kernel
  intro e he
  have hw : fwN e ∈ FN_0.map fwN := List.mem_map.mpr ⟨e, he, rfl⟩
  rw [h] at hw
  obtain ⟨i, -, hi⟩ := List.mem_filterMap.mp hw
  exact tb_1 (List.mem_of_getElem? hi)
def FN_1 : List (Nat × Nat × Nat × Nat) := [(6, 33, 4, 14), (8, 86, 5, 1), (8, 271, 2, 2), (0, 24, 6, 0), (8, 128, 0, 2)]
set_option maxRecDepth 100000 in
theorem FN_i1 : ∀ e ∈ FN_1, fwN e ∈ lw_tbl := by
  have h : FN_1.map fwN = [122, 156, 208, 223, 236].filterMap (fun i => tables_1_1[i]?) := by decide +kernel
  intro e he
  have hw : fwN e ∈ FN_1.map fwN := List.mem_map.mpr ⟨e, he, rfl⟩
  rw [h] at hw
  obtain ⟨i, -, hi⟩ := List.mem_filterMap.mp hw
  exact tb_1 (List.mem_of_getElem? hi)
def FN_2 : List (Nat × Nat × Nat × Nat) := [(8, 311, 1, 0), (8, 308, 1, 1)]
set_option maxRecDepth 100000 in
theorem FN_i2 : ∀ e ∈ FN_2, fwN e ∈ lw_tbl := by
  have h : FN_2.map fwN = [11, 13].filterMap (fun i => tables_1_2[i]?) := by decide +kernel
  intro e he
  have hw : fwN e ∈ FN_2.map fwN := List.mem_map.mpr ⟨e, he, rfl⟩
  rw [h] at hw
  obtain ⟨i, -, hi⟩ := List.mem_filterMap.mp hw
  exact tb_2 (List.mem_of_getElem? hi)
def FN : List (Nat × Nat × Nat × Nat) := FN_0 ++ (FN_1 ++ (FN_2))
theorem FN_in : ∀ e ∈ FN, fwN e ∈ lw_tbl := by
  intro e h
  rcases List.mem_append.mp h with h | h
  · exact FN_i0 e h
  rcases List.mem_append.mp h with h | h
  · exact FN_i1 e h
  exact FN_i2 e h
def CT_0 : List (Nat × Nat × Nat) := [(7, 34, 7), (7, 37, 8), (7, 41, 9), (7, 44, 10), (5, 41, 12), (5, 55, 14), (5, 59, 15), (5, 98, 16), (5, 156, 17), (7, 47, 11), (5, 159, 19), (5, 171, 20), (5, 162, 23), (5, 101, 24), (5, 104, 25), (5, 62, 28), (5, 112, 29), (5, 65, 30), (5, 123, 31), (5, 68, 33), (5, 71, 35)]
set_option maxRecDepth 100000 in
theorem CT_i0 : ∀ e ∈ CT_0, cwL e ∈ lw_tbl := by
  have h : CT_0.map cwL = [80, 84, 87, 90, 97, 154, 158, 163, 167, 175, 176, 180, 192, 196, 200, 212, 216, 220, 224, 231, 239].filterMap (fun i => tables_1_2[i]?) := by decide +kernel
  intro e he
  have hw : cwL e ∈ CT_0.map cwL := List.mem_map.mpr ⟨e, he, rfl⟩
  rw [h] at hw
  obtain ⟨i, -, hi⟩ := List.mem_filterMap.mp hw
  exact tb_2 (List.mem_of_getElem? hi)
def CT_1 : List (Nat × Nat × Nat) := [(5, 74, 37), (5, 77, 38), (7, 51, 40), (7, 55, 18), (6, 39, 42), (6, 70, 43), (6, 82, 44), (6, 54, 45), (6, 73, 50), (6, 43, 51), (6, 61, 54), (8, 178, 32), (6, 65, 58), (8, 131, 61), (8, 139, 62), (8, 152, 58), (8, 171, 68), (8, 187, 73), (0, 33, 77), (6, 85, 79), (8, 228, 87), (8, 233, 88), (8, 237, 56), (8, 314, 77), (8, 240, 90)]
set_option maxRecDepth 100000 in
theorem CT_i1 : ∀ e ∈ CT_1, cwL e ∈ lw_tbl := by
  have h : CT_1.map cwL = [8, 12, 20, 24, 29, 33, 38, 42, 64, 68, 80, 91, 96, 110, 115, 124, 144, 164, 184, 213, 226, 229, 232, 233, 238].filterMap (fun i => tables_1_3[i]?) := by decide +kernel
  intro e he
  have hw : cwL e ∈ CT_1.map cwL := List.mem_map.mpr ⟨e, he, rfl⟩
  rw [h] at hw
  obtain ⟨i, -, hi⟩ := List.mem_filterMap.mp hw
  exact tb_3 (List.mem_of_getElem? hi)
def CT_2 : List (Nat × Nat × Nat) := [(8, 244, 92), (2, 44, 87), (8, 247, 97), (8, 250, 99), (8, 253, 102), (8, 257, 103), (2, 49, 109), (2, 57, 77), (2, 53, 110), (8, 277, 114), (6, 77, 77), (8, 292, 123), (3, 62, 126), (3, 86, 127), (3, 94, 128), (3, 71, 129), (3, 103, 130), (3, 91, 131), (3, 109, 132), (3, 112, 133), (3, 65, 134), (3, 115, 135), (3, 118, 136), (3, 121, 137), (3, 126, 138), (3, 140, 140), (3, 144, 141), (3, 172, 142)]
set_option maxRecDepth 100000 in
theorem CT_i2 : ∀ e ∈ CT_2, cwL e ∈ lw_tbl := by
  have h : CT_2.map cwL = [5, 28, 30, 37, 50, 54, 79, 83, 84, 101, 129, 139, 156, 160, 164, 169, 174, 179, 184, 189, 193, 197, 201, 205, 211, 224, 232, 236].filterMap (fun i => tables_1_4[i]?) := by decide +kernel
  intro e he
  have hw : cwL e ∈ CT_2.map cwL := List.mem_map.mpr ⟨e, he, rfl⟩
  rw [h] at hw
  obtain ⟨i, -, hi⟩ := List.mem_filterMap.mp hw
  exact tb_4 (List.mem_of_getElem? hi)
def CT_3 : List (Nat × Nat × Nat) := [(3, 176, 143), (3, 190, 144), (3, 237, 145), (3, 240, 146), (3, 197, 58), (3, 202, 147), (3, 180, 148), (3, 222, 77), (3, 227, 87), (3, 230, 149), (1, 25, 152), (1, 51, 153)]
set_option maxRecDepth 100000 in
theorem CT_i3 : ∀ e ∈ CT_3, cwL e ∈ lw_tbl := by
  have h : CT_3.map cwL = [0, 4, 9, 12, 16, 17, 21, 24, 25, 26, 40, 48].filterMap (fun i => tables_1_5[i]?) := by decide +kernel
  intro e he
  have hw : cwL e ∈ CT_3.map cwL := List.mem_map.mpr ⟨e, he, rfl⟩
  rw [h] at hw
  obtain ⟨i, -, hi⟩ := List.mem_filterMap.mp hw
  exact tb_5 (List.mem_of_getElem? hi)
def CT_4 : List (Nat × Nat × Nat) := [(9, 202, 159), (9, 303, 160), (9, 220, 161), (9, 217, 162), (9, 213, 163), (9, 206, 164), (9, 281, 165), (9, 256, 166), (9, 260, 167), (9, 248, 168), (9, 237, 169), (9, 252, 170), (9, 263, 171), (9, 267, 172), (9, 227, 173), (9, 233, 174), (9, 285, 175), (9, 271, 176), (9, 288, 177), (9, 274, 178), (9, 291, 179), (9, 294, 180), (9, 297, 181), (9, 300, 182), (9, 224, 183), (9, 309, 184), (9, 312, 185), (9, 335, 186), (9, 350, 187), (9, 344, 188), (9, 328, 189), (9, 341, 190), (9, 347, 191), (9, 338, 192), (9, 332, 193), (9, 353, 194), (9, 319, 197)]
set_option maxRecDepth 100000 in
theorem CT_i4 : ∀ e ∈ CT_4, cwL e ∈ lw_tbl := by
  have h : CT_4.map cwL = [87, 91, 95, 99, 103, 107, 110, 114, 118, 122, 126, 132, 136, 140, 144, 147, 150, 154, 158, 162, 166, 170, 174, 178, 182, 186, 190, 194, 198, 202, 206, 210, 214, 218, 222, 226, 238].filterMap (fun i => tables_1_6[i]?) := by decide +kernel
  intro e he
  have hw : cwL e ∈ CT_4.map cwL := List.mem_map.mpr ⟨e, he, rfl⟩
  rw [h] at hw
  obtain ⟨i, -, hi⟩ := List.mem_filterMap.mp hw
  exact tb_6 (List.mem_of_getElem? hi)
def CT_5 : List (Nat × Nat × Nat) := [(9, 322, 198), (9, 377, 199), (9, 371, 200), (9, 367, 201), (9, 364, 202), (9, 360, 203), (9, 374, 204), (9, 325, 207), (9, 382, 208), (9, 385, 209), (9, 389, 212), (9, 392, 213), (9, 395, 214), (9, 398, 216), (9, 403, 218), (9, 413, 221), (9, 357, 223), (9, 418, 226), (9, 426, 230), (9, 429, 231), (9, 423, 232), (9, 432, 234), (9, 438, 236), (9, 435, 237), (9, 461, 241), (9, 452, 242), (9, 455, 243), (9, 464, 246), (9, 467, 248), (9, 470, 250), (9, 473, 251), (9, 585, 254), (9, 588, 255), (9, 503, 256)]
set_option maxRecDepth 100000 in
theorem CT_i5 : ∀ e ∈ CT_5, cwL e ∈ lw_tbl := by
  have h : CT_5.map cwL = [2, 6, 10, 14, 18, 22, 26, 38, 42, 46, 59, 63, 67, 75, 84, 98, 106, 119, 136, 140, 143, 150, 158, 162, 179, 183, 187, 199, 207, 215, 219, 231, 235, 239].filterMap (fun i => tables_1_7[i]?) := by decide +kernel
  intro e he
  have hw : cwL e ∈ CT_5.map cwL := List.mem_map.mpr ⟨e, he, rfl⟩
  rw [h] at hw
  obtain ⟨i, -, hi⟩ := List.mem_filterMap.mp hw
  exact tb_7 (List.mem_of_getElem? hi)
def CT_6 : List (Nat × Nat × Nat) := [(9, 530, 257), (9, 485, 258), (9, 527, 259), (9, 521, 260), (9, 500, 261), (9, 497, 262), (9, 506, 263), (9, 509, 264), (9, 494, 265), (9, 524, 266), (9, 512, 267), (9, 491, 268), (9, 515, 269), (9, 518, 270), (9, 533, 271), (9, 536, 272), (9, 539, 273), (9, 593, 274), (9, 553, 275), (9, 564, 276), (9, 561, 227), (9, 549, 277), (9, 568, 278), (9, 572, 279), (9, 557, 280), (9, 597, 281), (9, 604, 283)]
set_option maxRecDepth 100000 in
theorem CT_i6 : ∀ e ∈ CT_6, cwL e ∈ lw_tbl := by
  have h : CT_6.map cwL = [3, 7, 11, 15, 19, 23, 27, 31, 35, 39, 43, 47, 50, 54, 58, 62, 66, 72, 76, 80, 84, 85, 90, 94, 98, 101, 109].filterMap (fun i => tables_1_8[i]?) := by decide +kernel
  intro e he
  have hw : cwL e ∈ CT_6.map cwL := List.mem_map.mpr ⟨e, he, rfl⟩
  rw [h] at hw
  obtain ⟨i, -, hi⟩ := List.mem_filterMap.mp hw
  exact tb_8 (List.mem_of_getElem? hi)
def CT : List (Nat × Nat × Nat) := CT_0 ++ (CT_1 ++ (CT_2 ++ (CT_3 ++ (CT_4 ++ (CT_5 ++ (CT_6))))))
theorem CT_in : ∀ e ∈ CT, cwL e ∈ lw_tbl := by
  intro e h
  rcases List.mem_append.mp h with h | h
  · exact CT_i0 e h
  rcases List.mem_append.mp h with h | h
  · exact CT_i1 e h
  rcases List.mem_append.mp h with h | h
  · exact CT_i2 e h
  rcases List.mem_append.mp h with h | h
  · exact CT_i3 e h
  rcases List.mem_append.mp h with h | h
  · exact CT_i4 e h
  rcases List.mem_append.mp h with h | h
  · exact CT_i5 e h
  exact CT_i6 e h
def CNT_0 : List (Nat × Nat × Nat) := [(8, 78, 1), (8, 82, 4), (5, 22, 5), (5, 25, 6), (5, 37, 11), (5, 51, 13), (5, 95, 7), (5, 80, 18), (5, 174, 21), (5, 168, 22), (5, 149, 26), (5, 108, 27), (5, 129, 32), (5, 132, 34)]
set_option maxRecDepth 100000 in
theorem CNT_i0 : ∀ e ∈ CNT_0, cwN e ∈ lw_tbl := by
  have h : CNT_0.map cwN = [56, 68, 72, 76, 93, 102, 162, 171, 184, 188, 204, 208, 228, 235].filterMap (fun i => tables_1_2[i]?) := by decide +kernel
  intro e he
  have hw : cwN e ∈ CNT_0.map cwN := List.mem_map.mpr ⟨e, he, rfl⟩
  rw [h] at hw
  obtain ⟨i, -, hi⟩ := List.mem_filterMap.mp hw
  exact tb_2 (List.mem_of_getElem? hi)
def CNT_1 : List (Nat × Nat × Nat) := [(5, 136, 36), (4, 58, 32), (5, 45, 39), (8, 87, 41), (6, 47, 32), (8, 91, 46), (8, 106, 43), (8, 109, 49), (8, 115, 52), (8, 118, 53), (6, 51, 55), (6, 57, 56), (8, 122, 57), (8, 125, 59), (8, 135, 21), (8, 148, 45), (8, 157, 54), (8, 161, 64), (8, 164, 55), (8, 167, 66), (8, 175, 69), (8, 181, 70), (8, 184, 71), (8, 190, 51), (8, 202, 76), (8, 206, 42), (8, 210, 50), (8, 213, 79), (8, 217, 81), (8, 221, 83), (8, 224, 85)]
set_option maxRecDepth 100000 in
theorem CNT_i1 : ∀ e ∈ CNT_1, cwN e ∈ lw_tbl := by
  have h : CNT_1.map cwN = [3, 7, 16, 25, 37, 46, 59, 60, 72, 76, 84, 88, 92, 102, 114, 123, 125, 126, 130, 135, 148, 152, 156, 168, 177, 187, 192, 193, 201, 209, 218].filterMap (fun i => tables_1_3[i]?) := by decide +kernel
  intro e he
  have hw : cwN e ∈ CNT_1.map cwN := List.mem_map.mpr ⟨e, he, rfl⟩
  rw [h] at hw
  obtain ⟨i, -, hi⟩ := List.mem_filterMap.mp hw
  exact tb_3 (List.mem_of_getElem? hi)
def CNT_2 : List (Nat × Nat × Nat) := [(8, 317, 93), (8, 320, 94), (2, 31, 93), (2, 34, 95), (2, 27, 32), (8, 283, 96), (8, 324, 100), (2, 21, 45), (8, 263, 107), (2, 40, 71), (8, 267, 108), (8, 274, 112), (8, 327, 115), (8, 280, 117), (2, 37, 118), (8, 286, 120), (8, 289, 122), (8, 295, 125), (3, 44, 6), (3, 51, 13), (3, 55, 18), (3, 59, 7), (3, 78, 11), (3, 106, 40), (3, 82, 39), (3, 129, 26), (8, 300, 139), (3, 135, 52), (3, 159, 53), (3, 163, 49), (3, 166, 57), (3, 169, 59)]
set_option maxRecDepth 100000 in
theorem CNT_i2 : ∀ e ∈ CNT_2, cwN e ∈ lw_tbl := by
  have h : CNT_2.map cwN = [9, 13, 17, 18, 22, 24, 41, 45, 70, 74, 75, 93, 105, 113, 117, 125, 134, 147, 151, 153, 154, 155, 178, 183, 188, 209, 218, 223, 228, 229, 230, 231].filterMap (fun i => tables_1_4[i]?) := by decide +kernel
  intro e he
  have hw : cwN e ∈ CNT_2.map cwN := List.mem_map.mpr ⟨e, he, rfl⟩
  rw [h] at hw
  obtain ⟨i, -, hi⟩ := List.mem_filterMap.mp hw
  exact tb_4 (List.mem_of_getElem? hi)
def CNT_3 : List (Nat × Nat × Nat) := [(3, 187, 66), (3, 194, 45), (3, 218, 56), (3, 153, 83), (8, 304, 151), (1, 21, 52), (1, 34, 66), (1, 41, 69), (1, 45, 43), (1, 48, 51)]
set_option maxRecDepth 100000 in
theorem CNT_i3 : ∀ e ∈ CNT_3, cwN e ∈ lw_tbl := by
  have h : CNT_3.map cwN = [3, 15, 20, 29, 35, 39, 44, 45, 46, 47].filterMap (fun i => tables_1_5[i]?) := by decide +kernel
  intro e he
  have hw : cwN e ∈ CNT_3.map cwN := List.mem_map.mpr ⟨e, he, rfl⟩
  rw [h] at hw
  obtain ⟨i, -, hi⟩ := List.mem_filterMap.mp hw
  exact tb_5 (List.mem_of_getElem? hi)
def CNT : List (Nat × Nat × Nat) := CNT_0 ++ (CNT_1 ++ (CNT_2 ++ (CNT_3)))
theorem CNT_in : ∀ e ∈ CNT, cwN e ∈ lw_tbl := by
  intro e h
  rcases List.mem_append.mp h with h | h
  · exact CNT_i0 e h
  rcases List.mem_append.mp h with h | h
  · exact CNT_i1 e h
  rcases List.mem_append.mp h with h | h
  · exact CNT_i2 e h
  exact CNT_i3 e h
def SM_0 : List (Nat) := [8, 9, 10, 32]
set_option maxRecDepth 100000 in
theorem SM_i0 : ∀ e ∈ SM_0, swS e ∈ lw_tbl := by
  have h : SM_0.map swS = [85, 88, 91, 229].filterMap (fun i => tables_1_2[i]?) := by decide +kernel
  intro e he
  have hw : swS e ∈ SM_0.map swS := List.mem_map.mpr ⟨e, he, rfl⟩
  rw [h] at hw
  obtain ⟨i, -, hi⟩ := List.mem_filterMap.mp hw
  exact tb_2 (List.mem_of_getElem? hi)
def SM_1 : List (Nat) := [56, 58, 77, 87, 88, 90]
set_option maxRecDepth 100000 in
theorem SM_i1 : ∀ e ∈ SM_1, swS e ∈ lw_tbl := by
  have h : SM_1.map swS = [89, 97, 185, 227, 230, 239].filterMap (fun i => tables_1_3[i]?) := by decide +kernel
  intro e he
  have hw : swS e ∈ SM_1.map swS := List.mem_map.mpr ⟨e, he, rfl⟩
  rw [h] at hw
  obtain ⟨i, -, hi⟩ := List.mem_filterMap.mp hw
  exact tb_3 (List.mem_of_getElem? hi)
def SM_2 : List (Nat) := [97]
set_option maxRecDepth 100000 in
theorem SM_i2 : ∀ e ∈ SM_2, swS e ∈ lw_tbl := by
  have h : SM_2.map swS = [31].filterMap (fun i => tables_1_4[i]?) := by decide +kernel
  intro e he
  have hw : swS e ∈ SM_2.map swS := List.mem_map.mpr ⟨e, he, rfl⟩
  rw [h] at hw
  obtain ⟨i, -, hi⟩ := List.mem_filterMap.mp hw
  exact tb_4 (List.mem_of_getElem? hi)
def SM_3 : List (Nat) := [143, 144, 145, 146, 147, 148, 149]
set_option maxRecDepth 100000 in
theorem SM_i3 : ∀ e ∈ SM_3, swS e ∈ lw_tbl := by
  have h : SM_3.map swS = [1, 5, 10, 13, 18, 22, 27].filterMap (fun i => tables_1_5[i]?) := by decide +kernel
  intro e he
  have hw : swS e ∈ SM_3.map swS := List.mem_map.mpr ⟨e, he, rfl⟩
  rw [h] at hw
  obtain ⟨i, -, hi⟩ := List.mem_filterMap.mp hw
  exact tb_5 (List.mem_of_getElem? hi)
def SM_4 : List (Nat) := [164, 173, 174]
set_option maxRecDepth 100000 in
theorem SM_i4 : ∀ e ∈ SM_4, swS e ∈ lw_tbl := by
  have h : SM_4.map swS = [108, 145, 148].filterMap (fun i => tables_1_6[i]?) := by decide +kernel
  intro e he
  have hw : swS e ∈ SM_4.map swS := List.mem_map.mpr ⟨e, he, rfl⟩
  rw [h] at hw
  obtain ⟨i, -, hi⟩ := List.mem_filterMap.mp hw
  exact tb_6 (List.mem_of_getElem? hi)
def SM_5 : List (Nat) := [204, 231, 232]
set_option maxRecDepth 100000 in
theorem SM_i5 : ∀ e ∈ SM_5, swS e ∈ lw_tbl := by
  have h : SM_5.map swS = [27, 141, 144].filterMap (fun i => tables_1_7[i]?) := by decide +kernel
  intro e he
  have hw : swS e ∈ SM_5.map swS := List.mem_map.mpr ⟨e, he, rfl⟩
  rw [h] at hw
  obtain ⟨i, -, hi⟩ := List.mem_filterMap.mp hw
  exact tb_7 (List.mem_of_getElem? hi)
def SM_6 : List (Nat) := [268, 277, 280]
set_option maxRecDepth 100000 in
theorem SM_i6 : ∀ e ∈ SM_6, swS e ∈ lw_tbl := by
  have h : SM_6.map swS = [48, 86, 99].filterMap (fun i => tables_1_8[i]?) := by decide +kernel
  intro e he
  have hw : swS e ∈ SM_6.map swS := List.mem_map.mpr ⟨e, he, rfl⟩
  rw [h] at hw
  obtain ⟨i, -, hi⟩ := List.mem_filterMap.mp hw
  exact tb_8 (List.mem_of_getElem? hi)
def SM : List (Nat) := SM_0 ++ (SM_1 ++ (SM_2 ++ (SM_3 ++ (SM_4 ++ (SM_5 ++ (SM_6))))))
theorem SM_in : ∀ e ∈ SM, swS e ∈ lw_tbl := by
  intro e h
  rcases List.mem_append.mp h with h | h
  · exact SM_i0 e h
  rcases List.mem_append.mp h with h | h
  · exact SM_i1 e h
  rcases List.mem_append.mp h with h | h
  · exact SM_i2 e h
  rcases List.mem_append.mp h with h | h
  · exact SM_i3 e h
  rcases List.mem_append.mp h with h | h
  · exact SM_i4 e h
  rcases List.mem_append.mp h with h | h
  · exact SM_i5 e h
  exact SM_i6 e h
def VM_0 : List (Nat) := [0, 1, 2, 3, 4, 5, 6, 7, 11, 12, 13, 14, 15, 16, 17, 18, 19, 20, 21, 22, 23, 24, 25, 26, 27, 28, 29, 30, 31, 33, 34]
set_option maxRecDepth 100000 in
theorem VM_i0 : ∀ e ∈ VM_0, swV e ∈ lw_tbl := by
  have h : VM_0.map swV = [53, 58, 61, 65, 70, 74, 78, 82, 95, 99, 104, 156, 160, 165, 169, 173, 178, 182, 186, 190, 194, 198, 202, 206, 210, 214, 218, 222, 226, 233, 237].filterMap (fun i => tables_1_2[i]?) := by decide +kernel
  intro e he
  have hw : swV e ∈ VM_0.map swV := List.mem_map.mpr ⟨e, he, rfl⟩
  rw [h] at hw
  obtain ⟨i, -, hi⟩ := List.mem_filterMap.mp hw
  exact tb_2 (List.mem_of_getElem? hi)
def VM_1 : List (Nat) := [35, 36, 37, 38, 39, 40, 41, 42, 43, 44, 45, 46, 47, 48, 49, 50, 51, 52, 53, 54, 55, 57, 59, 60, 61, 62, 63, 64, 65, 66, 67, 68, 69, 70, 71, 72, 73, 74, 75, 76]
set_option maxRecDepth 100000 in
theorem VM_i1 : ∀ e ∈ VM_1, swV e ∈ lw_tbl := by
  have h : VM_1.map swV = [1, 5, 10, 14, 18, 22, 27, 31, 35, 40, 44, 48, 52, 56, 62, 66, 70, 74, 78, 82, 86, 94, 104, 107, 112, 117, 120, 128, 132, 137, 141, 146, 150, 154, 158, 161, 166, 170, 174, 179].filterMap (fun i => tables_1_3[i]?) := by decide +kernel
  intro e he
  have hw : swV e ∈ VM_1.map swV := List.mem_map.mpr ⟨e, he, rfl⟩
  rw [h] at hw
  obtain ⟨i, -, hi⟩ := List.mem_filterMap.mp hw
  exact tb_3 (List.mem_of_getElem? hi)
def VM_2 : List (Nat) := [78, 79, 80, 81, 82, 83, 84, 85, 86, 89]
set_option maxRecDepth 100000 in
theorem VM_i2 : ∀ e ∈ VM_2, swV e ∈ lw_tbl := by
  have h : VM_2.map swV = [189, 195, 198, 203, 206, 211, 215, 220, 223, 235].filterMap (fun i => tables_1_3[i]?) := by decide +kernel
  intro e he
  have hw : swV e ∈ VM_2.map swV := List.mem_map.mpr ⟨e, he, rfl⟩
  rw [h] at hw
  obtain ⟨i, -, hi⟩ := List.mem_filterMap.mp hw
  exact tb_3 (List.mem_of_getElem? hi)
def VM_3 : List (Nat) := [91, 92, 93, 94, 95, 96, 98, 99, 100, 101, 102, 103, 104, 105, 106, 107, 108, 109, 110, 111, 112, 113, 114, 115, 116, 117, 118, 119, 120, 121, 122, 123, 124, 125, 126, 127, 128, 129, 130, 131]
set_option maxRecDepth 100000 in
theorem VM_i3 : ∀ e ∈ VM_3, swV e ∈ lw_tbl := by
  have h : VM_3.map swV = [2, 7, 11, 15, 20, 26, 34, 39, 43, 47, 52, 56, 59, 63, 67, 72, 77, 81, 86, 90, 95, 98, 103, 107, 110, 115, 119, 122, 127, 131, 136, 141, 144, 149, 158, 162, 166, 171, 176, 181].filterMap (fun i => tables_1_4[i]?) := by decide +kernel
  intro e he
  have hw : swV e ∈ VM_3.map swV := List.mem_map.mpr ⟨e, he, rfl⟩
  rw [h] at hw
  obtain ⟨i, -, hi⟩ := List.mem_filterMap.mp hw
  exact tb_4 (List.mem_of_getElem? hi)
def VM_4 : List (Nat) := [132, 133, 134, 135, 136, 137, 138, 139, 140, 141, 142]
set_option maxRecDepth 100000 in
theorem VM_i4 : ∀ e ∈ VM_4, swV e ∈ lw_tbl := by
  have h : VM_4.map swV = [186, 191, 195, 199, 203, 207, 213, 220, 226, 234, 238].filterMap (fun i => tables_1_4[i]?) := by decide +kernel
  intro e he
  have hw : swV e ∈ VM_4.map swV := List.mem_map.mpr ⟨e, he, rfl⟩
  rw [h] at hw
  obtain ⟨i, -, hi⟩ := List.mem_filterMap.mp hw
  exact tb_4 (List.mem_of_getElem? hi)
def VM_5 : List (Nat) := [150, 151, 152, 153, 154, 155]
set_option maxRecDepth 100000 in
theorem VM_i5 : ∀ e ∈ VM_5, swV e ∈ lw_tbl := by
  have h : VM_5.map swV = [32, 37, 42, 50, 53, 57].filterMap (fun i => tables_1_5[i]?) := by decide +kernel
  intro e he
  have hw : swV e ∈ VM_5.map swV := List.mem_map.mpr ⟨e, he, rfl⟩
  rw [h] at hw
  obtain ⟨i, -, hi⟩ := List.mem_filterMap.mp hw
  exact tb_5 (List.mem_of_getElem? hi)
def VM_6 : List (Nat) := [156, 157, 158, 159, 160, 161, 162, 163, 165, 166, 167, 168, 169, 170, 171, 172, 175, 176, 177, 178, 179, 180, 181, 182, 183, 184, 185, 186, 187, 188, 189, 190, 191, 192, 193, 194, 195, 196]
set_option maxRecDepth 100000 in
theorem VM_i6 : ∀ e ∈ VM_6, swV e ∈ lw_tbl := by
  have h : VM_6.map swV = [76, 80, 84, 89, 93, 97, 101, 105, 112, 116, 120, 124, 128, 134, 138, 142, 152, 156, 160, 164, 168, 172, 176, 180, 184, 188, 192, 196, 200, 204, 208, 212, 216, 220, 224, 228, 231, 235].filterMap (fun i => tables_1_6[i]?) := by decide +kernel
  intro e he
  have hw : swV e ∈ VM_6.map swV := List.mem_map.mpr ⟨e, he, rfl⟩
  rw [h] at hw
  obtain ⟨i, -, hi⟩ := List.mem_filterMap.mp hw
  exact tb_6 (List.mem_of_getElem? hi)
def VM_7 : List (Nat) := [197, 198, 199, 200, 201, 202, 203, 205, 206, 207, 208, 209, 210, 211, 212, 213, 214, 215, 216, 217, 218, 219, 220, 221, 222, 223, 224, 225, 226, 227, 228, 229, 230, 233, 234, 235, 236, 237, 238, 239]
set_option maxRecDepth 100000 in
theorem VM_i7 : ∀ e ∈ VM_7, swV e ∈ lw_tbl := by
  have h : VM_7.map swV = [0, 4, 8, 12, 16, 20, 24, 30, 35, 40, 44, 48, 51, 56, 61, 65, 69, 72, 77, 81, 86, 90, 94, 100, 103, 108, 111, 115, 121, 124, 129, 133, 138, 147, 152, 155, 160, 164, 167, 172].filterMap (fun i => tables_1_7[i]?) := by decide +kernel
  intro e he
  have hw : swV e ∈ VM_7.map swV := List.mem_map.mpr ⟨e, he, rfl⟩
  rw [h] at hw
  obtain ⟨i, -, hi⟩ := List.mem_filterMap.mp hw
  exact tb_7 (List.mem_of_getElem? hi)
def VM_8 : List (Nat) := [240, 241, 242, 243, 244, 245, 246, 247, 248, 249, 250, 251, 252, 253, 254, 255]
set_option maxRecDepth 100000 in
theorem VM_i8 : ∀ e ∈ VM_8, swV e ∈ lw_tbl := by
  have h : VM_8.map swV = [176, 181, 185, 189, 192, 196, 201, 204, 209, 212, 217, 221, 224, 228, 233, 237].filterMap (fun i => tables_1_7[i]?) := by decide +kernel
  intro e he
  have hw : swV e ∈ VM_8.map swV := List.mem_map.mpr ⟨e, he, rfl⟩
  rw [h] at hw
  obtain ⟨i, -, hi⟩ := List.mem_filterMap.mp hw
  exact tb_7 (List.mem_of_getElem? hi)
def VM_9 : List (Nat) := [256, 257, 258, 259, 260, 261, 262, 263, 264, 265, 266, 267, 269, 270, 271, 272, 273, 274, 275, 276, 278, 279, 281, 282, 283, 284, 285]
set_option maxRecDepth 100000 in
theorem VM_i9 : ∀ e ∈ VM_9, swV e ∈ lw_tbl := by
  have h : VM_9.map swV = [1, 5, 9, 13, 17, 21, 25, 29, 33, 37, 41, 45, 52, 56, 60, 64, 68, 74, 78, 82, 92, 96, 103, 106, 111, 114, 118].filterMap (fun i => tables_1_8[i]?) := by decide +kernel
  intro e he
  have hw : swV e ∈ VM_9.map swV := List.mem_map.mpr ⟨e, he, rfl⟩
  rw [h] at hw
  obtain ⟨i, -, hi⟩ := List.mem_filterMap.mp hw
  exact tb_8 (List.mem_of_getElem? hi)
def VM : List (Nat) := VM_0 ++ (VM_1 ++ (VM_2 ++ (VM_3 ++ (VM_4 ++ (VM_5 ++ (VM_6 ++ (VM_7 ++ (VM_8 ++ (VM_9)))))))))
theorem VM_in : ∀ e ∈ VM, swV e ∈ lw_tbl := by
  intro e h
  rcases List.mem_append.mp h with h | h
  · exact VM_i0 e h
  rcases List.mem_append.mp h with h | h
  · exact VM_i1 e h
  rcases List.mem_append.mp h with h | h
  · exact VM_i2 e h
  rcases List.mem_append.mp h with h | h
  · exact VM_i3 e h
  rcases List.mem_append.mp h with h | h
  · exact VM_i4 e h
  rcases List.mem_append.mp h with h | h
  · exact VM_i5 e h
  rcases List.mem_append.mp h with h | h
  · exact VM_i6 e h
  rcases List.mem_append.mp h with h | h
  · exact VM_i7 e h
  rcases List.mem_append.mp h with h | h
  · exact VM_i8 e h
  exact VM_i9 e h
def EM_0 : List (Nat) := [1, 4, 5, 6, 7, 11, 12, 13, 14, 15, 16, 17, 18, 19, 20, 21, 22, 23, 24, 25, 26, 27, 28, 29, 30, 31, 33, 34, 35, 36, 37, 38, 39, 40, 41, 42, 43, 44, 45, 46]
set_option maxRecDepth 100000 in
theorem EM_i0 : ∀ e ∈ EM_0, swE e ∈ lw_tbl := by
  have h : EM_0.map swE = [0, 1, 2, 3, 4, 5, 6, 7, 8, 9, 10, 11, 12, 13, 14, 15, 16, 17, 18, 19, 20, 21, 22, 23, 24, 25, 26, 27, 28, 29, 30, 31, 32, 33, 34, 35, 36, 37, 38, 39].filterMap (fun i => (k2_sels lw_privs)[i]?) := by decide +kernel
  intro e he
  have hw : swE e ∈ EM_0.map swE := List.mem_map.mpr ⟨e, he, rfl⟩
  rw [h] at hw
  obtain ⟨i, -, hi⟩ := List.mem_filterMap.mp hw
  exact tb_0 (List.mem_of_getElem? hi)
def EM_1 : List (Nat) := [49, 50, 51, 52, 53, 54, 55, 57, 59, 61, 62, 64, 66, 68, 69, 70, 71, 73, 76, 79, 81, 83, 85, 92, 93, 94, 95, 96, 99, 100, 102, 103, 107, 108, 109, 110, 112, 114, 115, 117]
set_option maxRecDepth 100000 in
theorem EM_i1 : ∀ e ∈ EM_1, swE e ∈ lw_tbl := by
  have h : EM_1.map swE = [40, 41, 42, 43, 44, 45, 46, 47, 48, 49, 50, 51, 52, 53, 54, 55, 56, 57, 58, 59, 60, 61, 62, 63, 64, 65, 66, 67, 68, 69, 70, 71, 72, 73, 74, 75, 76, 77, 78, 79].filterMap (fun i => (k2_sels lw_privs)[i]?) := by decide +kernel
  intro e he
  have hw : swE e ∈ EM_1.map swE := List.mem_map.mpr ⟨e, he, rfl⟩
  rw [h] at hw
  obtain ⟨i, -, hi⟩ := List.mem_filterMap.mp hw
  exact tb_0 (List.mem_of_getElem? hi)
def EM_2 : List (Nat) := [118, 120, 122, 123, 125, 126, 127, 128, 129, 130, 131, 132, 133, 134, 135, 136, 137, 138, 139, 140, 141, 142, 151, 152, 153, 159, 160, 161, 162, 163, 165, 166, 167, 168, 169, 170, 171, 172, 175, 176]
set_option maxRecDepth 100000 in
theorem EM_i2 : ∀ e ∈ EM_2, swE e ∈ lw_tbl := by
  have h : EM_2.map swE = [80, 81, 82, 83, 84, 85, 86, 87, 88, 89, 90, 91, 92, 93, 94, 95, 96, 97, 98, 99, 100, 101, 102, 103, 104, 105, 106, 107, 108, 109, 110, 111, 112, 113, 114, 115, 116, 117, 118, 119].filterMap (fun i => (k2_sels lw_privs)[i]?) := by decide +kernel
  intro e he
  have hw : swE e ∈ EM_2.map swE := List.mem_map.mpr ⟨e, he, rfl⟩
  rw [h] at hw
  obtain ⟨i, -, hi⟩ := List.mem_filterMap.mp hw
  exact tb_0 (List.mem_of_getElem? hi)
def EM_3 : List (Nat) := [177, 178, 179, 180, 181, 182, 183, 184, 185, 186, 187, 188, 189, 190, 191, 192, 193, 194, 197, 198, 199, 200, 201, 202, 203, 207, 208, 209, 212, 213, 214, 216, 218, 221, 223, 226, 230, 234, 236, 237]
set_option maxRecDepth 100000 in
theorem EM_i3 : ∀ e ∈ EM_3, swE e ∈ lw_tbl := by
  have h : EM_3.map swE = [120, 121, 122, 123, 124, 125, 126, 127, 128, 129, 130, 131, 132, 133, 134, 135, 136, 137, 138, 139, 140, 141, 142, 143, 144, 145, 146, 147, 148, 149, 150, 151, 152, 153, 154, 155, 156, 157, 158, 159].filterMap (fun i => (k2_sels lw_privs)[i]?) := by decide +kernel
  intro e he
  have hw : swE e ∈ EM_3.map swE := List.mem_map.mpr ⟨e, he, rfl⟩
  rw [h] at hw
  obtain ⟨i, -, hi⟩ := List.mem_filterMap.mp hw
  exact tb_0 (List.mem_of_getElem? hi)
def EM_4 : List (Nat) := [241, 242, 243, 246, 248, 250, 251, 254, 255, 256, 257, 258, 259, 260, 261, 262, 263, 264, 265, 266, 267, 269, 270, 271, 272, 273, 274, 275, 276, 278, 279, 281, 283]
set_option maxRecDepth 100000 in
theorem EM_i4 : ∀ e ∈ EM_4, swE e ∈ lw_tbl := by
  have h : EM_4.map swE = [160, 161, 162, 163, 164, 165, 166, 167, 168, 169, 170, 171, 172, 173, 174, 175, 176, 177, 178, 179, 180, 181, 182, 183, 184, 185, 186, 187, 188, 189, 190, 191, 192].filterMap (fun i => (k2_sels lw_privs)[i]?) := by decide +kernel
  intro e he
  have hw : swE e ∈ EM_4.map swE := List.mem_map.mpr ⟨e, he, rfl⟩
  rw [h] at hw
  obtain ⟨i, -, hi⟩ := List.mem_filterMap.mp hw
  exact tb_0 (List.mem_of_getElem? hi)
def EM_5 : List (Nat) := [0, 2, 3]
set_option maxRecDepth 100000 in
theorem EM_i5 : ∀ e ∈ EM_5, swE e ∈ lw_tbl := by
  have h : EM_5.map swE = [54, 62, 66].filterMap (fun i => tables_1_2[i]?) := by decide +kernel
  intro e he
  have hw : swE e ∈ EM_5.map swE := List.mem_map.mpr ⟨e, he, rfl⟩
  rw [h] at hw
  obtain ⟨i, -, hi⟩ := List.mem_filterMap.mp hw
  exact tb_2 (List.mem_of_getElem? hi)
def EM_6 : List (Nat) := [47, 48, 60, 63, 65, 67, 72, 74, 75, 78, 80, 82, 84, 86, 89]
set_option maxRecDepth 100000 in
theorem EM_i6 : ∀ e ∈ EM_6, swE e ∈ lw_tbl := by
  have h : EM_6.map swE = [53, 57, 108, 121, 133, 142, 162, 171, 175, 190, 199, 207, 216, 224, 236].filterMap (fun i => tables_1_3[i]?) := by decide +kernel
  intro e he
  have hw : swE e ∈ EM_6.map swE := List.mem_map.mpr ⟨e, he, rfl⟩
  rw [h] at hw
  obtain ⟨i, -, hi⟩ := List.mem_filterMap.mp hw
  exact tb_3 (List.mem_of_getElem? hi)
def EM_7 : List (Nat) := [91, 98, 101, 104, 105, 106, 111, 113, 116, 119, 121, 124]
set_option maxRecDepth 100000 in
theorem EM_i7 : ∀ e ∈ EM_7, swE e ∈ lw_tbl := by
  have h : EM_7.map swE = [3, 35, 48, 60, 64, 68, 91, 99, 111, 123, 132, 145].filterMap (fun i => tables_1_4[i]?) := by decide +kernel
  intro e he
  have hw : swE e ∈ EM_7.map swE := List.mem_map.mpr ⟨e, he, rfl⟩
  rw [h] at hw
  obtain ⟨i, -, hi⟩ := List.mem_filterMap.mp hw
  exact tb_4 (List.mem_of_getElem? hi)
def EM_8 : List (Nat) := [150, 154, 155]
set_option maxRecDepth 100000 in
theorem EM_i8 : ∀ e ∈ EM_8, swE e ∈ lw_tbl := by
  have h : EM_8.map swE = [33, 54, 58].filterMap (fun i => tables_1_5[i]?) := by decide +kernel
  intro e he
  have hw : swE e ∈ EM_8.map swE := List.mem_map.mpr ⟨e, he, rfl⟩
  rw [h] at hw
  obtain ⟨i, -, hi⟩ := List.mem_filterMap.mp hw
  exact tb_5 (List.mem_of_getElem? hi)
def EM_9 : List (Nat) := [156, 157, 158, 195, 196]
set_option maxRecDepth 100000 in
theorem EM_i9 : ∀ e ∈ EM_9, swE e ∈ lw_tbl := by
  have h : EM_9.map swE = [77, 81, 85, 232, 236].filterMap (fun i => tables_1_6[i]?) := by decide +kernel
  intro e he
  have hw : swE e ∈ EM_9.map swE := List.mem_map.mpr ⟨e, he, rfl⟩
  rw [h] at hw
  obtain ⟨i, -, hi⟩ := List.mem_filterMap.mp hw
  exact tb_6 (List.mem_of_getElem? hi)
def EM_10 : List (Nat) := [205, 206, 210, 211, 215, 217, 219, 220, 222, 224, 225, 227, 228, 229, 233, 235, 238, 239, 240, 244, 245, 247, 249, 252, 253]
set_option maxRecDepth 100000 in
theorem EM_i10 : ∀ e ∈ EM_10, swE e ∈ lw_tbl := by
  have h : EM_10.map swE = [31, 36, 52, 57, 73, 82, 91, 95, 104, 112, 116, 125, 130, 134, 148, 156, 168, 173, 177, 193, 197, 205, 213, 225, 229].filterMap (fun i => tables_1_7[i]?) := by decide +kernel
  intro e he
  have hw : swE e ∈ EM_10.map swE := List.mem_map.mpr ⟨e, he, rfl⟩
  rw [h] at hw
  obtain ⟨i, -, hi⟩ := List.mem_filterMap.mp hw
  exact tb_7 (List.mem_of_getElem? hi)
def EM_11 : List (Nat) := [282, 284, 285]
set_option maxRecDepth 100000 in
theorem EM_i11 : ∀ e ∈ EM_11, swE e ∈ lw_tbl := by
  have h : EM_11.map swE = [107, 115, 119].filterMap (fun i => tables_1_8[i]?) := by decide +kernel
  intro e he
  have hw : swE e ∈ EM_11.map swE := List.mem_map.mpr ⟨e, he, rfl⟩
  rw [h] at hw
  obtain ⟨i, -, hi⟩ := List.mem_filterMap.mp hw
  exact tb_8 (List.mem_of_getElem? hi)
def EM : List (Nat) := EM_0 ++ (EM_1 ++ (EM_2 ++ (EM_3 ++ (EM_4 ++ (EM_5 ++ (EM_6 ++ (EM_7 ++ (EM_8 ++ (EM_9 ++ (EM_10 ++ (EM_11)))))))))))
theorem EM_in : ∀ e ∈ EM, swE e ∈ lw_tbl := by
  intro e h
  rcases List.mem_append.mp h with h | h
  · exact EM_i0 e h
  rcases List.mem_append.mp h with h | h
  · exact EM_i1 e h
  rcases List.mem_append.mp h with h | h
  · exact EM_i2 e h
  rcases List.mem_append.mp h with h | h
  · exact EM_i3 e h
  rcases List.mem_append.mp h with h | h
  · exact EM_i4 e h
  rcases List.mem_append.mp h with h | h
  · exact EM_i5 e h
  rcases List.mem_append.mp h with h | h
  · exact EM_i6 e h
  rcases List.mem_append.mp h with h | h
  · exact EM_i7 e h
  rcases List.mem_append.mp h with h | h
  · exact EM_i8 e h
  rcases List.mem_append.mp h with h | h
  · exact EM_i9 e h
  rcases List.mem_append.mp h with h | h
  · exact EM_i10 e h
  exact EM_i11 e h
def IC_0 : List (Nat) := [8, 7, 5, 4, 3, 2, 6, 0, 1, 9, 10, 11]
set_option maxRecDepth 100000 in
theorem IC_i0 : ∀ e ∈ IC_0, swI e ∈ lw_tbl := by
  have h : IC_0.map swI = [1, 2, 3, 4, 5, 6, 7, 8, 9, 10, 15, 17].filterMap (fun i => tables_1_1[i]?) := by decide +kernel
  intro e he
  have hw : swI e ∈ IC_0.map swI := List.mem_map.mpr ⟨e, he, rfl⟩
  rw [h] at hw
  obtain ⟨i, -, hi⟩ := List.mem_filterMap.mp hw
  exact tb_1 (List.mem_of_getElem? hi)
def IC : List (Nat) := IC_0
theorem IC_in : ∀ e ∈ IC, swI e ∈ lw_tbl := by
  intro e h
  exact IC_i0 e h
def KI_0 : List (Nat × Nat × Int) := [(10, 265, 1431655765), (10, 266, 858993459), (10, 267, 252645135), (8, 170, -1000000000)]
set_option maxRecDepth 100000 in
theorem KI_i0 : ∀ e ∈ KI_0, kwI e ∈ lw_tbl := by
  have h : KI_0.map kwI = [99, 100, 101, 139].filterMap (fun i => tables_1_3[i]?) := by decide +kernel
  intro e he
  have hw : kwI e ∈ KI_0.map kwI := List.mem_map.mpr ⟨e, he, rfl⟩
  rw [h] at hw
  obtain ⟨i, -, hi⟩ := List.mem_filterMap.mp hw
  exact tb_3 (List.mem_of_getElem? hi)
def KI_1 : List (Nat × Nat × Int) := [(2, 30, 16777216), (8, 323, 16777215), (8, 270, 16777216)]
set_option maxRecDepth 100000 in
theorem KI_i1 : ∀ e ∈ KI_1, kwI e ∈ lw_tbl := by
  have h : KI_1.map kwI = [23, 29, 88].filterMap (fun i => tables_1_4[i]?) := by decide +kernel
  intro e he
  have hw : kwI e ∈ KI_1.map kwI := List.mem_map.mpr ⟨e, he, rfl⟩
  rw [h] at hw
  obtain ⟨i, -, hi⟩ := List.mem_filterMap.mp hw
  exact tb_4 (List.mem_of_getElem? hi)
def KI_2 : List (Nat × Nat × Int) := [(9, 388, -1000000000)]
set_option maxRecDepth 100000 in
theorem KI_i2 : ∀ e ∈ KI_2, kwI e ∈ lw_tbl := by
  have h : KI_2.map kwI = [54].filterMap (fun i => tables_1_7[i]?) := by decide +kernel
  intro e he
  have hw : kwI e ∈ KI_2.map kwI := List.mem_map.mpr ⟨e, he, rfl⟩
  rw [h] at hw
  obtain ⟨i, -, hi⟩ := List.mem_filterMap.mp hw
  exact tb_7 (List.mem_of_getElem? hi)
def KI : List (Nat × Nat × Int) := KI_0 ++ (KI_1 ++ (KI_2))
theorem KI_in : ∀ e ∈ KI, kwI e ∈ lw_tbl := by
  intro e h
  rcases List.mem_append.mp h with h | h
  · exact KI_i0 e h
  rcases List.mem_append.mp h with h | h
  · exact KI_i1 e h
  exact KI_i2 e h
def KL_0 : List (Nat × Nat × Int) := [(8, 298, -1000000000), (3, 133, -1)]
set_option maxRecDepth 100000 in
theorem KL_i0 : ∀ e ∈ KL_0, kwL e ∈ lw_tbl := by
  have h : KL_0.map kwL = [217, 222].filterMap (fun i => tables_1_4[i]?) := by decide +kernel
  intro e he
  have hw : kwL e ∈ KL_0.map kwL := List.mem_map.mpr ⟨e, he, rfl⟩
  rw [h] at hw
  obtain ⟨i, -, hi⟩ := List.mem_filterMap.mp hw
  exact tb_4 (List.mem_of_getElem? hi)
def KL_1 : List (Nat × Nat × Int) := [(3, 233, -1000000), (3, 235, 1000000), (3, 157, -1000000000)]
set_option maxRecDepth 100000 in
theorem KL_i1 : ∀ e ∈ KL_1, kwL e ∈ lw_tbl := by
  have h : KL_1.map kwL = [7, 8, 30].filterMap (fun i => tables_1_5[i]?) := by decide +kernel
  intro e he
  have hw : kwL e ∈ KL_1.map kwL := List.mem_map.mpr ⟨e, he, rfl⟩
  rw [h] at hw
  obtain ⟨i, -, hi⟩ := List.mem_filterMap.mp hw
  exact tb_5 (List.mem_of_getElem? hi)
def KL_2 : List (Nat × Nat × Int) := [(9, 244, 27), (9, 246, 97)]
set_option maxRecDepth 100000 in
theorem KL_i2 : ∀ e ∈ KL_2, kwL e ∈ lw_tbl := by
  have h : KL_2.map kwL = [130, 131].filterMap (fun i => tables_1_6[i]?) := by decide +kernel
  intro e he
  have hw : kwL e ∈ KL_2.map kwL := List.mem_map.mpr ⟨e, he, rfl⟩
  rw [h] at hw
  obtain ⟨i, -, hi⟩ := List.mem_filterMap.mp hw
  exact tb_6 (List.mem_of_getElem? hi)
def KL_3 : List (Nat × Nat × Int) := [(9, 380, 5), (9, 401, 7), (9, 406, 2), (9, 411, 99), (9, 416, 100), (9, 421, 3), (9, 441, 6)]
set_option maxRecDepth 100000 in
theorem KL_i3 : ∀ e ∈ KL_3, kwL e ∈ lw_tbl := by
  have h : KL_3.map kwL = [33, 79, 88, 97, 118, 127, 170].filterMap (fun i => tables_1_7[i]?) := by decide +kernel
  intro e he
  have hw : kwL e ∈ KL_3.map kwL := List.mem_map.mpr ⟨e, he, rfl⟩
  rw [h] at hw
  obtain ⟨i, -, hi⟩ := List.mem_filterMap.mp hw
  exact tb_7 (List.mem_of_getElem? hi)
def KL_4 : List (Nat × Nat × Int) := [(9, 591, -1000000000), (9, 579, -1), (9, 542, 1000000), (9, 544, -1000000)]
set_option maxRecDepth 100000 in
theorem KL_i4 : ∀ e ∈ KL_4, kwL e ∈ lw_tbl := by
  have h : KL_4.map kwL = [70, 71, 88, 89].filterMap (fun i => tables_1_8[i]?) := by decide +kernel
  intro e he
  have hw : kwL e ∈ KL_4.map kwL := List.mem_map.mpr ⟨e, he, rfl⟩
  rw [h] at hw
  obtain ⟨i, -, hi⟩ := List.mem_filterMap.mp hw
  exact tb_8 (List.mem_of_getElem? hi)
def KL : List (Nat × Nat × Int) := KL_0 ++ (KL_1 ++ (KL_2 ++ (KL_3 ++ (KL_4))))
theorem KL_in : ∀ e ∈ KL, kwL e ∈ lw_tbl := by
  intro e h
  rcases List.mem_append.mp h with h | h
  · exact KL_i0 e h
  rcases List.mem_append.mp h with h | h
  · exact KL_i1 e h
  rcases List.mem_append.mp h with h | h
  · exact KL_i2 e h
  rcases List.mem_append.mp h with h | h
  · exact KL_i3 e h
  exact KL_i4 e h
def uw (e : Nat × Nat) : Cond := match vwCl[e.1]? with
  | some q => u_lay q.1 q.2.1 e.2
  | none => .tt
def UT_0 : List (Nat × Nat) := [(7, 0), (7, 1), (7, 2), (7, 3), (7, 4), (7, 5), (7, 6), (4, 0), (4, 1), (4, 2), (4, 3), (4, 4), (4, 5), (4, 6), (4, 7), (4, 8), (4, 9), (4, 10), (4, 11), (4, 12), (4, 13), (4, 14), (5, 0), (5, 1), (3, 0), (3, 1), (3, 2), (3, 3), (3, 4), (3, 5), (3, 6), (3, 7), (3, 8), (3, 9), (2, 0), (2, 1), (2, 2), (6, 0), (0, 0), (0, 1)]
set_option maxRecDepth 100000 in
theorem UT_i0 : ∀ e ∈ UT_0, uw e ∈ lw_tbl := by
  have h : UT_0.map uw = [47, 49, 51, 53, 55, 57, 59, 123, 125, 127, 129, 131, 133, 135, 137, 139, 141, 143, 145, 147, 149, 151, 157, 159, 178, 180, 182, 184, 186, 188, 190, 192, 194, 196, 209, 211, 213, 224, 237, 239].filterMap (fun i => tables_1_1[i]?) := by decide +kernel
  intro e he
  have hw : uw e ∈ UT_0.map uw := List.mem_map.mpr ⟨e, he, rfl⟩
  rw [h] at hw
  obtain ⟨i, -, hi⟩ := List.mem_filterMap.mp hw
  exact tb_1 (List.mem_of_getElem? hi)
def UT_1 : List (Nat × Nat) := [(0, 2), (1, 0), (1, 1), (8, 0), (8, 1), (8, 2), (8, 3), (8, 4), (8, 5), (8, 6), (8, 7), (8, 8), (8, 9)]
set_option maxRecDepth 100000 in
theorem UT_i1 : ∀ e ∈ UT_1, uw e ∈ lw_tbl := by
  have h : UT_1.map uw = [1, 14, 16, 31, 33, 35, 37, 39, 41, 43, 45, 47, 49].filterMap (fun i => tables_1_2[i]?) := by decide +kernel
  intro e he
  have hw : uw e ∈ UT_1.map uw := List.mem_map.mpr ⟨e, he, rfl⟩
  rw [h] at hw
  obtain ⟨i, -, hi⟩ := List.mem_filterMap.mp hw
  exact tb_2 (List.mem_of_getElem? hi)
def UT_2 : List (Nat × Nat) := [(9, 0), (9, 1), (9, 2), (9, 3), (9, 4), (9, 5), (9, 6), (9, 7), (9, 8), (9, 9), (9, 10), (9, 11), (9, 12), (9, 13), (9, 14), (9, 15), (9, 16), (9, 17), (9, 18), (9, 19), (9, 20), (9, 21), (9, 22), (9, 23), (9, 24), (9, 25), (9, 26), (9, 27), (9, 28), (9, 29), (9, 30), (9, 31), (9, 32), (9, 33), (9, 34), (9, 35), (9, 36), (9, 37), (9, 38), (9, 39)]
set_option maxRecDepth 100000 in
theorem UT_i2 : ∀ e ∈ UT_2, uw e ∈ lw_tbl := by
  have h : UT_2.map uw = [148, 150, 152, 154, 156, 158, 160, 162, 164, 166, 168, 170, 172, 174, 176, 178, 180, 182, 184, 186, 188, 190, 192, 194, 196, 198, 200, 202, 204, 206, 208, 210, 212, 214, 216, 218, 220, 222, 224, 226].filterMap (fun i => tables_1_5[i]?) := by decide +kernel
  intro e he
  have hw : uw e ∈ UT_2.map uw := List.mem_map.mpr ⟨e, he, rfl⟩
  rw [h] at hw
  obtain ⟨i, -, hi⟩ := List.mem_filterMap.mp hw
  exact tb_5 (List.mem_of_getElem? hi)
def UT_3 : List (Nat × Nat) := [(9, 40), (9, 41), (9, 42), (9, 43), (9, 44), (9, 45)]
set_option maxRecDepth 100000 in
theorem UT_i3 : ∀ e ∈ UT_3, uw e ∈ lw_tbl := by
  have h : UT_3.map uw = [228, 230, 232, 234, 236, 238].filterMap (fun i => tables_1_5[i]?) := by decide +kernel
  intro e he
  have hw : uw e ∈ UT_3.map uw := List.mem_map.mpr ⟨e, he, rfl⟩
  rw [h] at hw
  obtain ⟨i, -, hi⟩ := List.mem_filterMap.mp hw
  exact tb_5 (List.mem_of_getElem? hi)
def UT_4 : List (Nat × Nat) := [(9, 46), (9, 47), (9, 48), (9, 49), (9, 50), (9, 51), (9, 52), (9, 53), (9, 54), (9, 55), (9, 56), (9, 57), (9, 58), (9, 59), (9, 60), (9, 61), (9, 62), (9, 63), (9, 64), (9, 65), (9, 66), (9, 67), (9, 68), (9, 69), (9, 70), (9, 71), (9, 72), (9, 73), (9, 74), (9, 75), (9, 76), (9, 77), (9, 78), (9, 79), (9, 80), (9, 81)]
set_option maxRecDepth 100000 in
theorem UT_i4 : ∀ e ∈ UT_4, uw e ∈ lw_tbl := by
  have h : UT_4.map uw = [0, 2, 4, 6, 8, 10, 12, 14, 16, 18, 20, 22, 24, 26, 28, 30, 32, 34, 36, 38, 40, 42, 44, 46, 48, 50, 52, 54, 56, 58, 60, 62, 64, 66, 68, 70].filterMap (fun i => tables_1_6[i]?) := by decide +kernel
  intro e he
  have hw : uw e ∈ UT_4.map uw := List.mem_map.mpr ⟨e, he, rfl⟩
  rw [h] at hw
  obtain ⟨i, -, hi⟩ := List.mem_filterMap.mp hw
  exact tb_6 (List.mem_of_getElem? hi)
def UT : List (Nat × Nat) := UT_0 ++ (UT_1 ++ (UT_2 ++ (UT_3 ++ (UT_4))))
theorem UT_in : ∀ e ∈ UT, uw e ∈ lw_tbl := by
  intro e h
  rcases List.mem_append.mp h with h | h
  · exact UT_i0 e h
  rcases List.mem_append.mp h with h | h
  · exact UT_i1 e h
  rcases List.mem_append.mp h with h | h
  · exact UT_i2 e h
  rcases List.mem_append.mp h with h | h
  · exact UT_i3 e h
  exact UT_i4 e h
def TT : List Cond := MT.map mw ++ (FT.map fw ++ (CT.map cwL ++ (SM.map swS ++ (VM.map swV ++ (EM.map swE ++ (IC.map swI ++ (KI.map kwI ++ (KL.map kwL ++ (UT.map uw)))))))))
def NT : List Cond := FN.map fwN ++ CNT.map cwN
theorem TT_in : ∀ w ∈ TT, w ∈ lw_tbl := by
  intro w h
  rcases List.mem_append.mp h with h | h
  · obtain ⟨e, he, rfl⟩ := List.mem_map.mp h
    exact MT_in e he
  rcases List.mem_append.mp h with h | h
  · obtain ⟨e, he, rfl⟩ := List.mem_map.mp h
    exact FT_in e he
  rcases List.mem_append.mp h with h | h
  · obtain ⟨e, he, rfl⟩ := List.mem_map.mp h
    exact CT_in e he
  rcases List.mem_append.mp h with h | h
  · obtain ⟨e, he, rfl⟩ := List.mem_map.mp h
    exact SM_in e he
  rcases List.mem_append.mp h with h | h
  · obtain ⟨e, he, rfl⟩ := List.mem_map.mp h
    exact VM_in e he
  rcases List.mem_append.mp h with h | h
  · obtain ⟨e, he, rfl⟩ := List.mem_map.mp h
    exact EM_in e he
  rcases List.mem_append.mp h with h | h
  · obtain ⟨e, he, rfl⟩ := List.mem_map.mp h
    exact IC_in e he
  rcases List.mem_append.mp h with h | h
  · obtain ⟨e, he, rfl⟩ := List.mem_map.mp h
    exact KI_in e he
  rcases List.mem_append.mp h with h | h
  · obtain ⟨e, he, rfl⟩ := List.mem_map.mp h
    exact KL_in e he
  obtain ⟨e, he, rfl⟩ := List.mem_map.mp h
  exact UT_in e he
theorem NT_in : ∀ w ∈ NT, w ∈ lw_tbl := by
  intro w h
  rcases List.mem_append.mp h with h | h
  · obtain ⟨e, he, rfl⟩ := List.mem_map.mp h
    exact FN_in e he
  · obtain ⟨e, he, rfl⟩ := List.mem_map.mp h
    exact CNT_in e he
set_option maxRecDepth 100000 in
theorem TT_good : TT.all goodWord = true := by decide +kernel
