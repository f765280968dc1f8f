-- tables, by program (wip/whole/tabs.py)
def CN : List String := [RX0, RX1, RX2, RX3, RX4, RX5, RX6, RX7, RX8, RX9, RX10, RX11, RX12, RL, RJ0, RJ1, RJ3, RJ7, RJ6, RJ9]
def m_L_law : Nat := 0
def m_X0_init : Nat := 1
def m_X0_worthThen : Nat := 2
def m_X0_isOpen : Nat := 3
def m_X1_init : Nat := 4
def m_X1_isOpen : Nat := 5
def m_X2_init : Nat := 6
def m_X2_worthThen : Nat := 7
def m_X3_init : Nat := 8
def m_X3_worthThen : Nat := 9
def m_X4_init : Nat := 10
def m_X4_begin : Nat := 11
def m_X4_copyFrom : Nat := 12
def m_X4_canCome : Nat := 13
def m_X4_come : Nat := 14
def m_X4_mayTake : Nat := 15
def m_X4_take : Nat := 16
def m_X4_timesHad : Nat := 17
def m_X5_init : Nat := 18
def m_X5_live : Nat := 19
def m_X5_seekThings : Nat := 20
def m_X5_nextPlace : Nat := 21
def m_X5_isWorthGoing : Nat := 22
def m_X5_walkOrder : Nat := 23
def m_X5_takeWorthy : Nat := 24
def m_X5_takeOpen : Nat := 25
def m_X5_seekBest : Nat := 26
def m_X5_seekHouse : Nat := 27
def m_X5_seekOn : Nat := 28
def m_X5_seekWith : Nat := 29
def m_X5_mostToCome : Nat := 30
def m_X5_strayWorth : Nat := 31
def m_X5_firstWrong : Nat := 32
def m_X5_firstOld : Nat := 33
def m_X6_init : Nat := 34
def m_X6_worthThen : Nat := 35
def m_X6_isOpen : Nat := 36
def m_X7_init : Nat := 37
def m_X7_read : Nat := 38
def m_X7_readStatement : Nat := 39
def m_X7_readSign : Nat := 40
def m_X7_readKind : Nat := 41
def m_X7_readNumber : Nat := 42
def m_X7_readDigit : Nat := 43
def m_X7_isDigitNext : Nat := 44
def m_X7_fail : Nat := 45
def m_X8_init : Nat := 46
def m_X9_init : Nat := 47
def m_X9_copyFrom : Nat := 48
def m_X9_isPlace : Nat := 49
def m_X9_isThing : Nat := 50
def m_X9_miles : Nat := 51
def m_X9_allWeights : Nat := 52
def m_X9_tellPlaces : Nat := 53
def m_X9_tellWay : Nat := 54
def m_X9_tellThing : Nat := 55
def m_X9_reckonFar : Nat := 56
def m_X9_placesNeeded : Nat := 57
def m_X9_hasWay : Nat := 58
def m_X9_copyRow : Nat := 59
def m_X10_init : Nat := 60
def m_X10_worthThen : Nat := 61
def m_X11_init : Nat := 62
def m_X11_feed : Nat := 63
def m_X11_land : Nat := 64
def m_X11_far : Nat := 65
def m_X11_thing : Nat := 66
def m_X11_set : Nat := 67
def m_X11_go : Nat := 68
def m_X11_have : Nat := 69
def m_X11_worthAt : Nat := 70
def m_X11_may : Nat := 71
def m_X11_life : Nat := 72
def m_X11_nextLife : Nat := 73
def m_X11_order : Nat := 74
def m_X11_lived : Nat := 75
def m_X11_best : Nat := 76
def m_X11_house : Nat := 77
def m_X11_call : Nat := 78
def m_X11_calls : Nat := 79
def m_X11_goes : Nat := 80
def m_X11_together : Nat := 81
def m_X11_child : Nat := 82
def m_X11_person : Nat := 83
def m_X11_send : Nat := 84
def m_X11_wells : Nat := 85
def m_X11_many : Nat := 86
def m_X11_stray : Nat := 87
def m_X11_row : Nat := 88
def m_X11_judge : Nat := 89
def m_X11_image : Nat := 90
def m_X11_on : Nat := 91
def m_X11_count : Nat := 92
def m_X11_refuse : Nat := 93
def m_X11_refuseLong : Nat := 94
def m_X11_areDigitsPlaces : Nat := 95
def m_X11_fillMeans : Nat := 96
def m_X11_oneCallMore : Nat := 97
def m_X11_commonDivisor : Nat := 98
def m_X11_costOfSending : Nat := 99
def m_X11_sumToWells : Nat := 100
def m_X12_init : Nat := 101
def m_X12_no : Nat := 102
def m_X12_noLong : Nat := 103
def m_X12_isIn : Nat := 104
def m_X12_bound : Nat := 105
def m_X12_isPlace : Nat := 106
def m_X12_isThing : Nat := 107
def m_X12_findFar : Nat := 108
def m_X12_farOf : Nat := 109
def m_X12_feed : Nat := 110
def m_X12_nextByte : Nat := 111
def m_X12_isNext : Nat := 112
def m_X12_number : Nat := 113
def m_X12_kindOf : Nat := 114
def m_X12_readsWay : Nat := 115
def m_X12_readsThing : Nat := 116
def m_X12_statement : Nat := 117
def m_X12_toldPlaces : Nat := 118
def m_X12_comesWay : Nat := 119
def m_X12_comes : Nat := 120
def m_X12_land : Nat := 121
def m_X12_passes : Nat := 122
def m_X12_passOne : Nat := 123
def m_X12_passesAll : Nat := 124
def m_X12_far : Nat := 125
def m_X12_worthOf : Nat := 126
def m_X12_mayBe : Nat := 127
def m_X12_mayHave : Nat := 128
def m_X12_hasIt : Nat := 129
def m_X12_begins : Nat := 130
def m_X12_mayGo : Nat := 131
def m_X12_goesTo : Nat := 132
def m_X12_thing : Nat := 133
def m_X12_set : Nat := 134
def m_X12_go : Nat := 135
def m_X12_have : Nat := 136
def m_X12_worthAt : Nat := 137
def m_X12_may : Nat := 138
def m_X12_life : Nat := 139
def m_X12_nextLife : Nat := 140
def m_X12_order : Nat := 141
def m_X12_hasAll : Nat := 142
def m_X12_isWorthGoing : Nat := 143
def m_X12_nextPlace : Nat := 144
def m_X12_lives : Nat := 145
def m_X12_lived : Nat := 146
def m_X12_findBest : Nat := 147
def m_X12_best : Nat := 148
def m_X12_house : Nat := 149
def m_X12_call : Nat := 150
def m_X12_allWeights : Nat := 151
def m_X12_findMeans : Nat := 152
def m_X12_divisor : Nat := 153
def m_X12_calls : Nat := 154
def m_X12_goes : Nat := 155
def m_X12_together : Nat := 156
def m_X12_child : Nat := 157
def m_X12_person : Nat := 158
def m_X12_send : Nat := 159
def m_X12_bits : Nat := 160
def m_X12_sumTo : Nat := 161
def m_X12_wells : Nat := 162
def m_X12_many : Nat := 163
def m_X12_stray : Nat := 164
def m_X12_row : Nat := 165
def m_X12_judge : Nat := 166
def m_X12_image : Nat := 167
def m_X12_on : Nat := 168
def m_X12_count : Nat := 169
def m_J0_length_8abf5 : Nat := 170
def m_J0_charAt_5068e : Nat := 171
def m_J0_indexOf_0f7a4 : Nat := 172
def m_J0_indexOf_7cf53 : Nat := 173
def m_J0_coder_7d493 : Nat := 174
def m_J0_isLatin1_aae02 : Nat := 175
def m_J0_checkIndex_df160 : Nat := 176
def m_J1_charAt_3b067 : Nat := 177
def m_J1_canEncode_9a6ad : Nat := 178
def m_J1_indexOf_4cfef : Nat := 179
def m_J1_indexOfChar_4cfef : Nat := 180
def m_J3_checkIndex_8e157 : Nat := 181
def m_J7_fill_d0a16 : Nat := 182
def m_J7_fill_53178 : Nat := 183
def m_J6_bitCount_0f7a4 : Nat := 184
def MT : List (MethodName × ByteArray × Nat × Option FieldType × Nat) := [
  (yL_law, cL_law, 4, (some .boolean), 13),
  (yX0_init, cX0_init, 6, none, 0),
  (yX0_worthThen, cX0_worthThen, 4, (some (.int)), 0),
  (yX0_isOpen, cX0_isOpen, 2, (some (.boolean)), 0),
  (yX1_init, cX1_init, 6, none, 1),
  (yX1_isOpen, cX1_isOpen, 2, (some (.boolean)), 1),
  (yX2_init, cX2_init, 6, none, 2),
  (yX2_worthThen, cX2_worthThen, 4, (some (.int)), 2),
  (yX3_init, cX3_init, 6, none, 3),
  (yX3_worthThen, cX3_worthThen, 5, (some (.int)), 3),
  (yX4_init, cX4_init, 1, none, 4),
  (yX4_begin, cX4_begin, 2, none, 4),
  (yX4_copyFrom, cX4_copyFrom, 2, none, 4),
  (yX4_canCome, cX4_canCome, 3, (some (.boolean)), 4),
  (yX4_come, cX4_come, 3, none, 4),
  (yX4_mayTake, cX4_mayTake, 4, (some (.boolean)), 4),
  (yX4_take, cX4_take, 4, (some (.int)), 4),
  (yX4_timesHad, cX4_timesHad, 3, (some (.int)), 4),
  (yX5_init, cX5_init, 1, none, 5),
  (yX5_live, cX5_live, 3, (some (.object "AgesByMiles$Life")), 5),
  (yX5_seekThings, cX5_seekThings, 5, none, 5),
  (yX5_nextPlace, cX5_nextPlace, 8, (some (.int)), 5),
  (yX5_isWorthGoing, cX5_isWorthGoing, 6, (some (.boolean)), 5),
  (yX5_walkOrder, cX5_walkOrder, 3, none, 5),
  (yX5_takeWorthy, cX5_takeWorthy, 4, none, 5),
  (yX5_takeOpen, cX5_takeOpen, 3, none, 5),
  (yX5_seekBest, cX5_seekBest, 2, none, 5),
  (yX5_seekHouse, cX5_seekHouse, 5, (some (.int)), 5),
  (yX5_seekOn, cX5_seekOn, 4, none, 5),
  (yX5_seekWith, cX5_seekWith, 7, none, 5),
  (yX5_mostToCome, cX5_mostToCome, 8, (some (.int)), 5),
  (yX5_strayWorth, cX5_strayWorth, 7, (some (.int)), 5),
  (yX5_firstWrong, cX5_firstWrong, 5, (some (.int)), 5),
  (yX5_firstOld, cX5_firstOld, 7, (some (.int)), 5),
  (yX6_init, cX6_init, 6, none, 6),
  (yX6_worthThen, cX6_worthThen, 4, (some (.int)), 6),
  (yX6_isOpen, cX6_isOpen, 2, (some (.boolean)), 6),
  (yX7_init, cX7_init, 1, none, 7),
  (yX7_read, cX7_read, 10, (some (.int)), 7),
  (yX7_readStatement, cX7_readStatement, 2, (some (.int)), 7),
  (yX7_readSign, cX7_readSign, 2, none, 7),
  (yX7_readKind, cX7_readKind, 2, (some (.int)), 7),
  (yX7_readNumber, cX7_readNumber, 4, (some (.int)), 7),
  (yX7_readDigit, cX7_readDigit, 1, (some (.int)), 7),
  (yX7_isDigitNext, cX7_isDigitNext, 1, (some (.boolean)), 7),
  (yX7_fail, cX7_fail, 1, none, 7),
  (yX8_init, cX8_init, 6, none, 8),
  (yX9_init, cX9_init, 3, none, 9),
  (yX9_copyFrom, cX9_copyFrom, 3, none, 9),
  (yX9_isPlace, cX9_isPlace, 2, (some (.boolean)), 9),
  (yX9_isThing, cX9_isThing, 2, (some (.boolean)), 9),
  (yX9_miles, cX9_miles, 3, (some (.int)), 9),
  (yX9_allWeights, cX9_allWeights, 3, (some (.int)), 9),
  (yX9_tellPlaces, cX9_tellPlaces, 2, (some (.boolean)), 9),
  (yX9_tellWay, cX9_tellWay, 4, (some (.boolean)), 9),
  (yX9_tellThing, cX9_tellThing, 6, (some (.boolean)), 9),
  (yX9_reckonFar, cX9_reckonFar, 5, none, 9),
  (yX9_placesNeeded, cX9_placesNeeded, 3, (some (.int)), 9),
  (yX9_hasWay, cX9_hasWay, 3, (some (.boolean)), 9),
  (yX9_copyRow, cX9_copyRow, 2, none, 9),
  (yX10_init, cX10_init, 6, none, 10),
  (yX10_worthThen, cX10_worthThen, 5, (some (.int)), 10),
  (yX11_init, cX11_init, 1, none, 11),
  (yX11_feed, cX11_feed, 5, (some (.int)), 11),
  (yX11_land, cX11_land, 3, (some (.int)), 11),
  (yX11_far, cX11_far, 4, (some (.int)), 11),
  (yX11_thing, cX11_thing, 3, (some (.int)), 11),
  (yX11_set, cX11_set, 4, (some (.int)), 11),
  (yX11_go, cX11_go, 2, (some (.int)), 11),
  (yX11_have, cX11_have, 2, (some (.int)), 11),
  (yX11_worthAt, cX11_worthAt, 4, (some (.int)), 11),
  (yX11_may, cX11_may, 2, (some (.int)), 11),
  (yX11_life, cX11_life, 2, (some (.int)), 11),
  (yX11_nextLife, cX11_nextLife, 2, (some (.int)), 11),
  (yX11_order, cX11_order, 8, (some (.int)), 11),
  (yX11_lived, cX11_lived, 4, (some (.int)), 11),
  (yX11_best, cX11_best, 2, (some (.int)), 11),
  (yX11_house, cX11_house, 1, (some (.int)), 11),
  (yX11_call, cX11_call, 5, (some (.int)), 11),
  (yX11_calls, cX11_calls, 10, (some (.long)), 11),
  (yX11_goes, cX11_goes, 8, (some (.int)), 11),
  (yX11_together, cX11_together, 8, (some (.int)), 11),
  (yX11_child, cX11_child, 5, (some (.int)), 11),
  (yX11_person, cX11_person, 3, (some (.int)), 11),
  (yX11_send, cX11_send, 7, (some (.int)), 11),
  (yX11_wells, cX11_wells, 6, (some (.int)), 11),
  (yX11_many, cX11_many, 6, (some (.long)), 11),
  (yX11_stray, cX11_stray, 3, (some (.int)), 11),
  (yX11_row, cX11_row, 2, (some (.int)), 11),
  (yX11_judge, cX11_judge, 3, (some (.int)), 11),
  (yX11_image, cX11_image, 1, (some (.int)), 11),
  (yX11_on, cX11_on, 1, (some (.int)), 11),
  (yX11_count, cX11_count, 2, (some (.int)), 11),
  (yX11_refuse, cX11_refuse, 2, (some (.int)), 11),
  (yX11_refuseLong, cX11_refuseLong, 2, (some (.long)), 11),
  (yX11_areDigitsPlaces, cX11_areDigitsPlaces, 7, (some (.boolean)), 11),
  (yX11_fillMeans, cX11_fillMeans, 8, (some (.long)), 11),
  (yX11_oneCallMore, cX11_oneCallMore, 10, (some (.long)), 11),
  (yX11_commonDivisor, cX11_commonDivisor, 11, (some (.long)), 11),
  (yX11_costOfSending, cX11_costOfSending, 5, (some (.int)), 11),
  (yX11_sumToWells, cX11_sumToWells, 6, (some (.int)), 11),
  (yX12_init, cX12_init, 1, none, 12),
  (yX12_no, cX12_no, 2, (some (.int)), 12),
  (yX12_noLong, cX12_noLong, 2, (some (.long)), 12),
  (yX12_isIn, cX12_isIn, 3, (some (.boolean)), 12),
  (yX12_bound, cX12_bound, 3, (some (.int)), 12),
  (yX12_isPlace, cX12_isPlace, 2, (some (.boolean)), 12),
  (yX12_isThing, cX12_isThing, 2, (some (.boolean)), 12),
  (yX12_findFar, cX12_findFar, 5, none, 12),
  (yX12_farOf, cX12_farOf, 3, (some (.int)), 12),
  (yX12_feed, cX12_feed, 6, (some (.int)), 12),
  (yX12_nextByte, cX12_nextByte, 1, (some (.int)), 12),
  (yX12_isNext, cX12_isNext, 2, (some (.boolean)), 12),
  (yX12_number, cX12_number, 4, (some (.int)), 12),
  (yX12_kindOf, cX12_kindOf, 1, (some (.int)), 12),
  (yX12_readsWay, cX12_readsWay, 2, (some (.boolean)), 12),
  (yX12_readsThing, cX12_readsThing, 2, (some (.boolean)), 12),
  (yX12_statement, cX12_statement, 3, (some (.boolean)), 12),
  (yX12_toldPlaces, cX12_toldPlaces, 3, (some (.int)), 12),
  (yX12_comesWay, cX12_comesWay, 5, (some (.boolean)), 12),
  (yX12_comes, cX12_comes, 2, (some (.boolean)), 12),
  (yX12_land, cX12_land, 3, (some (.int)), 12),
  (yX12_passes, cX12_passes, 3, none, 12),
  (yX12_passOne, cX12_passOne, 3, (some (.int)), 12),
  (yX12_passesAll, cX12_passesAll, 3, none, 12),
  (yX12_far, cX12_far, 3, (some (.int)), 12),
  (yX12_worthOf, cX12_worthOf, 6, (some (.int)), 12),
  (yX12_mayBe, cX12_mayBe, 3, (some (.boolean)), 12),
  (yX12_mayHave, cX12_mayHave, 2, (some (.boolean)), 12),
  (yX12_hasIt, cX12_hasIt, 3, (some (.int)), 12),
  (yX12_begins, cX12_begins, 3, none, 12),
  (yX12_mayGo, cX12_mayGo, 2, (some (.boolean)), 12),
  (yX12_goesTo, cX12_goesTo, 2, none, 12),
  (yX12_thing, cX12_thing, 3, (some (.int)), 12),
  (yX12_set, cX12_set, 5, (some (.int)), 12),
  (yX12_go, cX12_go, 2, (some (.int)), 12),
  (yX12_have, cX12_have, 2, (some (.int)), 12),
  (yX12_worthAt, cX12_worthAt, 5, (some (.int)), 12),
  (yX12_may, cX12_may, 2, (some (.int)), 12),
  (yX12_life, cX12_life, 2, (some (.int)), 12),
  (yX12_nextLife, cX12_nextLife, 2, (some (.int)), 12),
  (yX12_order, cX12_order, 9, (some (.int)), 12),
  (yX12_hasAll, cX12_hasAll, 3, none, 12),
  (yX12_isWorthGoing, cX12_isWorthGoing, 4, (some (.boolean)), 12),
  (yX12_nextPlace, cX12_nextPlace, 4, (some (.int)), 12),
  (yX12_lives, cX12_lives, 3, none, 12),
  (yX12_lived, cX12_lived, 4, (some (.int)), 12),
  (yX12_findBest, cX12_findBest, 7, none, 12),
  (yX12_best, cX12_best, 2, (some (.int)), 12),
  (yX12_house, cX12_house, 4, (some (.int)), 12),
  (yX12_call, cX12_call, 6, (some (.int)), 12),
  (yX12_allWeights, cX12_allWeights, 3, (some (.int)), 12),
  (yX12_findMeans, cX12_findMeans, 16, (some (.long)), 12),
  (yX12_divisor, cX12_divisor, 10, (some (.long)), 12),
  (yX12_calls, cX12_calls, 9, (some (.long)), 12),
  (yX12_goes, cX12_goes, 8, (some (.int)), 12),
  (yX12_together, cX12_together, 8, (some (.int)), 12),
  (yX12_child, cX12_child, 10, (some (.int)), 12),
  (yX12_person, cX12_person, 4, (some (.int)), 12),
  (yX12_send, cX12_send, 8, (some (.int)), 12),
  (yX12_bits, cX12_bits, 3, (some (.int)), 12),
  (yX12_sumTo, cX12_sumTo, 6, (some (.int)), 12),
  (yX12_wells, cX12_wells, 5, (some (.int)), 12),
  (yX12_many, cX12_many, 7, (some (.long)), 12),
  (yX12_stray, cX12_stray, 7, (some (.int)), 12),
  (yX12_row, cX12_row, 3, (some (.int)), 12),
  (yX12_judge, cX12_judge, 6, (some (.int)), 12),
  (yX12_image, cX12_image, 1, (some (.int)), 12),
  (yX12_on, cX12_on, 1, (some (.int)), 12),
  (yX12_count, cX12_count, 4, (some (.int)), 12),
  (yJ0_length_8abf5, cJ0_length_8abf5, 1, (some (.int)), 14),
  (yJ0_charAt_5068e, cJ0_charAt_5068e, 2, (some (.char)), 14),
  (yJ0_indexOf_0f7a4, cJ0_indexOf_0f7a4, 2, (some (.int)), 14),
  (yJ0_indexOf_7cf53, cJ0_indexOf_7cf53, 3, (some (.int)), 14),
  (yJ0_coder_7d493, cJ0_coder_7d493, 1, (some (.byte)), 14),
  (yJ0_isLatin1_aae02, cJ0_isLatin1_aae02, 1, (some (.boolean)), 14),
  (yJ0_checkIndex_df160, cJ0_checkIndex_df160, 2, none, 14),
  (yJ1_charAt_3b067, cJ1_charAt_3b067, 2, (some (.char)), 15),
  (yJ1_canEncode_9a6ad, cJ1_canEncode_9a6ad, 1, (some (.boolean)), 15),
  (yJ1_indexOf_4cfef, cJ1_indexOf_4cfef, 4, (some (.int)), 15),
  (yJ1_indexOfChar_4cfef, cJ1_indexOfChar_4cfef, 6, (some (.int)), 15),
  (yJ3_checkIndex_8e157, cJ3_checkIndex_8e157, 3, (some (.int)), 16),
  (yJ7_fill_d0a16, cJ7_fill_d0a16, 5, none, 17),
  (yJ7_fill_53178, cJ7_fill_53178, 4, none, 17),
  (yJ6_bitCount_0f7a4, cJ6_bitCount_0f7a4, 1, (some (.int)), 18)]
def FT : List ((Nat × Nat) × (Nat × Nat × List Nat)) := [
  ((4, 9), (0, 0, [4])),
  ((5, 62), (0, 0, [4])),
  ((9, 120), (0, 0, [4])),
  ((11, 143), (0, 0, [4])),
  ((4, 15), (1, 0, [4])),
  ((5, 73), (1, 0, [4])),
  ((11, 129), (1, 0, [4])),
  ((4, 18), (2, 0, [4])),
  ((5, 118), (2, 0, [4])),
  ((11, 146), (2, 0, [4])),
  ((4, 21), (3, 12, [4])),
  ((5, 92), (3, 22, [4])),
  ((11, 113), (3, 22, [4])),
  ((8, 7), (0, 10, [0, 1, 2, 3, 6, 9])),
  ((11, 95), (0, 20, [0, 1, 2, 3, 6, 9])),
  ((8, 13), (1, 10, [0, 1, 2, 3, 6, 9])),
  ((6, 13), (1, 20, [0, 1, 2, 3, 6, 9])),
  ((0, 13), (1, 20, [0, 1, 2, 3, 6, 9])),
  ((8, 16), (2, 10, [0, 1, 2, 3, 6, 9])),
  ((5, 87), (2, 20, [0, 1, 2, 3, 6, 9])),
  ((11, 100), (2, 20, [0, 1, 2, 3, 6, 9])),
  ((4, 50), (2, 20, [0, 1, 2, 3, 6, 9])),
  ((9, 131), (2, 20, [0, 1, 2, 3, 6, 9])),
  ((8, 19), (3, 10, [0, 1, 2, 3, 6, 9])),
  ((6, 7), (3, 20, [0, 1, 2, 3, 6, 9])),
  ((0, 7), (3, 20, [0, 1, 2, 3, 6, 9])),
  ((11, 103), (3, 20, [0, 1, 2, 3, 6, 9])),
  ((8, 22), (4, 10, [0, 1, 2, 3, 6, 9])),
  ((1, 11), (4, 20, [0, 1, 2, 3, 6, 9])),
  ((10, 11), (4, 20, [0, 1, 2, 3, 6, 9])),
  ((11, 106), (4, 20, [0, 1, 2, 3, 6, 9])),
  ((9, 9), (0, 0, [8])),
  ((5, 59), (0, 0, [8])),
  ((11, 221), (0, 0, [8])),
  ((9, 15), (1, 0, [8])),
  ((11, 243), (1, 0, [8])),
  ((9, 18), (2, 12, [8])),
  ((9, 22), (3, 12, [8])),
  ((9, 25), (4, 0, [8])),
  ((5, 80), (4, 0, [8])),
  ((11, 246), (4, 0, [8])),
  ((9, 30), (5, 12, [8])),
  ((5, 83), (5, 22, [8])),
  ((11, 91), (5, 22, [8])),
  ((4, 46), (5, 22, [8])),
  ((9, 34), (6, 12, [8])),
  ((5, 32), (6, 22, [8])),
  ((4, 43), (6, 22, [8])),
  ((11, 118), (6, 22, [8])),
  ((9, 37), (7, 0, [8])),
  ((5, 103), (7, 0, [8])),
  ((11, 155), (7, 0, [8])),
  ((9, 40), (8, 12, [8])),
  ((5, 106), (8, 22, [8])),
  ((11, 158), (8, 22, [8])),
  ((9, 43), (9, 12, [8])),
  ((11, 183), (9, 22, [8])),
  ((9, 46), (10, 12, [8])),
  ((11, 186), (10, 22, [8])),
  ((9, 49), (11, 0, [8])),
  ((11, 209), (11, 0, [8])),
  ((9, 52), (12, 12, [8])),
  ((11, 212), (12, 22, [8])),
  ((9, 55), (13, 12, [8])),
  ((11, 215), (13, 22, [8])),
  ((9, 61), (14, 12, [8])),
  ((11, 109), (14, 22, [8])),
  ((7, 9), (0, 2, [7])),
  ((7, 15), (1, 0, [7])),
  ((7, 19), (2, 0, [7])),
  ((7, 22), (3, 0, [7])),
  ((7, 25), (4, 0, [7])),
  ((7, 28), (5, 0, [7])),
  ((7, 31), (6, 0, [7])),
  ((7, 34), (7, 0, [7])),
  ((5, 12), (0, 12, [5])),
  ((5, 18), (1, 12, [5])),
  ((5, 22), (2, 12, [5])),
  ((11, 176), (2, 22, [5])),
  ((5, 25), (3, 0, [5])),
  ((11, 173), (3, 0, [5])),
  ((5, 29), (4, 0, [5])),
  ((11, 170), (4, 0, [5])),
  ((11, 10), (0, 2, [10])),
  ((11, 16), (1, 2, [10])),
  ((11, 19), (2, 12, [10])),
  ((11, 22), (3, 1, [10])),
  ((11, 29), (4, 12, [10])),
  ((11, 36), (5, 12, [10])),
  ((11, 40), (6, 12, [10])),
  ((11, 44), (7, 0, [10])),
  ((11, 48), (8, 12, [10])),
  ((11, 51), (9, 0, [10])),
  ((11, 54), (10, 12, [10])),
  ((11, 58), (11, 12, [10])),
  ((11, 61), (12, 12, [10])),
  ((12, 7), (0, 12, [11])),
  ((12, 13), (1, 12, [11])),
  ((12, 16), (2, 12, [11])),
  ((12, 19), (3, 12, [11])),
  ((12, 22), (4, 12, [11])),
  ((12, 25), (5, 12, [11])),
  ((12, 28), (6, 12, [11])),
  ((12, 31), (7, 12, [11])),
  ((12, 34), (8, 12, [11])),
  ((12, 37), (9, 12, [11])),
  ((12, 40), (10, 12, [11])),
  ((12, 43), (11, 12, [11])),
  ((12, 46), (12, 12, [11])),
  ((12, 49), (13, 12, [11])),
  ((12, 52), (14, 0, [11])),
  ((12, 117), (15, 0, [11])),
  ((12, 113), (16, 0, [11])),
  ((12, 166), (17, 0, [11])),
  ((12, 169), (18, 0, [11])),
  ((12, 56), (19, 12, [11])),
  ((12, 59), (20, 12, [11])),
  ((12, 62), (21, 12, [11])),
  ((12, 65), (22, 12, [11])),
  ((12, 68), (23, 12, [11])),
  ((12, 71), (24, 12, [11])),
  ((12, 74), (25, 12, [11])),
  ((12, 77), (26, 12, [11])),
  ((12, 124), (27, 0, [11])),
  ((12, 133), (28, 0, [11])),
  ((12, 154), (29, 0, [11])),
  ((12, 80), (30, 12, [11])),
  ((12, 297), (31, 1, [11])),
  ((12, 195), (32, 1, [11])),
  ((12, 199), (33, 0, [11])),
  ((12, 83), (34, 12, [11])),
  ((12, 163), (35, 0, [11])),
  ((12, 209), (36, 0, [11])),
  ((12, 212), (37, 0, [11])),
  ((12, 86), (38, 12, [11])),
  ((12, 89), (39, 12, [11])),
  ((12, 92), (40, 12, [11])),
  ((12, 95), (41, 12, [11])),
  ((12, 98), (42, 12, [11])),
  ((12, 261), (43, 0, [11])),
  ((12, 264), (44, 0, [11])),
  ((12, 101), (45, 12, [11])),
  ((12, 105), (46, 12, [11])),
  ((12, 108), (47, 12, [11])),
  ((12, 294), (48, 0, [11])),
  ((14, 15), (1, 20, [12])),
  ((14, 9), (0, 22, [12]))]
def MC : List ((Nat × Nat) × (Nat × Nat × List (Nat × Nat))) := [
  ((13, 9), (3, 0, [(0, 62)])),
  ((11, 1), (6, 0, [])),
  ((11, 9), (3, 0, [(0, 47)])),
  ((9, 3), (6, 0, [])),
  ((9, 60), (4, 0, [(0, 10)])),
  ((4, 3), (6, 0, [])),
  ((9, 67), (3, 5, [(0, 34)])),
  ((6, 1), (3, 5, [(0, 46)])),
  ((8, 1), (6, 0, [])),
  ((9, 70), (1, 0, [(8, 56)])),
  ((9, 116), (1, 2, [(8, 51)])),
  ((11, 28), (4, 0, [(0, 37)])),
  ((7, 3), (6, 0, [])),
  ((11, 35), (4, 0, [(0, 18)])),
  ((5, 3), (6, 0, [])),
  ((5, 11), (4, 0, [(0, 10)])),
  ((13, 15), (1, 2, [(10, 63)])),
  ((11, 64), (1, 1, [(10, 93)])),
  ((13, 20), (1, 0, [(10, 64)])),
  ((11, 68), (1, 1, [(8, 48)])),
  ((9, 73), (0, 2, [(0, 59)])),
  ((9, 134), (9, 2, [])),
  ((9, 137), (7, 5, [])),
  ((9, 77), (1, 1, [(4, 12)])),
  ((4, 31), (7, 5, [])),
  ((11, 72), (1, 3, [(7, 38)])),
  ((7, 37), (9, 2, [])),
  ((7, 43), (1, 0, [(7, 39)])),
  ((7, 61), (1, 0, [(7, 43)])),
  ((7, 85), (1, 0, [(7, 44)])),
  ((7, 75), (1, 0, [(7, 45)])),
  ((7, 64), (1, 1, [(7, 40)])),
  ((7, 68), (1, 1, [(7, 42)])),
  ((7, 72), (1, 0, [(7, 41)])),
  ((7, 80), (1, 1, [(12, 172)])),
  ((14, 633), (1, 2, [(12, 173)])),
  ((14, 492), (1, 0, [(12, 175)])),
  ((14, 505), (1, 0, [(12, 170)])),
  ((14, 335), (1, 0, [(12, 174)])),
  ((14, 637), (0, 4, [(0, 179)])),
  ((15, 88), (0, 1, [(0, 178)])),
  ((15, 92), (8, 2, [])),
  ((15, 38), (9, 2, [])),
  ((15, 95), (0, 4, [(0, 180)])),
  ((7, 47), (1, 4, [(8, 55)])),
  ((9, 85), (1, 1, [(8, 49)])),
  ((9, 91), (1, 1, [(12, 171)])),
  ((14, 495), (0, 2, [(0, 177)])),
  ((15, 9), (0, 2, [(0, 176)])),
  ((14, 1059), (0, 3, [(0, 181)])),
  ((9, 97), (1, 1, [(8, 50)])),
  ((9, 102), (3, 5, [(0, 1)])),
  ((0, 1), (3, 5, [(0, 46)])),
  ((9, 105), (3, 5, [(0, 4)])),
  ((1, 1), (3, 5, [(0, 34)])),
  ((9, 108), (3, 5, [(0, 60)])),
  ((10, 1), (3, 5, [(0, 34)])),
  ((9, 111), (3, 5, [(0, 6)])),
  ((2, 3), (3, 5, [(0, 34)])),
  ((9, 114), (3, 5, [(0, 8)])),
  ((3, 3), (3, 5, [(0, 6)])),
  ((7, 53), (1, 3, [(8, 54)])),
  ((7, 57), (1, 1, [(8, 53)])),
  ((9, 81), (1, 0, [(8, 57)])),
  ((9, 123), (8, 2, [])),
  ((9, 128), (1, 1, [(8, 58)])),
  ((11, 76), (1, 0, [(8, 56)])),
  ((13, 25), (1, 2, [(10, 65)])),
  ((11, 79), (1, 1, [(8, 49)])),
  ((11, 83), (1, 2, [(8, 51)])),
  ((13, 30), (1, 2, [(10, 66)])),
  ((11, 88), (1, 1, [(8, 50)])),
  ((13, 34), (1, 2, [(10, 67)])),
  ((13, 38), (1, 1, [(10, 68)])),
  ((11, 121), (1, 2, [(4, 13)])),
  ((4, 37), (1, 2, [(8, 51)])),
  ((11, 125), (1, 2, [(4, 14)])),
  ((13, 43), (1, 1, [(10, 69)])),
  ((11, 132), (1, 2, [(4, 15)])),
  ((4, 55), (2, 1, [(0, 3), (1, 5), (2, 36), (3, 36), (6, 36), (9, 36)])),
  ((0, 16), (9, 2, [])),
  ((1, 7), (5, 1, [(0, 36)])),
  ((11, 135), (1, 2, [(4, 16)])),
  ((4, 59), (2, 3, [(0, 2), (1, 35), (2, 7), (3, 9), (6, 35), (9, 61)])),
  ((2, 9), (5, 3, [(0, 35)])),
  ((3, 9), (5, 3, [(0, 7)])),
  ((3, 13), (8, 2, [])),
  ((10, 7), (5, 3, [(0, 35)])),
  ((13, 47), (1, 3, [(10, 70)])),
  ((11, 139), (2, 3, [(0, 2), (1, 35), (2, 7), (3, 9), (6, 35), (9, 61)])),
  ((13, 52), (1, 1, [(10, 71)])),
  ((13, 56), (1, 1, [(10, 72)])),
  ((13, 60), (1, 0, [(10, 73)])),
  ((11, 147), (1, 1, [(4, 11)])),
  ((4, 25), (0, 2, [(0, 183)])),
  ((13, 64), (1, 2, [(10, 74)])),
  ((11, 151), (1, 2, [(10, 95)])),
  ((13, 68), (1, 2, [(10, 75)])),
  ((11, 163), (1, 2, [(5, 19)])),
  ((5, 37), (1, 1, [(4, 11)])),
  ((5, 41), (1, 1, [(5, 24)])),
  ((5, 99), (2, 3, [(0, 2), (1, 35), (2, 7), (3, 9), (6, 35), (9, 61)])),
  ((5, 109), (1, 2, [(4, 15)])),
  ((5, 112), (1, 2, [(4, 16)])),
  ((5, 45), (1, 2, [(5, 20)])),
  ((5, 52), (1, 2, [(5, 21)])),
  ((5, 65), (1, 2, [(8, 51)])),
  ((5, 69), (1, 2, [(4, 13)])),
  ((5, 76), (1, 3, [(5, 22)])),
  ((5, 95), (2, 1, [(0, 3), (1, 5), (2, 36), (3, 36), (6, 36), (9, 36)])),
  ((5, 56), (1, 2, [(4, 14)])),
  ((5, 49), (1, 1, [(5, 23)])),
  ((13, 72), (1, 1, [(10, 76)])),
  ((11, 167), (1, 1, [(5, 26)])),
  ((5, 115), (1, 2, [(5, 28)])),
  ((5, 121), (7, 5, [])),
  ((5, 127), (1, 1, [(5, 30)])),
  ((5, 135), (8, 2, [])),
  ((5, 131), (1, 3, [(5, 29)])),
  ((13, 76), (1, 0, [(10, 77)])),
  ((11, 179), (1, 1, [(5, 27)])),
  ((13, 80), (1, 3, [(10, 78)])),
  ((13, 84), (1, 3, [(10, 79)])),
  ((11, 189), (1, 1, [(10, 94)])),
  ((11, 193), (1, 2, [(10, 96)])),
  ((11, 258), (0, 2, [(0, 182)])),
  ((11, 249), (1, 0, [(8, 52)])),
  ((11, 264), (1, 2, [(10, 97)])),
  ((11, 268), (10, 2, [])),
  ((11, 197), (0, 2, [(0, 98)])),
  ((13, 89), (1, 3, [(10, 80)])),
  ((13, 93), (1, 2, [(10, 81)])),
  ((11, 201), (8, 2, [])),
  ((13, 97), (1, 3, [(10, 82)])),
  ((11, 206), (9, 2, [])),
  ((13, 101), (1, 2, [(10, 83)])),
  ((13, 105), (1, 2, [(10, 84)])),
  ((11, 218), (1, 2, [(10, 99)])),
  ((13, 109), (1, 1, [(10, 85)])),
  ((11, 224), (0, 1, [(0, 184)])),
  ((11, 229), (1, 1, [(10, 100)])),
  ((13, 113), (1, 4, [(10, 86)])),
  ((13, 118), (1, 2, [(10, 87)])),
  ((11, 232), (1, 3, [(5, 31)])),
  ((5, 140), (1, 1, [(5, 25)])),
  ((13, 122), (1, 1, [(10, 88)])),
  ((13, 126), (1, 1, [(10, 89)])),
  ((11, 236), (1, 3, [(5, 32)])),
  ((5, 146), (1, 1, [(8, 49)])),
  ((11, 240), (1, 3, [(5, 33)])),
  ((5, 150), (1, 3, [(5, 32)])),
  ((13, 130), (1, 0, [(10, 90)])),
  ((13, 134), (1, 0, [(10, 91)])),
  ((13, 138), (1, 1, [(10, 92)])),
  ((11, 253), (1, 0, [(4, 17)])),
  ((13, 12), (3, 0, [(0, 101)])),
  ((12, 1), (6, 0, [])),
  ((13, 19), (1, 2, [(11, 110)])),
  ((12, 120), (0, 3, [(0, 105)])),
  ((12, 127), (1, 1, [(11, 102)])),
  ((13, 24), (1, 0, [(11, 121)])),
  ((12, 184), (1, 0, [(11, 117)])),
  ((12, 136), (1, 0, [(11, 111)])),
  ((12, 157), (1, 1, [(11, 115)])),
  ((12, 144), (1, 1, [(11, 113)])),
  ((12, 140), (0, 3, [(0, 104)])),
  ((12, 147), (1, 1, [(11, 112)])),
  ((12, 160), (1, 1, [(11, 116)])),
  ((12, 151), (0, 1, [(0, 114)])),
  ((12, 188), (1, 2, [(11, 124)])),
  ((12, 202), (1, 1, [(11, 122)])),
  ((12, 206), (1, 1, [(11, 123)])),
  ((12, 192), (1, 1, [(11, 120)])),
  ((12, 175), (1, 0, [(11, 118)])),
  ((12, 178), (1, 3, [(11, 119)])),
  ((12, 172), (1, 1, [(11, 106)])),
  ((12, 181), (1, 1, [(11, 107)])),
  ((13, 29), (1, 2, [(11, 125)])),
  ((12, 215), (1, 0, [(11, 108)])),
  ((12, 218), (1, 2, [(11, 109)])),
  ((13, 33), (1, 2, [(11, 133)])),
  ((13, 37), (1, 2, [(11, 134)])),
  ((13, 42), (1, 1, [(11, 135)])),
  ((12, 229), (1, 1, [(11, 131)])),
  ((12, 232), (1, 1, [(11, 132)])),
  ((13, 46), (1, 1, [(11, 136)])),
  ((12, 236), (1, 1, [(11, 128)])),
  ((12, 225), (1, 2, [(11, 127)])),
  ((12, 222), (1, 3, [(11, 126)])),
  ((12, 239), (1, 1, [(11, 129)])),
  ((13, 51), (1, 3, [(11, 137)])),
  ((13, 55), (1, 1, [(11, 138)])),
  ((13, 59), (1, 1, [(11, 139)])),
  ((13, 63), (1, 0, [(11, 140)])),
  ((12, 242), (1, 1, [(11, 130)])),
  ((13, 67), (1, 2, [(11, 141)])),
  ((13, 71), (1, 2, [(11, 146)])),
  ((12, 258), (1, 1, [(11, 145)])),
  ((12, 250), (1, 1, [(11, 142)])),
  ((12, 254), (1, 1, [(11, 144)])),
  ((12, 247), (1, 1, [(11, 143)])),
  ((13, 75), (1, 1, [(11, 148)])),
  ((12, 267), (1, 1, [(11, 147)])),
  ((13, 79), (1, 0, [(11, 149)])),
  ((13, 83), (1, 3, [(11, 150)])),
  ((13, 88), (1, 3, [(11, 154)])),
  ((12, 273), (1, 1, [(11, 103)])),
  ((12, 270), (1, 0, [(11, 151)])),
  ((12, 277), (1, 2, [(11, 152)])),
  ((12, 281), (0, 2, [(0, 153)])),
  ((13, 92), (1, 3, [(11, 155)])),
  ((13, 96), (1, 2, [(11, 156)])),
  ((13, 100), (1, 3, [(11, 157)])),
  ((13, 104), (1, 2, [(11, 158)])),
  ((13, 108), (1, 2, [(11, 159)])),
  ((13, 112), (1, 1, [(11, 162)])),
  ((12, 285), (0, 1, [(0, 160)])),
  ((12, 288), (1, 1, [(11, 161)])),
  ((13, 117), (1, 4, [(11, 163)])),
  ((13, 121), (1, 2, [(11, 164)])),
  ((13, 125), (1, 1, [(11, 165)])),
  ((13, 129), (1, 1, [(11, 166)])),
  ((13, 133), (1, 0, [(11, 167)])),
  ((13, 137), (1, 0, [(11, 168)])),
  ((13, 141), (1, 1, [(11, 169)]))]
def CT : List ((Nat × Nat) × (Nat × Int)) := [
  ((9, 115), (0, 100000)),
  ((7, 78), (1, 0)),
  ((9, 89), (1, 0)),
  ((11, 87), (0, 100000)),
  ((11, 161), (2, 10)),
  ((11, 256), (2, 4000000000000000000)),
  ((18, 265), (0, 1431655765)),
  ((18, 266), (0, 858993459)),
  ((18, 267), (0, 252645135)),
  ((5, 143), (0, 1664525)),
  ((5, 144), (0, 1013904223)),
  ((5, 145), (0, 2147483647)),
  ((12, 131), (2, 255)),
  ((12, 116), (0, 100000)),
  ((12, 245), (2, 10)),
  ((12, 111), (2, 4000000000000000000)),
  ((12, 291), (0, 1664525)),
  ((12, 292), (0, 1013904223)),
  ((12, 293), (0, 2147483647)),
  ((13, 13), (2, 4294967295))]
def NT : List ((Nat × Nat) × Nat) := [((13, 7), 10), ((11, 7), 8), ((9, 58), 4), ((9, 65), 6), ((11, 26), 7), ((11, 33), 5), ((5, 9), 4), ((9, 100), 0), ((9, 103), 1), ((9, 106), 9), ((9, 109), 2), ((9, 112), 3), ((13, 10), 11)]
def AT : List (Nat × Nat) := [(9, 28)]
def ST : List ((Nat × Nat) × Nat) := [((14, 38), 0), ((14, 1053), 1)]
