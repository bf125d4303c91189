set_option maxRecDepth 100000 in
theorem kX12_mourners : KV yX12_mourners cX12_mourners 6 (some .int) 0 := ⟨⟨lw_h7 35 rfl rfl, lw_h7 36 rfl rfl⟩, ⟨in_X12, lw_h7 37 rfl rfl, ⟨nh_RX12.1, nh_RX12.2, pd_6⟩⟩⟩
set_option maxRecDepth 100000 in
theorem kX12_readsMourner : KV yX12_readsMourner cX12_readsMourner 2 (some .boolean) 0 := ⟨⟨lw_h7 40 rfl rfl, lw_gi 43 rfl rfl⟩, ⟨in_X12, lw_h7 41 rfl rfl, ⟨nh_RX12.1, nh_RX12.2, pd_8⟩⟩⟩
set_option maxRecDepth 100000 in
theorem kJ0_substring_37a41 : KV yJ0_substring_37a41 cJ0_substring_37a41 5 (some (.object "java/lang/String")) 2 := ⟨⟨lw_h7 44 rfl rfl, lw_h7 45 rfl rfl⟩, ⟨in_J0, lw_h7 46 rfl rfl, ⟨nh_RJ0.1, nh_RJ0.2, pd_53⟩⟩⟩
set_option maxRecDepth 100000 in
theorem kJ1_newString_b4f7a : KS yJ1_newString_b4f7a cJ1_newString_b4f7a 3 (some (.object "java/lang/String")) 3 := ⟨lw_h7 49 rfl rfl, ⟨in_J1, lw_h7 50 rfl rfl, ⟨nh_RJ1.1, nh_RJ1.2, pd_54⟩⟩⟩
set_option maxRecDepth 100000 in
theorem kJ7_copyOfRange_39247 : KS yJ7_copyOfRange_39247 cJ7_copyOfRange_39247 3 (some (.array .byte)) 3 := ⟨lw_h7 55 rfl rfl, ⟨in_J7, lw_h7 56 rfl rfl, ⟨nh_RJ7.1, nh_RJ7.2, pd_55⟩⟩⟩
set_option maxRecDepth 100000 in
theorem kJ7_copyOfRangeByte_39247 : KS yJ7_copyOfRangeByte_39247 cJ7_copyOfRangeByte_39247 5 (some (.array .byte)) 3 := ⟨lw_h7 58 rfl rfl, ⟨in_J7, lw_h7 59 rfl rfl, ⟨nh_RJ7.1, nh_RJ7.2, pd_55⟩⟩⟩
set_option maxRecDepth 100000 in
theorem kJ7_checkLength_df160 : KS yJ7_checkLength_df160 cJ7_checkLength_df160 2 none 2 := ⟨lw_h7 61 rfl rfl, ⟨in_J7, lw_h7 62 rfl rfl, ⟨nh_RJ7.1, nh_RJ7.2, pd_2⟩⟩⟩
set_option maxRecDepth 100000 in
theorem kJ0_init_031fb : KI yJ0_init_031fb cJ0_init_031fb 3 none 2 := ⟨⟨rfl, lw_h7 73 rfl rfl⟩, ⟨in_J0, lw_h7 74 rfl rfl, ⟨nh_RJ0.1, nh_RJ0.2, pd_56⟩⟩⟩
set_option maxRecDepth 100000 in
theorem kX12_weather : KV yX12_weather cX12_weather 3 (some .int) 0 := ⟨⟨lw_h7 118 rfl rfl, lw_h7 119 rfl rfl⟩, ⟨in_X12, lw_h7 120 rfl rfl, ⟨nh_RX12.1, nh_RX12.2, pd_6⟩⟩⟩
set_option maxRecDepth 100000 in
theorem kX12_rule : KV yX12_rule cX12_rule 2 (some .int) 0 := ⟨⟨lw_h7 122 rfl rfl, lw_h7 123 rfl rfl⟩, ⟨in_X12, lw_h7 124 rfl rfl, ⟨nh_RX12.1, nh_RX12.2, pd_6⟩⟩⟩
set_option maxRecDepth 100000 in
theorem kX12_readsRule : KV yX12_readsRule cX12_readsRule 3 (some .int) 0 := ⟨⟨lw_h7 127 rfl rfl, lw_gi 44 rfl rfl⟩, ⟨in_X12, lw_h7 128 rfl rfl, ⟨nh_RX12.1, nh_RX12.2, pd_6⟩⟩⟩
set_option maxRecDepth 100000 in
theorem kX12_readsRank : KV yX12_readsRank cX12_readsRank 4 (some .boolean) 1 := ⟨⟨lw_h7 131 rfl rfl, lw_gi 45 rfl rfl⟩, ⟨in_X12, lw_h7 132 rfl rfl, ⟨nh_RX12.1, nh_RX12.2, pd_5⟩⟩⟩
set_option maxRecDepth 100000 in
theorem kX12_readsThing : KV yX12_readsThing cX12_readsThing 2 (some .boolean) 0 := ⟨⟨lw_h7 135 rfl rfl, lw_gi 46 rfl rfl⟩, ⟨in_X12, lw_h7 136 rfl rfl, ⟨nh_RX12.1, nh_RX12.2, pd_8⟩⟩⟩
set_option maxRecDepth 100000 in
theorem kX12_codes : KV yX12_codes cX12_codes 2 none 1 := ⟨⟨lw_h7 139 rfl rfl, lw_gi 47 rfl rfl⟩, ⟨in_X12, lw_h7 140 rfl rfl, ⟨nh_RX12.1, nh_RX12.2, pd_3⟩⟩⟩
set_option maxRecDepth 100000 in
theorem kX12_laysCode : KV yX12_laysCode cX12_laysCode 4 none 2 := ⟨⟨lw_h7 147 rfl rfl, lw_gi 48 rfl rfl⟩, ⟨in_X12, lw_h7 148 rfl rfl, ⟨nh_RX12.1, nh_RX12.2, pd_59⟩⟩⟩
set_option maxRecDepth 100000 in
theorem kX12_hearse : KV yX12_hearse cX12_hearse 3 (some .int) 2 := ⟨⟨lw_h7 150 rfl rfl, lw_h7 151 rfl rfl⟩, ⟨in_X12, lw_h7 152 rfl rfl, ⟨nh_RX12.1, nh_RX12.2, pd_11⟩⟩⟩
set_option maxRecDepth 100000 in
theorem kX12_isHearse : KV yX12_isHearse cX12_isHearse 2 (some .boolean) 1 := ⟨⟨lw_h7 155 rfl rfl, lw_gi 49 rfl rfl⟩, ⟨in_X12, lw_h7 156 rfl rfl, ⟨nh_RX12.1, nh_RX12.2, pd_5⟩⟩⟩
set_option maxRecDepth 100000 in
theorem kX12_refuse : KV yX12_refuse cX12_refuse 1 (some .int) 0 := ⟨⟨lw_h7 160 rfl rfl, lw_gi 50 rfl rfl⟩, ⟨in_X12, lw_h7 161 rfl rfl, ⟨nh_RX12.1, nh_RX12.2, pd_6⟩⟩⟩
set_option maxRecDepth 100000 in
theorem kX12_paceOf : KV yX12_paceOf cX12_paceOf 3 (some .int) 2 := ⟨⟨lw_h7 164 rfl rfl, lw_gi 51 rfl rfl⟩, ⟨in_X12, lw_h7 165 rfl rfl, ⟨nh_RX12.1, nh_RX12.2, pd_27⟩⟩⟩
set_option maxRecDepth 100000 in
theorem kX12_isOn : KS yX12_isOn cX12_isOn 2 (some .boolean) 2 := ⟨lw_h7 167 rfl rfl, ⟨in_X12, lw_h7 168 rfl rfl, ⟨nh_RX12.1, nh_RX12.2, pd_60⟩⟩⟩
set_option maxRecDepth 100000 in
theorem kX12_freeAhead : KV yX12_freeAhead cX12_freeAhead 4 (some .int) 2 := ⟨⟨lw_h7 171 rfl rfl, lw_gi 52 rfl rfl⟩, ⟨in_X12, lw_h7 172 rfl rfl, ⟨nh_RX12.1, nh_RX12.2, pd_27⟩⟩⟩
set_option maxRecDepth 100000 in
theorem kX12_weatherOn : KV yX12_weatherOn cX12_weatherOn 2 (some .int) 1 := ⟨⟨lw_h7 175 rfl rfl, lw_gi 53 rfl rfl⟩, ⟨in_X12, lw_h7 176 rfl rfl, ⟨nh_RX12.1, nh_RX12.2, pd_4⟩⟩⟩
set_option maxRecDepth 100000 in
theorem kX12_bitsBy : KV yX12_bitsBy cX12_bitsBy 6 (some .int) 3 := ⟨⟨lw_h7 179 rfl rfl, lw_gi 54 rfl rfl⟩, ⟨in_X12, lw_h7 180 rfl rfl, ⟨nh_RX12.1, nh_RX12.2, pd_61⟩⟩⟩
set_option maxRecDepth 100000 in
theorem kX12_ruled : KV yX12_ruled cX12_ruled 4 (some .int) 0 := ⟨⟨lw_h7 184 rfl rfl, lw_gi 55 rfl rfl⟩, ⟨in_X12, lw_h7 185 rfl rfl, ⟨nh_RX12.1, nh_RX12.2, pd_6⟩⟩⟩
set_option maxRecDepth 100000 in
theorem kX12_worked : KS yX12_worked cX12_worked 3 (some .int) 3 := ⟨lw_h7 187 rfl rfl, ⟨in_X12, lw_h7 188 rfl rfl, ⟨nh_RX12.1, nh_RX12.2, pd_28⟩⟩⟩
set_option maxRecDepth 100000 in
theorem kX12_owners : KV yX12_owners cX12_owners 4 (some .int) 1 := ⟨⟨lw_h7 192 rfl rfl, lw_gi 56 rfl rfl⟩, ⟨in_X12, lw_h7 193 rfl rfl, ⟨nh_RX12.1, nh_RX12.2, pd_4⟩⟩⟩
set_option maxRecDepth 100000 in
theorem kX12_mourner : KV yX12_mourner cX12_mourner 3 (some .int) 2 := ⟨⟨lw_h7 195 rfl rfl, lw_h7 196 rfl rfl⟩, ⟨in_X12, lw_h7 197 rfl rfl, ⟨nh_RX12.1, nh_RX12.2, pd_11⟩⟩⟩
set_option maxRecDepth 100000 in
theorem kX12_isMourner : KV yX12_isMourner cX12_isMourner 2 (some .boolean) 1 := ⟨⟨lw_h7 200 rfl rfl, lw_gi 57 rfl rfl⟩, ⟨in_X12, lw_h7 201 rfl rfl, ⟨nh_RX12.1, nh_RX12.2, pd_5⟩⟩⟩
set_option maxRecDepth 100000 in
theorem kX12_nearest : KV yX12_nearest cX12_nearest 7 (some .int) 2 := ⟨⟨lw_h7 205 rfl rfl, lw_gi 58 rfl rfl⟩, ⟨in_X12, lw_h7 206 rfl rfl, ⟨nh_RX12.1, nh_RX12.2, pd_27⟩⟩⟩
set_option maxRecDepth 100000 in
theorem kX12_sheet : KV yX12_sheet cX12_sheet 10 (some .int) 4 := ⟨⟨lw_h7 210 rfl rfl, lw_h7 211 rfl rfl⟩, ⟨in_X12, lw_h7 212 rfl rfl, ⟨nh_RX12.1, nh_RX12.2, pd_23⟩⟩⟩
set_option maxRecDepth 100000 in
theorem kX12_isEnded : KS yX12_isEnded cX12_isEnded 2 (some .boolean) 2 := ⟨lw_h7 215 rfl rfl, ⟨in_X12, lw_h7 216 rfl rfl, ⟨nh_RX12.1, nh_RX12.2, pd_60⟩⟩⟩
set_option maxRecDepth 100000 in
theorem kX12_undo : KV yX12_undo cX12_undo 2 (some .int) 0 := ⟨⟨lw_h7 218 rfl rfl, lw_h7 219 rfl rfl⟩, ⟨in_X12, lw_h7 220 rfl rfl, ⟨nh_RX12.1, nh_RX12.2, pd_6⟩⟩⟩
set_option maxRecDepth 100000 in
theorem kX12_steps : KV yX12_steps cX12_steps 2 (some .int) 1 := ⟨⟨lw_h7 222 rfl rfl, lw_h7 223 rfl rfl⟩, ⟨in_X12, lw_h7 224 rfl rfl, ⟨nh_RX12.1, nh_RX12.2, pd_4⟩⟩⟩
set_option maxRecDepth 100000 in
theorem kX12_putsBy : KV yX12_putsBy cX12_putsBy 2 none 0 := ⟨⟨lw_h7 228 rfl rfl, lw_gi 59 rfl rfl⟩, ⟨in_X12, lw_h7 229 rfl rfl, ⟨nh_RX12.1, nh_RX12.2, pd_0⟩⟩⟩
set_option maxRecDepth 100000 in
theorem kX12_goesOn : KV yX12_goesOn cX12_goesOn 4 none 2 := ⟨⟨lw_h7 232 rfl rfl, lw_gi 60 rfl rfl⟩, ⟨in_X12, lw_h7 233 rfl rfl, ⟨nh_RX12.1, nh_RX12.2, pd_59⟩⟩⟩
set_option maxRecDepth 100000 in
theorem kX12_stepGoes : KV yX12_stepGoes cX12_stepGoes 3 none 1 := ⟨⟨lw_h7 236 rfl rfl, lw_gi 61 rfl rfl⟩, ⟨in_X12, lw_h7 237 rfl rfl, ⟨nh_RX12.1, nh_RX12.2, pd_38⟩⟩⟩
set_option maxRecDepth 100000 in
theorem kX12_laysLine : KV yX12_laysLine cX12_laysLine 4 none 1 := ⟨⟨lw_h8 0 rfl rfl, lw_gi 62 rfl rfl⟩, ⟨in_X12, lw_h8 1 rfl rfl, ⟨nh_RX12.1, nh_RX12.2, pd_38⟩⟩⟩
set_option maxRecDepth 100000 in
theorem kX12_hearseGoes : KV yX12_hearseGoes cX12_hearseGoes 4 none 2 := ⟨⟨lw_h8 4 rfl rfl, lw_gi 63 rfl rfl⟩, ⟨in_X12, lw_h8 5 rfl rfl, ⟨nh_RX12.1, nh_RX12.2, pd_59⟩⟩⟩
set_option maxRecDepth 100000 in
theorem kX12_goal : KV yX12_goal cX12_goal 10 (some .int) 3 := ⟨⟨lw_h8 8 rfl rfl, lw_gi 64 rfl rfl⟩, ⟨in_X12, lw_h8 9 rfl rfl, ⟨nh_RX12.1, nh_RX12.2, pd_61⟩⟩⟩
set_option maxRecDepth 100000 in
theorem kX12_mournerGoes : KV yX12_mournerGoes cX12_mournerGoes 6 none 2 := ⟨⟨lw_h8 12 rfl rfl, lw_gi 65 rfl rfl⟩, ⟨in_X12, lw_h8 13 rfl rfl, ⟨nh_RX12.1, nh_RX12.2, pd_59⟩⟩⟩
set_option maxRecDepth 100000 in
theorem kX12_enters : KV yX12_enters cX12_enters 3 none 1 := ⟨⟨lw_h8 16 rfl rfl, lw_gi 66 rfl rfl⟩, ⟨in_X12, lw_h8 17 rfl rfl, ⟨nh_RX12.1, nh_RX12.2, pd_31⟩⟩⟩
set_option maxRecDepth 100000 in
theorem kX12_adds : KV yX12_adds cX12_adds 3 (some .int) 1 := ⟨⟨lw_h8 20 rfl rfl, lw_gi 67 rfl rfl⟩, ⟨in_X12, lw_h8 21 rfl rfl, ⟨nh_RX12.1, nh_RX12.2, pd_4⟩⟩⟩
set_option maxRecDepth 100000 in
theorem kX12_turnsTo : KV yX12_turnsTo cX12_turnsTo 2 (some .int) 1 := ⟨⟨lw_h8 23 rfl rfl, lw_h8 24 rfl rfl⟩, ⟨in_X12, lw_h8 25 rfl rfl, ⟨nh_RX12.1, nh_RX12.2, pd_4⟩⟩⟩
set_option maxRecDepth 100000 in
theorem kX12_turnsOne : KV yX12_turnsOne cX12_turnsOne 4 (some .int) 2 := ⟨⟨lw_h8 28 rfl rfl, lw_gi 68 rfl rfl⟩, ⟨in_X12, lw_h8 29 rfl rfl, ⟨nh_RX12.1, nh_RX12.2, pd_27⟩⟩⟩
set_option maxRecDepth 100000 in
theorem kX12_counted : KV yX12_counted cX12_counted 2 (some .int) 1 := ⟨⟨lw_h8 32 rfl rfl, lw_gi 69 rfl rfl⟩, ⟨in_X12, lw_h8 33 rfl rfl, ⟨nh_RX12.1, nh_RX12.2, pd_4⟩⟩⟩
set_option maxRecDepth 100000 in
theorem kX12_pushes : KV yX12_pushes cX12_pushes 3 (some .int) 2 := ⟨⟨lw_h8 35 rfl rfl, lw_h8 36 rfl rfl⟩, ⟨in_X12, lw_h8 37 rfl rfl, ⟨nh_RX12.1, nh_RX12.2, pd_11⟩⟩⟩
set_option maxRecDepth 100000 in
theorem kX12_pushesOne : KV yX12_pushesOne cX12_pushesOne 4 (some .int) 3 := ⟨⟨lw_h8 40 rfl rfl, lw_gi 70 rfl rfl⟩, ⟨in_X12, lw_h8 41 rfl rfl, ⟨nh_RX12.1, nh_RX12.2, pd_61⟩⟩⟩
set_option maxRecDepth 100000 in
theorem kX12_swaps : KV yX12_swaps cX12_swaps 3 (some .int) 2 := ⟨⟨lw_h8 45 rfl rfl, lw_h8 46 rfl rfl⟩, ⟨in_X12, lw_h8 47 rfl rfl, ⟨nh_RX12.1, nh_RX12.2, pd_11⟩⟩⟩
set_option maxRecDepth 100000 in
theorem kX12_swapsTwo : KV yX12_swapsTwo cX12_swapsTwo 4 (some .int) 2 := ⟨⟨lw_h8 50 rfl rfl, lw_gi 71 rfl rfl⟩, ⟨in_X12, lw_h8 51 rfl rfl, ⟨nh_RX12.1, nh_RX12.2, pd_11⟩⟩⟩
set_option maxRecDepth 100000 in
theorem kX12_hour : KV yX12_hour cX12_hour 5 (some .int) 0 := ⟨⟨lw_h8 53 rfl rfl, lw_h8 54 rfl rfl⟩, ⟨in_X12, lw_h8 55 rfl rfl, ⟨nh_RX12.1, nh_RX12.2, pd_6⟩⟩⟩
set_option maxRecDepth 100000 in
theorem kX12_readsAct : KV yX12_readsAct cX12_readsAct 2 (some .boolean) 0 := ⟨⟨lw_h8 58 rfl rfl, lw_gi 72 rfl rfl⟩, ⟨in_X12, lw_h8 59 rfl rfl, ⟨nh_RX12.1, nh_RX12.2, pd_8⟩⟩⟩
set_option maxRecDepth 100000 in
theorem kX12_digitIn : KV yX12_digitIn cX12_digitIn 3 (some .int) 2 := ⟨⟨lw_h8 63 rfl rfl, lw_gi 73 rfl rfl⟩, ⟨in_X12, lw_h8 64 rfl rfl, ⟨nh_RX12.1, nh_RX12.2, pd_11⟩⟩⟩
set_option maxRecDepth 100000 in
theorem kX12_does : KV yX12_does cX12_does 4 (some .boolean) 1 := ⟨⟨lw_h8 67 rfl rfl, lw_gi 74 rfl rfl⟩, ⟨in_X12, lw_h8 68 rfl rfl, ⟨nh_RX12.1, nh_RX12.2, pd_5⟩⟩⟩
set_option maxRecDepth 100000 in
theorem kX12_line : KV yX12_line cX12_line 2 (some .int) 0 := ⟨⟨lw_h8 70 rfl rfl, lw_h8 71 rfl rfl⟩, ⟨in_X12, lw_h8 72 rfl rfl, ⟨nh_RX12.1, nh_RX12.2, pd_6⟩⟩⟩
set_option maxRecDepth 100000 in
theorem kX12_ahead : KV yX12_ahead cX12_ahead 3 (some .int) 1 := ⟨⟨lw_h8 74 rfl rfl, lw_h8 75 rfl rfl⟩, ⟨in_X12, lw_h8 76 rfl rfl, ⟨nh_RX12.1, nh_RX12.2, pd_4⟩⟩⟩
set_option maxRecDepth 100000 in
theorem kX12_copies : KV yX12_copies cX12_copies 2 none 0 := ⟨⟨lw_h8 80 rfl rfl, lw_gi 75 rfl rfl⟩, ⟨in_X12, lw_h8 81 rfl rfl, ⟨nh_RX12.1, nh_RX12.2, pd_0⟩⟩⟩
set_option maxRecDepth 100000 in
theorem kX12_arrives : KV yX12_arrives cX12_arrives 3 (some .int) 1 := ⟨⟨lw_h8 83 rfl rfl, lw_h8 84 rfl rfl⟩, ⟨in_X12, lw_h8 85 rfl rfl, ⟨nh_RX12.1, nh_RX12.2, pd_4⟩⟩⟩
set_option maxRecDepth 100000 in
theorem kX12_jam : KV yX12_jam cX12_jam 4 (some .int) 1 := ⟨⟨lw_h8 87 rfl rfl, lw_h8 88 rfl rfl⟩, ⟨in_X12, lw_h8 89 rfl rfl, ⟨nh_RX12.1, nh_RX12.2, pd_4⟩⟩⟩
set_option maxRecDepth 100000 in
theorem kX12_passes : KV yX12_passes cX12_passes 4 (some .int) 2 := ⟨⟨lw_h8 91 rfl rfl, lw_h8 92 rfl rfl⟩, ⟨in_X12, lw_h8 93 rfl rfl, ⟨nh_RX12.1, nh_RX12.2, pd_11⟩⟩⟩
set_option maxRecDepth 100000 in
theorem kX12_isAhead : KS yX12_isAhead cX12_isAhead 3 (some .boolean) 3 := ⟨lw_h8 95 rfl rfl, ⟨in_X12, lw_h8 96 rfl rfl, ⟨nh_RX12.1, nh_RX12.2, pd_62⟩⟩⟩
set_option maxRecDepth 100000 in
theorem kX12_ends : KV yX12_ends cX12_ends 3 (some .int) 1 := ⟨⟨lw_h8 98 rfl rfl, lw_h8 99 rfl rfl⟩, ⟨in_X12, lw_h8 100 rfl rfl, ⟨nh_RX12.1, nh_RX12.2, pd_4⟩⟩⟩
set_option maxRecDepth 100000 in
theorem kX12_right : KV yX12_right cX12_right 2 (some .int) 0 := ⟨⟨lw_h8 102 rfl rfl, lw_h8 103 rfl rfl⟩, ⟨in_X12, lw_h8 104 rfl rfl, ⟨nh_RX12.1, nh_RX12.2, pd_6⟩⟩⟩
set_option maxRecDepth 100000 in
theorem kX12_rightThen : KV yX12_rightThen cX12_rightThen 3 (some .int) 0 := ⟨⟨lw_h8 107 rfl rfl, lw_gi 76 rfl rfl⟩, ⟨in_X12, lw_h8 108 rfl rfl, ⟨nh_RX12.1, nh_RX12.2, pd_6⟩⟩⟩
set_option maxRecDepth 100000 in
theorem kX12_endedBy : KV yX12_endedBy cX12_endedBy 5 (some .int) 2 := ⟨⟨lw_h8 111 rfl rfl, lw_gi 77 rfl rfl⟩, ⟨in_X12, lw_h8 112 rfl rfl, ⟨nh_RX12.1, nh_RX12.2, pd_63⟩⟩⟩
set_option maxRecDepth 100000 in
theorem kX12_order : KV yX12_order cX12_order 2 (some .int) 0 := ⟨⟨lw_h8 114 rfl rfl, lw_h8 115 rfl rfl⟩, ⟨in_X12, lw_h8 116 rfl rfl, ⟨nh_RX12.1, nh_RX12.2, pd_6⟩⟩⟩
set_option maxRecDepth 100000 in
theorem kX12_places : KV yX12_places cX12_places 5 none 2 := ⟨⟨lw_h8 119 rfl rfl, lw_gi 78 rfl rfl⟩, ⟨in_X12, lw_h8 120 rfl rfl, ⟨nh_RX12.1, nh_RX12.2, pd_2⟩⟩⟩
set_option maxRecDepth 100000 in
theorem kX12_has : KS yX12_has cX12_has 2 (some .boolean) 2 := ⟨lw_h8 122 rfl rfl, ⟨in_X12, lw_h8 123 rfl rfl, ⟨nh_RX12.1, nh_RX12.2, pd_34⟩⟩⟩
set_option maxRecDepth 100000 in
theorem kX12_stands : KV yX12_stands cX12_stands 5 (some .int) 1 := ⟨⟨lw_h8 125 rfl rfl, lw_h8 126 rfl rfl⟩, ⟨in_X12, lw_h8 127 rfl rfl, ⟨nh_RX12.1, nh_RX12.2, pd_4⟩⟩⟩
set_option maxRecDepth 100000 in
theorem kX12_when : KV yX12_when cX12_when 7 (some .int) 1 := ⟨⟨lw_h8 129 rfl rfl, lw_h8 130 rfl rfl⟩, ⟨in_X12, lw_h8 131 rfl rfl, ⟨nh_RX12.1, nh_RX12.2, pd_4⟩⟩⟩
set_option maxRecDepth 100000 in
theorem kX12_mends : KV yX12_mends cX12_mends 7 (some .int) 1 := ⟨⟨lw_h8 133 rfl rfl, lw_h8 134 rfl rfl⟩, ⟨in_X12, lw_h8 135 rfl rfl, ⟨nh_RX12.1, nh_RX12.2, pd_4⟩⟩⟩
set_option maxRecDepth 100000 in
theorem kX12_misleads : KV yX12_misleads cX12_misleads 6 (some .int) 0 := ⟨⟨lw_h8 138 rfl rfl, lw_h8 139 rfl rfl⟩, ⟨in_X12, lw_h8 140 rfl rfl, ⟨nh_RX12.1, nh_RX12.2, pd_6⟩⟩⟩
set_option maxRecDepth 100000 in
theorem kX12_crowd : KV yX12_crowd cX12_crowd 3 (some .int) 0 := ⟨⟨lw_h8 142 rfl rfl, lw_h8 143 rfl rfl⟩, ⟨in_X12, lw_h8 144 rfl rfl, ⟨nh_RX12.1, nh_RX12.2, pd_6⟩⟩⟩
set_option maxRecDepth 100000 in
theorem kX12_shares : KV yX12_shares cX12_shares 3 (some .int) 1 := ⟨⟨lw_h8 146 rfl rfl, lw_h8 147 rfl rfl⟩, ⟨in_X12, lw_h8 148 rfl rfl, ⟨nh_RX12.1, nh_RX12.2, pd_4⟩⟩⟩
set_option maxRecDepth 100000 in
theorem kX12_sharesFrom : KV yX12_sharesFrom cX12_sharesFrom 6 none 4 := ⟨⟨lw_h8 152 rfl rfl, lw_gi 79 rfl rfl⟩, ⟨in_X12, lw_h8 153 rfl rfl, ⟨nh_RX12.1, nh_RX12.2, pd_64⟩⟩⟩
set_option maxRecDepth 100000 in
theorem kX12_strangers : KV yX12_strangers cX12_strangers 7 (some .int) 0 := ⟨⟨lw_h8 155 rfl rfl, lw_h8 156 rfl rfl⟩, ⟨in_X12, lw_h8 157 rfl rfl, ⟨nh_RX12.1, nh_RX12.2, pd_6⟩⟩⟩
set_option maxRecDepth 100000 in
theorem kX12_doubts : KV yX12_doubts cX12_doubts 6 (some .int) 0 := ⟨⟨lw_h8 159 rfl rfl, lw_h8 160 rfl rfl⟩, ⟨in_X12, lw_h8 161 rfl rfl, ⟨nh_RX12.1, nh_RX12.2, pd_6⟩⟩⟩
set_option maxRecDepth 100000 in
theorem kX12_heard : KV yX12_heard cX12_heard 4 (some .int) 2 := ⟨⟨lw_h8 163 rfl rfl, lw_h8 164 rfl rfl⟩, ⟨in_X12, lw_h8 165 rfl rfl, ⟨nh_RX12.1, nh_RX12.2, pd_11⟩⟩⟩
set_option maxRecDepth 100000 in
theorem kX12_forget : KV yX12_forget cX12_forget 2 (some .int) 0 := ⟨⟨lw_h8 167 rfl rfl, lw_h8 168 rfl rfl⟩, ⟨in_X12, lw_h8 169 rfl rfl, ⟨nh_RX12.1, nh_RX12.2, pd_6⟩⟩⟩
set_option maxRecDepth 100000 in
theorem kX12_fits : KV yX12_fits cX12_fits 5 (some .int) 0 := ⟨⟨lw_h8 171 rfl rfl, lw_h8 172 rfl rfl⟩, ⟨in_X12, lw_h8 173 rfl rfl, ⟨nh_RX12.1, nh_RX12.2, pd_6⟩⟩⟩
set_option maxRecDepth 100000 in
theorem kX12_isSo : KV yX12_isSo cX12_isSo 4 (some .boolean) 3 := ⟨⟨lw_h8 176 rfl rfl, lw_gi 80 rfl rfl⟩, ⟨in_X12, lw_h8 177 rfl rfl, ⟨nh_RX12.1, nh_RX12.2, pd_46⟩⟩⟩
set_option maxRecDepth 100000 in
theorem kX12_rains : KV yX12_rains cX12_rains 12 (some .int) 3 := ⟨⟨lw_h8 179 rfl rfl, lw_h8 180 rfl rfl⟩, ⟨in_X12, lw_h8 181 rfl rfl, ⟨nh_RX12.1, nh_RX12.2, pd_28⟩⟩⟩
set_option maxRecDepth 100000 in
theorem kX12_common : KS yX12_common cX12_common 4 (some .long) 2 := ⟨lw_h8 185 rfl rfl, ⟨in_X12, lw_h8 186 rfl rfl, ⟨nh_RX12.1, nh_RX12.2, pd_45⟩⟩⟩
set_option maxRecDepth 100000 in
theorem kX12_law : KV yX12_law cX12_law 5 (some .int) 0 := ⟨⟨lw_h8 188 rfl rfl, lw_h8 189 rfl rfl⟩, ⟨in_X12, lw_h8 190 rfl rfl, ⟨nh_RX12.1, nh_RX12.2, pd_6⟩⟩⟩
set_option maxRecDepth 100000 in
theorem kX12_rests : KV yX12_rests cX12_rests 5 (some .int) 1 := ⟨⟨lw_h8 192 rfl rfl, lw_h8 193 rfl rfl⟩, ⟨in_X12, lw_h8 194 rfl rfl, ⟨nh_RX12.1, nh_RX12.2, pd_4⟩⟩⟩
set_option maxRecDepth 100000 in
theorem kX12_isRest : KS yX12_isRest cX12_isRest 5 (some .boolean) 3 := ⟨lw_h8 197 rfl rfl, ⟨in_X12, lw_h8 198 rfl rfl, ⟨nh_RX12.1, nh_RX12.2, pd_46⟩⟩⟩
set_option maxRecDepth 100000 in
theorem kX12_gets : KS yX12_gets cX12_gets 3 (some .int) 3 := ⟨lw_h8 200 rfl rfl, ⟨in_X12, lw_h8 201 rfl rfl, ⟨nh_RX12.1, nh_RX12.2, pd_28⟩⟩⟩
set_option maxRecDepth 100000 in
theorem kX12_years : KV yX12_years cX12_years 6 (some .int) 2 := ⟨⟨lw_h8 203 rfl rfl, lw_h8 204 rfl rfl⟩, ⟨in_X12, lw_h8 205 rfl rfl, ⟨nh_RX12.1, nh_RX12.2, pd_11⟩⟩⟩
set_option maxRecDepth 100000 in
theorem kX12_draws : KV yX12_draws cX12_draws 2 (some .int) 1 := ⟨⟨lw_h8 208 rfl rfl, lw_gi 81 rfl rfl⟩, ⟨in_X12, lw_h8 209 rfl rfl, ⟨nh_RX12.1, nh_RX12.2, pd_4⟩⟩⟩
set_option maxRecDepth 100000 in
theorem kX12_keep : KV yX12_keep cX12_keep 3 (some .boolean) 1 := ⟨⟨lw_h8 212 rfl rfl, lw_h8 213 rfl rfl⟩, ⟨in_X12, lw_h8 214 rfl rfl, ⟨nh_RX12.1, nh_RX12.2, pd_5⟩⟩⟩
set_option maxRecDepth 100000 in
theorem kX12_again : KV yX12_again cX12_again 3 (some .boolean) 1 := ⟨⟨lw_h8 217 rfl rfl, lw_h8 218 rfl rfl⟩, ⟨in_X12, lw_h8 219 rfl rfl, ⟨nh_RX12.1, nh_RX12.2, pd_5⟩⟩⟩
set_option maxRecDepth 100000 in
theorem kX12_count : KV yX12_count cX12_count 4 (some .int) 1 := ⟨⟨lw_h8 221 rfl rfl, lw_h8 222 rfl rfl⟩, ⟨in_X12, lw_h8 223 rfl rfl, ⟨nh_RX12.1, nh_RX12.2, pd_4⟩⟩⟩
set_option maxRecDepth 100000 in
theorem kX12_row : KV yX12_row cX12_row 2 (some .long) 1 := ⟨⟨lw_h8 225 rfl rfl, lw_h8 226 rfl rfl⟩, ⟨in_X12, lw_h8 227 rfl rfl, ⟨nh_RX12.1, nh_RX12.2, pd_47⟩⟩⟩
