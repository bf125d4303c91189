section
theorem lw_nl : ∀ w ∈ ([] : List Cond), w ∈ lw_good := fun _ h => absurd h List.not_mem_nil
theorem lw_cn {a : Cond} {l : List Cond} (h : a ∈ lw_good) (t : ∀ w ∈ l, w ∈ lw_good) : ∀ w ∈ a :: l, w ∈ lw_good := List.forall_mem_cons.mpr ⟨h, t⟩
set_option maxRecDepth 100000 in
theorem ml_X11_237 : Cond.methodLink RX11 237 yX11_paceNow ∈ lw_good := lw_h5 232 rfl rfl
set_option maxRecDepth 100000 in
theorem ml_X11_258 : Cond.methodLink RX11 258 yX2_observe ∈ lw_good := lw_h5 236 rfl rfl
set_option maxRecDepth 100000 in
theorem ml_X11_262 : Cond.methodLink RX11 262 yX2_pace ∈ lw_good := lw_h5 237 rfl rfl
set_option maxRecDepth 100000 in
theorem ml_L_15 : Cond.methodLink RL 15 yX11_mourner ∈ lw_good := lw_h6 2 rfl rfl
set_option maxRecDepth 100000 in
theorem ml_X11_273 : Cond.methodLink RX11 273 yX6_nearestTo ∈ lw_good := lw_h6 7 rfl rfl
set_option maxRecDepth 100000 in
theorem ml_L_18 : Cond.methodLink RL 18 yX11_row ∈ lw_good := lw_h6 12 rfl rfl
set_option maxRecDepth 100000 in
theorem cl_L_23 : Cond.classLink RL 23 RX12 ∈ lw_good := lw_h6 17 rfl rfl
set_option maxRecDepth 100000 in
theorem it_X12 : Cond.instantiable RX12 53 ∈ lw_good := lw_h6 18 rfl rfl
set_option maxRecDepth 100000 in
theorem ml_L_25 : Cond.methodLink RL 25 yX12_init ∈ lw_good := lw_h6 19 rfl rfl
set_option maxRecDepth 100000 in
theorem ml_X12_3 : Cond.methodLink RX12 3 objectInit ∈ lw_good := lw_h6 22 rfl rfl
set_option maxRecDepth 100000 in
theorem fl_X12_112 : Cond.fieldLink RX12 112 "BehindAnotherHearseModel" "thrown" "I" ∈ lw_good := lw_h6 23 rfl rfl
set_option maxRecDepth 100000 in
theorem fl_X12_119 : Cond.fieldLink RX12 119 "BehindAnotherHearseModel" "told" "I" ∈ lw_good := lw_h6 24 rfl rfl
set_option maxRecDepth 100000 in
theorem fl_X12_9 : Cond.fieldLink RX12 9 "BehindAnotherHearseModel" "row" "[J" ∈ lw_good := lw_h6 25 rfl rfl
set_option maxRecDepth 100000 in
theorem fl_X12_13 : Cond.fieldLink RX12 13 "BehindAnotherHearseModel" "cells" "I" ∈ lw_good := lw_h6 26 rfl rfl
set_option maxRecDepth 100000 in
theorem fl_X12_122 : Cond.fieldLink RX12 122 "BehindAnotherHearseModel" "hearses" "I" ∈ lw_good := lw_h6 27 rfl rfl
set_option maxRecDepth 100000 in
theorem fl_X12_129 : Cond.fieldLink RX12 129 "BehindAnotherHearseModel" "mourners" "I" ∈ lw_good := lw_h6 28 rfl rfl
set_option maxRecDepth 100000 in
theorem fl_X12_211 : Cond.fieldLink RX12 211 "BehindAnotherHearseModel" "changes" "I" ∈ lw_good := lw_h6 29 rfl rfl
set_option maxRecDepth 100000 in
theorem fl_X12_17 : Cond.fieldLink RX12 17 "BehindAnotherHearseModel" "skyLong" "I" ∈ lw_good := lw_h6 30 rfl rfl
set_option maxRecDepth 100000 in
theorem fl_X12_20 : Cond.fieldLink RX12 20 "BehindAnotherHearseModel" "corner" "[Z" ∈ lw_good := lw_h6 31 rfl rfl
set_option maxRecDepth 100000 in
theorem fl_X12_24 : Cond.fieldLink RX12 24 "BehindAnotherHearseModel" "own" "[I" ∈ lw_good := lw_h6 32 rfl rfl
set_option maxRecDepth 100000 in
theorem fl_X12_28 : Cond.fieldLink RX12 28 "BehindAnotherHearseModel" "sky" "[I" ∈ lw_good := lw_h6 33 rfl rfl
set_option maxRecDepth 100000 in
theorem fl_X12_31 : Cond.fieldLink RX12 31 "BehindAnotherHearseModel" "now" "[I" ∈ lw_good := lw_h6 34 rfl rfl
set_option maxRecDepth 100000 in
theorem fl_X12_34 : Cond.fieldLink RX12 34 "BehindAnotherHearseModel" "then" "[I" ∈ lw_good := lw_h6 35 rfl rfl
set_option maxRecDepth 100000 in
theorem fl_X12_37 : Cond.fieldLink RX12 37 "BehindAnotherHearseModel" "tape" "[I" ∈ lw_good := lw_h6 36 rfl rfl
set_option maxRecDepth 100000 in
theorem fl_X12_136 : Cond.fieldLink RX12 136 "BehindAnotherHearseModel" "taped" "I" ∈ lw_good := lw_h6 37 rfl rfl
set_option maxRecDepth 100000 in
theorem fl_X12_139 : Cond.fieldLink RX12 139 "BehindAnotherHearseModel" "at" "I" ∈ lw_good := lw_h6 38 rfl rfl
set_option maxRecDepth 100000 in
theorem fl_X12_151 : Cond.fieldLink RX12 151 "BehindAnotherHearseModel" "to" "I" ∈ lw_good := lw_h6 39 rfl rfl
set_option maxRecDepth 100000 in
theorem fl_X12_142 : Cond.fieldLink RX12 142 "BehindAnotherHearseModel" "nest" "I" ∈ lw_good := lw_h6 40 rfl rfl
set_option maxRecDepth 100000 in
theorem fl_X12_40 : Cond.fieldLink RX12 40 "BehindAnotherHearseModel" "readCorner" "[Z" ∈ lw_good := lw_h6 41 rfl rfl
set_option maxRecDepth 100000 in
theorem fl_X12_43 : Cond.fieldLink RX12 43 "BehindAnotherHearseModel" "read" "[I" ∈ lw_good := lw_h6 42 rfl rfl
set_option maxRecDepth 100000 in
theorem fl_X12_199 : Cond.fieldLink RX12 199 "BehindAnotherHearseModel" "readMany" "I" ∈ lw_good := lw_h6 43 rfl rfl
set_option maxRecDepth 100000 in
theorem fl_X12_46 : Cond.fieldLink RX12 46 "BehindAnotherHearseModel" "readSky" "[I" ∈ lw_good := lw_h6 44 rfl rfl
set_option maxRecDepth 100000 in
theorem fl_X12_49 : Cond.fieldLink RX12 49 "BehindAnotherHearseModel" "code" "[I" ∈ lw_good := lw_h6 45 rfl rfl
set_option maxRecDepth 100000 in
theorem fl_X12_52 : Cond.fieldLink RX12 52 "BehindAnotherHearseModel" "readCode" "[I" ∈ lw_good := lw_h6 46 rfl rfl
set_option maxRecDepth 100000 in
theorem fl_X12_252 : Cond.fieldLink RX12 252 "BehindAnotherHearseModel" "codeLong" "I" ∈ lw_good := lw_h6 47 rfl rfl
set_option maxRecDepth 100000 in
theorem fl_X12_231 : Cond.fieldLink RX12 231 "BehindAnotherHearseModel" "codesRead" "I" ∈ lw_good := lw_h6 48 rfl rfl
set_option maxRecDepth 100000 in
theorem fl_X12_55 : Cond.fieldLink RX12 55 "BehindAnotherHearseModel" "stack" "[I" ∈ lw_good := lw_h6 49 rfl rfl
set_option maxRecDepth 100000 in
theorem fl_X12_58 : Cond.fieldLink RX12 58 "BehindAnotherHearseModel" "asked" "[I" ∈ lw_good := lw_h6 50 rfl rfl
set_option maxRecDepth 100000 in
theorem fl_X12_186 : Cond.fieldLink RX12 186 "BehindAnotherHearseModel" "undos" "I" ∈ lw_good := lw_h6 51 rfl rfl
set_option maxRecDepth 100000 in
theorem fl_X12_61 : Cond.fieldLink RX12 61 "BehindAnotherHearseModel" "undone" "[I" ∈ lw_good := lw_h6 52 rfl rfl
set_option maxRecDepth 100000 in
theorem fl_X12_327 : Cond.fieldLink RX12 327 "BehindAnotherHearseModel" "waits" "I" ∈ lw_good := lw_h6 53 rfl rfl
set_option maxRecDepth 100000 in
theorem fl_X12_330 : Cond.fieldLink RX12 330 "BehindAnotherHearseModel" "turnings" "I" ∈ lw_good := lw_h6 54 rfl rfl
set_option maxRecDepth 100000 in
theorem fl_X12_64 : Cond.fieldLink RX12 64 "BehindAnotherHearseModel" "waitOn" "[I" ∈ lw_good := lw_h6 55 rfl rfl
set_option maxRecDepth 100000 in
theorem fl_X12_67 : Cond.fieldLink RX12 67 "BehindAnotherHearseModel" "turnOf" "[I" ∈ lw_good := lw_h6 56 rfl rfl
set_option maxRecDepth 100000 in
theorem fl_X12_70 : Cond.fieldLink RX12 70 "BehindAnotherHearseModel" "line" "[I" ∈ lw_good := lw_h6 57 rfl rfl
set_option maxRecDepth 100000 in
theorem fl_X12_321 : Cond.fieldLink RX12 321 "BehindAnotherHearseModel" "lineLong" "I" ∈ lw_good := lw_h6 58 rfl rfl
set_option maxRecDepth 100000 in
theorem fl_X12_73 : Cond.fieldLink RX12 73 "BehindAnotherHearseModel" "actSign" "[I" ∈ lw_good := lw_h6 59 rfl rfl
set_option maxRecDepth 100000 in
theorem fl_X12_76 : Cond.fieldLink RX12 76 "BehindAnotherHearseModel" "actOne" "[I" ∈ lw_good := lw_h6 60 rfl rfl
set_option maxRecDepth 100000 in
theorem fl_X12_79 : Cond.fieldLink RX12 79 "BehindAnotherHearseModel" "actTwo" "[I" ∈ lw_good := lw_h6 61 rfl rfl
set_option maxRecDepth 100000 in
theorem fl_X12_374 : Cond.fieldLink RX12 374 "BehindAnotherHearseModel" "acts" "I" ∈ lw_good := lw_h6 62 rfl rfl
set_option maxRecDepth 100000 in
theorem fl_X12_82 : Cond.fieldLink RX12 82 "BehindAnotherHearseModel" "place" "[I" ∈ lw_good := lw_h6 63 rfl rfl
set_option maxRecDepth 100000 in
theorem fl_X12_85 : Cond.fieldLink RX12 85 "BehindAnotherHearseModel" "bestPlace" "[I" ∈ lw_good := lw_h6 64 rfl rfl
set_option maxRecDepth 100000 in
theorem fl_X12_404 : Cond.fieldLink RX12 404 "BehindAnotherHearseModel" "bestMany" "I" ∈ lw_good := lw_h6 65 rfl rfl
set_option maxRecDepth 100000 in
theorem fl_X12_88 : Cond.fieldLink RX12 88 "BehindAnotherHearseModel" "given" "[I" ∈ lw_good := lw_h6 66 rfl rfl
set_option maxRecDepth 100000 in
theorem fl_X12_91 : Cond.fieldLink RX12 91 "BehindAnotherHearseModel" "bestGiven" "[I" ∈ lw_good := lw_h6 67 rfl rfl
set_option maxRecDepth 100000 in
theorem fl_X12_423 : Cond.fieldLink RX12 423 "BehindAnotherHearseModel" "heardMany" "I" ∈ lw_good := lw_h6 68 rfl rfl
set_option maxRecDepth 100000 in
theorem fl_X12_94 : Cond.fieldLink RX12 94 "BehindAnotherHearseModel" "heardWhat" "[I" ∈ lw_good := lw_h6 69 rfl rfl
set_option maxRecDepth 100000 in
theorem fl_X12_97 : Cond.fieldLink RX12 97 "BehindAnotherHearseModel" "heardOf" "[I" ∈ lw_good := lw_h6 70 rfl rfl
set_option maxRecDepth 100000 in
theorem fl_X12_100 : Cond.fieldLink RX12 100 "BehindAnotherHearseModel" "wasCode" "[I" ∈ lw_good := lw_h6 71 rfl rfl
set_option maxRecDepth 100000 in
theorem fl_X12_442 : Cond.fieldLink RX12 442 "BehindAnotherHearseModel" "random" "I" ∈ lw_good := lw_h6 72 rfl rfl
set_option maxRecDepth 100000 in
theorem fl_X12_103 : Cond.fieldLink RX12 103 "BehindAnotherHearseModel" "isKept" "[Z" ∈ lw_good := lw_h6 73 rfl rfl
set_option maxRecDepth 100000 in
theorem fl_X12_106 : Cond.fieldLink RX12 106 "BehindAnotherHearseModel" "keptChanges" "[I" ∈ lw_good := lw_h6 74 rfl rfl
set_option maxRecDepth 100000 in
theorem fl_X12_109 : Cond.fieldLink RX12 109 "BehindAnotherHearseModel" "kept" "[I" ∈ lw_good := lw_h6 75 rfl rfl
set_option maxRecDepth 100000 in
theorem ml_L_30 : Cond.methodLink RL 30 yX12_sign ∈ lw_good := lw_h6 183 rfl rfl
set_option maxRecDepth 100000 in
theorem ml_L_35 : Cond.methodLink RL 35 yX12_end ∈ lw_good := lw_h6 187 rfl rfl
set_option maxRecDepth 100000 in
theorem ml_X12_125 : Cond.methodLink RX12 125 yX12_in ∈ lw_good := lw_h6 191 rfl rfl
set_option maxRecDepth 100000 in
theorem ml_L_40 : Cond.methodLink RL 40 yX12_avenue ∈ lw_good := lw_h6 194 rfl rfl
set_option maxRecDepth 100000 in
theorem ml_X12_176 : Cond.methodLink RX12 176 yX12_begins ∈ lw_good := lw_h6 198 rfl rfl
set_option maxRecDepth 100000 in
theorem ml_X12_145 : Cond.methodLink RX12 145 yJ9_min_7cf53 ∈ lw_good := lw_h6 202 rfl rfl
set_option maxRecDepth 100000 in
theorem ml_X12_182 : Cond.methodLink RX12 182 yX12_takesOf ∈ lw_good := lw_h6 204 rfl rfl
set_option maxRecDepth 100000 in
theorem ml_X12_162 : Cond.methodLink RX12 162 yJ0_length_8abf5 ∈ lw_good := lw_h6 208 rfl rfl
set_option maxRecDepth 100000 in
theorem ml_X12_168 : Cond.methodLink RX12 168 yJ0_charAt_5068e ∈ lw_good := lw_h6 209 rfl rfl
set_option maxRecDepth 100000 in
theorem ml_J0_495 : Cond.methodLink RJ0 495 yJ1_charAt_3b067 ∈ lw_good := lw_h6 213 rfl rfl
set_option maxRecDepth 100000 in
theorem ml_J1_9 : Cond.methodLink RJ1 9 yJ0_checkIndex_df160 ∈ lw_good := lw_h6 216 rfl rfl
set_option maxRecDepth 100000 in
theorem ml_J0_1059 : Cond.methodLink RJ0 1059 yJ3_checkIndex_8e157 ∈ lw_good := lw_h6 219 rfl rfl
set_option maxRecDepth 100000 in
theorem ml_X12_154 : Cond.methodLink RX12 154 yX12_flag ∈ lw_good := lw_h6 229 rfl rfl
set_option maxRecDepth 100000 in
theorem ml_L_44 : Cond.methodLink RL 44 yX12_hearses ∈ lw_good := lw_h6 232 rfl rfl
set_option maxRecDepth 100000 in
theorem ml_X12_214 : Cond.methodLink RX12 214 yX12_readsHearse ∈ lw_good := lw_h6 236 rfl rfl
set_option maxRecDepth 100000 in
theorem ml_X12_202 : Cond.methodLink RX12 202 yX12_readsCell ∈ lw_good := lw_h7 0 rfl rfl
set_option maxRecDepth 100000 in
theorem ml_X12_189 : Cond.methodLink RX12 189 yX12_number ∈ lw_good := lw_h7 4 rfl rfl
set_option maxRecDepth 100000 in
theorem ml_X12_172 : Cond.methodLink RX12 172 yX12_isDigit ∈ lw_good := lw_h7 8 rfl rfl
set_option maxRecDepth 100000 in
theorem ct_X12_158 : Cond.constantLong RX12 158 (48) ∈ lw_good := lw_h7 12 rfl rfl
set_option maxRecDepth 100000 in
theorem ct_X12_160 : Cond.constantLong RX12 160 (57) ∈ lw_good := lw_h7 13 rfl rfl
set_option maxRecDepth 100000 in
theorem ml_X12_192 : Cond.methodLink RX12 192 yX12_gate ∈ lw_good := lw_h7 14 rfl rfl
set_option maxRecDepth 100000 in
theorem ml_X12_195 : Cond.methodLink RX12 195 yX12_onCell ∈ lw_good := lw_h7 18 rfl rfl
set_option maxRecDepth 100000 in
theorem ml_X12_217 : Cond.methodLink RX12 217 yX12_takes ∈ lw_good := lw_h7 22 rfl rfl
set_option maxRecDepth 100000 in
theorem ml_X12_221 : Cond.methodLink RX12 221 yX12_faultOf ∈ lw_good := lw_h7 26 rfl rfl
set_option maxRecDepth 100000 in
theorem ml_X12_225 : Cond.methodLink RX12 225 yX12_isNew ∈ lw_good := lw_h7 30 rfl rfl
set_option maxRecDepth 100000 in
theorem ml_L_48 : Cond.methodLink RL 48 yX12_mourners ∈ lw_good := lw_h7 34 rfl rfl
set_option maxRecDepth 100000 in
theorem ml_X12_228 : Cond.methodLink RX12 228 yX12_readsMourner ∈ lw_good := lw_h7 38 rfl rfl
set_option maxRecDepth 100000 in
theorem ml_X12_207 : Cond.methodLink RX12 207 yJ0_substring_37a41 ∈ lw_good := lw_h7 43 rfl rfl
set_option maxRecDepth 100000 in
theorem ml_J0_521 : Cond.methodLink RJ0 521 yJ0_checkBoundsBeginEnd_23922 ∈ lw_good := lw_h7 47 rfl rfl
set_option maxRecDepth 100000 in
theorem ml_J0_685 : Cond.methodLink RJ0 685 yJ1_newString_b4f7a ∈ lw_good := lw_h7 48 rfl rfl
set_option maxRecDepth 100000 in
theorem it_J0 : Cond.instantiable RJ0 4 ∈ lw_good := lw_h7 53 rfl rfl
set_option maxRecDepth 100000 in
theorem ml_J1_232 : Cond.methodLink RJ1 232 yJ7_copyOfRange_39247 ∈ lw_good := lw_h7 54 rfl rfl
set_option maxRecDepth 100000 in
theorem ml_J7_339 : Cond.methodLink RJ7 339 yJ7_copyOfRangeByte_39247 ∈ lw_good := lw_h7 57 rfl rfl
set_option maxRecDepth 100000 in
theorem ml_J7_343 : Cond.methodLink RJ7 343 yJ7_checkLength_df160 ∈ lw_good := lw_h7 60 rfl rfl
set_option maxRecDepth 100000 in
theorem ml_J7_304 : Cond.methodLink RJ7 304 yJ9_min_7cf53 ∈ lw_good := lw_h7 63 rfl rfl
set_option maxRecDepth 100000 in
theorem ml_J7_150 : Cond.methodLink RJ7 150 arraycopyName ∈ lw_good := lw_h7 64 rfl rfl
set_option maxRecDepth 100000 in
theorem ml_J1_112 : Cond.methodLink RJ1 112 yJ0_init_031fb ∈ lw_good := lw_h7 72 rfl rfl
set_option maxRecDepth 100000 in
theorem ml_J0_1 : Cond.methodLink RJ0 1 objectInit ∈ lw_good := lw_h7 75 rfl rfl
set_option maxRecDepth 100000 in
theorem ml_L_52 : Cond.methodLink RL 52 yX12_weather ∈ lw_good := lw_h7 117 rfl rfl
set_option maxRecDepth 100000 in
theorem ml_L_56 : Cond.methodLink RL 56 yX12_rule ∈ lw_good := lw_h7 121 rfl rfl
set_option maxRecDepth 100000 in
theorem ml_X12_255 : Cond.methodLink RX12 255 yX12_readsRule ∈ lw_good := lw_h7 125 rfl rfl
set_option maxRecDepth 100000 in
theorem ml_X12_243 : Cond.methodLink RX12 243 yX12_readsRank ∈ lw_good := lw_h7 129 rfl rfl
set_option maxRecDepth 100000 in
theorem ml_X12_234 : Cond.methodLink RX12 234 yX12_readsThing ∈ lw_good := lw_h7 133 rfl rfl
set_option maxRecDepth 100000 in
theorem ml_X12_237 : Cond.methodLink RX12 237 yX12_codes ∈ lw_good := lw_h7 137 rfl rfl
set_option maxRecDepth 100000 in
theorem ml_X12_258 : Cond.methodLink RX12 258 yX12_laysCode ∈ lw_good := lw_h7 145 rfl rfl
set_option maxRecDepth 100000 in
theorem ml_L_62 : Cond.methodLink RL 62 yX12_hearse ∈ lw_good := lw_h7 149 rfl rfl
set_option maxRecDepth 100000 in
theorem ml_X12_294 : Cond.methodLink RX12 294 yX12_isHearse ∈ lw_good := lw_h7 153 rfl rfl
set_option maxRecDepth 100000 in
theorem ct_X12_297 : Cond.constantLong RX12 297 (5) ∈ lw_good := lw_h7 157 rfl rfl
set_option maxRecDepth 100000 in
theorem ml_X12_299 : Cond.methodLink RX12 299 yX12_refuse ∈ lw_good := lw_h7 158 rfl rfl
set_option maxRecDepth 100000 in
theorem ml_X12_302 : Cond.methodLink RX12 302 yX12_paceOf ∈ lw_good := lw_h7 162 rfl rfl
set_option maxRecDepth 100000 in
theorem ml_X12_266 : Cond.methodLink RX12 266 yX12_isOn ∈ lw_good := lw_h7 166 rfl rfl
set_option maxRecDepth 100000 in
theorem ml_X12_269 : Cond.methodLink RX12 269 yX12_freeAhead ∈ lw_good := lw_h7 169 rfl rfl
set_option maxRecDepth 100000 in
theorem ml_X12_272 : Cond.methodLink RX12 272 yX12_weatherOn ∈ lw_good := lw_h7 173 rfl rfl
set_option maxRecDepth 100000 in
theorem ml_X12_275 : Cond.methodLink RX12 275 yX12_bitsBy ∈ lw_good := lw_h7 177 rfl rfl
set_option maxRecDepth 100000 in
theorem ml_X12_279 : Cond.methodLink RX12 279 yJ6_bitCount_0f7a4 ∈ lw_good := lw_h7 181 rfl rfl
set_option maxRecDepth 100000 in
theorem ml_X12_284 : Cond.methodLink RX12 284 yX12_ruled ∈ lw_good := lw_h7 182 rfl rfl
set_option maxRecDepth 100000 in
theorem ml_X12_262 : Cond.methodLink RX12 262 yX12_worked ∈ lw_good := lw_h7 186 rfl rfl
set_option maxRecDepth 100000 in
theorem ml_X12_287 : Cond.methodLink RX12 287 yJ9_max_7cf53 ∈ lw_good := lw_h7 189 rfl rfl
set_option maxRecDepth 100000 in
theorem ml_X12_305 : Cond.methodLink RX12 305 yX12_owners ∈ lw_good := lw_h7 190 rfl rfl
set_option maxRecDepth 100000 in
theorem ml_L_65 : Cond.methodLink RL 65 yX12_mourner ∈ lw_good := lw_h7 194 rfl rfl
set_option maxRecDepth 100000 in
theorem ml_X12_308 : Cond.methodLink RX12 308 yX12_isMourner ∈ lw_good := lw_h7 198 rfl rfl
set_option maxRecDepth 100000 in
theorem ct_X12_311 : Cond.constantLong RX12 311 (4) ∈ lw_good := lw_h7 202 rfl rfl
set_option maxRecDepth 100000 in
theorem ml_X12_313 : Cond.methodLink RX12 313 yX12_nearest ∈ lw_good := lw_h7 203 rfl rfl
set_option maxRecDepth 100000 in
theorem ml_X12_290 : Cond.methodLink RX12 290 yJ9_abs_0f7a4 ∈ lw_good := lw_h7 207 rfl rfl
set_option maxRecDepth 100000 in
theorem ct_X12_293 : Cond.constant RX12 293 (1000000) ∈ lw_good := lw_h7 208 rfl rfl
set_option maxRecDepth 100000 in
theorem ml_L_70 : Cond.methodLink RL 70 yX12_sheet ∈ lw_good := lw_h7 209 rfl rfl
set_option maxRecDepth 100000 in
theorem ct_X12_316 : Cond.constantLong RX12 316 (3) ∈ lw_good := lw_h7 213 rfl rfl
set_option maxRecDepth 100000 in
theorem ml_X12_132 : Cond.methodLink RX12 132 yX12_isEnded ∈ lw_good := lw_h7 214 rfl rfl
set_option maxRecDepth 100000 in
theorem ml_L_94 : Cond.methodLink RL 94 yX12_undo ∈ lw_good := lw_h7 217 rfl rfl
set_option maxRecDepth 100000 in
theorem ml_L_74 : Cond.methodLink RL 74 yX12_steps ∈ lw_good := lw_h7 221 rfl rfl
set_option maxRecDepth 100000 in
theorem ct_X12_350 : Cond.constantLong RX12 350 (60) ∈ lw_good := lw_h7 225 rfl rfl
set_option maxRecDepth 100000 in
theorem ml_X12_352 : Cond.methodLink RX12 352 yX12_putsBy ∈ lw_good := lw_h7 226 rfl rfl
set_option maxRecDepth 100000 in
theorem ml_X12_355 : Cond.methodLink RX12 355 yX12_goesOn ∈ lw_good := lw_h7 230 rfl rfl
set_option maxRecDepth 100000 in
theorem ml_X12_343 : Cond.methodLink RX12 343 yX12_stepGoes ∈ lw_good := lw_h7 234 rfl rfl
set_option maxRecDepth 100000 in
theorem ml_X12_333 : Cond.methodLink RX12 333 yX12_laysLine ∈ lw_good := lw_h7 238 rfl rfl
set_option maxRecDepth 100000 in
theorem ml_X12_337 : Cond.methodLink RX12 337 yX12_hearseGoes ∈ lw_good := lw_h8 2 rfl rfl
set_option maxRecDepth 100000 in
theorem ml_X12_324 : Cond.methodLink RX12 324 yX12_goal ∈ lw_good := lw_h8 6 rfl rfl
set_option maxRecDepth 100000 in
theorem ml_X12_340 : Cond.methodLink RX12 340 yX12_mournerGoes ∈ lw_good := lw_h8 10 rfl rfl
set_option maxRecDepth 100000 in
theorem ml_X12_358 : Cond.methodLink RX12 358 yX12_enters ∈ lw_good := lw_h8 14 rfl rfl
set_option maxRecDepth 100000 in
theorem ml_X12_318 : Cond.methodLink RX12 318 yX12_adds ∈ lw_good := lw_h8 18 rfl rfl
set_option maxRecDepth 100000 in
theorem ml_L_78 : Cond.methodLink RL 78 yX12_turnsTo ∈ lw_good := lw_h8 22 rfl rfl
set_option maxRecDepth 100000 in
theorem ml_X12_362 : Cond.methodLink RX12 362 yX12_turnsOne ∈ lw_good := lw_h8 26 rfl rfl
set_option maxRecDepth 100000 in
theorem ml_X12_365 : Cond.methodLink RX12 365 yX12_counted ∈ lw_good := lw_h8 30 rfl rfl
set_option maxRecDepth 100000 in
theorem ml_L_82 : Cond.methodLink RL 82 yX12_pushes ∈ lw_good := lw_h8 34 rfl rfl
set_option maxRecDepth 100000 in
theorem ml_X12_368 : Cond.methodLink RX12 368 yX12_pushesOne ∈ lw_good := lw_h8 38 rfl rfl
set_option maxRecDepth 100000 in
theorem ct_X12_346 : Cond.constantLong RX12 346 (-9) ∈ lw_good := lw_h8 42 rfl rfl
set_option maxRecDepth 100000 in
theorem ct_X12_348 : Cond.constantLong RX12 348 (9) ∈ lw_good := lw_h8 43 rfl rfl
set_option maxRecDepth 100000 in
theorem ml_L_86 : Cond.methodLink RL 86 yX12_swaps ∈ lw_good := lw_h8 44 rfl rfl
set_option maxRecDepth 100000 in
theorem ml_X12_371 : Cond.methodLink RX12 371 yX12_swapsTwo ∈ lw_good := lw_h8 48 rfl rfl
set_option maxRecDepth 100000 in
theorem ml_L_90 : Cond.methodLink RL 90 yX12_hour ∈ lw_good := lw_h8 52 rfl rfl
set_option maxRecDepth 100000 in
theorem ml_X12_382 : Cond.methodLink RX12 382 yX12_readsAct ∈ lw_good := lw_h8 56 rfl rfl
set_option maxRecDepth 100000 in
theorem ml_X12_379 : Cond.methodLink RX12 379 yX12_digitIn ∈ lw_good := lw_h8 61 rfl rfl
set_option maxRecDepth 100000 in
theorem ml_X12_385 : Cond.methodLink RX12 385 yX12_does ∈ lw_good := lw_h8 65 rfl rfl
set_option maxRecDepth 100000 in
theorem ml_L_98 : Cond.methodLink RL 98 yX12_line ∈ lw_good := lw_h8 69 rfl rfl
set_option maxRecDepth 100000 in
theorem ml_L_102 : Cond.methodLink RL 102 yX12_ahead ∈ lw_good := lw_h8 73 rfl rfl
set_option maxRecDepth 100000 in
theorem ct_X12_388 : Cond.constantLong RX12 388 (99) ∈ lw_good := lw_h8 77 rfl rfl
set_option maxRecDepth 100000 in
theorem ml_X12_390 : Cond.methodLink RX12 390 yX12_copies ∈ lw_good := lw_h8 78 rfl rfl
set_option maxRecDepth 100000 in
theorem ml_L_106 : Cond.methodLink RL 106 yX12_arrives ∈ lw_good := lw_h8 82 rfl rfl
set_option maxRecDepth 100000 in
theorem ml_L_110 : Cond.methodLink RL 110 yX12_jam ∈ lw_good := lw_h8 86 rfl rfl
set_option maxRecDepth 100000 in
theorem ml_L_114 : Cond.methodLink RL 114 yX12_passes ∈ lw_good := lw_h8 90 rfl rfl
set_option maxRecDepth 100000 in
theorem ml_X12_393 : Cond.methodLink RX12 393 yX12_isAhead ∈ lw_good := lw_h8 94 rfl rfl
set_option maxRecDepth 100000 in
theorem ml_L_118 : Cond.methodLink RL 118 yX12_ends ∈ lw_good := lw_h8 97 rfl rfl
set_option maxRecDepth 100000 in
theorem ml_L_122 : Cond.methodLink RL 122 yX12_right ∈ lw_good := lw_h8 101 rfl rfl
set_option maxRecDepth 100000 in
theorem ml_X12_401 : Cond.methodLink RX12 401 yX12_rightThen ∈ lw_good := lw_h8 105 rfl rfl
set_option maxRecDepth 100000 in
theorem ml_X12_397 : Cond.methodLink RX12 397 yX12_endedBy ∈ lw_good := lw_h8 109 rfl rfl
set_option maxRecDepth 100000 in
theorem ml_L_126 : Cond.methodLink RL 126 yX12_order ∈ lw_good := lw_h8 113 rfl rfl
set_option maxRecDepth 100000 in
theorem ml_X12_407 : Cond.methodLink RX12 407 yX12_places ∈ lw_good := lw_h8 117 rfl rfl
set_option maxRecDepth 100000 in
theorem ml_X12_411 : Cond.methodLink RX12 411 yX12_has ∈ lw_good := lw_h8 121 rfl rfl
set_option maxRecDepth 100000 in
theorem ml_L_130 : Cond.methodLink RL 130 yX12_stands ∈ lw_good := lw_h8 124 rfl rfl
set_option maxRecDepth 100000 in
theorem ml_L_134 : Cond.methodLink RL 134 yX12_when ∈ lw_good := lw_h8 128 rfl rfl
set_option maxRecDepth 100000 in
theorem ml_L_138 : Cond.methodLink RL 138 yX12_mends ∈ lw_good := lw_h8 132 rfl rfl
set_option maxRecDepth 100000 in
theorem ct_X12_415 : Cond.constantLong RX12 415 (8) ∈ lw_good := lw_h8 136 rfl rfl
set_option maxRecDepth 100000 in
theorem ml_L_142 : Cond.methodLink RL 142 yX12_misleads ∈ lw_good := lw_h8 137 rfl rfl
set_option maxRecDepth 100000 in
theorem ml_L_146 : Cond.methodLink RL 146 yX12_crowd ∈ lw_good := lw_h8 141 rfl rfl
set_option maxRecDepth 100000 in
theorem ml_L_150 : Cond.methodLink RL 150 yX12_shares ∈ lw_good := lw_h8 145 rfl rfl
set_option maxRecDepth 100000 in
theorem ct_X12_421 : Cond.constantLong RX12 421 (30) ∈ lw_good := lw_h8 149 rfl rfl
set_option maxRecDepth 100000 in
theorem ml_X12_417 : Cond.methodLink RX12 417 yX12_sharesFrom ∈ lw_good := lw_h8 150 rfl rfl
set_option maxRecDepth 100000 in
theorem ml_L_154 : Cond.methodLink RL 154 yX12_strangers ∈ lw_good := lw_h8 154 rfl rfl
set_option maxRecDepth 100000 in
theorem ml_L_158 : Cond.methodLink RL 158 yX12_doubts ∈ lw_good := lw_h8 158 rfl rfl
set_option maxRecDepth 100000 in
theorem ml_L_162 : Cond.methodLink RL 162 yX12_heard ∈ lw_good := lw_h8 162 rfl rfl
set_option maxRecDepth 100000 in
theorem ml_L_166 : Cond.methodLink RL 166 yX12_forget ∈ lw_good := lw_h8 166 rfl rfl
set_option maxRecDepth 100000 in
theorem ml_L_170 : Cond.methodLink RL 170 yX12_fits ∈ lw_good := lw_h8 170 rfl rfl
set_option maxRecDepth 100000 in
theorem ml_X12_426 : Cond.methodLink RX12 426 yX12_isSo ∈ lw_good := lw_h8 174 rfl rfl
set_option maxRecDepth 100000 in
theorem ml_L_175 : Cond.methodLink RL 175 yX12_rains ∈ lw_good := lw_h8 178 rfl rfl
set_option maxRecDepth 100000 in
theorem ct_X12_430 : Cond.constantLong RX12 430 (12) ∈ lw_good := lw_h8 182 rfl rfl
set_option maxRecDepth 100000 in
theorem ct_X12_432 : Cond.constantLong RX12 432 (10) ∈ lw_good := lw_h8 183 rfl rfl
set_option maxRecDepth 100000 in
theorem ml_X12_115 : Cond.methodLink RX12 115 yX12_common ∈ lw_good := lw_h8 184 rfl rfl
set_option maxRecDepth 100000 in
theorem ml_L_179 : Cond.methodLink RL 179 yX12_law ∈ lw_good := lw_h8 187 rfl rfl
set_option maxRecDepth 100000 in
theorem ml_L_183 : Cond.methodLink RL 183 yX12_rests ∈ lw_good := lw_h8 191 rfl rfl
set_option maxRecDepth 100000 in
theorem ct_X12_437 : Cond.constantLong RX12 437 (20) ∈ lw_good := lw_h8 195 rfl rfl
set_option maxRecDepth 100000 in
theorem ml_X12_439 : Cond.methodLink RX12 439 yX12_isRest ∈ lw_good := lw_h8 196 rfl rfl
set_option maxRecDepth 100000 in
theorem ml_X12_434 : Cond.methodLink RX12 434 yX12_gets ∈ lw_good := lw_h8 199 rfl rfl
set_option maxRecDepth 100000 in
theorem ml_L_187 : Cond.methodLink RL 187 yX12_years ∈ lw_good := lw_h8 202 rfl rfl
set_option maxRecDepth 100000 in
theorem ml_X12_446 : Cond.methodLink RX12 446 yX12_draws ∈ lw_good := lw_h8 206 rfl rfl
set_option maxRecDepth 100000 in
theorem ct_X12_445 : Cond.constant RX12 445 (1103515245) ∈ lw_good := lw_h8 210 rfl rfl
set_option maxRecDepth 100000 in
theorem ml_L_191 : Cond.methodLink RL 191 yX12_keep ∈ lw_good := lw_h8 211 rfl rfl
set_option maxRecDepth 100000 in
theorem ct_X12_449 : Cond.constantLong RX12 449 (2) ∈ lw_good := lw_h8 215 rfl rfl
set_option maxRecDepth 100000 in
theorem ml_L_195 : Cond.methodLink RL 195 yX12_again ∈ lw_good := lw_h8 216 rfl rfl
set_option maxRecDepth 100000 in
theorem ml_L_199 : Cond.methodLink RL 199 yX12_count ∈ lw_good := lw_h8 220 rfl rfl
set_option maxRecDepth 100000 in
theorem ml_L_203 : Cond.methodLink RL 203 yX12_row ∈ lw_good := lw_h8 224 rfl rfl
set_option maxRecDepth 100000 in
theorem iJ0 : ∀ w ∈ u_ws RJ0 TJ0 4, w ∈ lw_good := lw_cn (lw_h7 78 rfl rfl) (lw_cn (lw_h7 80 rfl rfl) (lw_cn (lw_h7 82 rfl rfl) (lw_cn (lw_h7 84 rfl rfl) (lw_nl))))
set_option maxRecDepth 100000 in
theorem iX0 : ∀ w ∈ u_ws RX0 TX0 3, w ∈ lw_good := lw_cn (lw_h2 23 rfl rfl) (lw_cn (lw_h2 25 rfl rfl) (lw_cn (lw_h2 27 rfl rfl) (lw_nl)))
set_option maxRecDepth 100000 in
theorem iX1 : ∀ w ∈ u_ws RX1 TX1 3, w ∈ lw_good := lw_cn (lw_h1 195 rfl rfl) (lw_cn (lw_h1 197 rfl rfl) (lw_cn (lw_h1 199 rfl rfl) (lw_nl)))
set_option maxRecDepth 100000 in
theorem iX2 : ∀ w ∈ u_ws RX2 TX2 6, w ∈ lw_good := lw_cn (lw_h2 61 rfl rfl) (lw_cn (lw_h2 63 rfl rfl) (lw_cn (lw_h2 65 rfl rfl) (lw_cn (lw_h2 67 rfl rfl) (lw_cn (lw_h2 69 rfl rfl) (lw_cn (lw_h2 71 rfl rfl) (lw_nl))))))
set_option maxRecDepth 100000 in
theorem iX3 : ∀ w ∈ u_ws RX3 TX3 3, w ∈ lw_good := lw_cn (lw_h2 6 rfl rfl) (lw_cn (lw_h2 8 rfl rfl) (lw_cn (lw_h2 10 rfl rfl) (lw_nl)))
set_option maxRecDepth 100000 in
theorem iX4 : ∀ w ∈ u_ws RX4 TX4 2, w ∈ lw_good := lw_cn (lw_h1 212 rfl rfl) (lw_cn (lw_h1 214 rfl rfl) (lw_nl))
set_option maxRecDepth 100000 in
theorem iX5 : ∀ w ∈ u_ws RX5 TX5 4, w ∈ lw_good := lw_cn (lw_h2 40 rfl rfl) (lw_cn (lw_h2 42 rfl rfl) (lw_cn (lw_h2 44 rfl rfl) (lw_cn (lw_h2 46 rfl rfl) (lw_nl))))
set_option maxRecDepth 100000 in
theorem iX6 : ∀ w ∈ u_ws RX6 TX6 11, w ∈ lw_good := lw_cn (lw_h1 130 rfl rfl) (lw_cn (lw_h1 132 rfl rfl) (lw_cn (lw_h1 134 rfl rfl) (lw_cn (lw_h1 136 rfl rfl) (lw_cn (lw_h1 138 rfl rfl) (lw_cn (lw_h1 140 rfl rfl) (lw_cn (lw_h1 142 rfl rfl) (lw_cn (lw_h1 144 rfl rfl) (lw_cn (lw_h1 146 rfl rfl) (lw_cn (lw_h1 148 rfl rfl) (lw_cn (lw_h1 150 rfl rfl) (lw_nl)))))))))))
set_option maxRecDepth 100000 in
theorem iX7 : ∀ w ∈ u_ws RX7 TX7 2, w ∈ lw_good := lw_cn (lw_h1 229 rfl rfl) (lw_cn (lw_h1 231 rfl rfl) (lw_nl))
set_option maxRecDepth 100000 in
theorem iX8 : ∀ w ∈ u_ws RX8 TX8 4, w ∈ lw_good := lw_cn (lw_h1 75 rfl rfl) (lw_cn (lw_h1 77 rfl rfl) (lw_cn (lw_h1 79 rfl rfl) (lw_cn (lw_h1 81 rfl rfl) (lw_nl))))
set_option maxRecDepth 100000 in
theorem iX9 : ∀ w ∈ u_ws RX9 TX9 4, w ∈ lw_good := lw_cn (lw_h1 49 rfl rfl) (lw_cn (lw_h1 51 rfl rfl) (lw_cn (lw_h1 53 rfl rfl) (lw_cn (lw_h1 55 rfl rfl) (lw_nl))))
set_option maxRecDepth 100000 in
theorem iX10 : ∀ w ∈ u_ws RX10 TX10 6, w ∈ lw_good := lw_cn (lw_h1 169 rfl rfl) (lw_cn (lw_h1 171 rfl rfl) (lw_cn (lw_h1 173 rfl rfl) (lw_cn (lw_h1 175 rfl rfl) (lw_cn (lw_h1 177 rfl rfl) (lw_cn (lw_h1 179 rfl rfl) (lw_nl))))))
set_option maxRecDepth 100000 in
theorem iX11 : ∀ w ∈ u_ws RX11 TX11 18, w ∈ lw_good := lw_cn (lw_h2 108 rfl rfl) (lw_cn (lw_h2 110 rfl rfl) (lw_cn (lw_h2 112 rfl rfl) (lw_cn (lw_h2 114 rfl rfl) (lw_cn (lw_h2 116 rfl rfl) (lw_cn (lw_h2 118 rfl rfl) (lw_cn (lw_h2 120 rfl rfl) (lw_cn (lw_h2 122 rfl rfl) (lw_cn (lw_h2 124 rfl rfl) (lw_cn (lw_h2 126 rfl rfl) (lw_cn (lw_h2 128 rfl rfl) (lw_cn (lw_h2 130 rfl rfl) (lw_cn (lw_h2 132 rfl rfl) (lw_cn (lw_h2 134 rfl rfl) (lw_cn (lw_h2 136 rfl rfl) (lw_cn (lw_h2 138 rfl rfl) (lw_cn (lw_h2 140 rfl rfl) (lw_cn (lw_h2 142 rfl rfl) (lw_nl))))))))))))))))))
set_option maxRecDepth 100000 in
theorem iX12 : ∀ w ∈ u_ws RX12 TX12 53, w ∈ lw_good := lw_cn (lw_h6 76 rfl rfl) (lw_cn (lw_h6 78 rfl rfl) (lw_cn (lw_h6 80 rfl rfl) (lw_cn (lw_h6 82 rfl rfl) (lw_cn (lw_h6 84 rfl rfl) (lw_cn (lw_h6 86 rfl rfl) (lw_cn (lw_h6 88 rfl rfl) (lw_cn (lw_h6 90 rfl rfl) (lw_cn (lw_h6 92 rfl rfl) (lw_cn (lw_h6 94 rfl rfl) (lw_cn (lw_h6 96 rfl rfl) (lw_cn (lw_h6 98 rfl rfl) (lw_cn (lw_h6 100 rfl rfl) (lw_cn (lw_h6 102 rfl rfl) (lw_cn (lw_h6 104 rfl rfl) (lw_cn (lw_h6 106 rfl rfl) (lw_cn (lw_h6 108 rfl rfl) (lw_cn (lw_h6 110 rfl rfl) (lw_cn (lw_h6 112 rfl rfl) (lw_cn (lw_h6 114 rfl rfl) (lw_cn (lw_h6 116 rfl rfl) (lw_cn (lw_h6 118 rfl rfl) (lw_cn (lw_h6 120 rfl rfl) (lw_cn (lw_h6 122 rfl rfl) (lw_cn (lw_h6 124 rfl rfl) (lw_cn (lw_h6 126 rfl rfl) (lw_cn (lw_h6 128 rfl rfl) (lw_cn (lw_h6 130 rfl rfl) (lw_cn (lw_h6 132 rfl rfl) (lw_cn (lw_h6 134 rfl rfl) (lw_cn (lw_h6 136 rfl rfl) (lw_cn (lw_h6 138 rfl rfl) (lw_cn (lw_h6 140 rfl rfl) (lw_cn (lw_h6 142 rfl rfl) (lw_cn (lw_h6 144 rfl rfl) (lw_cn (lw_h6 146 rfl rfl) (lw_cn (lw_h6 148 rfl rfl) (lw_cn (lw_h6 150 rfl rfl) (lw_cn (lw_h6 152 rfl rfl) (lw_cn (lw_h6 154 rfl rfl) (lw_cn (lw_h6 156 rfl rfl) (lw_cn (lw_h6 158 rfl rfl) (lw_cn (lw_h6 160 rfl rfl) (lw_cn (lw_h6 162 rfl rfl) (lw_cn (lw_h6 164 rfl rfl) (lw_cn (lw_h6 166 rfl rfl) (lw_cn (lw_h6 168 rfl rfl) (lw_cn (lw_h6 170 rfl rfl) (lw_cn (lw_h6 172 rfl rfl) (lw_cn (lw_h6 174 rfl rfl) (lw_cn (lw_h6 176 rfl rfl) (lw_cn (lw_h6 178 rfl rfl) (lw_cn (lw_h6 180 rfl rfl) (lw_nl)))))))))))))))))))))))))))))))))))))))))))))))))))))
set_option maxRecDepth 100000 in
theorem kX11_init : KI yX11_init cX11_init 2 none 0 := ⟨⟨rfl, lw_h1 30 rfl rfl⟩, ⟨in_X11, lw_h1 31 rfl rfl, ⟨nh_RX11.1, nh_RX11.2, pd_0⟩⟩⟩
set_option maxRecDepth 100000 in
theorem kX9_init : KI yX9_init cX9_init 1 none 0 := ⟨⟨rfl, lw_h1 38 rfl rfl⟩, ⟨in_X9, lw_h1 39 rfl rfl, ⟨nh_RX9.1, nh_RX9.2, pd_0⟩⟩⟩
set_option maxRecDepth 100000 in
theorem kX8_init : KI yX8_init cX8_init 1 none 0 := ⟨⟨rfl, lw_h1 62 rfl rfl⟩, ⟨in_X8, lw_h1 63 rfl rfl, ⟨nh_RX8.1, nh_RX8.2, pd_0⟩⟩⟩
set_option maxRecDepth 100000 in
theorem kX6_init : KI yX6_init cX6_init 1 none 0 := ⟨⟨rfl, lw_h1 87 rfl rfl⟩, ⟨in_X6, lw_h1 88 rfl rfl, ⟨nh_RX6.1, nh_RX6.2, pd_0⟩⟩⟩
set_option maxRecDepth 100000 in
theorem kX10_init : KI yX10_init cX10_init 2 none 1 := ⟨⟨rfl, lw_h1 156 rfl rfl⟩, ⟨in_X10, lw_h1 157 rfl rfl, ⟨nh_RX10.1, nh_RX10.2, pd_1⟩⟩⟩
set_option maxRecDepth 100000 in
theorem kX1_init : KI yX1_init cX1_init 2 none 0 := ⟨⟨rfl, lw_h1 185 rfl rfl⟩, ⟨in_X1, lw_h1 186 rfl rfl, ⟨nh_RX1.1, nh_RX1.2, pd_0⟩⟩⟩
set_option maxRecDepth 100000 in
theorem kX4_init : KI yX4_init cX4_init 1 none 0 := ⟨⟨rfl, lw_h1 205 rfl rfl⟩, ⟨in_X4, lw_h1 206 rfl rfl, ⟨nh_RX4.1, nh_RX4.2, pd_0⟩⟩⟩
set_option maxRecDepth 100000 in
theorem kX7_init : KI yX7_init cX7_init 1 none 0 := ⟨⟨rfl, lw_h1 222 rfl rfl⟩, ⟨in_X7, lw_h1 223 rfl rfl, ⟨nh_RX7.1, nh_RX7.2, pd_0⟩⟩⟩
set_option maxRecDepth 100000 in
theorem kX3_init : KI yX3_init cX3_init 1 none 0 := ⟨⟨rfl, lw_h1 237 rfl rfl⟩, ⟨in_X3, lw_h1 238 rfl rfl, ⟨nh_RX3.1, nh_RX3.2, pd_0⟩⟩⟩
set_option maxRecDepth 100000 in
theorem kX0_init : KI yX0_init cX0_init 1 none 0 := ⟨⟨rfl, lw_h2 16 rfl rfl⟩, ⟨in_X0, lw_h2 17 rfl rfl, ⟨nh_RX0.1, nh_RX0.2, pd_0⟩⟩⟩
set_option maxRecDepth 100000 in
theorem kX5_init : KI yX5_init cX5_init 1 none 0 := ⟨⟨rfl, lw_h2 33 rfl rfl⟩, ⟨in_X5, lw_h2 34 rfl rfl, ⟨nh_RX5.1, nh_RX5.2, pd_0⟩⟩⟩
set_option maxRecDepth 100000 in
theorem kX2_init : KI yX2_init cX2_init 1 none 0 := ⟨⟨rfl, lw_h2 52 rfl rfl⟩, ⟨in_X2, lw_h2 53 rfl rfl, ⟨nh_RX2.1, nh_RX2.2, pd_0⟩⟩⟩
set_option maxRecDepth 100000 in
theorem kX2_becomePlain : KV yX2_becomePlain cX2_becomePlain 1 none 0 := ⟨⟨lw_h2 75 rfl rfl, lw_h2 76 rfl rfl⟩, ⟨in_X2, lw_h2 77 rfl rfl, ⟨nh_RX2.1, nh_RX2.2, pd_0⟩⟩⟩
set_option maxRecDepth 100000 in
theorem kX2_clear : KV yX2_clear cX2_clear 1 none 0 := ⟨⟨lw_h2 79 rfl rfl, lw_h2 80 rfl rfl⟩, ⟨in_X2, lw_h2 81 rfl rfl, ⟨nh_RX2.1, nh_RX2.2, pd_0⟩⟩⟩
set_option maxRecDepth 100000 in
theorem kX2_add : KV yX2_add cX2_add 3 none 2 := ⟨⟨lw_h2 83 rfl rfl, lw_h2 84 rfl rfl⟩, ⟨in_X2, lw_h2 85 rfl rfl, ⟨nh_RX2.1, nh_RX2.2, pd_2⟩⟩⟩
set_option maxRecDepth 100000 in
theorem kX2_addLetter : KV yX2_addLetter cX2_addLetter 2 none 1 := ⟨⟨lw_h2 87 rfl rfl, lw_h2 88 rfl rfl⟩, ⟨in_X2, lw_h2 89 rfl rfl, ⟨nh_RX2.1, nh_RX2.2, pd_3⟩⟩⟩
set_option maxRecDepth 100000 in
theorem kX11_sign : KV yX11_sign cX11_sign 2 (some .int) 1 := ⟨⟨lw_h2 146 rfl rfl, lw_h2 147 rfl rfl⟩, ⟨in_X11, lw_h2 148 rfl rfl, ⟨nh_RX11.1, nh_RX11.2, pd_4⟩⟩⟩
set_option maxRecDepth 100000 in
theorem kX9_addFour : KV yX9_addFour cX9_addFour 3 (some .boolean) 1 := ⟨⟨lw_h2 150 rfl rfl, lw_h2 151 rfl rfl⟩, ⟨in_X9, lw_h2 152 rfl rfl, ⟨nh_RX9.1, nh_RX9.2, pd_5⟩⟩⟩
set_option maxRecDepth 100000 in
theorem kX11_end : KV yX11_end cX11_end 2 (some .boolean) 1 := ⟨⟨lw_h2 154 rfl rfl, lw_h2 155 rfl rfl⟩, ⟨in_X11, lw_h2 156 rfl rfl, ⟨nh_RX11.1, nh_RX11.2, pd_5⟩⟩⟩
set_option maxRecDepth 100000 in
theorem kX9_cutTo : KV yX9_cutTo cX9_cutTo 2 (some .boolean) 1 := ⟨⟨lw_h2 158 rfl rfl, lw_h2 159 rfl rfl⟩, ⟨in_X9, lw_h2 160 rfl rfl, ⟨nh_RX9.1, nh_RX9.2, pd_5⟩⟩⟩
set_option maxRecDepth 100000 in
theorem kX11_avenue : KV yX11_avenue cX11_avenue 3 (some .int) 0 := ⟨⟨lw_h2 162 rfl rfl, lw_h2 163 rfl rfl⟩, ⟨in_X11, lw_h2 164 rfl rfl, ⟨nh_RX11.1, nh_RX11.2, pd_6⟩⟩⟩
set_option maxRecDepth 100000 in
theorem kX11_avenueFault : KV yX11_avenueFault cX11_avenueFault 3 (some .int) 0 := ⟨⟨lw_h2 167 rfl rfl, lw_gi 0 rfl rfl⟩, ⟨in_X11, lw_h2 168 rfl rfl, ⟨nh_RX11.1, nh_RX11.2, pd_6⟩⟩⟩
set_option maxRecDepth 100000 in
theorem kX9_signAt : KV yX9_signAt cX9_signAt 2 (some .int) 1 := ⟨⟨lw_h2 170 rfl rfl, lw_h2 171 rfl rfl⟩, ⟨in_X9, lw_h2 172 rfl rfl, ⟨nh_RX9.1, nh_RX9.2, pd_4⟩⟩⟩
set_option maxRecDepth 100000 in
theorem kX8_become : KV yX8_become cX8_become 3 none 1 := ⟨⟨lw_h2 174 rfl rfl, lw_h2 175 rfl rfl⟩, ⟨in_X8, lw_h2 176 rfl rfl, ⟨nh_RX8.1, nh_RX8.2, pd_7⟩⟩⟩
set_option maxRecDepth 100000 in
theorem kX6_clear : KV yX6_clear cX6_clear 1 none 0 := ⟨⟨lw_h2 179 rfl rfl, lw_h2 180 rfl rfl⟩, ⟨in_X6, lw_h2 181 rfl rfl, ⟨nh_RX6.1, nh_RX6.2, pd_0⟩⟩⟩
set_option maxRecDepth 100000 in
theorem kX1_clear : KV yX1_clear cX1_clear 1 none 0 := ⟨⟨lw_h2 183 rfl rfl, lw_h2 184 rfl rfl⟩, ⟨in_X1, lw_h2 185 rfl rfl, ⟨nh_RX1.1, nh_RX1.2, pd_0⟩⟩⟩
set_option maxRecDepth 100000 in
theorem kX11_forgetKept : KV yX11_forgetKept cX11_forgetKept 2 none 0 := ⟨⟨lw_h2 188 rfl rfl, lw_gi 1 rfl rfl⟩, ⟨in_X11, lw_h2 189 rfl rfl, ⟨nh_RX11.1, nh_RX11.2, pd_0⟩⟩⟩
set_option maxRecDepth 100000 in
theorem kX9_clear : KV yX9_clear cX9_clear 1 none 0 := ⟨⟨lw_h2 191 rfl rfl, lw_h2 192 rfl rfl⟩, ⟨in_X9, lw_h2 193 rfl rfl, ⟨nh_RX9.1, nh_RX9.2, pd_0⟩⟩⟩
set_option maxRecDepth 100000 in
theorem kX11_hearses : KV yX11_hearses cX11_hearses 2 (some .int) 0 := ⟨⟨lw_h2 195 rfl rfl, lw_h2 196 rfl rfl⟩, ⟨in_X11, lw_h2 197 rfl rfl, ⟨nh_RX11.1, nh_RX11.2, pd_6⟩⟩⟩
set_option maxRecDepth 100000 in
theorem kX9_isEmpty : KV yX9_isEmpty cX9_isEmpty 1 (some .boolean) 0 := ⟨⟨lw_h2 199 rfl rfl, lw_h2 200 rfl rfl⟩, ⟨in_X9, lw_h2 201 rfl rfl, ⟨nh_RX9.1, nh_RX9.2, pd_8⟩⟩⟩
set_option maxRecDepth 100000 in
theorem kX11_readLines : KV yX11_readLines cX11_readLines 4 (some .int) 1 := ⟨⟨lw_h2 204 rfl rfl, lw_gi 2 rfl rfl⟩, ⟨in_X11, lw_h2 205 rfl rfl, ⟨nh_RX11.1, nh_RX11.2, pd_9⟩⟩⟩
set_option maxRecDepth 100000 in
theorem kX6_copyFrom : KV yX6_copyFrom cX6_copyFrom 2 none 1 := ⟨⟨lw_h2 207 rfl rfl, lw_h2 208 rfl rfl⟩, ⟨in_X6, lw_h2 209 rfl rfl, ⟨nh_RX6.1, nh_RX6.2, pd_10⟩⟩⟩
set_option maxRecDepth 100000 in
theorem kX9_open : KV yX9_open cX9_open 2 none 1 := ⟨⟨lw_h2 214 rfl rfl, lw_h2 215 rfl rfl⟩, ⟨in_X9, lw_h2 216 rfl rfl, ⟨nh_RX9.1, nh_RX9.2, pd_3⟩⟩⟩
set_option maxRecDepth 100000 in
theorem kX11_readHearse : KV yX11_readHearse cX11_readHearse 2 (some .boolean) 0 := ⟨⟨lw_h2 222 rfl rfl, lw_gi 3 rfl rfl⟩, ⟨in_X11, lw_h2 223 rfl rfl, ⟨nh_RX11.1, nh_RX11.2, pd_8⟩⟩⟩
set_option maxRecDepth 100000 in
theorem kX11_readCell : KV yX11_readCell cX11_readCell 2 (some .int) 0 := ⟨⟨lw_h2 226 rfl rfl, lw_gi 4 rfl rfl⟩, ⟨in_X11, lw_h2 227 rfl rfl, ⟨nh_RX11.1, nh_RX11.2, pd_6⟩⟩⟩
set_option maxRecDepth 100000 in
theorem kX9_number : KV yX9_number cX9_number 5 (some .int) 1 := ⟨⟨lw_h2 229 rfl rfl, lw_h2 230 rfl rfl⟩, ⟨in_X9, lw_h2 231 rfl rfl, ⟨nh_RX9.1, nh_RX9.2, pd_4⟩⟩⟩
set_option maxRecDepth 100000 in
theorem kX9_digit : KV yX9_digit cX9_digit 2 (some .int) 0 := ⟨⟨lw_h2 233 rfl rfl, lw_h2 234 rfl rfl⟩, ⟨in_X9, lw_h2 235 rfl rfl, ⟨nh_RX9.1, nh_RX9.2, pd_6⟩⟩⟩
set_option maxRecDepth 100000 in
theorem kX9_look : KV yX9_look cX9_look 1 (some .int) 0 := ⟨⟨lw_h2 237 rfl rfl, lw_h2 238 rfl rfl⟩, ⟨in_X9, lw_h2 239 rfl rfl, ⟨nh_RX9.1, nh_RX9.2, pd_6⟩⟩⟩
set_option maxRecDepth 100000 in
theorem kX9_pass : KV yX9_pass cX9_pass 1 none 0 := ⟨⟨lw_h3 1 rfl rfl, lw_h3 2 rfl rfl⟩, ⟨in_X9, lw_h3 3 rfl rfl, ⟨nh_RX9.1, nh_RX9.2, pd_0⟩⟩⟩
set_option maxRecDepth 100000 in
theorem kX8_gate : KV yX8_gate cX8_gate 1 (some .int) 0 := ⟨⟨lw_h3 5 rfl rfl, lw_h3 6 rfl rfl⟩, ⟨in_X8, lw_h3 7 rfl rfl, ⟨nh_RX8.1, nh_RX8.2, pd_6⟩⟩⟩
set_option maxRecDepth 100000 in
theorem kX9_back : KV yX9_back cX9_back 1 none 0 := ⟨⟨lw_h3 9 rfl rfl, lw_h3 10 rfl rfl⟩, ⟨in_X9, lw_h3 11 rfl rfl, ⟨nh_RX9.1, nh_RX9.2, pd_0⟩⟩⟩
set_option maxRecDepth 100000 in
theorem kX6_hearseOn : KV yX6_hearseOn cX6_hearseOn 3 (some .int) 1 := ⟨⟨lw_h3 13 rfl rfl, lw_h3 14 rfl rfl⟩, ⟨in_X6, lw_h3 15 rfl rfl, ⟨nh_RX6.1, nh_RX6.2, pd_4⟩⟩⟩
set_option maxRecDepth 100000 in
theorem kX6_addHearse : KV yX6_addHearse cX6_addHearse 2 none 1 := ⟨⟨lw_h3 17 rfl rfl, lw_h3 18 rfl rfl⟩, ⟨in_X6, lw_h3 19 rfl rfl, ⟨nh_RX6.1, nh_RX6.2, pd_3⟩⟩⟩
set_option maxRecDepth 100000 in
theorem kX11_readMourner : KV yX11_readMourner cX11_readMourner 3 (some .boolean) 0 := ⟨⟨lw_h3 22 rfl rfl, lw_gi 5 rfl rfl⟩, ⟨in_X11, lw_h3 23 rfl rfl, ⟨nh_RX11.1, nh_RX11.2, pd_8⟩⟩⟩
set_option maxRecDepth 100000 in
theorem kX6_addMourner : KV yX6_addMourner cX6_addMourner 3 none 2 := ⟨⟨lw_h3 27 rfl rfl, lw_h3 28 rfl rfl⟩, ⟨in_X6, lw_h3 29 rfl rfl, ⟨nh_RX6.1, nh_RX6.2, pd_2⟩⟩⟩
set_option maxRecDepth 100000 in
theorem kX9_skip : KV yX9_skip cX9_skip 2 (some .boolean) 1 := ⟨⟨lw_h3 31 rfl rfl, lw_h3 32 rfl rfl⟩, ⟨in_X9, lw_h3 33 rfl rfl, ⟨nh_RX9.1, nh_RX9.2, pd_5⟩⟩⟩
set_option maxRecDepth 100000 in
theorem kX9_isWhole : KV yX9_isWhole cX9_isWhole 1 (some .boolean) 0 := ⟨⟨lw_h3 35 rfl rfl, lw_h3 36 rfl rfl⟩, ⟨in_X9, lw_h3 37 rfl rfl, ⟨nh_RX9.1, nh_RX9.2, pd_8⟩⟩⟩
set_option maxRecDepth 100000 in
theorem kX11_mourners : KV yX11_mourners cX11_mourners 2 (some .int) 0 := ⟨⟨lw_h3 39 rfl rfl, lw_h3 40 rfl rfl⟩, ⟨in_X11, lw_h3 41 rfl rfl, ⟨nh_RX11.1, nh_RX11.2, pd_6⟩⟩⟩
set_option maxRecDepth 100000 in
theorem kX11_weather : KV yX11_weather cX11_weather 3 (some .int) 0 := ⟨⟨lw_h3 43 rfl rfl, lw_h3 44 rfl rfl⟩, ⟨in_X11, lw_h3 45 rfl rfl, ⟨nh_RX11.1, nh_RX11.2, pd_6⟩⟩⟩
set_option maxRecDepth 100000 in
theorem kX11_weatherFault : KV yX11_weatherFault cX11_weatherFault 3 (some .int) 0 := ⟨⟨lw_h3 48 rfl rfl, lw_gi 6 rfl rfl⟩, ⟨in_X11, lw_h3 49 rfl rfl, ⟨nh_RX11.1, nh_RX11.2, pd_6⟩⟩⟩
set_option maxRecDepth 100000 in
theorem kX8_takeWeather : KV yX8_takeWeather cX8_takeWeather 3 none 1 := ⟨⟨lw_h3 51 rfl rfl, lw_h3 52 rfl rfl⟩, ⟨in_X8, lw_h3 53 rfl rfl, ⟨nh_RX8.1, nh_RX8.2, pd_7⟩⟩⟩
set_option maxRecDepth 100000 in
theorem kX11_rule : KV yX11_rule cX11_rule 3 (some .int) 0 := ⟨⟨lw_h3 55 rfl rfl, lw_h3 56 rfl rfl⟩, ⟨in_X11, lw_h3 57 rfl rfl, ⟨nh_RX11.1, nh_RX11.2, pd_6⟩⟩⟩
set_option maxRecDepth 100000 in
theorem kX5_read : KV yX5_read cX5_read 4 (some .int) 2 := ⟨⟨lw_h3 59 rfl rfl, lw_h3 60 rfl rfl⟩, ⟨in_X5, lw_h3 61 rfl rfl, ⟨nh_RX5.1, nh_RX5.2, pd_12⟩⟩⟩
set_option maxRecDepth 100000 in
theorem kX9_isRead : KV yX9_isRead cX9_isRead 1 (some .boolean) 0 := ⟨⟨lw_h3 67 rfl rfl, lw_h3 68 rfl rfl⟩, ⟨in_X9, lw_h3 69 rfl rfl, ⟨nh_RX9.1, nh_RX9.2, pd_8⟩⟩⟩
set_option maxRecDepth 100000 in
theorem kX5_takeThing : KV yX5_takeThing cX5_takeThing 6 (some .boolean) 2 := ⟨⟨lw_h3 72 rfl rfl, lw_gi 7 rfl rfl⟩, ⟨in_X5, lw_h3 73 rfl rfl, ⟨nh_RX5.1, nh_RX5.2, pd_13⟩⟩⟩
set_option maxRecDepth 100000 in
theorem kX5_hold : KV yX5_hold cX5_hold 2 none 1 := ⟨⟨lw_h3 79 rfl rfl, lw_gi 8 rfl rfl⟩, ⟨in_X5, lw_h3 80 rfl rfl, ⟨nh_RX5.1, nh_RX5.2, pd_3⟩⟩⟩
set_option maxRecDepth 100000 in
theorem kJ0_indexOf_0f7a4 : KV yJ0_indexOf_0f7a4 cJ0_indexOf_0f7a4 2 (some .int) 1 := ⟨⟨lw_h3 83 rfl rfl, lw_h3 84 rfl rfl⟩, ⟨in_J0, lw_h3 85 rfl rfl, ⟨nh_RJ0.1, nh_RJ0.2, pd_4⟩⟩⟩
set_option maxRecDepth 100000 in
theorem kJ0_indexOf_7cf53 : KV yJ0_indexOf_7cf53 cJ0_indexOf_7cf53 3 (some .int) 2 := ⟨⟨lw_h3 87 rfl rfl, lw_h3 88 rfl rfl⟩, ⟨in_J0, lw_h3 89 rfl rfl, ⟨nh_RJ0.1, nh_RJ0.2, pd_11⟩⟩⟩
set_option maxRecDepth 100000 in
theorem kJ0_isLatin1_aae02 : KV yJ0_isLatin1_aae02 cJ0_isLatin1_aae02 1 (some .boolean) 0 := ⟨⟨lw_h3 91 rfl rfl, lw_h3 92 rfl rfl⟩, ⟨in_J0, lw_h3 93 rfl rfl, ⟨nh_RJ0.1, nh_RJ0.2, pd_8⟩⟩⟩
set_option maxRecDepth 100000 in
theorem kJ0_length_8abf5 : KV yJ0_length_8abf5 cJ0_length_8abf5 1 (some .int) 0 := ⟨⟨lw_h3 97 rfl rfl, lw_h3 98 rfl rfl⟩, ⟨in_J0, lw_h3 99 rfl rfl, ⟨nh_RJ0.1, nh_RJ0.2, pd_6⟩⟩⟩
set_option maxRecDepth 100000 in
theorem kJ0_coder_7d493 : KV yJ0_coder_7d493 cJ0_coder_7d493 1 (some .byte) 0 := ⟨⟨lw_h3 101 rfl rfl, lw_h3 102 rfl rfl⟩, ⟨in_J0, lw_h3 103 rfl rfl, ⟨nh_RJ0.1, nh_RJ0.2, pd_14⟩⟩⟩
set_option maxRecDepth 100000 in
theorem kJ1_indexOf_4cfef : KS yJ1_indexOf_4cfef cJ1_indexOf_4cfef 4 (some .int) 4 := ⟨lw_h3 105 rfl rfl, ⟨in_J1, lw_h3 106 rfl rfl, ⟨nh_RJ1.1, nh_RJ1.2, pd_15⟩⟩⟩
set_option maxRecDepth 100000 in
theorem kJ1_canEncode_9a6ad : KS yJ1_canEncode_9a6ad cJ1_canEncode_9a6ad 1 (some .boolean) 1 := ⟨lw_h3 108 rfl rfl, ⟨in_J1, lw_h3 109 rfl rfl, ⟨nh_RJ1.1, nh_RJ1.2, pd_5⟩⟩⟩
set_option maxRecDepth 100000 in
theorem kJ1_indexOfChar_4cfef : KS yJ1_indexOfChar_4cfef cJ1_indexOfChar_4cfef 6 (some .int) 4 := ⟨lw_h3 115 rfl rfl, ⟨in_J1, lw_h3 116 rfl rfl, ⟨nh_RJ1.1, nh_RJ1.2, pd_15⟩⟩⟩
set_option maxRecDepth 100000 in
theorem kJ0_checkBoundsBeginEnd_23922 : KS yJ0_checkBoundsBeginEnd_23922 cJ0_checkBoundsBeginEnd_23922 3 none 3 := ⟨lw_h3 133 rfl rfl, ⟨in_J0, lw_h3 134 rfl rfl, ⟨nh_RJ0.1, nh_RJ0.2, pd_18⟩⟩⟩
set_option maxRecDepth 100000 in
theorem kJ3_checkFromToIndex_8c36e : KS yJ3_checkFromToIndex_8c36e cJ3_checkFromToIndex_8c36e 4 (some .int) 4 := ⟨lw_h3 138 rfl rfl, ⟨in_J3, lw_h3 139 rfl rfl, ⟨nh_RJ3.1, nh_RJ3.2, pd_19⟩⟩⟩
set_option maxRecDepth 100000 in
theorem kX5_takeSign : KV yX5_takeSign cX5_takeSign 5 (some .boolean) 2 := ⟨⟨lw_h3 170 rfl rfl, lw_gi 9 rfl rfl⟩, ⟨in_X5, lw_h3 171 rfl rfl, ⟨nh_RX5.1, nh_RX5.2, pd_13⟩⟩⟩
set_option maxRecDepth 100000 in
theorem kX5_bindingOf : KS yX5_bindingOf cX5_bindingOf 1 (some .int) 1 := ⟨lw_h3 173 rfl rfl, ⟨in_X5, lw_h3 174 rfl rfl, ⟨nh_RX5.1, nh_RX5.2, pd_4⟩⟩⟩
set_option maxRecDepth 100000 in
theorem kX5_release : KV yX5_release cX5_release 3 none 2 := ⟨⟨lw_h3 177 rfl rfl, lw_gi 10 rfl rfl⟩, ⟨in_X5, lw_h3 178 rfl rfl, ⟨nh_RX5.1, nh_RX5.2, pd_22⟩⟩⟩
set_option maxRecDepth 100000 in
theorem kX5_latestBinding : KV yX5_latestBinding cX5_latestBinding 1 (some .int) 0 := ⟨⟨lw_h3 181 rfl rfl, lw_gi 11 rfl rfl⟩, ⟨in_X5, lw_h3 182 rfl rfl, ⟨nh_RX5.1, nh_RX5.2, pd_6⟩⟩⟩
set_option maxRecDepth 100000 in
theorem kX11_sheet : KV yX11_sheet cX11_sheet 8 (some .int) 4 := ⟨⟨lw_h3 186 rfl rfl, lw_h3 187 rfl rfl⟩, ⟨in_X11, lw_h3 188 rfl rfl, ⟨nh_RX11.1, nh_RX11.2, pd_23⟩⟩⟩
set_option maxRecDepth 100000 in
theorem kX6_hasEnded : KV yX6_hasEnded cX6_hasEnded 2 (some .boolean) 1 := ⟨⟨lw_h3 190 rfl rfl, lw_h3 191 rfl rfl⟩, ⟨in_X6, lw_h3 192 rfl rfl, ⟨nh_RX6.1, nh_RX6.2, pd_5⟩⟩⟩
set_option maxRecDepth 100000 in
theorem kX11_cellOfEntry : KV yX11_cellOfEntry cX11_cellOfEntry 4 (some .int) 2 := ⟨⟨lw_h3 195 rfl rfl, lw_gi 12 rfl rfl⟩, ⟨in_X11, lw_h3 196 rfl rfl, ⟨nh_RX11.1, nh_RX11.2, pd_11⟩⟩⟩
set_option maxRecDepth 100000 in
theorem kX8_putOnStreet : KV yX8_putOnStreet cX8_putOnStreet 2 (some .int) 1 := ⟨⟨lw_h3 198 rfl rfl, lw_h3 199 rfl rfl⟩, ⟨in_X8, lw_h3 200 rfl rfl, ⟨nh_RX8.1, nh_RX8.2, pd_4⟩⟩⟩
set_option maxRecDepth 100000 in
theorem kX11_steps : KV yX11_steps cX11_steps 2 (some .int) 1 := ⟨⟨lw_h3 205 rfl rfl, lw_h3 206 rfl rfl⟩, ⟨in_X11, lw_h3 207 rfl rfl, ⟨nh_RX11.1, nh_RX11.2, pd_4⟩⟩⟩
set_option maxRecDepth 100000 in
theorem kX10_walk : KV yX10_walk cX10_walk 5 none 3 := ⟨⟨lw_h3 209 rfl rfl, lw_h3 210 rfl rfl⟩, ⟨in_X10, lw_h3 211 rfl rfl, ⟨nh_RX10.1, nh_RX10.2, pd_24⟩⟩⟩
set_option maxRecDepth 100000 in
theorem kX10_forgetTallies : KV yX10_forgetTallies cX10_forgetTallies 2 none 0 := ⟨⟨lw_h3 213 rfl rfl, lw_h3 214 rfl rfl⟩, ⟨in_X10, lw_h3 215 rfl rfl, ⟨nh_RX10.1, nh_RX10.2, pd_0⟩⟩⟩
set_option maxRecDepth 100000 in
theorem kX10_advance : KV yX10_advance cX10_advance 6 none 2 := ⟨⟨lw_h3 217 rfl rfl, lw_h3 218 rfl rfl⟩, ⟨in_X10, lw_h3 219 rfl rfl, ⟨nh_RX10.1, nh_RX10.2, pd_25⟩⟩⟩
set_option maxRecDepth 100000 in
theorem kX6_foremostBelow : KV yX6_foremostBelow cX6_foremostBelow 5 (some .int) 1 := ⟨⟨lw_h3 221 rfl rfl, lw_h3 222 rfl rfl⟩, ⟨in_X6, lw_h3 223 rfl rfl, ⟨nh_RX6.1, nh_RX6.2, pd_4⟩⟩⟩
set_option maxRecDepth 100000 in
theorem kX10_moveHearse : KV yX10_moveHearse cX10_moveHearse 6 none 3 := ⟨⟨lw_h3 226 rfl rfl, lw_gi 13 rfl rfl⟩, ⟨in_X10, lw_h3 227 rfl rfl, ⟨nh_RX10.1, nh_RX10.2, pd_24⟩⟩⟩
set_option maxRecDepth 100000 in
theorem kX2_observe : KV yX2_observe cX2_observe 4 none 3 := ⟨⟨lw_h3 229 rfl rfl, lw_h3 230 rfl rfl⟩, ⟨in_X2, lw_h3 231 rfl rfl, ⟨nh_RX2.1, nh_RX2.2, pd_26⟩⟩⟩
set_option maxRecDepth 100000 in
theorem kX2_uses : KV yX2_uses cX2_uses 2 (some .boolean) 1 := ⟨⟨lw_h3 234 rfl rfl, lw_gi 14 rfl rfl⟩, ⟨in_X2, lw_h3 235 rfl rfl, ⟨nh_RX2.1, nh_RX2.2, pd_5⟩⟩⟩
set_option maxRecDepth 100000 in
theorem kX6_freeAhead : KV yX6_freeAhead cX6_freeAhead 7 (some .int) 2 := ⟨⟨lw_h3 238 rfl rfl, lw_h3 239 rfl rfl⟩, ⟨in_X6, lw_h4 0 rfl rfl, ⟨nh_RX6.1, nh_RX6.2, pd_11⟩⟩⟩
set_option maxRecDepth 100000 in
theorem kX8_isCorner : KV yX8_isCorner cX8_isCorner 2 (some .boolean) 1 := ⟨⟨lw_h4 2 rfl rfl, lw_h4 3 rfl rfl⟩, ⟨in_X8, lw_h4 4 rfl rfl, ⟨nh_RX8.1, nh_RX8.2, pd_5⟩⟩⟩
set_option maxRecDepth 100000 in
theorem kX8_weatherAt : KV yX8_weatherAt cX8_weatherAt 2 (some .int) 1 := ⟨⟨lw_h4 6 rfl rfl, lw_h4 7 rfl rfl⟩, ⟨in_X8, lw_h4 8 rfl rfl, ⟨nh_RX8.1, nh_RX8.2, pd_4⟩⟩⟩
set_option maxRecDepth 100000 in
theorem kX6_bitsOf : KV yX6_bitsOf cX6_bitsOf 5 (some .int) 2 := ⟨⟨lw_h4 10 rfl rfl, lw_h4 11 rfl rfl⟩, ⟨in_X6, lw_h4 12 rfl rfl, ⟨nh_RX6.1, nh_RX6.2, pd_27⟩⟩⟩
set_option maxRecDepth 100000 in
theorem kJ6_bitCount_0f7a4 : KS yJ6_bitCount_0f7a4 cJ6_bitCount_0f7a4 1 (some .int) 1 := ⟨lw_h4 14 rfl rfl, ⟨in_J6, lw_h4 15 rfl rfl, ⟨nh_RJ6.1, nh_RJ6.2, pd_4⟩⟩⟩
set_option maxRecDepth 100000 in
theorem kX6_takenCells : KV yX6_takenCells cX6_takenCells 3 (some .int) 0 := ⟨⟨lw_h4 20 rfl rfl, lw_h4 21 rfl rfl⟩, ⟨in_X6, lw_h4 22 rfl rfl, ⟨nh_RX6.1, nh_RX6.2, pd_6⟩⟩⟩
set_option maxRecDepth 100000 in
theorem kX2_pace : KV yX2_pace cX2_pace 4 (some .int) 0 := ⟨⟨lw_h4 24 rfl rfl, lw_h4 25 rfl rfl⟩, ⟨in_X2, lw_h4 26 rfl rfl, ⟨nh_RX2.1, nh_RX2.2, pd_6⟩⟩⟩
set_option maxRecDepth 100000 in
theorem kX2_join : KS yX2_join cX2_join 3 (some .int) 3 := ⟨lw_h4 28 rfl rfl, ⟨in_X2, lw_h4 29 rfl rfl, ⟨nh_RX2.1, nh_RX2.2, pd_28⟩⟩⟩
set_option maxRecDepth 100000 in
theorem kX10_goal : KV yX10_goal cX10_goal 8 (some .int) 3 := ⟨⟨lw_h4 34 rfl rfl, lw_gi 15 rfl rfl⟩, ⟨in_X10, lw_h4 35 rfl rfl, ⟨nh_RX10.1, nh_RX10.2, pd_28⟩⟩⟩
set_option maxRecDepth 100000 in
theorem kX6_arrive : KV yX6_arrive cX6_arrive 2 none 1 := ⟨⟨lw_h4 39 rfl rfl, lw_h4 40 rfl rfl⟩, ⟨in_X6, lw_h4 41 rfl rfl, ⟨nh_RX6.1, nh_RX6.2, pd_3⟩⟩⟩
set_option maxRecDepth 100000 in
theorem kX10_moveMourner : KV yX10_moveMourner cX10_moveMourner 7 none 2 := ⟨⟨lw_h4 45 rfl rfl, lw_gi 16 rfl rfl⟩, ⟨in_X10, lw_h4 46 rfl rfl, ⟨nh_RX10.1, nh_RX10.2, pd_29⟩⟩⟩
set_option maxRecDepth 100000 in
theorem kX6_hasArrived : KV yX6_hasArrived cX6_hasArrived 2 (some .boolean) 1 := ⟨⟨lw_h4 48 rfl rfl, lw_h4 49 rfl rfl⟩, ⟨in_X6, lw_h4 50 rfl rfl, ⟨nh_RX6.1, nh_RX6.2, pd_5⟩⟩⟩
set_option maxRecDepth 100000 in
theorem kX6_endAt : KV yX6_endAt cX6_endAt 3 none 2 := ⟨⟨lw_h4 52 rfl rfl, lw_h4 53 rfl rfl⟩, ⟨in_X6, lw_h4 54 rfl rfl, ⟨nh_RX6.1, nh_RX6.2, pd_2⟩⟩⟩
set_option maxRecDepth 100000 in
theorem kX6_nearestTo : KV yX6_nearestTo cX6_nearestTo 7 (some .int) 1 := ⟨⟨lw_h4 56 rfl rfl, lw_h4 57 rfl rfl⟩, ⟨in_X6, lw_h4 58 rfl rfl, ⟨nh_RX6.1, nh_RX6.2, pd_4⟩⟩⟩
set_option maxRecDepth 100000 in
theorem kX4_tellTwo : KV yX4_tellTwo cX4_tellTwo 5 none 2 := ⟨⟨lw_h4 65 rfl rfl, lw_h4 66 rfl rfl⟩, ⟨in_X4, lw_h4 67 rfl rfl, ⟨nh_RX4.1, nh_RX4.2, pd_30⟩⟩⟩
set_option maxRecDepth 100000 in
theorem kX4_clear : KV yX4_clear cX4_clear 1 none 0 := ⟨⟨lw_h4 69 rfl rfl, lw_h4 70 rfl rfl⟩, ⟨in_X4, lw_h4 71 rfl rfl, ⟨nh_RX4.1, nh_RX4.2, pd_0⟩⟩⟩
set_option maxRecDepth 100000 in
theorem kX4_add : KV yX4_add cX4_add 3 none 1 := ⟨⟨lw_h4 73 rfl rfl, lw_h4 74 rfl rfl⟩, ⟨in_X4, lw_h4 75 rfl rfl, ⟨nh_RX4.1, nh_RX4.2, pd_31⟩⟩⟩
set_option maxRecDepth 100000 in
theorem kX11_undoable : KV yX11_undoable cX11_undoable 2 (some .int) 1 := ⟨⟨lw_h4 78 rfl rfl, lw_gi 17 rfl rfl⟩, ⟨in_X11, lw_h4 79 rfl rfl, ⟨nh_RX11.1, nh_RX11.2, pd_4⟩⟩⟩
set_option maxRecDepth 100000 in
theorem kX11_isDone : KS yX11_isDone cX11_isDone 1 (some .boolean) 1 := ⟨lw_h4 81 rfl rfl, ⟨in_X11, lw_h4 82 rfl rfl, ⟨nh_RX11.1, nh_RX11.2, pd_5⟩⟩⟩
set_option maxRecDepth 100000 in
theorem kX1_add : KV yX1_add cX1_add 2 none 1 := ⟨⟨lw_h4 84 rfl rfl, lw_h4 85 rfl rfl⟩, ⟨in_X1, lw_h4 86 rfl rfl, ⟨nh_RX1.1, nh_RX1.2, pd_10⟩⟩⟩
set_option maxRecDepth 100000 in
theorem kX11_turnsTo : KV yX11_turnsTo cX11_turnsTo 2 (some .int) 1 := ⟨⟨lw_h4 89 rfl rfl, lw_h4 90 rfl rfl⟩, ⟨in_X11, lw_h4 91 rfl rfl, ⟨nh_RX11.1, nh_RX11.2, pd_4⟩⟩⟩
set_option maxRecDepth 100000 in
theorem kX6_turn : KV yX6_turn cX6_turn 3 (some .int) 1 := ⟨⟨lw_h4 93 rfl rfl, lw_h4 94 rfl rfl⟩, ⟨in_X6, lw_h4 95 rfl rfl, ⟨nh_RX6.1, nh_RX6.2, pd_4⟩⟩⟩
set_option maxRecDepth 100000 in
theorem kX6_isMourner : KV yX6_isMourner cX6_isMourner 2 (some .boolean) 1 := ⟨⟨lw_h4 97 rfl rfl, lw_h4 98 rfl rfl⟩, ⟨in_X6, lw_h4 99 rfl rfl, ⟨nh_RX6.1, nh_RX6.2, pd_5⟩⟩⟩
set_option maxRecDepth 100000 in
theorem kX11_pushes : KV yX11_pushes cX11_pushes 3 (some .int) 2 := ⟨⟨lw_h4 103 rfl rfl, lw_h4 104 rfl rfl⟩, ⟨in_X11, lw_h4 105 rfl rfl, ⟨nh_RX11.1, nh_RX11.2, pd_11⟩⟩⟩
set_option maxRecDepth 100000 in
theorem kX6_shove : KV yX6_shove cX6_shove 4 (some .int) 3 := ⟨⟨lw_h4 107 rfl rfl, lw_h4 108 rfl rfl⟩, ⟨in_X6, lw_h4 109 rfl rfl, ⟨nh_RX6.1, nh_RX6.2, pd_32⟩⟩⟩
set_option maxRecDepth 100000 in
theorem kX11_swaps : KV yX11_swaps cX11_swaps 3 (some .int) 2 := ⟨⟨lw_h4 112 rfl rfl, lw_h4 113 rfl rfl⟩, ⟨in_X11, lw_h4 114 rfl rfl, ⟨nh_RX11.1, nh_RX11.2, pd_11⟩⟩⟩
set_option maxRecDepth 100000 in
theorem kX6_exchange : KV yX6_exchange cX6_exchange 4 (some .int) 2 := ⟨⟨lw_h4 116 rfl rfl, lw_h4 117 rfl rfl⟩, ⟨in_X6, lw_h4 118 rfl rfl, ⟨nh_RX6.1, nh_RX6.2, pd_11⟩⟩⟩
set_option maxRecDepth 100000 in
theorem kX6_isHearse : KV yX6_isHearse cX6_isHearse 2 (some .boolean) 1 := ⟨⟨lw_h4 120 rfl rfl, lw_h4 121 rfl rfl⟩, ⟨in_X6, lw_h4 122 rfl rfl, ⟨nh_RX6.1, nh_RX6.2, pd_5⟩⟩⟩
set_option maxRecDepth 100000 in
theorem kX11_hour : KV yX11_hour cX11_hour 5 (some .int) 0 := ⟨⟨lw_h4 124 rfl rfl, lw_h4 125 rfl rfl⟩, ⟨in_X11, lw_h4 126 rfl rfl, ⟨nh_RX11.1, nh_RX11.2, pd_6⟩⟩⟩
set_option maxRecDepth 100000 in
theorem kX11_hourFault : KV yX11_hourFault cX11_hourFault 2 (some .int) 0 := ⟨⟨lw_h4 129 rfl rfl, lw_gi 18 rfl rfl⟩, ⟨in_X11, lw_h4 130 rfl rfl, ⟨nh_RX11.1, nh_RX11.2, pd_6⟩⟩⟩
set_option maxRecDepth 100000 in
theorem kX11_passAct : KV yX11_passAct cX11_passAct 3 (some .boolean) 0 := ⟨⟨lw_h4 134 rfl rfl, lw_gi 19 rfl rfl⟩, ⟨in_X11, lw_h4 135 rfl rfl, ⟨nh_RX11.1, nh_RX11.2, pd_8⟩⟩⟩
set_option maxRecDepth 100000 in
theorem kX11_doAct : KV yX11_doAct cX11_doAct 3 (some .int) 0 := ⟨⟨lw_h4 139 rfl rfl, lw_gi 20 rfl rfl⟩, ⟨in_X11, lw_h4 140 rfl rfl, ⟨nh_RX11.1, nh_RX11.2, pd_6⟩⟩⟩
set_option maxRecDepth 100000 in
theorem kX11_undo : KV yX11_undo cX11_undo 1 (some .int) 0 := ⟨⟨lw_h4 142 rfl rfl, lw_h4 143 rfl rfl⟩, ⟨in_X11, lw_h4 144 rfl rfl, ⟨nh_RX11.1, nh_RX11.2, pd_6⟩⟩⟩
set_option maxRecDepth 100000 in
theorem kX1_takeBack : KV yX1_takeBack cX1_takeBack 2 (some .boolean) 1 := ⟨⟨lw_h4 146 rfl rfl, lw_h4 147 rfl rfl⟩, ⟨in_X1, lw_h4 148 rfl rfl, ⟨nh_RX1.1, nh_RX1.2, pd_33⟩⟩⟩
set_option maxRecDepth 100000 in
theorem kX11_line : KV yX11_line cX11_line 4 (some .int) 0 := ⟨⟨lw_h4 150 rfl rfl, lw_h4 151 rfl rfl⟩, ⟨in_X11, lw_h4 152 rfl rfl, ⟨nh_RX11.1, nh_RX11.2, pd_6⟩⟩⟩
set_option maxRecDepth 100000 in
theorem kX11_ahead : KV yX11_ahead cX11_ahead 3 (some .int) 1 := ⟨⟨lw_h4 157 rfl rfl, lw_h4 158 rfl rfl⟩, ⟨in_X11, lw_h4 159 rfl rfl, ⟨nh_RX11.1, nh_RX11.2, pd_4⟩⟩⟩
set_option maxRecDepth 100000 in
theorem kX11_arrives : KV yX11_arrives cX11_arrives 3 (some .int) 1 := ⟨⟨lw_h4 161 rfl rfl, lw_h4 162 rfl rfl⟩, ⟨in_X11, lw_h4 163 rfl rfl, ⟨nh_RX11.1, nh_RX11.2, pd_4⟩⟩⟩
set_option maxRecDepth 100000 in
theorem kX4_tellOne : KV yX4_tellOne cX4_tellOne 3 none 1 := ⟨⟨lw_h4 168 rfl rfl, lw_h4 169 rfl rfl⟩, ⟨in_X4, lw_h4 170 rfl rfl, ⟨nh_RX4.1, nh_RX4.2, pd_31⟩⟩⟩
set_option maxRecDepth 100000 in
theorem kX11_jam : KV yX11_jam cX11_jam 4 (some .int) 1 := ⟨⟨lw_h4 172 rfl rfl, lw_h4 173 rfl rfl⟩, ⟨in_X11, lw_h4 174 rfl rfl, ⟨nh_RX11.1, nh_RX11.2, pd_4⟩⟩⟩
set_option maxRecDepth 100000 in
theorem kX11_passes : KV yX11_passes cX11_passes 4 (some .int) 2 := ⟨⟨lw_h4 176 rfl rfl, lw_h4 177 rfl rfl⟩, ⟨in_X11, lw_h4 178 rfl rfl, ⟨nh_RX11.1, nh_RX11.2, pd_11⟩⟩⟩
set_option maxRecDepth 100000 in
theorem kX6_isAheadOf : KV yX6_isAheadOf cX6_isAheadOf 3 (some .boolean) 2 := ⟨⟨lw_h4 180 rfl rfl, lw_h4 181 rfl rfl⟩, ⟨in_X6, lw_h4 182 rfl rfl, ⟨nh_RX6.1, nh_RX6.2, pd_34⟩⟩⟩
set_option maxRecDepth 100000 in
theorem kX11_ends : KV yX11_ends cX11_ends 3 (some .int) 1 := ⟨⟨lw_h4 184 rfl rfl, lw_h4 185 rfl rfl⟩, ⟨in_X11, lw_h4 186 rfl rfl, ⟨nh_RX11.1, nh_RX11.2, pd_4⟩⟩⟩
set_option maxRecDepth 100000 in
theorem kX11_right : KV yX11_right cX11_right 2 (some .int) 0 := ⟨⟨lw_h4 190 rfl rfl, lw_h4 191 rfl rfl⟩, ⟨in_X11, lw_h4 192 rfl rfl, ⟨nh_RX11.1, nh_RX11.2, pd_6⟩⟩⟩
set_option maxRecDepth 100000 in
theorem kX11_rightOnesOfTrial : KV yX11_rightOnesOfTrial cX11_rightOnesOfTrial 2 (some .int) 1 := ⟨⟨lw_h4 195 rfl rfl, lw_gi 21 rfl rfl⟩, ⟨in_X11, lw_h4 196 rfl rfl, ⟨nh_RX11.1, nh_RX11.2, pd_35⟩⟩⟩
set_option maxRecDepth 100000 in
theorem kX10_toEnd : KV yX10_toEnd cX10_toEnd 6 none 2 := ⟨⟨lw_h4 198 rfl rfl, lw_h4 199 rfl rfl⟩, ⟨in_X10, lw_h4 200 rfl rfl, ⟨nh_RX10.1, nh_RX10.2, pd_25⟩⟩⟩
set_option maxRecDepth 100000 in
theorem kX2_period : KV yX2_period cX2_period 2 (some .int) 1 := ⟨⟨lw_h4 202 rfl rfl, lw_h4 203 rfl rfl⟩, ⟨in_X2, lw_h4 204 rfl rfl, ⟨nh_RX2.1, nh_RX2.2, pd_36⟩⟩⟩
set_option maxRecDepth 100000 in
theorem kX6_rightBits : KV yX6_rightBits cX6_rightBits 3 (some .int) 0 := ⟨⟨lw_h4 206 rfl rfl, lw_h4 207 rfl rfl⟩, ⟨in_X6, lw_h4 208 rfl rfl, ⟨nh_RX6.1, nh_RX6.2, pd_6⟩⟩⟩
set_option maxRecDepth 100000 in
theorem kX6_isRight : KV yX6_isRight cX6_isRight 2 (some .boolean) 1 := ⟨⟨lw_h4 210 rfl rfl, lw_h4 211 rfl rfl⟩, ⟨in_X6, lw_h4 212 rfl rfl, ⟨nh_RX6.1, nh_RX6.2, pd_5⟩⟩⟩
set_option maxRecDepth 100000 in
theorem kX6_wrongBits : KV yX6_wrongBits cX6_wrongBits 3 (some .int) 0 := ⟨⟨lw_h4 214 rfl rfl, lw_h4 215 rfl rfl⟩, ⟨in_X6, lw_h4 216 rfl rfl, ⟨nh_RX6.1, nh_RX6.2, pd_6⟩⟩⟩
set_option maxRecDepth 100000 in
theorem kX11_order : KV yX11_order cX11_order 5 (some .int) 0 := ⟨⟨lw_h4 219 rfl rfl, lw_h4 220 rfl rfl⟩, ⟨in_X11, lw_h4 221 rfl rfl, ⟨nh_RX11.1, nh_RX11.2, pd_6⟩⟩⟩
set_option maxRecDepth 100000 in
theorem kX3_begin : KV yX3_begin cX3_begin 4 none 2 := ⟨⟨lw_h4 223 rfl rfl, lw_h4 224 rfl rfl⟩, ⟨in_X3, lw_h4 225 rfl rfl, ⟨nh_RX3.1, nh_RX3.2, pd_37⟩⟩⟩
set_option maxRecDepth 100000 in
theorem kX6_placeHearses : KV yX6_placeHearses cX6_placeHearses 4 none 1 := ⟨⟨lw_h4 228 rfl rfl, lw_h4 229 rfl rfl⟩, ⟨in_X6, lw_h4 230 rfl rfl, ⟨nh_RX6.1, nh_RX6.2, pd_38⟩⟩⟩
set_option maxRecDepth 100000 in
theorem kX3_markBest : KV yX3_markBest cX3_markBest 1 none 0 := ⟨⟨lw_h4 232 rfl rfl, lw_h4 233 rfl rfl⟩, ⟨in_X3, lw_h4 234 rfl rfl, ⟨nh_RX3.1, nh_RX3.2, pd_0⟩⟩⟩
set_option maxRecDepth 100000 in
theorem kX3_toNext : KV yX3_toNext cX3_toNext 5 (some .boolean) 0 := ⟨⟨lw_h4 237 rfl rfl, lw_h4 238 rfl rfl⟩, ⟨in_X3, lw_h4 239 rfl rfl, ⟨nh_RX3.1, nh_RX3.2, pd_8⟩⟩⟩
set_option maxRecDepth 100000 in
theorem kX3_exchangeCells : KV yX3_exchangeCells cX3_exchangeCells 4 none 2 := ⟨⟨lw_h5 2 rfl rfl, lw_gi 22 rfl rfl⟩, ⟨in_X3, lw_h5 3 rfl rfl, ⟨nh_RX3.1, nh_RX3.2, pd_2⟩⟩⟩
set_option maxRecDepth 100000 in
theorem kX11_stands : KV yX11_stands cX11_stands 5 (some .int) 1 := ⟨⟨lw_h5 5 rfl rfl, lw_h5 6 rfl rfl⟩, ⟨in_X11, lw_h5 7 rfl rfl, ⟨nh_RX11.1, nh_RX11.2, pd_4⟩⟩⟩
set_option maxRecDepth 100000 in
theorem kX11_when : KV yX11_when cX11_when 5 (some .int) 1 := ⟨⟨lw_h5 10 rfl rfl, lw_h5 11 rfl rfl⟩, ⟨in_X11, lw_h5 12 rfl rfl, ⟨nh_RX11.1, nh_RX11.2, pd_4⟩⟩⟩
set_option maxRecDepth 100000 in
theorem kX11_isTurned : KV yX11_isTurned cX11_isTurned 3 (some .boolean) 1 := ⟨⟨lw_h5 15 rfl rfl, lw_gi 23 rfl rfl⟩, ⟨in_X11, lw_h5 16 rfl rfl, ⟨nh_RX11.1, nh_RX11.2, pd_5⟩⟩⟩
set_option maxRecDepth 100000 in
theorem kX11_mends : KV yX11_mends cX11_mends 6 (some .int) 1 := ⟨⟨lw_h5 18 rfl rfl, lw_h5 19 rfl rfl⟩, ⟨in_X11, lw_h5 20 rfl rfl, ⟨nh_RX11.1, nh_RX11.2, pd_4⟩⟩⟩
set_option maxRecDepth 100000 in
theorem kX11_ableToTurn : KV yX11_ableToTurn cX11_ableToTurn 3 (some .int) 0 := ⟨⟨lw_h5 23 rfl rfl, lw_gi 24 rfl rfl⟩, ⟨in_X11, lw_h5 24 rfl rfl, ⟨nh_RX11.1, nh_RX11.2, pd_6⟩⟩⟩
set_option maxRecDepth 100000 in
theorem kX11_turnInTrial : KV yX11_turnInTrial cX11_turnInTrial 3 none 1 := ⟨⟨lw_h5 27 rfl rfl, lw_gi 25 rfl rfl⟩, ⟨in_X11, lw_h5 28 rfl rfl, ⟨nh_RX11.1, nh_RX11.2, pd_3⟩⟩⟩
set_option maxRecDepth 100000 in
theorem kX11_misleads : KV yX11_misleads cX11_misleads 6 (some .int) 0 := ⟨⟨lw_h5 30 rfl rfl, lw_h5 31 rfl rfl⟩, ⟨in_X11, lw_h5 32 rfl rfl, ⟨nh_RX11.1, nh_RX11.2, pd_6⟩⟩⟩
set_option maxRecDepth 100000 in
theorem kX6_takeAway : KV yX6_takeAway cX6_takeAway 3 none 1 := ⟨⟨lw_h5 34 rfl rfl, lw_h5 35 rfl rfl⟩, ⟨in_X6, lw_h5 36 rfl rfl, ⟨nh_RX6.1, nh_RX6.2, pd_3⟩⟩⟩
set_option maxRecDepth 100000 in
theorem kX11_crowd : KV yX11_crowd cX11_crowd 5 (some .int) 0 := ⟨⟨lw_h5 41 rfl rfl, lw_h5 42 rfl rfl⟩, ⟨in_X11, lw_h5 43 rfl rfl, ⟨nh_RX11.1, nh_RX11.2, pd_6⟩⟩⟩
set_option maxRecDepth 100000 in
theorem kX11_shares : KV yX11_shares cX11_shares 6 (some .int) 1 := ⟨⟨lw_h5 45 rfl rfl, lw_h5 46 rfl rfl⟩, ⟨in_X11, lw_h5 47 rfl rfl, ⟨nh_RX11.1, nh_RX11.2, pd_4⟩⟩⟩
set_option maxRecDepth 100000 in
theorem kX7_weigh : KV yX7_weigh cX7_weigh 6 (some .int) 2 := ⟨⟨lw_h5 49 rfl rfl, lw_h5 50 rfl rfl⟩, ⟨in_X7, lw_h5 51 rfl rfl, ⟨nh_RX7.1, nh_RX7.2, pd_39⟩⟩⟩
set_option maxRecDepth 100000 in
theorem kX7_mostFrom : KV yX7_mostFrom cX7_mostFrom 6 (some .int) 3 := ⟨⟨lw_h5 54 rfl rfl, lw_gi 26 rfl rfl⟩, ⟨in_X7, lw_h5 55 rfl rfl, ⟨nh_RX7.1, nh_RX7.2, pd_40⟩⟩⟩
set_option maxRecDepth 100000 in
theorem kX7_canHave : KV yX7_canHave cX7_canHave 5 (some .boolean) 4 := ⟨⟨lw_h5 58 rfl rfl, lw_gi 27 rfl rfl⟩, ⟨in_X7, lw_h5 59 rfl rfl, ⟨nh_RX7.1, nh_RX7.2, pd_41⟩⟩⟩
set_option maxRecDepth 100000 in
theorem kX7_choice : KV yX7_choice cX7_choice 6 (some .int) 3 := ⟨⟨lw_h5 65 rfl rfl, lw_h5 66 rfl rfl⟩, ⟨in_X7, lw_h5 67 rfl rfl, ⟨nh_RX7.1, nh_RX7.2, pd_40⟩⟩⟩
set_option maxRecDepth 100000 in
theorem kX11_strangers : KV yX11_strangers cX11_strangers 6 (some .int) 0 := ⟨⟨lw_h5 69 rfl rfl, lw_h5 70 rfl rfl⟩, ⟨in_X11, lw_h5 71 rfl rfl, ⟨nh_RX11.1, nh_RX11.2, pd_6⟩⟩⟩
set_option maxRecDepth 100000 in
theorem kX11_doubts : KV yX11_doubts cX11_doubts 3 (some .int) 0 := ⟨⟨lw_h5 74 rfl rfl, lw_h5 75 rfl rfl⟩, ⟨in_X11, lw_h5 76 rfl rfl, ⟨nh_RX11.1, nh_RX11.2, pd_6⟩⟩⟩
set_option maxRecDepth 100000 in
theorem kX6_isInDoubt : KV yX6_isInDoubt cX6_isInDoubt 5 (some .boolean) 1 := ⟨⟨lw_h5 78 rfl rfl, lw_h5 79 rfl rfl⟩, ⟨in_X6, lw_h5 80 rfl rfl, ⟨nh_RX6.1, nh_RX6.2, pd_5⟩⟩⟩
set_option maxRecDepth 100000 in
theorem kX11_heard : KV yX11_heard cX11_heard 3 (some .int) 2 := ⟨⟨lw_h5 84 rfl rfl, lw_h5 85 rfl rfl⟩, ⟨in_X11, lw_h5 86 rfl rfl, ⟨nh_RX11.1, nh_RX11.2, pd_11⟩⟩⟩
set_option maxRecDepth 100000 in
theorem kX0_add : KV yX0_add cX0_add 3 (some .boolean) 2 := ⟨⟨lw_h5 88 rfl rfl, lw_h5 89 rfl rfl⟩, ⟨in_X0, lw_h5 90 rfl rfl, ⟨nh_RX0.1, nh_RX0.2, pd_34⟩⟩⟩
set_option maxRecDepth 100000 in
theorem kX0_canBe : KS yX0_canBe cX0_canBe 2 (some .boolean) 2 := ⟨lw_h5 92 rfl rfl, ⟨in_X0, lw_h5 93 rfl rfl, ⟨nh_RX0.1, nh_RX0.2, pd_34⟩⟩⟩
set_option maxRecDepth 100000 in
theorem kX11_forget : KV yX11_forget cX11_forget 2 (some .int) 0 := ⟨⟨lw_h5 95 rfl rfl, lw_h5 96 rfl rfl⟩, ⟨in_X11, lw_h5 97 rfl rfl, ⟨nh_RX11.1, nh_RX11.2, pd_6⟩⟩⟩
set_option maxRecDepth 100000 in
theorem kX11_fits : KV yX11_fits cX11_fits 3 (some .int) 0 := ⟨⟨lw_h5 99 rfl rfl, lw_h5 100 rfl rfl⟩, ⟨in_X11, lw_h5 101 rfl rfl, ⟨nh_RX11.1, nh_RX11.2, pd_6⟩⟩⟩
set_option maxRecDepth 100000 in
theorem kX0_isTrueOf : KV yX0_isTrueOf cX0_isTrueOf 4 (some .boolean) 2 := ⟨⟨lw_h5 103 rfl rfl, lw_h5 104 rfl rfl⟩, ⟨in_X0, lw_h5 105 rfl rfl, ⟨nh_RX0.1, nh_RX0.2, pd_42⟩⟩⟩
set_option maxRecDepth 100000 in
theorem kX0_isOneTrueOf : KV yX0_isOneTrueOf cX0_isOneTrueOf 4 (some .boolean) 3 := ⟨⟨lw_h5 108 rfl rfl, lw_gi 28 rfl rfl⟩, ⟨in_X0, lw_h5 109 rfl rfl, ⟨nh_RX0.1, nh_RX0.2, pd_43⟩⟩⟩
set_option maxRecDepth 100000 in
theorem kX11_rains : KV yX11_rains cX11_rains 12 (some .int) 3 := ⟨⟨lw_h5 113 rfl rfl, lw_h5 114 rfl rfl⟩, ⟨in_X11, lw_h5 115 rfl rfl, ⟨nh_RX11.1, nh_RX11.2, pd_28⟩⟩⟩
set_option maxRecDepth 100000 in
theorem kX11_power : KS yX11_power cX11_power 6 (some .long) 2 := ⟨lw_h5 117 rfl rfl, ⟨in_X11, lw_h5 118 rfl rfl, ⟨nh_RX11.1, nh_RX11.2, pd_44⟩⟩⟩
set_option maxRecDepth 100000 in
theorem kX11_commonDivisor : KS yX11_commonDivisor cX11_commonDivisor 11 (some .long) 2 := ⟨lw_h5 121 rfl rfl, ⟨in_X11, lw_h5 122 rfl rfl, ⟨nh_RX11.1, nh_RX11.2, pd_45⟩⟩⟩
set_option maxRecDepth 100000 in
theorem kX11_law : KV yX11_law cX11_law 4 (some .int) 0 := ⟨⟨lw_h5 124 rfl rfl, lw_h5 125 rfl rfl⟩, ⟨in_X11, lw_h5 126 rfl rfl, ⟨nh_RX11.1, nh_RX11.2, pd_6⟩⟩⟩
set_option maxRecDepth 100000 in
theorem kX11_rests : KV yX11_rests cX11_rests 5 (some .int) 1 := ⟨⟨lw_h5 128 rfl rfl, lw_h5 129 rfl rfl⟩, ⟨in_X11, lw_h5 130 rfl rfl, ⟨nh_RX11.1, nh_RX11.2, pd_4⟩⟩⟩
set_option maxRecDepth 100000 in
theorem kX11_isBestAnswer : KS yX11_isBestAnswer cX11_isBestAnswer 5 (some .boolean) 3 := ⟨lw_h5 132 rfl rfl, ⟨in_X11, lw_h5 133 rfl rfl, ⟨nh_RX11.1, nh_RX11.2, pd_46⟩⟩⟩
set_option maxRecDepth 100000 in
theorem kX11_gain : KS yX11_gain cX11_gain 4 (some .int) 3 := ⟨lw_h5 135 rfl rfl, ⟨in_X11, lw_h5 136 rfl rfl, ⟨nh_RX11.1, nh_RX11.2, pd_28⟩⟩⟩
set_option maxRecDepth 100000 in
theorem kX11_years : KV yX11_years cX11_years 6 (some .int) 2 := ⟨⟨lw_h5 138 rfl rfl, lw_h5 139 rfl rfl⟩, ⟨in_X11, lw_h5 140 rfl rfl, ⟨nh_RX11.1, nh_RX11.2, pd_11⟩⟩⟩
set_option maxRecDepth 100000 in
theorem kX11_draw : KV yX11_draw cX11_draw 2 (some .int) 1 := ⟨⟨lw_h5 143 rfl rfl, lw_gi 29 rfl rfl⟩, ⟨in_X11, lw_h5 144 rfl rfl, ⟨nh_RX11.1, nh_RX11.2, pd_4⟩⟩⟩
set_option maxRecDepth 100000 in
theorem kX11_keep : KV yX11_keep cX11_keep 2 (some .boolean) 1 := ⟨⟨lw_h5 147 rfl rfl, lw_h5 148 rfl rfl⟩, ⟨in_X11, lw_h5 149 rfl rfl, ⟨nh_RX11.1, nh_RX11.2, pd_5⟩⟩⟩
set_option maxRecDepth 100000 in
theorem kX11_again : KV yX11_again cX11_again 2 (some .boolean) 1 := ⟨⟨lw_h5 151 rfl rfl, lw_h5 152 rfl rfl⟩, ⟨in_X11, lw_h5 153 rfl rfl, ⟨nh_RX11.1, nh_RX11.2, pd_5⟩⟩⟩
set_option maxRecDepth 100000 in
theorem kX11_count : KV yX11_count cX11_count 2 (some .int) 1 := ⟨⟨lw_h5 155 rfl rfl, lw_h5 156 rfl rfl⟩, ⟨in_X11, lw_h5 157 rfl rfl, ⟨nh_RX11.1, nh_RX11.2, pd_4⟩⟩⟩
set_option maxRecDepth 100000 in
theorem kX11_hearse : KV yX11_hearse cX11_hearse 3 (some .int) 2 := ⟨⟨lw_h5 164 rfl rfl, lw_h5 165 rfl rfl⟩, ⟨in_X11, lw_h5 166 rfl rfl, ⟨nh_RX11.1, nh_RX11.2, pd_11⟩⟩⟩
set_option maxRecDepth 100000 in
theorem kX11_paceNow : KV yX11_paceNow cX11_paceNow 2 (some .int) 1 := ⟨⟨lw_h5 234 rfl rfl, lw_gi 31 rfl rfl⟩, ⟨in_X11, lw_h5 235 rfl rfl, ⟨nh_RX11.1, nh_RX11.2, pd_4⟩⟩⟩
set_option maxRecDepth 100000 in
theorem kX11_mourner : KV yX11_mourner cX11_mourner 3 (some .int) 2 := ⟨⟨lw_h6 3 rfl rfl, lw_h6 4 rfl rfl⟩, ⟨in_X11, lw_h6 5 rfl rfl, ⟨nh_RX11.1, nh_RX11.2, pd_11⟩⟩⟩
set_option maxRecDepth 100000 in
theorem kX11_row : KV yX11_row cX11_row 2 (some .long) 1 := ⟨⟨lw_h6 13 rfl rfl, lw_h6 14 rfl rfl⟩, ⟨in_X11, lw_h6 15 rfl rfl, ⟨nh_RX11.1, nh_RX11.2, pd_47⟩⟩⟩
set_option maxRecDepth 100000 in
theorem kX12_init : KI yX12_init cX12_init 1 none 0 := ⟨⟨rfl, lw_h6 20 rfl rfl⟩, ⟨in_X12, lw_h6 21 rfl rfl, ⟨nh_RX12.1, nh_RX12.2, pd_0⟩⟩⟩
set_option maxRecDepth 100000 in
theorem kX12_sign : KV yX12_sign cX12_sign 3 (some .int) 1 := ⟨⟨lw_h6 184 rfl rfl, lw_h6 185 rfl rfl⟩, ⟨in_X12, lw_h6 186 rfl rfl, ⟨nh_RX12.1, nh_RX12.2, pd_4⟩⟩⟩
set_option maxRecDepth 100000 in
theorem kX12_end : KV yX12_end cX12_end 2 (some .boolean) 1 := ⟨⟨lw_h6 188 rfl rfl, lw_h6 189 rfl rfl⟩, ⟨in_X12, lw_h6 190 rfl rfl, ⟨nh_RX12.1, nh_RX12.2, pd_5⟩⟩⟩
set_option maxRecDepth 100000 in
theorem kX12_in : KS yX12_in cX12_in 6 (some .boolean) 3 := ⟨lw_h6 192 rfl rfl, ⟨in_X12, lw_h6 193 rfl rfl, ⟨nh_RX12.1, nh_RX12.2, pd_48⟩⟩⟩
set_option maxRecDepth 100000 in
theorem kX12_avenue : KV yX12_avenue cX12_avenue 4 (some .int) 0 := ⟨⟨lw_h6 195 rfl rfl, lw_h6 196 rfl rfl⟩, ⟨in_X12, lw_h6 197 rfl rfl, ⟨nh_RX12.1, nh_RX12.2, pd_6⟩⟩⟩
set_option maxRecDepth 100000 in
theorem kX12_begins : KV yX12_begins cX12_begins 3 (some .int) 1 := ⟨⟨lw_h6 200 rfl rfl, lw_gi 32 rfl rfl⟩, ⟨in_X12, lw_h6 201 rfl rfl, ⟨nh_RX12.1, nh_RX12.2, pd_4⟩⟩⟩
set_option maxRecDepth 100000 in
theorem kX12_takesOf : KV yX12_takesOf cX12_takesOf 3 (some .int) 1 := ⟨⟨lw_h6 206 rfl rfl, lw_gi 33 rfl rfl⟩, ⟨in_X12, lw_h6 207 rfl rfl, ⟨nh_RX12.1, nh_RX12.2, pd_49⟩⟩⟩
set_option maxRecDepth 100000 in
theorem kJ0_charAt_5068e : KV yJ0_charAt_5068e cJ0_charAt_5068e 2 (some .char) 1 := ⟨⟨lw_h6 210 rfl rfl, lw_h6 211 rfl rfl⟩, ⟨in_J0, lw_h6 212 rfl rfl, ⟨nh_RJ0.1, nh_RJ0.2, pd_21⟩⟩⟩
set_option maxRecDepth 100000 in
theorem kJ1_charAt_3b067 : KS yJ1_charAt_3b067 cJ1_charAt_3b067 2 (some .char) 2 := ⟨lw_h6 214 rfl rfl, ⟨in_J1, lw_h6 215 rfl rfl, ⟨nh_RJ1.1, nh_RJ1.2, pd_20⟩⟩⟩
set_option maxRecDepth 100000 in
theorem kJ0_checkIndex_df160 : KS yJ0_checkIndex_df160 cJ0_checkIndex_df160 2 none 2 := ⟨lw_h6 217 rfl rfl, ⟨in_J0, lw_h6 218 rfl rfl, ⟨nh_RJ0.1, nh_RJ0.2, pd_2⟩⟩⟩
set_option maxRecDepth 100000 in
theorem kJ3_checkIndex_8e157 : KS yJ3_checkIndex_8e157 cJ3_checkIndex_8e157 3 (some .int) 3 := ⟨lw_h6 220 rfl rfl, ⟨in_J3, lw_h6 221 rfl rfl, ⟨nh_RJ3.1, nh_RJ3.2, pd_50⟩⟩⟩
set_option maxRecDepth 100000 in
theorem kX12_flag : KS yX12_flag cX12_flag 1 (some .int) 1 := ⟨lw_h6 230 rfl rfl, ⟨in_X12, lw_h6 231 rfl rfl, ⟨nh_RX12.1, nh_RX12.2, pd_9⟩⟩⟩
set_option maxRecDepth 100000 in
theorem kX12_hearses : KV yX12_hearses cX12_hearses 6 (some .int) 0 := ⟨⟨lw_h6 233 rfl rfl, lw_h6 234 rfl rfl⟩, ⟨in_X12, lw_h6 235 rfl rfl, ⟨nh_RX12.1, nh_RX12.2, pd_6⟩⟩⟩
set_option maxRecDepth 100000 in
theorem kX12_readsHearse : KV yX12_readsHearse cX12_readsHearse 2 (some .boolean) 0 := ⟨⟨lw_h6 238 rfl rfl, lw_gi 34 rfl rfl⟩, ⟨in_X12, lw_h6 239 rfl rfl, ⟨nh_RX12.1, nh_RX12.2, pd_8⟩⟩⟩
set_option maxRecDepth 100000 in
theorem kX12_readsCell : KV yX12_readsCell cX12_readsCell 5 (some .int) 1 := ⟨⟨lw_h7 2 rfl rfl, lw_gi 35 rfl rfl⟩, ⟨in_X12, lw_h7 3 rfl rfl, ⟨nh_RX12.1, nh_RX12.2, pd_9⟩⟩⟩
set_option maxRecDepth 100000 in
theorem kX12_number : KV yX12_number cX12_number 4 (some .int) 1 := ⟨⟨lw_h7 6 rfl rfl, lw_gi 36 rfl rfl⟩, ⟨in_X12, lw_h7 7 rfl rfl, ⟨nh_RX12.1, nh_RX12.2, pd_4⟩⟩⟩
set_option maxRecDepth 100000 in
theorem kX12_isDigit : KV yX12_isDigit cX12_isDigit 1 (some .boolean) 0 := ⟨⟨lw_h7 10 rfl rfl, lw_gi 37 rfl rfl⟩, ⟨in_X12, lw_h7 11 rfl rfl, ⟨nh_RX12.1, nh_RX12.2, pd_8⟩⟩⟩
set_option maxRecDepth 100000 in
theorem kX12_gate : KV yX12_gate cX12_gate 1 (some .int) 0 := ⟨⟨lw_h7 16 rfl rfl, lw_gi 38 rfl rfl⟩, ⟨in_X12, lw_h7 17 rfl rfl, ⟨nh_RX12.1, nh_RX12.2, pd_6⟩⟩⟩
set_option maxRecDepth 100000 in
theorem kX12_onCell : KV yX12_onCell cX12_onCell 5 (some .int) 2 := ⟨⟨lw_h7 20 rfl rfl, lw_gi 39 rfl rfl⟩, ⟨in_X12, lw_h7 21 rfl rfl, ⟨nh_RX12.1, nh_RX12.2, pd_27⟩⟩⟩
set_option maxRecDepth 100000 in
theorem kX12_takes : KV yX12_takes cX12_takes 3 (some .boolean) 1 := ⟨⟨lw_h7 24 rfl rfl, lw_gi 40 rfl rfl⟩, ⟨in_X12, lw_h7 25 rfl rfl, ⟨nh_RX12.1, nh_RX12.2, pd_5⟩⟩⟩
set_option maxRecDepth 100000 in
theorem kX12_faultOf : KV yX12_faultOf cX12_faultOf 5 (some .int) 3 := ⟨⟨lw_h7 28 rfl rfl, lw_gi 41 rfl rfl⟩, ⟨in_X12, lw_h7 29 rfl rfl, ⟨nh_RX12.1, nh_RX12.2, pd_52⟩⟩⟩
set_option maxRecDepth 100000 in
theorem kX12_isNew : KV yX12_isNew cX12_isNew 1 (some .int) 0 := ⟨⟨lw_h7 32 rfl rfl, lw_gi 42 rfl rfl⟩, ⟨in_X12, lw_h7 33 rfl rfl, ⟨nh_RX12.1, nh_RX12.2, pd_6⟩⟩⟩
end
section
set_option maxRecDepth 100000 in
theorem kX12_mourners : KV yX12_mourners cX12_mourners 6 (some .int) 0 := ⟨⟨lw_h7 35 rfl rfl, lw_h7 36 rfl rfl⟩, ⟨in_X12, lw_h7 37 rfl rfl, ⟨nh_RX12.1, nh_RX12.2, pd_6⟩⟩⟩
set_option maxRecDepth 100000 in
theorem kX12_readsMourner : KV yX12_readsMourner cX12_readsMourner 2 (some .boolean) 0 := ⟨⟨lw_h7 40 rfl rfl, lw_gi 43 rfl rfl⟩, ⟨in_X12, lw_h7 41 rfl rfl, ⟨nh_RX12.1, nh_RX12.2, pd_8⟩⟩⟩
set_option maxRecDepth 100000 in
theorem kJ0_substring_37a41 : KV yJ0_substring_37a41 cJ0_substring_37a41 5 (some (.object "java/lang/String")) 2 := ⟨⟨lw_h7 44 rfl rfl, lw_h7 45 rfl rfl⟩, ⟨in_J0, lw_h7 46 rfl rfl, ⟨nh_RJ0.1, nh_RJ0.2, pd_53⟩⟩⟩
set_option maxRecDepth 100000 in
theorem kJ1_newString_b4f7a : KS yJ1_newString_b4f7a cJ1_newString_b4f7a 3 (some (.object "java/lang/String")) 3 := ⟨lw_h7 49 rfl rfl, ⟨in_J1, lw_h7 50 rfl rfl, ⟨nh_RJ1.1, nh_RJ1.2, pd_54⟩⟩⟩
set_option maxRecDepth 100000 in
theorem kJ7_copyOfRange_39247 : KS yJ7_copyOfRange_39247 cJ7_copyOfRange_39247 3 (some (.array .byte)) 3 := ⟨lw_h7 55 rfl rfl, ⟨in_J7, lw_h7 56 rfl rfl, ⟨nh_RJ7.1, nh_RJ7.2, pd_55⟩⟩⟩
set_option maxRecDepth 100000 in
theorem kJ7_copyOfRangeByte_39247 : KS yJ7_copyOfRangeByte_39247 cJ7_copyOfRangeByte_39247 5 (some (.array .byte)) 3 := ⟨lw_h7 58 rfl rfl, ⟨in_J7, lw_h7 59 rfl rfl, ⟨nh_RJ7.1, nh_RJ7.2, pd_55⟩⟩⟩
set_option maxRecDepth 100000 in
theorem kJ7_checkLength_df160 : KS yJ7_checkLength_df160 cJ7_checkLength_df160 2 none 2 := ⟨lw_h7 61 rfl rfl, ⟨in_J7, lw_h7 62 rfl rfl, ⟨nh_RJ7.1, nh_RJ7.2, pd_2⟩⟩⟩
set_option maxRecDepth 100000 in
theorem kJ0_init_031fb : KI yJ0_init_031fb cJ0_init_031fb 3 none 2 := ⟨⟨rfl, lw_h7 73 rfl rfl⟩, ⟨in_J0, lw_h7 74 rfl rfl, ⟨nh_RJ0.1, nh_RJ0.2, pd_56⟩⟩⟩
set_option maxRecDepth 100000 in
theorem kX12_weather : KV yX12_weather cX12_weather 3 (some .int) 0 := ⟨⟨lw_h7 118 rfl rfl, lw_h7 119 rfl rfl⟩, ⟨in_X12, lw_h7 120 rfl rfl, ⟨nh_RX12.1, nh_RX12.2, pd_6⟩⟩⟩
set_option maxRecDepth 100000 in
theorem kX12_rule : KV yX12_rule cX12_rule 2 (some .int) 0 := ⟨⟨lw_h7 122 rfl rfl, lw_h7 123 rfl rfl⟩, ⟨in_X12, lw_h7 124 rfl rfl, ⟨nh_RX12.1, nh_RX12.2, pd_6⟩⟩⟩
set_option maxRecDepth 100000 in
theorem kX12_readsRule : KV yX12_readsRule cX12_readsRule 3 (some .int) 0 := ⟨⟨lw_h7 127 rfl rfl, lw_gi 44 rfl rfl⟩, ⟨in_X12, lw_h7 128 rfl rfl, ⟨nh_RX12.1, nh_RX12.2, pd_6⟩⟩⟩
set_option maxRecDepth 100000 in
theorem kX12_readsRank : KV yX12_readsRank cX12_readsRank 4 (some .boolean) 1 := ⟨⟨lw_h7 131 rfl rfl, lw_gi 45 rfl rfl⟩, ⟨in_X12, lw_h7 132 rfl rfl, ⟨nh_RX12.1, nh_RX12.2, pd_5⟩⟩⟩
set_option maxRecDepth 100000 in
theorem kX12_readsThing : KV yX12_readsThing cX12_readsThing 2 (some .boolean) 0 := ⟨⟨lw_h7 135 rfl rfl, lw_gi 46 rfl rfl⟩, ⟨in_X12, lw_h7 136 rfl rfl, ⟨nh_RX12.1, nh_RX12.2, pd_8⟩⟩⟩
set_option maxRecDepth 100000 in
theorem kX12_codes : KV yX12_codes cX12_codes 2 none 1 := ⟨⟨lw_h7 139 rfl rfl, lw_gi 47 rfl rfl⟩, ⟨in_X12, lw_h7 140 rfl rfl, ⟨nh_RX12.1, nh_RX12.2, pd_3⟩⟩⟩
set_option maxRecDepth 100000 in
theorem kX12_laysCode : KV yX12_laysCode cX12_laysCode 4 none 2 := ⟨⟨lw_h7 147 rfl rfl, lw_gi 48 rfl rfl⟩, ⟨in_X12, lw_h7 148 rfl rfl, ⟨nh_RX12.1, nh_RX12.2, pd_59⟩⟩⟩
set_option maxRecDepth 100000 in
theorem kX12_hearse : KV yX12_hearse cX12_hearse 3 (some .int) 2 := ⟨⟨lw_h7 150 rfl rfl, lw_h7 151 rfl rfl⟩, ⟨in_X12, lw_h7 152 rfl rfl, ⟨nh_RX12.1, nh_RX12.2, pd_11⟩⟩⟩
set_option maxRecDepth 100000 in
theorem kX12_isHearse : KV yX12_isHearse cX12_isHearse 2 (some .boolean) 1 := ⟨⟨lw_h7 155 rfl rfl, lw_gi 49 rfl rfl⟩, ⟨in_X12, lw_h7 156 rfl rfl, ⟨nh_RX12.1, nh_RX12.2, pd_5⟩⟩⟩
set_option maxRecDepth 100000 in
theorem kX12_refuse : KV yX12_refuse cX12_refuse 1 (some .int) 0 := ⟨⟨lw_h7 160 rfl rfl, lw_gi 50 rfl rfl⟩, ⟨in_X12, lw_h7 161 rfl rfl, ⟨nh_RX12.1, nh_RX12.2, pd_6⟩⟩⟩
set_option maxRecDepth 100000 in
theorem kX12_paceOf : KV yX12_paceOf cX12_paceOf 3 (some .int) 2 := ⟨⟨lw_h7 164 rfl rfl, lw_gi 51 rfl rfl⟩, ⟨in_X12, lw_h7 165 rfl rfl, ⟨nh_RX12.1, nh_RX12.2, pd_27⟩⟩⟩
set_option maxRecDepth 100000 in
theorem kX12_isOn : KS yX12_isOn cX12_isOn 2 (some .boolean) 2 := ⟨lw_h7 167 rfl rfl, ⟨in_X12, lw_h7 168 rfl rfl, ⟨nh_RX12.1, nh_RX12.2, pd_60⟩⟩⟩
set_option maxRecDepth 100000 in
theorem kX12_freeAhead : KV yX12_freeAhead cX12_freeAhead 4 (some .int) 2 := ⟨⟨lw_h7 171 rfl rfl, lw_gi 52 rfl rfl⟩, ⟨in_X12, lw_h7 172 rfl rfl, ⟨nh_RX12.1, nh_RX12.2, pd_27⟩⟩⟩
set_option maxRecDepth 100000 in
theorem kX12_weatherOn : KV yX12_weatherOn cX12_weatherOn 2 (some .int) 1 := ⟨⟨lw_h7 175 rfl rfl, lw_gi 53 rfl rfl⟩, ⟨in_X12, lw_h7 176 rfl rfl, ⟨nh_RX12.1, nh_RX12.2, pd_4⟩⟩⟩
set_option maxRecDepth 100000 in
theorem kX12_bitsBy : KV yX12_bitsBy cX12_bitsBy 6 (some .int) 3 := ⟨⟨lw_h7 179 rfl rfl, lw_gi 54 rfl rfl⟩, ⟨in_X12, lw_h7 180 rfl rfl, ⟨nh_RX12.1, nh_RX12.2, pd_61⟩⟩⟩
set_option maxRecDepth 100000 in
theorem kX12_ruled : KV yX12_ruled cX12_ruled 4 (some .int) 0 := ⟨⟨lw_h7 184 rfl rfl, lw_gi 55 rfl rfl⟩, ⟨in_X12, lw_h7 185 rfl rfl, ⟨nh_RX12.1, nh_RX12.2, pd_6⟩⟩⟩
set_option maxRecDepth 100000 in
theorem kX12_worked : KS yX12_worked cX12_worked 3 (some .int) 3 := ⟨lw_h7 187 rfl rfl, ⟨in_X12, lw_h7 188 rfl rfl, ⟨nh_RX12.1, nh_RX12.2, pd_28⟩⟩⟩
set_option maxRecDepth 100000 in
theorem kX12_owners : KV yX12_owners cX12_owners 4 (some .int) 1 := ⟨⟨lw_h7 192 rfl rfl, lw_gi 56 rfl rfl⟩, ⟨in_X12, lw_h7 193 rfl rfl, ⟨nh_RX12.1, nh_RX12.2, pd_4⟩⟩⟩
set_option maxRecDepth 100000 in
theorem kX12_mourner : KV yX12_mourner cX12_mourner 3 (some .int) 2 := ⟨⟨lw_h7 195 rfl rfl, lw_h7 196 rfl rfl⟩, ⟨in_X12, lw_h7 197 rfl rfl, ⟨nh_RX12.1, nh_RX12.2, pd_11⟩⟩⟩
set_option maxRecDepth 100000 in
theorem kX12_isMourner : KV yX12_isMourner cX12_isMourner 2 (some .boolean) 1 := ⟨⟨lw_h7 200 rfl rfl, lw_gi 57 rfl rfl⟩, ⟨in_X12, lw_h7 201 rfl rfl, ⟨nh_RX12.1, nh_RX12.2, pd_5⟩⟩⟩
set_option maxRecDepth 100000 in
theorem kX12_nearest : KV yX12_nearest cX12_nearest 7 (some .int) 2 := ⟨⟨lw_h7 205 rfl rfl, lw_gi 58 rfl rfl⟩, ⟨in_X12, lw_h7 206 rfl rfl, ⟨nh_RX12.1, nh_RX12.2, pd_27⟩⟩⟩
set_option maxRecDepth 100000 in
theorem kX12_sheet : KV yX12_sheet cX12_sheet 10 (some .int) 4 := ⟨⟨lw_h7 210 rfl rfl, lw_h7 211 rfl rfl⟩, ⟨in_X12, lw_h7 212 rfl rfl, ⟨nh_RX12.1, nh_RX12.2, pd_23⟩⟩⟩
set_option maxRecDepth 100000 in
theorem kX12_isEnded : KS yX12_isEnded cX12_isEnded 2 (some .boolean) 2 := ⟨lw_h7 215 rfl rfl, ⟨in_X12, lw_h7 216 rfl rfl, ⟨nh_RX12.1, nh_RX12.2, pd_60⟩⟩⟩
set_option maxRecDepth 100000 in
theorem kX12_undo : KV yX12_undo cX12_undo 2 (some .int) 0 := ⟨⟨lw_h7 218 rfl rfl, lw_h7 219 rfl rfl⟩, ⟨in_X12, lw_h7 220 rfl rfl, ⟨nh_RX12.1, nh_RX12.2, pd_6⟩⟩⟩
set_option maxRecDepth 100000 in
theorem kX12_steps : KV yX12_steps cX12_steps 2 (some .int) 1 := ⟨⟨lw_h7 222 rfl rfl, lw_h7 223 rfl rfl⟩, ⟨in_X12, lw_h7 224 rfl rfl, ⟨nh_RX12.1, nh_RX12.2, pd_4⟩⟩⟩
set_option maxRecDepth 100000 in
theorem kX12_putsBy : KV yX12_putsBy cX12_putsBy 2 none 0 := ⟨⟨lw_h7 228 rfl rfl, lw_gi 59 rfl rfl⟩, ⟨in_X12, lw_h7 229 rfl rfl, ⟨nh_RX12.1, nh_RX12.2, pd_0⟩⟩⟩
set_option maxRecDepth 100000 in
theorem kX12_goesOn : KV yX12_goesOn cX12_goesOn 4 none 2 := ⟨⟨lw_h7 232 rfl rfl, lw_gi 60 rfl rfl⟩, ⟨in_X12, lw_h7 233 rfl rfl, ⟨nh_RX12.1, nh_RX12.2, pd_59⟩⟩⟩
set_option maxRecDepth 100000 in
theorem kX12_stepGoes : KV yX12_stepGoes cX12_stepGoes 3 none 1 := ⟨⟨lw_h7 236 rfl rfl, lw_gi 61 rfl rfl⟩, ⟨in_X12, lw_h7 237 rfl rfl, ⟨nh_RX12.1, nh_RX12.2, pd_38⟩⟩⟩
set_option maxRecDepth 100000 in
theorem kX12_laysLine : KV yX12_laysLine cX12_laysLine 4 none 1 := ⟨⟨lw_h8 0 rfl rfl, lw_gi 62 rfl rfl⟩, ⟨in_X12, lw_h8 1 rfl rfl, ⟨nh_RX12.1, nh_RX12.2, pd_38⟩⟩⟩
set_option maxRecDepth 100000 in
theorem kX12_hearseGoes : KV yX12_hearseGoes cX12_hearseGoes 4 none 2 := ⟨⟨lw_h8 4 rfl rfl, lw_gi 63 rfl rfl⟩, ⟨in_X12, lw_h8 5 rfl rfl, ⟨nh_RX12.1, nh_RX12.2, pd_59⟩⟩⟩
set_option maxRecDepth 100000 in
theorem kX12_goal : KV yX12_goal cX12_goal 10 (some .int) 3 := ⟨⟨lw_h8 8 rfl rfl, lw_gi 64 rfl rfl⟩, ⟨in_X12, lw_h8 9 rfl rfl, ⟨nh_RX12.1, nh_RX12.2, pd_61⟩⟩⟩
set_option maxRecDepth 100000 in
theorem kX12_mournerGoes : KV yX12_mournerGoes cX12_mournerGoes 6 none 2 := ⟨⟨lw_h8 12 rfl rfl, lw_gi 65 rfl rfl⟩, ⟨in_X12, lw_h8 13 rfl rfl, ⟨nh_RX12.1, nh_RX12.2, pd_59⟩⟩⟩
set_option maxRecDepth 100000 in
theorem kX12_enters : KV yX12_enters cX12_enters 3 none 1 := ⟨⟨lw_h8 16 rfl rfl, lw_gi 66 rfl rfl⟩, ⟨in_X12, lw_h8 17 rfl rfl, ⟨nh_RX12.1, nh_RX12.2, pd_31⟩⟩⟩
set_option maxRecDepth 100000 in
theorem kX12_adds : KV yX12_adds cX12_adds 3 (some .int) 1 := ⟨⟨lw_h8 20 rfl rfl, lw_gi 67 rfl rfl⟩, ⟨in_X12, lw_h8 21 rfl rfl, ⟨nh_RX12.1, nh_RX12.2, pd_4⟩⟩⟩
set_option maxRecDepth 100000 in
theorem kX12_turnsTo : KV yX12_turnsTo cX12_turnsTo 2 (some .int) 1 := ⟨⟨lw_h8 23 rfl rfl, lw_h8 24 rfl rfl⟩, ⟨in_X12, lw_h8 25 rfl rfl, ⟨nh_RX12.1, nh_RX12.2, pd_4⟩⟩⟩
set_option maxRecDepth 100000 in
theorem kX12_turnsOne : KV yX12_turnsOne cX12_turnsOne 4 (some .int) 2 := ⟨⟨lw_h8 28 rfl rfl, lw_gi 68 rfl rfl⟩, ⟨in_X12, lw_h8 29 rfl rfl, ⟨nh_RX12.1, nh_RX12.2, pd_27⟩⟩⟩
set_option maxRecDepth 100000 in
theorem kX12_counted : KV yX12_counted cX12_counted 2 (some .int) 1 := ⟨⟨lw_h8 32 rfl rfl, lw_gi 69 rfl rfl⟩, ⟨in_X12, lw_h8 33 rfl rfl, ⟨nh_RX12.1, nh_RX12.2, pd_4⟩⟩⟩
set_option maxRecDepth 100000 in
theorem kX12_pushes : KV yX12_pushes cX12_pushes 3 (some .int) 2 := ⟨⟨lw_h8 35 rfl rfl, lw_h8 36 rfl rfl⟩, ⟨in_X12, lw_h8 37 rfl rfl, ⟨nh_RX12.1, nh_RX12.2, pd_11⟩⟩⟩
set_option maxRecDepth 100000 in
theorem kX12_pushesOne : KV yX12_pushesOne cX12_pushesOne 4 (some .int) 3 := ⟨⟨lw_h8 40 rfl rfl, lw_gi 70 rfl rfl⟩, ⟨in_X12, lw_h8 41 rfl rfl, ⟨nh_RX12.1, nh_RX12.2, pd_61⟩⟩⟩
set_option maxRecDepth 100000 in
theorem kX12_swaps : KV yX12_swaps cX12_swaps 3 (some .int) 2 := ⟨⟨lw_h8 45 rfl rfl, lw_h8 46 rfl rfl⟩, ⟨in_X12, lw_h8 47 rfl rfl, ⟨nh_RX12.1, nh_RX12.2, pd_11⟩⟩⟩
set_option maxRecDepth 100000 in
theorem kX12_swapsTwo : KV yX12_swapsTwo cX12_swapsTwo 4 (some .int) 2 := ⟨⟨lw_h8 50 rfl rfl, lw_gi 71 rfl rfl⟩, ⟨in_X12, lw_h8 51 rfl rfl, ⟨nh_RX12.1, nh_RX12.2, pd_11⟩⟩⟩
set_option maxRecDepth 100000 in
theorem kX12_hour : KV yX12_hour cX12_hour 5 (some .int) 0 := ⟨⟨lw_h8 53 rfl rfl, lw_h8 54 rfl rfl⟩, ⟨in_X12, lw_h8 55 rfl rfl, ⟨nh_RX12.1, nh_RX12.2, pd_6⟩⟩⟩
set_option maxRecDepth 100000 in
theorem kX12_readsAct : KV yX12_readsAct cX12_readsAct 2 (some .boolean) 0 := ⟨⟨lw_h8 58 rfl rfl, lw_gi 72 rfl rfl⟩, ⟨in_X12, lw_h8 59 rfl rfl, ⟨nh_RX12.1, nh_RX12.2, pd_8⟩⟩⟩
set_option maxRecDepth 100000 in
theorem kX12_digitIn : KV yX12_digitIn cX12_digitIn 3 (some .int) 2 := ⟨⟨lw_h8 63 rfl rfl, lw_gi 73 rfl rfl⟩, ⟨in_X12, lw_h8 64 rfl rfl, ⟨nh_RX12.1, nh_RX12.2, pd_11⟩⟩⟩
set_option maxRecDepth 100000 in
theorem kX12_does : KV yX12_does cX12_does 4 (some .boolean) 1 := ⟨⟨lw_h8 67 rfl rfl, lw_gi 74 rfl rfl⟩, ⟨in_X12, lw_h8 68 rfl rfl, ⟨nh_RX12.1, nh_RX12.2, pd_5⟩⟩⟩
set_option maxRecDepth 100000 in
theorem kX12_line : KV yX12_line cX12_line 2 (some .int) 0 := ⟨⟨lw_h8 70 rfl rfl, lw_h8 71 rfl rfl⟩, ⟨in_X12, lw_h8 72 rfl rfl, ⟨nh_RX12.1, nh_RX12.2, pd_6⟩⟩⟩
set_option maxRecDepth 100000 in
theorem kX12_ahead : KV yX12_ahead cX12_ahead 3 (some .int) 1 := ⟨⟨lw_h8 74 rfl rfl, lw_h8 75 rfl rfl⟩, ⟨in_X12, lw_h8 76 rfl rfl, ⟨nh_RX12.1, nh_RX12.2, pd_4⟩⟩⟩
set_option maxRecDepth 100000 in
theorem kX12_copies : KV yX12_copies cX12_copies 2 none 0 := ⟨⟨lw_h8 80 rfl rfl, lw_gi 75 rfl rfl⟩, ⟨in_X12, lw_h8 81 rfl rfl, ⟨nh_RX12.1, nh_RX12.2, pd_0⟩⟩⟩
set_option maxRecDepth 100000 in
theorem kX12_arrives : KV yX12_arrives cX12_arrives 3 (some .int) 1 := ⟨⟨lw_h8 83 rfl rfl, lw_h8 84 rfl rfl⟩, ⟨in_X12, lw_h8 85 rfl rfl, ⟨nh_RX12.1, nh_RX12.2, pd_4⟩⟩⟩
set_option maxRecDepth 100000 in
theorem kX12_jam : KV yX12_jam cX12_jam 4 (some .int) 1 := ⟨⟨lw_h8 87 rfl rfl, lw_h8 88 rfl rfl⟩, ⟨in_X12, lw_h8 89 rfl rfl, ⟨nh_RX12.1, nh_RX12.2, pd_4⟩⟩⟩
set_option maxRecDepth 100000 in
theorem kX12_passes : KV yX12_passes cX12_passes 4 (some .int) 2 := ⟨⟨lw_h8 91 rfl rfl, lw_h8 92 rfl rfl⟩, ⟨in_X12, lw_h8 93 rfl rfl, ⟨nh_RX12.1, nh_RX12.2, pd_11⟩⟩⟩
set_option maxRecDepth 100000 in
theorem kX12_isAhead : KS yX12_isAhead cX12_isAhead 3 (some .boolean) 3 := ⟨lw_h8 95 rfl rfl, ⟨in_X12, lw_h8 96 rfl rfl, ⟨nh_RX12.1, nh_RX12.2, pd_62⟩⟩⟩
set_option maxRecDepth 100000 in
theorem kX12_ends : KV yX12_ends cX12_ends 3 (some .int) 1 := ⟨⟨lw_h8 98 rfl rfl, lw_h8 99 rfl rfl⟩, ⟨in_X12, lw_h8 100 rfl rfl, ⟨nh_RX12.1, nh_RX12.2, pd_4⟩⟩⟩
set_option maxRecDepth 100000 in
theorem kX12_right : KV yX12_right cX12_right 2 (some .int) 0 := ⟨⟨lw_h8 102 rfl rfl, lw_h8 103 rfl rfl⟩, ⟨in_X12, lw_h8 104 rfl rfl, ⟨nh_RX12.1, nh_RX12.2, pd_6⟩⟩⟩
set_option maxRecDepth 100000 in
theorem kX12_rightThen : KV yX12_rightThen cX12_rightThen 3 (some .int) 0 := ⟨⟨lw_h8 107 rfl rfl, lw_gi 76 rfl rfl⟩, ⟨in_X12, lw_h8 108 rfl rfl, ⟨nh_RX12.1, nh_RX12.2, pd_6⟩⟩⟩
set_option maxRecDepth 100000 in
theorem kX12_endedBy : KV yX12_endedBy cX12_endedBy 5 (some .int) 2 := ⟨⟨lw_h8 111 rfl rfl, lw_gi 77 rfl rfl⟩, ⟨in_X12, lw_h8 112 rfl rfl, ⟨nh_RX12.1, nh_RX12.2, pd_63⟩⟩⟩
set_option maxRecDepth 100000 in
theorem kX12_order : KV yX12_order cX12_order 2 (some .int) 0 := ⟨⟨lw_h8 114 rfl rfl, lw_h8 115 rfl rfl⟩, ⟨in_X12, lw_h8 116 rfl rfl, ⟨nh_RX12.1, nh_RX12.2, pd_6⟩⟩⟩
set_option maxRecDepth 100000 in
theorem kX12_places : KV yX12_places cX12_places 5 none 2 := ⟨⟨lw_h8 119 rfl rfl, lw_gi 78 rfl rfl⟩, ⟨in_X12, lw_h8 120 rfl rfl, ⟨nh_RX12.1, nh_RX12.2, pd_2⟩⟩⟩
set_option maxRecDepth 100000 in
theorem kX12_has : KS yX12_has cX12_has 2 (some .boolean) 2 := ⟨lw_h8 122 rfl rfl, ⟨in_X12, lw_h8 123 rfl rfl, ⟨nh_RX12.1, nh_RX12.2, pd_34⟩⟩⟩
set_option maxRecDepth 100000 in
theorem kX12_stands : KV yX12_stands cX12_stands 5 (some .int) 1 := ⟨⟨lw_h8 125 rfl rfl, lw_h8 126 rfl rfl⟩, ⟨in_X12, lw_h8 127 rfl rfl, ⟨nh_RX12.1, nh_RX12.2, pd_4⟩⟩⟩
set_option maxRecDepth 100000 in
theorem kX12_when : KV yX12_when cX12_when 7 (some .int) 1 := ⟨⟨lw_h8 129 rfl rfl, lw_h8 130 rfl rfl⟩, ⟨in_X12, lw_h8 131 rfl rfl, ⟨nh_RX12.1, nh_RX12.2, pd_4⟩⟩⟩
set_option maxRecDepth 100000 in
theorem kX12_mends : KV yX12_mends cX12_mends 7 (some .int) 1 := ⟨⟨lw_h8 133 rfl rfl, lw_h8 134 rfl rfl⟩, ⟨in_X12, lw_h8 135 rfl rfl, ⟨nh_RX12.1, nh_RX12.2, pd_4⟩⟩⟩
set_option maxRecDepth 100000 in
theorem kX12_misleads : KV yX12_misleads cX12_misleads 6 (some .int) 0 := ⟨⟨lw_h8 138 rfl rfl, lw_h8 139 rfl rfl⟩, ⟨in_X12, lw_h8 140 rfl rfl, ⟨nh_RX12.1, nh_RX12.2, pd_6⟩⟩⟩
set_option maxRecDepth 100000 in
theorem kX12_crowd : KV yX12_crowd cX12_crowd 3 (some .int) 0 := ⟨⟨lw_h8 142 rfl rfl, lw_h8 143 rfl rfl⟩, ⟨in_X12, lw_h8 144 rfl rfl, ⟨nh_RX12.1, nh_RX12.2, pd_6⟩⟩⟩
set_option maxRecDepth 100000 in
theorem kX12_shares : KV yX12_shares cX12_shares 3 (some .int) 1 := ⟨⟨lw_h8 146 rfl rfl, lw_h8 147 rfl rfl⟩, ⟨in_X12, lw_h8 148 rfl rfl, ⟨nh_RX12.1, nh_RX12.2, pd_4⟩⟩⟩
set_option maxRecDepth 100000 in
theorem kX12_sharesFrom : KV yX12_sharesFrom cX12_sharesFrom 6 none 4 := ⟨⟨lw_h8 152 rfl rfl, lw_gi 79 rfl rfl⟩, ⟨in_X12, lw_h8 153 rfl rfl, ⟨nh_RX12.1, nh_RX12.2, pd_64⟩⟩⟩
set_option maxRecDepth 100000 in
theorem kX12_strangers : KV yX12_strangers cX12_strangers 7 (some .int) 0 := ⟨⟨lw_h8 155 rfl rfl, lw_h8 156 rfl rfl⟩, ⟨in_X12, lw_h8 157 rfl rfl, ⟨nh_RX12.1, nh_RX12.2, pd_6⟩⟩⟩
set_option maxRecDepth 100000 in
theorem kX12_doubts : KV yX12_doubts cX12_doubts 6 (some .int) 0 := ⟨⟨lw_h8 159 rfl rfl, lw_h8 160 rfl rfl⟩, ⟨in_X12, lw_h8 161 rfl rfl, ⟨nh_RX12.1, nh_RX12.2, pd_6⟩⟩⟩
set_option maxRecDepth 100000 in
theorem kX12_heard : KV yX12_heard cX12_heard 4 (some .int) 2 := ⟨⟨lw_h8 163 rfl rfl, lw_h8 164 rfl rfl⟩, ⟨in_X12, lw_h8 165 rfl rfl, ⟨nh_RX12.1, nh_RX12.2, pd_11⟩⟩⟩
set_option maxRecDepth 100000 in
theorem kX12_forget : KV yX12_forget cX12_forget 2 (some .int) 0 := ⟨⟨lw_h8 167 rfl rfl, lw_h8 168 rfl rfl⟩, ⟨in_X12, lw_h8 169 rfl rfl, ⟨nh_RX12.1, nh_RX12.2, pd_6⟩⟩⟩
set_option maxRecDepth 100000 in
theorem kX12_fits : KV yX12_fits cX12_fits 5 (some .int) 0 := ⟨⟨lw_h8 171 rfl rfl, lw_h8 172 rfl rfl⟩, ⟨in_X12, lw_h8 173 rfl rfl, ⟨nh_RX12.1, nh_RX12.2, pd_6⟩⟩⟩
set_option maxRecDepth 100000 in
theorem kX12_isSo : KV yX12_isSo cX12_isSo 4 (some .boolean) 3 := ⟨⟨lw_h8 176 rfl rfl, lw_gi 80 rfl rfl⟩, ⟨in_X12, lw_h8 177 rfl rfl, ⟨nh_RX12.1, nh_RX12.2, pd_46⟩⟩⟩
set_option maxRecDepth 100000 in
theorem kX12_rains : KV yX12_rains cX12_rains 12 (some .int) 3 := ⟨⟨lw_h8 179 rfl rfl, lw_h8 180 rfl rfl⟩, ⟨in_X12, lw_h8 181 rfl rfl, ⟨nh_RX12.1, nh_RX12.2, pd_28⟩⟩⟩
set_option maxRecDepth 100000 in
theorem kX12_common : KS yX12_common cX12_common 4 (some .long) 2 := ⟨lw_h8 185 rfl rfl, ⟨in_X12, lw_h8 186 rfl rfl, ⟨nh_RX12.1, nh_RX12.2, pd_45⟩⟩⟩
set_option maxRecDepth 100000 in
theorem kX12_law : KV yX12_law cX12_law 5 (some .int) 0 := ⟨⟨lw_h8 188 rfl rfl, lw_h8 189 rfl rfl⟩, ⟨in_X12, lw_h8 190 rfl rfl, ⟨nh_RX12.1, nh_RX12.2, pd_6⟩⟩⟩
set_option maxRecDepth 100000 in
theorem kX12_rests : KV yX12_rests cX12_rests 5 (some .int) 1 := ⟨⟨lw_h8 192 rfl rfl, lw_h8 193 rfl rfl⟩, ⟨in_X12, lw_h8 194 rfl rfl, ⟨nh_RX12.1, nh_RX12.2, pd_4⟩⟩⟩
set_option maxRecDepth 100000 in
theorem kX12_isRest : KS yX12_isRest cX12_isRest 5 (some .boolean) 3 := ⟨lw_h8 197 rfl rfl, ⟨in_X12, lw_h8 198 rfl rfl, ⟨nh_RX12.1, nh_RX12.2, pd_46⟩⟩⟩
set_option maxRecDepth 100000 in
theorem kX12_gets : KS yX12_gets cX12_gets 3 (some .int) 3 := ⟨lw_h8 200 rfl rfl, ⟨in_X12, lw_h8 201 rfl rfl, ⟨nh_RX12.1, nh_RX12.2, pd_28⟩⟩⟩
set_option maxRecDepth 100000 in
theorem kX12_years : KV yX12_years cX12_years 6 (some .int) 2 := ⟨⟨lw_h8 203 rfl rfl, lw_h8 204 rfl rfl⟩, ⟨in_X12, lw_h8 205 rfl rfl, ⟨nh_RX12.1, nh_RX12.2, pd_11⟩⟩⟩
set_option maxRecDepth 100000 in
theorem kX12_draws : KV yX12_draws cX12_draws 2 (some .int) 1 := ⟨⟨lw_h8 208 rfl rfl, lw_gi 81 rfl rfl⟩, ⟨in_X12, lw_h8 209 rfl rfl, ⟨nh_RX12.1, nh_RX12.2, pd_4⟩⟩⟩
set_option maxRecDepth 100000 in
theorem kX12_keep : KV yX12_keep cX12_keep 3 (some .boolean) 1 := ⟨⟨lw_h8 212 rfl rfl, lw_h8 213 rfl rfl⟩, ⟨in_X12, lw_h8 214 rfl rfl, ⟨nh_RX12.1, nh_RX12.2, pd_5⟩⟩⟩
set_option maxRecDepth 100000 in
theorem kX12_again : KV yX12_again cX12_again 3 (some .boolean) 1 := ⟨⟨lw_h8 217 rfl rfl, lw_h8 218 rfl rfl⟩, ⟨in_X12, lw_h8 219 rfl rfl, ⟨nh_RX12.1, nh_RX12.2, pd_5⟩⟩⟩
set_option maxRecDepth 100000 in
theorem kX12_count : KV yX12_count cX12_count 4 (some .int) 1 := ⟨⟨lw_h8 221 rfl rfl, lw_h8 222 rfl rfl⟩, ⟨in_X12, lw_h8 223 rfl rfl, ⟨nh_RX12.1, nh_RX12.2, pd_4⟩⟩⟩
set_option maxRecDepth 100000 in
theorem kX12_row : KV yX12_row cX12_row 2 (some .long) 1 := ⟨⟨lw_h8 225 rfl rfl, lw_h8 226 rfl rfl⟩, ⟨in_X12, lw_h8 227 rfl rfl, ⟨nh_RX12.1, nh_RX12.2, pd_47⟩⟩⟩
end
