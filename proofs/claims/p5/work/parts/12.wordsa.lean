set_option maxRecDepth 100000 in
theorem in_L : Cond.initialized RL ∈ lw_good := lw_gi 82 rfl rfl
set_option maxRecDepth 100000 in
theorem in_X11 : Cond.initialized RX11 ∈ lw_good := lw_gi 83 rfl rfl
set_option maxRecDepth 100000 in
theorem in_X9 : Cond.initialized RX9 ∈ lw_good := lw_gi 84 rfl rfl
set_option maxRecDepth 100000 in
theorem in_X8 : Cond.initialized RX8 ∈ lw_good := lw_gi 85 rfl rfl
set_option maxRecDepth 100000 in
theorem in_X6 : Cond.initialized RX6 ∈ lw_good := lw_gi 86 rfl rfl
set_option maxRecDepth 100000 in
theorem in_X10 : Cond.initialized RX10 ∈ lw_good := lw_gi 87 rfl rfl
set_option maxRecDepth 100000 in
theorem in_X1 : Cond.initialized RX1 ∈ lw_good := lw_gi 88 rfl rfl
set_option maxRecDepth 100000 in
theorem in_X4 : Cond.initialized RX4 ∈ lw_good := lw_gi 89 rfl rfl
set_option maxRecDepth 100000 in
theorem in_X7 : Cond.initialized RX7 ∈ lw_good := lw_gi 90 rfl rfl
set_option maxRecDepth 100000 in
theorem in_X3 : Cond.initialized RX3 ∈ lw_good := lw_gi 91 rfl rfl
set_option maxRecDepth 100000 in
theorem in_X0 : Cond.initialized RX0 ∈ lw_good := lw_gi 92 rfl rfl
set_option maxRecDepth 100000 in
theorem in_X5 : Cond.initialized RX5 ∈ lw_good := lw_gi 93 rfl rfl
set_option maxRecDepth 100000 in
theorem in_X2 : Cond.initialized RX2 ∈ lw_good := lw_gi 94 rfl rfl
set_option maxRecDepth 100000 in
theorem in_X12 : Cond.initialized RX12 ∈ lw_good := lw_gi 95 rfl rfl
set_option maxRecDepth 100000 in
theorem in_J9 : Cond.initialized RJ9 ∈ lw_good := lw_gi 96 rfl rfl
set_option maxRecDepth 100000 in
theorem in_J0 : Cond.initialized RJ0 ∈ lw_good := lw_gi 97 rfl rfl
set_option maxRecDepth 100000 in
theorem in_J1 : Cond.initialized RJ1 ∈ lw_good := lw_gi 98 rfl rfl
set_option maxRecDepth 100000 in
theorem in_J3 : Cond.initialized RJ3 ∈ lw_good := lw_gi 99 rfl rfl
set_option maxRecDepth 100000 in
theorem in_J2 : Cond.initialized RJ2 ∈ lw_good := lw_gi 100 rfl rfl
set_option maxRecDepth 100000 in
theorem in_J10 : Cond.initialized RJ10 ∈ lw_good := lw_gi 101 rfl rfl
set_option maxRecDepth 100000 in
theorem in_J7 : Cond.initialized RJ7 ∈ lw_good := lw_gi 102 rfl rfl
set_option maxRecDepth 100000 in
theorem in_J11 : Cond.initialized RJ11 ∈ lw_good := lw_gi 103 rfl rfl
set_option maxRecDepth 100000 in
theorem in_J6 : Cond.initialized RJ6 ∈ lw_good := lw_gi 108 rfl rfl
set_option maxRecDepth 100000 in
theorem cl_L_8 : Cond.classLink RL 8 RX11 ∈ lw_good := lw_gi 109 rfl rfl
set_option maxRecDepth 100000 in
theorem it_X11 : Cond.instantiable RX11 18 ∈ lw_good := lw_gi 110 rfl rfl
set_option maxRecDepth 100000 in
theorem ml_L_22 : Cond.methodLink RL 22 yX11_init ∈ lw_good := lw_gi 111 rfl rfl
set_option maxRecDepth 100000 in
theorem ml_X11_1 : Cond.methodLink RX11 1 objectInit ∈ lw_good := lw_gi 114 rfl rfl
set_option maxRecDepth 100000 in
theorem im_init : Cond.instanceMethod objectInit ∈ lw_good := lw_gi 115 rfl rfl
set_option maxRecDepth 100000 in
theorem cd_init : Cond.code objectInit ⟨#[0xb1]⟩ 1 none ∈ lw_good := lw_gi 116 rfl rfl
set_option maxRecDepth 100000 in
theorem cl_X11_7 : Cond.classLink RX11 7 RX9 ∈ lw_good := lw_gi 117 rfl rfl
set_option maxRecDepth 100000 in
theorem it_X9 : Cond.instantiable RX9 4 ∈ lw_good := lw_gi 118 rfl rfl
set_option maxRecDepth 100000 in
theorem ml_X11_9 : Cond.methodLinkNest RX11 9 yX9_init "BehindAnotherHearse" ∈ lw_nest := lw_ni 119 rfl rfl
set_option maxRecDepth 100000 in
theorem ml_X9_3 : Cond.methodLink RX9 3 objectInit ∈ lw_good := lw_gi 122 rfl rfl
set_option maxRecDepth 100000 in
theorem fl_X9_9 : Cond.fieldLink RX9 9 "BehindAnotherHearse$Text" "signs" "[I" ∈ lw_good := lw_gi 123 rfl rfl
set_option maxRecDepth 100000 in
theorem fl_X9_15 : Cond.fieldLink RX9 15 "BehindAnotherHearse$Text" "length" "I" ∈ lw_good := lw_gi 124 rfl rfl
set_option maxRecDepth 100000 in
theorem fl_X8_25 : Cond.fieldLinkNest RX8 25 "BehindAnotherHearse$Text" "length" "I" "BehindAnotherHearse" ∈ lw_nest := lw_ni 125 rfl rfl
set_option maxRecDepth 100000 in
theorem fl_X11_119 : Cond.fieldLinkNest RX11 119 "BehindAnotherHearse$Text" "length" "I" "BehindAnotherHearse" ∈ lw_nest := lw_ni 126 rfl rfl
set_option maxRecDepth 100000 in
theorem fl_X9_19 : Cond.fieldLink RX9 19 "BehindAnotherHearse$Text" "at" "I" ∈ lw_good := lw_gi 127 rfl rfl
set_option maxRecDepth 100000 in
theorem fl_X5_54 : Cond.fieldLinkNest RX5 54 "BehindAnotherHearse$Text" "at" "I" "BehindAnotherHearse" ∈ lw_nest := lw_ni 128 rfl rfl
set_option maxRecDepth 100000 in
theorem fl_X11_167 : Cond.fieldLinkNest RX11 167 "BehindAnotherHearse$Text" "at" "I" "BehindAnotherHearse" ∈ lw_nest := lw_ni 129 rfl rfl
set_option maxRecDepth 100000 in
theorem fl_X9_22 : Cond.fieldLink RX9 22 "BehindAnotherHearse$Text" "stop" "I" ∈ lw_good := lw_gi 130 rfl rfl
set_option maxRecDepth 100000 in
theorem ac_int : Cond.arrayClass .int ∈ lw_good := lw_gi 140 rfl rfl
set_option maxRecDepth 100000 in
theorem cl_X11_16 : Cond.classLink RX11 16 RX8 ∈ lw_good := lw_gi 141 rfl rfl
set_option maxRecDepth 100000 in
theorem it_X8 : Cond.instantiable RX8 4 ∈ lw_good := lw_gi 142 rfl rfl
set_option maxRecDepth 100000 in
theorem ml_X11_18 : Cond.methodLinkNest RX11 18 yX8_init "BehindAnotherHearse" ∈ lw_nest := lw_ni 143 rfl rfl
set_option maxRecDepth 100000 in
theorem ml_X8_3 : Cond.methodLink RX8 3 objectInit ∈ lw_good := lw_gi 146 rfl rfl
set_option maxRecDepth 100000 in
theorem fl_X8_9 : Cond.fieldLink RX8 9 "BehindAnotherHearse$Street" "digits" "[I" ∈ lw_good := lw_gi 147 rfl rfl
set_option maxRecDepth 100000 in
theorem fl_X8_15 : Cond.fieldLink RX8 15 "BehindAnotherHearse$Street" "cells" "I" ∈ lw_good := lw_gi 148 rfl rfl
set_option maxRecDepth 100000 in
theorem fl_X3_22 : Cond.fieldLinkNest RX3 22 "BehindAnotherHearse$Street" "cells" "I" "BehindAnotherHearse" ∈ lw_nest := lw_ni 149 rfl rfl
set_option maxRecDepth 100000 in
theorem fl_X10_60 : Cond.fieldLinkNest RX10 60 "BehindAnotherHearse$Street" "cells" "I" "BehindAnotherHearse" ∈ lw_nest := lw_ni 150 rfl rfl
set_option maxRecDepth 100000 in
theorem fl_X11_350 : Cond.fieldLinkNest RX11 350 "BehindAnotherHearse$Street" "cells" "I" "BehindAnotherHearse" ∈ lw_nest := lw_ni 151 rfl rfl
set_option maxRecDepth 100000 in
theorem fl_X8_19 : Cond.fieldLink RX8 19 "BehindAnotherHearse$Street" "corners" "I" ∈ lw_good := lw_gi 152 rfl rfl
set_option maxRecDepth 100000 in
theorem fl_X10_115 : Cond.fieldLinkNest RX10 115 "BehindAnotherHearse$Street" "corners" "I" "BehindAnotherHearse" ∈ lw_nest := lw_ni 153 rfl rfl
set_option maxRecDepth 100000 in
theorem fl_X11_486 : Cond.fieldLinkNest RX11 486 "BehindAnotherHearse$Street" "corners" "I" "BehindAnotherHearse" ∈ lw_nest := lw_ni 154 rfl rfl
set_option maxRecDepth 100000 in
theorem fl_X8_22 : Cond.fieldLink RX8 22 "BehindAnotherHearse$Street" "digitCount" "I" ∈ lw_good := lw_gi 155 rfl rfl
set_option maxRecDepth 100000 in
theorem fl_X2_46 : Cond.fieldLinkNest RX2 46 "BehindAnotherHearse$Street" "digitCount" "I" "BehindAnotherHearse" ∈ lw_nest := lw_ni 156 rfl rfl
set_option maxRecDepth 100000 in
theorem cl_X11_23 : Cond.classLink RX11 23 RX6 ∈ lw_good := lw_gi 166 rfl rfl
set_option maxRecDepth 100000 in
theorem it_X6 : Cond.instantiable RX6 11 ∈ lw_good := lw_gi 167 rfl rfl
set_option maxRecDepth 100000 in
theorem ml_X11_25 : Cond.methodLinkNest RX11 25 yX6_init "BehindAnotherHearse" ∈ lw_nest := lw_ni 168 rfl rfl
set_option maxRecDepth 100000 in
theorem ml_X6_3 : Cond.methodLink RX6 3 objectInit ∈ lw_good := lw_gi 171 rfl rfl
set_option maxRecDepth 100000 in
theorem fl_X6_9 : Cond.fieldLink RX6 9 "BehindAnotherHearse$Scene" "cell" "[I" ∈ lw_good := lw_gi 172 rfl rfl
set_option maxRecDepth 100000 in
theorem fl_X7_49 : Cond.fieldLinkNest RX7 49 "BehindAnotherHearse$Scene" "cell" "[I" "BehindAnotherHearse" ∈ lw_nest := lw_ni 173 rfl rfl
set_option maxRecDepth 100000 in
theorem fl_X10_69 : Cond.fieldLinkNest RX10 69 "BehindAnotherHearse$Scene" "cell" "[I" "BehindAnotherHearse" ∈ lw_nest := lw_ni 174 rfl rfl
set_option maxRecDepth 100000 in
theorem fl_X2_51 : Cond.fieldLinkNest RX2 51 "BehindAnotherHearse$Scene" "cell" "[I" "BehindAnotherHearse" ∈ lw_nest := lw_ni 175 rfl rfl
set_option maxRecDepth 100000 in
theorem fl_X11_230 : Cond.fieldLinkNest RX11 230 "BehindAnotherHearse$Scene" "cell" "[I" "BehindAnotherHearse" ∈ lw_nest := lw_ni 176 rfl rfl
set_option maxRecDepth 100000 in
theorem fl_X6_15 : Cond.fieldLink RX6 15 "BehindAnotherHearse$Scene" "rank" "[I" ∈ lw_good := lw_gi 177 rfl rfl
set_option maxRecDepth 100000 in
theorem fl_X0_45 : Cond.fieldLinkNest RX0 45 "BehindAnotherHearse$Scene" "rank" "[I" "BehindAnotherHearse" ∈ lw_nest := lw_ni 178 rfl rfl
set_option maxRecDepth 100000 in
theorem fl_X11_234 : Cond.fieldLinkNest RX11 234 "BehindAnotherHearse$Scene" "rank" "[I" "BehindAnotherHearse" ∈ lw_nest := lw_ni 179 rfl rfl
set_option maxRecDepth 100000 in
theorem fl_X6_18 : Cond.fieldLink RX6 18 "BehindAnotherHearse$Scene" "place" "[I" ∈ lw_good := lw_gi 180 rfl rfl
set_option maxRecDepth 100000 in
theorem fl_X7_53 : Cond.fieldLinkNest RX7 53 "BehindAnotherHearse$Scene" "place" "[I" "BehindAnotherHearse" ∈ lw_nest := lw_ni 181 rfl rfl
set_option maxRecDepth 100000 in
theorem fl_X10_128 : Cond.fieldLinkNest RX10 128 "BehindAnotherHearse$Scene" "place" "[I" "BehindAnotherHearse" ∈ lw_nest := lw_ni 182 rfl rfl
set_option maxRecDepth 100000 in
theorem fl_X11_270 : Cond.fieldLinkNest RX11 270 "BehindAnotherHearse$Scene" "place" "[I" "BehindAnotherHearse" ∈ lw_nest := lw_ni 183 rfl rfl
set_option maxRecDepth 100000 in
theorem fl_X6_21 : Cond.fieldLink RX6 21 "BehindAnotherHearse$Scene" "own" "[I" ∈ lw_good := lw_gi 184 rfl rfl
set_option maxRecDepth 100000 in
theorem fl_X0_30 : Cond.fieldLinkNest RX0 30 "BehindAnotherHearse$Scene" "own" "[I" "BehindAnotherHearse" ∈ lw_nest := lw_ni 185 rfl rfl
set_option maxRecDepth 100000 in
theorem fl_X11_250 : Cond.fieldLinkNest RX11 250 "BehindAnotherHearse$Scene" "own" "[I" "BehindAnotherHearse" ∈ lw_nest := lw_ni 186 rfl rfl
set_option maxRecDepth 100000 in
theorem fl_X6_24 : Cond.fieldLink RX6 24 "BehindAnotherHearse$Scene" "follows" "[I" ∈ lw_good := lw_gi 187 rfl rfl
set_option maxRecDepth 100000 in
theorem fl_X10_118 : Cond.fieldLinkNest RX10 118 "BehindAnotherHearse$Scene" "follows" "[I" "BehindAnotherHearse" ∈ lw_nest := lw_ni 188 rfl rfl
set_option maxRecDepth 100000 in
theorem fl_X2_74 : Cond.fieldLinkNest RX2 74 "BehindAnotherHearse$Scene" "follows" "[I" "BehindAnotherHearse" ∈ lw_nest := lw_ni 189 rfl rfl
set_option maxRecDepth 100000 in
theorem fl_X11_240 : Cond.fieldLinkNest RX11 240 "BehindAnotherHearse$Scene" "follows" "[I" "BehindAnotherHearse" ∈ lw_nest := lw_ni 190 rfl rfl
set_option maxRecDepth 100000 in
theorem fl_X6_27 : Cond.fieldLink RX6 27 "BehindAnotherHearse$Scene" "grave" "[I" ∈ lw_good := lw_gi 191 rfl rfl
set_option maxRecDepth 100000 in
theorem fl_X0_48 : Cond.fieldLinkNest RX0 48 "BehindAnotherHearse$Scene" "grave" "[I" "BehindAnotherHearse" ∈ lw_nest := lw_ni 192 rfl rfl
set_option maxRecDepth 100000 in
theorem fl_X11_247 : Cond.fieldLinkNest RX11 247 "BehindAnotherHearse$Scene" "grave" "[I" "BehindAnotherHearse" ∈ lw_nest := lw_ni 193 rfl rfl
set_option maxRecDepth 100000 in
theorem fl_X6_30 : Cond.fieldLink RX6 30 "BehindAnotherHearse$Scene" "hearseCount" "I" ∈ lw_good := lw_gi 194 rfl rfl
set_option maxRecDepth 100000 in
theorem fl_X7_20 : Cond.fieldLinkNest RX7 20 "BehindAnotherHearse$Scene" "hearseCount" "I" "BehindAnotherHearse" ∈ lw_nest := lw_ni 195 rfl rfl
set_option maxRecDepth 100000 in
theorem fl_X10_57 : Cond.fieldLinkNest RX10 57 "BehindAnotherHearse$Scene" "hearseCount" "I" "BehindAnotherHearse" ∈ lw_nest := lw_ni 196 rfl rfl
set_option maxRecDepth 100000 in
theorem fl_X11_176 : Cond.fieldLinkNest RX11 176 "BehindAnotherHearse$Scene" "hearseCount" "I" "BehindAnotherHearse" ∈ lw_nest := lw_ni 197 rfl rfl
set_option maxRecDepth 100000 in
theorem fl_X6_34 : Cond.fieldLink RX6 34 "BehindAnotherHearse$Scene" "mournerCount" "I" ∈ lw_good := lw_gi 198 rfl rfl
set_option maxRecDepth 100000 in
theorem fl_X7_25 : Cond.fieldLinkNest RX7 25 "BehindAnotherHearse$Scene" "mournerCount" "I" "BehindAnotherHearse" ∈ lw_nest := lw_ni 199 rfl rfl
set_option maxRecDepth 100000 in
theorem fl_X10_51 : Cond.fieldLinkNest RX10 51 "BehindAnotherHearse$Scene" "mournerCount" "I" "BehindAnotherHearse" ∈ lw_nest := lw_ni 200 rfl rfl
set_option maxRecDepth 100000 in
theorem fl_X11_191 : Cond.fieldLinkNest RX11 191 "BehindAnotherHearse$Scene" "mournerCount" "I" "BehindAnotherHearse" ∈ lw_nest := lw_ni 201 rfl rfl
set_option maxRecDepth 100000 in
theorem fl_X6_37 : Cond.fieldLink RX6 37 "BehindAnotherHearse$Scene" "arrivedCount" "I" ∈ lw_good := lw_gi 202 rfl rfl
set_option maxRecDepth 100000 in
theorem fl_X10_54 : Cond.fieldLinkNest RX10 54 "BehindAnotherHearse$Scene" "arrivedCount" "I" "BehindAnotherHearse" ∈ lw_nest := lw_ni 203 rfl rfl
set_option maxRecDepth 100000 in
theorem fl_X11_302 : Cond.fieldLinkNest RX11 302 "BehindAnotherHearse$Scene" "arrivedCount" "I" "BehindAnotherHearse" ∈ lw_nest := lw_ni 204 rfl rfl
set_option maxRecDepth 100000 in
theorem fl_X6_40 : Cond.fieldLink RX6 40 "BehindAnotherHearse$Scene" "endedCount" "I" ∈ lw_good := lw_gi 205 rfl rfl
set_option maxRecDepth 100000 in
theorem fl_X10_46 : Cond.fieldLinkNest RX10 46 "BehindAnotherHearse$Scene" "endedCount" "I" "BehindAnotherHearse" ∈ lw_nest := lw_ni 206 rfl rfl
set_option maxRecDepth 100000 in
theorem fl_X11_482 : Cond.fieldLinkNest RX11 482 "BehindAnotherHearse$Scene" "endedCount" "I" "BehindAnotherHearse" ∈ lw_nest := lw_ni 207 rfl rfl
set_option maxRecDepth 100000 in
theorem fl_X6_43 : Cond.fieldLink RX6 43 "BehindAnotherHearse$Scene" "step" "I" ∈ lw_good := lw_gi 208 rfl rfl
set_option maxRecDepth 100000 in
theorem fl_X10_84 : Cond.fieldLinkNest RX10 84 "BehindAnotherHearse$Scene" "step" "I" "BehindAnotherHearse" ∈ lw_nest := lw_ni 209 rfl rfl
set_option maxRecDepth 100000 in
theorem fl_X2_67 : Cond.fieldLinkNest RX2 67 "BehindAnotherHearse$Scene" "step" "I" "BehindAnotherHearse" ∈ lw_nest := lw_ni 210 rfl rfl
set_option maxRecDepth 100000 in
theorem fl_X11_333 : Cond.fieldLinkNest RX11 333 "BehindAnotherHearse$Scene" "step" "I" "BehindAnotherHearse" ∈ lw_nest := lw_ni 211 rfl rfl
set_option maxRecDepth 100000 in
theorem cl_X11_39 : Cond.classLink RX11 39 RX10 ∈ lw_good := lw_gi 235 rfl rfl
set_option maxRecDepth 100000 in
theorem it_X10 : Cond.instantiable RX10 6 ∈ lw_good := lw_gi 236 rfl rfl
set_option maxRecDepth 100000 in
theorem ml_X11_41 : Cond.methodLink RX11 41 yX10_init ∈ lw_good := lw_gi 237 rfl rfl
set_option maxRecDepth 100000 in
theorem ml_X10_3 : Cond.methodLink RX10 3 objectInit ∈ lw_good := lw_gi 240 rfl rfl
set_option maxRecDepth 100000 in
theorem fl_X10_29 : Cond.fieldLink RX10 29 "BehindAnotherHearse$Walker" "street" "LBehindAnotherHearse$Street;" ∈ lw_good := lw_gi 241 rfl rfl
set_option maxRecDepth 100000 in
theorem fl_X10_9 : Cond.fieldLink RX10 9 "BehindAnotherHearse$Walker" "waitsOn" "[I" ∈ lw_good := lw_gi 242 rfl rfl
set_option maxRecDepth 100000 in
theorem fl_X11_369 : Cond.fieldLinkNest RX11 369 "BehindAnotherHearse$Walker" "waitsOn" "[I" "BehindAnotherHearse" ∈ lw_nest := lw_ni 243 rfl rfl
set_option maxRecDepth 100000 in
theorem fl_X10_15 : Cond.fieldLink RX10 15 "BehindAnotherHearse$Walker" "changesOf" "[I" ∈ lw_good := lw_gi 244 rfl rfl
set_option maxRecDepth 100000 in
theorem fl_X11_379 : Cond.fieldLinkNest RX11 379 "BehindAnotherHearse$Walker" "changesOf" "[I" "BehindAnotherHearse" ∈ lw_nest := lw_ni 245 rfl rfl
set_option maxRecDepth 100000 in
theorem fl_X10_18 : Cond.fieldLink RX10 18 "BehindAnotherHearse$Walker" "waits" "I" ∈ lw_good := lw_gi 246 rfl rfl
set_option maxRecDepth 100000 in
theorem fl_X11_292 : Cond.fieldLinkNest RX11 292 "BehindAnotherHearse$Walker" "waits" "I" "BehindAnotherHearse" ∈ lw_nest := lw_ni 247 rfl rfl
set_option maxRecDepth 100000 in
theorem fl_X10_22 : Cond.fieldLink RX10 22 "BehindAnotherHearse$Walker" "changes" "I" ∈ lw_good := lw_gi 248 rfl rfl
set_option maxRecDepth 100000 in
theorem fl_X11_295 : Cond.fieldLinkNest RX11 295 "BehindAnotherHearse$Walker" "changes" "I" "BehindAnotherHearse" ∈ lw_nest := lw_ni 249 rfl rfl
set_option maxRecDepth 100000 in
theorem fl_X10_25 : Cond.fieldLink RX10 25 "BehindAnotherHearse$Walker" "isStirred" "Z" ∈ lw_good := lw_gi 250 rfl rfl
set_option maxRecDepth 100000 in
theorem cl_X11_48 : Cond.classLink RX11 48 RX1 ∈ lw_good := lw_gi 264 rfl rfl
set_option maxRecDepth 100000 in
theorem it_X1 : Cond.instantiable RX1 3 ∈ lw_good := lw_gi 265 rfl rfl
set_option maxRecDepth 100000 in
theorem ml_X11_50 : Cond.methodLink RX11 50 yX1_init ∈ lw_good := lw_gi 266 rfl rfl
set_option maxRecDepth 100000 in
theorem ml_X1_3 : Cond.methodLink RX1 3 objectInit ∈ lw_good := lw_gi 269 rfl rfl
set_option maxRecDepth 100000 in
theorem cl_X1_9 : Cond.classLink RX1 9 RX6 ∈ lw_good := lw_gi 270 rfl rfl
set_option maxRecDepth 100000 in
theorem ao_S : Cond.arrayOver (.object "BehindAnotherHearse$Scene") ∈ lw_tbl := List.mem_of_getElem? (i := 271) rfl
set_option maxRecDepth 100000 in
theorem ml_X1_24 : Cond.methodLinkNest RX1 24 yX6_init "BehindAnotherHearse" ∈ lw_nest := lw_ni 272 rfl rfl
set_option maxRecDepth 100000 in
theorem fl_X1_11 : Cond.fieldLink RX1 11 "BehindAnotherHearse$History" "scenes" "[LBehindAnotherHearse$Scene;" ∈ lw_good := lw_gi 273 rfl rfl
set_option maxRecDepth 100000 in
theorem fl_X1_17 : Cond.fieldLink RX1 17 "BehindAnotherHearse$History" "first" "I" ∈ lw_good := lw_gi 274 rfl rfl
set_option maxRecDepth 100000 in
theorem fl_X1_21 : Cond.fieldLink RX1 21 "BehindAnotherHearse$History" "count" "I" ∈ lw_good := lw_gi 275 rfl rfl
set_option maxRecDepth 100000 in
theorem fl_X11_346 : Cond.fieldLinkNest RX11 346 "BehindAnotherHearse$History" "count" "I" "BehindAnotherHearse" ∈ lw_nest := lw_ni 276 rfl rfl
set_option maxRecDepth 100000 in
theorem cl_X11_63 : Cond.classLink RX11 63 RX4 ∈ lw_good := lw_gi 284 rfl rfl
set_option maxRecDepth 100000 in
theorem it_X4 : Cond.instantiable RX4 2 ∈ lw_good := lw_gi 285 rfl rfl
set_option maxRecDepth 100000 in
theorem ml_X11_65 : Cond.methodLinkNest RX11 65 yX4_init "BehindAnotherHearse" ∈ lw_nest := lw_ni 286 rfl rfl
set_option maxRecDepth 100000 in
theorem ml_X4_3 : Cond.methodLink RX4 3 objectInit ∈ lw_good := lw_gi 289 rfl rfl
set_option maxRecDepth 100000 in
theorem fl_X4_9 : Cond.fieldLink RX4 9 "BehindAnotherHearse$Row" "numbers" "[J" ∈ lw_good := lw_gi 290 rfl rfl
set_option maxRecDepth 100000 in
theorem fl_X11_494 : Cond.fieldLinkNest RX11 494 "BehindAnotherHearse$Row" "numbers" "[J" "BehindAnotherHearse" ∈ lw_nest := lw_ni 291 rfl rfl
set_option maxRecDepth 100000 in
theorem fl_X4_15 : Cond.fieldLink RX4 15 "BehindAnotherHearse$Row" "size" "I" ∈ lw_good := lw_gi 292 rfl rfl
set_option maxRecDepth 100000 in
theorem fl_X11_359 : Cond.fieldLinkNest RX11 359 "BehindAnotherHearse$Row" "size" "I" "BehindAnotherHearse" ∈ lw_nest := lw_ni 293 rfl rfl
set_option maxRecDepth 100000 in
theorem ac_boolean : Cond.arrayClass .boolean ∈ lw_good := lw_gi 299 rfl rfl
set_option maxRecDepth 100000 in
theorem ac_long : Cond.arrayClass .long ∈ lw_good := lw_gi 300 rfl rfl
set_option maxRecDepth 100000 in
theorem cl_X11_70 : Cond.classLink RX11 70 RX7 ∈ lw_good := lw_gi 301 rfl rfl
set_option maxRecDepth 100000 in
theorem it_X7 : Cond.instantiable RX7 2 ∈ lw_good := lw_gi 302 rfl rfl
set_option maxRecDepth 100000 in
theorem ml_X11_72 : Cond.methodLinkNest RX11 72 yX7_init "BehindAnotherHearse" ∈ lw_nest := lw_ni 303 rfl rfl
set_option maxRecDepth 100000 in
theorem ml_X7_3 : Cond.methodLink RX7 3 objectInit ∈ lw_good := lw_gi 306 rfl rfl
set_option maxRecDepth 100000 in
theorem cl_X7_9 : Cond.classLink RX7 9 "[[I" ∈ lw_good := lw_gi 307 rfl rfl
set_option maxRecDepth 100000 in
theorem ao_I : Cond.arrayOver (.array .int) ∈ lw_tbl := List.mem_of_getElem? (i := 308) rfl
set_option maxRecDepth 100000 in
theorem fl_X7_11 : Cond.fieldLink RX7 11 "BehindAnotherHearse$Sharing" "most" "[[I" ∈ lw_good := lw_gi 309 rfl rfl
set_option maxRecDepth 100000 in
theorem fl_X7_16 : Cond.fieldLink RX7 16 "BehindAnotherHearse$Sharing" "reach" "I" ∈ lw_good := lw_gi 310 rfl rfl
set_option maxRecDepth 100000 in
theorem cl_X11_77 : Cond.classLink RX11 77 RX3 ∈ lw_good := lw_gi 316 rfl rfl
set_option maxRecDepth 100000 in
theorem it_X3 : Cond.instantiable RX3 3 ∈ lw_good := lw_gi 317 rfl rfl
set_option maxRecDepth 100000 in
theorem ml_X11_79 : Cond.methodLinkNest RX11 79 yX3_init "BehindAnotherHearse" ∈ lw_nest := lw_ni 318 rfl rfl
set_option maxRecDepth 100000 in
theorem ml_X3_3 : Cond.methodLink RX3 3 objectInit ∈ lw_good := lw_gi 321 rfl rfl
set_option maxRecDepth 100000 in
theorem fl_X3_9 : Cond.fieldLink RX3 9 "BehindAnotherHearse$Orders" "cells" "[I" ∈ lw_good := lw_gi 322 rfl rfl
set_option maxRecDepth 100000 in
theorem fl_X11_404 : Cond.fieldLinkNest RX11 404 "BehindAnotherHearse$Orders" "cells" "[I" "BehindAnotherHearse" ∈ lw_nest := lw_ni 323 rfl rfl
set_option maxRecDepth 100000 in
theorem fl_X3_15 : Cond.fieldLink RX3 15 "BehindAnotherHearse$Orders" "best" "[I" ∈ lw_good := lw_gi 324 rfl rfl
set_option maxRecDepth 100000 in
theorem fl_X11_417 : Cond.fieldLinkNest RX11 417 "BehindAnotherHearse$Orders" "best" "[I" "BehindAnotherHearse" ∈ lw_nest := lw_ni 325 rfl rfl
set_option maxRecDepth 100000 in
theorem fl_X3_18 : Cond.fieldLink RX3 18 "BehindAnotherHearse$Orders" "size" "I" ∈ lw_good := lw_gi 326 rfl rfl
set_option maxRecDepth 100000 in
theorem fl_X11_416 : Cond.fieldLinkNest RX11 416 "BehindAnotherHearse$Orders" "size" "I" "BehindAnotherHearse" ∈ lw_nest := lw_ni 327 rfl rfl
set_option maxRecDepth 100000 in
theorem cl_X11_84 : Cond.classLink RX11 84 RX0 ∈ lw_good := lw_gi 335 rfl rfl
set_option maxRecDepth 100000 in
theorem it_X0 : Cond.instantiable RX0 3 ∈ lw_good := lw_gi 336 rfl rfl
set_option maxRecDepth 100000 in
theorem ml_X11_86 : Cond.methodLinkNest RX11 86 yX0_init "BehindAnotherHearse" ∈ lw_nest := lw_ni 337 rfl rfl
set_option maxRecDepth 100000 in
theorem ml_X0_3 : Cond.methodLink RX0 3 objectInit ∈ lw_good := lw_gi 340 rfl rfl
set_option maxRecDepth 100000 in
theorem fl_X0_9 : Cond.fieldLink RX0 9 "BehindAnotherHearse$Hearsay" "kinds" "[I" ∈ lw_good := lw_gi 341 rfl rfl
set_option maxRecDepth 100000 in
theorem fl_X0_15 : Cond.fieldLink RX0 15 "BehindAnotherHearse$Hearsay" "values" "[I" ∈ lw_good := lw_gi 342 rfl rfl
set_option maxRecDepth 100000 in
theorem fl_X0_18 : Cond.fieldLink RX0 18 "BehindAnotherHearse$Hearsay" "count" "I" ∈ lw_good := lw_gi 343 rfl rfl
set_option maxRecDepth 100000 in
theorem fl_X11_456 : Cond.fieldLinkNest RX11 456 "BehindAnotherHearse$Hearsay" "count" "I" "BehindAnotherHearse" ∈ lw_nest := lw_ni 344 rfl rfl
set_option maxRecDepth 100000 in
theorem cl_X11_91 : Cond.classLink RX11 91 RX5 ∈ lw_good := lw_gi 352 rfl rfl
set_option maxRecDepth 100000 in
theorem it_X5 : Cond.instantiable RX5 4 ∈ lw_good := lw_gi 353 rfl rfl
set_option maxRecDepth 100000 in
theorem ml_X11_93 : Cond.methodLinkNest RX11 93 yX5_init "BehindAnotherHearse" ∈ lw_nest := lw_ni 354 rfl rfl
set_option maxRecDepth 100000 in
theorem ml_X5_3 : Cond.methodLink RX5 3 objectInit ∈ lw_good := lw_gi 357 rfl rfl
set_option maxRecDepth 100000 in
theorem fl_X5_9 : Cond.fieldLink RX5 9 "BehindAnotherHearse$RuleReader" "waiting" "[I" ∈ lw_good := lw_gi 358 rfl rfl
set_option maxRecDepth 100000 in
theorem fl_X5_15 : Cond.fieldLink RX5 15 "BehindAnotherHearse$RuleReader" "waitingCount" "I" ∈ lw_good := lw_gi 359 rfl rfl
set_option maxRecDepth 100000 in
theorem fl_X5_19 : Cond.fieldLink RX5 19 "BehindAnotherHearse$RuleReader" "depth" "I" ∈ lw_good := lw_gi 360 rfl rfl
set_option maxRecDepth 100000 in
theorem fl_X5_22 : Cond.fieldLink RX5 22 "BehindAnotherHearse$RuleReader" "wantsThing" "Z" ∈ lw_good := lw_gi 361 rfl rfl
set_option maxRecDepth 100000 in
theorem cl_X11_102 : Cond.classLink RX11 102 RX2 ∈ lw_good := lw_gi 371 rfl rfl
set_option maxRecDepth 100000 in
theorem it_X2 : Cond.instantiable RX2 6 ∈ lw_good := lw_gi 372 rfl rfl
set_option maxRecDepth 100000 in
theorem ml_X11_104 : Cond.methodLinkNest RX11 104 yX2_init "BehindAnotherHearse" ∈ lw_nest := lw_ni 373 rfl rfl
set_option maxRecDepth 100000 in
theorem ml_X2_3 : Cond.methodLink RX2 3 objectInit ∈ lw_good := lw_gi 376 rfl rfl
set_option maxRecDepth 100000 in
theorem fl_X2_9 : Cond.fieldLink RX2 9 "BehindAnotherHearse$Law" "kinds" "[I" ∈ lw_good := lw_gi 377 rfl rfl
set_option maxRecDepth 100000 in
theorem fl_X2_15 : Cond.fieldLink RX2 15 "BehindAnotherHearse$Law" "values" "[I" ∈ lw_good := lw_gi 378 rfl rfl
set_option maxRecDepth 100000 in
theorem fl_X2_18 : Cond.fieldLink RX2 18 "BehindAnotherHearse$Law" "stack" "[I" ∈ lw_good := lw_gi 379 rfl rfl
set_option maxRecDepth 100000 in
theorem fl_X2_21 : Cond.fieldLink RX2 21 "BehindAnotherHearse$Law" "given" "[I" ∈ lw_good := lw_gi 380 rfl rfl
set_option maxRecDepth 100000 in
theorem fl_X2_24 : Cond.fieldLink RX2 24 "BehindAnotherHearse$Law" "size" "I" ∈ lw_good := lw_gi 381 rfl rfl
set_option maxRecDepth 100000 in
theorem fl_X2_28 : Cond.fieldLink RX2 28 "BehindAnotherHearse$Law" "lettersUsed" "I" ∈ lw_good := lw_gi 382 rfl rfl
set_option maxRecDepth 100000 in
theorem ml_X11_112 : Cond.methodLink RX11 112 yX2_becomePlain ∈ lw_good := lw_gi 396 rfl rfl
set_option maxRecDepth 100000 in
theorem ml_X2_31 : Cond.methodLink RX2 31 yX2_clear ∈ lw_good := lw_gi 400 rfl rfl
set_option maxRecDepth 100000 in
theorem ml_X2_34 : Cond.methodLink RX2 34 yX2_add ∈ lw_good := lw_gi 404 rfl rfl
set_option maxRecDepth 100000 in
theorem ml_X2_38 : Cond.methodLink RX2 38 yX2_addLetter ∈ lw_good := lw_gi 408 rfl rfl
set_option maxRecDepth 100000 in
theorem fl_X11_10 : Cond.fieldLink RX11 10 "BehindAnotherHearse" "text" "LBehindAnotherHearse$Text;" ∈ lw_good := lw_gi 412 rfl rfl
set_option maxRecDepth 100000 in
theorem fl_X11_19 : Cond.fieldLink RX11 19 "BehindAnotherHearse" "street" "LBehindAnotherHearse$Street;" ∈ lw_good := lw_gi 413 rfl rfl
set_option maxRecDepth 100000 in
theorem fl_X11_26 : Cond.fieldLink RX11 26 "BehindAnotherHearse" "now" "LBehindAnotherHearse$Scene;" ∈ lw_good := lw_gi 414 rfl rfl
set_option maxRecDepth 100000 in
theorem fl_X11_30 : Cond.fieldLink RX11 30 "BehindAnotherHearse" "trial" "LBehindAnotherHearse$Scene;" ∈ lw_good := lw_gi 415 rfl rfl
set_option maxRecDepth 100000 in
theorem fl_X11_33 : Cond.fieldLink RX11 33 "BehindAnotherHearse" "base" "LBehindAnotherHearse$Scene;" ∈ lw_good := lw_gi 416 rfl rfl
set_option maxRecDepth 100000 in
theorem fl_X11_36 : Cond.fieldLink RX11 36 "BehindAnotherHearse" "before" "LBehindAnotherHearse$Scene;" ∈ lw_good := lw_gi 417 rfl rfl
set_option maxRecDepth 100000 in
theorem fl_X11_44 : Cond.fieldLink RX11 44 "BehindAnotherHearse" "walker" "LBehindAnotherHearse$Walker;" ∈ lw_good := lw_gi 418 rfl rfl
set_option maxRecDepth 100000 in
theorem fl_X11_51 : Cond.fieldLink RX11 51 "BehindAnotherHearse" "history" "LBehindAnotherHearse$History;" ∈ lw_good := lw_gi 419 rfl rfl
set_option maxRecDepth 100000 in
theorem fl_X11_55 : Cond.fieldLink RX11 55 "BehindAnotherHearse" "kept" "[LBehindAnotherHearse$Scene;" ∈ lw_good := lw_gi 420 rfl rfl
set_option maxRecDepth 100000 in
theorem fl_X11_59 : Cond.fieldLink RX11 59 "BehindAnotherHearse" "isKept" "[Z" ∈ lw_good := lw_gi 421 rfl rfl
set_option maxRecDepth 100000 in
theorem fl_X11_66 : Cond.fieldLink RX11 66 "BehindAnotherHearse" "told" "LBehindAnotherHearse$Row;" ∈ lw_good := lw_gi 422 rfl rfl
set_option maxRecDepth 100000 in
theorem fl_X11_73 : Cond.fieldLink RX11 73 "BehindAnotherHearse" "sharing" "LBehindAnotherHearse$Sharing;" ∈ lw_good := lw_gi 423 rfl rfl
set_option maxRecDepth 100000 in
theorem fl_X11_80 : Cond.fieldLink RX11 80 "BehindAnotherHearse" "orders" "LBehindAnotherHearse$Orders;" ∈ lw_good := lw_gi 424 rfl rfl
set_option maxRecDepth 100000 in
theorem fl_X11_87 : Cond.fieldLink RX11 87 "BehindAnotherHearse" "hearsay" "LBehindAnotherHearse$Hearsay;" ∈ lw_good := lw_gi 425 rfl rfl
set_option maxRecDepth 100000 in
theorem fl_X11_94 : Cond.fieldLink RX11 94 "BehindAnotherHearse" "ruleReader" "LBehindAnotherHearse$RuleReader;" ∈ lw_good := lw_gi 426 rfl rfl
set_option maxRecDepth 100000 in
theorem fl_X11_98 : Cond.fieldLink RX11 98 "BehindAnotherHearse" "drawn" "I" ∈ lw_good := lw_gi 427 rfl rfl
set_option maxRecDepth 100000 in
theorem fl_X11_105 : Cond.fieldLink RX11 105 "BehindAnotherHearse" "rules" "LBehindAnotherHearse$Law;" ∈ lw_good := lw_gi 428 rfl rfl
set_option maxRecDepth 100000 in
theorem fl_X11_109 : Cond.fieldLink RX11 109 "BehindAnotherHearse" "otherRules" "LBehindAnotherHearse$Law;" ∈ lw_good := lw_gi 429 rfl rfl
set_option maxRecDepth 100000 in
theorem ml_L_26 : Cond.methodLink RL 26 yX11_sign ∈ lw_good := lw_gi 467 rfl rfl
set_option maxRecDepth 100000 in
theorem ml_X11_115 : Cond.methodLink RX11 115 yX9_addFour ∈ lw_good := lw_gi 471 rfl rfl
set_option maxRecDepth 100000 in
theorem ml_L_31 : Cond.methodLink RL 31 yX11_end ∈ lw_good := lw_gi 475 rfl rfl
set_option maxRecDepth 100000 in
theorem ml_X11_122 : Cond.methodLink RX11 122 yX9_cutTo ∈ lw_good := lw_gi 479 rfl rfl
set_option maxRecDepth 100000 in
theorem ml_L_36 : Cond.methodLink RL 36 yX11_avenue ∈ lw_good := lw_gi 483 rfl rfl
set_option maxRecDepth 100000 in
theorem ml_X11_125 : Cond.methodLink RX11 125 yX11_avenueFault ∈ lw_good := lw_gi 487 rfl rfl
set_option maxRecDepth 100000 in
theorem ml_X11_141 : Cond.methodLink RX11 141 yX9_signAt ∈ lw_good := lw_gi 491 rfl rfl
set_option maxRecDepth 100000 in
theorem ml_X11_129 : Cond.methodLink RX11 129 yX8_become ∈ lw_good := lw_gi 495 rfl rfl
set_option maxRecDepth 100000 in
theorem ml_X8_30 : Cond.methodLink RX8 30 yX9_signAt ∈ lw_good := lw_gi 499 rfl rfl
set_option maxRecDepth 100000 in
theorem ml_X11_133 : Cond.methodLink RX11 133 yX6_clear ∈ lw_good := lw_gi 500 rfl rfl
set_option maxRecDepth 100000 in
theorem ml_X11_136 : Cond.methodLink RX11 136 yX1_clear ∈ lw_good := lw_gi 504 rfl rfl
set_option maxRecDepth 100000 in
theorem ml_X11_137 : Cond.methodLink RX11 137 yX11_forgetKept ∈ lw_good := lw_gi 508 rfl rfl
set_option maxRecDepth 100000 in
theorem ml_X11_140 : Cond.methodLink RX11 140 yX9_clear ∈ lw_good := lw_gi 512 rfl rfl
set_option maxRecDepth 100000 in
theorem ml_L_41 : Cond.methodLink RL 41 yX11_hearses ∈ lw_good := lw_gi 516 rfl rfl
set_option maxRecDepth 100000 in
theorem ml_X11_145 : Cond.methodLink RX11 145 yX9_isEmpty ∈ lw_good := lw_gi 520 rfl rfl
set_option maxRecDepth 100000 in
theorem ml_X11_149 : Cond.methodLink RX11 149 yX11_readLines ∈ lw_good := lw_gi 524 rfl rfl
set_option maxRecDepth 100000 in
theorem ml_X11_153 : Cond.methodLink RX11 153 yX6_copyFrom ∈ lw_good := lw_gi 528 rfl rfl
set_option maxRecDepth 100000 in
theorem ml_X6_46 : Cond.methodLink RX6 46 arraycopyName ∈ lw_good := lw_gi 532 rfl rfl
set_option maxRecDepth 100000 in
theorem sm_arraycopy : Cond.static arraycopyName ∈ lw_good := lw_gi 533 rfl rfl
set_option maxRecDepth 100000 in
theorem nm_arraycopy : Cond.native arraycopyName ∈ lw_good := lw_gi 534 rfl rfl
set_option maxRecDepth 100000 in
theorem ml_X11_157 : Cond.methodLink RX11 157 yX9_open ∈ lw_good := lw_gi 535 rfl rfl
set_option maxRecDepth 100000 in
theorem ml_X9_25 : Cond.methodLink RX9 25 yJ9_min_7cf53 ∈ lw_good := lw_gi 539 rfl rfl
set_option maxRecDepth 100000 in
theorem sm_min : Cond.static yJ9_min_7cf53 ∈ lw_good := lw_gi 540 rfl rfl
set_option maxRecDepth 100000 in
theorem cd_min : Cond.code Lib.Math.min.name Lib.Math.min.code 2 (some .int) ∈ lw_good := lw_gi 541 rfl rfl
set_option maxRecDepth 100000 in
theorem ml_X11_161 : Cond.methodLink RX11 161 yX11_readHearse ∈ lw_good := lw_gi 542 rfl rfl
set_option maxRecDepth 100000 in
theorem ml_X11_179 : Cond.methodLink RX11 179 yX11_readCell ∈ lw_good := lw_gi 546 rfl rfl
set_option maxRecDepth 100000 in
theorem ml_X11_204 : Cond.methodLink RX11 204 yX9_number ∈ lw_good := lw_gi 550 rfl rfl
set_option maxRecDepth 100000 in
theorem ml_X9_38 : Cond.methodLink RX9 38 yX9_digit ∈ lw_good := lw_gi 554 rfl rfl
set_option maxRecDepth 100000 in
theorem ml_X9_31 : Cond.methodLink RX9 31 yX9_look ∈ lw_good := lw_gi 558 rfl rfl
set_option maxRecDepth 100000 in
theorem ml_X9_35 : Cond.methodLink RX9 35 yX9_pass ∈ lw_good := lw_gi 562 rfl rfl
set_option maxRecDepth 100000 in
theorem ml_X11_207 : Cond.methodLink RX11 207 yX8_gate ∈ lw_good := lw_gi 566 rfl rfl
set_option maxRecDepth 100000 in
theorem ml_X11_185 : Cond.methodLink RX11 185 yX9_back ∈ lw_good := lw_gi 570 rfl rfl
set_option maxRecDepth 100000 in
theorem ml_X11_182 : Cond.methodLink RX11 182 yX6_hearseOn ∈ lw_good := lw_gi 574 rfl rfl
set_option maxRecDepth 100000 in
theorem ml_X11_188 : Cond.methodLink RX11 188 yX6_addHearse ∈ lw_good := lw_gi 578 rfl rfl
set_option maxRecDepth 100000 in
theorem ml_X11_164 : Cond.methodLink RX11 164 yX11_readMourner ∈ lw_good := lw_gi 582 rfl rfl
set_option maxRecDepth 100000 in
theorem ml_X11_194 : Cond.methodLink RX11 194 yX9_look ∈ lw_good := lw_gi 586 rfl rfl
set_option maxRecDepth 100000 in
theorem ml_X11_197 : Cond.methodLink RX11 197 yX9_pass ∈ lw_good := lw_gi 587 rfl rfl
set_option maxRecDepth 100000 in
theorem ml_X11_200 : Cond.methodLink RX11 200 yX6_addMourner ∈ lw_good := lw_gi 588 rfl rfl
set_option maxRecDepth 100000 in
theorem ml_X11_170 : Cond.methodLink RX11 170 yX9_skip ∈ lw_good := lw_gi 592 rfl rfl
set_option maxRecDepth 100000 in
theorem ml_X11_173 : Cond.methodLink RX11 173 yX9_isWhole ∈ lw_good := lw_gi 596 rfl rfl
set_option maxRecDepth 100000 in
theorem ml_L_45 : Cond.methodLink RL 45 yX11_mourners ∈ lw_good := lw_gi 600 rfl rfl
set_option maxRecDepth 100000 in
theorem ml_L_49 : Cond.methodLink RL 49 yX11_weather ∈ lw_good := lw_gi 604 rfl rfl
set_option maxRecDepth 100000 in
theorem ml_X11_210 : Cond.methodLink RX11 210 yX11_weatherFault ∈ lw_good := lw_gi 608 rfl rfl
set_option maxRecDepth 100000 in
theorem ml_X11_213 : Cond.methodLink RX11 213 yX8_takeWeather ∈ lw_good := lw_gi 612 rfl rfl
set_option maxRecDepth 100000 in
theorem ml_L_53 : Cond.methodLink RL 53 yX11_rule ∈ lw_good := lw_gi 616 rfl rfl
set_option maxRecDepth 100000 in
theorem ml_X11_216 : Cond.methodLink RX11 216 yX5_read ∈ lw_good := lw_gi 620 rfl rfl
set_option maxRecDepth 100000 in
theorem ml_X5_26 : Cond.methodLink RX5 26 yX9_isEmpty ∈ lw_good := lw_gi 624 rfl rfl
set_option maxRecDepth 100000 in
theorem ml_X5_32 : Cond.methodLink RX5 32 yX2_becomePlain ∈ lw_good := lw_gi 625 rfl rfl
set_option maxRecDepth 100000 in
theorem ml_X5_37 : Cond.methodLink RX5 37 yX2_clear ∈ lw_good := lw_gi 626 rfl rfl
set_option maxRecDepth 100000 in
theorem ml_X5_40 : Cond.methodLink RX5 40 yX9_open ∈ lw_good := lw_gi 627 rfl rfl
set_option maxRecDepth 100000 in
theorem ml_X5_44 : Cond.methodLink RX5 44 yX9_isRead ∈ lw_good := lw_gi 628 rfl rfl
set_option maxRecDepth 100000 in
theorem ml_X5_47 : Cond.methodLink RX5 47 yX5_takeThing ∈ lw_good := lw_gi 632 rfl rfl
set_option maxRecDepth 100000 in
theorem ml_X5_64 : Cond.methodLink RX5 64 yX9_number ∈ lw_good := lw_gi 636 rfl rfl
set_option maxRecDepth 100000 in
theorem ml_X5_68 : Cond.methodLink RX5 68 yX2_add ∈ lw_good := lw_gi 637 rfl rfl
set_option maxRecDepth 100000 in
theorem ml_X5_72 : Cond.methodLink RX5 72 yX9_look ∈ lw_good := lw_gi 638 rfl rfl
set_option maxRecDepth 100000 in
theorem ml_X5_76 : Cond.methodLink RX5 76 yX5_hold ∈ lw_good := lw_gi 639 rfl rfl
set_option maxRecDepth 100000 in
theorem ml_X5_81 : Cond.methodLink RX5 81 yJ0_indexOf_0f7a4 ∈ lw_good := lw_gi 644 rfl rfl
set_option maxRecDepth 100000 in
theorem ml_J0_633 : Cond.methodLink RJ0 633 yJ0_indexOf_7cf53 ∈ lw_good := lw_gi 648 rfl rfl
set_option maxRecDepth 100000 in
theorem ml_J0_492 : Cond.methodLink RJ0 492 yJ0_isLatin1_aae02 ∈ lw_good := lw_gi 652 rfl rfl
set_option maxRecDepth 100000 in
theorem ml_J0_505 : Cond.methodLink RJ0 505 yJ0_length_8abf5 ∈ lw_good := lw_gi 658 rfl rfl
set_option maxRecDepth 100000 in
theorem ml_J0_335 : Cond.methodLink RJ0 335 yJ0_coder_7d493 ∈ lw_good := lw_gi 662 rfl rfl
set_option maxRecDepth 100000 in
theorem ml_J0_637 : Cond.methodLink RJ0 637 yJ1_indexOf_4cfef ∈ lw_good := lw_gi 666 rfl rfl
set_option maxRecDepth 100000 in
theorem ml_J1_88 : Cond.methodLink RJ1 88 yJ1_canEncode_9a6ad ∈ lw_good := lw_gi 669 rfl rfl
set_option maxRecDepth 100000 in
theorem ml_J1_92 : Cond.methodLink RJ1 92 yJ9_max_7cf53 ∈ lw_good := lw_gi 672 rfl rfl
set_option maxRecDepth 100000 in
theorem sm_max : Cond.static yJ9_max_7cf53 ∈ lw_good := lw_gi 673 rfl rfl
set_option maxRecDepth 100000 in
theorem cd_max : Cond.code Lib.Math.max.name Lib.Math.max.code 2 (some .int) ∈ lw_good := lw_gi 674 rfl rfl
set_option maxRecDepth 100000 in
theorem ml_J1_38 : Cond.methodLink RJ1 38 yJ9_min_7cf53 ∈ lw_good := lw_gi 675 rfl rfl
set_option maxRecDepth 100000 in
theorem ml_J1_95 : Cond.methodLink RJ1 95 yJ1_indexOfChar_4cfef ∈ lw_good := lw_gi 676 rfl rfl
set_option maxRecDepth 100000 in
theorem ml_J0_640 : Cond.methodLink RJ0 640 yJ2_indexOf_4cfef ∈ lw_good := lw_gi 679 rfl rfl
set_option maxRecDepth 100000 in
theorem ml_J2_224 : Cond.methodLink RJ2 224 yJ9_max_7cf53 ∈ lw_good := lw_gi 682 rfl rfl
set_option maxRecDepth 100000 in
theorem ml_J2_183 : Cond.methodLink RJ2 183 yJ9_min_7cf53 ∈ lw_good := lw_gi 683 rfl rfl
set_option maxRecDepth 100000 in
theorem ct_J2_227 : Cond.constant RJ2 227 (65536) ∈ lw_good := lw_gi 684 rfl rfl
set_option maxRecDepth 100000 in
theorem ml_J2_228 : Cond.methodLink RJ2 228 yJ2_indexOfChar_4cfef ∈ lw_good := lw_gi 685 rfl rfl
set_option maxRecDepth 100000 in
theorem ml_J2_96 : Cond.methodLink RJ2 96 yJ2_checkBoundsBeginEnd_d044e ∈ lw_good := lw_gi 688 rfl rfl
set_option maxRecDepth 100000 in
theorem ml_J2_48 : Cond.methodLink RJ2 48 yJ2_length_9d52b ∈ lw_good := lw_gi 691 rfl rfl
set_option maxRecDepth 100000 in
theorem ml_J2_241 : Cond.methodLink RJ2 241 yJ0_checkBoundsBeginEnd_23922 ∈ lw_good := lw_gi 694 rfl rfl
set_option maxRecDepth 100000 in
theorem ml_J0_1062 : Cond.methodLink RJ0 1062 yJ3_checkFromToIndex_8c36e ∈ lw_good := lw_gi 699 rfl rfl
set_option maxRecDepth 100000 in
theorem ml_J2_244 : Cond.methodLink RJ2 244 yJ2_indexOfCharUnsafe_4cfef ∈ lw_good := lw_gi 702 rfl rfl
set_option maxRecDepth 100000 in
theorem ml_J2_71 : Cond.methodLink RJ2 71 yJ2_getChar_3b067 ∈ lw_good := lw_gi 705 rfl rfl
set_option maxRecDepth 100000 in
theorem ml_J2_232 : Cond.methodLink RJ2 232 yJ2_indexOfSupplementary_4cfef ∈ lw_good := lw_gi 714 rfl rfl
set_option maxRecDepth 100000 in
theorem ml_J2_164 : Cond.methodLink RJ2 164 yJ11_isValidCodePoint_9a6ad ∈ lw_good := lw_gi 717 rfl rfl
set_option maxRecDepth 100000 in
theorem ml_J2_157 : Cond.methodLink RJ2 157 yJ11_highSurrogate_5068e ∈ lw_good := lw_gi 720 rfl rfl
set_option maxRecDepth 100000 in
theorem ct_J11_110 : Cond.constant RJ11 110 (55232) ∈ lw_good := lw_gi 723 rfl rfl
set_option maxRecDepth 100000 in
theorem ml_J2_161 : Cond.methodLink RJ2 161 yJ11_lowSurrogate_5068e ∈ lw_good := lw_gi 724 rfl rfl
set_option maxRecDepth 100000 in
theorem ct_J11_76 : Cond.constant RJ11 76 (56320) ∈ lw_good := lw_gi 727 rfl rfl
set_option maxRecDepth 100000 in
theorem ml_X5_86 : Cond.methodLink RX5 86 yX2_addLetter ∈ lw_good := lw_gi 728 rfl rfl
set_option maxRecDepth 100000 in
theorem ml_X5_89 : Cond.methodLink RX5 89 yX9_pass ∈ lw_good := lw_gi 729 rfl rfl
set_option maxRecDepth 100000 in
theorem ml_X5_51 : Cond.methodLink RX5 51 yX5_takeSign ∈ lw_good := lw_gi 730 rfl rfl
set_option maxRecDepth 100000 in
theorem ml_X5_92 : Cond.methodLink RX5 92 yX5_bindingOf ∈ lw_good := lw_gi 734 rfl rfl
set_option maxRecDepth 100000 in
theorem ml_X5_60 : Cond.methodLink RX5 60 yX5_release ∈ lw_good := lw_gi 737 rfl rfl
set_option maxRecDepth 100000 in
theorem ml_X5_95 : Cond.methodLink RX5 95 yX5_latestBinding ∈ lw_good := lw_gi 741 rfl rfl
set_option maxRecDepth 100000 in
theorem ml_X5_57 : Cond.methodLink RX5 57 yX9_isWhole ∈ lw_good := lw_gi 745 rfl rfl
set_option maxRecDepth 100000 in
theorem ac_byte : Cond.arrayClass .byte ∈ lw_good := lw_gi 746 rfl rfl
set_option maxRecDepth 100000 in
theorem ml_L_66 : Cond.methodLink RL 66 yX11_sheet ∈ lw_good := lw_gi 747 rfl rfl
set_option maxRecDepth 100000 in
theorem ml_X11_278 : Cond.methodLink RX11 278 yX6_hasEnded ∈ lw_good := lw_gi 751 rfl rfl
set_option maxRecDepth 100000 in
theorem ml_X11_281 : Cond.methodLink RX11 281 yX11_cellOfEntry ∈ lw_good := lw_gi 755 rfl rfl
set_option maxRecDepth 100000 in
theorem ml_X11_285 : Cond.methodLink RX11 285 yX8_putOnStreet ∈ lw_good := lw_gi 759 rfl rfl
set_option maxRecDepth 100000 in
theorem ml_X8_34 : Cond.methodLink RX8 34 yX8_gate ∈ lw_good := lw_gi 763 rfl rfl
set_option maxRecDepth 100000 in
theorem ml_X8_38 : Cond.methodLink RX8 38 yJ9_min_7cf53 ∈ lw_good := lw_gi 764 rfl rfl
set_option maxRecDepth 100000 in
theorem ml_X8_44 : Cond.methodLink RX8 44 yJ9_max_7cf53 ∈ lw_good := lw_gi 765 rfl rfl
set_option maxRecDepth 100000 in
theorem ml_L_71 : Cond.methodLink RL 71 yX11_steps ∈ lw_good := lw_gi 766 rfl rfl
set_option maxRecDepth 100000 in
theorem ml_X11_288 : Cond.methodLink RX11 288 yX10_walk ∈ lw_good := lw_gi 770 rfl rfl
set_option maxRecDepth 100000 in
theorem ml_X10_33 : Cond.methodLink RX10 33 yX10_forgetTallies ∈ lw_good := lw_gi 774 rfl rfl
set_option maxRecDepth 100000 in
theorem ml_X10_36 : Cond.methodLink RX10 36 yX10_advance ∈ lw_good := lw_gi 778 rfl rfl
set_option maxRecDepth 100000 in
theorem ml_X10_65 : Cond.methodLink RX10 65 yX6_foremostBelow ∈ lw_good := lw_gi 782 rfl rfl
set_option maxRecDepth 100000 in
theorem ml_X10_72 : Cond.methodLink RX10 72 yX10_moveHearse ∈ lw_good := lw_gi 786 rfl rfl
set_option maxRecDepth 100000 in
theorem ml_X10_87 : Cond.methodLink RX10 87 yX2_observe ∈ lw_good := lw_gi 790 rfl rfl
set_option maxRecDepth 100000 in
theorem ml_X2_42 : Cond.methodLink RX2 42 yX2_uses ∈ lw_good := lw_gi 794 rfl rfl
set_option maxRecDepth 100000 in
theorem ml_X2_56 : Cond.methodLink RX2 56 yX8_gate ∈ lw_good := lw_gi 798 rfl rfl
set_option maxRecDepth 100000 in
theorem ml_X2_60 : Cond.methodLink RX2 60 yX6_freeAhead ∈ lw_good := lw_gi 799 rfl rfl
set_option maxRecDepth 100000 in
theorem ml_X2_64 : Cond.methodLink RX2 64 yX8_isCorner ∈ lw_good := lw_gi 803 rfl rfl
set_option maxRecDepth 100000 in
theorem ml_X2_70 : Cond.methodLink RX2 70 yX8_weatherAt ∈ lw_good := lw_gi 807 rfl rfl
set_option maxRecDepth 100000 in
theorem ml_X2_77 : Cond.methodLink RX2 77 yX6_bitsOf ∈ lw_good := lw_gi 811 rfl rfl
set_option maxRecDepth 100000 in
theorem ml_X2_81 : Cond.methodLink RX2 81 yJ6_bitCount_0f7a4 ∈ lw_good := lw_gi 815 rfl rfl
set_option maxRecDepth 100000 in
theorem ct_J6_265 : Cond.constant RJ6 265 (1431655765) ∈ lw_good := lw_gi 818 rfl rfl
set_option maxRecDepth 100000 in
theorem ct_J6_266 : Cond.constant RJ6 266 (858993459) ∈ lw_good := lw_gi 819 rfl rfl
set_option maxRecDepth 100000 in
theorem ct_J6_267 : Cond.constant RJ6 267 (252645135) ∈ lw_good := lw_gi 820 rfl rfl
set_option maxRecDepth 100000 in
theorem ml_X10_91 : Cond.methodLink RX10 91 yX6_takenCells ∈ lw_good := lw_gi 821 rfl rfl
set_option maxRecDepth 100000 in
theorem ml_X10_95 : Cond.methodLink RX10 95 yX2_pace ∈ lw_good := lw_gi 825 rfl rfl
set_option maxRecDepth 100000 in
theorem ml_X2_86 : Cond.methodLink RX2 86 yX2_join ∈ lw_good := lw_gi 829 rfl rfl
set_option maxRecDepth 100000 in
theorem ml_X2_90 : Cond.methodLink RX2 90 yJ9_min_7cf53 ∈ lw_good := lw_gi 832 rfl rfl
set_option maxRecDepth 100000 in
theorem ml_X2_95 : Cond.methodLink RX2 95 yJ9_max_7cf53 ∈ lw_good := lw_gi 833 rfl rfl
set_option maxRecDepth 100000 in
theorem ml_X10_98 : Cond.methodLink RX10 98 yX10_goal ∈ lw_good := lw_gi 834 rfl rfl
set_option maxRecDepth 100000 in
theorem ml_X10_102 : Cond.methodLink RX10 102 yX8_gate ∈ lw_good := lw_gi 838 rfl rfl
set_option maxRecDepth 100000 in
theorem ml_X10_109 : Cond.methodLink RX10 109 yJ9_min_7cf53 ∈ lw_good := lw_gi 839 rfl rfl
set_option maxRecDepth 100000 in
theorem ml_X10_105 : Cond.methodLink RX10 105 yX6_arrive ∈ lw_good := lw_gi 840 rfl rfl
set_option maxRecDepth 100000 in
theorem ml_X10_76 : Cond.methodLink RX10 76 yX6_hasEnded ∈ lw_good := lw_gi 844 rfl rfl
set_option maxRecDepth 100000 in
theorem ml_X10_80 : Cond.methodLink RX10 80 yX10_moveMourner ∈ lw_good := lw_gi 845 rfl rfl
set_option maxRecDepth 100000 in
theorem ml_X10_121 : Cond.methodLink RX10 121 yX6_hasArrived ∈ lw_good := lw_gi 849 rfl rfl
set_option maxRecDepth 100000 in
theorem ml_X10_124 : Cond.methodLink RX10 124 yX6_endAt ∈ lw_good := lw_gi 853 rfl rfl
set_option maxRecDepth 100000 in
theorem ml_X10_131 : Cond.methodLink RX10 131 yX6_nearestTo ∈ lw_good := lw_gi 857 rfl rfl
set_option maxRecDepth 100000 in
theorem ml_X6_75 : Cond.methodLink RX6 75 yJ9_abs_0f7a4 ∈ lw_good := lw_gi 861 rfl rfl
set_option maxRecDepth 100000 in
theorem sm_abs : Cond.static yJ9_abs_0f7a4 ∈ lw_good := lw_gi 862 rfl rfl
set_option maxRecDepth 100000 in
theorem cd_abs : Cond.code Lib.Math.abs.name Lib.Math.abs.code 1 (some .int) ∈ lw_good := lw_gi 863 rfl rfl
set_option maxRecDepth 100000 in
theorem ml_X10_134 : Cond.methodLink RX10 134 yJ9_abs_0f7a4 ∈ lw_good := lw_gi 864 rfl rfl
set_option maxRecDepth 100000 in
theorem ml_X10_137 : Cond.methodLink RX10 137 yJ9_max_7cf53 ∈ lw_good := lw_gi 865 rfl rfl
set_option maxRecDepth 100000 in
theorem ml_X11_298 : Cond.methodLink RX11 298 yX4_tellTwo ∈ lw_good := lw_gi 866 rfl rfl
set_option maxRecDepth 100000 in
theorem ml_X4_19 : Cond.methodLink RX4 19 yX4_clear ∈ lw_good := lw_gi 870 rfl rfl
set_option maxRecDepth 100000 in
theorem ml_X4_22 : Cond.methodLink RX4 22 yX4_add ∈ lw_good := lw_gi 874 rfl rfl
set_option maxRecDepth 100000 in
theorem ml_X11_305 : Cond.methodLink RX11 305 yX11_undoable ∈ lw_good := lw_gi 878 rfl rfl
set_option maxRecDepth 100000 in
theorem ml_X11_318 : Cond.methodLink RX11 318 yX11_isDone ∈ lw_good := lw_gi 882 rfl rfl
set_option maxRecDepth 100000 in
theorem ml_X11_321 : Cond.methodLink RX11 321 yX1_add ∈ lw_good := lw_gi 885 rfl rfl
set_option maxRecDepth 100000 in
theorem ml_X1_25 : Cond.methodLink RX1 25 yX6_copyFrom ∈ lw_good := lw_gi 889 rfl rfl
set_option maxRecDepth 100000 in
theorem ml_L_75 : Cond.methodLink RL 75 yX11_turnsTo ∈ lw_good := lw_gi 890 rfl rfl
set_option maxRecDepth 100000 in
theorem ml_X11_308 : Cond.methodLink RX11 308 yX6_turn ∈ lw_good := lw_gi 894 rfl rfl
set_option maxRecDepth 100000 in
theorem ml_X6_60 : Cond.methodLink RX6 60 yX6_isMourner ∈ lw_good := lw_gi 898 rfl rfl
set_option maxRecDepth 100000 in
theorem ml_X6_63 : Cond.methodLink RX6 63 yX6_hasEnded ∈ lw_good := lw_gi 902 rfl rfl
set_option maxRecDepth 100000 in
theorem ml_X6_56 : Cond.methodLink RX6 56 yX6_hasArrived ∈ lw_good := lw_gi 903 rfl rfl
set_option maxRecDepth 100000 in
theorem ml_L_79 : Cond.methodLink RL 79 yX11_pushes ∈ lw_good := lw_gi 904 rfl rfl
set_option maxRecDepth 100000 in
theorem ml_X11_311 : Cond.methodLink RX11 311 yX6_shove ∈ lw_good := lw_gi 908 rfl rfl
set_option maxRecDepth 100000 in
theorem ml_X6_66 : Cond.methodLink RX6 66 yX8_putOnStreet ∈ lw_good := lw_gi 912 rfl rfl
set_option maxRecDepth 100000 in
theorem ml_L_83 : Cond.methodLink RL 83 yX11_swaps ∈ lw_good := lw_gi 913 rfl rfl
set_option maxRecDepth 100000 in
theorem ml_X11_315 : Cond.methodLink RX11 315 yX6_exchange ∈ lw_good := lw_gi 917 rfl rfl
set_option maxRecDepth 100000 in
theorem ml_X6_72 : Cond.methodLink RX6 72 yX6_isHearse ∈ lw_good := lw_gi 921 rfl rfl
set_option maxRecDepth 100000 in
theorem ml_L_87 : Cond.methodLink RL 87 yX11_hour ∈ lw_good := lw_gi 925 rfl rfl
set_option maxRecDepth 100000 in
theorem ml_X11_324 : Cond.methodLink RX11 324 yX11_hourFault ∈ lw_good := lw_gi 929 rfl rfl
set_option maxRecDepth 100000 in
theorem ml_X11_327 : Cond.methodLink RX11 327 yX9_isRead ∈ lw_good := lw_gi 933 rfl rfl
set_option maxRecDepth 100000 in
theorem ml_X11_336 : Cond.methodLink RX11 336 yX11_passAct ∈ lw_good := lw_gi 934 rfl rfl
set_option maxRecDepth 100000 in
theorem ml_X11_339 : Cond.methodLink RX11 339 yX9_digit ∈ lw_good := lw_gi 938 rfl rfl
set_option maxRecDepth 100000 in
theorem ml_X11_330 : Cond.methodLink RX11 330 yX11_doAct ∈ lw_good := lw_gi 939 rfl rfl
set_option maxRecDepth 100000 in
theorem ml_L_91 : Cond.methodLink RL 91 yX11_undo ∈ lw_good := lw_gi 943 rfl rfl
set_option maxRecDepth 100000 in
theorem ml_X11_342 : Cond.methodLink RX11 342 yX1_takeBack ∈ lw_good := lw_gi 947 rfl rfl
set_option maxRecDepth 100000 in
theorem ml_L_95 : Cond.methodLink RL 95 yX11_line ∈ lw_good := lw_gi 951 rfl rfl
set_option maxRecDepth 100000 in
theorem ml_X11_349 : Cond.methodLink RX11 349 yX4_clear ∈ lw_good := lw_gi 955 rfl rfl
set_option maxRecDepth 100000 in
theorem ml_X11_353 : Cond.methodLink RX11 353 yX6_foremostBelow ∈ lw_good := lw_gi 956 rfl rfl
set_option maxRecDepth 100000 in
theorem ml_X11_356 : Cond.methodLink RX11 356 yX4_add ∈ lw_good := lw_gi 957 rfl rfl
set_option maxRecDepth 100000 in
theorem ml_L_99 : Cond.methodLink RL 99 yX11_ahead ∈ lw_good := lw_gi 958 rfl rfl
set_option maxRecDepth 100000 in
theorem ml_L_103 : Cond.methodLink RL 103 yX11_arrives ∈ lw_good := lw_gi 962 rfl rfl
set_option maxRecDepth 100000 in
theorem ml_X11_220 : Cond.methodLink RX11 220 yX6_isHearse ∈ lw_good := lw_gi 966 rfl rfl
set_option maxRecDepth 100000 in
theorem ml_X11_255 : Cond.methodLink RX11 255 yX6_hasArrived ∈ lw_good := lw_gi 967 rfl rfl
set_option maxRecDepth 100000 in
theorem ml_X11_362 : Cond.methodLink RX11 362 yX10_advance ∈ lw_good := lw_gi 968 rfl rfl
set_option maxRecDepth 100000 in
theorem ml_X11_366 : Cond.methodLink RX11 366 yX4_tellOne ∈ lw_good := lw_gi 969 rfl rfl
set_option maxRecDepth 100000 in
theorem ml_L_107 : Cond.methodLink RL 107 yX11_jam ∈ lw_good := lw_gi 973 rfl rfl
set_option maxRecDepth 100000 in
theorem ml_L_111 : Cond.methodLink RL 111 yX11_passes ∈ lw_good := lw_gi 977 rfl rfl
set_option maxRecDepth 100000 in
theorem ml_X11_372 : Cond.methodLink RX11 372 yX6_isAheadOf ∈ lw_good := lw_gi 981 rfl rfl
set_option maxRecDepth 100000 in
theorem ml_L_115 : Cond.methodLink RL 115 yX11_ends ∈ lw_good := lw_gi 985 rfl rfl
set_option maxRecDepth 100000 in
theorem ml_X11_265 : Cond.methodLink RX11 265 yX6_isMourner ∈ lw_good := lw_gi 989 rfl rfl
set_option maxRecDepth 100000 in
theorem ml_X11_376 : Cond.methodLink RX11 376 yX10_forgetTallies ∈ lw_good := lw_gi 990 rfl rfl
set_option maxRecDepth 100000 in
theorem ml_L_119 : Cond.methodLink RL 119 yX11_right ∈ lw_good := lw_gi 991 rfl rfl
set_option maxRecDepth 100000 in
theorem ml_X11_382 : Cond.methodLink RX11 382 yX11_rightOnesOfTrial ∈ lw_good := lw_gi 995 rfl rfl
set_option maxRecDepth 100000 in
theorem ml_X11_394 : Cond.methodLink RX11 394 yX10_toEnd ∈ lw_good := lw_gi 999 rfl rfl
set_option maxRecDepth 100000 in
theorem ml_X10_40 : Cond.methodLink RX10 40 yX2_period ∈ lw_good := lw_gi 1003 rfl rfl
set_option maxRecDepth 100000 in
theorem ml_X11_397 : Cond.methodLink RX11 397 yX6_rightBits ∈ lw_good := lw_gi 1007 rfl rfl
set_option maxRecDepth 100000 in
theorem ml_X6_86 : Cond.methodLink RX6 86 yX6_isRight ∈ lw_good := lw_gi 1011 rfl rfl
set_option maxRecDepth 100000 in
theorem ml_X11_386 : Cond.methodLink RX11 386 yX6_wrongBits ∈ lw_good := lw_gi 1015 rfl rfl
set_option maxRecDepth 100000 in
theorem ml_X11_389 : Cond.methodLink RX11 389 yJ6_bitCount_0f7a4 ∈ lw_good := lw_gi 1019 rfl rfl
set_option maxRecDepth 100000 in
theorem ml_L_123 : Cond.methodLink RL 123 yX11_order ∈ lw_good := lw_gi 1020 rfl rfl
set_option maxRecDepth 100000 in
theorem ml_X11_400 : Cond.methodLink RX11 400 yX3_begin ∈ lw_good := lw_gi 1024 rfl rfl
set_option maxRecDepth 100000 in
theorem ml_X3_26 : Cond.methodLink RX3 26 yX6_hearseOn ∈ lw_good := lw_gi 1028 rfl rfl
set_option maxRecDepth 100000 in
theorem ml_X11_406 : Cond.methodLink RX11 406 yX6_placeHearses ∈ lw_good := lw_gi 1029 rfl rfl
set_option maxRecDepth 100000 in
theorem ml_X11_410 : Cond.methodLink RX11 410 yX3_markBest ∈ lw_good := lw_gi 1033 rfl rfl
set_option maxRecDepth 100000 in
theorem ml_X3_32 : Cond.methodLink RX3 32 arraycopyName ∈ lw_good := lw_gi 1037 rfl rfl
set_option maxRecDepth 100000 in
theorem ml_X11_413 : Cond.methodLink RX11 413 yX3_toNext ∈ lw_good := lw_gi 1038 rfl rfl
set_option maxRecDepth 100000 in
theorem ml_X3_38 : Cond.methodLink RX3 38 yX3_exchangeCells ∈ lw_good := lw_gi 1042 rfl rfl
set_option maxRecDepth 100000 in
theorem ml_L_127 : Cond.methodLink RL 127 yX11_stands ∈ lw_good := lw_gi 1046 rfl rfl
set_option maxRecDepth 100000 in
theorem ml_X11_420 : Cond.methodLink RX11 420 yX6_isRight ∈ lw_good := lw_gi 1050 rfl rfl
set_option maxRecDepth 100000 in
theorem ml_L_131 : Cond.methodLink RL 131 yX11_when ∈ lw_good := lw_gi 1051 rfl rfl
set_option maxRecDepth 100000 in
theorem ml_X11_423 : Cond.methodLink RX11 423 yX11_isTurned ∈ lw_good := lw_gi 1055 rfl rfl
set_option maxRecDepth 100000 in
theorem ml_L_135 : Cond.methodLink RL 135 yX11_mends ∈ lw_good := lw_gi 1059 rfl rfl
set_option maxRecDepth 100000 in
theorem ml_X11_426 : Cond.methodLink RX11 426 yX11_ableToTurn ∈ lw_good := lw_gi 1063 rfl rfl
set_option maxRecDepth 100000 in
theorem ml_X11_429 : Cond.methodLink RX11 429 yX11_turnInTrial ∈ lw_good := lw_gi 1067 rfl rfl
set_option maxRecDepth 100000 in
theorem ml_L_139 : Cond.methodLink RL 139 yX11_misleads ∈ lw_good := lw_gi 1071 rfl rfl
set_option maxRecDepth 100000 in
theorem ml_X11_432 : Cond.methodLink RX11 432 yX6_takeAway ∈ lw_good := lw_gi 1075 rfl rfl
set_option maxRecDepth 100000 in
theorem ml_X6_52 : Cond.methodLink RX6 52 yX6_arrive ∈ lw_good := lw_gi 1079 rfl rfl
set_option maxRecDepth 100000 in
theorem ml_X11_243 : Cond.methodLink RX11 243 yX6_bitsOf ∈ lw_good := lw_gi 1080 rfl rfl
set_option maxRecDepth 100000 in
theorem ml_X11_435 : Cond.methodLink RX11 435 yJ9_max_7cf53 ∈ lw_good := lw_gi 1081 rfl rfl
set_option maxRecDepth 100000 in
theorem ml_L_143 : Cond.methodLink RL 143 yX11_crowd ∈ lw_good := lw_gi 1082 rfl rfl
set_option maxRecDepth 100000 in
theorem ml_L_147 : Cond.methodLink RL 147 yX11_shares ∈ lw_good := lw_gi 1086 rfl rfl
set_option maxRecDepth 100000 in
theorem ml_X11_440 : Cond.methodLink RX11 440 yX7_weigh ∈ lw_good := lw_gi 1090 rfl rfl
set_option maxRecDepth 100000 in
theorem ml_X7_28 : Cond.methodLink RX7 28 yX7_mostFrom ∈ lw_good := lw_gi 1094 rfl rfl
set_option maxRecDepth 100000 in
theorem ml_X7_32 : Cond.methodLink RX7 32 yX7_canHave ∈ lw_good := lw_gi 1098 rfl rfl
set_option maxRecDepth 100000 in
theorem ml_X7_42 : Cond.methodLink RX7 42 yX6_hasEnded ∈ lw_good := lw_gi 1102 rfl rfl
set_option maxRecDepth 100000 in
theorem ml_X7_46 : Cond.methodLink RX7 46 yX6_hasArrived ∈ lw_good := lw_gi 1103 rfl rfl
set_option maxRecDepth 100000 in
theorem ml_X7_56 : Cond.methodLink RX7 56 yJ9_abs_0f7a4 ∈ lw_good := lw_gi 1104 rfl rfl
set_option maxRecDepth 100000 in
theorem ml_X7_36 : Cond.methodLink RX7 36 yJ9_max_7cf53 ∈ lw_good := lw_gi 1105 rfl rfl
set_option maxRecDepth 100000 in
theorem ml_X11_444 : Cond.methodLink RX11 444 yX7_choice ∈ lw_good := lw_gi 1106 rfl rfl
set_option maxRecDepth 100000 in
theorem ml_L_151 : Cond.methodLink RL 151 yX11_strangers ∈ lw_good := lw_gi 1110 rfl rfl
set_option maxRecDepth 100000 in
theorem ml_X11_448 : Cond.methodLink RX11 448 yJ9_abs_0f7a4 ∈ lw_good := lw_gi 1114 rfl rfl
set_option maxRecDepth 100000 in
theorem ml_L_155 : Cond.methodLink RL 155 yX11_doubts ∈ lw_good := lw_gi 1115 rfl rfl
set_option maxRecDepth 100000 in
theorem ml_X11_451 : Cond.methodLink RX11 451 yX6_isInDoubt ∈ lw_good := lw_gi 1119 rfl rfl
set_option maxRecDepth 100000 in
theorem ml_X6_80 : Cond.methodLink RX6 80 yX6_nearestTo ∈ lw_good := lw_gi 1123 rfl rfl
set_option maxRecDepth 100000 in
theorem ml_X6_83 : Cond.methodLink RX6 83 yX6_hearseOn ∈ lw_good := lw_gi 1124 rfl rfl
set_option maxRecDepth 100000 in
theorem ml_L_159 : Cond.methodLink RL 159 yX11_heard ∈ lw_good := lw_gi 1125 rfl rfl
set_option maxRecDepth 100000 in
theorem ml_X11_454 : Cond.methodLink RX11 454 yX0_add ∈ lw_good := lw_gi 1129 rfl rfl
set_option maxRecDepth 100000 in
theorem ml_X0_22 : Cond.methodLink RX0 22 yX0_canBe ∈ lw_good := lw_gi 1133 rfl rfl
set_option maxRecDepth 100000 in
theorem ml_L_163 : Cond.methodLink RL 163 yX11_forget ∈ lw_good := lw_gi 1136 rfl rfl
set_option maxRecDepth 100000 in
theorem ml_L_167 : Cond.methodLink RL 167 yX11_fits ∈ lw_good := lw_gi 1140 rfl rfl
set_option maxRecDepth 100000 in
theorem ml_X11_457 : Cond.methodLink RX11 457 yX0_isTrueOf ∈ lw_good := lw_gi 1144 rfl rfl
set_option maxRecDepth 100000 in
theorem ml_X0_26 : Cond.methodLink RX0 26 yX0_isOneTrueOf ∈ lw_good := lw_gi 1148 rfl rfl
set_option maxRecDepth 100000 in
theorem ml_X0_35 : Cond.methodLink RX0 35 yX6_bitsOf ∈ lw_good := lw_gi 1152 rfl rfl
set_option maxRecDepth 100000 in
theorem ml_X0_39 : Cond.methodLink RX0 39 yJ6_bitCount_0f7a4 ∈ lw_good := lw_gi 1153 rfl rfl
set_option maxRecDepth 100000 in
theorem ml_L_171 : Cond.methodLink RL 171 yX11_rains ∈ lw_good := lw_gi 1154 rfl rfl
set_option maxRecDepth 100000 in
theorem ml_X11_461 : Cond.methodLink RX11 461 yX11_power ∈ lw_good := lw_gi 1158 rfl rfl
set_option maxRecDepth 100000 in
theorem ct_X11_465 : Cond.constantLong RX11 465 (10) ∈ lw_good := lw_gi 1161 rfl rfl
set_option maxRecDepth 100000 in
theorem ml_X11_467 : Cond.methodLink RX11 467 yX11_commonDivisor ∈ lw_good := lw_gi 1162 rfl rfl
set_option maxRecDepth 100000 in
theorem ml_L_176 : Cond.methodLink RL 176 yX11_law ∈ lw_good := lw_gi 1165 rfl rfl
set_option maxRecDepth 100000 in
theorem ml_L_180 : Cond.methodLink RL 180 yX11_rests ∈ lw_good := lw_gi 1169 rfl rfl
set_option maxRecDepth 100000 in
theorem ml_X11_471 : Cond.methodLink RX11 471 yX11_isBestAnswer ∈ lw_good := lw_gi 1173 rfl rfl
set_option maxRecDepth 100000 in
theorem ml_X11_475 : Cond.methodLink RX11 475 yX11_gain ∈ lw_good := lw_gi 1176 rfl rfl
set_option maxRecDepth 100000 in
theorem ml_L_184 : Cond.methodLink RL 184 yX11_years ∈ lw_good := lw_gi 1179 rfl rfl
set_option maxRecDepth 100000 in
theorem ml_X11_479 : Cond.methodLink RX11 479 yX11_draw ∈ lw_good := lw_gi 1183 rfl rfl
set_option maxRecDepth 100000 in
theorem ct_X11_485 : Cond.constant RX11 485 (1103515245) ∈ lw_good := lw_gi 1187 rfl rfl
set_option maxRecDepth 100000 in
theorem ml_L_188 : Cond.methodLink RL 188 yX11_keep ∈ lw_good := lw_gi 1188 rfl rfl
set_option maxRecDepth 100000 in
theorem ml_L_192 : Cond.methodLink RL 192 yX11_again ∈ lw_good := lw_gi 1192 rfl rfl
set_option maxRecDepth 100000 in
theorem ml_L_196 : Cond.methodLink RL 196 yX11_count ∈ lw_good := lw_gi 1196 rfl rfl
set_option maxRecDepth 100000 in
theorem ml_X11_489 : Cond.methodLink RX11 489 yX8_weatherAt ∈ lw_good := lw_gi 1200 rfl rfl
set_option maxRecDepth 100000 in
theorem ml_L_57 : Cond.methodLink RL 57 yL_hearse ∈ lw_good := lw_gi 1201 rfl rfl
set_option maxRecDepth 100000 in
theorem cl_L_13 : Cond.classLink RL 13 "java/util/NoSuchElementException" ∈ lw_good := lw_gi 1204 rfl rfl
set_option maxRecDepth 100000 in
theorem ml_L_7 : Cond.methodLink RL 7 yX11_hearse ∈ lw_good := lw_gi 1205 rfl rfl
