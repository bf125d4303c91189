theorem fmX12_adds {p1 : Int} {M : Mem} {Q Q' : Int → Mem → Prop} (h : qX12_adds p1 M Q) (hQ : ∀ (w0 : Int) (M' : Mem), Ks (fun k j => k = 15 ∨ (k = 1 ∧ (j = 28))) M M' → Q w0 M' → Q' w0 M') : qX12_adds p1 M Q' := by
  unfold qX12_adds at h ⊢
  intro x1_1 g2 g3
  have h1 := h x1_1 g2 g3
  obtain ⟨v4, h4⟩ := h1
  refine ⟨v4, ?_⟩
  intro M3_5 eM3_5
  have h5 := h4 M3_5 eM3_5
  have F5 : Ks (fun k j => k = 15 ∨ (k = 1 ∧ (j = 28))) M M3_5 := by rw [eM3_5]; exact (Ks.rf).wr (mw_154)
  intro x4_6 g7 g8
  have h6 := h5 x4_6 g7 g8
  obtain ⟨h9, h10⟩ := h6
  refine ⟨?_, ?_⟩
  · intro g11
    have h12 := h9 g11
    exact hQ _ _ F5 h12
  · intro g13
    have h14 := h10 g13
    obtain ⟨n15, h15⟩ := h14
    refine ⟨n15, ?_⟩
    refine fmX12_adds_L21 hQ ?_ _ _ _ F5 h15
    · intro M_17 F16 h16
      intro x15_18 g19 g20
      have h18 := h16 x15_18 g19 g20
      obtain ⟨v21, h21⟩ := h18
      refine ⟨v21, ?_⟩
      intro M17_22 eM17_22
      have h22 := h21 M17_22 eM17_22
      have F22 : Ks (fun k j => k = 15 ∨ (k = 1 ∧ (j = 28))) M M17_22 := by rw [eM17_22]; exact (F16).wr (mw_154)
      exact hQ _ _ F22 h22
theorem fmX12_enters {p1 : Int} {M : Mem} {Q Q' : Mem → Prop} (h : qX12_enters p1 M Q) (hQ : ∀ (M' : Mem), Ks (fun k j => k = 0 ∨ (k = 1 ∧ (j = 1))) M M' → Q M' → Q' M') : qX12_enters p1 M Q' := by
  unfold qX12_enters at h ⊢
  intro x1_1 g2 g3
  have h1 := h x1_1 g2 g3
  obtain ⟨v4, h4⟩ := h1
  refine ⟨v4, ?_⟩
  obtain ⟨v5, h5⟩ := h4
  refine ⟨v5, ?_⟩
  intro M4_6 eM4_6
  have h6 := h5 M4_6 eM4_6
  have F6 : Ks (fun k j => k = 0 ∨ (k = 1 ∧ (j = 1))) M M4_6 := by rw [eM4_6]; exact (Ks.rf).wr (mw_155 _)
  intro x5_7 g8 g9
  have h7 := h6 x5_7 g8 g9
  obtain ⟨v10, h10⟩ := h7
  refine ⟨v10, ?_⟩
  intro M7_11 eM7_11
  have h11 := h10 M7_11 eM7_11
  have F11 : Ks (fun k j => k = 0 ∨ (k = 1 ∧ (j = 1))) M M7_11 := by rw [eM7_11]; exact (F6).wr (mw_156)
  exact hQ _ F11 h11
theorem fmX12_goal_L27 {k1 : Nat} {p2 : Int} {p3 : Int} {Q Q' : Int → Mem → Prop} {M0 : Mem} (hQ : ∀ (w0 : Int) (M' : Mem), Ks (fun _ _ => False) M0 M' → Q w0 M' → Q' w0 M') : ∀ (n : Nat) (v4 v5 v6 v7 v8 : Int) (M : Mem), Ks (fun _ _ => False) M0 M → qX12_goal_L27 k1 p2 p3 Q n v4 v5 v6 v7 v8 M → qX12_goal_L27 k1 p2 p3 Q' n v4 v5 v6 v7 v8 M := by
  intro n
  induction n with
  | zero => intro v4 v5 v6 v7 v8 M _ h; exact h.elim
  | succ n ih =>
    intro v4 v5 v6 v7 v8 M hF h
    rw [qX12_goal_L27] at h
    rw [qX12_goal_L27]
    refine fmX12_gate h ?_
    intro x7_2 M7_3 f1 h1
    have F1 : Ks (fun _ _ => False) M0 M7_3 := (hF).tr (f1.mono (fun _ _ h => False.elim h))
    intro g4
    have h5 := h1 g4
    obtain ⟨v6, h6⟩ := h5
    refine ⟨v6, ?_⟩
    intro x9_7 g8 g9
    have h7 := h6 x9_7 g8 g9
    obtain ⟨v10, h10⟩ := h7
    refine ⟨v10, ?_⟩
    obtain ⟨h11, h12⟩ := h10
    refine ⟨?_, ?_⟩
    · intro g13
      have h14 := h11 g13
      obtain ⟨v15, h15⟩ := h14
      refine ⟨v15, ?_⟩
      exact hQ _ _ F1 h15
    · intro g16
      have h17 := h12 g16
      obtain ⟨v18, h18⟩ := h17
      refine ⟨v18, ?_⟩
      obtain ⟨h19, h20⟩ := h18
      refine ⟨?_, ?_⟩
      · intro g21
        have h22 := h19 g21
        unfold qX12_goal_J58 at h22 ⊢
        unfold qX12_goal_J63 at h22 ⊢
        refine fmX12_gate h22 ?_
        intro x15_24 M15_25 f23 h23
        have F23 : Ks (fun _ _ => False) M0 M15_25 := (F1).tr (f23.mono (fun _ _ h => False.elim h))
        intro g26
        have h27 := h23 g26
        obtain ⟨v28, h28⟩ := h27
        refine ⟨v28, ?_⟩
        obtain ⟨h29, h30⟩ := h28
        refine ⟨?_, ?_⟩
        · intro g31
          have h32 := h29 g31
          unfold qX12_goal_J84 at h32 ⊢
          unfold qX12_goal_J89 at h32 ⊢
          obtain ⟨v33, h33⟩ := h32
          refine ⟨v33, ?_⟩
          obtain ⟨h34, h35⟩ := h33
          refine ⟨?_, ?_⟩
          · intro g36
            have h37 := h34 g36
            unfold qX12_goal_J111 at h37 ⊢
            unfold qX12_goal_J113 at h37 ⊢
            obtain ⟨v38, h38⟩ := h37
            refine ⟨v38, ?_⟩
            obtain ⟨h39, h40⟩ := h38
            refine ⟨?_, ?_⟩
            · intro g41
              have h42 := h39 g41
              exact ih _ _ _ _ _ _ F23 h42
            · intro g43
              have h44 := h40 g43
              obtain ⟨v45, h45⟩ := h44
              refine ⟨v45, ?_⟩
              obtain ⟨h46, h47⟩ := h45
              refine ⟨?_, ?_⟩
              · intro g48
                have h49 := h46 g48
                exact ih _ _ _ _ _ _ F23 h49
              · intro g50
                have h51 := h47 g50
                exact ih _ _ _ _ _ _ F23 h51
          · intro g52
            have h53 := h35 g52
            obtain ⟨v54, h54⟩ := h53
            refine ⟨v54, ?_⟩
            obtain ⟨h55, h56⟩ := h54
            refine ⟨?_, ?_⟩
            · intro g57
              have h58 := h55 g57
              unfold qX12_goal_J106 at h58 ⊢
              unfold qX12_goal_J113 at h58 ⊢
              obtain ⟨v59, h59⟩ := h58
              refine ⟨v59, ?_⟩
              obtain ⟨h60, h61⟩ := h59
              refine ⟨?_, ?_⟩
              · intro g62
                have h63 := h60 g62
                exact ih _ _ _ _ _ _ F23 h63
              · intro g64
                have h65 := h61 g64
                obtain ⟨v66, h66⟩ := h65
                refine ⟨v66, ?_⟩
                obtain ⟨h67, h68⟩ := h66
                refine ⟨?_, ?_⟩
                · intro g69
                  have h70 := h67 g69
                  exact ih _ _ _ _ _ _ F23 h70
                · intro g71
                  have h72 := h68 g71
                  exact ih _ _ _ _ _ _ F23 h72
            · intro g73
              have h74 := h56 g73
              obtain ⟨v75, h75⟩ := h74
              refine ⟨v75, ?_⟩
              obtain ⟨h76, h77⟩ := h75
              refine ⟨?_, ?_⟩
              · intro g78
                have h79 := h76 g78
                unfold qX12_goal_J111 at h79 ⊢
                unfold qX12_goal_J113 at h79 ⊢
                obtain ⟨v80, h80⟩ := h79
                refine ⟨v80, ?_⟩
                obtain ⟨h81, h82⟩ := h80
                refine ⟨?_, ?_⟩
                · intro g83
                  have h84 := h81 g83
                  exact ih _ _ _ _ _ _ F23 h84
                · intro g85
                  have h86 := h82 g85
                  obtain ⟨v87, h87⟩ := h86
                  refine ⟨v87, ?_⟩
                  obtain ⟨h88, h89⟩ := h87
                  refine ⟨?_, ?_⟩
                  · intro g90
                    have h91 := h88 g90
                    exact ih _ _ _ _ _ _ F23 h91
                  · intro g92
                    have h93 := h89 g92
                    exact ih _ _ _ _ _ _ F23 h93
              · intro g94
                have h95 := h77 g94
                unfold qX12_goal_J106 at h95 ⊢
                unfold qX12_goal_J113 at h95 ⊢
                obtain ⟨v96, h96⟩ := h95
                refine ⟨v96, ?_⟩
                obtain ⟨h97, h98⟩ := h96
                refine ⟨?_, ?_⟩
                · intro g99
                  have h100 := h97 g99
                  exact ih _ _ _ _ _ _ F23 h100
                · intro g101
                  have h102 := h98 g101
                  obtain ⟨v103, h103⟩ := h102
                  refine ⟨v103, ?_⟩
                  obtain ⟨h104, h105⟩ := h103
                  refine ⟨?_, ?_⟩
                  · intro g106
                    have h107 := h104 g106
                    exact ih _ _ _ _ _ _ F23 h107
                  · intro g108
                    have h109 := h105 g108
                    exact ih _ _ _ _ _ _ F23 h109
        · intro g110
          have h111 := h30 g110
          refine fmX12_onCell h111 ?_
          intro x28_113 M28_114 f112 h112
          have F112 : Ks (fun _ _ => False) M0 M28_114 := (F23).tr (f112.mono (fun _ _ h => False.elim h))
          intro g115
          have h116 := h112 g115
          obtain ⟨h117, h118⟩ := h116
          refine ⟨?_, ?_⟩
          · intro g119
            have h120 := h117 g119
            unfold qX12_goal_J89 at h120 ⊢
            obtain ⟨v121, h121⟩ := h120
            refine ⟨v121, ?_⟩
            obtain ⟨h122, h123⟩ := h121
            refine ⟨?_, ?_⟩
            · intro g124
              have h125 := h122 g124
              unfold qX12_goal_J111 at h125 ⊢
              unfold qX12_goal_J113 at h125 ⊢
              obtain ⟨v126, h126⟩ := h125
              refine ⟨v126, ?_⟩
              obtain ⟨h127, h128⟩ := h126
              refine ⟨?_, ?_⟩
              · intro g129
                have h130 := h127 g129
                exact ih _ _ _ _ _ _ F112 h130
              · intro g131
                have h132 := h128 g131
                obtain ⟨v133, h133⟩ := h132
                refine ⟨v133, ?_⟩
                obtain ⟨h134, h135⟩ := h133
                refine ⟨?_, ?_⟩
                · intro g136
                  have h137 := h134 g136
                  exact ih _ _ _ _ _ _ F112 h137
                · intro g138
                  have h139 := h135 g138
                  exact ih _ _ _ _ _ _ F112 h139
            · intro g140
              have h141 := h123 g140
              obtain ⟨v142, h142⟩ := h141
              refine ⟨v142, ?_⟩
              obtain ⟨h143, h144⟩ := h142
              refine ⟨?_, ?_⟩
              · intro g145
                have h146 := h143 g145
                unfold qX12_goal_J106 at h146 ⊢
                unfold qX12_goal_J113 at h146 ⊢
                obtain ⟨v147, h147⟩ := h146
                refine ⟨v147, ?_⟩
                obtain ⟨h148, h149⟩ := h147
                refine ⟨?_, ?_⟩
                · intro g150
                  have h151 := h148 g150
                  exact ih _ _ _ _ _ _ F112 h151
                · intro g152
                  have h153 := h149 g152
                  obtain ⟨v154, h154⟩ := h153
                  refine ⟨v154, ?_⟩
                  obtain ⟨h155, h156⟩ := h154
                  refine ⟨?_, ?_⟩
                  · intro g157
                    have h158 := h155 g157
                    exact ih _ _ _ _ _ _ F112 h158
                  · intro g159
                    have h160 := h156 g159
                    exact ih _ _ _ _ _ _ F112 h160
              · intro g161
                have h162 := h144 g161
                obtain ⟨v163, h163⟩ := h162
                refine ⟨v163, ?_⟩
                obtain ⟨h164, h165⟩ := h163
                refine ⟨?_, ?_⟩
                · intro g166
                  have h167 := h164 g166
                  unfold qX12_goal_J111 at h167 ⊢
                  unfold qX12_goal_J113 at h167 ⊢
                  obtain ⟨v168, h168⟩ := h167
                  refine ⟨v168, ?_⟩
                  obtain ⟨h169, h170⟩ := h168
                  refine ⟨?_, ?_⟩
                  · intro g171
                    have h172 := h169 g171
                    exact ih _ _ _ _ _ _ F112 h172
                  · intro g173
                    have h174 := h170 g173
                    obtain ⟨v175, h175⟩ := h174
                    refine ⟨v175, ?_⟩
                    obtain ⟨h176, h177⟩ := h175
                    refine ⟨?_, ?_⟩
                    · intro g178
                      have h179 := h176 g178
                      exact ih _ _ _ _ _ _ F112 h179
                    · intro g180
                      have h181 := h177 g180
                      exact ih _ _ _ _ _ _ F112 h181
                · intro g182
                  have h183 := h165 g182
                  unfold qX12_goal_J106 at h183 ⊢
                  unfold qX12_goal_J113 at h183 ⊢
                  obtain ⟨v184, h184⟩ := h183
                  refine ⟨v184, ?_⟩
                  obtain ⟨h185, h186⟩ := h184
                  refine ⟨?_, ?_⟩
                  · intro g187
                    have h188 := h185 g187
                    exact ih _ _ _ _ _ _ F112 h188
                  · intro g189
                    have h190 := h186 g189
                    obtain ⟨v191, h191⟩ := h190
                    refine ⟨v191, ?_⟩
                    obtain ⟨h192, h193⟩ := h191
                    refine ⟨?_, ?_⟩
                    · intro g194
                      have h195 := h192 g194
                      exact ih _ _ _ _ _ _ F112 h195
                    · intro g196
                      have h197 := h193 g196
                      exact ih _ _ _ _ _ _ F112 h197
          · intro g198
            have h199 := h118 g198
            unfold qX12_goal_J84 at h199 ⊢
            unfold qX12_goal_J89 at h199 ⊢
            obtain ⟨v200, h200⟩ := h199
            refine ⟨v200, ?_⟩
            obtain ⟨h201, h202⟩ := h200
            refine ⟨?_, ?_⟩
            · intro g203
              have h204 := h201 g203
              unfold qX12_goal_J111 at h204 ⊢
              unfold qX12_goal_J113 at h204 ⊢
              obtain ⟨v205, h205⟩ := h204
              refine ⟨v205, ?_⟩
              obtain ⟨h206, h207⟩ := h205
              refine ⟨?_, ?_⟩
              · intro g208
                have h209 := h206 g208
                exact ih _ _ _ _ _ _ F112 h209
              · intro g210
                have h211 := h207 g210
                obtain ⟨v212, h212⟩ := h211
                refine ⟨v212, ?_⟩
                obtain ⟨h213, h214⟩ := h212
                refine ⟨?_, ?_⟩
                · intro g215
                  have h216 := h213 g215
                  exact ih _ _ _ _ _ _ F112 h216
                · intro g217
                  have h218 := h214 g217
                  exact ih _ _ _ _ _ _ F112 h218
            · intro g219
              have h220 := h202 g219
              obtain ⟨v221, h221⟩ := h220
              refine ⟨v221, ?_⟩
              obtain ⟨h222, h223⟩ := h221
              refine ⟨?_, ?_⟩
              · intro g224
                have h225 := h222 g224
                unfold qX12_goal_J106 at h225 ⊢
                unfold qX12_goal_J113 at h225 ⊢
                obtain ⟨v226, h226⟩ := h225
                refine ⟨v226, ?_⟩
                obtain ⟨h227, h228⟩ := h226
                refine ⟨?_, ?_⟩
                · intro g229
                  have h230 := h227 g229
                  exact ih _ _ _ _ _ _ F112 h230
                · intro g231
                  have h232 := h228 g231
                  obtain ⟨v233, h233⟩ := h232
                  refine ⟨v233, ?_⟩
                  obtain ⟨h234, h235⟩ := h233
                  refine ⟨?_, ?_⟩
                  · intro g236
                    have h237 := h234 g236
                    exact ih _ _ _ _ _ _ F112 h237
                  · intro g238
                    have h239 := h235 g238
                    exact ih _ _ _ _ _ _ F112 h239
              · intro g240
                have h241 := h223 g240
                obtain ⟨v242, h242⟩ := h241
                refine ⟨v242, ?_⟩
                obtain ⟨h243, h244⟩ := h242
                refine ⟨?_, ?_⟩
                · intro g245
                  have h246 := h243 g245
                  unfold qX12_goal_J111 at h246 ⊢
                  unfold qX12_goal_J113 at h246 ⊢
                  obtain ⟨v247, h247⟩ := h246
                  refine ⟨v247, ?_⟩
                  obtain ⟨h248, h249⟩ := h247
                  refine ⟨?_, ?_⟩
                  · intro g250
                    have h251 := h248 g250
                    exact ih _ _ _ _ _ _ F112 h251
                  · intro g252
                    have h253 := h249 g252
                    obtain ⟨v254, h254⟩ := h253
                    refine ⟨v254, ?_⟩
                    obtain ⟨h255, h256⟩ := h254
                    refine ⟨?_, ?_⟩
                    · intro g257
                      have h258 := h255 g257
                      exact ih _ _ _ _ _ _ F112 h258
                    · intro g259
                      have h260 := h256 g259
                      exact ih _ _ _ _ _ _ F112 h260
                · intro g261
                  have h262 := h244 g261
                  unfold qX12_goal_J106 at h262 ⊢
                  unfold qX12_goal_J113 at h262 ⊢
                  obtain ⟨v263, h263⟩ := h262
                  refine ⟨v263, ?_⟩
                  obtain ⟨h264, h265⟩ := h263
                  refine ⟨?_, ?_⟩
                  · intro g266
                    have h267 := h264 g266
                    exact ih _ _ _ _ _ _ F112 h267
                  · intro g268
                    have h269 := h265 g268
                    obtain ⟨v270, h270⟩ := h269
                    refine ⟨v270, ?_⟩
                    obtain ⟨h271, h272⟩ := h270
                    refine ⟨?_, ?_⟩
                    · intro g273
                      have h274 := h271 g273
                      exact ih _ _ _ _ _ _ F112 h274
                    · intro g275
                      have h276 := h272 g275
                      exact ih _ _ _ _ _ _ F112 h276
      · intro g277
        have h278 := h20 g277
        obtain ⟨v279, h279⟩ := h278
        refine ⟨v279, ?_⟩
        obtain ⟨v280, h280⟩ := h279
        refine ⟨v280, ?_⟩
        intro x32_281 g282 g283
        have h281 := h280 x32_281 g282 g283
        obtain ⟨h284, h285⟩ := h281
        refine ⟨?_, ?_⟩
        · intro g286
          have h287 := h284 g286
          unfold qX12_goal_J63 at h287 ⊢
          refine fmX12_gate h287 ?_
          intro x15_289 M15_290 f288 h288
          have F288 : Ks (fun _ _ => False) M0 M15_290 := (F1).tr (f288.mono (fun _ _ h => False.elim h))
          intro g291
          have h292 := h288 g291
          obtain ⟨v293, h293⟩ := h292
          refine ⟨v293, ?_⟩
          obtain ⟨h294, h295⟩ := h293
          refine ⟨?_, ?_⟩
          · intro g296
            have h297 := h294 g296
            unfold qX12_goal_J84 at h297 ⊢
            unfold qX12_goal_J89 at h297 ⊢
            obtain ⟨v298, h298⟩ := h297
            refine ⟨v298, ?_⟩
            obtain ⟨h299, h300⟩ := h298
            refine ⟨?_, ?_⟩
            · intro g301
              have h302 := h299 g301
              unfold qX12_goal_J111 at h302 ⊢
              unfold qX12_goal_J113 at h302 ⊢
              obtain ⟨v303, h303⟩ := h302
              refine ⟨v303, ?_⟩
              obtain ⟨h304, h305⟩ := h303
              refine ⟨?_, ?_⟩
              · intro g306
                have h307 := h304 g306
                exact ih _ _ _ _ _ _ F288 h307
              · intro g308
                have h309 := h305 g308
                obtain ⟨v310, h310⟩ := h309
                refine ⟨v310, ?_⟩
                obtain ⟨h311, h312⟩ := h310
                refine ⟨?_, ?_⟩
                · intro g313
                  have h314 := h311 g313
                  exact ih _ _ _ _ _ _ F288 h314
                · intro g315
                  have h316 := h312 g315
                  exact ih _ _ _ _ _ _ F288 h316
            · intro g317
              have h318 := h300 g317
              obtain ⟨v319, h319⟩ := h318
              refine ⟨v319, ?_⟩
              obtain ⟨h320, h321⟩ := h319
              refine ⟨?_, ?_⟩
              · intro g322
                have h323 := h320 g322
                unfold qX12_goal_J106 at h323 ⊢
                unfold qX12_goal_J113 at h323 ⊢
                obtain ⟨v324, h324⟩ := h323
                refine ⟨v324, ?_⟩
                obtain ⟨h325, h326⟩ := h324
                refine ⟨?_, ?_⟩
                · intro g327
                  have h328 := h325 g327
                  exact ih _ _ _ _ _ _ F288 h328
                · intro g329
                  have h330 := h326 g329
                  obtain ⟨v331, h331⟩ := h330
                  refine ⟨v331, ?_⟩
                  obtain ⟨h332, h333⟩ := h331
                  refine ⟨?_, ?_⟩
                  · intro g334
                    have h335 := h332 g334
                    exact ih _ _ _ _ _ _ F288 h335
                  · intro g336
                    have h337 := h333 g336
                    exact ih _ _ _ _ _ _ F288 h337
              · intro g338
                have h339 := h321 g338
                obtain ⟨v340, h340⟩ := h339
                refine ⟨v340, ?_⟩
                obtain ⟨h341, h342⟩ := h340
                refine ⟨?_, ?_⟩
                · intro g343
                  have h344 := h341 g343
                  unfold qX12_goal_J111 at h344 ⊢
                  unfold qX12_goal_J113 at h344 ⊢
                  obtain ⟨v345, h345⟩ := h344
                  refine ⟨v345, ?_⟩
                  obtain ⟨h346, h347⟩ := h345
                  refine ⟨?_, ?_⟩
                  · intro g348
                    have h349 := h346 g348
                    exact ih _ _ _ _ _ _ F288 h349
                  · intro g350
                    have h351 := h347 g350
                    obtain ⟨v352, h352⟩ := h351
                    refine ⟨v352, ?_⟩
                    obtain ⟨h353, h354⟩ := h352
                    refine ⟨?_, ?_⟩
                    · intro g355
                      have h356 := h353 g355
                      exact ih _ _ _ _ _ _ F288 h356
                    · intro g357
                      have h358 := h354 g357
                      exact ih _ _ _ _ _ _ F288 h358
                · intro g359
                  have h360 := h342 g359
                  unfold qX12_goal_J106 at h360 ⊢
                  unfold qX12_goal_J113 at h360 ⊢
                  obtain ⟨v361, h361⟩ := h360
                  refine ⟨v361, ?_⟩
                  obtain ⟨h362, h363⟩ := h361
                  refine ⟨?_, ?_⟩
                  · intro g364
                    have h365 := h362 g364
                    exact ih _ _ _ _ _ _ F288 h365
                  · intro g366
                    have h367 := h363 g366
                    obtain ⟨v368, h368⟩ := h367
                    refine ⟨v368, ?_⟩
                    obtain ⟨h369, h370⟩ := h368
                    refine ⟨?_, ?_⟩
                    · intro g371
                      have h372 := h369 g371
                      exact ih _ _ _ _ _ _ F288 h372
                    · intro g373
                      have h374 := h370 g373
                      exact ih _ _ _ _ _ _ F288 h374
          · intro g375
            have h376 := h295 g375
            refine fmX12_onCell h376 ?_
            intro x28_378 M28_379 f377 h377
            have F377 : Ks (fun _ _ => False) M0 M28_379 := (F288).tr (f377.mono (fun _ _ h => False.elim h))
            intro g380
            have h381 := h377 g380
            obtain ⟨h382, h383⟩ := h381
            refine ⟨?_, ?_⟩
            · intro g384
              have h385 := h382 g384
              unfold qX12_goal_J89 at h385 ⊢
              obtain ⟨v386, h386⟩ := h385
              refine ⟨v386, ?_⟩
              obtain ⟨h387, h388⟩ := h386
              refine ⟨?_, ?_⟩
              · intro g389
                have h390 := h387 g389
                unfold qX12_goal_J111 at h390 ⊢
                unfold qX12_goal_J113 at h390 ⊢
                obtain ⟨v391, h391⟩ := h390
                refine ⟨v391, ?_⟩
                obtain ⟨h392, h393⟩ := h391
                refine ⟨?_, ?_⟩
                · intro g394
                  have h395 := h392 g394
                  exact ih _ _ _ _ _ _ F377 h395
                · intro g396
                  have h397 := h393 g396
                  obtain ⟨v398, h398⟩ := h397
                  refine ⟨v398, ?_⟩
                  obtain ⟨h399, h400⟩ := h398
                  refine ⟨?_, ?_⟩
                  · intro g401
                    have h402 := h399 g401
                    exact ih _ _ _ _ _ _ F377 h402
                  · intro g403
                    have h404 := h400 g403
                    exact ih _ _ _ _ _ _ F377 h404
              · intro g405
                have h406 := h388 g405
                obtain ⟨v407, h407⟩ := h406
                refine ⟨v407, ?_⟩
                obtain ⟨h408, h409⟩ := h407
                refine ⟨?_, ?_⟩
                · intro g410
                  have h411 := h408 g410
                  unfold qX12_goal_J106 at h411 ⊢
                  unfold qX12_goal_J113 at h411 ⊢
                  obtain ⟨v412, h412⟩ := h411
                  refine ⟨v412, ?_⟩
                  obtain ⟨h413, h414⟩ := h412
                  refine ⟨?_, ?_⟩
                  · intro g415
                    have h416 := h413 g415
                    exact ih _ _ _ _ _ _ F377 h416
                  · intro g417
                    have h418 := h414 g417
                    obtain ⟨v419, h419⟩ := h418
                    refine ⟨v419, ?_⟩
                    obtain ⟨h420, h421⟩ := h419
                    refine ⟨?_, ?_⟩
                    · intro g422
                      have h423 := h420 g422
                      exact ih _ _ _ _ _ _ F377 h423
                    · intro g424
                      have h425 := h421 g424
                      exact ih _ _ _ _ _ _ F377 h425
                · intro g426
                  have h427 := h409 g426
                  obtain ⟨v428, h428⟩ := h427
                  refine ⟨v428, ?_⟩
                  obtain ⟨h429, h430⟩ := h428
                  refine ⟨?_, ?_⟩
                  · intro g431
                    have h432 := h429 g431
                    unfold qX12_goal_J111 at h432 ⊢
                    unfold qX12_goal_J113 at h432 ⊢
                    obtain ⟨v433, h433⟩ := h432
                    refine ⟨v433, ?_⟩
                    obtain ⟨h434, h435⟩ := h433
                    refine ⟨?_, ?_⟩
                    · intro g436
                      have h437 := h434 g436
                      exact ih _ _ _ _ _ _ F377 h437
                    · intro g438
                      have h439 := h435 g438
                      obtain ⟨v440, h440⟩ := h439
                      refine ⟨v440, ?_⟩
                      obtain ⟨h441, h442⟩ := h440
                      refine ⟨?_, ?_⟩
                      · intro g443
                        have h444 := h441 g443
                        exact ih _ _ _ _ _ _ F377 h444
                      · intro g445
                        have h446 := h442 g445
                        exact ih _ _ _ _ _ _ F377 h446
                  · intro g447
                    have h448 := h430 g447
                    unfold qX12_goal_J106 at h448 ⊢
                    unfold qX12_goal_J113 at h448 ⊢
                    obtain ⟨v449, h449⟩ := h448
                    refine ⟨v449, ?_⟩
                    obtain ⟨h450, h451⟩ := h449
                    refine ⟨?_, ?_⟩
                    · intro g452
                      have h453 := h450 g452
                      exact ih _ _ _ _ _ _ F377 h453
                    · intro g454
                      have h455 := h451 g454
                      obtain ⟨v456, h456⟩ := h455
                      refine ⟨v456, ?_⟩
                      obtain ⟨h457, h458⟩ := h456
                      refine ⟨?_, ?_⟩
                      · intro g459
                        have h460 := h457 g459
                        exact ih _ _ _ _ _ _ F377 h460
                      · intro g461
                        have h462 := h458 g461
                        exact ih _ _ _ _ _ _ F377 h462
            · intro g463
              have h464 := h383 g463
              unfold qX12_goal_J84 at h464 ⊢
              unfold qX12_goal_J89 at h464 ⊢
              obtain ⟨v465, h465⟩ := h464
              refine ⟨v465, ?_⟩
              obtain ⟨h466, h467⟩ := h465
              refine ⟨?_, ?_⟩
              · intro g468
                have h469 := h466 g468
                unfold qX12_goal_J111 at h469 ⊢
                unfold qX12_goal_J113 at h469 ⊢
                obtain ⟨v470, h470⟩ := h469
                refine ⟨v470, ?_⟩
                obtain ⟨h471, h472⟩ := h470
                refine ⟨?_, ?_⟩
                · intro g473
                  have h474 := h471 g473
                  exact ih _ _ _ _ _ _ F377 h474
                · intro g475
                  have h476 := h472 g475
                  obtain ⟨v477, h477⟩ := h476
                  refine ⟨v477, ?_⟩
                  obtain ⟨h478, h479⟩ := h477
                  refine ⟨?_, ?_⟩
                  · intro g480
                    have h481 := h478 g480
                    exact ih _ _ _ _ _ _ F377 h481
                  · intro g482
                    have h483 := h479 g482
                    exact ih _ _ _ _ _ _ F377 h483
              · intro g484
                have h485 := h467 g484
                obtain ⟨v486, h486⟩ := h485
                refine ⟨v486, ?_⟩
                obtain ⟨h487, h488⟩ := h486
                refine ⟨?_, ?_⟩
                · intro g489
                  have h490 := h487 g489
                  unfold qX12_goal_J106 at h490 ⊢
                  unfold qX12_goal_J113 at h490 ⊢
                  obtain ⟨v491, h491⟩ := h490
                  refine ⟨v491, ?_⟩
                  obtain ⟨h492, h493⟩ := h491
                  refine ⟨?_, ?_⟩
                  · intro g494
                    have h495 := h492 g494
                    exact ih _ _ _ _ _ _ F377 h495
                  · intro g496
                    have h497 := h493 g496
                    obtain ⟨v498, h498⟩ := h497
                    refine ⟨v498, ?_⟩
                    obtain ⟨h499, h500⟩ := h498
                    refine ⟨?_, ?_⟩
                    · intro g501
                      have h502 := h499 g501
                      exact ih _ _ _ _ _ _ F377 h502
                    · intro g503
                      have h504 := h500 g503
                      exact ih _ _ _ _ _ _ F377 h504
                · intro g505
                  have h506 := h488 g505
                  obtain ⟨v507, h507⟩ := h506
                  refine ⟨v507, ?_⟩
                  obtain ⟨h508, h509⟩ := h507
                  refine ⟨?_, ?_⟩
                  · intro g510
                    have h511 := h508 g510
                    unfold qX12_goal_J111 at h511 ⊢
                    unfold qX12_goal_J113 at h511 ⊢
                    obtain ⟨v512, h512⟩ := h511
                    refine ⟨v512, ?_⟩
                    obtain ⟨h513, h514⟩ := h512
                    refine ⟨?_, ?_⟩
                    · intro g515
                      have h516 := h513 g515
                      exact ih _ _ _ _ _ _ F377 h516
                    · intro g517
                      have h518 := h514 g517
                      obtain ⟨v519, h519⟩ := h518
                      refine ⟨v519, ?_⟩
                      obtain ⟨h520, h521⟩ := h519
                      refine ⟨?_, ?_⟩
                      · intro g522
                        have h523 := h520 g522
                        exact ih _ _ _ _ _ _ F377 h523
                      · intro g524
                        have h525 := h521 g524
                        exact ih _ _ _ _ _ _ F377 h525
                  · intro g526
                    have h527 := h509 g526
                    unfold qX12_goal_J106 at h527 ⊢
                    unfold qX12_goal_J113 at h527 ⊢
                    obtain ⟨v528, h528⟩ := h527
                    refine ⟨v528, ?_⟩
                    obtain ⟨h529, h530⟩ := h528
                    refine ⟨?_, ?_⟩
                    · intro g531
                      have h532 := h529 g531
                      exact ih _ _ _ _ _ _ F377 h532
                    · intro g533
                      have h534 := h530 g533
                      obtain ⟨v535, h535⟩ := h534
                      refine ⟨v535, ?_⟩
                      obtain ⟨h536, h537⟩ := h535
                      refine ⟨?_, ?_⟩
                      · intro g538
                        have h539 := h536 g538
                        exact ih _ _ _ _ _ _ F377 h539
                      · intro g540
                        have h541 := h537 g540
                        exact ih _ _ _ _ _ _ F377 h541
        · intro g542
          have h543 := h285 g542
          unfold qX12_goal_J58 at h543 ⊢
          unfold qX12_goal_J63 at h543 ⊢
          refine fmX12_gate h543 ?_
          intro x15_545 M15_546 f544 h544
          have F544 : Ks (fun _ _ => False) M0 M15_546 := (F1).tr (f544.mono (fun _ _ h => False.elim h))
          intro g547
          have h548 := h544 g547
          obtain ⟨v549, h549⟩ := h548
          refine ⟨v549, ?_⟩
          obtain ⟨h550, h551⟩ := h549
          refine ⟨?_, ?_⟩
          · intro g552
            have h553 := h550 g552
            unfold qX12_goal_J84 at h553 ⊢
            unfold qX12_goal_J89 at h553 ⊢
            obtain ⟨v554, h554⟩ := h553
            refine ⟨v554, ?_⟩
            obtain ⟨h555, h556⟩ := h554
            refine ⟨?_, ?_⟩
            · intro g557
              have h558 := h555 g557
              unfold qX12_goal_J111 at h558 ⊢
              unfold qX12_goal_J113 at h558 ⊢
              obtain ⟨v559, h559⟩ := h558
              refine ⟨v559, ?_⟩
              obtain ⟨h560, h561⟩ := h559
              refine ⟨?_, ?_⟩
              · intro g562
                have h563 := h560 g562
                exact ih _ _ _ _ _ _ F544 h563
              · intro g564
                have h565 := h561 g564
                obtain ⟨v566, h566⟩ := h565
                refine ⟨v566, ?_⟩
                obtain ⟨h567, h568⟩ := h566
                refine ⟨?_, ?_⟩
                · intro g569
                  have h570 := h567 g569
                  exact ih _ _ _ _ _ _ F544 h570
                · intro g571
                  have h572 := h568 g571
                  exact ih _ _ _ _ _ _ F544 h572
            · intro g573
              have h574 := h556 g573
              obtain ⟨v575, h575⟩ := h574
              refine ⟨v575, ?_⟩
              obtain ⟨h576, h577⟩ := h575
              refine ⟨?_, ?_⟩
              · intro g578
                have h579 := h576 g578
                unfold qX12_goal_J106 at h579 ⊢
                unfold qX12_goal_J113 at h579 ⊢
                obtain ⟨v580, h580⟩ := h579
                refine ⟨v580, ?_⟩
                obtain ⟨h581, h582⟩ := h580
                refine ⟨?_, ?_⟩
                · intro g583
                  have h584 := h581 g583
                  exact ih _ _ _ _ _ _ F544 h584
                · intro g585
                  have h586 := h582 g585
                  obtain ⟨v587, h587⟩ := h586
                  refine ⟨v587, ?_⟩
                  obtain ⟨h588, h589⟩ := h587
                  refine ⟨?_, ?_⟩
                  · intro g590
                    have h591 := h588 g590
                    exact ih _ _ _ _ _ _ F544 h591
                  · intro g592
                    have h593 := h589 g592
                    exact ih _ _ _ _ _ _ F544 h593
              · intro g594
                have h595 := h577 g594
                obtain ⟨v596, h596⟩ := h595
                refine ⟨v596, ?_⟩
                obtain ⟨h597, h598⟩ := h596
                refine ⟨?_, ?_⟩
                · intro g599
                  have h600 := h597 g599
                  unfold qX12_goal_J111 at h600 ⊢
                  unfold qX12_goal_J113 at h600 ⊢
                  obtain ⟨v601, h601⟩ := h600
                  refine ⟨v601, ?_⟩
                  obtain ⟨h602, h603⟩ := h601
                  refine ⟨?_, ?_⟩
                  · intro g604
                    have h605 := h602 g604
                    exact ih _ _ _ _ _ _ F544 h605
                  · intro g606
                    have h607 := h603 g606
                    obtain ⟨v608, h608⟩ := h607
                    refine ⟨v608, ?_⟩
                    obtain ⟨h609, h610⟩ := h608
                    refine ⟨?_, ?_⟩
                    · intro g611
                      have h612 := h609 g611
                      exact ih _ _ _ _ _ _ F544 h612
                    · intro g613
                      have h614 := h610 g613
                      exact ih _ _ _ _ _ _ F544 h614
                · intro g615
                  have h616 := h598 g615
                  unfold qX12_goal_J106 at h616 ⊢
                  unfold qX12_goal_J113 at h616 ⊢
                  obtain ⟨v617, h617⟩ := h616
                  refine ⟨v617, ?_⟩
                  obtain ⟨h618, h619⟩ := h617
                  refine ⟨?_, ?_⟩
                  · intro g620
                    have h621 := h618 g620
                    exact ih _ _ _ _ _ _ F544 h621
                  · intro g622
                    have h623 := h619 g622
                    obtain ⟨v624, h624⟩ := h623
                    refine ⟨v624, ?_⟩
                    obtain ⟨h625, h626⟩ := h624
                    refine ⟨?_, ?_⟩
                    · intro g627
                      have h628 := h625 g627
                      exact ih _ _ _ _ _ _ F544 h628
                    · intro g629
                      have h630 := h626 g629
                      exact ih _ _ _ _ _ _ F544 h630
          · intro g631
            have h632 := h551 g631
            refine fmX12_onCell h632 ?_
            intro x28_634 M28_635 f633 h633
            have F633 : Ks (fun _ _ => False) M0 M28_635 := (F544).tr (f633.mono (fun _ _ h => False.elim h))
            intro g636
            have h637 := h633 g636
            obtain ⟨h638, h639⟩ := h637
            refine ⟨?_, ?_⟩
            · intro g640
              have h641 := h638 g640
              unfold qX12_goal_J89 at h641 ⊢
              obtain ⟨v642, h642⟩ := h641
              refine ⟨v642, ?_⟩
              obtain ⟨h643, h644⟩ := h642
              refine ⟨?_, ?_⟩
              · intro g645
                have h646 := h643 g645
                unfold qX12_goal_J111 at h646 ⊢
                unfold qX12_goal_J113 at h646 ⊢
                obtain ⟨v647, h647⟩ := h646
                refine ⟨v647, ?_⟩
                obtain ⟨h648, h649⟩ := h647
                refine ⟨?_, ?_⟩
                · intro g650
                  have h651 := h648 g650
                  exact ih _ _ _ _ _ _ F633 h651
                · intro g652
                  have h653 := h649 g652
                  obtain ⟨v654, h654⟩ := h653
                  refine ⟨v654, ?_⟩
                  obtain ⟨h655, h656⟩ := h654
                  refine ⟨?_, ?_⟩
                  · intro g657
                    have h658 := h655 g657
                    exact ih _ _ _ _ _ _ F633 h658
                  · intro g659
                    have h660 := h656 g659
                    exact ih _ _ _ _ _ _ F633 h660
              · intro g661
                have h662 := h644 g661
                obtain ⟨v663, h663⟩ := h662
                refine ⟨v663, ?_⟩
                obtain ⟨h664, h665⟩ := h663
                refine ⟨?_, ?_⟩
                · intro g666
                  have h667 := h664 g666
                  unfold qX12_goal_J106 at h667 ⊢
                  unfold qX12_goal_J113 at h667 ⊢
                  obtain ⟨v668, h668⟩ := h667
                  refine ⟨v668, ?_⟩
                  obtain ⟨h669, h670⟩ := h668
                  refine ⟨?_, ?_⟩
                  · intro g671
                    have h672 := h669 g671
                    exact ih _ _ _ _ _ _ F633 h672
                  · intro g673
                    have h674 := h670 g673
                    obtain ⟨v675, h675⟩ := h674
                    refine ⟨v675, ?_⟩
                    obtain ⟨h676, h677⟩ := h675
                    refine ⟨?_, ?_⟩
                    · intro g678
                      have h679 := h676 g678
                      exact ih _ _ _ _ _ _ F633 h679
                    · intro g680
                      have h681 := h677 g680
                      exact ih _ _ _ _ _ _ F633 h681
                · intro g682
                  have h683 := h665 g682
                  obtain ⟨v684, h684⟩ := h683
                  refine ⟨v684, ?_⟩
                  obtain ⟨h685, h686⟩ := h684
                  refine ⟨?_, ?_⟩
                  · intro g687
                    have h688 := h685 g687
                    unfold qX12_goal_J111 at h688 ⊢
                    unfold qX12_goal_J113 at h688 ⊢
                    obtain ⟨v689, h689⟩ := h688
                    refine ⟨v689, ?_⟩
                    obtain ⟨h690, h691⟩ := h689
                    refine ⟨?_, ?_⟩
                    · intro g692
                      have h693 := h690 g692
                      exact ih _ _ _ _ _ _ F633 h693
                    · intro g694
                      have h695 := h691 g694
                      obtain ⟨v696, h696⟩ := h695
                      refine ⟨v696, ?_⟩
                      obtain ⟨h697, h698⟩ := h696
                      refine ⟨?_, ?_⟩
                      · intro g699
                        have h700 := h697 g699
                        exact ih _ _ _ _ _ _ F633 h700
                      · intro g701
                        have h702 := h698 g701
                        exact ih _ _ _ _ _ _ F633 h702
                  · intro g703
                    have h704 := h686 g703
                    unfold qX12_goal_J106 at h704 ⊢
                    unfold qX12_goal_J113 at h704 ⊢
                    obtain ⟨v705, h705⟩ := h704
                    refine ⟨v705, ?_⟩
                    obtain ⟨h706, h707⟩ := h705
                    refine ⟨?_, ?_⟩
                    · intro g708
                      have h709 := h706 g708
                      exact ih _ _ _ _ _ _ F633 h709
                    · intro g710
                      have h711 := h707 g710
                      obtain ⟨v712, h712⟩ := h711
                      refine ⟨v712, ?_⟩
                      obtain ⟨h713, h714⟩ := h712
                      refine ⟨?_, ?_⟩
                      · intro g715
                        have h716 := h713 g715
                        exact ih _ _ _ _ _ _ F633 h716
                      · intro g717
                        have h718 := h714 g717
                        exact ih _ _ _ _ _ _ F633 h718
            · intro g719
              have h720 := h639 g719
              unfold qX12_goal_J84 at h720 ⊢
              unfold qX12_goal_J89 at h720 ⊢
              obtain ⟨v721, h721⟩ := h720
              refine ⟨v721, ?_⟩
              obtain ⟨h722, h723⟩ := h721
              refine ⟨?_, ?_⟩
              · intro g724
                have h725 := h722 g724
                unfold qX12_goal_J111 at h725 ⊢
                unfold qX12_goal_J113 at h725 ⊢
                obtain ⟨v726, h726⟩ := h725
                refine ⟨v726, ?_⟩
                obtain ⟨h727, h728⟩ := h726
                refine ⟨?_, ?_⟩
                · intro g729
                  have h730 := h727 g729
                  exact ih _ _ _ _ _ _ F633 h730
                · intro g731
                  have h732 := h728 g731
                  obtain ⟨v733, h733⟩ := h732
                  refine ⟨v733, ?_⟩
                  obtain ⟨h734, h735⟩ := h733
                  refine ⟨?_, ?_⟩
                  · intro g736
                    have h737 := h734 g736
                    exact ih _ _ _ _ _ _ F633 h737
                  · intro g738
                    have h739 := h735 g738
                    exact ih _ _ _ _ _ _ F633 h739
              · intro g740
                have h741 := h723 g740
                obtain ⟨v742, h742⟩ := h741
                refine ⟨v742, ?_⟩
                obtain ⟨h743, h744⟩ := h742
                refine ⟨?_, ?_⟩
                · intro g745
                  have h746 := h743 g745
                  unfold qX12_goal_J106 at h746 ⊢
                  unfold qX12_goal_J113 at h746 ⊢
                  obtain ⟨v747, h747⟩ := h746
                  refine ⟨v747, ?_⟩
                  obtain ⟨h748, h749⟩ := h747
                  refine ⟨?_, ?_⟩
                  · intro g750
                    have h751 := h748 g750
                    exact ih _ _ _ _ _ _ F633 h751
                  · intro g752
                    have h753 := h749 g752
                    obtain ⟨v754, h754⟩ := h753
                    refine ⟨v754, ?_⟩
                    obtain ⟨h755, h756⟩ := h754
                    refine ⟨?_, ?_⟩
                    · intro g757
                      have h758 := h755 g757
                      exact ih _ _ _ _ _ _ F633 h758
                    · intro g759
                      have h760 := h756 g759
                      exact ih _ _ _ _ _ _ F633 h760
                · intro g761
                  have h762 := h744 g761
                  obtain ⟨v763, h763⟩ := h762
                  refine ⟨v763, ?_⟩
                  obtain ⟨h764, h765⟩ := h763
                  refine ⟨?_, ?_⟩
                  · intro g766
                    have h767 := h764 g766
                    unfold qX12_goal_J111 at h767 ⊢
                    unfold qX12_goal_J113 at h767 ⊢
                    obtain ⟨v768, h768⟩ := h767
                    refine ⟨v768, ?_⟩
                    obtain ⟨h769, h770⟩ := h768
                    refine ⟨?_, ?_⟩
                    · intro g771
                      have h772 := h769 g771
                      exact ih _ _ _ _ _ _ F633 h772
                    · intro g773
                      have h774 := h770 g773
                      obtain ⟨v775, h775⟩ := h774
                      refine ⟨v775, ?_⟩
                      obtain ⟨h776, h777⟩ := h775
                      refine ⟨?_, ?_⟩
                      · intro g778
                        have h779 := h776 g778
                        exact ih _ _ _ _ _ _ F633 h779
                      · intro g780
                        have h781 := h777 g780
                        exact ih _ _ _ _ _ _ F633 h781
                  · intro g782
                    have h783 := h765 g782
                    unfold qX12_goal_J106 at h783 ⊢
                    unfold qX12_goal_J113 at h783 ⊢
                    obtain ⟨v784, h784⟩ := h783
                    refine ⟨v784, ?_⟩
                    obtain ⟨h785, h786⟩ := h784
                    refine ⟨?_, ?_⟩
                    · intro g787
                      have h788 := h785 g787
                      exact ih _ _ _ _ _ _ F633 h788
                    · intro g789
                      have h790 := h786 g789
                      obtain ⟨v791, h791⟩ := h790
                      refine ⟨v791, ?_⟩
                      obtain ⟨h792, h793⟩ := h791
                      refine ⟨?_, ?_⟩
                      · intro g794
                        have h795 := h792 g794
                        exact ih _ _ _ _ _ _ F633 h795
                      · intro g796
                        have h797 := h793 g796
                        exact ih _ _ _ _ _ _ F633 h797
theorem fmX12_goal {k1 : Nat} {p2 : Int} {p3 : Int} {M : Mem} {Q Q' : Int → Mem → Prop} (h : qX12_goal k1 p2 p3 M Q) (hQ : ∀ (w0 : Int) (M' : Mem), Ks (fun _ _ => False) M M' → Q w0 M' → Q' w0 M') : qX12_goal k1 p2 p3 M Q' := by
  unfold qX12_goal at h ⊢
  obtain ⟨v1, h1⟩ := h
  refine ⟨v1, ?_⟩
  obtain ⟨v2, h2⟩ := h1
  refine ⟨v2, ?_⟩
  intro x3_3 g4 g5
  have h3 := h2 x3_3 g4 g5
  obtain ⟨v6, h6⟩ := h3
  refine ⟨v6, ?_⟩
  obtain ⟨v7, h7⟩ := h6
  refine ⟨v7, ?_⟩
  intro x6_8 g9 g10
  have h8 := h7 x6_8 g9 g10
  obtain ⟨n11, h11⟩ := h8
  refine ⟨n11, ?_⟩
  refine fmX12_goal_L27 hQ _ _ _ _ _ _ _ Ks.rf h11
theorem fmX12_hearseGoes {k1 : Nat} {p2 : Int} {M : Mem} {Q Q' : Mem → Prop} (h : qX12_hearseGoes k1 p2 M Q) (hQ : ∀ (M' : Mem), Ks (fun k j => (13 ≤ k ∧ k ≤ 14) ∨ k = 16 ∨ (k = 1 ∧ (j = 30)) ∨ k = k1) M M' → Q M' → Q' M') : qX12_hearseGoes k1 p2 M Q' := by
  unfold qX12_hearseGoes at h ⊢
  refine fmX12_paceOf h ?_
  intro x1_2 M1_3 f1 h1
  have F1 : Ks (fun k j => (13 ≤ k ∧ k ≤ 14) ∨ k = 16 ∨ (k = 1 ∧ (j = 30)) ∨ k = k1) M M1_3 := (Ks.rf).tr (f1.mono (mo_153))
  intro g4
  have h5 := h1 g4
  refine fmX12_goal h5 ?_
  intro x2_7 M2_8 f6 h6
  have F6 : Ks (fun k j => (13 ≤ k ∧ k ≤ 14) ∨ k = 16 ∨ (k = 1 ∧ (j = 30)) ∨ k = k1) M M2_8 := (F1).tr (f6.mono (fun _ _ h => False.elim h))
  intro g9
  have h10 := h6 g9
  obtain ⟨v11, h11⟩ := h10
  refine ⟨v11, ?_⟩
  obtain ⟨v12, h12⟩ := h11
  refine ⟨v12, ?_⟩
  intro x5_13 g14 g15
  have h13 := h12 x5_13 g14 g15
  obtain ⟨h16, h17⟩ := h13
  refine ⟨?_, ?_⟩
  · intro g18
    have h19 := h16 g18
    refine fmX12_gate h19 ?_
    intro x7_21 M7_22 f20 h20
    have F20 : Ks (fun k j => (13 ≤ k ∧ k ≤ 14) ∨ k = 16 ∨ (k = 1 ∧ (j = 30)) ∨ k = k1) M M7_22 := (F6).tr (f20.mono (fun _ _ h => False.elim h))
    intro g23
    have h24 := h20 g23
    obtain ⟨h25, h26⟩ := h24
    refine ⟨?_, ?_⟩
    · intro g27
      have h28 := h25 g27
      intro M9_29 eM9_29
      have h29 := h28 M9_29 eM9_29
      have F29 : Ks (fun k j => (13 ≤ k ∧ k ≤ 14) ∨ k = 16 ∨ (k = 1 ∧ (j = 30)) ∨ k = k1) M M9_29 := by rw [eM9_29]; exact (F20).wr (mw_157 _)
      exact hQ _ F29 h29
    · intro g30
      have h31 := h26 g30
      intro x10_32 g33 g34
      have h32 := h31 x10_32 g33 g34
      intro x11_35 g36 g37
      have h35 := h32 x11_35 g36 g37
      intro M12_38 eM12_38
      have h38 := h35 M12_38 eM12_38
      have F38 : Ks (fun k j => (13 ≤ k ∧ k ≤ 14) ∨ k = 16 ∨ (k = 1 ∧ (j = 30)) ∨ k = k1) M M12_38 := by rw [eM12_38]; exact (F20).wr (mw_158)
      intro x13_39 g40 g41
      have h39 := h38 x13_39 g40 g41
      obtain ⟨v42, h42⟩ := h39
      refine ⟨v42, ?_⟩
      obtain ⟨v43, h43⟩ := h42
      refine ⟨v43, ?_⟩
      intro M16_44 eM16_44
      have h44 := h43 M16_44 eM16_44
      have F44 : Ks (fun k j => (13 ≤ k ∧ k ≤ 14) ∨ k = 16 ∨ (k = 1 ∧ (j = 30)) ∨ k = k1) M M16_44 := by rw [eM16_44]; exact (F38).wr (mw_157 _)
      intro M17_45 eM17_45
      have h45 := h44 M17_45 eM17_45
      have F45 : Ks (fun k j => (13 ≤ k ∧ k ≤ 14) ∨ k = 16 ∨ (k = 1 ∧ (j = 30)) ∨ k = k1) M M17_45 := by rw [eM17_45]; exact (F44).wr (mw_157 _)
      exact hQ _ F45 h45
  · intro g46
    have h47 := h17 g46
    intro x18_48 g49 g50
    have h48 := h47 x18_48 g49 g50
    intro x19_51 g52 g53
    have h51 := h48 x19_51 g52 g53
    intro M20_54 eM20_54
    have h54 := h51 M20_54 eM20_54
    have F54 : Ks (fun k j => (13 ≤ k ∧ k ≤ 14) ∨ k = 16 ∨ (k = 1 ∧ (j = 30)) ∨ k = k1) M M20_54 := by rw [eM20_54]; exact (F6).wr (mw_159)
    obtain ⟨v55, h55⟩ := h54
    refine ⟨v55, ?_⟩
    obtain ⟨v56, h56⟩ := h55
    refine ⟨v56, ?_⟩
    intro x23_57 g58 g59
    have h57 := h56 x23_57 g58 g59
    intro x24_60 g61 g62
    have h60 := h57 x24_60 g61 g62
    intro M25_63 eM25_63
    have h63 := h60 M25_63 eM25_63
    have F63 : Ks (fun k j => (13 ≤ k ∧ k ≤ 14) ∨ k = 16 ∨ (k = 1 ∧ (j = 30)) ∨ k = k1) M M25_63 := by rw [eM25_63]; exact (F54).wr (mw_160 _)
    exact hQ _ F63 h63
theorem fmX12_laysLine_L12 {k1 : Nat} {Q Q' : Mem → Prop} {M0 : Mem} (hQ : ∀ (M' : Mem), Ks (fun k j => k = 18 ∨ (k = 1 ∧ (j = 35))) M0 M' → Q M' → Q' M') : ∀ (n : Nat) (v2 : Int) (M : Mem), Ks (fun k j => k = 18 ∨ (k = 1 ∧ (j = 35))) M0 M → qX12_laysLine_L12 k1 Q n v2 M → qX12_laysLine_L12 k1 Q' n v2 M := by
  intro n
  induction n with
  | zero => intro v2 M _ h; exact h.elim
  | succ n ih =>
    intro v2 M hF h
    rw [qX12_laysLine_L12] at h
    rw [qX12_laysLine_L12]
    obtain ⟨v1, h1⟩ := h
    refine ⟨v1, ?_⟩
    obtain ⟨h2, h3⟩ := h1
    refine ⟨?_, ?_⟩
    · intro g4
      have h5 := h2 g4
      exact hQ _ hF h5
    · intro g6
      have h7 := h3 g6
      refine fmX12_onCell h7 ?_
      intro x5_9 M5_10 f8 h8
      have F8 : Ks (fun k j => k = 18 ∨ (k = 1 ∧ (j = 35))) M0 M5_10 := (hF).tr (f8.mono (fun _ _ h => False.elim h))
      intro g11
      have h12 := h8 g11
      obtain ⟨h13, h14⟩ := h12
      refine ⟨?_, ?_⟩
      · intro g15
        have h16 := h13 g15
        exact ih _ _ F8 h16
      · intro g17
        have h18 := h14 g17
        intro x7_19 g20 g21
        have h19 := h18 x7_19 g20 g21
        obtain ⟨v22, h22⟩ := h19
        refine ⟨v22, ?_⟩
        obtain ⟨v23, h23⟩ := h22
        refine ⟨v23, ?_⟩
        intro M10_24 eM10_24
        have h24 := h23 M10_24 eM10_24
        have F24 : Ks (fun k j => k = 18 ∨ (k = 1 ∧ (j = 35))) M0 M10_24 := by rw [eM10_24]; exact (F8).wr (mw_161 _)
        intro x11_25 g26 g27
        have h25 := h24 x11_25 g26 g27
        obtain ⟨v28, h28⟩ := h25
        refine ⟨v28, ?_⟩
        intro M13_29 eM13_29
        have h29 := h28 M13_29 eM13_29
        have F29 : Ks (fun k j => k = 18 ∨ (k = 1 ∧ (j = 35))) M0 M13_29 := by rw [eM13_29]; exact (F24).wr (mw_162)
        exact ih _ _ F29 h29
theorem fmX12_laysLine {k1 : Nat} {M : Mem} {Q Q' : Mem → Prop} (h : qX12_laysLine k1 M Q) (hQ : ∀ (M' : Mem), Ks (fun k j => k = 18 ∨ (k = 1 ∧ (j = 35))) M M' → Q M' → Q' M') : qX12_laysLine k1 M Q' := by
  unfold qX12_laysLine at h ⊢
  intro M1_1 eM1_1
  have h1 := h M1_1 eM1_1
  have F1 : Ks (fun k j => k = 18 ∨ (k = 1 ∧ (j = 35))) M M1_1 := by rw [eM1_1]; exact (Ks.rf).wr (mw_162)
  refine fmX12_gate h1 ?_
  intro x2_3 M2_4 f2 h2
  have F2 : Ks (fun k j => k = 18 ∨ (k = 1 ∧ (j = 35))) M M2_4 := (F1).tr (f2.mono (fun _ _ h => False.elim h))
  intro g5
  have h6 := h2 g5
  obtain ⟨n7, h7⟩ := h6
  refine ⟨n7, ?_⟩
  refine fmX12_laysLine_L12 hQ _ _ _ F2 h7
theorem fmX12_mournerGoes {k1 : Nat} {p2 : Int} {M : Mem} {Q Q' : Mem → Prop} (h : qX12_mournerGoes k1 p2 M Q) (hQ : ∀ (M' : Mem), Ks (fun k j => k = 17 ∨ (k = 1 ∧ (j = 31)) ∨ k = k1) M M' → Q M' → Q' M') : qX12_mournerGoes k1 p2 M Q' := by
  unfold qX12_mournerGoes at h ⊢
  obtain ⟨v1, h1⟩ := h
  refine ⟨v1, ?_⟩
  obtain ⟨v2, h2⟩ := h1
  refine ⟨v2, ?_⟩
  intro x3_3 g4 g5
  have h3 := h2 x3_3 g4 g5
  obtain ⟨h6, h7⟩ := h3
  refine ⟨?_, ?_⟩
  · intro g8
    have h9 := h6 g8
    unfold qX12_mournerGoes_J27 at h9 ⊢
    obtain ⟨v10, h10⟩ := h9
    refine ⟨v10, ?_⟩
    obtain ⟨v11, h11⟩ := h10
    refine ⟨v11, ?_⟩
    intro x7_12 g13 g14
    have h12 := h11 x7_12 g13 g14
    refine fmX12_nearest h12 ?_
    intro x8_16 M8_17 f15 h15
    have F15 : Ks (fun k j => k = 17 ∨ (k = 1 ∧ (j = 31)) ∨ k = k1) M M8_17 := (Ks.rf).tr (f15.mono (fun _ _ h => False.elim h))
    intro g18
    have h19 := h15 g18
    obtain ⟨h20, h21⟩ := h19
    refine ⟨?_, ?_⟩
    · intro g22
      have h23 := h20 g22
      unfold qX12_mournerGoes_J105 at h23 ⊢
      obtain ⟨v24, h24⟩ := h23
      refine ⟨v24, ?_⟩
      obtain ⟨h25, h26⟩ := h24
      refine ⟨?_, ?_⟩
      · intro g27
        have h28 := h25 g27
        exact hQ _ F15 h28
      · intro g29
        have h30 := h26 g29
        obtain ⟨v31, h31⟩ := h30
        refine ⟨v31, ?_⟩
        obtain ⟨v32, h32⟩ := h31
        refine ⟨v32, ?_⟩
        intro x14_33 g34 g35
        have h33 := h32 x14_33 g34 g35
        obtain ⟨v36, h36⟩ := h33
        refine ⟨v36, ?_⟩
        obtain ⟨h37, h38⟩ := h36
        refine ⟨?_, ?_⟩
        · intro g39
          have h40 := h37 g39
          intro x17_41 g42 g43
          have h41 := h40 x17_41 g42 g43
          obtain ⟨v44, h44⟩ := h41
          refine ⟨v44, ?_⟩
          intro x19_45 g46 g47
          have h45 := h44 x19_45 g46 g47
          unfold qX12_mournerGoes_J145 at h45 ⊢
          obtain ⟨v48, h48⟩ := h45
          refine ⟨v48, ?_⟩
          obtain ⟨v49, h49⟩ := h48
          refine ⟨v49, ?_⟩
          obtain ⟨v50, h50⟩ := h49
          refine ⟨v50, ?_⟩
          intro M23_51 eM23_51
          have h51 := h50 M23_51 eM23_51
          have F51 : Ks (fun k j => k = 17 ∨ (k = 1 ∧ (j = 31)) ∨ k = k1) M M23_51 := by rw [eM23_51]; exact (F15).wr (mw_163 _)
          exact hQ _ F51 h51
        · intro g52
          have h53 := h38 g52
          intro x24_54 g55 g56
          have h54 := h53 x24_54 g55 g56
          obtain ⟨v57, h57⟩ := h54
          refine ⟨v57, ?_⟩
          intro x26_58 g59 g60
          have h58 := h57 x26_58 g59 g60
          unfold qX12_mournerGoes_J145 at h58 ⊢
          obtain ⟨v61, h61⟩ := h58
          refine ⟨v61, ?_⟩
          obtain ⟨v62, h62⟩ := h61
          refine ⟨v62, ?_⟩
          obtain ⟨v63, h63⟩ := h62
          refine ⟨v63, ?_⟩
          intro M23_64 eM23_64
          have h64 := h63 M23_64 eM23_64
          have F64 : Ks (fun k j => k = 17 ∨ (k = 1 ∧ (j = 31)) ∨ k = k1) M M23_64 := by rw [eM23_64]; exact (F15).wr (mw_163 _)
          exact hQ _ F64 h64
    · intro g65
      have h66 := h21 g65
      obtain ⟨v67, h67⟩ := h66
      refine ⟨v67, ?_⟩
      obtain ⟨h68, h69⟩ := h67
      refine ⟨?_, ?_⟩
      · intro g70
        have h71 := h68 g70
        unfold qX12_mournerGoes_J75 at h71 ⊢
        obtain ⟨v72, h72⟩ := h71
        refine ⟨v72, ?_⟩
        obtain ⟨v73, h73⟩ := h72
        refine ⟨v73, ?_⟩
        obtain ⟨v74, h74⟩ := h73
        refine ⟨v74, ?_⟩
        intro M32_75 eM32_75
        have h75 := h74 M32_75 eM32_75
        have F75 : Ks (fun k j => k = 17 ∨ (k = 1 ∧ (j = 31)) ∨ k = k1) M M32_75 := by rw [eM32_75]; exact (F15).wr (mw_163 _)
        intro x33_76 g77 g78
        have h76 := h75 x33_76 g77 g78
        intro x34_79 g80 g81
        have h79 := h76 x34_79 g80 g81
        intro M35_82 eM35_82
        have h82 := h79 M35_82 eM35_82
        have F82 : Ks (fun k j => k = 17 ∨ (k = 1 ∧ (j = 31)) ∨ k = k1) M M35_82 := by rw [eM35_82]; exact (F75).wr (mw_164)
        obtain ⟨v83, h83⟩ := h82
        refine ⟨v83, ?_⟩
        obtain ⟨v84, h84⟩ := h83
        refine ⟨v84, ?_⟩
        intro x38_85 g86 g87
        have h85 := h84 x38_85 g86 g87
        intro x39_88 g89 g90
        have h88 := h85 x39_88 g89 g90
        intro M40_91 eM40_91
        have h91 := h88 M40_91 eM40_91
        have F91 : Ks (fun k j => k = 17 ∨ (k = 1 ∧ (j = 31)) ∨ k = k1) M M40_91 := by rw [eM40_91]; exact (F82).wr (mw_165 _)
        unfold qX12_mournerGoes_J105 at h91 ⊢
        obtain ⟨v92, h92⟩ := h91
        refine ⟨v92, ?_⟩
        obtain ⟨h93, h94⟩ := h92
        refine ⟨?_, ?_⟩
        · intro g95
          have h96 := h93 g95
          exact hQ _ F91 h96
        · intro g97
          have h98 := h94 g97
          obtain ⟨v99, h99⟩ := h98
          refine ⟨v99, ?_⟩
          obtain ⟨v100, h100⟩ := h99
          refine ⟨v100, ?_⟩
          intro x14_101 g102 g103
          have h101 := h100 x14_101 g102 g103
          obtain ⟨v104, h104⟩ := h101
          refine ⟨v104, ?_⟩
          obtain ⟨h105, h106⟩ := h104
          refine ⟨?_, ?_⟩
          · intro g107
            have h108 := h105 g107
            intro x17_109 g110 g111
            have h109 := h108 x17_109 g110 g111
            obtain ⟨v112, h112⟩ := h109
            refine ⟨v112, ?_⟩
            intro x19_113 g114 g115
            have h113 := h112 x19_113 g114 g115
            unfold qX12_mournerGoes_J145 at h113 ⊢
            obtain ⟨v116, h116⟩ := h113
            refine ⟨v116, ?_⟩
            obtain ⟨v117, h117⟩ := h116
            refine ⟨v117, ?_⟩
            obtain ⟨v118, h118⟩ := h117
            refine ⟨v118, ?_⟩
            intro M23_119 eM23_119
            have h119 := h118 M23_119 eM23_119
            have F119 : Ks (fun k j => k = 17 ∨ (k = 1 ∧ (j = 31)) ∨ k = k1) M M23_119 := by rw [eM23_119]; exact (F91).wr (mw_163 _)
            exact hQ _ F119 h119
          · intro g120
            have h121 := h106 g120
            intro x24_122 g123 g124
            have h122 := h121 x24_122 g123 g124
            obtain ⟨v125, h125⟩ := h122
            refine ⟨v125, ?_⟩
            intro x26_126 g127 g128
            have h126 := h125 x26_126 g127 g128
            unfold qX12_mournerGoes_J145 at h126 ⊢
            obtain ⟨v129, h129⟩ := h126
            refine ⟨v129, ?_⟩
            obtain ⟨v130, h130⟩ := h129
            refine ⟨v130, ?_⟩
            obtain ⟨v131, h131⟩ := h130
            refine ⟨v131, ?_⟩
            intro M23_132 eM23_132
            have h132 := h131 M23_132 eM23_132
            have F132 : Ks (fun k j => k = 17 ∨ (k = 1 ∧ (j = 31)) ∨ k = k1) M M23_132 := by rw [eM23_132]; exact (F91).wr (mw_163 _)
            exact hQ _ F132 h132
      · intro g133
        have h134 := h69 g133
        obtain ⟨v135, h135⟩ := h134
        refine ⟨v135, ?_⟩
        obtain ⟨v136, h136⟩ := h135
        refine ⟨v136, ?_⟩
        intro x43_137 g138 g139
        have h137 := h136 x43_137 g138 g139
        obtain ⟨v140, h140⟩ := h137
        refine ⟨v140, ?_⟩
        intro x45_141 g142 g143
        have h141 := h140 x45_141 g142 g143
        obtain ⟨v144, h144⟩ := h141
        refine ⟨v144, ?_⟩
        obtain ⟨v145, h145⟩ := h144
        refine ⟨v145, ?_⟩
        intro x48_146 g147 g148
        have h146 := h145 x48_146 g147 g148
        obtain ⟨v149, h149⟩ := h146
        refine ⟨v149, ?_⟩
        intro x50_150 g151 g152
        have h150 := h149 x50_150 g151 g152
        obtain ⟨v153, h153⟩ := h150
        refine ⟨v153, ?_⟩
        obtain ⟨v154, h154⟩ := h153
        refine ⟨v154, ?_⟩
        obtain ⟨h155, h156⟩ := h154
        refine ⟨?_, ?_⟩
        · intro g157
          have h158 := h155 g157
          unfold qX12_mournerGoes_J105 at h158 ⊢
          obtain ⟨v159, h159⟩ := h158
          refine ⟨v159, ?_⟩
          obtain ⟨h160, h161⟩ := h159
          refine ⟨?_, ?_⟩
          · intro g162
            have h163 := h160 g162
            exact hQ _ F15 h163
          · intro g164
            have h165 := h161 g164
            obtain ⟨v166, h166⟩ := h165
            refine ⟨v166, ?_⟩
            obtain ⟨v167, h167⟩ := h166
            refine ⟨v167, ?_⟩
            intro x14_168 g169 g170
            have h168 := h167 x14_168 g169 g170
            obtain ⟨v171, h171⟩ := h168
            refine ⟨v171, ?_⟩
            obtain ⟨h172, h173⟩ := h171
            refine ⟨?_, ?_⟩
            · intro g174
              have h175 := h172 g174
              intro x17_176 g177 g178
              have h176 := h175 x17_176 g177 g178
              obtain ⟨v179, h179⟩ := h176
              refine ⟨v179, ?_⟩
              intro x19_180 g181 g182
              have h180 := h179 x19_180 g181 g182
              unfold qX12_mournerGoes_J145 at h180 ⊢
              obtain ⟨v183, h183⟩ := h180
              refine ⟨v183, ?_⟩
              obtain ⟨v184, h184⟩ := h183
              refine ⟨v184, ?_⟩
              obtain ⟨v185, h185⟩ := h184
              refine ⟨v185, ?_⟩
              intro M23_186 eM23_186
              have h186 := h185 M23_186 eM23_186
              have F186 : Ks (fun k j => k = 17 ∨ (k = 1 ∧ (j = 31)) ∨ k = k1) M M23_186 := by rw [eM23_186]; exact (F15).wr (mw_163 _)
              exact hQ _ F186 h186
            · intro g187
              have h188 := h173 g187
              intro x24_189 g190 g191
              have h189 := h188 x24_189 g190 g191
              obtain ⟨v192, h192⟩ := h189
              refine ⟨v192, ?_⟩
              intro x26_193 g194 g195
              have h193 := h192 x26_193 g194 g195
              unfold qX12_mournerGoes_J145 at h193 ⊢
              obtain ⟨v196, h196⟩ := h193
              refine ⟨v196, ?_⟩
              obtain ⟨v197, h197⟩ := h196
              refine ⟨v197, ?_⟩
              obtain ⟨v198, h198⟩ := h197
              refine ⟨v198, ?_⟩
              intro M23_199 eM23_199
              have h199 := h198 M23_199 eM23_199
              have F199 : Ks (fun k j => k = 17 ∨ (k = 1 ∧ (j = 31)) ∨ k = k1) M M23_199 := by rw [eM23_199]; exact (F15).wr (mw_163 _)
              exact hQ _ F199 h199
        · intro g200
          have h201 := h156 g200
          unfold qX12_mournerGoes_J75 at h201 ⊢
          obtain ⟨v202, h202⟩ := h201
          refine ⟨v202, ?_⟩
          obtain ⟨v203, h203⟩ := h202
          refine ⟨v203, ?_⟩
          obtain ⟨v204, h204⟩ := h203
          refine ⟨v204, ?_⟩
          intro M32_205 eM32_205
          have h205 := h204 M32_205 eM32_205
          have F205 : Ks (fun k j => k = 17 ∨ (k = 1 ∧ (j = 31)) ∨ k = k1) M M32_205 := by rw [eM32_205]; exact (F15).wr (mw_163 _)
          intro x33_206 g207 g208
          have h206 := h205 x33_206 g207 g208
          intro x34_209 g210 g211
          have h209 := h206 x34_209 g210 g211
          intro M35_212 eM35_212
          have h212 := h209 M35_212 eM35_212
          have F212 : Ks (fun k j => k = 17 ∨ (k = 1 ∧ (j = 31)) ∨ k = k1) M M35_212 := by rw [eM35_212]; exact (F205).wr (mw_164)
          obtain ⟨v213, h213⟩ := h212
          refine ⟨v213, ?_⟩
          obtain ⟨v214, h214⟩ := h213
          refine ⟨v214, ?_⟩
          intro x38_215 g216 g217
          have h215 := h214 x38_215 g216 g217
          intro x39_218 g219 g220
          have h218 := h215 x39_218 g219 g220
          intro M40_221 eM40_221
          have h221 := h218 M40_221 eM40_221
          have F221 : Ks (fun k j => k = 17 ∨ (k = 1 ∧ (j = 31)) ∨ k = k1) M M40_221 := by rw [eM40_221]; exact (F212).wr (mw_165 _)
          unfold qX12_mournerGoes_J105 at h221 ⊢
          obtain ⟨v222, h222⟩ := h221
          refine ⟨v222, ?_⟩
          obtain ⟨h223, h224⟩ := h222
          refine ⟨?_, ?_⟩
          · intro g225
            have h226 := h223 g225
            exact hQ _ F221 h226
          · intro g227
            have h228 := h224 g227
            obtain ⟨v229, h229⟩ := h228
            refine ⟨v229, ?_⟩
            obtain ⟨v230, h230⟩ := h229
            refine ⟨v230, ?_⟩
            intro x14_231 g232 g233
            have h231 := h230 x14_231 g232 g233
            obtain ⟨v234, h234⟩ := h231
            refine ⟨v234, ?_⟩
            obtain ⟨h235, h236⟩ := h234
            refine ⟨?_, ?_⟩
            · intro g237
              have h238 := h235 g237
              intro x17_239 g240 g241
              have h239 := h238 x17_239 g240 g241
              obtain ⟨v242, h242⟩ := h239
              refine ⟨v242, ?_⟩
              intro x19_243 g244 g245
              have h243 := h242 x19_243 g244 g245
              unfold qX12_mournerGoes_J145 at h243 ⊢
              obtain ⟨v246, h246⟩ := h243
              refine ⟨v246, ?_⟩
              obtain ⟨v247, h247⟩ := h246
              refine ⟨v247, ?_⟩
              obtain ⟨v248, h248⟩ := h247
              refine ⟨v248, ?_⟩
              intro M23_249 eM23_249
              have h249 := h248 M23_249 eM23_249
              have F249 : Ks (fun k j => k = 17 ∨ (k = 1 ∧ (j = 31)) ∨ k = k1) M M23_249 := by rw [eM23_249]; exact (F221).wr (mw_163 _)
              exact hQ _ F249 h249
            · intro g250
              have h251 := h236 g250
              intro x24_252 g253 g254
              have h252 := h251 x24_252 g253 g254
              obtain ⟨v255, h255⟩ := h252
              refine ⟨v255, ?_⟩
              intro x26_256 g257 g258
              have h256 := h255 x26_256 g257 g258
              unfold qX12_mournerGoes_J145 at h256 ⊢
              obtain ⟨v259, h259⟩ := h256
              refine ⟨v259, ?_⟩
              obtain ⟨v260, h260⟩ := h259
              refine ⟨v260, ?_⟩
              obtain ⟨v261, h261⟩ := h260
              refine ⟨v261, ?_⟩
              intro M23_262 eM23_262
              have h262 := h261 M23_262 eM23_262
              have F262 : Ks (fun k j => k = 17 ∨ (k = 1 ∧ (j = 31)) ∨ k = k1) M M23_262 := by rw [eM23_262]; exact (F221).wr (mw_163 _)
              exact hQ _ F262 h262
  · intro g263
    have h264 := h7 g263
    refine fmX12_isOn h264 ?_
    intro x54_266 M54_267 f265 h265
    have F265 : Ks (fun k j => k = 17 ∨ (k = 1 ∧ (j = 31)) ∨ k = k1) M M54_267 := (Ks.rf).tr (f265.mono (fun _ _ h => False.elim h))
    intro g268 g269
    have h270 := h265 g268 g269
    obtain ⟨h271, h272⟩ := h270
    refine ⟨?_, ?_⟩
    · intro g273
      have h274 := h271 g273
      unfold qX12_mournerGoes_J27 at h274 ⊢
      obtain ⟨v275, h275⟩ := h274
      refine ⟨v275, ?_⟩
      obtain ⟨v276, h276⟩ := h275
      refine ⟨v276, ?_⟩
      intro x7_277 g278 g279
      have h277 := h276 x7_277 g278 g279
      refine fmX12_nearest h277 ?_
      intro x8_281 M8_282 f280 h280
      have F280 : Ks (fun k j => k = 17 ∨ (k = 1 ∧ (j = 31)) ∨ k = k1) M M8_282 := (F265).tr (f280.mono (fun _ _ h => False.elim h))
      intro g283
      have h284 := h280 g283
      obtain ⟨h285, h286⟩ := h284
      refine ⟨?_, ?_⟩
      · intro g287
        have h288 := h285 g287
        unfold qX12_mournerGoes_J105 at h288 ⊢
        obtain ⟨v289, h289⟩ := h288
        refine ⟨v289, ?_⟩
        obtain ⟨h290, h291⟩ := h289
        refine ⟨?_, ?_⟩
        · intro g292
          have h293 := h290 g292
          exact hQ _ F280 h293
        · intro g294
          have h295 := h291 g294
          obtain ⟨v296, h296⟩ := h295
          refine ⟨v296, ?_⟩
          obtain ⟨v297, h297⟩ := h296
          refine ⟨v297, ?_⟩
          intro x14_298 g299 g300
          have h298 := h297 x14_298 g299 g300
          obtain ⟨v301, h301⟩ := h298
          refine ⟨v301, ?_⟩
          obtain ⟨h302, h303⟩ := h301
          refine ⟨?_, ?_⟩
          · intro g304
            have h305 := h302 g304
            intro x17_306 g307 g308
            have h306 := h305 x17_306 g307 g308
            obtain ⟨v309, h309⟩ := h306
            refine ⟨v309, ?_⟩
            intro x19_310 g311 g312
            have h310 := h309 x19_310 g311 g312
            unfold qX12_mournerGoes_J145 at h310 ⊢
            obtain ⟨v313, h313⟩ := h310
            refine ⟨v313, ?_⟩
            obtain ⟨v314, h314⟩ := h313
            refine ⟨v314, ?_⟩
            obtain ⟨v315, h315⟩ := h314
            refine ⟨v315, ?_⟩
            intro M23_316 eM23_316
            have h316 := h315 M23_316 eM23_316
            have F316 : Ks (fun k j => k = 17 ∨ (k = 1 ∧ (j = 31)) ∨ k = k1) M M23_316 := by rw [eM23_316]; exact (F280).wr (mw_163 _)
            exact hQ _ F316 h316
          · intro g317
            have h318 := h303 g317
            intro x24_319 g320 g321
            have h319 := h318 x24_319 g320 g321
            obtain ⟨v322, h322⟩ := h319
            refine ⟨v322, ?_⟩
            intro x26_323 g324 g325
            have h323 := h322 x26_323 g324 g325
            unfold qX12_mournerGoes_J145 at h323 ⊢
            obtain ⟨v326, h326⟩ := h323
            refine ⟨v326, ?_⟩
            obtain ⟨v327, h327⟩ := h326
            refine ⟨v327, ?_⟩
            obtain ⟨v328, h328⟩ := h327
            refine ⟨v328, ?_⟩
            intro M23_329 eM23_329
            have h329 := h328 M23_329 eM23_329
            have F329 : Ks (fun k j => k = 17 ∨ (k = 1 ∧ (j = 31)) ∨ k = k1) M M23_329 := by rw [eM23_329]; exact (F280).wr (mw_163 _)
            exact hQ _ F329 h329
      · intro g330
        have h331 := h286 g330
        obtain ⟨v332, h332⟩ := h331
        refine ⟨v332, ?_⟩
        obtain ⟨h333, h334⟩ := h332
        refine ⟨?_, ?_⟩
        · intro g335
          have h336 := h333 g335
          unfold qX12_mournerGoes_J75 at h336 ⊢
          obtain ⟨v337, h337⟩ := h336
          refine ⟨v337, ?_⟩
          obtain ⟨v338, h338⟩ := h337
          refine ⟨v338, ?_⟩
          obtain ⟨v339, h339⟩ := h338
          refine ⟨v339, ?_⟩
          intro M32_340 eM32_340
          have h340 := h339 M32_340 eM32_340
          have F340 : Ks (fun k j => k = 17 ∨ (k = 1 ∧ (j = 31)) ∨ k = k1) M M32_340 := by rw [eM32_340]; exact (F280).wr (mw_163 _)
          intro x33_341 g342 g343
          have h341 := h340 x33_341 g342 g343
          intro x34_344 g345 g346
          have h344 := h341 x34_344 g345 g346
          intro M35_347 eM35_347
          have h347 := h344 M35_347 eM35_347
          have F347 : Ks (fun k j => k = 17 ∨ (k = 1 ∧ (j = 31)) ∨ k = k1) M M35_347 := by rw [eM35_347]; exact (F340).wr (mw_164)
          obtain ⟨v348, h348⟩ := h347
          refine ⟨v348, ?_⟩
          obtain ⟨v349, h349⟩ := h348
          refine ⟨v349, ?_⟩
          intro x38_350 g351 g352
          have h350 := h349 x38_350 g351 g352
          intro x39_353 g354 g355
          have h353 := h350 x39_353 g354 g355
          intro M40_356 eM40_356
          have h356 := h353 M40_356 eM40_356
          have F356 : Ks (fun k j => k = 17 ∨ (k = 1 ∧ (j = 31)) ∨ k = k1) M M40_356 := by rw [eM40_356]; exact (F347).wr (mw_165 _)
          unfold qX12_mournerGoes_J105 at h356 ⊢
          obtain ⟨v357, h357⟩ := h356
          refine ⟨v357, ?_⟩
          obtain ⟨h358, h359⟩ := h357
          refine ⟨?_, ?_⟩
          · intro g360
            have h361 := h358 g360
            exact hQ _ F356 h361
          · intro g362
            have h363 := h359 g362
            obtain ⟨v364, h364⟩ := h363
            refine ⟨v364, ?_⟩
            obtain ⟨v365, h365⟩ := h364
            refine ⟨v365, ?_⟩
            intro x14_366 g367 g368
            have h366 := h365 x14_366 g367 g368
            obtain ⟨v369, h369⟩ := h366
            refine ⟨v369, ?_⟩
            obtain ⟨h370, h371⟩ := h369
            refine ⟨?_, ?_⟩
            · intro g372
              have h373 := h370 g372
              intro x17_374 g375 g376
              have h374 := h373 x17_374 g375 g376
              obtain ⟨v377, h377⟩ := h374
              refine ⟨v377, ?_⟩
              intro x19_378 g379 g380
              have h378 := h377 x19_378 g379 g380
              unfold qX12_mournerGoes_J145 at h378 ⊢
              obtain ⟨v381, h381⟩ := h378
              refine ⟨v381, ?_⟩
              obtain ⟨v382, h382⟩ := h381
              refine ⟨v382, ?_⟩
              obtain ⟨v383, h383⟩ := h382
              refine ⟨v383, ?_⟩
              intro M23_384 eM23_384
              have h384 := h383 M23_384 eM23_384
              have F384 : Ks (fun k j => k = 17 ∨ (k = 1 ∧ (j = 31)) ∨ k = k1) M M23_384 := by rw [eM23_384]; exact (F356).wr (mw_163 _)
              exact hQ _ F384 h384
            · intro g385
              have h386 := h371 g385
              intro x24_387 g388 g389
              have h387 := h386 x24_387 g388 g389
              obtain ⟨v390, h390⟩ := h387
              refine ⟨v390, ?_⟩
              intro x26_391 g392 g393
              have h391 := h390 x26_391 g392 g393
              unfold qX12_mournerGoes_J145 at h391 ⊢
              obtain ⟨v394, h394⟩ := h391
              refine ⟨v394, ?_⟩
              obtain ⟨v395, h395⟩ := h394
              refine ⟨v395, ?_⟩
              obtain ⟨v396, h396⟩ := h395
              refine ⟨v396, ?_⟩
              intro M23_397 eM23_397
              have h397 := h396 M23_397 eM23_397
              have F397 : Ks (fun k j => k = 17 ∨ (k = 1 ∧ (j = 31)) ∨ k = k1) M M23_397 := by rw [eM23_397]; exact (F356).wr (mw_163 _)
              exact hQ _ F397 h397
        · intro g398
          have h399 := h334 g398
          obtain ⟨v400, h400⟩ := h399
          refine ⟨v400, ?_⟩
          obtain ⟨v401, h401⟩ := h400
          refine ⟨v401, ?_⟩
          intro x43_402 g403 g404
          have h402 := h401 x43_402 g403 g404
          obtain ⟨v405, h405⟩ := h402
          refine ⟨v405, ?_⟩
          intro x45_406 g407 g408
          have h406 := h405 x45_406 g407 g408
          obtain ⟨v409, h409⟩ := h406
          refine ⟨v409, ?_⟩
          obtain ⟨v410, h410⟩ := h409
          refine ⟨v410, ?_⟩
          intro x48_411 g412 g413
          have h411 := h410 x48_411 g412 g413
          obtain ⟨v414, h414⟩ := h411
          refine ⟨v414, ?_⟩
          intro x50_415 g416 g417
          have h415 := h414 x50_415 g416 g417
          obtain ⟨v418, h418⟩ := h415
          refine ⟨v418, ?_⟩
          obtain ⟨v419, h419⟩ := h418
          refine ⟨v419, ?_⟩
          obtain ⟨h420, h421⟩ := h419
          refine ⟨?_, ?_⟩
          · intro g422
            have h423 := h420 g422
            unfold qX12_mournerGoes_J105 at h423 ⊢
            obtain ⟨v424, h424⟩ := h423
            refine ⟨v424, ?_⟩
            obtain ⟨h425, h426⟩ := h424
            refine ⟨?_, ?_⟩
            · intro g427
              have h428 := h425 g427
              exact hQ _ F280 h428
            · intro g429
              have h430 := h426 g429
              obtain ⟨v431, h431⟩ := h430
              refine ⟨v431, ?_⟩
              obtain ⟨v432, h432⟩ := h431
              refine ⟨v432, ?_⟩
              intro x14_433 g434 g435
              have h433 := h432 x14_433 g434 g435
              obtain ⟨v436, h436⟩ := h433
              refine ⟨v436, ?_⟩
              obtain ⟨h437, h438⟩ := h436
              refine ⟨?_, ?_⟩
              · intro g439
                have h440 := h437 g439
                intro x17_441 g442 g443
                have h441 := h440 x17_441 g442 g443
                obtain ⟨v444, h444⟩ := h441
                refine ⟨v444, ?_⟩
                intro x19_445 g446 g447
                have h445 := h444 x19_445 g446 g447
                unfold qX12_mournerGoes_J145 at h445 ⊢
                obtain ⟨v448, h448⟩ := h445
                refine ⟨v448, ?_⟩
                obtain ⟨v449, h449⟩ := h448
                refine ⟨v449, ?_⟩
                obtain ⟨v450, h450⟩ := h449
                refine ⟨v450, ?_⟩
                intro M23_451 eM23_451
                have h451 := h450 M23_451 eM23_451
                have F451 : Ks (fun k j => k = 17 ∨ (k = 1 ∧ (j = 31)) ∨ k = k1) M M23_451 := by rw [eM23_451]; exact (F280).wr (mw_163 _)
                exact hQ _ F451 h451
              · intro g452
                have h453 := h438 g452
                intro x24_454 g455 g456
                have h454 := h453 x24_454 g455 g456
                obtain ⟨v457, h457⟩ := h454
                refine ⟨v457, ?_⟩
                intro x26_458 g459 g460
                have h458 := h457 x26_458 g459 g460
                unfold qX12_mournerGoes_J145 at h458 ⊢
                obtain ⟨v461, h461⟩ := h458
                refine ⟨v461, ?_⟩
                obtain ⟨v462, h462⟩ := h461
                refine ⟨v462, ?_⟩
                obtain ⟨v463, h463⟩ := h462
                refine ⟨v463, ?_⟩
                intro M23_464 eM23_464
                have h464 := h463 M23_464 eM23_464
                have F464 : Ks (fun k j => k = 17 ∨ (k = 1 ∧ (j = 31)) ∨ k = k1) M M23_464 := by rw [eM23_464]; exact (F280).wr (mw_163 _)
                exact hQ _ F464 h464
          · intro g465
            have h466 := h421 g465
            unfold qX12_mournerGoes_J75 at h466 ⊢
            obtain ⟨v467, h467⟩ := h466
            refine ⟨v467, ?_⟩
            obtain ⟨v468, h468⟩ := h467
            refine ⟨v468, ?_⟩
            obtain ⟨v469, h469⟩ := h468
            refine ⟨v469, ?_⟩
            intro M32_470 eM32_470
            have h470 := h469 M32_470 eM32_470
            have F470 : Ks (fun k j => k = 17 ∨ (k = 1 ∧ (j = 31)) ∨ k = k1) M M32_470 := by rw [eM32_470]; exact (F280).wr (mw_163 _)
            intro x33_471 g472 g473
            have h471 := h470 x33_471 g472 g473
            intro x34_474 g475 g476
            have h474 := h471 x34_474 g475 g476
            intro M35_477 eM35_477
            have h477 := h474 M35_477 eM35_477
            have F477 : Ks (fun k j => k = 17 ∨ (k = 1 ∧ (j = 31)) ∨ k = k1) M M35_477 := by rw [eM35_477]; exact (F470).wr (mw_164)
            obtain ⟨v478, h478⟩ := h477
            refine ⟨v478, ?_⟩
            obtain ⟨v479, h479⟩ := h478
            refine ⟨v479, ?_⟩
            intro x38_480 g481 g482
            have h480 := h479 x38_480 g481 g482
            intro x39_483 g484 g485
            have h483 := h480 x39_483 g484 g485
            intro M40_486 eM40_486
            have h486 := h483 M40_486 eM40_486
            have F486 : Ks (fun k j => k = 17 ∨ (k = 1 ∧ (j = 31)) ∨ k = k1) M M40_486 := by rw [eM40_486]; exact (F477).wr (mw_165 _)
            unfold qX12_mournerGoes_J105 at h486 ⊢
            obtain ⟨v487, h487⟩ := h486
            refine ⟨v487, ?_⟩
            obtain ⟨h488, h489⟩ := h487
            refine ⟨?_, ?_⟩
            · intro g490
              have h491 := h488 g490
              exact hQ _ F486 h491
            · intro g492
              have h493 := h489 g492
              obtain ⟨v494, h494⟩ := h493
              refine ⟨v494, ?_⟩
              obtain ⟨v495, h495⟩ := h494
              refine ⟨v495, ?_⟩
              intro x14_496 g497 g498
              have h496 := h495 x14_496 g497 g498
              obtain ⟨v499, h499⟩ := h496
              refine ⟨v499, ?_⟩
              obtain ⟨h500, h501⟩ := h499
              refine ⟨?_, ?_⟩
              · intro g502
                have h503 := h500 g502
                intro x17_504 g505 g506
                have h504 := h503 x17_504 g505 g506
                obtain ⟨v507, h507⟩ := h504
                refine ⟨v507, ?_⟩
                intro x19_508 g509 g510
                have h508 := h507 x19_508 g509 g510
                unfold qX12_mournerGoes_J145 at h508 ⊢
                obtain ⟨v511, h511⟩ := h508
                refine ⟨v511, ?_⟩
                obtain ⟨v512, h512⟩ := h511
                refine ⟨v512, ?_⟩
                obtain ⟨v513, h513⟩ := h512
                refine ⟨v513, ?_⟩
                intro M23_514 eM23_514
                have h514 := h513 M23_514 eM23_514
                have F514 : Ks (fun k j => k = 17 ∨ (k = 1 ∧ (j = 31)) ∨ k = k1) M M23_514 := by rw [eM23_514]; exact (F486).wr (mw_163 _)
                exact hQ _ F514 h514
              · intro g515
                have h516 := h501 g515
                intro x24_517 g518 g519
                have h517 := h516 x24_517 g518 g519
                obtain ⟨v520, h520⟩ := h517
                refine ⟨v520, ?_⟩
                intro x26_521 g522 g523
                have h521 := h520 x26_521 g522 g523
                unfold qX12_mournerGoes_J145 at h521 ⊢
                obtain ⟨v524, h524⟩ := h521
                refine ⟨v524, ?_⟩
                obtain ⟨v525, h525⟩ := h524
                refine ⟨v525, ?_⟩
                obtain ⟨v526, h526⟩ := h525
                refine ⟨v526, ?_⟩
                intro M23_527 eM23_527
                have h527 := h526 M23_527 eM23_527
                have F527 : Ks (fun k j => k = 17 ∨ (k = 1 ∧ (j = 31)) ∨ k = k1) M M23_527 := by rw [eM23_527]; exact (F486).wr (mw_163 _)
                exact hQ _ F527 h527
    · intro g528
      have h529 := h272 g528
      obtain ⟨v530, h530⟩ := h529
      refine ⟨v530, ?_⟩
      obtain ⟨v531, h531⟩ := h530
      refine ⟨v531, ?_⟩
      intro M58_532 eM58_532
      have h532 := h531 M58_532 eM58_532
      have F532 : Ks (fun k j => k = 17 ∨ (k = 1 ∧ (j = 31)) ∨ k = k1) M M58_532 := by rw [eM58_532]; exact (F265).wr (mw_163 _)
      exact hQ _ F532 h532
theorem fmX12_stepGoes_L7 {k1 : Nat} {X32 X32' : Mem → Prop} {Q Q' : Mem → Prop} {M0 : Mem} (hQ : ∀ (M' : Mem), Ks (fun k j => (13 ≤ k ∧ k ≤ 14) ∨ (16 ≤ k ∧ k ≤ 18) ∨ (k = 1 ∧ (j = 30 ∨ j = 31 ∨ j = 35)) ∨ k = k1) M0 M' → Q M' → Q' M') (hX32 : ∀ (M' : Mem), Ks (fun k j => (13 ≤ k ∧ k ≤ 14) ∨ (16 ≤ k ∧ k ≤ 18) ∨ (k = 1 ∧ (j = 30 ∨ j = 31 ∨ j = 35)) ∨ k = k1) M0 M' → X32 M' → X32' M') : ∀ (n : Nat) (v2 : Int) (M : Mem), Ks (fun k j => (13 ≤ k ∧ k ≤ 14) ∨ (16 ≤ k ∧ k ≤ 18) ∨ (k = 1 ∧ (j = 30 ∨ j = 31 ∨ j = 35)) ∨ k = k1) M0 M → qX12_stepGoes_L7 k1 X32 Q n v2 M → qX12_stepGoes_L7 k1 X32' Q' n v2 M := by
  intro n
  induction n with
  | zero => intro v2 M _ h; exact h.elim
  | succ n ih =>
    intro v2 M hF h
    rw [qX12_stepGoes_L7] at h
    rw [qX12_stepGoes_L7]
    intro x2_1 g2 g3
    have h1 := h x2_1 g2 g3
    obtain ⟨v4, h4⟩ := h1
    refine ⟨v4, ?_⟩
    obtain ⟨h5, h6⟩ := h4
    refine ⟨?_, ?_⟩
    · intro g7
      have h8 := h5 g7
      exact hX32 _ hF h8
    · intro g9
      have h10 := h6 g9
      obtain ⟨v11, h11⟩ := h10
      refine ⟨v11, ?_⟩
      obtain ⟨v12, h12⟩ := h11
      refine ⟨v12, ?_⟩
      intro x7_13 g14 g15
      have h13 := h12 x7_13 g14 g15
      refine fmX12_hearseGoes h13 ?_
      intro M8_17 f16 h16
      have F16 : Ks (fun k j => (13 ≤ k ∧ k ≤ 14) ∨ (16 ≤ k ∧ k ≤ 18) ∨ (k = 1 ∧ (j = 30 ∨ j = 31 ∨ j = 35)) ∨ k = k1) M0 M8_17 := (hF).tr (f16.mono (mo_154))
      exact ih _ _ F16 h16
theorem fmX12_stepGoes_L34 {k1 : Nat} {X62 X62' : Mem → Prop} {Q Q' : Mem → Prop} {M0 : Mem} (hQ : ∀ (M' : Mem), Ks (fun k j => (13 ≤ k ∧ k ≤ 14) ∨ (16 ≤ k ∧ k ≤ 18) ∨ (k = 1 ∧ (j = 30 ∨ j = 31 ∨ j = 35)) ∨ k = k1) M0 M' → Q M' → Q' M') (hX62 : ∀ (M' : Mem), Ks (fun k j => (13 ≤ k ∧ k ≤ 14) ∨ (16 ≤ k ∧ k ≤ 18) ∨ (k = 1 ∧ (j = 30 ∨ j = 31 ∨ j = 35)) ∨ k = k1) M0 M' → X62 M' → X62' M') : ∀ (n : Nat) (v2 : Int) (M : Mem), Ks (fun k j => (13 ≤ k ∧ k ≤ 14) ∨ (16 ≤ k ∧ k ≤ 18) ∨ (k = 1 ∧ (j = 30 ∨ j = 31 ∨ j = 35)) ∨ k = k1) M0 M → qX12_stepGoes_L34 k1 X62 Q n v2 M → qX12_stepGoes_L34 k1 X62' Q' n v2 M := by
  intro n
  induction n with
  | zero => intro v2 M _ h; exact h.elim
  | succ n ih =>
    intro v2 M hF h
    rw [qX12_stepGoes_L34] at h
    rw [qX12_stepGoes_L34]
    intro x10_1 g2 g3
    have h1 := h x10_1 g2 g3
    obtain ⟨v4, h4⟩ := h1
    refine ⟨v4, ?_⟩
    obtain ⟨h5, h6⟩ := h4
    refine ⟨?_, ?_⟩
    · intro g7
      have h8 := h5 g7
      exact hX62 _ hF h8
    · intro g9
      have h10 := h6 g9
      refine fmX12_isEnded h10 ?_
      intro x13_12 M13_13 f11 h11
      have F11 : Ks (fun k j => (13 ≤ k ∧ k ≤ 14) ∨ (16 ≤ k ∧ k ≤ 18) ∨ (k = 1 ∧ (j = 30 ∨ j = 31 ∨ j = 35)) ∨ k = k1) M0 M13_13 := (hF).tr (f11.mono (fun _ _ h => False.elim h))
      intro g14 g15
      have h16 := h11 g14 g15
      obtain ⟨h17, h18⟩ := h16
      refine ⟨?_, ?_⟩
      · intro g19
        have h20 := h17 g19
        exact ih _ _ F11 h20
      · intro g21
        have h22 := h18 g21
        refine fmX12_mournerGoes h22 ?_
        intro M15_24 f23 h23
        have F23 : Ks (fun k j => (13 ≤ k ∧ k ≤ 14) ∨ (16 ≤ k ∧ k ≤ 18) ∨ (k = 1 ∧ (j = 30 ∨ j = 31 ∨ j = 35)) ∨ k = k1) M0 M15_24 := (F11).tr (f23.mono (mo_155))
        exact ih _ _ F23 h23
theorem fmX12_stepGoes {k1 : Nat} {M : Mem} {Q Q' : Mem → Prop} (h : qX12_stepGoes k1 M Q) (hQ : ∀ (M' : Mem), Ks (fun k j => (13 ≤ k ∧ k ≤ 14) ∨ (16 ≤ k ∧ k ≤ 18) ∨ (k = 1 ∧ (j = 30 ∨ j = 31 ∨ j = 35)) ∨ k = k1) M M' → Q M' → Q' M') : qX12_stepGoes k1 M Q' := by
  unfold qX12_stepGoes at h ⊢
  refine fmX12_laysLine h ?_
  intro M1_2 f1 h1
  have F1 : Ks (fun k j => (13 ≤ k ∧ k ≤ 14) ∨ (16 ≤ k ∧ k ≤ 18) ∨ (k = 1 ∧ (j = 30 ∨ j = 31 ∨ j = 35)) ∨ k = k1) M M1_2 := (Ks.rf).tr (f1.mono (mo_156))
  obtain ⟨n3, h3⟩ := h1
  refine ⟨n3, ?_⟩
  refine fmX12_stepGoes_L7 hQ ?_ _ _ _ F1 h3
  · intro M_5 F4 h4
    obtain ⟨n6, h6⟩ := h4
    refine ⟨n6, ?_⟩
    refine fmX12_stepGoes_L34 hQ ?_ _ _ _ F4 h6
    · intro M_8 F7 h7
      intro x17_9 g10 g11
      have h9 := h7 x17_9 g10 g11
      obtain ⟨v12, h12⟩ := h9
      refine ⟨v12, ?_⟩
      intro M19_13 eM19_13
      have h13 := h12 M19_13 eM19_13
      have F13 : Ks (fun k j => (13 ≤ k ∧ k ≤ 14) ∨ (16 ≤ k ∧ k ≤ 18) ∨ (k = 1 ∧ (j = 30 ∨ j = 31 ∨ j = 35)) ∨ k = k1) M M19_13 := by rw [eM19_13]; exact (F7).wr (mw_166)
      exact hQ _ F13 h13
theorem fmX12_goesOn_L12 {k1 : Nat} {p2 : Int} {X31 X31' : Mem → Prop} {Q Q' : Mem → Prop} {M0 : Mem} (hQ : ∀ (M' : Mem), Ks (fun k j => (13 ≤ k ∧ k ≤ 14) ∨ (16 ≤ k ∧ k ≤ 18) ∨ (k = 1 ∧ (j = 30 ∨ j = 31 ∨ j = 35)) ∨ k = k1) M0 M' → Q M' → Q' M') (hX31 : ∀ (M' : Mem), Ks (fun k j => (13 ≤ k ∧ k ≤ 14) ∨ (16 ≤ k ∧ k ≤ 18) ∨ (k = 1 ∧ (j = 30 ∨ j = 31 ∨ j = 35)) ∨ k = k1) M0 M' → X31 M' → X31' M') : ∀ (n : Nat) (v3 : Int) (M : Mem), Ks (fun k j => (13 ≤ k ∧ k ≤ 14) ∨ (16 ≤ k ∧ k ≤ 18) ∨ (k = 1 ∧ (j = 30 ∨ j = 31 ∨ j = 35)) ∨ k = k1) M0 M → qX12_goesOn_L12 k1 p2 X31 Q n v3 M → qX12_goesOn_L12 k1 p2 X31' Q' n v3 M := by
  intro n
  induction n with
  | zero => intro v3 M _ h; exact h.elim
  | succ n ih =>
    intro v3 M hF h
    rw [qX12_goesOn_L12] at h
    rw [qX12_goesOn_L12]
    obtain ⟨v1, h1⟩ := h
    refine ⟨v1, ?_⟩
    obtain ⟨h2, h3⟩ := h1
    refine ⟨?_, ?_⟩
    · intro g4
      have h5 := h2 g4
      exact hX31 _ hF h5
    · intro g6
      have h7 := h3 g6
      obtain ⟨v8, h8⟩ := h7
      refine ⟨v8, ?_⟩
      obtain ⟨v9, h9⟩ := h8
      refine ⟨v9, ?_⟩
      intro M7_10 eM7_10
      have h10 := h9 M7_10 eM7_10
      have F10 : Ks (fun k j => (13 ≤ k ∧ k ≤ 14) ∨ (16 ≤ k ∧ k ≤ 18) ∨ (k = 1 ∧ (j = 30 ∨ j = 31 ∨ j = 35)) ∨ k = k1) M0 M7_10 := by rw [eM7_10]; exact (hF).wr (mw_167 _)
      exact ih _ _ F10 h10
theorem fmX12_goesOn_L33 {k1 : Nat} {p2 : Int} {X52 X52' : Mem → Prop} {Q Q' : Mem → Prop} {M0 : Mem} (hQ : ∀ (M' : Mem), Ks (fun k j => (13 ≤ k ∧ k ≤ 14) ∨ (16 ≤ k ∧ k ≤ 18) ∨ (k = 1 ∧ (j = 30 ∨ j = 31 ∨ j = 35)) ∨ k = k1) M0 M' → Q M' → Q' M') (hX52 : ∀ (M' : Mem), Ks (fun k j => (13 ≤ k ∧ k ≤ 14) ∨ (16 ≤ k ∧ k ≤ 18) ∨ (k = 1 ∧ (j = 30 ∨ j = 31 ∨ j = 35)) ∨ k = k1) M0 M' → X52 M' → X52' M') : ∀ (n : Nat) (v3 : Int) (M : Mem), Ks (fun k j => (13 ≤ k ∧ k ≤ 14) ∨ (16 ≤ k ∧ k ≤ 18) ∨ (k = 1 ∧ (j = 30 ∨ j = 31 ∨ j = 35)) ∨ k = k1) M0 M → qX12_goesOn_L33 k1 p2 X52 Q n v3 M → qX12_goesOn_L33 k1 p2 X52' Q' n v3 M := by
  intro n
  induction n with
  | zero => intro v3 M _ h; exact h.elim
  | succ n ih =>
    intro v3 M hF h
    rw [qX12_goesOn_L33] at h
    rw [qX12_goesOn_L33]
    obtain ⟨v1, h1⟩ := h
    refine ⟨v1, ?_⟩
    obtain ⟨h2, h3⟩ := h1
    refine ⟨?_, ?_⟩
    · intro g4
      have h5 := h2 g4
      exact hX52 _ hF h5
    · intro g6
      have h7 := h3 g6
      obtain ⟨v8, h8⟩ := h7
      refine ⟨v8, ?_⟩
      obtain ⟨v9, h9⟩ := h8
      refine ⟨v9, ?_⟩
      intro M13_10 eM13_10
      have h10 := h9 M13_10 eM13_10
      have F10 : Ks (fun k j => (13 ≤ k ∧ k ≤ 14) ∨ (16 ≤ k ∧ k ≤ 18) ∨ (k = 1 ∧ (j = 30 ∨ j = 31 ∨ j = 35)) ∨ k = k1) M0 M13_10 := by rw [eM13_10]; exact (hF).wr (mw_168 _)
      exact ih _ _ F10 h10
theorem fmX12_goesOn_L54 {k1 : Nat} {p2 : Int} {Q Q' : Mem → Prop} {M0 : Mem} (hQ : ∀ (M' : Mem), Ks (fun k j => (13 ≤ k ∧ k ≤ 14) ∨ (16 ≤ k ∧ k ≤ 18) ∨ (k = 1 ∧ (j = 30 ∨ j = 31 ∨ j = 35)) ∨ k = k1) M0 M' → Q M' → Q' M') : ∀ (n : Nat) (v3 : Int) (M : Mem), Ks (fun k j => (13 ≤ k ∧ k ≤ 14) ∨ (16 ≤ k ∧ k ≤ 18) ∨ (k = 1 ∧ (j = 30 ∨ j = 31 ∨ j = 35)) ∨ k = k1) M0 M → qX12_goesOn_L54 k1 p2 Q n v3 M → qX12_goesOn_L54 k1 p2 Q' n v3 M := by
  intro n
  induction n with
  | zero => intro v3 M _ h; exact h.elim
  | succ n ih =>
    intro v3 M hF h
    rw [qX12_goesOn_L54] at h
    rw [qX12_goesOn_L54]
    obtain ⟨v1, h1⟩ := h
    refine ⟨v1, ?_⟩
    obtain ⟨h2, h3⟩ := h1
    refine ⟨?_, ?_⟩
    · intro g4
      have h5 := h2 g4
      exact hQ _ hF h5
    · intro g6
      have h7 := h3 g6
      refine fmX12_stepGoes h7 ?_
      intro M17_9 f8 h8
      have F8 : Ks (fun k j => (13 ≤ k ∧ k ≤ 14) ∨ (16 ≤ k ∧ k ≤ 18) ∨ (k = 1 ∧ (j = 30 ∨ j = 31 ∨ j = 35)) ∨ k = k1) M0 M17_9 := (hF).tr (f8.mono (fun _ _ h => h))
      exact ih _ _ F8 h8
theorem fmX12_goesOn {k1 : Nat} {p2 : Int} {M : Mem} {Q Q' : Mem → Prop} (h : qX12_goesOn k1 p2 M Q) (hQ : ∀ (M' : Mem), Ks (fun k j => (13 ≤ k ∧ k ≤ 14) ∨ (16 ≤ k ∧ k ≤ 18) ∨ (k = 1 ∧ (j = 30 ∨ j = 31 ∨ j = 35)) ∨ k = k1) M M' → Q M' → Q' M') : qX12_goesOn k1 p2 M Q' := by
  unfold qX12_goesOn at h ⊢
  intro M1_1 eM1_1
  have h1 := h M1_1 eM1_1
  have F1 : Ks (fun k j => (13 ≤ k ∧ k ≤ 14) ∨ (16 ≤ k ∧ k ≤ 18) ∨ (k = 1 ∧ (j = 30 ∨ j = 31 ∨ j = 35)) ∨ k = k1) M M1_1 := by rw [eM1_1]; exact (Ks.rf).wr (mw_169)
  intro M2_2 eM2_2
  have h2 := h1 M2_2 eM2_2
  have F2 : Ks (fun k j => (13 ≤ k ∧ k ≤ 14) ∨ (16 ≤ k ∧ k ≤ 18) ∨ (k = 1 ∧ (j = 30 ∨ j = 31 ∨ j = 35)) ∨ k = k1) M M2_2 := by rw [eM2_2]; exact (F1).wr (mw_170)
  obtain ⟨n3, h3⟩ := h2
  refine ⟨n3, ?_⟩
  refine fmX12_goesOn_L12 hQ ?_ _ _ _ F2 h3
  · intro M_5 F4 h4
    obtain ⟨n6, h6⟩ := h4
    refine ⟨n6, ?_⟩
    refine fmX12_goesOn_L33 hQ ?_ _ _ _ F4 h6
    · intro M_8 F7 h7
      obtain ⟨n9, h9⟩ := h7
      refine ⟨n9, ?_⟩
      refine fmX12_goesOn_L54 hQ _ _ _ F7 h9
theorem fmX12_putsBy_L2  {Q Q' : Mem → Prop} {M0 : Mem} (hQ : ∀ (M' : Mem), Ks (fun k j => k = 15) M0 M' → Q M' → Q' M') : ∀ (n : Nat) (v1 : Int) (M : Mem), Ks (fun k j => k = 15) M0 M → qX12_putsBy_L2 Q n v1 M → qX12_putsBy_L2 Q' n v1 M := by
  intro n
  induction n with
  | zero => intro v1 M _ h; exact h.elim
  | succ n ih =>
    intro v1 M hF h
    rw [qX12_putsBy_L2] at h
    rw [qX12_putsBy_L2]
    obtain ⟨v1, h1⟩ := h
    refine ⟨v1, ?_⟩
    obtain ⟨h2, h3⟩ := h1
    refine ⟨?_, ?_⟩
    · intro g4
      have h5 := h2 g4
      exact hQ _ hF h5
    · intro g6
      have h7 := h3 g6
      intro x3_8 g9 g10
      have h8 := h7 x3_8 g9 g10
      obtain ⟨v11, h11⟩ := h8
      refine ⟨v11, ?_⟩
      obtain ⟨v12, h12⟩ := h11
      refine ⟨v12, ?_⟩
      intro x6_13 g14 g15
      have h13 := h12 x6_13 g14 g15
      obtain ⟨v16, h16⟩ := h13
      refine ⟨v16, ?_⟩
      obtain ⟨v17, h17⟩ := h16
      refine ⟨v17, ?_⟩
      intro M9_18 eM9_18
      have h18 := h17 M9_18 eM9_18
      have F18 : Ks (fun k j => k = 15) M0 M9_18 := by rw [eM9_18]; exact (hF).wr (mw_171)
      exact ih _ _ F18 h18
theorem fmX12_putsBy  {M : Mem} {Q Q' : Mem → Prop} (h : qX12_putsBy M Q) (hQ : ∀ (M' : Mem), Ks (fun k j => k = 15) M M' → Q M' → Q' M') : qX12_putsBy M Q' := by
  unfold qX12_putsBy at h ⊢
  obtain ⟨n1, h1⟩ := h
  refine ⟨n1, ?_⟩
  refine fmX12_putsBy_L2 hQ _ _ _ Ks.rf h1
theorem fmX12_steps {p1 : Int} {M : Mem} {Q Q' : Int → Mem → Prop} (h : qX12_steps p1 M Q) (hQ : ∀ (w0 : Int) (M' : Mem), Ks (fun k j => k = 0 ∨ k = 5 ∨ (13 ≤ k ∧ k ≤ 18) ∨ (k = 1 ∧ (j = 0 ∨ j = 1 ∨ j = 28 ∨ j = 30 ∨ j = 31 ∨ j = 35))) M M' → Q w0 M' → Q' w0 M') : qX12_steps p1 M Q' := by
  unfold qX12_steps at h ⊢
  intro M1_1 eM1_1
  have h1 := h M1_1 eM1_1
  have F1 : Ks (fun k j => k = 0 ∨ k = 5 ∨ (13 ≤ k ∧ k ≤ 18) ∨ (k = 1 ∧ (j = 0 ∨ j = 1 ∨ j = 28 ∨ j = 30 ∨ j = 31 ∨ j = 35))) M M1_1 := by rw [eM1_1]; exact (Ks.rf).wr (mw_172)
  refine fmX12_in h1 ?_
  intro x2_3 M2_4 f2 h2
  have F2 : Ks (fun k j => k = 0 ∨ k = 5 ∨ (13 ≤ k ∧ k ≤ 18) ∨ (k = 1 ∧ (j = 0 ∨ j = 1 ∨ j = 28 ∨ j = 30 ∨ j = 31 ∨ j = 35))) M M2_4 := (F1).tr (f2.mono (fun _ _ h => False.elim h))
  intro g5 g6
  have h7 := h2 g5 g6
  obtain ⟨h8, h9⟩ := h7
  refine ⟨?_, ?_⟩
  · intro g10
    have h11 := h8 g10
    refine fmX12_putsBy h11 ?_
    intro M4_13 f12 h12
    have F12 : Ks (fun k j => k = 0 ∨ k = 5 ∨ (13 ≤ k ∧ k ≤ 18) ∨ (k = 1 ∧ (j = 0 ∨ j = 1 ∨ j = 28 ∨ j = 30 ∨ j = 31 ∨ j = 35))) M M4_13 := (F2).tr (f12.mono (mo_157))
    refine fmX12_goesOn h12 ?_
    intro M5_15 f14 h14
    have F14 : Ks (fun k j => k = 0 ∨ k = 5 ∨ (13 ≤ k ∧ k ≤ 18) ∨ (k = 1 ∧ (j = 0 ∨ j = 1 ∨ j = 28 ∨ j = 30 ∨ j = 31 ∨ j = 35))) M M5_15 := (F12).tr (f14.mono (mo_158))
    intro M6_16 eM6_16
    have h16 := h14 M6_16 eM6_16
    have F16 : Ks (fun k j => k = 0 ∨ k = 5 ∨ (13 ≤ k ∧ k ≤ 18) ∨ (k = 1 ∧ (j = 0 ∨ j = 1 ∨ j = 28 ∨ j = 30 ∨ j = 31 ∨ j = 35))) M M6_16 := by rw [eM6_16]; exact (F14).wr (mw_173)
    intro x7_17 g18 g19
    have h17 := h16 x7_17 g18 g19
    refine fmX12_enters h17 ?_
    intro M8_21 f20 h20
    have F20 : Ks (fun k j => k = 0 ∨ k = 5 ∨ (13 ≤ k ∧ k ≤ 18) ∨ (k = 1 ∧ (j = 0 ∨ j = 1 ∨ j = 28 ∨ j = 30 ∨ j = 31 ∨ j = 35))) M M8_21 := (F16).tr (f20.mono (mo_159))
    intro x9_22 g23 g24
    have h22 := h20 x9_22 g23 g24
    refine fmX12_enters h22 ?_
    intro M10_26 f25 h25
    have F25 : Ks (fun k j => k = 0 ∨ k = 5 ∨ (13 ≤ k ∧ k ≤ 18) ∨ (k = 1 ∧ (j = 0 ∨ j = 1 ∨ j = 28 ∨ j = 30 ∨ j = 31 ∨ j = 35))) M M10_26 := (F20).tr (f25.mono (mo_159))
    intro x11_27 g28 g29
    have h27 := h25 x11_27 g28 g29
    refine fmX12_adds h27 ?_
    intro x12_31 M12_32 f30 h30
    have F30 : Ks (fun k j => k = 0 ∨ k = 5 ∨ (13 ≤ k ∧ k ≤ 18) ∨ (k = 1 ∧ (j = 0 ∨ j = 1 ∨ j = 28 ∨ j = 30 ∨ j = 31 ∨ j = 35))) M M12_32 := (F25).tr (f30.mono (mo_160))
    intro g33
    have h34 := h30 g33
    exact hQ _ _ F30 h34
  · intro g35
    have h36 := h9 g35
    exact hQ _ _ F2 h36
theorem fmX12_counted {p1 : Int} {M : Mem} {Q Q' : Int → Mem → Prop} (h : qX12_counted p1 M Q) (hQ : ∀ (w0 : Int) (M' : Mem), Ks (fun k j => k = 15 ∨ (k = 1 ∧ (j = 28))) M M' → Q w0 M' → Q' w0 M') : qX12_counted p1 M Q' := by
  unfold qX12_counted at h ⊢
  obtain ⟨h1, h2⟩ := h
  refine ⟨?_, ?_⟩
  · intro g3
    have h4 := h1 g3
    unfold qX12_counted_J14 at h4 ⊢
    refine fmX12_adds h4 ?_
    intro x2_6 M2_7 f5 h5
    have F5 : Ks (fun k j => k = 15 ∨ (k = 1 ∧ (j = 28))) M M2_7 := (Ks.rf).tr (f5.mono (fun _ _ h => h))
    intro g8
    have h9 := h5 g8
    exact hQ _ _ F5 h9
  · intro g10
    have h11 := h2 g10
    obtain ⟨h12, h13⟩ := h11
    refine ⟨?_, ?_⟩
    · intro g14
      have h15 := h12 g14
      unfold qX12_counted_J14 at h15 ⊢
      refine fmX12_adds h15 ?_
      intro x2_17 M2_18 f16 h16
      have F16 : Ks (fun k j => k = 15 ∨ (k = 1 ∧ (j = 28))) M M2_18 := (Ks.rf).tr (f16.mono (fun _ _ h => h))
      intro g19
      have h20 := h16 g19
      exact hQ _ _ F16 h20
    · intro g21
      have h22 := h13 g21
      exact hQ _ _ Ks.rf h22
theorem fmX12_turnsOne {k1 : Nat} {p2 : Int} {M : Mem} {Q Q' : Int → Mem → Prop} (h : qX12_turnsOne k1 p2 M Q) (hQ : ∀ (w0 : Int) (M' : Mem), Ks (fun k j => k = k1) M M' → Q w0 M' → Q' w0 M') : qX12_turnsOne k1 p2 M Q' := by
  unfold qX12_turnsOne at h ⊢
  refine fmX12_isMourner h ?_
  intro x1_2 M1_3 f1 h1
  have F1 : Ks (fun k j => k = k1) M M1_3 := (Ks.rf).tr (f1.mono (fun _ _ h => False.elim h))
  intro g4 g5
  have h6 := h1 g4 g5
  obtain ⟨h7, h8⟩ := h6
  refine ⟨?_, ?_⟩
  · intro g9
    have h10 := h7 g9
    refine fmX12_isEnded h10 ?_
    intro x3_12 M3_13 f11 h11
    have F11 : Ks (fun k j => k = k1) M M3_13 := (F1).tr (f11.mono (fun _ _ h => False.elim h))
    intro g14 g15
    have h16 := h11 g14 g15
    obtain ⟨h17, h18⟩ := h16
    refine ⟨?_, ?_⟩
    · intro g19
      have h20 := h17 g19
      obtain ⟨v21, h21⟩ := h20
      refine ⟨v21, ?_⟩
      obtain ⟨v22, h22⟩ := h21
      refine ⟨v22, ?_⟩
      intro x7_23 g24 g25
      have h23 := h22 x7_23 g24 g25
      obtain ⟨v26, h26⟩ := h23
      refine ⟨v26, ?_⟩
      obtain ⟨v27, h27⟩ := h26
      refine ⟨v27, ?_⟩
      intro x10_28 g29 g30
      have h28 := h27 x10_28 g29 g30
      refine fmX12_isOn h28 ?_
      intro x11_32 M11_33 f31 h31
      have F31 : Ks (fun k j => k = k1) M M11_33 := (F11).tr (f31.mono (fun _ _ h => False.elim h))
      intro g34 g35
      have h36 := h31 g34 g35
      obtain ⟨h37, h38⟩ := h36
      refine ⟨?_, ?_⟩
      · intro g39
        have h40 := h37 g39
        exact hQ _ _ F31 h40
      · intro g41
        have h42 := h38 g41
        intro x13_43 g44 g45
        have h43 := h42 x13_43 g44 g45
        obtain ⟨h46, h47⟩ := h43
        refine ⟨?_, ?_⟩
        · intro g48
          have h49 := h46 g48
          intro x15_50 g51 g52
          have h50 := h49 x15_50 g51 g52
          intro M16_53 eM16_53
          have h53 := h50 M16_53 eM16_53
          have F53 : Ks (fun k j => k = k1) M M16_53 := by rw [eM16_53]; exact (F31).wr (mw_174)
          obtain ⟨h54, h55⟩ := h53
          refine ⟨?_, ?_⟩
          · intro g56
            have h57 := h54 g56
            exact hQ _ _ F53 h57
          · intro g58
            have h59 := h55 g58
            exact hQ _ _ F53 h59
        · intro g60
          have h61 := h47 g60
          exact hQ _ _ F31 h61
    · intro g62
      have h63 := h18 g62
      exact hQ _ _ F11 h63
  · intro g64
    have h65 := h8 g64
    exact hQ _ _ F1 h65
theorem fmX12_turnsTo {p1 : Int} {M : Mem} {Q Q' : Int → Mem → Prop} (h : qX12_turnsTo p1 M Q) (hQ : ∀ (w0 : Int) (M' : Mem), Ks (fun k j => k = 5 ∨ k = 15 ∨ (k = 1 ∧ (j = 0 ∨ j = 28))) M M' → Q w0 M' → Q' w0 M') : qX12_turnsTo p1 M Q' := by
  unfold qX12_turnsTo at h ⊢
  intro M1_1 eM1_1
  have h1 := h M1_1 eM1_1
  have F1 : Ks (fun k j => k = 5 ∨ k = 15 ∨ (k = 1 ∧ (j = 0 ∨ j = 28))) M M1_1 := by rw [eM1_1]; exact (Ks.rf).wr (mw_175)
  refine fmX12_putsBy h1 ?_
  intro M2_3 f2 h2
  have F2 : Ks (fun k j => k = 5 ∨ k = 15 ∨ (k = 1 ∧ (j = 0 ∨ j = 28))) M M2_3 := (F1).tr (f2.mono (mo_161))
  refine fmX12_turnsOne h2 ?_
  intro x3_5 M3_6 f4 h4
  have F4 : Ks (fun k j => k = 5 ∨ k = 15 ∨ (k = 1 ∧ (j = 0 ∨ j = 28))) M M3_6 := (F2).tr (f4.mono (mo_162))
  intro g7
  have h8 := h4 g7
  refine fmX12_counted h8 ?_
  intro x4_10 M4_11 f9 h9
  have F9 : Ks (fun k j => k = 5 ∨ k = 15 ∨ (k = 1 ∧ (j = 0 ∨ j = 28))) M M4_11 := (F4).tr (f9.mono (mo_163))
  intro g12
  have h13 := h9 g12
  exact hQ _ _ F9 h13
theorem fmX12_pushesOne {k1 : Nat} {p2 : Int} {p3 : Int} {M : Mem} {Q Q' : Int → Mem → Prop} (h : qX12_pushesOne k1 p2 p3 M Q) (hQ : ∀ (w0 : Int) (M' : Mem), Ks (fun k j => k = k1) M M' → Q w0 M' → Q' w0 M') : qX12_pushesOne k1 p2 p3 M Q' := by
  unfold qX12_pushesOne at h ⊢
  refine fmX12_isMourner h ?_
  intro x1_2 M1_3 f1 h1
  have F1 : Ks (fun k j => k = k1) M M1_3 := (Ks.rf).tr (f1.mono (fun _ _ h => False.elim h))
  intro g4 g5
  have h6 := h1 g4 g5
  obtain ⟨h7, h8⟩ := h6
  refine ⟨?_, ?_⟩
  · intro g9
    have h10 := h7 g9
    exact hQ _ _ F1 h10
  · intro g11
    have h12 := h8 g11
    refine fmX12_in h12 ?_
    intro x3_14 M3_15 f13 h13
    have F13 : Ks (fun k j => k = k1) M M3_15 := (F1).tr (f13.mono (fun _ _ h => False.elim h))
    intro g16 g17
    have h18 := h13 g16 g17
    obtain ⟨h19, h20⟩ := h18
    refine ⟨?_, ?_⟩
    · intro g21
      have h22 := h19 g21
      exact hQ _ _ F13 h22
    · intro g23
      have h24 := h20 g23
      obtain ⟨h25, h26⟩ := h24
      refine ⟨?_, ?_⟩
      · intro g27
        have h28 := h25 g27
        refine fmX12_isEnded h28 ?_
        intro x6_30 M6_31 f29 h29
        have F29 : Ks (fun k j => k = k1) M M6_31 := (F13).tr (f29.mono (fun _ _ h => False.elim h))
        intro g32 g33
        have h34 := h29 g32 g33
        obtain ⟨h35, h36⟩ := h34
        refine ⟨?_, ?_⟩
        · intro g37
          have h38 := h35 g37
          refine fmX12_gate h38 ?_
          intro x8_40 M8_41 f39 h39
          have F39 : Ks (fun k j => k = k1) M M8_41 := (F29).tr (f39.mono (fun _ _ h => False.elim h))
          intro g42
          have h43 := h39 g42
          obtain ⟨v44, h44⟩ := h43
          refine ⟨v44, ?_⟩
          obtain ⟨v45, h45⟩ := h44
          refine ⟨v45, ?_⟩
          intro x11_46 g47 g48
          have h46 := h45 x11_46 g47 g48
          obtain ⟨v49, h49⟩ := h46
          refine ⟨v49, ?_⟩
          obtain ⟨v50, h50⟩ := h49
          refine ⟨v50, ?_⟩
          intro x14_51 g52 g53
          have h51 := h50 x14_51 g52 g53
          intro x15_54 g55 g56
          have h54 := h51 x15_54 g55 g56
          intro M16_57 eM16_57
          have h57 := h54 M16_57 eM16_57
          have F57 : Ks (fun k j => k = k1) M M16_57 := by rw [eM16_57]; exact (F39).wr (mw_174)
          intro x17_58 g59 g60
          have h58 := h57 x17_58 g59 g60
          exact hQ _ _ F57 h58
        · intro g61
          have h62 := h36 g61
          exact hQ _ _ F29 h62
      · intro g63
        have h64 := h26 g63
        exact hQ _ _ F13 h64
theorem fmX12_pushes {p1 : Int} {p2 : Int} {M : Mem} {Q Q' : Int → Mem → Prop} (h : qX12_pushes p1 p2 M Q) (hQ : ∀ (w0 : Int) (M' : Mem), Ks (fun k j => k = 5 ∨ k = 15 ∨ (k = 1 ∧ (j = 0 ∨ j = 28))) M M' → Q w0 M' → Q' w0 M') : qX12_pushes p1 p2 M Q' := by
  unfold qX12_pushes at h ⊢
  intro M1_1 eM1_1
  have h1 := h M1_1 eM1_1
  have F1 : Ks (fun k j => k = 5 ∨ k = 15 ∨ (k = 1 ∧ (j = 0 ∨ j = 28))) M M1_1 := by rw [eM1_1]; exact (Ks.rf).wr (mw_175)
  refine fmX12_putsBy h1 ?_
  intro M2_3 f2 h2
  have F2 : Ks (fun k j => k = 5 ∨ k = 15 ∨ (k = 1 ∧ (j = 0 ∨ j = 28))) M M2_3 := (F1).tr (f2.mono (mo_161))
  refine fmX12_pushesOne h2 ?_
  intro x3_5 M3_6 f4 h4
  have F4 : Ks (fun k j => k = 5 ∨ k = 15 ∨ (k = 1 ∧ (j = 0 ∨ j = 28))) M M3_6 := (F2).tr (f4.mono (mo_162))
  intro g7
  have h8 := h4 g7
  refine fmX12_counted h8 ?_
  intro x4_10 M4_11 f9 h9
  have F9 : Ks (fun k j => k = 5 ∨ k = 15 ∨ (k = 1 ∧ (j = 0 ∨ j = 28))) M M4_11 := (F4).tr (f9.mono (mo_163))
  intro g12
  have h13 := h9 g12
  exact hQ _ _ F9 h13
theorem fmX12_swapsTwo {p1 : Int} {p2 : Int} {M : Mem} {Q Q' : Int → Mem → Prop} (h : qX12_swapsTwo p1 p2 M Q) (hQ : ∀ (w0 : Int) (M' : Mem), Ks (fun k j => k = 5) M M' → Q w0 M' → Q' w0 M') : qX12_swapsTwo p1 p2 M Q' := by
  unfold qX12_swapsTwo at h ⊢
  refine fmX12_isHearse h ?_
  intro x1_2 M1_3 f1 h1
  have F1 : Ks (fun k j => k = 5) M M1_3 := (Ks.rf).tr (f1.mono (fun _ _ h => False.elim h))
  intro g4 g5
  have h6 := h1 g4 g5
  obtain ⟨h7, h8⟩ := h6
  refine ⟨?_, ?_⟩
  · intro g9
    have h10 := h7 g9
    exact hQ _ _ F1 h10
  · intro g11
    have h12 := h8 g11
    refine fmX12_isHearse h12 ?_
    intro x3_14 M3_15 f13 h13
    have F13 : Ks (fun k j => k = 5) M M3_15 := (F1).tr (f13.mono (fun _ _ h => False.elim h))
    intro g16 g17
    have h18 := h13 g16 g17
    obtain ⟨h19, h20⟩ := h18
    refine ⟨?_, ?_⟩
    · intro g21
      have h22 := h19 g21
      exact hQ _ _ F13 h22
    · intro g23
      have h24 := h20 g23
      obtain ⟨h25, h26⟩ := h24
      refine ⟨?_, ?_⟩
      · intro g27
        have h28 := h25 g27
        refine fmX12_isOn h28 ?_
        intro x6_30 M6_31 f29 h29
        have F29 : Ks (fun k j => k = 5) M M6_31 := (F13).tr (f29.mono (fun _ _ h => False.elim h))
        intro g32 g33
        have h34 := h29 g32 g33
        obtain ⟨h35, h36⟩ := h34
        refine ⟨?_, ?_⟩
        · intro g37
          have h38 := h35 g37
          exact hQ _ _ F29 h38
        · intro g39
          have h40 := h36 g39
          refine fmX12_isOn h40 ?_
          intro x8_42 M8_43 f41 h41
          have F41 : Ks (fun k j => k = 5) M M8_43 := (F29).tr (f41.mono (fun _ _ h => False.elim h))
          intro g44 g45
          have h46 := h41 g44 g45
          obtain ⟨h47, h48⟩ := h46
          refine ⟨?_, ?_⟩
          · intro g49
            have h50 := h47 g49
            obtain ⟨v51, h51⟩ := h50
            refine ⟨v51, ?_⟩
            obtain ⟨v52, h52⟩ := h51
            refine ⟨v52, ?_⟩
            intro x12_53 g54 g55
            have h53 := h52 x12_53 g54 g55
            obtain ⟨v56, h56⟩ := h53
            refine ⟨v56, ?_⟩
            obtain ⟨v57, h57⟩ := h56
            refine ⟨v57, ?_⟩
            intro x15_58 g59 g60
            have h58 := h57 x15_58 g59 g60
            intro M16_61 eM16_61
            have h61 := h58 M16_61 eM16_61
            have F61 : Ks (fun k j => k = 5) M M16_61 := by rw [eM16_61]; exact (F41).wr (mw_176)
            intro M17_62 eM17_62
            have h62 := h61 M17_62 eM17_62
            have F62 : Ks (fun k j => k = 5) M M17_62 := by rw [eM17_62]; exact (F61).wr (mw_176)
            intro x18_63 g64 g65
            have h63 := h62 x18_63 g64 g65
            intro x19_66 g67 g68
            have h66 := h63 x19_66 g67 g68
            obtain ⟨v69, h69⟩ := h66
            refine ⟨v69, ?_⟩
            intro x21_70 g71 g72
            have h70 := h69 x21_70 g71 g72
            obtain ⟨v73, h73⟩ := h70
            refine ⟨v73, ?_⟩
            exact hQ _ _ F62 h73
          · intro g74
            have h75 := h48 g74
            exact hQ _ _ F41 h75
      · intro g76
        have h77 := h26 g76
        exact hQ _ _ F13 h77
theorem fmX12_swaps {p1 : Int} {p2 : Int} {M : Mem} {Q Q' : Int → Mem → Prop} (h : qX12_swaps p1 p2 M Q) (hQ : ∀ (w0 : Int) (M' : Mem), Ks (fun k j => k = 5 ∨ k = 15 ∨ (k = 1 ∧ (j = 0 ∨ j = 28))) M M' → Q w0 M' → Q' w0 M') : qX12_swaps p1 p2 M Q' := by
  unfold qX12_swaps at h ⊢
  intro M1_1 eM1_1
  have h1 := h M1_1 eM1_1
  have F1 : Ks (fun k j => k = 5 ∨ k = 15 ∨ (k = 1 ∧ (j = 0 ∨ j = 28))) M M1_1 := by rw [eM1_1]; exact (Ks.rf).wr (mw_175)
  refine fmX12_putsBy h1 ?_
  intro M2_3 f2 h2
  have F2 : Ks (fun k j => k = 5 ∨ k = 15 ∨ (k = 1 ∧ (j = 0 ∨ j = 28))) M M2_3 := (F1).tr (f2.mono (mo_161))
  refine fmX12_swapsTwo h2 ?_
  intro x3_5 M3_6 f4 h4
  have F4 : Ks (fun k j => k = 5 ∨ k = 15 ∨ (k = 1 ∧ (j = 0 ∨ j = 28))) M M3_6 := (F2).tr (f4.mono (mo_162))
  intro g7
  have h8 := h4 g7
  refine fmX12_counted h8 ?_
  intro x4_10 M4_11 f9 h9
  have F9 : Ks (fun k j => k = 5 ∨ k = 15 ∨ (k = 1 ∧ (j = 0 ∨ j = 28))) M M4_11 := (F4).tr (f9.mono (mo_163))
  intro g12
  have h13 := h9 g12
  exact hQ _ _ F9 h13
theorem fmX12_does_L46 {p1 : Int} {Q Q' : Int → Mem → Prop} {M0 : Mem} (hQ : ∀ (w0 : Int) (M' : Mem), Ks (fun k j => k = 5 ∨ (13 ≤ k ∧ k ≤ 14) ∨ (16 ≤ k ∧ k ≤ 18) ∨ (k = 1 ∧ (j = 30 ∨ j = 31 ∨ j = 35))) M0 M' → Q w0 M' → Q' w0 M') : ∀ (n : Nat) (v2 v3 : Int) (M : Mem), Ks (fun k j => k = 5 ∨ (13 ≤ k ∧ k ≤ 14) ∨ (16 ≤ k ∧ k ≤ 18) ∨ (k = 1 ∧ (j = 30 ∨ j = 31 ∨ j = 35))) M0 M → qX12_does_L46 p1 Q n v2 v3 M → qX12_does_L46 p1 Q' n v2 v3 M := by
  intro n
  induction n with
  | zero => intro v2 v3 M _ h; exact h.elim
  | succ n ih =>
    intro v2 v3 M hF h
    rw [qX12_does_L46] at h
    rw [qX12_does_L46]
    obtain ⟨v1, h1⟩ := h
    refine ⟨v1, ?_⟩
    obtain ⟨v2, h2⟩ := h1
    refine ⟨v2, ?_⟩
    obtain ⟨h3, h4⟩ := h2
    refine ⟨?_, ?_⟩
    · intro g5
      have h6 := h3 g5
      exact hQ _ _ hF h6
    · intro g7
      have h8 := h4 g7
      refine fmX12_stepGoes h8 ?_
      intro M9_10 f9 h9
      have F9 : Ks (fun k j => k = 5 ∨ (13 ≤ k ∧ k ≤ 14) ∨ (16 ≤ k ∧ k ≤ 18) ∨ (k = 1 ∧ (j = 30 ∨ j = 31 ∨ j = 35))) M0 M9_10 := (hF).tr (f9.mono (mo_164))
      exact ih _ _ _ F9 h9
theorem fmX12_does {p1 : Int} {M : Mem} {Q Q' : Int → Mem → Prop} (h : qX12_does p1 M Q) (hQ : ∀ (w0 : Int) (M' : Mem), Ks (fun k j => k = 5 ∨ (13 ≤ k ∧ k ≤ 14) ∨ (16 ≤ k ∧ k ≤ 18) ∨ (k = 1 ∧ (j = 30 ∨ j = 31 ∨ j = 35))) M M' → Q w0 M' → Q' w0 M') : qX12_does p1 M Q' := by
  unfold qX12_does at h ⊢
  obtain ⟨v1, h1⟩ := h
  refine ⟨v1, ?_⟩
  obtain ⟨v2, h2⟩ := h1
  refine ⟨v2, ?_⟩
  intro x3_3 g4 g5
  have h3 := h2 x3_3 g4 g5
  intro x4_6 g7 g8
  have h6 := h3 x4_6 g7 g8
  obtain ⟨h9, h10, h11, h12, h13⟩ := h6
  refine ⟨?_, ?_, ?_, ?_, ?_⟩
  · intro g14
    have h15 := h9 g14
    obtain ⟨n16, h16⟩ := h15
    refine ⟨n16, ?_⟩
    refine fmX12_does_L46 hQ _ _ _ _ Ks.rf h16
  · intro g17
    have h18 := h10 g17
    refine fmX12_turnsOne h18 ?_
    intro x11_20 M11_21 f19 h19
    have F19 : Ks (fun k j => k = 5 ∨ (13 ≤ k ∧ k ≤ 14) ∨ (16 ≤ k ∧ k ≤ 18) ∨ (k = 1 ∧ (j = 30 ∨ j = 31 ∨ j = 35))) M M11_21 := (Ks.rf).tr (f19.mono (mo_165))
    intro g22
    have h23 := h19 g22
    obtain ⟨h24, h25⟩ := h23
    refine ⟨?_, ?_⟩
    · intro g26
      have h27 := h24 g26
      exact hQ _ _ F19 h27
    · intro g28
      have h29 := h25 g28
      obtain ⟨h30, h31⟩ := h29
      refine ⟨?_, ?_⟩
      · intro g32
        have h33 := h30 g32
        exact hQ _ _ F19 h33
      · intro g34
        have h35 := h31 g34
        exact hQ _ _ F19 h35
  · intro g36
    have h37 := h11 g36
    intro x14_38 g39 g40
    have h38 := h37 x14_38 g39 g40
    refine fmX12_pushesOne h38 ?_
    intro x15_42 M15_43 f41 h41
    have F41 : Ks (fun k j => k = 5 ∨ (13 ≤ k ∧ k ≤ 14) ∨ (16 ≤ k ∧ k ≤ 18) ∨ (k = 1 ∧ (j = 30 ∨ j = 31 ∨ j = 35))) M M15_43 := (Ks.rf).tr (f41.mono (mo_165))
    intro g44
    have h45 := h41 g44
    obtain ⟨h46, h47⟩ := h45
    refine ⟨?_, ?_⟩
    · intro g48
      have h49 := h46 g48
      exact hQ _ _ F41 h49
    · intro g50
      have h51 := h47 g50
      exact hQ _ _ F41 h51
  · intro g52
    have h53 := h12 g52
    intro x17_54 g55 g56
    have h54 := h53 x17_54 g55 g56
    obtain ⟨v57, h57⟩ := h54
    refine ⟨v57, ?_⟩
    refine fmX12_pushesOne h57 ?_
    intro x19_59 M19_60 f58 h58
    have F58 : Ks (fun k j => k = 5 ∨ (13 ≤ k ∧ k ≤ 14) ∨ (16 ≤ k ∧ k ≤ 18) ∨ (k = 1 ∧ (j = 30 ∨ j = 31 ∨ j = 35))) M M19_60 := (Ks.rf).tr (f58.mono (mo_165))
    intro g61
    have h62 := h58 g61
    obtain ⟨h63, h64⟩ := h62
    refine ⟨?_, ?_⟩
    · intro g65
      have h66 := h63 g65
      exact hQ _ _ F58 h66
    · intro g67
      have h68 := h64 g67
      exact hQ _ _ F58 h68
  · intro g69
    have h70 := h13 g69
    intro x21_71 g72 g73
    have h71 := h70 x21_71 g72 g73
    refine fmX12_swapsTwo h71 ?_
    intro x22_75 M22_76 f74 h74
    have F74 : Ks (fun k j => k = 5 ∨ (13 ≤ k ∧ k ≤ 14) ∨ (16 ≤ k ∧ k ≤ 18) ∨ (k = 1 ∧ (j = 30 ∨ j = 31 ∨ j = 35))) M M22_76 := (Ks.rf).tr (f74.mono (mo_165))
    intro g77
    have h78 := h74 g77
    obtain ⟨h79, h80⟩ := h78
    refine ⟨?_, ?_⟩
    · intro g81
      have h82 := h79 g81
      exact hQ _ _ F74 h82
    · intro g83
      have h84 := h80 g83
      exact hQ _ _ F74 h84
theorem fmX12_digitIn {p1 : Int} {p2 : Int} {M : Mem} {Q Q' : Int → Mem → Prop} (h : qX12_digitIn p1 p2 M Q) (hQ : ∀ (w0 : Int) (M' : Mem), Ks (fun k j => (k = 1 ∧ (j = 15))) M M' → Q w0 M' → Q' w0 M') : qX12_digitIn p1 p2 M Q' := by
  unfold qX12_digitIn at h ⊢
  intro x1_1 g2 g3
  have h1 := h x1_1 g2 g3
  intro x2_4 g5 g6
  have h4 := h1 x2_4 g5 g6
  obtain ⟨h7, h8⟩ := h4
  refine ⟨?_, ?_⟩
  · intro g9
    have h10 := h7 g9
    exact hQ _ _ Ks.rf h10
  · intro g11
    have h12 := h8 g11
    intro x4_13 g14 g15
    have h13 := h12 x4_13 g14 g15
    obtain ⟨v16, h16⟩ := h13
    refine ⟨v16, ?_⟩
    obtain ⟨v17, h17⟩ := h16
    refine ⟨v17, ?_⟩
    intro x7_18 g19 g20
    have h18 := h17 x7_18 g19 g20
    obtain ⟨v21, h21⟩ := h18
    refine ⟨v21, ?_⟩
    refine fmX12_in h21 ?_
    intro x9_23 M9_24 f22 h22
    have F22 : Ks (fun k j => (k = 1 ∧ (j = 15))) M M9_24 := (Ks.rf).tr (f22.mono (fun _ _ h => False.elim h))
    intro g25 g26
    have h27 := h22 g25 g26
    obtain ⟨h28, h29⟩ := h27
    refine ⟨?_, ?_⟩
    · intro g30
      have h31 := h28 g30
      intro x11_32 g33 g34
      have h32 := h31 x11_32 g33 g34
      obtain ⟨v35, h35⟩ := h32
      refine ⟨v35, ?_⟩
      intro M13_36 eM13_36
      have h36 := h35 M13_36 eM13_36
      have F36 : Ks (fun k j => (k = 1 ∧ (j = 15))) M M13_36 := by rw [eM13_36]; exact (F22).wr (mw_109)
      intro x14_37 g38 g39
      have h37 := h36 x14_37 g38 g39
      obtain ⟨v40, h40⟩ := h37
      refine ⟨v40, ?_⟩
      obtain ⟨v41, h41⟩ := h40
      refine ⟨v41, ?_⟩
      intro x17_42 g43 g44
      have h42 := h41 x17_42 g43 g44
      obtain ⟨v45, h45⟩ := h42
      refine ⟨v45, ?_⟩
      exact hQ _ _ F36 h45
    · intro g46
      have h47 := h29 g46
      exact hQ _ _ F22 h47
theorem fmX12_readsAct  {M : Mem} {Q Q' : Int → Mem → Prop} (h : qX12_readsAct M Q) (hQ : ∀ (w0 : Int) (M' : Mem), Ks (fun k j => (19 ≤ k ∧ k ≤ 21) ∨ (k = 1 ∧ (j = 15 ∨ j = 39))) M M' → Q w0 M' → Q' w0 M') : qX12_readsAct M Q' := by
  unfold qX12_readsAct at h ⊢
  intro x1_1 g2 g3
  have h1 := h x1_1 g2 g3
  refine fmX12_takesOf h1 ?_
  intro x2_5 M2_6 f4 h4
  have F4 : Ks (fun k j => (19 ≤ k ∧ k ≤ 21) ∨ (k = 1 ∧ (j = 15 ∨ j = 39))) M M2_6 := (Ks.rf).tr (f4.mono (mo_166))
  intro g7
  have h8 := h4 g7
  obtain ⟨v9, h9⟩ := h8
  refine ⟨v9, ?_⟩
  obtain ⟨v10, h10⟩ := h9
  refine ⟨v10, ?_⟩
  intro M5_11 eM5_11
  have h11 := h10 M5_11 eM5_11
  have F11 : Ks (fun k j => (19 ≤ k ∧ k ≤ 21) ∨ (k = 1 ∧ (j = 15 ∨ j = 39))) M M5_11 := by rw [eM5_11]; exact (F4).wr (mw_177 _)
  intro x6_12 g13 g14
  have h12 := h11 x6_12 g13 g14
  obtain ⟨v15, h15⟩ := h12
  refine ⟨v15, ?_⟩
  intro M8_16 eM8_16
  have h16 := h15 M8_16 eM8_16
  have F16 : Ks (fun k j => (19 ≤ k ∧ k ≤ 21) ∨ (k = 1 ∧ (j = 15 ∨ j = 39))) M M8_16 := by rw [eM8_16]; exact (F11).wr (mw_178)
  intro x9_17 g18 g19
  have h17 := h16 x9_17 g18 g19
  obtain ⟨h20, h21⟩ := h17
  refine ⟨?_, ?_⟩
  · intro g22
    have h23 := h20 g22
    refine fmX12_number h23 ?_
    intro x11_25 M11_26 f24 h24
    have F24 : Ks (fun k j => (19 ≤ k ∧ k ≤ 21) ∨ (k = 1 ∧ (j = 15 ∨ j = 39))) M M11_26 := (F16).tr (f24.mono (mo_166))
    intro g27
    have h28 := h24 g27
    intro M12_29 eM12_29
    have h29 := h28 M12_29 eM12_29
    have F29 : Ks (fun k j => (19 ≤ k ∧ k ≤ 21) ∨ (k = 1 ∧ (j = 15 ∨ j = 39))) M M12_29 := by rw [eM12_29]; exact (F24).wr (mw_179 _)
    intro x13_30 g31 g32
    have h30 := h29 x13_30 g31 g32
    obtain ⟨h33, h34⟩ := h30
    refine ⟨?_, ?_⟩
    · intro g35
      have h36 := h33 g35
      unfold qX12_readsAct_J69 at h36 ⊢
      obtain ⟨v37, h37⟩ := h36
      refine ⟨v37, ?_⟩
      obtain ⟨v38, h38⟩ := h37
      refine ⟨v38, ?_⟩
      intro x17_39 g40 g41
      have h39 := h38 x17_39 g40 g41
      obtain ⟨h42, h43⟩ := h39
      refine ⟨?_, ?_⟩
      · intro g44
        have h45 := h42 g44
        exact hQ _ _ F29 h45
      · intro g46
        have h47 := h43 g46
        exact hQ _ _ F29 h47
    · intro g48
      have h49 := h34 g48
      intro x19_50 g51 g52
      have h50 := h49 x19_50 g51 g52
      obtain ⟨h53, h54⟩ := h50
      refine ⟨?_, ?_⟩
      · intro g55
        have h56 := h53 g55
        intro x21_57 g58 g59
        have h57 := h56 x21_57 g58 g59
        obtain ⟨h60, h61⟩ := h57
        refine ⟨?_, ?_⟩
        · intro g62
          have h63 := h60 g62
          unfold qX12_readsAct_J105 at h63 ⊢
          obtain ⟨v64, h64⟩ := h63
          refine ⟨v64, ?_⟩
          refine fmX12_digitIn h64 ?_
          intro x24_66 M24_67 f65 h65
          have F65 : Ks (fun k j => (19 ≤ k ∧ k ≤ 21) ∨ (k = 1 ∧ (j = 15 ∨ j = 39))) M M24_67 := (F29).tr (f65.mono (mo_166))
          intro g68
          have h69 := h65 g68
          obtain ⟨v70, h70⟩ := h69
          refine ⟨v70, ?_⟩
          obtain ⟨v71, h71⟩ := h70
          refine ⟨v71, ?_⟩
          intro M27_72 eM27_72
          have h72 := h71 M27_72 eM27_72
          have F72 : Ks (fun k j => (19 ≤ k ∧ k ≤ 21) ∨ (k = 1 ∧ (j = 15 ∨ j = 39))) M M27_72 := by rw [eM27_72]; exact (F65).wr (mw_180 _)
          obtain ⟨v73, h73⟩ := h72
          refine ⟨v73, ?_⟩
          obtain ⟨v74, h74⟩ := h73
          refine ⟨v74, ?_⟩
          intro x30_75 g76 g77
          have h75 := h74 x30_75 g76 g77
          obtain ⟨h78, h79⟩ := h75
          refine ⟨?_, ?_⟩
          · intro g80
            have h81 := h78 g80
            exact hQ _ _ F72 h81
          · intro g82
            have h83 := h79 g82
            exact hQ _ _ F72 h83
        · intro g84
          have h85 := h61 g84
          unfold qX12_readsAct_J105 at h85 ⊢
          obtain ⟨v86, h86⟩ := h85
          refine ⟨v86, ?_⟩
          refine fmX12_digitIn h86 ?_
          intro x24_88 M24_89 f87 h87
          have F87 : Ks (fun k j => (19 ≤ k ∧ k ≤ 21) ∨ (k = 1 ∧ (j = 15 ∨ j = 39))) M M24_89 := (F29).tr (f87.mono (mo_166))
          intro g90
          have h91 := h87 g90
          obtain ⟨v92, h92⟩ := h91
          refine ⟨v92, ?_⟩
          obtain ⟨v93, h93⟩ := h92
          refine ⟨v93, ?_⟩
          intro M27_94 eM27_94
          have h94 := h93 M27_94 eM27_94
          have F94 : Ks (fun k j => (19 ≤ k ∧ k ≤ 21) ∨ (k = 1 ∧ (j = 15 ∨ j = 39))) M M27_94 := by rw [eM27_94]; exact (F87).wr (mw_180 _)
          obtain ⟨v95, h95⟩ := h94
          refine ⟨v95, ?_⟩
          obtain ⟨v96, h96⟩ := h95
          refine ⟨v96, ?_⟩
          intro x30_97 g98 g99
          have h97 := h96 x30_97 g98 g99
          obtain ⟨h100, h101⟩ := h97
          refine ⟨?_, ?_⟩
          · intro g102
            have h103 := h100 g102
            exact hQ _ _ F94 h103
          · intro g104
            have h105 := h101 g104
            exact hQ _ _ F94 h105
      · intro g106
        have h107 := h54 g106
        unfold qX12_readsAct_J69 at h107 ⊢
        obtain ⟨v108, h108⟩ := h107
        refine ⟨v108, ?_⟩
        obtain ⟨v109, h109⟩ := h108
        refine ⟨v109, ?_⟩
        intro x17_110 g111 g112
        have h110 := h109 x17_110 g111 g112
        obtain ⟨h113, h114⟩ := h110
        refine ⟨?_, ?_⟩
        · intro g115
          have h116 := h113 g115
          exact hQ _ _ F29 h116
        · intro g117
          have h118 := h114 g117
          exact hQ _ _ F29 h118
  · intro g119
    have h120 := h21 g119
    exact hQ _ _ F16 h120
theorem fmX12_hour_L19  {X42 X42' : Int → Int → Mem → Prop} {Q Q' : Int → Mem → Prop} {M0 : Mem} (hQ : ∀ (w0 : Int) (M' : Mem), Ks (fun k j => k = 0 ∨ k = 5 ∨ (13 ≤ k ∧ k ≤ 21) ∨ (k = 1 ∧ (j = 0 ∨ j = 1 ∨ j = 14 ∨ j = 15 ∨ j = 16 ∨ j = 17 ∨ j = 28 ∨ j = 30 ∨ j = 31 ∨ j = 35 ∨ j = 39))) M0 M' → Q w0 M' → Q' w0 M') (hX42 : ∀ (w0 w1 : Int) (M' : Mem), Ks (fun k j => k = 0 ∨ k = 5 ∨ (13 ≤ k ∧ k ≤ 21) ∨ (k = 1 ∧ (j = 0 ∨ j = 1 ∨ j = 14 ∨ j = 15 ∨ j = 16 ∨ j = 17 ∨ j = 28 ∨ j = 30 ∨ j = 31 ∨ j = 35 ∨ j = 39))) M0 M' → X42 w0 w1 M' → X42' w0 w1 M') : ∀ (n : Nat) (v1 v2 : Int) (M : Mem), Ks (fun k j => k = 0 ∨ k = 5 ∨ (13 ≤ k ∧ k ≤ 21) ∨ (k = 1 ∧ (j = 0 ∨ j = 1 ∨ j = 14 ∨ j = 15 ∨ j = 16 ∨ j = 17 ∨ j = 28 ∨ j = 30 ∨ j = 31 ∨ j = 35 ∨ j = 39))) M0 M → qX12_hour_L19 X42 Q n v1 v2 M → qX12_hour_L19 X42' Q' n v1 v2 M := by
  intro n
  induction n with
  | zero => intro v1 v2 M _ h; exact h.elim
  | succ n ih =>
    intro v1 v2 M hF h
    rw [qX12_hour_L19] at h
    rw [qX12_hour_L19]
    obtain ⟨v1, h1⟩ := h
    refine ⟨v1, ?_⟩
    obtain ⟨h2, h3⟩ := h1
    refine ⟨?_, ?_⟩
    · intro g4
      have h5 := h2 g4
      exact hX42 _ _ _ hF h5
    · intro g6
      have h7 := h3 g6
      intro x6_8 g9 g10
      have h8 := h7 x6_8 g9 g10
      intro x7_11 g12 g13
      have h11 := h8 x7_11 g12 g13
      obtain ⟨h14, h15⟩ := h11
      refine ⟨?_, ?_⟩
      · intro g16
        have h17 := h14 g16
        exact hX42 _ _ _ hF h17
      · intro g18
        have h19 := h15 g18
        refine fmX12_readsAct h19 ?_
        intro x9_21 M9_22 f20 h20
        have F20 : Ks (fun k j => k = 0 ∨ k = 5 ∨ (13 ≤ k ∧ k ≤ 21) ∨ (k = 1 ∧ (j = 0 ∨ j = 1 ∨ j = 14 ∨ j = 15 ∨ j = 16 ∨ j = 17 ∨ j = 28 ∨ j = 30 ∨ j = 31 ∨ j = 35 ∨ j = 39))) M0 M9_22 := (hF).tr (f20.mono (mo_167))
        intro g23 g24
        have h25 := h20 g23 g24
        exact ih _ _ _ F20 h25
theorem fmX12_hour_L64  {X88 X88' : Int → Mem → Prop} {Q Q' : Int → Mem → Prop} {M0 : Mem} (hQ : ∀ (w0 : Int) (M' : Mem), Ks (fun k j => k = 0 ∨ k = 5 ∨ (13 ≤ k ∧ k ≤ 21) ∨ (k = 1 ∧ (j = 0 ∨ j = 1 ∨ j = 14 ∨ j = 15 ∨ j = 16 ∨ j = 17 ∨ j = 28 ∨ j = 30 ∨ j = 31 ∨ j = 35 ∨ j = 39))) M0 M' → Q w0 M' → Q' w0 M') (hX88 : ∀ (w0 : Int) (M' : Mem), Ks (fun k j => k = 0 ∨ k = 5 ∨ (13 ≤ k ∧ k ≤ 21) ∨ (k = 1 ∧ (j = 0 ∨ j = 1 ∨ j = 14 ∨ j = 15 ∨ j = 16 ∨ j = 17 ∨ j = 28 ∨ j = 30 ∨ j = 31 ∨ j = 35 ∨ j = 39))) M0 M' → X88 w0 M' → X88' w0 M') : ∀ (n : Nat) (v4 : Int) (M : Mem), Ks (fun k j => k = 0 ∨ k = 5 ∨ (13 ≤ k ∧ k ≤ 21) ∨ (k = 1 ∧ (j = 0 ∨ j = 1 ∨ j = 14 ∨ j = 15 ∨ j = 16 ∨ j = 17 ∨ j = 28 ∨ j = 30 ∨ j = 31 ∨ j = 35 ∨ j = 39))) M0 M → qX12_hour_L64 X88 Q n v4 M → qX12_hour_L64 X88' Q' n v4 M := by
  intro n
  induction n with
  | zero => intro v4 M _ h; exact h.elim
  | succ n ih =>
    intro v4 M hF h
    rw [qX12_hour_L64] at h
    rw [qX12_hour_L64]
    intro x16_1 g2 g3
    have h1 := h x16_1 g2 g3
    obtain ⟨v4, h4⟩ := h1
    refine ⟨v4, ?_⟩
    obtain ⟨h5, h6⟩ := h4
    refine ⟨?_, ?_⟩
    · intro g7
      have h8 := h5 g7
      exact hX88 _ _ hF h8
    · intro g9
      have h10 := h6 g9
      refine fmX12_does h10 ?_
      intro x19_12 M19_13 f11 h11
      have F11 : Ks (fun k j => k = 0 ∨ k = 5 ∨ (13 ≤ k ∧ k ≤ 21) ∨ (k = 1 ∧ (j = 0 ∨ j = 1 ∨ j = 14 ∨ j = 15 ∨ j = 16 ∨ j = 17 ∨ j = 28 ∨ j = 30 ∨ j = 31 ∨ j = 35 ∨ j = 39))) M0 M19_13 := (hF).tr (f11.mono (mo_168))
      intro g14 g15
      have h16 := h11 g14 g15
      obtain ⟨h17, h18⟩ := h16
      refine ⟨?_, ?_⟩
      · intro g19
        have h20 := h17 g19
        exact hX88 _ _ F11 h20
      · intro g21
        have h22 := h18 g21
        exact ih _ _ F11 h22
theorem fmX12_hour  {M : Mem} {Q Q' : Int → Mem → Prop} (h : qX12_hour M Q) (hQ : ∀ (w0 : Int) (M' : Mem), Ks (fun k j => k = 0 ∨ k = 5 ∨ (13 ≤ k ∧ k ≤ 21) ∨ (k = 1 ∧ (j = 0 ∨ j = 1 ∨ j = 14 ∨ j = 15 ∨ j = 16 ∨ j = 17 ∨ j = 28 ∨ j = 30 ∨ j = 31 ∨ j = 35 ∨ j = 39))) M M' → Q w0 M' → Q' w0 M') : qX12_hour M Q' := by
  unfold qX12_hour at h ⊢
  intro M1_1 eM1_1
  have h1 := h M1_1 eM1_1
  have F1 : Ks (fun k j => k = 0 ∨ k = 5 ∨ (13 ≤ k ∧ k ≤ 21) ∨ (k = 1 ∧ (j = 0 ∨ j = 1 ∨ j = 14 ∨ j = 15 ∨ j = 16 ∨ j = 17 ∨ j = 28 ∨ j = 30 ∨ j = 31 ∨ j = 35 ∨ j = 39))) M M1_1 := by rw [eM1_1]; exact (Ks.rf).wr (mw_181)
  refine fmX12_begins h1 ?_
  intro x2_3 M2_4 f2 h2
  have F2 : Ks (fun k j => k = 0 ∨ k = 5 ∨ (13 ≤ k ∧ k ≤ 21) ∨ (k = 1 ∧ (j = 0 ∨ j = 1 ∨ j = 14 ∨ j = 15 ∨ j = 16 ∨ j = 17 ∨ j = 28 ∨ j = 30 ∨ j = 31 ∨ j = 35 ∨ j = 39))) M M2_4 := (F1).tr (f2.mono (mo_169))
  intro g5
  have h6 := h2 g5
  intro M3_7 eM3_7
  have h7 := h6 M3_7 eM3_7
  have F7 : Ks (fun k j => k = 0 ∨ k = 5 ∨ (13 ≤ k ∧ k ≤ 21) ∨ (k = 1 ∧ (j = 0 ∨ j = 1 ∨ j = 14 ∨ j = 15 ∨ j = 16 ∨ j = 17 ∨ j = 28 ∨ j = 30 ∨ j = 31 ∨ j = 35 ∨ j = 39))) M M3_7 := by rw [eM3_7]; exact (F2).wr (mw_182)
  obtain ⟨n8, h8⟩ := h7
  refine ⟨n8, ?_⟩
  refine fmX12_hour_L19 hQ ?_ _ _ _ _ F7 h8
  · intro v1_10 v2_11 M_12 F9 h9
    unfold qX12_hour_J42 at h9 ⊢
    obtain ⟨v13, h13⟩ := h9
    refine ⟨v13, ?_⟩
    obtain ⟨v14, h14⟩ := h13
    refine ⟨v14, ?_⟩
    refine fmX12_faultOf h14 ?_
    intro x13_16 M13_17 f15 h15
    have F15 : Ks (fun k j => k = 0 ∨ k = 5 ∨ (13 ≤ k ∧ k ≤ 21) ∨ (k = 1 ∧ (j = 0 ∨ j = 1 ∨ j = 14 ∨ j = 15 ∨ j = 16 ∨ j = 17 ∨ j = 28 ∨ j = 30 ∨ j = 31 ∨ j = 35 ∨ j = 39))) M M13_17 := (F9).tr (f15.mono (fun _ _ h => False.elim h))
    intro g18
    have h19 := h15 g18
    obtain ⟨h20, h21⟩ := h19
    refine ⟨?_, ?_⟩
    · intro g22
      have h23 := h20 g22
      refine fmX12_putsBy h23 ?_
      intro M15_25 f24 h24
      have F24 : Ks (fun k j => k = 0 ∨ k = 5 ∨ (13 ≤ k ∧ k ≤ 21) ∨ (k = 1 ∧ (j = 0 ∨ j = 1 ∨ j = 14 ∨ j = 15 ∨ j = 16 ∨ j = 17 ∨ j = 28 ∨ j = 30 ∨ j = 31 ∨ j = 35 ∨ j = 39))) M M15_25 := (F15).tr (f24.mono (mo_170))
      obtain ⟨n26, h26⟩ := h24
      refine ⟨n26, ?_⟩
      refine fmX12_hour_L64 hQ ?_ _ _ _ F24 h26
      · intro v4_28 M_29 F27 h27
        unfold qX12_hour_J88 at h27 ⊢
        intro M22_30 eM22_30
        have h30 := h27 M22_30 eM22_30
        have F30 : Ks (fun k j => k = 0 ∨ k = 5 ∨ (13 ≤ k ∧ k ≤ 21) ∨ (k = 1 ∧ (j = 0 ∨ j = 1 ∨ j = 14 ∨ j = 15 ∨ j = 16 ∨ j = 17 ∨ j = 28 ∨ j = 30 ∨ j = 31 ∨ j = 35 ∨ j = 39))) M M22_30 := by rw [eM22_30]; exact (F27).wr (mw_183)
        intro x23_31 g32 g33
        have h31 := h30 x23_31 g32 g33
        obtain ⟨v34, h34⟩ := h31
        refine ⟨v34, ?_⟩
        obtain ⟨h35, h36⟩ := h34
        refine ⟨?_, ?_⟩
        · intro g37
          have h38 := h35 g37
          unfold qX12_hour_J108 at h38 ⊢
          obtain ⟨v39, h39⟩ := h38
          refine ⟨v39, ?_⟩
          refine fmX12_flag h39 ?_
          intro x27_41 M27_42 f40 h40
          have F40 : Ks (fun k j => k = 0 ∨ k = 5 ∨ (13 ≤ k ∧ k ≤ 21) ∨ (k = 1 ∧ (j = 0 ∨ j = 1 ∨ j = 14 ∨ j = 15 ∨ j = 16 ∨ j = 17 ∨ j = 28 ∨ j = 30 ∨ j = 31 ∨ j = 35 ∨ j = 39))) M M27_42 := (F30).tr (f40.mono (fun _ _ h => False.elim h))
          intro g43
          have h44 := h40 g43
          refine fmX12_enters h44 ?_
          intro M28_46 f45 h45
          have F45 : Ks (fun k j => k = 0 ∨ k = 5 ∨ (13 ≤ k ∧ k ≤ 21) ∨ (k = 1 ∧ (j = 0 ∨ j = 1 ∨ j = 14 ∨ j = 15 ∨ j = 16 ∨ j = 17 ∨ j = 28 ∨ j = 30 ∨ j = 31 ∨ j = 35 ∨ j = 39))) M M28_46 := (F40).tr (f45.mono (mo_171))
          intro x29_47 g48 g49
          have h47 := h45 x29_47 g48 g49
          refine fmX12_enters h47 ?_
          intro M30_51 f50 h50
          have F50 : Ks (fun k j => k = 0 ∨ k = 5 ∨ (13 ≤ k ∧ k ≤ 21) ∨ (k = 1 ∧ (j = 0 ∨ j = 1 ∨ j = 14 ∨ j = 15 ∨ j = 16 ∨ j = 17 ∨ j = 28 ∨ j = 30 ∨ j = 31 ∨ j = 35 ∨ j = 39))) M M30_51 := (F45).tr (f50.mono (mo_171))
          obtain ⟨v52, h52⟩ := h50
          refine ⟨v52, ?_⟩
          obtain ⟨h53, h54⟩ := h52
          refine ⟨?_, ?_⟩
          · intro g55
            have h56 := h53 g55
            exact hQ _ _ F50 h56
          · intro g57
            have h58 := h54 g57
            refine fmX12_adds h58 ?_
            intro x33_60 M33_61 f59 h59
            have F59 : Ks (fun k j => k = 0 ∨ k = 5 ∨ (13 ≤ k ∧ k ≤ 21) ∨ (k = 1 ∧ (j = 0 ∨ j = 1 ∨ j = 14 ∨ j = 15 ∨ j = 16 ∨ j = 17 ∨ j = 28 ∨ j = 30 ∨ j = 31 ∨ j = 35 ∨ j = 39))) M M33_61 := (F50).tr (f59.mono (mo_172))
            intro g62
            have h63 := h59 g62
            exact hQ _ _ F59 h63
        · intro g64
          have h65 := h36 g64
          unfold qX12_hour_J108 at h65 ⊢
          obtain ⟨v66, h66⟩ := h65
          refine ⟨v66, ?_⟩
          refine fmX12_flag h66 ?_
          intro x27_68 M27_69 f67 h67
          have F67 : Ks (fun k j => k = 0 ∨ k = 5 ∨ (13 ≤ k ∧ k ≤ 21) ∨ (k = 1 ∧ (j = 0 ∨ j = 1 ∨ j = 14 ∨ j = 15 ∨ j = 16 ∨ j = 17 ∨ j = 28 ∨ j = 30 ∨ j = 31 ∨ j = 35 ∨ j = 39))) M M27_69 := (F30).tr (f67.mono (fun _ _ h => False.elim h))
          intro g70
          have h71 := h67 g70
          refine fmX12_enters h71 ?_
          intro M28_73 f72 h72
          have F72 : Ks (fun k j => k = 0 ∨ k = 5 ∨ (13 ≤ k ∧ k ≤ 21) ∨ (k = 1 ∧ (j = 0 ∨ j = 1 ∨ j = 14 ∨ j = 15 ∨ j = 16 ∨ j = 17 ∨ j = 28 ∨ j = 30 ∨ j = 31 ∨ j = 35 ∨ j = 39))) M M28_73 := (F67).tr (f72.mono (mo_171))
          intro x29_74 g75 g76
          have h74 := h72 x29_74 g75 g76
          refine fmX12_enters h74 ?_
          intro M30_78 f77 h77
          have F77 : Ks (fun k j => k = 0 ∨ k = 5 ∨ (13 ≤ k ∧ k ≤ 21) ∨ (k = 1 ∧ (j = 0 ∨ j = 1 ∨ j = 14 ∨ j = 15 ∨ j = 16 ∨ j = 17 ∨ j = 28 ∨ j = 30 ∨ j = 31 ∨ j = 35 ∨ j = 39))) M M30_78 := (F72).tr (f77.mono (mo_171))
          obtain ⟨v79, h79⟩ := h77
          refine ⟨v79, ?_⟩
          obtain ⟨h80, h81⟩ := h79
          refine ⟨?_, ?_⟩
          · intro g82
            have h83 := h80 g82
            exact hQ _ _ F77 h83
          · intro g84
            have h85 := h81 g84
            refine fmX12_adds h85 ?_
            intro x33_87 M33_88 f86 h86
            have F86 : Ks (fun k j => k = 0 ∨ k = 5 ∨ (13 ≤ k ∧ k ≤ 21) ∨ (k = 1 ∧ (j = 0 ∨ j = 1 ∨ j = 14 ∨ j = 15 ∨ j = 16 ∨ j = 17 ∨ j = 28 ∨ j = 30 ∨ j = 31 ∨ j = 35 ∨ j = 39))) M M33_88 := (F77).tr (f86.mono (mo_172))
            intro g89
            have h90 := h86 g89
            exact hQ _ _ F86 h90
    · intro g91
      have h92 := h21 g91
      exact hQ _ _ F15 h92
theorem fmX12_line_L20  {Q Q' : Int → Mem → Prop} {M0 : Mem} (hQ : ∀ (w0 : Int) (M' : Mem), Ks (fun k j => k = 0 ∨ k = 18 ∨ (k = 1 ∧ (j = 0 ∨ j = 1 ∨ j = 35))) M0 M' → Q w0 M' → Q' w0 M') : ∀ (n : Nat) (v1 : Int) (M : Mem), Ks (fun k j => k = 0 ∨ k = 18 ∨ (k = 1 ∧ (j = 0 ∨ j = 1 ∨ j = 35))) M0 M → qX12_line_L20 Q n v1 M → qX12_line_L20 Q' n v1 M := by
  intro n
  induction n with
  | zero => intro v1 M _ h; exact h.elim
  | succ n ih =>
    intro v1 M hF h
    rw [qX12_line_L20] at h
    rw [qX12_line_L20]
    intro x4_1 g2 g3
    have h1 := h x4_1 g2 g3
    obtain ⟨v4, h4⟩ := h1
    refine ⟨v4, ?_⟩
    obtain ⟨h5, h6⟩ := h4
    refine ⟨?_, ?_⟩
    · intro g7
      have h8 := h5 g7
      intro x7_9 g10 g11
      have h9 := h8 x7_9 g10 g11
      exact hQ _ _ hF h9
    · intro g12
      have h13 := h6 g12
      obtain ⟨v14, h14⟩ := h13
      refine ⟨v14, ?_⟩
      obtain ⟨v15, h15⟩ := h14
      refine ⟨v15, ?_⟩
      intro x10_16 g17 g18
      have h16 := h15 x10_16 g17 g18
      refine fmX12_enters h16 ?_
      intro M11_20 f19 h19
      have F19 : Ks (fun k j => k = 0 ∨ k = 18 ∨ (k = 1 ∧ (j = 0 ∨ j = 1 ∨ j = 35))) M0 M11_20 := (hF).tr (f19.mono (mo_173))
      exact ih _ _ F19 h19
theorem fmX12_line  {M : Mem} {Q Q' : Int → Mem → Prop} (h : qX12_line M Q) (hQ : ∀ (w0 : Int) (M' : Mem), Ks (fun k j => k = 0 ∨ k = 18 ∨ (k = 1 ∧ (j = 0 ∨ j = 1 ∨ j = 35))) M M' → Q w0 M' → Q' w0 M') : qX12_line M Q' := by
  unfold qX12_line at h ⊢
  intro M1_1 eM1_1
  have h1 := h M1_1 eM1_1
  have F1 : Ks (fun k j => k = 0 ∨ k = 18 ∨ (k = 1 ∧ (j = 0 ∨ j = 1 ∨ j = 35))) M M1_1 := by rw [eM1_1]; exact (Ks.rf).wr (mw_184)
  refine fmX12_laysLine h1 ?_
  intro M2_3 f2 h2
  have F2 : Ks (fun k j => k = 0 ∨ k = 18 ∨ (k = 1 ∧ (j = 0 ∨ j = 1 ∨ j = 35))) M M2_3 := (F1).tr (f2.mono (mo_174))
  intro M3_4 eM3_4
  have h4 := h2 M3_4 eM3_4
  have F4 : Ks (fun k j => k = 0 ∨ k = 18 ∨ (k = 1 ∧ (j = 0 ∨ j = 1 ∨ j = 35))) M M3_4 := by rw [eM3_4]; exact (F2).wr (mw_185)
  obtain ⟨n5, h5⟩ := h4
  refine ⟨n5, ?_⟩
  refine fmX12_line_L20 hQ _ _ _ F4 h5
theorem fmX12_copies_L2  {Q Q' : Mem → Prop} {M0 : Mem} (hQ : ∀ (M' : Mem), Ks (fun k j => k = 6) M0 M' → Q M' → Q' M') : ∀ (n : Nat) (v1 : Int) (M : Mem), Ks (fun k j => k = 6) M0 M → qX12_copies_L2 Q n v1 M → qX12_copies_L2 Q' n v1 M := by
  intro n
  induction n with
  | zero => intro v1 M _ h; exact h.elim
  | succ n ih =>
    intro v1 M hF h
    rw [qX12_copies_L2] at h
    rw [qX12_copies_L2]
    obtain ⟨v1, h1⟩ := h
    refine ⟨v1, ?_⟩
    obtain ⟨h2, h3⟩ := h1
    refine ⟨?_, ?_⟩
    · intro g4
      have h5 := h2 g4
      exact hQ _ hF h5
    · intro g6
      have h7 := h3 g6
      obtain ⟨v8, h8⟩ := h7
      refine ⟨v8, ?_⟩
      obtain ⟨v9, h9⟩ := h8
      refine ⟨v9, ?_⟩
      intro x5_10 g11 g12
      have h10 := h9 x5_10 g11 g12
      intro M6_13 eM6_13
      have h13 := h10 M6_13 eM6_13
      have F13 : Ks (fun k j => k = 6) M0 M6_13 := by rw [eM6_13]; exact (hF).wr (mw_186)
      exact ih _ _ F13 h13
theorem fmX12_copies  {M : Mem} {Q Q' : Mem → Prop} (h : qX12_copies M Q) (hQ : ∀ (M' : Mem), Ks (fun k j => k = 6) M M' → Q M' → Q' M') : qX12_copies M Q' := by
  unfold qX12_copies at h ⊢
  obtain ⟨n1, h1⟩ := h
  refine ⟨n1, ?_⟩
  refine fmX12_copies_L2 hQ _ _ _ Ks.rf h1
theorem fmX12_ahead_L39 {p1 : Int} {Q Q' : Int → Mem → Prop} {M0 : Mem} (hQ : ∀ (w0 : Int) (M' : Mem), Ks (fun k j => k = 0 ∨ k = 6 ∨ (13 ≤ k ∧ k ≤ 14) ∨ (16 ≤ k ∧ k ≤ 18) ∨ (k = 1 ∧ (j = 0 ∨ j = 1 ∨ j = 30 ∨ j = 31 ∨ j = 35))) M0 M' → Q w0 M' → Q' w0 M') : ∀ (n : Nat) (v2 : Int) (M : Mem), Ks (fun k j => k = 0 ∨ k = 6 ∨ (13 ≤ k ∧ k ≤ 14) ∨ (16 ≤ k ∧ k ≤ 18) ∨ (k = 1 ∧ (j = 0 ∨ j = 1 ∨ j = 30 ∨ j = 31 ∨ j = 35))) M0 M → qX12_ahead_L39 p1 Q n v2 M → qX12_ahead_L39 p1 Q' n v2 M := by
  intro n
  induction n with
  | zero => intro v2 M _ h; exact h.elim
  | succ n ih =>
    intro v2 M hF h
    rw [qX12_ahead_L39] at h
    rw [qX12_ahead_L39]
    intro x7_1 g2 g3
    have h1 := h x7_1 g2 g3
    obtain ⟨v4, h4⟩ := h1
    refine ⟨v4, ?_⟩
    obtain ⟨h5, h6⟩ := h4
    refine ⟨?_, ?_⟩
    · intro g7
      have h8 := h5 g7
      intro x10_9 g10 g11
      have h9 := h8 x10_9 g10 g11
      exact hQ _ _ hF h9
    · intro g12
      have h13 := h6 g12
      obtain ⟨v14, h14⟩ := h13
      refine ⟨v14, ?_⟩
      obtain ⟨v15, h15⟩ := h14
      refine ⟨v15, ?_⟩
      intro x13_16 g17 g18
      have h16 := h15 x13_16 g17 g18
      refine fmX12_enters h16 ?_
      intro M14_20 f19 h19
      have F19 : Ks (fun k j => k = 0 ∨ k = 6 ∨ (13 ≤ k ∧ k ≤ 14) ∨ (16 ≤ k ∧ k ≤ 18) ∨ (k = 1 ∧ (j = 0 ∨ j = 1 ∨ j = 30 ∨ j = 31 ∨ j = 35))) M0 M14_20 := (hF).tr (f19.mono (mo_175))
      exact ih _ _ F19 h19
theorem fmX12_ahead {p1 : Int} {M : Mem} {Q Q' : Int → Mem → Prop} (h : qX12_ahead p1 M Q) (hQ : ∀ (w0 : Int) (M' : Mem), Ks (fun k j => k = 0 ∨ k = 6 ∨ (13 ≤ k ∧ k ≤ 14) ∨ (16 ≤ k ∧ k ≤ 18) ∨ (k = 1 ∧ (j = 0 ∨ j = 1 ∨ j = 30 ∨ j = 31 ∨ j = 35))) M M' → Q w0 M' → Q' w0 M') : qX12_ahead p1 M Q' := by
  unfold qX12_ahead at h ⊢
  intro M1_1 eM1_1
  have h1 := h M1_1 eM1_1
  have F1 : Ks (fun k j => k = 0 ∨ k = 6 ∨ (13 ≤ k ∧ k ≤ 14) ∨ (16 ≤ k ∧ k ≤ 18) ∨ (k = 1 ∧ (j = 0 ∨ j = 1 ∨ j = 30 ∨ j = 31 ∨ j = 35))) M M1_1 := by rw [eM1_1]; exact (Ks.rf).wr (mw_187)
  refine fmX12_in h1 ?_
  intro x2_3 M2_4 f2 h2
  have F2 : Ks (fun k j => k = 0 ∨ k = 6 ∨ (13 ≤ k ∧ k ≤ 14) ∨ (16 ≤ k ∧ k ≤ 18) ∨ (k = 1 ∧ (j = 0 ∨ j = 1 ∨ j = 30 ∨ j = 31 ∨ j = 35))) M M2_4 := (F1).tr (f2.mono (fun _ _ h => False.elim h))
  intro g5 g6
  have h7 := h2 g5 g6
  obtain ⟨h8, h9⟩ := h7
  refine ⟨?_, ?_⟩
  · intro g10
    have h11 := h8 g10
    refine fmX12_copies h11 ?_
    intro M4_13 f12 h12
    have F12 : Ks (fun k j => k = 0 ∨ k = 6 ∨ (13 ≤ k ∧ k ≤ 14) ∨ (16 ≤ k ∧ k ≤ 18) ∨ (k = 1 ∧ (j = 0 ∨ j = 1 ∨ j = 30 ∨ j = 31 ∨ j = 35))) M M4_13 := (F2).tr (f12.mono (mo_176))
    refine fmX12_goesOn h12 ?_
    intro M5_15 f14 h14
    have F14 : Ks (fun k j => k = 0 ∨ k = 6 ∨ (13 ≤ k ∧ k ≤ 14) ∨ (16 ≤ k ∧ k ≤ 18) ∨ (k = 1 ∧ (j = 0 ∨ j = 1 ∨ j = 30 ∨ j = 31 ∨ j = 35))) M M5_15 := (F12).tr (f14.mono (mo_177))
    intro M6_16 eM6_16
    have h16 := h14 M6_16 eM6_16
    have F16 : Ks (fun k j => k = 0 ∨ k = 6 ∨ (13 ≤ k ∧ k ≤ 14) ∨ (16 ≤ k ∧ k ≤ 18) ∨ (k = 1 ∧ (j = 0 ∨ j = 1 ∨ j = 30 ∨ j = 31 ∨ j = 35))) M M6_16 := by rw [eM6_16]; exact (F14).wr (mw_188)
    obtain ⟨n17, h17⟩ := h16
    refine ⟨n17, ?_⟩
    refine fmX12_ahead_L39 hQ _ _ _ F16 h17
  · intro g18
    have h19 := h9 g18
    exact hQ _ _ F2 h19
theorem fmX12_arrives_L21 {p1 : Int} {X39 X39' : Int → Mem → Prop} {Q Q' : Int → Mem → Prop} {M0 : Mem} (hQ : ∀ (w0 : Int) (M' : Mem), Ks (fun k j => k = 0 ∨ k = 6 ∨ (13 ≤ k ∧ k ≤ 14) ∨ (16 ≤ k ∧ k ≤ 18) ∨ (k = 1 ∧ (j = 0 ∨ j = 1 ∨ j = 30 ∨ j = 31 ∨ j = 35))) M0 M' → Q w0 M' → Q' w0 M') (hX39 : ∀ (w0 : Int) (M' : Mem), Ks (fun k j => k = 0 ∨ k = 6 ∨ (13 ≤ k ∧ k ≤ 14) ∨ (16 ≤ k ∧ k ≤ 18) ∨ (k = 1 ∧ (j = 0 ∨ j = 1 ∨ j = 30 ∨ j = 31 ∨ j = 35))) M0 M' → X39 w0 M' → X39' w0 M') : ∀ (n : Nat) (v2 : Int) (M : Mem), Ks (fun k j => k = 0 ∨ k = 6 ∨ (13 ≤ k ∧ k ≤ 14) ∨ (16 ≤ k ∧ k ≤ 18) ∨ (k = 1 ∧ (j = 0 ∨ j = 1 ∨ j = 30 ∨ j = 31 ∨ j = 35))) M0 M → qX12_arrives_L21 p1 X39 Q n v2 M → qX12_arrives_L21 p1 X39' Q' n v2 M := by
  intro n
  induction n with
  | zero => intro v2 M _ h; exact h.elim
  | succ n ih =>
    intro v2 M hF h
    rw [qX12_arrives_L21] at h
    rw [qX12_arrives_L21]
    obtain ⟨v1, h1⟩ := h
    refine ⟨v1, ?_⟩
    obtain ⟨h2, h3⟩ := h1
    refine ⟨?_, ?_⟩
    · intro g4
      have h5 := h2 g4
      exact hQ _ _ hF h5
    · intro g6
      have h7 := h3 g6
      refine fmX12_isOn h7 ?_
      intro x7_9 M7_10 f8 h8
      have F8 : Ks (fun k j => k = 0 ∨ k = 6 ∨ (13 ≤ k ∧ k ≤ 14) ∨ (16 ≤ k ∧ k ≤ 18) ∨ (k = 1 ∧ (j = 0 ∨ j = 1 ∨ j = 30 ∨ j = 31 ∨ j = 35))) M0 M7_10 := (hF).tr (f8.mono (fun _ _ h => False.elim h))
      intro g11 g12
      have h13 := h8 g11 g12
      obtain ⟨h14, h15⟩ := h13
      refine ⟨?_, ?_⟩
      · intro g16
        have h17 := h14 g16
        refine fmX12_stepGoes h17 ?_
        intro M9_19 f18 h18
        have F18 : Ks (fun k j => k = 0 ∨ k = 6 ∨ (13 ≤ k ∧ k ≤ 14) ∨ (16 ≤ k ∧ k ≤ 18) ∨ (k = 1 ∧ (j = 0 ∨ j = 1 ∨ j = 30 ∨ j = 31 ∨ j = 35))) M0 M9_19 := (F8).tr (f18.mono (mo_177))
        exact ih _ _ F18 h18
      · intro g20
        have h21 := h15 g20
        exact hX39 _ _ F8 h21
theorem fmX12_arrives {p1 : Int} {M : Mem} {Q Q' : Int → Mem → Prop} (h : qX12_arrives p1 M Q) (hQ : ∀ (w0 : Int) (M' : Mem), Ks (fun k j => k = 0 ∨ k = 6 ∨ (13 ≤ k ∧ k ≤ 14) ∨ (16 ≤ k ∧ k ≤ 18) ∨ (k = 1 ∧ (j = 0 ∨ j = 1 ∨ j = 30 ∨ j = 31 ∨ j = 35))) M M' → Q w0 M' → Q' w0 M') : qX12_arrives p1 M Q' := by
  unfold qX12_arrives at h ⊢
  intro M1_1 eM1_1
  have h1 := h M1_1 eM1_1
  have F1 : Ks (fun k j => k = 0 ∨ k = 6 ∨ (13 ≤ k ∧ k ≤ 14) ∨ (16 ≤ k ∧ k ≤ 18) ∨ (k = 1 ∧ (j = 0 ∨ j = 1 ∨ j = 30 ∨ j = 31 ∨ j = 35))) M M1_1 := by rw [eM1_1]; exact (Ks.rf).wr (mw_187)
  refine fmX12_isHearse h1 ?_
  intro x2_3 M2_4 f2 h2
  have F2 : Ks (fun k j => k = 0 ∨ k = 6 ∨ (13 ≤ k ∧ k ≤ 14) ∨ (16 ≤ k ∧ k ≤ 18) ∨ (k = 1 ∧ (j = 0 ∨ j = 1 ∨ j = 30 ∨ j = 31 ∨ j = 35))) M M2_4 := (F1).tr (f2.mono (fun _ _ h => False.elim h))
  intro g5 g6
  have h7 := h2 g5 g6
  obtain ⟨h8, h9⟩ := h7
  refine ⟨?_, ?_⟩
  · intro g10
    have h11 := h8 g10
    refine fmX12_copies h11 ?_
    intro M4_13 f12 h12
    have F12 : Ks (fun k j => k = 0 ∨ k = 6 ∨ (13 ≤ k ∧ k ≤ 14) ∨ (16 ≤ k ∧ k ≤ 18) ∨ (k = 1 ∧ (j = 0 ∨ j = 1 ∨ j = 30 ∨ j = 31 ∨ j = 35))) M M4_13 := (F2).tr (f12.mono (mo_176))
    obtain ⟨n14, h14⟩ := h12
    refine ⟨n14, ?_⟩
    refine fmX12_arrives_L21 hQ ?_ _ _ _ F12 h14
    · intro v2_16 M_17 F15 h15
      intro M11_18 eM11_18
      have h18 := h15 M11_18 eM11_18
      have F18 : Ks (fun k j => k = 0 ∨ k = 6 ∨ (13 ≤ k ∧ k ≤ 14) ∨ (16 ≤ k ∧ k ≤ 18) ∨ (k = 1 ∧ (j = 0 ∨ j = 1 ∨ j = 30 ∨ j = 31 ∨ j = 35))) M M11_18 := by rw [eM11_18]; exact (F15).wr (mw_188)
      obtain ⟨v19, h19⟩ := h18
      refine ⟨v19, ?_⟩
      obtain ⟨v20, h20⟩ := h19
      refine ⟨v20, ?_⟩
      intro x14_21 g22 g23
      have h21 := h20 x14_21 g22 g23
      refine fmX12_enters h21 ?_
      intro M15_25 f24 h24
      have F24 : Ks (fun k j => k = 0 ∨ k = 6 ∨ (13 ≤ k ∧ k ≤ 14) ∨ (16 ≤ k ∧ k ≤ 18) ∨ (k = 1 ∧ (j = 0 ∨ j = 1 ∨ j = 30 ∨ j = 31 ∨ j = 35))) M M15_25 := (F18).tr (f24.mono (mo_175))
      obtain ⟨v26, h26⟩ := h24
      refine ⟨v26, ?_⟩
      exact hQ _ _ F24 h26
  · intro g27
    have h28 := h9 g27
    exact hQ _ _ F2 h28
theorem fmX12_jam_L36 {p1 : Int} {X71 X71' : Int → Mem → Prop} {Q Q' : Int → Mem → Prop} {M0 : Mem} (hQ : ∀ (w0 : Int) (M' : Mem), Ks (fun k j => k = 0 ∨ k = 6 ∨ (13 ≤ k ∧ k ≤ 14) ∨ (16 ≤ k ∧ k ≤ 18) ∨ (k = 1 ∧ (j = 0 ∨ j = 1 ∨ j = 30 ∨ j = 31 ∨ j = 35))) M0 M' → Q w0 M' → Q' w0 M') (hX71 : ∀ (w0 : Int) (M' : Mem), Ks (fun k j => k = 0 ∨ k = 6 ∨ (13 ≤ k ∧ k ≤ 14) ∨ (16 ≤ k ∧ k ≤ 18) ∨ (k = 1 ∧ (j = 0 ∨ j = 1 ∨ j = 30 ∨ j = 31 ∨ j = 35))) M0 M' → X71 w0 M' → X71' w0 M') : ∀ (n : Nat) (v2 v3 : Int) (M : Mem), Ks (fun k j => k = 0 ∨ k = 6 ∨ (13 ≤ k ∧ k ≤ 14) ∨ (16 ≤ k ∧ k ≤ 18) ∨ (k = 1 ∧ (j = 0 ∨ j = 1 ∨ j = 30 ∨ j = 31 ∨ j = 35))) M0 M → qX12_jam_L36 p1 X71 Q n v2 v3 M → qX12_jam_L36 p1 X71' Q' n v2 v3 M := by
  intro n
  induction n with
  | zero => intro v2 v3 M _ h; exact h.elim
  | succ n ih =>
    intro v2 v3 M hF h
    rw [qX12_jam_L36] at h
    rw [qX12_jam_L36]
    intro x6_1 g2 g3
    have h1 := h x6_1 g2 g3
    obtain ⟨v4, h4⟩ := h1
    refine ⟨v4, ?_⟩
    obtain ⟨h5, h6⟩ := h4
    refine ⟨?_, ?_⟩
    · intro g7
      have h8 := h5 g7
      exact hX71 _ _ hF h8
    · intro g9
      have h10 := h6 g9
      obtain ⟨v11, h11⟩ := h10
      refine ⟨v11, ?_⟩
      obtain ⟨v12, h12⟩ := h11
      refine ⟨v12, ?_⟩
      intro x11_13 g14 g15
      have h13 := h12 x11_13 g14 g15
      obtain ⟨v16, h16⟩ := h13
      refine ⟨v16, ?_⟩
      obtain ⟨v17, h17⟩ := h16
      refine ⟨v17, ?_⟩
      intro x14_18 g19 g20
      have h18 := h17 x14_18 g19 g20
      obtain ⟨h21, h22⟩ := h18
      refine ⟨?_, ?_⟩
      · intro g23
        have h24 := h21 g23
        exact ih _ _ _ hF h24
      · intro g25
        have h26 := h22 g25
        exact ih _ _ _ hF h26
theorem fmX12_jam {p1 : Int} {M : Mem} {Q Q' : Int → Mem → Prop} (h : qX12_jam p1 M Q) (hQ : ∀ (w0 : Int) (M' : Mem), Ks (fun k j => k = 0 ∨ k = 6 ∨ (13 ≤ k ∧ k ≤ 14) ∨ (16 ≤ k ∧ k ≤ 18) ∨ (k = 1 ∧ (j = 0 ∨ j = 1 ∨ j = 30 ∨ j = 31 ∨ j = 35))) M M' → Q w0 M' → Q' w0 M') : qX12_jam p1 M Q' := by
  unfold qX12_jam at h ⊢
  intro M1_1 eM1_1
  have h1 := h M1_1 eM1_1
  have F1 : Ks (fun k j => k = 0 ∨ k = 6 ∨ (13 ≤ k ∧ k ≤ 14) ∨ (16 ≤ k ∧ k ≤ 18) ∨ (k = 1 ∧ (j = 0 ∨ j = 1 ∨ j = 30 ∨ j = 31 ∨ j = 35))) M M1_1 := by rw [eM1_1]; exact (Ks.rf).wr (mw_187)
  refine fmX12_in h1 ?_
  intro x2_3 M2_4 f2 h2
  have F2 : Ks (fun k j => k = 0 ∨ k = 6 ∨ (13 ≤ k ∧ k ≤ 14) ∨ (16 ≤ k ∧ k ≤ 18) ∨ (k = 1 ∧ (j = 0 ∨ j = 1 ∨ j = 30 ∨ j = 31 ∨ j = 35))) M M2_4 := (F1).tr (f2.mono (fun _ _ h => False.elim h))
  intro g5 g6
  have h7 := h2 g5 g6
  obtain ⟨h8, h9⟩ := h7
  refine ⟨?_, ?_⟩
  · intro g10
    have h11 := h8 g10
    refine fmX12_copies h11 ?_
    intro M4_13 f12 h12
    have F12 : Ks (fun k j => k = 0 ∨ k = 6 ∨ (13 ≤ k ∧ k ≤ 14) ∨ (16 ≤ k ∧ k ≤ 18) ∨ (k = 1 ∧ (j = 0 ∨ j = 1 ∨ j = 30 ∨ j = 31 ∨ j = 35))) M M4_13 := (F2).tr (f12.mono (mo_176))
    refine fmX12_goesOn h12 ?_
    intro M5_15 f14 h14
    have F14 : Ks (fun k j => k = 0 ∨ k = 6 ∨ (13 ≤ k ∧ k ≤ 14) ∨ (16 ≤ k ∧ k ≤ 18) ∨ (k = 1 ∧ (j = 0 ∨ j = 1 ∨ j = 30 ∨ j = 31 ∨ j = 35))) M M5_15 := (F12).tr (f14.mono (mo_177))
    obtain ⟨n16, h16⟩ := h14
    refine ⟨n16, ?_⟩
    refine fmX12_jam_L36 hQ ?_ _ _ _ _ F14 h16
    · intro v2_18 M_19 F17 h17
      intro M17_20 eM17_20
      have h20 := h17 M17_20 eM17_20
      have F20 : Ks (fun k j => k = 0 ∨ k = 6 ∨ (13 ≤ k ∧ k ≤ 14) ∨ (16 ≤ k ∧ k ≤ 18) ∨ (k = 1 ∧ (j = 0 ∨ j = 1 ∨ j = 30 ∨ j = 31 ∨ j = 35))) M M17_20 := by rw [eM17_20]; exact (F17).wr (mw_188)
      obtain ⟨v21, h21⟩ := h20
      refine ⟨v21, ?_⟩
      obtain ⟨v22, h22⟩ := h21
      refine ⟨v22, ?_⟩
      intro x20_23 g24 g25
      have h23 := h22 x20_23 g24 g25
      refine fmX12_enters h23 ?_
      intro M21_27 f26 h26
      have F26 : Ks (fun k j => k = 0 ∨ k = 6 ∨ (13 ≤ k ∧ k ≤ 14) ∨ (16 ≤ k ∧ k ≤ 18) ∨ (k = 1 ∧ (j = 0 ∨ j = 1 ∨ j = 30 ∨ j = 31 ∨ j = 35))) M M21_27 := (F20).tr (f26.mono (mo_175))
      intro x22_28 g29 g30
      have h28 := h26 x22_28 g29 g30
      refine fmX12_enters h28 ?_
      intro M23_32 f31 h31
      have F31 : Ks (fun k j => k = 0 ∨ k = 6 ∨ (13 ≤ k ∧ k ≤ 14) ∨ (16 ≤ k ∧ k ≤ 18) ∨ (k = 1 ∧ (j = 0 ∨ j = 1 ∨ j = 30 ∨ j = 31 ∨ j = 35))) M M23_32 := (F26).tr (f31.mono (mo_175))
      obtain ⟨v33, h33⟩ := h31
      refine ⟨v33, ?_⟩
      exact hQ _ _ F31 h33
  · intro g34
    have h35 := h9 g34
    exact hQ _ _ F2 h35
theorem fmX12_isAhead {k0 : Nat} {p1 : Int} {p2 : Int} {M : Mem} {Q Q' : Int → Mem → Prop} (h : qX12_isAhead k0 p1 p2 M Q) (hQ : ∀ (w0 : Int) (M' : Mem), Ks (fun _ _ => False) M M' → Q w0 M' → Q' w0 M') : qX12_isAhead k0 p1 p2 M Q' := by
  unfold qX12_isAhead at h ⊢
  refine fmX12_isOn h ?_
  intro x1_2 M1_3 f1 h1
  have F1 : Ks (fun _ _ => False) M M1_3 := (Ks.rf).tr (f1.mono (fun _ _ h => False.elim h))
  intro g4 g5
  have h6 := h1 g4 g5
  obtain ⟨h7, h8⟩ := h6
  refine ⟨?_, ?_⟩
  · intro g9
    have h10 := h7 g9
    refine fmX12_isOn h10 ?_
    intro x3_12 M3_13 f11 h11
    have F11 : Ks (fun _ _ => False) M M3_13 := (F1).tr (f11.mono (fun _ _ h => False.elim h))
    intro g14 g15
    have h16 := h11 g14 g15
    obtain ⟨h17, h18⟩ := h16
    refine ⟨?_, ?_⟩
    · intro g19
      have h20 := h17 g19
      exact hQ _ _ F11 h20
    · intro g21
      have h22 := h18 g21
      obtain ⟨v23, h23⟩ := h22
      refine ⟨v23, ?_⟩
      obtain ⟨v24, h24⟩ := h23
      refine ⟨v24, ?_⟩
      intro x7_25 g26 g27
      have h25 := h24 x7_25 g26 g27
      obtain ⟨v28, h28⟩ := h25
      refine ⟨v28, ?_⟩
      obtain ⟨v29, h29⟩ := h28
      refine ⟨v29, ?_⟩
      intro x10_30 g31 g32
      have h30 := h29 x10_30 g31 g32
      obtain ⟨h33, h34⟩ := h30
      refine ⟨?_, ?_⟩
      · intro g35
        have h36 := h33 g35
        exact hQ _ _ F11 h36
      · intro g37
        have h38 := h34 g37
        exact hQ _ _ F11 h38
  · intro g39
    have h40 := h8 g39
    refine fmX12_isOn h40 ?_
    intro x12_42 M12_43 f41 h41
    have F41 : Ks (fun _ _ => False) M M12_43 := (F1).tr (f41.mono (fun _ _ h => False.elim h))
    intro g44 g45
    have h46 := h41 g44 g45
    obtain ⟨h47, h48⟩ := h46
    refine ⟨?_, ?_⟩
    · intro g49
      have h50 := h47 g49
      exact hQ _ _ F41 h50
    · intro g51
      have h52 := h48 g51
      obtain ⟨v53, h53⟩ := h52
      refine ⟨v53, ?_⟩
      obtain ⟨v54, h54⟩ := h53
      refine ⟨v54, ?_⟩
      intro x16_55 g56 g57
      have h55 := h54 x16_55 g56 g57
      obtain ⟨v58, h58⟩ := h55
      refine ⟨v58, ?_⟩
      obtain ⟨v59, h59⟩ := h58
      refine ⟨v59, ?_⟩
      intro x19_60 g61 g62
      have h60 := h59 x19_60 g61 g62
      obtain ⟨h63, h64⟩ := h60
      refine ⟨?_, ?_⟩
      · intro g65
        have h66 := h63 g65
        exact hQ _ _ F41 h66
      · intro g67
        have h68 := h64 g67
        exact hQ _ _ F41 h68
theorem fmX12_passes_L71 {p1 : Int} {p2 : Int} {X97 X97' : Int → Mem → Prop} {Q Q' : Int → Mem → Prop} {M0 : Mem} (hQ : ∀ (w0 : Int) (M' : Mem), Ks (fun k j => k = 0 ∨ k = 6 ∨ (13 ≤ k ∧ k ≤ 14) ∨ (16 ≤ k ∧ k ≤ 18) ∨ (k = 1 ∧ (j = 0 ∨ j = 1 ∨ j = 30 ∨ j = 31 ∨ j = 35))) M0 M' → Q w0 M' → Q' w0 M') (hX97 : ∀ (w0 : Int) (M' : Mem), Ks (fun k j => k = 0 ∨ k = 6 ∨ (13 ≤ k ∧ k ≤ 14) ∨ (16 ≤ k ∧ k ≤ 18) ∨ (k = 1 ∧ (j = 0 ∨ j = 1 ∨ j = 30 ∨ j = 31 ∨ j = 35))) M0 M' → X97 w0 M' → X97' w0 M') : ∀ (n : Nat) (v3 : Int) (M : Mem), Ks (fun k j => k = 0 ∨ k = 6 ∨ (13 ≤ k ∧ k ≤ 14) ∨ (16 ≤ k ∧ k ≤ 18) ∨ (k = 1 ∧ (j = 0 ∨ j = 1 ∨ j = 30 ∨ j = 31 ∨ j = 35))) M0 M → qX12_passes_L71 p1 p2 X97 Q n v3 M → qX12_passes_L71 p1 p2 X97' Q' n v3 M := by
  intro n
  induction n with
  | zero => intro v3 M _ h; exact h.elim
  | succ n ih =>
    intro v3 M hF h
    rw [qX12_passes_L71] at h
    rw [qX12_passes_L71]
    obtain ⟨v1, h1⟩ := h
    refine ⟨v1, ?_⟩
    obtain ⟨h2, h3⟩ := h1
    refine ⟨?_, ?_⟩
    · intro g4
      have h5 := h2 g4
      exact hQ _ _ hF h5
    · intro g6
      have h7 := h3 g6
      refine fmX12_stepGoes h7 ?_
      intro M16_9 f8 h8
      have F8 : Ks (fun k j => k = 0 ∨ k = 6 ∨ (13 ≤ k ∧ k ≤ 14) ∨ (16 ≤ k ∧ k ≤ 18) ∨ (k = 1 ∧ (j = 0 ∨ j = 1 ∨ j = 30 ∨ j = 31 ∨ j = 35))) M0 M16_9 := (hF).tr (f8.mono (mo_177))
      refine fmX12_isAhead h8 ?_
      intro x17_11 M17_12 f10 h10
      have F10 : Ks (fun k j => k = 0 ∨ k = 6 ∨ (13 ≤ k ∧ k ≤ 14) ∨ (16 ≤ k ∧ k ≤ 18) ∨ (k = 1 ∧ (j = 0 ∨ j = 1 ∨ j = 30 ∨ j = 31 ∨ j = 35))) M0 M17_12 := (F8).tr (f10.mono (fun _ _ h => False.elim h))
      intro g13 g14
      have h15 := h10 g13 g14
      obtain ⟨h16, h17⟩ := h15
      refine ⟨?_, ?_⟩
      · intro g18
        have h19 := h16 g18
        exact ih _ _ F10 h19
      · intro g20
        have h21 := h17 g20
        exact hX97 _ _ F10 h21
theorem fmX12_passes {p1 : Int} {p2 : Int} {M : Mem} {Q Q' : Int → Mem → Prop} (h : qX12_passes p1 p2 M Q) (hQ : ∀ (w0 : Int) (M' : Mem), Ks (fun k j => k = 0 ∨ k = 6 ∨ (13 ≤ k ∧ k ≤ 14) ∨ (16 ≤ k ∧ k ≤ 18) ∨ (k = 1 ∧ (j = 0 ∨ j = 1 ∨ j = 30 ∨ j = 31 ∨ j = 35))) M M' → Q w0 M' → Q' w0 M') : qX12_passes p1 p2 M Q' := by
  unfold qX12_passes at h ⊢
  intro M1_1 eM1_1
  have h1 := h M1_1 eM1_1
  have F1 : Ks (fun k j => k = 0 ∨ k = 6 ∨ (13 ≤ k ∧ k ≤ 14) ∨ (16 ≤ k ∧ k ≤ 18) ∨ (k = 1 ∧ (j = 0 ∨ j = 1 ∨ j = 30 ∨ j = 31 ∨ j = 35))) M M1_1 := by rw [eM1_1]; exact (Ks.rf).wr (mw_187)
  refine fmX12_isHearse h1 ?_
  intro x2_3 M2_4 f2 h2
  have F2 : Ks (fun k j => k = 0 ∨ k = 6 ∨ (13 ≤ k ∧ k ≤ 14) ∨ (16 ≤ k ∧ k ≤ 18) ∨ (k = 1 ∧ (j = 0 ∨ j = 1 ∨ j = 30 ∨ j = 31 ∨ j = 35))) M M2_4 := (F1).tr (f2.mono (fun _ _ h => False.elim h))
  intro g5 g6
  have h7 := h2 g5 g6
  obtain ⟨h8, h9⟩ := h7
  refine ⟨?_, ?_⟩
  · intro g10
    have h11 := h8 g10
    exact hQ _ _ F2 h11
  · intro g12
    have h13 := h9 g12
    refine fmX12_isHearse h13 ?_
    intro x4_15 M4_16 f14 h14
    have F14 : Ks (fun k j => k = 0 ∨ k = 6 ∨ (13 ≤ k ∧ k ≤ 14) ∨ (16 ≤ k ∧ k ≤ 18) ∨ (k = 1 ∧ (j = 0 ∨ j = 1 ∨ j = 30 ∨ j = 31 ∨ j = 35))) M M4_16 := (F2).tr (f14.mono (fun _ _ h => False.elim h))
    intro g17 g18
    have h19 := h14 g17 g18
    obtain ⟨h20, h21⟩ := h19
    refine ⟨?_, ?_⟩
    · intro g22
      have h23 := h20 g22
      exact hQ _ _ F14 h23
    · intro g24
      have h25 := h21 g24
      obtain ⟨h26, h27⟩ := h25
      refine ⟨?_, ?_⟩
      · intro g28
        have h29 := h26 g28
        refine fmX12_isOn h29 ?_
        intro x7_31 M7_32 f30 h30
        have F30 : Ks (fun k j => k = 0 ∨ k = 6 ∨ (13 ≤ k ∧ k ≤ 14) ∨ (16 ≤ k ∧ k ≤ 18) ∨ (k = 1 ∧ (j = 0 ∨ j = 1 ∨ j = 30 ∨ j = 31 ∨ j = 35))) M M7_32 := (F14).tr (f30.mono (fun _ _ h => False.elim h))
        intro g33 g34
        have h35 := h30 g33 g34
        obtain ⟨h36, h37⟩ := h35
        refine ⟨?_, ?_⟩
        · intro g38
          have h39 := h36 g38
          exact hQ _ _ F30 h39
        · intro g40
          have h41 := h37 g40
          refine fmX12_isOn h41 ?_
          intro x9_43 M9_44 f42 h42
          have F42 : Ks (fun k j => k = 0 ∨ k = 6 ∨ (13 ≤ k ∧ k ≤ 14) ∨ (16 ≤ k ∧ k ≤ 18) ∨ (k = 1 ∧ (j = 0 ∨ j = 1 ∨ j = 30 ∨ j = 31 ∨ j = 35))) M M9_44 := (F30).tr (f42.mono (fun _ _ h => False.elim h))
          intro g45 g46
          have h47 := h42 g45 g46
          obtain ⟨h48, h49⟩ := h47
          refine ⟨?_, ?_⟩
          · intro g50
            have h51 := h48 g50
            exact hQ _ _ F42 h51
          · intro g52
            have h53 := h49 g52
            refine fmX12_isAhead h53 ?_
            intro x11_55 M11_56 f54 h54
            have F54 : Ks (fun k j => k = 0 ∨ k = 6 ∨ (13 ≤ k ∧ k ≤ 14) ∨ (16 ≤ k ∧ k ≤ 18) ∨ (k = 1 ∧ (j = 0 ∨ j = 1 ∨ j = 30 ∨ j = 31 ∨ j = 35))) M M11_56 := (F42).tr (f54.mono (fun _ _ h => False.elim h))
            intro g57 g58
            have h59 := h54 g57 g58
            obtain ⟨h60, h61⟩ := h59
            refine ⟨?_, ?_⟩
            · intro g62
              have h63 := h60 g62
              refine fmX12_copies h63 ?_
              intro M13_65 f64 h64
              have F64 : Ks (fun k j => k = 0 ∨ k = 6 ∨ (13 ≤ k ∧ k ≤ 14) ∨ (16 ≤ k ∧ k ≤ 18) ∨ (k = 1 ∧ (j = 0 ∨ j = 1 ∨ j = 30 ∨ j = 31 ∨ j = 35))) M M13_65 := (F54).tr (f64.mono (mo_176))
              obtain ⟨n66, h66⟩ := h64
              refine ⟨n66, ?_⟩
              refine fmX12_passes_L71 hQ ?_ _ _ _ F64 h66
              · intro v3_68 M_69 F67 h67
                intro M20_70 eM20_70
                have h70 := h67 M20_70 eM20_70
                have F70 : Ks (fun k j => k = 0 ∨ k = 6 ∨ (13 ≤ k ∧ k ≤ 14) ∨ (16 ≤ k ∧ k ≤ 18) ∨ (k = 1 ∧ (j = 0 ∨ j = 1 ∨ j = 30 ∨ j = 31 ∨ j = 35))) M M20_70 := by rw [eM20_70]; exact (F67).wr (mw_188)
                obtain ⟨v71, h71⟩ := h70
                refine ⟨v71, ?_⟩
                obtain ⟨v72, h72⟩ := h71
                refine ⟨v72, ?_⟩
                intro x23_73 g74 g75
                have h73 := h72 x23_73 g74 g75
                refine fmX12_enters h73 ?_
                intro M24_77 f76 h76
                have F76 : Ks (fun k j => k = 0 ∨ k = 6 ∨ (13 ≤ k ∧ k ≤ 14) ∨ (16 ≤ k ∧ k ≤ 18) ∨ (k = 1 ∧ (j = 0 ∨ j = 1 ∨ j = 30 ∨ j = 31 ∨ j = 35))) M M24_77 := (F70).tr (f76.mono (mo_175))
                obtain ⟨v78, h78⟩ := h76
                refine ⟨v78, ?_⟩
                exact hQ _ _ F76 h78
            · intro g79
              have h80 := h61 g79
              exact hQ _ _ F54 h80
      · intro g81
        have h82 := h27 g81
        exact hQ _ _ F14 h82
theorem fmX12_ends_L30 {p1 : Int} {X48 X48' : Int → Mem → Prop} {Q Q' : Int → Mem → Prop} {M0 : Mem} (hQ : ∀ (w0 : Int) (M' : Mem), Ks (fun k j => k = 0 ∨ k = 6 ∨ (13 ≤ k ∧ k ≤ 14) ∨ (16 ≤ k ∧ k ≤ 18) ∨ (k = 1 ∧ (j = 0 ∨ j = 1 ∨ j = 30 ∨ j = 31 ∨ j = 35))) M0 M' → Q w0 M' → Q' w0 M') (hX48 : ∀ (w0 : Int) (M' : Mem), Ks (fun k j => k = 0 ∨ k = 6 ∨ (13 ≤ k ∧ k ≤ 14) ∨ (16 ≤ k ∧ k ≤ 18) ∨ (k = 1 ∧ (j = 0 ∨ j = 1 ∨ j = 30 ∨ j = 31 ∨ j = 35))) M0 M' → X48 w0 M' → X48' w0 M') : ∀ (n : Nat) (v2 : Int) (M : Mem), Ks (fun k j => k = 0 ∨ k = 6 ∨ (13 ≤ k ∧ k ≤ 14) ∨ (16 ≤ k ∧ k ≤ 18) ∨ (k = 1 ∧ (j = 0 ∨ j = 1 ∨ j = 30 ∨ j = 31 ∨ j = 35))) M0 M → qX12_ends_L30 p1 X48 Q n v2 M → qX12_ends_L30 p1 X48' Q' n v2 M := by
  intro n
  induction n with
  | zero => intro v2 M _ h; exact h.elim
  | succ n ih =>
    intro v2 M hF h
    rw [qX12_ends_L30] at h
    rw [qX12_ends_L30]
    obtain ⟨v1, h1⟩ := h
    refine ⟨v1, ?_⟩
    obtain ⟨h2, h3⟩ := h1
    refine ⟨?_, ?_⟩
    · intro g4
      have h5 := h2 g4
      exact hQ _ _ hF h5
    · intro g6
      have h7 := h3 g6
      refine fmX12_isEnded h7 ?_
      intro x8_9 M8_10 f8 h8
      have F8 : Ks (fun k j => k = 0 ∨ k = 6 ∨ (13 ≤ k ∧ k ≤ 14) ∨ (16 ≤ k ∧ k ≤ 18) ∨ (k = 1 ∧ (j = 0 ∨ j = 1 ∨ j = 30 ∨ j = 31 ∨ j = 35))) M0 M8_10 := (hF).tr (f8.mono (fun _ _ h => False.elim h))
      intro g11 g12
      have h13 := h8 g11 g12
      obtain ⟨h14, h15⟩ := h13
      refine ⟨?_, ?_⟩
      · intro g16
        have h17 := h14 g16
        refine fmX12_stepGoes h17 ?_
        intro M10_19 f18 h18
        have F18 : Ks (fun k j => k = 0 ∨ k = 6 ∨ (13 ≤ k ∧ k ≤ 14) ∨ (16 ≤ k ∧ k ≤ 18) ∨ (k = 1 ∧ (j = 0 ∨ j = 1 ∨ j = 30 ∨ j = 31 ∨ j = 35))) M0 M10_19 := (F8).tr (f18.mono (mo_177))
        exact ih _ _ F18 h18
      · intro g20
        have h21 := h15 g20
        exact hX48 _ _ F8 h21
theorem fmX12_ends {p1 : Int} {M : Mem} {Q Q' : Int → Mem → Prop} (h : qX12_ends p1 M Q) (hQ : ∀ (w0 : Int) (M' : Mem), Ks (fun k j => k = 0 ∨ k = 6 ∨ (13 ≤ k ∧ k ≤ 14) ∨ (16 ≤ k ∧ k ≤ 18) ∨ (k = 1 ∧ (j = 0 ∨ j = 1 ∨ j = 30 ∨ j = 31 ∨ j = 35))) M M' → Q w0 M' → Q' w0 M') : qX12_ends p1 M Q' := by
  unfold qX12_ends at h ⊢
  intro M1_1 eM1_1
  have h1 := h M1_1 eM1_1
  have F1 : Ks (fun k j => k = 0 ∨ k = 6 ∨ (13 ≤ k ∧ k ≤ 14) ∨ (16 ≤ k ∧ k ≤ 18) ∨ (k = 1 ∧ (j = 0 ∨ j = 1 ∨ j = 30 ∨ j = 31 ∨ j = 35))) M M1_1 := by rw [eM1_1]; exact (Ks.rf).wr (mw_187)
  refine fmX12_isMourner h1 ?_
  intro x2_3 M2_4 f2 h2
  have F2 : Ks (fun k j => k = 0 ∨ k = 6 ∨ (13 ≤ k ∧ k ≤ 14) ∨ (16 ≤ k ∧ k ≤ 18) ∨ (k = 1 ∧ (j = 0 ∨ j = 1 ∨ j = 30 ∨ j = 31 ∨ j = 35))) M M2_4 := (F1).tr (f2.mono (fun _ _ h => False.elim h))
  intro g5 g6
  have h7 := h2 g5 g6
  obtain ⟨h8, h9⟩ := h7
  refine ⟨?_, ?_⟩
  · intro g10
    have h11 := h8 g10
    refine fmX12_copies h11 ?_
    intro M4_13 f12 h12
    have F12 : Ks (fun k j => k = 0 ∨ k = 6 ∨ (13 ≤ k ∧ k ≤ 14) ∨ (16 ≤ k ∧ k ≤ 18) ∨ (k = 1 ∧ (j = 0 ∨ j = 1 ∨ j = 30 ∨ j = 31 ∨ j = 35))) M M4_13 := (F2).tr (f12.mono (mo_176))
    refine fmX12_goesOn h12 ?_
    intro M5_15 f14 h14
    have F14 : Ks (fun k j => k = 0 ∨ k = 6 ∨ (13 ≤ k ∧ k ≤ 14) ∨ (16 ≤ k ∧ k ≤ 18) ∨ (k = 1 ∧ (j = 0 ∨ j = 1 ∨ j = 30 ∨ j = 31 ∨ j = 35))) M M5_15 := (F12).tr (f14.mono (mo_177))
    obtain ⟨n16, h16⟩ := h14
    refine ⟨n16, ?_⟩
    refine fmX12_ends_L30 hQ ?_ _ _ _ F14 h16
    · intro v2_18 M_19 F17 h17
      intro M12_20 eM12_20
      have h20 := h17 M12_20 eM12_20
      have F20 : Ks (fun k j => k = 0 ∨ k = 6 ∨ (13 ≤ k ∧ k ≤ 14) ∨ (16 ≤ k ∧ k ≤ 18) ∨ (k = 1 ∧ (j = 0 ∨ j = 1 ∨ j = 30 ∨ j = 31 ∨ j = 35))) M M12_20 := by rw [eM12_20]; exact (F17).wr (mw_188)
      obtain ⟨v21, h21⟩ := h20
      refine ⟨v21, ?_⟩
      refine fmX12_enters h21 ?_
      intro M14_23 f22 h22
      have F22 : Ks (fun k j => k = 0 ∨ k = 6 ∨ (13 ≤ k ∧ k ≤ 14) ∨ (16 ≤ k ∧ k ≤ 18) ∨ (k = 1 ∧ (j = 0 ∨ j = 1 ∨ j = 30 ∨ j = 31 ∨ j = 35))) M M14_23 := (F20).tr (f22.mono (mo_175))
      obtain ⟨v24, h24⟩ := h22
      refine ⟨v24, ?_⟩
      obtain ⟨v25, h25⟩ := h24
      refine ⟨v25, ?_⟩
      intro x17_26 g27 g28
      have h26 := h25 x17_26 g27 g28
      refine fmX12_enters h26 ?_
      intro M18_30 f29 h29
      have F29 : Ks (fun k j => k = 0 ∨ k = 6 ∨ (13 ≤ k ∧ k ≤ 14) ∨ (16 ≤ k ∧ k ≤ 18) ∨ (k = 1 ∧ (j = 0 ∨ j = 1 ∨ j = 30 ∨ j = 31 ∨ j = 35))) M M18_30 := (F22).tr (f29.mono (mo_175))
      obtain ⟨v31, h31⟩ := h29
      refine ⟨v31, ?_⟩
      obtain ⟨v32, h32⟩ := h31
      refine ⟨v32, ?_⟩
      intro x21_33 g34 g35
      have h33 := h32 x21_33 g34 g35
      exact hQ _ _ F29 h33
  · intro g36
    have h37 := h9 g36
    exact hQ _ _ F2 h37
theorem fmX12_endedBy_L5 {k1 : Nat} {p2 : Int} {Q Q' : Int → Mem → Prop} {M0 : Mem} (hQ : ∀ (w0 : Int) (M' : Mem), Ks (fun _ _ => False) M0 M' → Q w0 M' → Q' w0 M') : ∀ (n : Nat) (v3 v4 : Int) (M : Mem), Ks (fun _ _ => False) M0 M → qX12_endedBy_L5 k1 p2 Q n v3 v4 M → qX12_endedBy_L5 k1 p2 Q' n v3 v4 M := by
  intro n
  induction n with
  | zero => intro v3 v4 M _ h; exact h.elim
  | succ n ih =>
    intro v3 v4 M hF h
    rw [qX12_endedBy_L5] at h
    rw [qX12_endedBy_L5]
    intro x1_1 g2 g3
    have h1 := h x1_1 g2 g3
    obtain ⟨v4, h4⟩ := h1
    refine ⟨v4, ?_⟩
    obtain ⟨h5, h6⟩ := h4
    refine ⟨?_, ?_⟩
    · intro g7
      have h8 := h5 g7
      obtain ⟨v9, h9⟩ := h8
      refine ⟨v9, ?_⟩
      exact hQ _ _ hF h9
    · intro g10
      have h11 := h6 g10
      refine fmX12_isEnded h11 ?_
      intro x5_13 M5_14 f12 h12
      have F12 : Ks (fun _ _ => False) M0 M5_14 := (hF).tr (f12.mono (fun _ _ h => False.elim h))
      intro g15 g16
      have h17 := h12 g15 g16
      obtain ⟨h18, h19⟩ := h17
      refine ⟨?_, ?_⟩
      · intro g20
        have h21 := h18 g20
        intro x7_22 g23 g24
        have h22 := h21 x7_22 g23 g24
        exact ih _ _ _ F12 h22
      · intro g25
        have h26 := h19 g25
        obtain ⟨v27, h27⟩ := h26
        refine ⟨v27, ?_⟩
        obtain ⟨v28, h28⟩ := h27
        refine ⟨v28, ?_⟩
        intro x10_29 g30 g31
        have h29 := h28 x10_29 g30 g31
        obtain ⟨v32, h32⟩ := h29
        refine ⟨v32, ?_⟩
        obtain ⟨v33, h33⟩ := h32
        refine ⟨v33, ?_⟩
        intro x13_34 g35 g36
        have h34 := h33 x13_34 g35 g36
        obtain ⟨h37, h38⟩ := h34
        refine ⟨?_, ?_⟩
        · intro g39
          have h40 := h37 g39
          unfold qX12_endedBy_J46 at h40 ⊢
          obtain ⟨v41, h41⟩ := h40
          refine ⟨v41, ?_⟩
          obtain ⟨h42, h43⟩ := h41
          refine ⟨?_, ?_⟩
          · intro g44
            have h45 := h42 g44
            intro x17_46 g47 g48
            have h46 := h45 x17_46 g47 g48
            exact ih _ _ _ F12 h46
          · intro g49
            have h50 := h43 g49
            intro x18_51 g52 g53
            have h51 := h50 x18_51 g52 g53
            intro x19_54 g55 g56
            have h54 := h51 x19_54 g55 g56
            exact ih _ _ _ F12 h54
        · intro g57
          have h58 := h38 g57
          unfold qX12_endedBy_J46 at h58 ⊢
          obtain ⟨v59, h59⟩ := h58
          refine ⟨v59, ?_⟩
          obtain ⟨h60, h61⟩ := h59
          refine ⟨?_, ?_⟩
          · intro g62
            have h63 := h60 g62
            intro x17_64 g65 g66
            have h64 := h63 x17_64 g65 g66
            exact ih _ _ _ F12 h64
          · intro g67
            have h68 := h61 g67
            intro x18_69 g70 g71
            have h69 := h68 x18_69 g70 g71
            intro x19_72 g73 g74
            have h72 := h69 x19_72 g73 g74
            exact ih _ _ _ F12 h72
theorem fmX12_endedBy {k1 : Nat} {p2 : Int} {M : Mem} {Q Q' : Int → Mem → Prop} (h : qX12_endedBy k1 p2 M Q) (hQ : ∀ (w0 : Int) (M' : Mem), Ks (fun _ _ => False) M M' → Q w0 M' → Q' w0 M') : qX12_endedBy k1 p2 M Q' := by
  unfold qX12_endedBy at h ⊢
  obtain ⟨n1, h1⟩ := h
  refine ⟨n1, ?_⟩
  refine fmX12_endedBy_L5 hQ _ _ _ _ Ks.rf h1
theorem fmX12_rightThen_L4  {X50 X50' : Mem → Prop} {Q Q' : Int → Mem → Prop} {M0 : Mem} (hQ : ∀ (w0 : Int) (M' : Mem), Ks (fun k j => k = 6 ∨ (13 ≤ k ∧ k ≤ 14) ∨ (16 ≤ k ∧ k ≤ 18) ∨ (k = 1 ∧ (j = 30 ∨ j = 31 ∨ j = 35))) M0 M' → Q w0 M' → Q' w0 M') (hX50 : ∀ (M' : Mem), Ks (fun k j => k = 6 ∨ (13 ≤ k ∧ k ≤ 14) ∨ (16 ≤ k ∧ k ≤ 18) ∨ (k = 1 ∧ (j = 30 ∨ j = 31 ∨ j = 35))) M0 M' → X50 M' → X50' M') : ∀ (n : Nat) (v1 v2 : Int) (M : Mem), Ks (fun k j => k = 6 ∨ (13 ≤ k ∧ k ≤ 14) ∨ (16 ≤ k ∧ k ≤ 18) ∨ (k = 1 ∧ (j = 30 ∨ j = 31 ∨ j = 35))) M0 M → qX12_rightThen_L4 X50 Q n v1 v2 M → qX12_rightThen_L4 X50' Q' n v1 v2 M := by
  intro n
  induction n with
  | zero => intro v1 v2 M _ h; exact h.elim
  | succ n ih =>
    intro v1 v2 M hF h
    rw [qX12_rightThen_L4] at h
    rw [qX12_rightThen_L4]
    obtain ⟨v1, h1⟩ := h
    refine ⟨v1, ?_⟩
    obtain ⟨h2, h3⟩ := h1
    refine ⟨?_, ?_⟩
    · intro g4
      have h5 := h2 g4
      exact hX50 _ hF h5
    · intro g6
      have h7 := h3 g6
      obtain ⟨v8, h8⟩ := h7
      refine ⟨v8, ?_⟩
      obtain ⟨h9, h10⟩ := h8
      refine ⟨?_, ?_⟩
      · intro g11
        have h12 := h9 g11
        exact hX50 _ hF h12
      · intro g13
        have h14 := h10 g13
        refine fmX12_laysLine h14 ?_
        intro M5_16 f15 h15
        have F15 : Ks (fun k j => k = 6 ∨ (13 ≤ k ∧ k ≤ 14) ∨ (16 ≤ k ∧ k ≤ 18) ∨ (k = 1 ∧ (j = 30 ∨ j = 31 ∨ j = 35))) M0 M5_16 := (hF).tr (f15.mono (mo_178))
        intro x6_17 g18 g19
        have h17 := h15 x6_17 g18 g19
        obtain ⟨h20, h21⟩ := h17
        refine ⟨?_, ?_⟩
        · intro g22
          have h23 := h20 g22
          unfold qX12_rightThen_J35 at h23 ⊢
          refine fmX12_stepGoes h23 ?_
          intro M8_25 f24 h24
          have F24 : Ks (fun k j => k = 6 ∨ (13 ≤ k ∧ k ≤ 14) ∨ (16 ≤ k ∧ k ≤ 18) ∨ (k = 1 ∧ (j = 30 ∨ j = 31 ∨ j = 35))) M0 M8_25 := (F15).tr (f24.mono (mo_179))
          exact ih _ _ _ F24 h24
        · intro g26
          have h27 := h21 g26
          unfold qX12_rightThen_J35 at h27 ⊢
          refine fmX12_stepGoes h27 ?_
          intro M8_29 f28 h28
          have F28 : Ks (fun k j => k = 6 ∨ (13 ≤ k ∧ k ≤ 14) ∨ (16 ≤ k ∧ k ≤ 18) ∨ (k = 1 ∧ (j = 30 ∨ j = 31 ∨ j = 35))) M0 M8_29 := (F15).tr (f28.mono (mo_179))
          exact ih _ _ _ F28 h28
theorem fmX12_rightThen  {M : Mem} {Q Q' : Int → Mem → Prop} (h : qX12_rightThen M Q) (hQ : ∀ (w0 : Int) (M' : Mem), Ks (fun k j => k = 6 ∨ (13 ≤ k ∧ k ≤ 14) ∨ (16 ≤ k ∧ k ≤ 18) ∨ (k = 1 ∧ (j = 30 ∨ j = 31 ∨ j = 35))) M M' → Q w0 M' → Q' w0 M') : qX12_rightThen M Q' := by
  unfold qX12_rightThen at h ⊢
  obtain ⟨n1, h1⟩ := h
  refine ⟨n1, ?_⟩
  refine fmX12_rightThen_L4 hQ ?_ _ _ _ _ Ks.rf h1
  · intro M_3 F2 h2
    unfold qX12_rightThen_J50 at h2 ⊢
    refine fmX12_endedBy h2 ?_
    intro x10_5 M10_6 f4 h4
    have F4 : Ks (fun k j => k = 6 ∨ (13 ≤ k ∧ k ≤ 14) ∨ (16 ≤ k ∧ k ≤ 18) ∨ (k = 1 ∧ (j = 30 ∨ j = 31 ∨ j = 35))) M M10_6 := (F2).tr (f4.mono (fun _ _ h => False.elim h))
    intro g7
    have h8 := h4 g7
    exact hQ _ _ F4 h8
theorem fmX12_right  {M : Mem} {Q Q' : Int → Mem → Prop} (h : qX12_right M Q) (hQ : ∀ (w0 : Int) (M' : Mem), Ks (fun k j => k = 0 ∨ k = 6 ∨ (13 ≤ k ∧ k ≤ 14) ∨ (16 ≤ k ∧ k ≤ 18) ∨ (k = 1 ∧ (j = 0 ∨ j = 1 ∨ j = 30 ∨ j = 31 ∨ j = 35))) M M' → Q w0 M' → Q' w0 M') : qX12_right M Q' := by
  unfold qX12_right at h ⊢
  intro M1_1 eM1_1
  have h1 := h M1_1 eM1_1
  have F1 : Ks (fun k j => k = 0 ∨ k = 6 ∨ (13 ≤ k ∧ k ≤ 14) ∨ (16 ≤ k ∧ k ≤ 18) ∨ (k = 1 ∧ (j = 0 ∨ j = 1 ∨ j = 30 ∨ j = 31 ∨ j = 35))) M M1_1 := by rw [eM1_1]; exact (Ks.rf).wr (mw_187)
  refine fmX12_copies h1 ?_
  intro M2_3 f2 h2
  have F2 : Ks (fun k j => k = 0 ∨ k = 6 ∨ (13 ≤ k ∧ k ≤ 14) ∨ (16 ≤ k ∧ k ≤ 18) ∨ (k = 1 ∧ (j = 0 ∨ j = 1 ∨ j = 30 ∨ j = 31 ∨ j = 35))) M M2_3 := (F1).tr (f2.mono (mo_176))
  refine fmX12_rightThen h2 ?_
  intro x3_5 M3_6 f4 h4
  have F4 : Ks (fun k j => k = 0 ∨ k = 6 ∨ (13 ≤ k ∧ k ≤ 14) ∨ (16 ≤ k ∧ k ≤ 18) ∨ (k = 1 ∧ (j = 0 ∨ j = 1 ∨ j = 30 ∨ j = 31 ∨ j = 35))) M M3_6 := (F2).tr (f4.mono (mo_180))
  intro g7
  have h8 := h4 g7
  intro M4_9 eM4_9
  have h9 := h8 M4_9 eM4_9
  have F9 : Ks (fun k j => k = 0 ∨ k = 6 ∨ (13 ≤ k ∧ k ≤ 14) ∨ (16 ≤ k ∧ k ≤ 18) ∨ (k = 1 ∧ (j = 0 ∨ j = 1 ∨ j = 30 ∨ j = 31 ∨ j = 35))) M M4_9 := by rw [eM4_9]; exact (F4).wr (mw_188)
  refine fmX12_enters h9 ?_
  intro M5_11 f10 h10
  have F10 : Ks (fun k j => k = 0 ∨ k = 6 ∨ (13 ≤ k ∧ k ≤ 14) ∨ (16 ≤ k ∧ k ≤ 18) ∨ (k = 1 ∧ (j = 0 ∨ j = 1 ∨ j = 30 ∨ j = 31 ∨ j = 35))) M M5_11 := (F9).tr (f10.mono (mo_175))
  refine fmX12_endedBy h10 ?_
  intro x6_13 M6_14 f12 h12
  have F12 : Ks (fun k j => k = 0 ∨ k = 6 ∨ (13 ≤ k ∧ k ≤ 14) ∨ (16 ≤ k ∧ k ≤ 18) ∨ (k = 1 ∧ (j = 0 ∨ j = 1 ∨ j = 30 ∨ j = 31 ∨ j = 35))) M M6_14 := (F10).tr (f12.mono (fun _ _ h => False.elim h))
  intro g15
  have h16 := h12 g15
  refine fmX12_enters h16 ?_
  intro M7_18 f17 h17
  have F17 : Ks (fun k j => k = 0 ∨ k = 6 ∨ (13 ≤ k ∧ k ≤ 14) ∨ (16 ≤ k ∧ k ≤ 18) ∨ (k = 1 ∧ (j = 0 ∨ j = 1 ∨ j = 30 ∨ j = 31 ∨ j = 35))) M M7_18 := (F12).tr (f17.mono (mo_175))
  refine fmJ6_bitCount_0f7a4 h17 ?_
  intro x8_20 M8_21 f19 h19
  have F19 : Ks (fun k j => k = 0 ∨ k = 6 ∨ (13 ≤ k ∧ k ≤ 14) ∨ (16 ≤ k ∧ k ≤ 18) ∨ (k = 1 ∧ (j = 0 ∨ j = 1 ∨ j = 30 ∨ j = 31 ∨ j = 35))) M M8_21 := (F17).tr (f19.mono (fun _ _ h => False.elim h))
  intro g22
  have h23 := h19 g22
  exact hQ _ _ F19 h23
theorem fmX12_has {p0 : Int} {p1 : Int} {M : Mem} {Q Q' : Int → Mem → Prop} (h : qX12_has p0 p1 M Q) (hQ : ∀ (w0 : Int) (M' : Mem), Ks (fun _ _ => False) M M' → Q w0 M' → Q' w0 M') : qX12_has p0 p1 M Q' := by
  unfold qX12_has at h ⊢
  intro x1_1 g2 g3
  have h1 := h x1_1 g2 g3
  intro x2_4 g5 g6
  have h4 := h1 x2_4 g5 g6
  obtain ⟨h7, h8⟩ := h4
  refine ⟨?_, ?_⟩
  · intro g9
    have h10 := h7 g9
    exact hQ _ _ Ks.rf h10
  · intro g11
    have h12 := h8 g11
    exact hQ _ _ Ks.rf h12
theorem fmX12_places_L123 {p1 : Int} {p2 : Int} {Q Q' : Mem → Prop} {rc : Int → Int → Mem → (Mem → Prop) → Prop} (hrc : ∀ (a0 : Int) (a1 : Int) (M : Mem) (Q Q' : Mem → Prop), (∀ M', Ks (fun k j => k = 6 ∨ (13 ≤ k ∧ k ≤ 14) ∨ (16 ≤ k ∧ k ≤ 18) ∨ (22 ≤ k ∧ k ≤ 23) ∨ (k = 1 ∧ (j = 30 ∨ j = 31 ∨ j = 35 ∨ j = 42))) M M' → Q M' → Q' M') → rc a0 a1 M Q → rc a0 a1 M Q') {M0 : Mem} (hQ : ∀ (M' : Mem), Ks (fun k j => k = 6 ∨ (13 ≤ k ∧ k ≤ 14) ∨ (16 ≤ k ∧ k ≤ 18) ∨ (22 ≤ k ∧ k ≤ 23) ∨ (k = 1 ∧ (j = 30 ∨ j = 31 ∨ j = 35 ∨ j = 42))) M0 M' → Q M' → Q' M') : ∀ (n : Nat) (v3 : Int) (M : Mem), Ks (fun k j => k = 6 ∨ (13 ≤ k ∧ k ≤ 14) ∨ (16 ≤ k ∧ k ≤ 18) ∨ (22 ≤ k ∧ k ≤ 23) ∨ (k = 1 ∧ (j = 30 ∨ j = 31 ∨ j = 35 ∨ j = 42))) M0 M → qX12_places_L123 rc p1 p2 Q n v3 M → qX12_places_L123 rc p1 p2 Q' n v3 M := by
  intro n
  induction n with
  | zero => intro v3 M _ h; exact h.elim
  | succ n ih =>
    intro v3 M hF h
    rw [qX12_places_L123] at h
    rw [qX12_places_L123]
    refine fmX12_gate h ?_
    intro x8_2 M8_3 f1 h1
    have F1 : Ks (fun k j => k = 6 ∨ (13 ≤ k ∧ k ≤ 14) ∨ (16 ≤ k ∧ k ≤ 18) ∨ (22 ≤ k ∧ k ≤ 23) ∨ (k = 1 ∧ (j = 30 ∨ j = 31 ∨ j = 35 ∨ j = 42))) M0 M8_3 := (hF).tr (f1.mono (fun _ _ h => False.elim h))
    intro g4
    have h5 := h1 g4
    obtain ⟨v6, h6⟩ := h5
    refine ⟨v6, ?_⟩
    obtain ⟨h7, h8⟩ := h6
    refine ⟨?_, ?_⟩
    · intro g9
      have h10 := h7 g9
      exact hQ _ F1 h10
    · intro g11
      have h12 := h8 g11
      refine fmX12_onCell h12 ?_
      intro x11_14 M11_15 f13 h13
      have F13 : Ks (fun k j => k = 6 ∨ (13 ≤ k ∧ k ≤ 14) ∨ (16 ≤ k ∧ k ≤ 18) ∨ (22 ≤ k ∧ k ≤ 23) ∨ (k = 1 ∧ (j = 30 ∨ j = 31 ∨ j = 35 ∨ j = 42))) M0 M11_15 := (F1).tr (f13.mono (fun _ _ h => False.elim h))
      intro g16
      have h17 := h13 g16
      obtain ⟨h18, h19⟩ := h17
      refine ⟨?_, ?_⟩
      · intro g20
        have h21 := h18 g20
        exact ih _ _ F13 h21
      · intro g22
        have h23 := h19 g22
        refine fmX12_has h23 ?_
        intro x13_25 M13_26 f24 h24
        have F24 : Ks (fun k j => k = 6 ∨ (13 ≤ k ∧ k ≤ 14) ∨ (16 ≤ k ∧ k ≤ 18) ∨ (22 ≤ k ∧ k ≤ 23) ∨ (k = 1 ∧ (j = 30 ∨ j = 31 ∨ j = 35 ∨ j = 42))) M0 M13_26 := (F13).tr (f24.mono (fun _ _ h => False.elim h))
        intro g27 g28
        have h29 := h24 g27 g28
        obtain ⟨h30, h31⟩ := h29
        refine ⟨?_, ?_⟩
        · intro g32
          have h33 := h30 g32
          exact ih _ _ F24 h33
        · intro g34
          have h35 := h31 g34
          obtain ⟨v36, h36⟩ := h35
          refine ⟨v36, ?_⟩
          obtain ⟨v37, h37⟩ := h36
          refine ⟨v37, ?_⟩
          intro M17_38 eM17_38
          have h38 := h37 M17_38 eM17_38
          have F38 : Ks (fun k j => k = 6 ∨ (13 ≤ k ∧ k ≤ 14) ∨ (16 ≤ k ∧ k ≤ 18) ∨ (22 ≤ k ∧ k ≤ 23) ∨ (k = 1 ∧ (j = 30 ∨ j = 31 ∨ j = 35 ∨ j = 42))) M0 M17_38 := by rw [eM17_38]; exact (F24).wr (mw_189 _)
          intro x18_39 g40 g41
          have h39 := h38 x18_39 g40 g41
          intro x19_42 g43 g44
          have h42 := h39 x19_42 g43 g44
          obtain ⟨v45, h45⟩ := h42
          refine ⟨v45, ?_⟩
          refine hrc _ _ _ _ _ ?_ h45
          intro M21_47 f46 h46
          have F46 : Ks (fun k j => k = 6 ∨ (13 ≤ k ∧ k ≤ 14) ∨ (16 ≤ k ∧ k ≤ 18) ∨ (22 ≤ k ∧ k ≤ 23) ∨ (k = 1 ∧ (j = 30 ∨ j = 31 ∨ j = 35 ∨ j = 42))) M0 M21_47 := (F38).tr (f46.mono (by intro k j h; first | exact False.elim h | omega))
          exact ih _ _ F46 h46
theorem fmX12_places_L14 {p1 : Int} {p2 : Int} {X40 X40' : Mem → Prop} {Q Q' : Mem → Prop} {rc : Int → Int → Mem → (Mem → Prop) → Prop} (hrc : ∀ (a0 : Int) (a1 : Int) (M : Mem) (Q Q' : Mem → Prop), (∀ M', Ks (fun k j => k = 6 ∨ (13 ≤ k ∧ k ≤ 14) ∨ (16 ≤ k ∧ k ≤ 18) ∨ (22 ≤ k ∧ k ≤ 23) ∨ (k = 1 ∧ (j = 30 ∨ j = 31 ∨ j = 35 ∨ j = 42))) M M' → Q M' → Q' M') → rc a0 a1 M Q → rc a0 a1 M Q') {M0 : Mem} (hQ : ∀ (M' : Mem), Ks (fun k j => k = 6 ∨ (13 ≤ k ∧ k ≤ 14) ∨ (16 ≤ k ∧ k ≤ 18) ∨ (22 ≤ k ∧ k ≤ 23) ∨ (k = 1 ∧ (j = 30 ∨ j = 31 ∨ j = 35 ∨ j = 42))) M0 M' → Q M' → Q' M') (hX40 : ∀ (M' : Mem), Ks (fun k j => k = 6 ∨ (13 ≤ k ∧ k ≤ 14) ∨ (16 ≤ k ∧ k ≤ 18) ∨ (22 ≤ k ∧ k ≤ 23) ∨ (k = 1 ∧ (j = 30 ∨ j = 31 ∨ j = 35 ∨ j = 42))) M0 M' → X40 M' → X40' M') : ∀ (n : Nat) (v3 : Int) (M : Mem), Ks (fun k j => k = 6 ∨ (13 ≤ k ∧ k ≤ 14) ∨ (16 ≤ k ∧ k ≤ 18) ∨ (22 ≤ k ∧ k ≤ 23) ∨ (k = 1 ∧ (j = 30 ∨ j = 31 ∨ j = 35 ∨ j = 42))) M0 M → qX12_places_L14 rc p1 p2 X40 Q n v3 M → qX12_places_L14 rc p1 p2 X40' Q' n v3 M := by
  intro n
  induction n with
  | zero => intro v3 M _ h; exact h.elim
  | succ n ih =>
    intro v3 M hF h
    rw [qX12_places_L14] at h
    rw [qX12_places_L14]
    intro x26_1 g2 g3
    have h1 := h x26_1 g2 g3
    obtain ⟨v4, h4⟩ := h1
    refine ⟨v4, ?_⟩
    obtain ⟨h5, h6⟩ := h4
    refine ⟨?_, ?_⟩
    · intro g7
      have h8 := h5 g7
      exact hX40 _ hF h8
    · intro g9
      have h10 := h6 g9
      obtain ⟨v11, h11⟩ := h10
      refine ⟨v11, ?_⟩
      obtain ⟨v12, h12⟩ := h11
      refine ⟨v12, ?_⟩
      intro x31_13 g14 g15
      have h13 := h12 x31_13 g14 g15
      obtain ⟨v16, h16⟩ := h13
      refine ⟨v16, ?_⟩
      obtain ⟨v17, h17⟩ := h16
      refine ⟨v17, ?_⟩
      intro M34_18 eM34_18
      have h18 := h17 M34_18 eM34_18
      have F18 : Ks (fun k j => k = 6 ∨ (13 ≤ k ∧ k ≤ 14) ∨ (16 ≤ k ∧ k ≤ 18) ∨ (22 ≤ k ∧ k ≤ 23) ∨ (k = 1 ∧ (j = 30 ∨ j = 31 ∨ j = 35 ∨ j = 42))) M0 M34_18 := by rw [eM34_18]; exact (hF).wr (mw_190 _)
      exact ih _ _ F18 h18
theorem fmX12_places_L64 {p1 : Int} {p2 : Int} {Q Q' : Mem → Prop} {rc : Int → Int → Mem → (Mem → Prop) → Prop} (hrc : ∀ (a0 : Int) (a1 : Int) (M : Mem) (Q Q' : Mem → Prop), (∀ M', Ks (fun k j => k = 6 ∨ (13 ≤ k ∧ k ≤ 14) ∨ (16 ≤ k ∧ k ≤ 18) ∨ (22 ≤ k ∧ k ≤ 23) ∨ (k = 1 ∧ (j = 30 ∨ j = 31 ∨ j = 35 ∨ j = 42))) M M' → Q M' → Q' M') → rc a0 a1 M Q → rc a0 a1 M Q') {M0 : Mem} (hQ : ∀ (M' : Mem), Ks (fun k j => k = 6 ∨ (13 ≤ k ∧ k ≤ 14) ∨ (16 ≤ k ∧ k ≤ 18) ∨ (22 ≤ k ∧ k ≤ 23) ∨ (k = 1 ∧ (j = 30 ∨ j = 31 ∨ j = 35 ∨ j = 42))) M0 M' → Q M' → Q' M') : ∀ (n : Nat) (v4 : Int) (M : Mem), Ks (fun k j => k = 6 ∨ (13 ≤ k ∧ k ≤ 14) ∨ (16 ≤ k ∧ k ≤ 18) ∨ (22 ≤ k ∧ k ≤ 23) ∨ (k = 1 ∧ (j = 30 ∨ j = 31 ∨ j = 35 ∨ j = 42))) M0 M → qX12_places_L64 rc p1 p2 Q n v4 M → qX12_places_L64 rc p1 p2 Q' n v4 M := by
  intro n
  induction n with
  | zero => intro v4 M _ h; exact h.elim
  | succ n ih =>
    intro v4 M hF h
    rw [qX12_places_L64] at h
    rw [qX12_places_L64]
    intro x41_1 g2 g3
    have h1 := h x41_1 g2 g3
    obtain ⟨v4, h4⟩ := h1
    refine ⟨v4, ?_⟩
    obtain ⟨h5, h6⟩ := h4
    refine ⟨?_, ?_⟩
    · intro g7
      have h8 := h5 g7
      exact hQ _ hF h8
    · intro g9
      have h10 := h6 g9
      obtain ⟨v11, h11⟩ := h10
      refine ⟨v11, ?_⟩
      obtain ⟨v12, h12⟩ := h11
      refine ⟨v12, ?_⟩
      intro x46_13 g14 g15
      have h13 := h12 x46_13 g14 g15
      intro M47_16 eM47_16
      have h16 := h13 M47_16 eM47_16
      have F16 : Ks (fun k j => k = 6 ∨ (13 ≤ k ∧ k ≤ 14) ∨ (16 ≤ k ∧ k ≤ 18) ∨ (22 ≤ k ∧ k ≤ 23) ∨ (k = 1 ∧ (j = 30 ∨ j = 31 ∨ j = 35 ∨ j = 42))) M0 M47_16 := by rw [eM47_16]; exact (hF).wr (mw_191 _)
      exact ih _ _ F16 h16
theorem fmbX12_places {p1 : Int} {p2 : Int} {M : Mem} {Q Q' : Mem → Prop} {rc : Int → Int → Mem → (Mem → Prop) → Prop} (hrc : ∀ (a0 : Int) (a1 : Int) (M : Mem) (Q Q' : Mem → Prop), (∀ M', Ks (fun k j => k = 6 ∨ (13 ≤ k ∧ k ≤ 14) ∨ (16 ≤ k ∧ k ≤ 18) ∨ (22 ≤ k ∧ k ≤ 23) ∨ (k = 1 ∧ (j = 30 ∨ j = 31 ∨ j = 35 ∨ j = 42))) M M' → Q M' → Q' M') → rc a0 a1 M Q → rc a0 a1 M Q') (h : bX12_places rc p1 p2 M Q) (hQ : ∀ (M' : Mem), Ks (fun k j => k = 6 ∨ (13 ≤ k ∧ k ≤ 14) ∨ (16 ≤ k ∧ k ≤ 18) ∨ (22 ≤ k ∧ k ≤ 23) ∨ (k = 1 ∧ (j = 30 ∨ j = 31 ∨ j = 35 ∨ j = 42))) M M' → Q M' → Q' M') : bX12_places rc p1 p2 M Q' := by
  unfold bX12_places at h ⊢
  intro x1_1 g2 g3
  have h1 := h x1_1 g2 g3
  obtain ⟨h4, h5⟩ := h1
  refine ⟨?_, ?_⟩
  · intro g6
    have h7 := h4 g6
    obtain ⟨v8, h8⟩ := h7
    refine ⟨v8, ?_⟩
    obtain ⟨v9, h9⟩ := h8
    refine ⟨v9, ?_⟩
    intro M5_10 eM5_10
    have h10 := h9 M5_10 eM5_10
    have F10 : Ks (fun k j => k = 6 ∨ (13 ≤ k ∧ k ≤ 14) ∨ (16 ≤ k ∧ k ≤ 18) ∨ (22 ≤ k ∧ k ≤ 23) ∨ (k = 1 ∧ (j = 30 ∨ j = 31 ∨ j = 35 ∨ j = 42))) M M5_10 := by rw [eM5_10]; exact (Ks.rf).wr (mw_189 _)
    refine fmX12_isOn h10 ?_
    intro x6_12 M6_13 f11 h11
    have F11 : Ks (fun k j => k = 6 ∨ (13 ≤ k ∧ k ≤ 14) ∨ (16 ≤ k ∧ k ≤ 18) ∨ (22 ≤ k ∧ k ≤ 23) ∨ (k = 1 ∧ (j = 30 ∨ j = 31 ∨ j = 35 ∨ j = 42))) M M6_13 := (F10).tr (f11.mono (fun _ _ h => False.elim h))
    intro g14 g15
    have h16 := h11 g14 g15
    obtain ⟨h17, h18⟩ := h16
    refine ⟨?_, ?_⟩
    · intro g19
      have h20 := h17 g19
      obtain ⟨n21, h21⟩ := h20
      refine ⟨n21, ?_⟩
      refine fmX12_places_L123 hrc hQ _ _ _ F11 h21
    · intro g22
      have h23 := h18 g22
      obtain ⟨v24, h24⟩ := h23
      refine ⟨v24, ?_⟩
      refine hrc _ _ _ _ _ ?_ h24
      intro M24_26 f25 h25
      have F25 : Ks (fun k j => k = 6 ∨ (13 ≤ k ∧ k ≤ 14) ∨ (16 ≤ k ∧ k ≤ 18) ∨ (22 ≤ k ∧ k ≤ 23) ∨ (k = 1 ∧ (j = 30 ∨ j = 31 ∨ j = 35 ∨ j = 42))) M M24_26 := (F11).tr (f25.mono (by intro k j h; first | exact False.elim h | omega))
      exact hQ _ F25 h25
  · intro g27
    have h28 := h5 g27
    refine fmX12_copies h28 ?_
    intro M25_30 f29 h29
    have F29 : Ks (fun k j => k = 6 ∨ (13 ≤ k ∧ k ≤ 14) ∨ (16 ≤ k ∧ k ≤ 18) ∨ (22 ≤ k ∧ k ≤ 23) ∨ (k = 1 ∧ (j = 30 ∨ j = 31 ∨ j = 35 ∨ j = 42))) M M25_30 := (Ks.rf).tr (f29.mono (mo_181))
    obtain ⟨n31, h31⟩ := h29
    refine ⟨n31, ?_⟩
    refine fmX12_places_L14 hrc hQ ?_ _ _ _ F29 h31
    · intro M_33 F32 h32
      refine fmX12_rightThen h32 ?_
      intro x36_35 M36_36 f34 h34
      have F34 : Ks (fun k j => k = 6 ∨ (13 ≤ k ∧ k ≤ 14) ∨ (16 ≤ k ∧ k ≤ 18) ∨ (22 ≤ k ∧ k ≤ 23) ∨ (k = 1 ∧ (j = 30 ∨ j = 31 ∨ j = 35 ∨ j = 42))) M M36_36 := (F32).tr (f34.mono (mo_182))
      intro g37
      have h38 := h34 g37
      refine fmJ6_bitCount_0f7a4 h38 ?_
      intro x37_40 M37_41 f39 h39
      have F39 : Ks (fun k j => k = 6 ∨ (13 ≤ k ∧ k ≤ 14) ∨ (16 ≤ k ∧ k ≤ 18) ∨ (22 ≤ k ∧ k ≤ 23) ∨ (k = 1 ∧ (j = 30 ∨ j = 31 ∨ j = 35 ∨ j = 42))) M M37_41 := (F34).tr (f39.mono (fun _ _ h => False.elim h))
      intro g42
      have h43 := h39 g42
      intro x38_44 g45 g46
      have h44 := h43 x38_44 g45 g46
      obtain ⟨h47, h48⟩ := h44
      refine ⟨?_, ?_⟩
      · intro g49
        have h50 := h47 g49
        exact hQ _ F39 h50
      · intro g51
        have h52 := h48 g51
        intro M40_53 eM40_53
        have h53 := h52 M40_53 eM40_53
        have F53 : Ks (fun k j => k = 6 ∨ (13 ≤ k ∧ k ≤ 14) ∨ (16 ≤ k ∧ k ≤ 18) ∨ (22 ≤ k ∧ k ≤ 23) ∨ (k = 1 ∧ (j = 30 ∨ j = 31 ∨ j = 35 ∨ j = 42))) M M40_53 := by rw [eM40_53]; exact (F39).wr (mw_192)
        obtain ⟨n54, h54⟩ := h53
        refine ⟨n54, ?_⟩
        refine fmX12_places_L64 hrc hQ _ _ _ F53 h54
theorem fmX12_placesA : ∀ (d : Nat) (p1 p2 : Int) (M : Mem) (Q Q' : Mem → Prop), (∀ M', Ks (fun k j => k = 6 ∨ (13 ≤ k ∧ k ≤ 14) ∨ (16 ≤ k ∧ k ≤ 18) ∨ (22 ≤ k ∧ k ≤ 23) ∨ (k = 1 ∧ (j = 30 ∨ j = 31 ∨ j = 35 ∨ j = 42))) M M' → Q M' → Q' M') → qX12_places d p1 p2 M Q → qX12_places d p1 p2 M Q' := by
  intro d
  induction d with
  | zero => intro p1 p2 M Q Q' _ h; exact h.elim
  | succ d ih =>
    intro p1 p2 M Q Q' hQ h
    exact fmbX12_places ih h hQ
theorem fmX12_places {d : Nat} {p1 p2 : Int} {M : Mem} {Q Q' : Mem → Prop} (h : qX12_places d p1 p2 M Q) (hQ : ∀ M', Ks (fun k j => k = 6 ∨ (13 ≤ k ∧ k ≤ 14) ∨ (16 ≤ k ∧ k ≤ 18) ∨ (22 ≤ k ∧ k ≤ 23) ∨ (k = 1 ∧ (j = 30 ∨ j = 31 ∨ j = 35 ∨ j = 42))) M M' → Q M' → Q' M') : qX12_places d p1 p2 M Q' := fmX12_placesA d p1 p2 M Q Q' hQ h
theorem fmX12_order_L23  {Q Q' : Int → Mem → Prop} {M0 : Mem} (hQ : ∀ (w0 : Int) (M' : Mem), Ks (fun k j => k = 0 ∨ k = 6 ∨ (13 ≤ k ∧ k ≤ 14) ∨ (16 ≤ k ∧ k ≤ 18) ∨ (22 ≤ k ∧ k ≤ 23) ∨ (k = 1 ∧ (j = 0 ∨ j = 1 ∨ j = 30 ∨ j = 31 ∨ j = 35 ∨ j = 42))) M0 M' → Q w0 M' → Q' w0 M') : ∀ (n : Nat) (v1 : Int) (M : Mem), Ks (fun k j => k = 0 ∨ k = 6 ∨ (13 ≤ k ∧ k ≤ 14) ∨ (16 ≤ k ∧ k ≤ 18) ∨ (22 ≤ k ∧ k ≤ 23) ∨ (k = 1 ∧ (j = 0 ∨ j = 1 ∨ j = 30 ∨ j = 31 ∨ j = 35 ∨ j = 42))) M0 M → qX12_order_L23 Q n v1 M → qX12_order_L23 Q' n v1 M := by
  intro n
  induction n with
  | zero => intro v1 M _ h; exact h.elim
  | succ n ih =>
    intro v1 M hF h
    rw [qX12_order_L23] at h
    rw [qX12_order_L23]
    intro x6_1 g2 g3
    have h1 := h x6_1 g2 g3
    obtain ⟨v4, h4⟩ := h1
    refine ⟨v4, ?_⟩
    obtain ⟨h5, h6⟩ := h4
    refine ⟨?_, ?_⟩
    · intro g7
      have h8 := h5 g7
      intro x9_9 g10 g11
      have h9 := h8 x9_9 g10 g11
      exact hQ _ _ hF h9
    · intro g12
      have h13 := h6 g12
      refine fmX12_isOn h13 ?_
      intro x10_15 M10_16 f14 h14
      have F14 : Ks (fun k j => k = 0 ∨ k = 6 ∨ (13 ≤ k ∧ k ≤ 14) ∨ (16 ≤ k ∧ k ≤ 18) ∨ (22 ≤ k ∧ k ≤ 23) ∨ (k = 1 ∧ (j = 0 ∨ j = 1 ∨ j = 30 ∨ j = 31 ∨ j = 35 ∨ j = 42))) M0 M10_16 := (hF).tr (f14.mono (fun _ _ h => False.elim h))
      intro g17 g18
      have h19 := h14 g17 g18
      obtain ⟨h20, h21⟩ := h19
      refine ⟨?_, ?_⟩
      · intro g22
        have h23 := h20 g22
        exact ih _ _ F14 h23
      · intro g24
        have h25 := h21 g24
        obtain ⟨v26, h26⟩ := h25
        refine ⟨v26, ?_⟩
        obtain ⟨v27, h27⟩ := h26
        refine ⟨v27, ?_⟩
        intro x14_28 g29 g30
        have h28 := h27 x14_28 g29 g30
        refine fmX12_enters h28 ?_
        intro M15_32 f31 h31
        have F31 : Ks (fun k j => k = 0 ∨ k = 6 ∨ (13 ≤ k ∧ k ≤ 14) ∨ (16 ≤ k ∧ k ≤ 18) ∨ (22 ≤ k ∧ k ≤ 23) ∨ (k = 1 ∧ (j = 0 ∨ j = 1 ∨ j = 30 ∨ j = 31 ∨ j = 35 ∨ j = 42))) M0 M15_32 := (F14).tr (f31.mono (mo_183))
        exact ih _ _ F31 h31
theorem fmX12_order  {M : Mem} {Q Q' : Int → Mem → Prop} (h : qX12_order M Q) (hQ : ∀ (w0 : Int) (M' : Mem), Ks (fun k j => k = 0 ∨ k = 6 ∨ (13 ≤ k ∧ k ≤ 14) ∨ (16 ≤ k ∧ k ≤ 18) ∨ (22 ≤ k ∧ k ≤ 23) ∨ (k = 1 ∧ (j = 0 ∨ j = 1 ∨ j = 30 ∨ j = 31 ∨ j = 35 ∨ j = 42))) M M' → Q w0 M' → Q' w0 M') : qX12_order M Q' := by
  unfold qX12_order at h ⊢
  intro M1_1 eM1_1
  have h1 := h M1_1 eM1_1
  have F1 : Ks (fun k j => k = 0 ∨ k = 6 ∨ (13 ≤ k ∧ k ≤ 14) ∨ (16 ≤ k ∧ k ≤ 18) ∨ (22 ≤ k ∧ k ≤ 23) ∨ (k = 1 ∧ (j = 0 ∨ j = 1 ∨ j = 30 ∨ j = 31 ∨ j = 35 ∨ j = 42))) M M1_1 := by rw [eM1_1]; exact (Ks.rf).wr (mw_193)
  intro M2_2 eM2_2
  have h2 := h1 M2_2 eM2_2
  have F2 : Ks (fun k j => k = 0 ∨ k = 6 ∨ (13 ≤ k ∧ k ≤ 14) ∨ (16 ≤ k ∧ k ≤ 18) ∨ (22 ≤ k ∧ k ≤ 23) ∨ (k = 1 ∧ (j = 0 ∨ j = 1 ∨ j = 30 ∨ j = 31 ∨ j = 35 ∨ j = 42))) M M2_2 := by rw [eM2_2]; exact (F1).wr (mw_194)
  obtain ⟨n3, h3⟩ := h2
  refine ⟨n3, ?_⟩
  obtain ⟨v4, h4⟩ := h3
  refine ⟨v4, ?_⟩
  refine fmX12_places h4 ?_
  intro M3_6 f5 h5
  have F5 : Ks (fun k j => k = 0 ∨ k = 6 ∨ (13 ≤ k ∧ k ≤ 14) ∨ (16 ≤ k ∧ k ≤ 18) ∨ (22 ≤ k ∧ k ≤ 23) ∨ (k = 1 ∧ (j = 0 ∨ j = 1 ∨ j = 30 ∨ j = 31 ∨ j = 35 ∨ j = 42))) M M3_6 := (F2).tr (f5.mono (mo_184))
  intro M5_7 eM5_7
  have h7 := h5 M5_7 eM5_7
  have F7 : Ks (fun k j => k = 0 ∨ k = 6 ∨ (13 ≤ k ∧ k ≤ 14) ∨ (16 ≤ k ∧ k ≤ 18) ∨ (22 ≤ k ∧ k ≤ 23) ∨ (k = 1 ∧ (j = 0 ∨ j = 1 ∨ j = 30 ∨ j = 31 ∨ j = 35 ∨ j = 42))) M M5_7 := by rw [eM5_7]; exact (F5).wr (mw_195)
  obtain ⟨n8, h8⟩ := h7
  refine ⟨n8, ?_⟩
  refine fmX12_order_L23 hQ _ _ _ F7 h8
theorem fmX12_stands_L42 {p1 : Int} {X95 X95' : Int → Int → Mem → Prop} {Q Q' : Int → Mem → Prop} {M0 : Mem} (hQ : ∀ (w0 : Int) (M' : Mem), Ks (fun k j => k = 0 ∨ k = 6 ∨ (13 ≤ k ∧ k ≤ 14) ∨ (16 ≤ k ∧ k ≤ 18) ∨ (k = 1 ∧ (j = 0 ∨ j = 1 ∨ j = 30 ∨ j = 31 ∨ j = 35))) M0 M' → Q w0 M' → Q' w0 M') (hX95 : ∀ (w0 w1 : Int) (M' : Mem), Ks (fun k j => k = 0 ∨ k = 6 ∨ (13 ≤ k ∧ k ≤ 14) ∨ (16 ≤ k ∧ k ≤ 18) ∨ (k = 1 ∧ (j = 0 ∨ j = 1 ∨ j = 30 ∨ j = 31 ∨ j = 35))) M0 M' → X95 w0 w1 M' → X95' w0 w1 M') : ∀ (n : Nat) (v2 v3 v4 : Int) (M : Mem), Ks (fun k j => k = 0 ∨ k = 6 ∨ (13 ≤ k ∧ k ≤ 14) ∨ (16 ≤ k ∧ k ≤ 18) ∨ (k = 1 ∧ (j = 0 ∨ j = 1 ∨ j = 30 ∨ j = 31 ∨ j = 35))) M0 M → qX12_stands_L42 p1 X95 Q n v2 v3 v4 M → qX12_stands_L42 p1 X95' Q' n v2 v3 v4 M := by
  intro n
  induction n with
  | zero => intro v2 v3 v4 M _ h; exact h.elim
  | succ n ih =>
    intro v2 v3 v4 M hF h
    rw [qX12_stands_L42] at h
    rw [qX12_stands_L42]
    obtain ⟨v1, h1⟩ := h
    refine ⟨v1, ?_⟩
    obtain ⟨h2, h3⟩ := h1
    refine ⟨?_, ?_⟩
    · intro g4
      have h5 := h2 g4
      exact hX95 _ _ _ hF h5
    · intro g6
      have h7 := h3 g6
      refine fmX12_copies h7 ?_
      intro M9_9 f8 h8
      have F8 : Ks (fun k j => k = 0 ∨ k = 6 ∨ (13 ≤ k ∧ k ≤ 14) ∨ (16 ≤ k ∧ k ≤ 18) ∨ (k = 1 ∧ (j = 0 ∨ j = 1 ∨ j = 30 ∨ j = 31 ∨ j = 35))) M0 M9_9 := (hF).tr (f8.mono (mo_176))
      obtain ⟨v10, h10⟩ := h8
      refine ⟨v10, ?_⟩
      obtain ⟨v11, h11⟩ := h10
      refine ⟨v11, ?_⟩
      intro M12_12 eM12_12
      have h12 := h11 M12_12 eM12_12
      have F12 : Ks (fun k j => k = 0 ∨ k = 6 ∨ (13 ≤ k ∧ k ≤ 14) ∨ (16 ≤ k ∧ k ≤ 18) ∨ (k = 1 ∧ (j = 0 ∨ j = 1 ∨ j = 30 ∨ j = 31 ∨ j = 35))) M0 M12_12 := by rw [eM12_12]; exact (F8).wr (mw_196 _)
      obtain ⟨v13, h13⟩ := h12
      refine ⟨v13, ?_⟩
      obtain ⟨v14, h14⟩ := h13
      refine ⟨v14, ?_⟩
      intro M15_15 eM15_15
      have h15 := h14 M15_15 eM15_15
      have F15 : Ks (fun k j => k = 0 ∨ k = 6 ∨ (13 ≤ k ∧ k ≤ 14) ∨ (16 ≤ k ∧ k ≤ 18) ∨ (k = 1 ∧ (j = 0 ∨ j = 1 ∨ j = 30 ∨ j = 31 ∨ j = 35))) M0 M15_15 := by rw [eM15_15]; exact (F12).wr (mw_196 _)
      refine fmX12_rightThen h15 ?_
      intro x16_17 M16_18 f16 h16
      have F16 : Ks (fun k j => k = 0 ∨ k = 6 ∨ (13 ≤ k ∧ k ≤ 14) ∨ (16 ≤ k ∧ k ≤ 18) ∨ (k = 1 ∧ (j = 0 ∨ j = 1 ∨ j = 30 ∨ j = 31 ∨ j = 35))) M0 M16_18 := (F15).tr (f16.mono (mo_180))
      intro g19
      have h20 := h16 g19
      refine fmX12_has h20 ?_
      intro x17_22 M17_23 f21 h21
      have F21 : Ks (fun k j => k = 0 ∨ k = 6 ∨ (13 ≤ k ∧ k ≤ 14) ∨ (16 ≤ k ∧ k ≤ 18) ∨ (k = 1 ∧ (j = 0 ∨ j = 1 ∨ j = 30 ∨ j = 31 ∨ j = 35))) M0 M17_23 := (F16).tr (f21.mono (fun _ _ h => False.elim h))
      intro g24 g25
      have h26 := h21 g24 g25
      obtain ⟨h27, h28⟩ := h26
      refine ⟨?_, ?_⟩
      · intro g29
        have h30 := h27 g29
        exact ih _ _ _ _ F21 h30
      · intro g31
        have h32 := h28 g31
        exact ih _ _ _ _ F21 h32
theorem fmX12_stands {p1 : Int} {M : Mem} {Q Q' : Int → Mem → Prop} (h : qX12_stands p1 M Q) (hQ : ∀ (w0 : Int) (M' : Mem), Ks (fun k j => k = 0 ∨ k = 6 ∨ (13 ≤ k ∧ k ≤ 14) ∨ (16 ≤ k ∧ k ≤ 18) ∨ (k = 1 ∧ (j = 0 ∨ j = 1 ∨ j = 30 ∨ j = 31 ∨ j = 35))) M M' → Q w0 M' → Q' w0 M') : qX12_stands p1 M Q' := by
  unfold qX12_stands at h ⊢
  intro M1_1 eM1_1
  have h1 := h M1_1 eM1_1
  have F1 : Ks (fun k j => k = 0 ∨ k = 6 ∨ (13 ≤ k ∧ k ≤ 14) ∨ (16 ≤ k ∧ k ≤ 18) ∨ (k = 1 ∧ (j = 0 ∨ j = 1 ∨ j = 30 ∨ j = 31 ∨ j = 35))) M M1_1 := by rw [eM1_1]; exact (Ks.rf).wr (mw_187)
  refine fmX12_isMourner h1 ?_
  intro x2_3 M2_4 f2 h2
  have F2 : Ks (fun k j => k = 0 ∨ k = 6 ∨ (13 ≤ k ∧ k ≤ 14) ∨ (16 ≤ k ∧ k ≤ 18) ∨ (k = 1 ∧ (j = 0 ∨ j = 1 ∨ j = 30 ∨ j = 31 ∨ j = 35))) M M2_4 := (F1).tr (f2.mono (fun _ _ h => False.elim h))
  intro g5 g6
  have h7 := h2 g5 g6
  obtain ⟨h8, h9⟩ := h7
  refine ⟨?_, ?_⟩
  · intro g10
    have h11 := h8 g10
    refine fmX12_isEnded h11 ?_
    intro x4_13 M4_14 f12 h12
    have F12 : Ks (fun k j => k = 0 ∨ k = 6 ∨ (13 ≤ k ∧ k ≤ 14) ∨ (16 ≤ k ∧ k ≤ 18) ∨ (k = 1 ∧ (j = 0 ∨ j = 1 ∨ j = 30 ∨ j = 31 ∨ j = 35))) M M4_14 := (F2).tr (f12.mono (fun _ _ h => False.elim h))
    intro g15 g16
    have h17 := h12 g15 g16
    obtain ⟨h18, h19⟩ := h17
    refine ⟨?_, ?_⟩
    · intro g20
      have h21 := h18 g20
      refine fmX12_gate h21 ?_
      intro x6_23 M6_24 f22 h22
      have F22 : Ks (fun k j => k = 0 ∨ k = 6 ∨ (13 ≤ k ∧ k ≤ 14) ∨ (16 ≤ k ∧ k ≤ 18) ∨ (k = 1 ∧ (j = 0 ∨ j = 1 ∨ j = 30 ∨ j = 31 ∨ j = 35))) M M6_24 := (F12).tr (f22.mono (fun _ _ h => False.elim h))
      intro g25
      have h26 := h22 g25
      obtain ⟨n27, h27⟩ := h26
      refine ⟨n27, ?_⟩
      refine fmX12_stands_L42 hQ ?_ _ _ _ _ _ F22 h27
      · intro v2_29 v3_30 M_31 F28 h28
        obtain ⟨v32, h32⟩ := h28
        refine ⟨v32, ?_⟩
        obtain ⟨h33, h34⟩ := h32
        refine ⟨?_, ?_⟩
        · intro g35
          have h36 := h33 g35
          exact hQ _ _ F28 h36
        · intro g37
          have h38 := h34 g37
          intro M22_39 eM22_39
          have h39 := h38 M22_39 eM22_39
          have F39 : Ks (fun k j => k = 0 ∨ k = 6 ∨ (13 ≤ k ∧ k ≤ 14) ∨ (16 ≤ k ∧ k ≤ 18) ∨ (k = 1 ∧ (j = 0 ∨ j = 1 ∨ j = 30 ∨ j = 31 ∨ j = 35))) M M22_39 := by rw [eM22_39]; exact (F28).wr (mw_188)
          obtain ⟨v40, h40⟩ := h39
          refine ⟨v40, ?_⟩
          refine fmX12_enters h40 ?_
          intro M24_42 f41 h41
          have F41 : Ks (fun k j => k = 0 ∨ k = 6 ∨ (13 ≤ k ∧ k ≤ 14) ∨ (16 ≤ k ∧ k ≤ 18) ∨ (k = 1 ∧ (j = 0 ∨ j = 1 ∨ j = 30 ∨ j = 31 ∨ j = 35))) M M24_42 := (F39).tr (f41.mono (mo_175))
          exact hQ _ _ F41 h41
    · intro g43
      have h44 := h19 g43
      exact hQ _ _ F12 h44
  · intro g45
    have h46 := h9 g45
    exact hQ _ _ F2 h46
theorem fmX12_when_L24 {p1 : Int} {X142 X142' : Int → Int → Mem → Prop} {Q Q' : Int → Mem → Prop} {M0 : Mem} (hQ : ∀ (w0 : Int) (M' : Mem), Ks (fun k j => k = 0 ∨ k = 6 ∨ (13 ≤ k ∧ k ≤ 14) ∨ (16 ≤ k ∧ k ≤ 18) ∨ (k = 1 ∧ (j = 0 ∨ j = 1 ∨ j = 30 ∨ j = 31 ∨ j = 35))) M0 M' → Q w0 M' → Q' w0 M') (hX142 : ∀ (w0 w1 : Int) (M' : Mem), Ks (fun k j => k = 0 ∨ k = 6 ∨ (13 ≤ k ∧ k ≤ 14) ∨ (16 ≤ k ∧ k ≤ 18) ∨ (k = 1 ∧ (j = 0 ∨ j = 1 ∨ j = 30 ∨ j = 31 ∨ j = 35))) M0 M' → X142 w0 w1 M' → X142' w0 w1 M') : ∀ (n : Nat) (v2 v3 v4 : Int) (M : Mem), Ks (fun k j => k = 0 ∨ k = 6 ∨ (13 ≤ k ∧ k ≤ 14) ∨ (16 ≤ k ∧ k ≤ 18) ∨ (k = 1 ∧ (j = 0 ∨ j = 1 ∨ j = 30 ∨ j = 31 ∨ j = 35))) M0 M → qX12_when_L24 p1 X142 Q n v2 v3 v4 M → qX12_when_L24 p1 X142' Q' n v2 v3 v4 M := by
  intro n
  induction n with
  | zero => intro v2 v3 v4 M _ h; exact h.elim
  | succ n ih =>
    intro v2 v3 v4 M hF h
    rw [qX12_when_L24] at h
    rw [qX12_when_L24]
    obtain ⟨v1, h1⟩ := h
    refine ⟨v1, ?_⟩
    obtain ⟨h2, h3⟩ := h1
    refine ⟨?_, ?_⟩
    · intro g4
      have h5 := h2 g4
      exact hX142 _ _ _ hF h5
    · intro g6
      have h7 := h3 g6
      refine fmX12_copies h7 ?_
      intro M6_9 f8 h8
      have F8 : Ks (fun k j => k = 0 ∨ k = 6 ∨ (13 ≤ k ∧ k ≤ 14) ∨ (16 ≤ k ∧ k ≤ 18) ∨ (k = 1 ∧ (j = 0 ∨ j = 1 ∨ j = 30 ∨ j = 31 ∨ j = 35))) M0 M6_9 := (hF).tr (f8.mono (mo_176))
      refine fmX12_goesOn h8 ?_
      intro M7_11 f10 h10
      have F10 : Ks (fun k j => k = 0 ∨ k = 6 ∨ (13 ≤ k ∧ k ≤ 14) ∨ (16 ≤ k ∧ k ≤ 18) ∨ (k = 1 ∧ (j = 0 ∨ j = 1 ∨ j = 30 ∨ j = 31 ∨ j = 35))) M0 M7_11 := (F8).tr (f10.mono (mo_177))
      refine fmX12_isEnded h10 ?_
      intro x8_13 M8_14 f12 h12
      have F12 : Ks (fun k j => k = 0 ∨ k = 6 ∨ (13 ≤ k ∧ k ≤ 14) ∨ (16 ≤ k ∧ k ≤ 18) ∨ (k = 1 ∧ (j = 0 ∨ j = 1 ∨ j = 30 ∨ j = 31 ∨ j = 35))) M0 M8_14 := (F10).tr (f12.mono (fun _ _ h => False.elim h))
      intro g15 g16
      have h17 := h12 g15 g16
      obtain ⟨h18, h19⟩ := h17
      refine ⟨?_, ?_⟩
      · intro g20
        have h21 := h18 g20
        unfold qX12_when_J76 at h21 ⊢
        unfold qX12_when_J77 at h21 ⊢
        obtain ⟨v22, h22⟩ := h21
        refine ⟨v22, ?_⟩
        obtain ⟨h23, h24⟩ := h22
        refine ⟨?_, ?_⟩
        · intro g25
          have h26 := h23 g25
          refine fmX12_turnsOne h26 ?_
          intro x12_28 M12_29 f27 h27
          have F27 : Ks (fun k j => k = 0 ∨ k = 6 ∨ (13 ≤ k ∧ k ≤ 14) ∨ (16 ≤ k ∧ k ≤ 18) ∨ (k = 1 ∧ (j = 0 ∨ j = 1 ∨ j = 30 ∨ j = 31 ∨ j = 35))) M0 M12_29 := (F12).tr (f27.mono (mo_176))
          intro g30
          have h31 := h27 g30
          unfold qX12_when_J97 at h31 ⊢
          obtain ⟨v32, h32⟩ := h31
          refine ⟨v32, ?_⟩
          obtain ⟨h33, h34⟩ := h32
          refine ⟨?_, ?_⟩
          · intro g35
            have h36 := h33 g35
            unfold qX12_when_J111 at h36 ⊢
            refine fmX12_rightThen h36 ?_
            intro x15_38 M15_39 f37 h37
            have F37 : Ks (fun k j => k = 0 ∨ k = 6 ∨ (13 ≤ k ∧ k ≤ 14) ∨ (16 ≤ k ∧ k ≤ 18) ∨ (k = 1 ∧ (j = 0 ∨ j = 1 ∨ j = 30 ∨ j = 31 ∨ j = 35))) M0 M15_39 := (F27).tr (f37.mono (mo_180))
            intro g40
            have h41 := h37 g40
            refine fmX12_has h41 ?_
            intro x16_43 M16_44 f42 h42
            have F42 : Ks (fun k j => k = 0 ∨ k = 6 ∨ (13 ≤ k ∧ k ≤ 14) ∨ (16 ≤ k ∧ k ≤ 18) ∨ (k = 1 ∧ (j = 0 ∨ j = 1 ∨ j = 30 ∨ j = 31 ∨ j = 35))) M0 M16_44 := (F37).tr (f42.mono (fun _ _ h => False.elim h))
            intro g45 g46
            have h47 := h42 g45 g46
            obtain ⟨h48, h49⟩ := h47
            refine ⟨?_, ?_⟩
            · intro g50
              have h51 := h48 g50
              exact ih _ _ _ _ F42 h51
            · intro g52
              have h53 := h49 g52
              obtain ⟨v54, h54⟩ := h53
              refine ⟨v54, ?_⟩
              obtain ⟨h55, h56⟩ := h54
              refine ⟨?_, ?_⟩
              · intro g57
                have h58 := h55 g57
                exact ih _ _ _ _ F42 h58
              · intro g59
                have h60 := h56 g59
                exact ih _ _ _ _ F42 h60
          · intro g61
            have h62 := h34 g61
            obtain ⟨h63, h64⟩ := h62
            refine ⟨?_, ?_⟩
            · intro g65
              have h66 := h63 g65
              exact ih _ _ _ _ F27 h66
            · intro g67
              have h68 := h64 g67
              unfold qX12_when_J111 at h68 ⊢
              refine fmX12_rightThen h68 ?_
              intro x15_70 M15_71 f69 h69
              have F69 : Ks (fun k j => k = 0 ∨ k = 6 ∨ (13 ≤ k ∧ k ≤ 14) ∨ (16 ≤ k ∧ k ≤ 18) ∨ (k = 1 ∧ (j = 0 ∨ j = 1 ∨ j = 30 ∨ j = 31 ∨ j = 35))) M0 M15_71 := (F27).tr (f69.mono (mo_180))
              intro g72
              have h73 := h69 g72
              refine fmX12_has h73 ?_
              intro x16_75 M16_76 f74 h74
              have F74 : Ks (fun k j => k = 0 ∨ k = 6 ∨ (13 ≤ k ∧ k ≤ 14) ∨ (16 ≤ k ∧ k ≤ 18) ∨ (k = 1 ∧ (j = 0 ∨ j = 1 ∨ j = 30 ∨ j = 31 ∨ j = 35))) M0 M16_76 := (F69).tr (f74.mono (fun _ _ h => False.elim h))
              intro g77 g78
              have h79 := h74 g77 g78
              obtain ⟨h80, h81⟩ := h79
              refine ⟨?_, ?_⟩
              · intro g82
                have h83 := h80 g82
                exact ih _ _ _ _ F74 h83
              · intro g84
                have h85 := h81 g84
                obtain ⟨v86, h86⟩ := h85
                refine ⟨v86, ?_⟩
                obtain ⟨h87, h88⟩ := h86
                refine ⟨?_, ?_⟩
                · intro g89
                  have h90 := h87 g89
                  exact ih _ _ _ _ F74 h90
                · intro g91
                  have h92 := h88 g91
                  exact ih _ _ _ _ F74 h92
        · intro g93
          have h94 := h24 g93
          unfold qX12_when_J97 at h94 ⊢
          obtain ⟨v95, h95⟩ := h94
          refine ⟨v95, ?_⟩
          obtain ⟨h96, h97⟩ := h95
          refine ⟨?_, ?_⟩
          · intro g98
            have h99 := h96 g98
            unfold qX12_when_J111 at h99 ⊢
            refine fmX12_rightThen h99 ?_
            intro x15_101 M15_102 f100 h100
            have F100 : Ks (fun k j => k = 0 ∨ k = 6 ∨ (13 ≤ k ∧ k ≤ 14) ∨ (16 ≤ k ∧ k ≤ 18) ∨ (k = 1 ∧ (j = 0 ∨ j = 1 ∨ j = 30 ∨ j = 31 ∨ j = 35))) M0 M15_102 := (F12).tr (f100.mono (mo_180))
            intro g103
            have h104 := h100 g103
            refine fmX12_has h104 ?_
            intro x16_106 M16_107 f105 h105
            have F105 : Ks (fun k j => k = 0 ∨ k = 6 ∨ (13 ≤ k ∧ k ≤ 14) ∨ (16 ≤ k ∧ k ≤ 18) ∨ (k = 1 ∧ (j = 0 ∨ j = 1 ∨ j = 30 ∨ j = 31 ∨ j = 35))) M0 M16_107 := (F100).tr (f105.mono (fun _ _ h => False.elim h))
            intro g108 g109
            have h110 := h105 g108 g109
            obtain ⟨h111, h112⟩ := h110
            refine ⟨?_, ?_⟩
            · intro g113
              have h114 := h111 g113
              exact ih _ _ _ _ F105 h114
            · intro g115
              have h116 := h112 g115
              obtain ⟨v117, h117⟩ := h116
              refine ⟨v117, ?_⟩
              obtain ⟨h118, h119⟩ := h117
              refine ⟨?_, ?_⟩
              · intro g120
                have h121 := h118 g120
                exact ih _ _ _ _ F105 h121
              · intro g122
                have h123 := h119 g122
                exact ih _ _ _ _ F105 h123
          · intro g124
            have h125 := h97 g124
            obtain ⟨h126, h127⟩ := h125
            refine ⟨?_, ?_⟩
            · intro g128
              have h129 := h126 g128
              exact ih _ _ _ _ F12 h129
            · intro g130
              have h131 := h127 g130
              unfold qX12_when_J111 at h131 ⊢
              refine fmX12_rightThen h131 ?_
              intro x15_133 M15_134 f132 h132
              have F132 : Ks (fun k j => k = 0 ∨ k = 6 ∨ (13 ≤ k ∧ k ≤ 14) ∨ (16 ≤ k ∧ k ≤ 18) ∨ (k = 1 ∧ (j = 0 ∨ j = 1 ∨ j = 30 ∨ j = 31 ∨ j = 35))) M0 M15_134 := (F12).tr (f132.mono (mo_180))
              intro g135
              have h136 := h132 g135
              refine fmX12_has h136 ?_
              intro x16_138 M16_139 f137 h137
              have F137 : Ks (fun k j => k = 0 ∨ k = 6 ∨ (13 ≤ k ∧ k ≤ 14) ∨ (16 ≤ k ∧ k ≤ 18) ∨ (k = 1 ∧ (j = 0 ∨ j = 1 ∨ j = 30 ∨ j = 31 ∨ j = 35))) M0 M16_139 := (F132).tr (f137.mono (fun _ _ h => False.elim h))
              intro g140 g141
              have h142 := h137 g140 g141
              obtain ⟨h143, h144⟩ := h142
              refine ⟨?_, ?_⟩
              · intro g145
                have h146 := h143 g145
                exact ih _ _ _ _ F137 h146
              · intro g147
                have h148 := h144 g147
                obtain ⟨v149, h149⟩ := h148
                refine ⟨v149, ?_⟩
                obtain ⟨h150, h151⟩ := h149
                refine ⟨?_, ?_⟩
                · intro g152
                  have h153 := h150 g152
                  exact ih _ _ _ _ F137 h153
                · intro g154
                  have h155 := h151 g154
                  exact ih _ _ _ _ F137 h155
      · intro g156
        have h157 := h19 g156
        obtain ⟨v158, h158⟩ := h157
        refine ⟨v158, ?_⟩
        obtain ⟨v159, h159⟩ := h158
        refine ⟨v159, ?_⟩
        intro x23_160 g161 g162
        have h160 := h159 x23_160 g161 g162
        obtain ⟨v163, h163⟩ := h160
        refine ⟨v163, ?_⟩
        obtain ⟨v164, h164⟩ := h163
        refine ⟨v164, ?_⟩
        intro x26_165 g166 g167
        have h165 := h164 x26_165 g166 g167
        obtain ⟨h168, h169⟩ := h165
        refine ⟨?_, ?_⟩
        · intro g170
          have h171 := h168 g170
          unfold qX12_when_J76 at h171 ⊢
          unfold qX12_when_J77 at h171 ⊢
          obtain ⟨v172, h172⟩ := h171
          refine ⟨v172, ?_⟩
          obtain ⟨h173, h174⟩ := h172
          refine ⟨?_, ?_⟩
          · intro g175
            have h176 := h173 g175
            refine fmX12_turnsOne h176 ?_
            intro x12_178 M12_179 f177 h177
            have F177 : Ks (fun k j => k = 0 ∨ k = 6 ∨ (13 ≤ k ∧ k ≤ 14) ∨ (16 ≤ k ∧ k ≤ 18) ∨ (k = 1 ∧ (j = 0 ∨ j = 1 ∨ j = 30 ∨ j = 31 ∨ j = 35))) M0 M12_179 := (F12).tr (f177.mono (mo_176))
            intro g180
            have h181 := h177 g180
            unfold qX12_when_J97 at h181 ⊢
            obtain ⟨v182, h182⟩ := h181
            refine ⟨v182, ?_⟩
            obtain ⟨h183, h184⟩ := h182
            refine ⟨?_, ?_⟩
            · intro g185
              have h186 := h183 g185
              unfold qX12_when_J111 at h186 ⊢
              refine fmX12_rightThen h186 ?_
              intro x15_188 M15_189 f187 h187
              have F187 : Ks (fun k j => k = 0 ∨ k = 6 ∨ (13 ≤ k ∧ k ≤ 14) ∨ (16 ≤ k ∧ k ≤ 18) ∨ (k = 1 ∧ (j = 0 ∨ j = 1 ∨ j = 30 ∨ j = 31 ∨ j = 35))) M0 M15_189 := (F177).tr (f187.mono (mo_180))
              intro g190
              have h191 := h187 g190
              refine fmX12_has h191 ?_
              intro x16_193 M16_194 f192 h192
              have F192 : Ks (fun k j => k = 0 ∨ k = 6 ∨ (13 ≤ k ∧ k ≤ 14) ∨ (16 ≤ k ∧ k ≤ 18) ∨ (k = 1 ∧ (j = 0 ∨ j = 1 ∨ j = 30 ∨ j = 31 ∨ j = 35))) M0 M16_194 := (F187).tr (f192.mono (fun _ _ h => False.elim h))
              intro g195 g196
              have h197 := h192 g195 g196
              obtain ⟨h198, h199⟩ := h197
              refine ⟨?_, ?_⟩
              · intro g200
                have h201 := h198 g200
                exact ih _ _ _ _ F192 h201
              · intro g202
                have h203 := h199 g202
                obtain ⟨v204, h204⟩ := h203
                refine ⟨v204, ?_⟩
                obtain ⟨h205, h206⟩ := h204
                refine ⟨?_, ?_⟩
                · intro g207
                  have h208 := h205 g207
                  exact ih _ _ _ _ F192 h208
                · intro g209
                  have h210 := h206 g209
                  exact ih _ _ _ _ F192 h210
            · intro g211
              have h212 := h184 g211
              obtain ⟨h213, h214⟩ := h212
              refine ⟨?_, ?_⟩
              · intro g215
                have h216 := h213 g215
                exact ih _ _ _ _ F177 h216
              · intro g217
                have h218 := h214 g217
                unfold qX12_when_J111 at h218 ⊢
                refine fmX12_rightThen h218 ?_
                intro x15_220 M15_221 f219 h219
                have F219 : Ks (fun k j => k = 0 ∨ k = 6 ∨ (13 ≤ k ∧ k ≤ 14) ∨ (16 ≤ k ∧ k ≤ 18) ∨ (k = 1 ∧ (j = 0 ∨ j = 1 ∨ j = 30 ∨ j = 31 ∨ j = 35))) M0 M15_221 := (F177).tr (f219.mono (mo_180))
                intro g222
                have h223 := h219 g222
                refine fmX12_has h223 ?_
                intro x16_225 M16_226 f224 h224
                have F224 : Ks (fun k j => k = 0 ∨ k = 6 ∨ (13 ≤ k ∧ k ≤ 14) ∨ (16 ≤ k ∧ k ≤ 18) ∨ (k = 1 ∧ (j = 0 ∨ j = 1 ∨ j = 30 ∨ j = 31 ∨ j = 35))) M0 M16_226 := (F219).tr (f224.mono (fun _ _ h => False.elim h))
                intro g227 g228
                have h229 := h224 g227 g228
                obtain ⟨h230, h231⟩ := h229
                refine ⟨?_, ?_⟩
                · intro g232
                  have h233 := h230 g232
                  exact ih _ _ _ _ F224 h233
                · intro g234
                  have h235 := h231 g234
                  obtain ⟨v236, h236⟩ := h235
                  refine ⟨v236, ?_⟩
                  obtain ⟨h237, h238⟩ := h236
                  refine ⟨?_, ?_⟩
                  · intro g239
                    have h240 := h237 g239
                    exact ih _ _ _ _ F224 h240
                  · intro g241
                    have h242 := h238 g241
                    exact ih _ _ _ _ F224 h242
          · intro g243
            have h244 := h174 g243
            unfold qX12_when_J97 at h244 ⊢
            obtain ⟨v245, h245⟩ := h244
            refine ⟨v245, ?_⟩
            obtain ⟨h246, h247⟩ := h245
            refine ⟨?_, ?_⟩
            · intro g248
              have h249 := h246 g248
              unfold qX12_when_J111 at h249 ⊢
              refine fmX12_rightThen h249 ?_
              intro x15_251 M15_252 f250 h250
              have F250 : Ks (fun k j => k = 0 ∨ k = 6 ∨ (13 ≤ k ∧ k ≤ 14) ∨ (16 ≤ k ∧ k ≤ 18) ∨ (k = 1 ∧ (j = 0 ∨ j = 1 ∨ j = 30 ∨ j = 31 ∨ j = 35))) M0 M15_252 := (F12).tr (f250.mono (mo_180))
              intro g253
              have h254 := h250 g253
              refine fmX12_has h254 ?_
              intro x16_256 M16_257 f255 h255
              have F255 : Ks (fun k j => k = 0 ∨ k = 6 ∨ (13 ≤ k ∧ k ≤ 14) ∨ (16 ≤ k ∧ k ≤ 18) ∨ (k = 1 ∧ (j = 0 ∨ j = 1 ∨ j = 30 ∨ j = 31 ∨ j = 35))) M0 M16_257 := (F250).tr (f255.mono (fun _ _ h => False.elim h))
              intro g258 g259
              have h260 := h255 g258 g259
              obtain ⟨h261, h262⟩ := h260
              refine ⟨?_, ?_⟩
              · intro g263
                have h264 := h261 g263
                exact ih _ _ _ _ F255 h264
              · intro g265
                have h266 := h262 g265
                obtain ⟨v267, h267⟩ := h266
                refine ⟨v267, ?_⟩
                obtain ⟨h268, h269⟩ := h267
                refine ⟨?_, ?_⟩
                · intro g270
                  have h271 := h268 g270
                  exact ih _ _ _ _ F255 h271
                · intro g272
                  have h273 := h269 g272
                  exact ih _ _ _ _ F255 h273
            · intro g274
              have h275 := h247 g274
              obtain ⟨h276, h277⟩ := h275
              refine ⟨?_, ?_⟩
              · intro g278
                have h279 := h276 g278
                exact ih _ _ _ _ F12 h279
              · intro g280
                have h281 := h277 g280
                unfold qX12_when_J111 at h281 ⊢
                refine fmX12_rightThen h281 ?_
                intro x15_283 M15_284 f282 h282
                have F282 : Ks (fun k j => k = 0 ∨ k = 6 ∨ (13 ≤ k ∧ k ≤ 14) ∨ (16 ≤ k ∧ k ≤ 18) ∨ (k = 1 ∧ (j = 0 ∨ j = 1 ∨ j = 30 ∨ j = 31 ∨ j = 35))) M0 M15_284 := (F12).tr (f282.mono (mo_180))
                intro g285
                have h286 := h282 g285
                refine fmX12_has h286 ?_
                intro x16_288 M16_289 f287 h287
                have F287 : Ks (fun k j => k = 0 ∨ k = 6 ∨ (13 ≤ k ∧ k ≤ 14) ∨ (16 ≤ k ∧ k ≤ 18) ∨ (k = 1 ∧ (j = 0 ∨ j = 1 ∨ j = 30 ∨ j = 31 ∨ j = 35))) M0 M16_289 := (F282).tr (f287.mono (fun _ _ h => False.elim h))
                intro g290 g291
                have h292 := h287 g290 g291
                obtain ⟨h293, h294⟩ := h292
                refine ⟨?_, ?_⟩
                · intro g295
                  have h296 := h293 g295
                  exact ih _ _ _ _ F287 h296
                · intro g297
                  have h298 := h294 g297
                  obtain ⟨v299, h299⟩ := h298
                  refine ⟨v299, ?_⟩
                  obtain ⟨h300, h301⟩ := h299
                  refine ⟨?_, ?_⟩
                  · intro g302
                    have h303 := h300 g302
                    exact ih _ _ _ _ F287 h303
                  · intro g304
                    have h305 := h301 g304
                    exact ih _ _ _ _ F287 h305
        · intro g306
          have h307 := h169 g306
          unfold qX12_when_J77 at h307 ⊢
          obtain ⟨v308, h308⟩ := h307
          refine ⟨v308, ?_⟩
          obtain ⟨h309, h310⟩ := h308
          refine ⟨?_, ?_⟩
          · intro g311
            have h312 := h309 g311
            refine fmX12_turnsOne h312 ?_
            intro x12_314 M12_315 f313 h313
            have F313 : Ks (fun k j => k = 0 ∨ k = 6 ∨ (13 ≤ k ∧ k ≤ 14) ∨ (16 ≤ k ∧ k ≤ 18) ∨ (k = 1 ∧ (j = 0 ∨ j = 1 ∨ j = 30 ∨ j = 31 ∨ j = 35))) M0 M12_315 := (F12).tr (f313.mono (mo_176))
            intro g316
            have h317 := h313 g316
            unfold qX12_when_J97 at h317 ⊢
            obtain ⟨v318, h318⟩ := h317
            refine ⟨v318, ?_⟩
            obtain ⟨h319, h320⟩ := h318
            refine ⟨?_, ?_⟩
            · intro g321
              have h322 := h319 g321
              unfold qX12_when_J111 at h322 ⊢
              refine fmX12_rightThen h322 ?_
              intro x15_324 M15_325 f323 h323
              have F323 : Ks (fun k j => k = 0 ∨ k = 6 ∨ (13 ≤ k ∧ k ≤ 14) ∨ (16 ≤ k ∧ k ≤ 18) ∨ (k = 1 ∧ (j = 0 ∨ j = 1 ∨ j = 30 ∨ j = 31 ∨ j = 35))) M0 M15_325 := (F313).tr (f323.mono (mo_180))
              intro g326
              have h327 := h323 g326
              refine fmX12_has h327 ?_
              intro x16_329 M16_330 f328 h328
              have F328 : Ks (fun k j => k = 0 ∨ k = 6 ∨ (13 ≤ k ∧ k ≤ 14) ∨ (16 ≤ k ∧ k ≤ 18) ∨ (k = 1 ∧ (j = 0 ∨ j = 1 ∨ j = 30 ∨ j = 31 ∨ j = 35))) M0 M16_330 := (F323).tr (f328.mono (fun _ _ h => False.elim h))
              intro g331 g332
              have h333 := h328 g331 g332
              obtain ⟨h334, h335⟩ := h333
              refine ⟨?_, ?_⟩
              · intro g336
                have h337 := h334 g336
                exact ih _ _ _ _ F328 h337
              · intro g338
                have h339 := h335 g338
                obtain ⟨v340, h340⟩ := h339
                refine ⟨v340, ?_⟩
                obtain ⟨h341, h342⟩ := h340
                refine ⟨?_, ?_⟩
                · intro g343
                  have h344 := h341 g343
                  exact ih _ _ _ _ F328 h344
                · intro g345
                  have h346 := h342 g345
                  exact ih _ _ _ _ F328 h346
            · intro g347
              have h348 := h320 g347
              obtain ⟨h349, h350⟩ := h348
              refine ⟨?_, ?_⟩
              · intro g351
                have h352 := h349 g351
                exact ih _ _ _ _ F313 h352
              · intro g353
                have h354 := h350 g353
                unfold qX12_when_J111 at h354 ⊢
                refine fmX12_rightThen h354 ?_
                intro x15_356 M15_357 f355 h355
                have F355 : Ks (fun k j => k = 0 ∨ k = 6 ∨ (13 ≤ k ∧ k ≤ 14) ∨ (16 ≤ k ∧ k ≤ 18) ∨ (k = 1 ∧ (j = 0 ∨ j = 1 ∨ j = 30 ∨ j = 31 ∨ j = 35))) M0 M15_357 := (F313).tr (f355.mono (mo_180))
                intro g358
                have h359 := h355 g358
                refine fmX12_has h359 ?_
                intro x16_361 M16_362 f360 h360
                have F360 : Ks (fun k j => k = 0 ∨ k = 6 ∨ (13 ≤ k ∧ k ≤ 14) ∨ (16 ≤ k ∧ k ≤ 18) ∨ (k = 1 ∧ (j = 0 ∨ j = 1 ∨ j = 30 ∨ j = 31 ∨ j = 35))) M0 M16_362 := (F355).tr (f360.mono (fun _ _ h => False.elim h))
                intro g363 g364
                have h365 := h360 g363 g364
                obtain ⟨h366, h367⟩ := h365
                refine ⟨?_, ?_⟩
                · intro g368
                  have h369 := h366 g368
                  exact ih _ _ _ _ F360 h369
                · intro g370
                  have h371 := h367 g370
                  obtain ⟨v372, h372⟩ := h371
                  refine ⟨v372, ?_⟩
                  obtain ⟨h373, h374⟩ := h372
                  refine ⟨?_, ?_⟩
                  · intro g375
                    have h376 := h373 g375
                    exact ih _ _ _ _ F360 h376
                  · intro g377
                    have h378 := h374 g377
                    exact ih _ _ _ _ F360 h378
          · intro g379
            have h380 := h310 g379
            unfold qX12_when_J97 at h380 ⊢
            obtain ⟨v381, h381⟩ := h380
            refine ⟨v381, ?_⟩
            obtain ⟨h382, h383⟩ := h381
            refine ⟨?_, ?_⟩
            · intro g384
              have h385 := h382 g384
              unfold qX12_when_J111 at h385 ⊢
              refine fmX12_rightThen h385 ?_
              intro x15_387 M15_388 f386 h386
              have F386 : Ks (fun k j => k = 0 ∨ k = 6 ∨ (13 ≤ k ∧ k ≤ 14) ∨ (16 ≤ k ∧ k ≤ 18) ∨ (k = 1 ∧ (j = 0 ∨ j = 1 ∨ j = 30 ∨ j = 31 ∨ j = 35))) M0 M15_388 := (F12).tr (f386.mono (mo_180))
              intro g389
              have h390 := h386 g389
              refine fmX12_has h390 ?_
              intro x16_392 M16_393 f391 h391
              have F391 : Ks (fun k j => k = 0 ∨ k = 6 ∨ (13 ≤ k ∧ k ≤ 14) ∨ (16 ≤ k ∧ k ≤ 18) ∨ (k = 1 ∧ (j = 0 ∨ j = 1 ∨ j = 30 ∨ j = 31 ∨ j = 35))) M0 M16_393 := (F386).tr (f391.mono (fun _ _ h => False.elim h))
              intro g394 g395
              have h396 := h391 g394 g395
              obtain ⟨h397, h398⟩ := h396
              refine ⟨?_, ?_⟩
              · intro g399
                have h400 := h397 g399
                exact ih _ _ _ _ F391 h400
              · intro g401
                have h402 := h398 g401
                obtain ⟨v403, h403⟩ := h402
                refine ⟨v403, ?_⟩
                obtain ⟨h404, h405⟩ := h403
                refine ⟨?_, ?_⟩
                · intro g406
                  have h407 := h404 g406
                  exact ih _ _ _ _ F391 h407
                · intro g408
                  have h409 := h405 g408
                  exact ih _ _ _ _ F391 h409
            · intro g410
              have h411 := h383 g410
              obtain ⟨h412, h413⟩ := h411
              refine ⟨?_, ?_⟩
              · intro g414
                have h415 := h412 g414
                exact ih _ _ _ _ F12 h415
              · intro g416
                have h417 := h413 g416
                unfold qX12_when_J111 at h417 ⊢
                refine fmX12_rightThen h417 ?_
                intro x15_419 M15_420 f418 h418
                have F418 : Ks (fun k j => k = 0 ∨ k = 6 ∨ (13 ≤ k ∧ k ≤ 14) ∨ (16 ≤ k ∧ k ≤ 18) ∨ (k = 1 ∧ (j = 0 ∨ j = 1 ∨ j = 30 ∨ j = 31 ∨ j = 35))) M0 M15_420 := (F12).tr (f418.mono (mo_180))
                intro g421
                have h422 := h418 g421
                refine fmX12_has h422 ?_
                intro x16_424 M16_425 f423 h423
                have F423 : Ks (fun k j => k = 0 ∨ k = 6 ∨ (13 ≤ k ∧ k ≤ 14) ∨ (16 ≤ k ∧ k ≤ 18) ∨ (k = 1 ∧ (j = 0 ∨ j = 1 ∨ j = 30 ∨ j = 31 ∨ j = 35))) M0 M16_425 := (F418).tr (f423.mono (fun _ _ h => False.elim h))
                intro g426 g427
                have h428 := h423 g426 g427
                obtain ⟨h429, h430⟩ := h428
                refine ⟨?_, ?_⟩
                · intro g431
                  have h432 := h429 g431
                  exact ih _ _ _ _ F423 h432
                · intro g433
                  have h434 := h430 g433
                  obtain ⟨v435, h435⟩ := h434
                  refine ⟨v435, ?_⟩
                  obtain ⟨h436, h437⟩ := h435
                  refine ⟨?_, ?_⟩
                  · intro g438
                    have h439 := h436 g438
                    exact ih _ _ _ _ F423 h439
                  · intro g440
                    have h441 := h437 g440
                    exact ih _ _ _ _ F423 h441
theorem fmX12_when {p1 : Int} {M : Mem} {Q Q' : Int → Mem → Prop} (h : qX12_when p1 M Q) (hQ : ∀ (w0 : Int) (M' : Mem), Ks (fun k j => k = 0 ∨ k = 6 ∨ (13 ≤ k ∧ k ≤ 14) ∨ (16 ≤ k ∧ k ≤ 18) ∨ (k = 1 ∧ (j = 0 ∨ j = 1 ∨ j = 30 ∨ j = 31 ∨ j = 35))) M M' → Q w0 M' → Q' w0 M') : qX12_when p1 M Q' := by
  unfold qX12_when at h ⊢
  intro M1_1 eM1_1
  have h1 := h M1_1 eM1_1
  have F1 : Ks (fun k j => k = 0 ∨ k = 6 ∨ (13 ≤ k ∧ k ≤ 14) ∨ (16 ≤ k ∧ k ≤ 18) ∨ (k = 1 ∧ (j = 0 ∨ j = 1 ∨ j = 30 ∨ j = 31 ∨ j = 35))) M M1_1 := by rw [eM1_1]; exact (Ks.rf).wr (mw_187)
  refine fmX12_isMourner h1 ?_
  intro x2_3 M2_4 f2 h2
  have F2 : Ks (fun k j => k = 0 ∨ k = 6 ∨ (13 ≤ k ∧ k ≤ 14) ∨ (16 ≤ k ∧ k ≤ 18) ∨ (k = 1 ∧ (j = 0 ∨ j = 1 ∨ j = 30 ∨ j = 31 ∨ j = 35))) M M2_4 := (F1).tr (f2.mono (fun _ _ h => False.elim h))
  intro g5 g6
  have h7 := h2 g5 g6
  obtain ⟨h8, h9⟩ := h7
  refine ⟨?_, ?_⟩
  · intro g10
    have h11 := h8 g10
    obtain ⟨n12, h12⟩ := h11
    refine ⟨n12, ?_⟩
    refine fmX12_when_L24 hQ ?_ _ _ _ _ _ F2 h12
    · intro v2_14 v3_15 M_16 F13 h13
      obtain ⟨v17, h17⟩ := h13
      refine ⟨v17, ?_⟩
      obtain ⟨h18, h19⟩ := h17
      refine ⟨?_, ?_⟩
      · intro g20
        have h21 := h18 g20
        exact hQ _ _ F13 h21
      · intro g22
        have h23 := h19 g22
        intro M31_24 eM31_24
        have h24 := h23 M31_24 eM31_24
        have F24 : Ks (fun k j => k = 0 ∨ k = 6 ∨ (13 ≤ k ∧ k ≤ 14) ∨ (16 ≤ k ∧ k ≤ 18) ∨ (k = 1 ∧ (j = 0 ∨ j = 1 ∨ j = 30 ∨ j = 31 ∨ j = 35))) M M31_24 := by rw [eM31_24]; exact (F13).wr (mw_188)
        obtain ⟨v25, h25⟩ := h24
        refine ⟨v25, ?_⟩
        refine fmX12_enters h25 ?_
        intro M33_27 f26 h26
        have F26 : Ks (fun k j => k = 0 ∨ k = 6 ∨ (13 ≤ k ∧ k ≤ 14) ∨ (16 ≤ k ∧ k ≤ 18) ∨ (k = 1 ∧ (j = 0 ∨ j = 1 ∨ j = 30 ∨ j = 31 ∨ j = 35))) M M33_27 := (F24).tr (f26.mono (mo_175))
        exact hQ _ _ F26 h26
  · intro g28
    have h29 := h9 g28
    exact hQ _ _ F2 h29
theorem fmX12_mends_L58 {p1 : Int} {X122 X122' : Int → Int → Int → Mem → Prop} {Q Q' : Int → Mem → Prop} {M0 : Mem} (hQ : ∀ (w0 : Int) (M' : Mem), Ks (fun k j => k = 0 ∨ k = 6 ∨ (13 ≤ k ∧ k ≤ 14) ∨ (16 ≤ k ∧ k ≤ 18) ∨ (k = 1 ∧ (j = 0 ∨ j = 1 ∨ j = 30 ∨ j = 31 ∨ j = 35))) M0 M' → Q w0 M' → Q' w0 M') (hX122 : ∀ (w0 w1 w2 : Int) (M' : Mem), Ks (fun k j => k = 0 ∨ k = 6 ∨ (13 ≤ k ∧ k ≤ 14) ∨ (16 ≤ k ∧ k ≤ 18) ∨ (k = 1 ∧ (j = 0 ∨ j = 1 ∨ j = 30 ∨ j = 31 ∨ j = 35))) M0 M' → X122 w0 w1 w2 M' → X122' w0 w1 w2 M') : ∀ (n : Nat) (v2 v3 v4 v5 : Int) (M : Mem), Ks (fun k j => k = 0 ∨ k = 6 ∨ (13 ≤ k ∧ k ≤ 14) ∨ (16 ≤ k ∧ k ≤ 18) ∨ (k = 1 ∧ (j = 0 ∨ j = 1 ∨ j = 30 ∨ j = 31 ∨ j = 35))) M0 M → qX12_mends_L58 p1 X122 Q n v2 v3 v4 v5 M → qX12_mends_L58 p1 X122' Q' n v2 v3 v4 v5 M := by
  intro n
  induction n with
  | zero => intro v2 v3 v4 v5 M _ h; exact h.elim
  | succ n ih =>
    intro v2 v3 v4 v5 M hF h
    rw [qX12_mends_L58] at h
    rw [qX12_mends_L58]
    intro x11_1 g2 g3
    have h1 := h x11_1 g2 g3
    obtain ⟨v4, h4⟩ := h1
    refine ⟨v4, ?_⟩
    obtain ⟨h5, h6⟩ := h4
    refine ⟨?_, ?_⟩
    · intro g7
      have h8 := h5 g7
      exact hX122 _ _ _ _ hF h8
    · intro g9
      have h10 := h6 g9
      obtain ⟨v11, h11⟩ := h10
      refine ⟨v11, ?_⟩
      refine fmX12_has h11 ?_
      intro x15_13 M15_14 f12 h12
      have F12 : Ks (fun k j => k = 0 ∨ k = 6 ∨ (13 ≤ k ∧ k ≤ 14) ∨ (16 ≤ k ∧ k ≤ 18) ∨ (k = 1 ∧ (j = 0 ∨ j = 1 ∨ j = 30 ∨ j = 31 ∨ j = 35))) M0 M15_14 := (hF).tr (f12.mono (fun _ _ h => False.elim h))
      intro g15 g16
      have h17 := h12 g15 g16
      obtain ⟨h18, h19⟩ := h17
      refine ⟨?_, ?_⟩
      · intro g20
        have h21 := h18 g20
        unfold qX12_mends_J90 at h21 ⊢
        obtain ⟨v22, h22⟩ := h21
        refine ⟨v22, ?_⟩
        obtain ⟨h23, h24⟩ := h22
        refine ⟨?_, ?_⟩
        · intro g25
          have h26 := h23 g25
          exact ih _ _ _ _ _ F12 h26
        · intro g27
          have h28 := h24 g27
          obtain ⟨v29, h29⟩ := h28
          refine ⟨v29, ?_⟩
          obtain ⟨h30, h31⟩ := h29
          refine ⟨?_, ?_⟩
          · intro g32
            have h33 := h30 g32
            exact ih _ _ _ _ _ F12 h33
          · intro g34
            have h35 := h31 g34
            obtain ⟨h36, h37⟩ := h35
            refine ⟨?_, ?_⟩
            · intro g38
              have h39 := h36 g38
              exact ih _ _ _ _ _ F12 h39
            · intro g40
              have h41 := h37 g40
              exact ih _ _ _ _ _ F12 h41
      · intro g42
        have h43 := h19 g42
        refine fmX12_turnsOne h43 ?_
        intro x22_45 M22_46 f44 h44
        have F44 : Ks (fun k j => k = 0 ∨ k = 6 ∨ (13 ≤ k ∧ k ≤ 14) ∨ (16 ≤ k ∧ k ≤ 18) ∨ (k = 1 ∧ (j = 0 ∨ j = 1 ∨ j = 30 ∨ j = 31 ∨ j = 35))) M0 M22_46 := (F12).tr (f44.mono (mo_176))
        intro g47
        have h48 := h44 g47
        unfold qX12_mends_J90 at h48 ⊢
        obtain ⟨v49, h49⟩ := h48
        refine ⟨v49, ?_⟩
        obtain ⟨h50, h51⟩ := h49
        refine ⟨?_, ?_⟩
        · intro g52
          have h53 := h50 g52
          exact ih _ _ _ _ _ F44 h53
        · intro g54
          have h55 := h51 g54
          obtain ⟨v56, h56⟩ := h55
          refine ⟨v56, ?_⟩
          obtain ⟨h57, h58⟩ := h56
          refine ⟨?_, ?_⟩
          · intro g59
            have h60 := h57 g59
            exact ih _ _ _ _ _ F44 h60
          · intro g61
            have h62 := h58 g61
            obtain ⟨h63, h64⟩ := h62
            refine ⟨?_, ?_⟩
            · intro g65
              have h66 := h63 g65
              exact ih _ _ _ _ _ F44 h66
            · intro g67
              have h68 := h64 g67
              exact ih _ _ _ _ _ F44 h68
theorem fmX12_mends_L23 {p1 : Int} {X150 X150' : Int → Mem → Prop} {Q Q' : Int → Mem → Prop} {M0 : Mem} (hQ : ∀ (w0 : Int) (M' : Mem), Ks (fun k j => k = 0 ∨ k = 6 ∨ (13 ≤ k ∧ k ≤ 14) ∨ (16 ≤ k ∧ k ≤ 18) ∨ (k = 1 ∧ (j = 0 ∨ j = 1 ∨ j = 30 ∨ j = 31 ∨ j = 35))) M0 M' → Q w0 M' → Q' w0 M') (hX150 : ∀ (w0 : Int) (M' : Mem), Ks (fun k j => k = 0 ∨ k = 6 ∨ (13 ≤ k ∧ k ≤ 14) ∨ (16 ≤ k ∧ k ≤ 18) ∨ (k = 1 ∧ (j = 0 ∨ j = 1 ∨ j = 30 ∨ j = 31 ∨ j = 35))) M0 M' → X150 w0 M' → X150' w0 M') : ∀ (n : Nat) (v2 v3 : Int) (M : Mem), Ks (fun k j => k = 0 ∨ k = 6 ∨ (13 ≤ k ∧ k ≤ 14) ∨ (16 ≤ k ∧ k ≤ 18) ∨ (k = 1 ∧ (j = 0 ∨ j = 1 ∨ j = 30 ∨ j = 31 ∨ j = 35))) M0 M → qX12_mends_L23 p1 X150 Q n v2 v3 M → qX12_mends_L23 p1 X150' Q' n v2 v3 M := by
  intro n
  induction n with
  | zero => intro v2 v3 M _ h; exact h.elim
  | succ n ih =>
    intro v2 v3 M hF h
    rw [qX12_mends_L23] at h
    rw [qX12_mends_L23]
    intro x4_1 g2 g3
    have h1 := h x4_1 g2 g3
    intro x5_4 g5 g6
    have h4 := h1 x5_4 g5 g6
    obtain ⟨v7, h7⟩ := h4
    refine ⟨v7, ?_⟩
    obtain ⟨h8, h9⟩ := h7
    refine ⟨?_, ?_⟩
    · intro g10
      have h11 := h8 g10
      exact hX150 _ _ hF h11
    · intro g12
      have h13 := h9 g12
      obtain ⟨v14, h14⟩ := h13
      refine ⟨v14, ?_⟩
      obtain ⟨h15, h16⟩ := h14
      refine ⟨?_, ?_⟩
      · intro g17
        have h18 := h15 g17
        unfold qX12_mends_J48 at h18 ⊢
        refine fmX12_copies h18 ?_
        intro M10_20 f19 h19
        have F19 : Ks (fun k j => k = 0 ∨ k = 6 ∨ (13 ≤ k ∧ k ≤ 14) ∨ (16 ≤ k ∧ k ≤ 18) ∨ (k = 1 ∧ (j = 0 ∨ j = 1 ∨ j = 30 ∨ j = 31 ∨ j = 35))) M0 M10_20 := (hF).tr (f19.mono (mo_176))
        obtain ⟨n21, h21⟩ := h19
        refine ⟨n21, ?_⟩
        refine fmX12_mends_L58 hQ ?_ _ _ _ _ _ _ F19 h21
        · intro v2_23 v3_24 v4_25 M_26 F22 h22
          obtain ⟨v27, h27⟩ := h22
          refine ⟨v27, ?_⟩
          obtain ⟨h28, h29⟩ := h27
          refine ⟨?_, ?_⟩
          · intro g30
            have h31 := h28 g30
            exact ih _ _ _ F22 h31
          · intro g32
            have h33 := h29 g32
            refine fmX12_rightThen h33 ?_
            intro x26_35 M26_36 f34 h34
            have F34 : Ks (fun k j => k = 0 ∨ k = 6 ∨ (13 ≤ k ∧ k ≤ 14) ∨ (16 ≤ k ∧ k ≤ 18) ∨ (k = 1 ∧ (j = 0 ∨ j = 1 ∨ j = 30 ∨ j = 31 ∨ j = 35))) M0 M26_36 := (F22).tr (f34.mono (mo_180))
            intro g37
            have h38 := h34 g37
            refine fmJ6_bitCount_0f7a4 h38 ?_
            intro x27_40 M27_41 f39 h39
            have F39 : Ks (fun k j => k = 0 ∨ k = 6 ∨ (13 ≤ k ∧ k ≤ 14) ∨ (16 ≤ k ∧ k ≤ 18) ∨ (k = 1 ∧ (j = 0 ∨ j = 1 ∨ j = 30 ∨ j = 31 ∨ j = 35))) M0 M27_41 := (F34).tr (f39.mono (fun _ _ h => False.elim h))
            intro g42
            have h43 := h39 g42
            obtain ⟨h44, h45⟩ := h43
            refine ⟨?_, ?_⟩
            · intro g46
              have h47 := h44 g46
              exact ih _ _ _ F39 h47
            · intro g48
              have h49 := h45 g48
              exact ih _ _ _ F39 h49
      · intro g50
        have h51 := h16 g50
        refine fmJ6_bitCount_0f7a4 h51 ?_
        intro x29_53 M29_54 f52 h52
        have F52 : Ks (fun k j => k = 0 ∨ k = 6 ∨ (13 ≤ k ∧ k ≤ 14) ∨ (16 ≤ k ∧ k ≤ 18) ∨ (k = 1 ∧ (j = 0 ∨ j = 1 ∨ j = 30 ∨ j = 31 ∨ j = 35))) M0 M29_54 := (hF).tr (f52.mono (fun _ _ h => False.elim h))
        intro g55
        have h56 := h52 g55
        refine fmJ6_bitCount_0f7a4 h56 ?_
        intro x30_58 M30_59 f57 h57
        have F57 : Ks (fun k j => k = 0 ∨ k = 6 ∨ (13 ≤ k ∧ k ≤ 14) ∨ (16 ≤ k ∧ k ≤ 18) ∨ (k = 1 ∧ (j = 0 ∨ j = 1 ∨ j = 30 ∨ j = 31 ∨ j = 35))) M0 M30_59 := (F52).tr (f57.mono (fun _ _ h => False.elim h))
        intro g60
        have h61 := h57 g60
        obtain ⟨h62, h63⟩ := h61
        refine ⟨?_, ?_⟩
        · intro g64
          have h65 := h62 g64
          exact ih _ _ _ F57 h65
        · intro g66
          have h67 := h63 g66
          unfold qX12_mends_J48 at h67 ⊢
          refine fmX12_copies h67 ?_
          intro M10_69 f68 h68
          have F68 : Ks (fun k j => k = 0 ∨ k = 6 ∨ (13 ≤ k ∧ k ≤ 14) ∨ (16 ≤ k ∧ k ≤ 18) ∨ (k = 1 ∧ (j = 0 ∨ j = 1 ∨ j = 30 ∨ j = 31 ∨ j = 35))) M0 M10_69 := (F57).tr (f68.mono (mo_176))
          obtain ⟨n70, h70⟩ := h68
          refine ⟨n70, ?_⟩
          refine fmX12_mends_L58 hQ ?_ _ _ _ _ _ _ F68 h70
          · intro v2_72 v3_73 v4_74 M_75 F71 h71
            obtain ⟨v76, h76⟩ := h71
            refine ⟨v76, ?_⟩
            obtain ⟨h77, h78⟩ := h76
            refine ⟨?_, ?_⟩
            · intro g79
              have h80 := h77 g79
              exact ih _ _ _ F71 h80
            · intro g81
              have h82 := h78 g81
              refine fmX12_rightThen h82 ?_
              intro x26_84 M26_85 f83 h83
              have F83 : Ks (fun k j => k = 0 ∨ k = 6 ∨ (13 ≤ k ∧ k ≤ 14) ∨ (16 ≤ k ∧ k ≤ 18) ∨ (k = 1 ∧ (j = 0 ∨ j = 1 ∨ j = 30 ∨ j = 31 ∨ j = 35))) M0 M26_85 := (F71).tr (f83.mono (mo_180))
              intro g86
              have h87 := h83 g86
              refine fmJ6_bitCount_0f7a4 h87 ?_
              intro x27_89 M27_90 f88 h88
              have F88 : Ks (fun k j => k = 0 ∨ k = 6 ∨ (13 ≤ k ∧ k ≤ 14) ∨ (16 ≤ k ∧ k ≤ 18) ∨ (k = 1 ∧ (j = 0 ∨ j = 1 ∨ j = 30 ∨ j = 31 ∨ j = 35))) M0 M27_90 := (F83).tr (f88.mono (fun _ _ h => False.elim h))
              intro g91
              have h92 := h88 g91
              obtain ⟨h93, h94⟩ := h92
              refine ⟨?_, ?_⟩
              · intro g95
                have h96 := h93 g95
                exact ih _ _ _ F88 h96
              · intro g97
                have h98 := h94 g97
                exact ih _ _ _ F88 h98
theorem fmX12_mends {p1 : Int} {M : Mem} {Q Q' : Int → Mem → Prop} (h : qX12_mends p1 M Q) (hQ : ∀ (w0 : Int) (M' : Mem), Ks (fun k j => k = 0 ∨ k = 6 ∨ (13 ≤ k ∧ k ≤ 14) ∨ (16 ≤ k ∧ k ≤ 18) ∨ (k = 1 ∧ (j = 0 ∨ j = 1 ∨ j = 30 ∨ j = 31 ∨ j = 35))) M M' → Q w0 M' → Q' w0 M') : qX12_mends p1 M Q' := by
  unfold qX12_mends at h ⊢
  intro M1_1 eM1_1
  have h1 := h M1_1 eM1_1
  have F1 : Ks (fun k j => k = 0 ∨ k = 6 ∨ (13 ≤ k ∧ k ≤ 14) ∨ (16 ≤ k ∧ k ≤ 18) ∨ (k = 1 ∧ (j = 0 ∨ j = 1 ∨ j = 30 ∨ j = 31 ∨ j = 35))) M M1_1 := by rw [eM1_1]; exact (Ks.rf).wr (mw_187)
  refine fmX12_in h1 ?_
  intro x2_3 M2_4 f2 h2
  have F2 : Ks (fun k j => k = 0 ∨ k = 6 ∨ (13 ≤ k ∧ k ≤ 14) ∨ (16 ≤ k ∧ k ≤ 18) ∨ (k = 1 ∧ (j = 0 ∨ j = 1 ∨ j = 30 ∨ j = 31 ∨ j = 35))) M M2_4 := (F1).tr (f2.mono (fun _ _ h => False.elim h))
  intro g5 g6
  have h7 := h2 g5 g6
  obtain ⟨h8, h9⟩ := h7
  refine ⟨?_, ?_⟩
  · intro g10
    have h11 := h8 g10
    obtain ⟨n12, h12⟩ := h11
    refine ⟨n12, ?_⟩
    refine fmX12_mends_L23 hQ ?_ _ _ _ _ F2 h12
    · intro v2_14 M_15 F13 h13
      obtain ⟨v16, h16⟩ := h13
      refine ⟨v16, ?_⟩
      obtain ⟨h17, h18⟩ := h16
      refine ⟨?_, ?_⟩
      · intro g19
        have h20 := h17 g19
        intro M35_21 eM35_21
        have h21 := h20 M35_21 eM35_21
        have F21 : Ks (fun k j => k = 0 ∨ k = 6 ∨ (13 ≤ k ∧ k ≤ 14) ∨ (16 ≤ k ∧ k ≤ 18) ∨ (k = 1 ∧ (j = 0 ∨ j = 1 ∨ j = 30 ∨ j = 31 ∨ j = 35))) M M35_21 := by rw [eM35_21]; exact (F13).wr (mw_188)
        refine fmX12_enters h21 ?_
        intro M36_23 f22 h22
        have F22 : Ks (fun k j => k = 0 ∨ k = 6 ∨ (13 ≤ k ∧ k ≤ 14) ∨ (16 ≤ k ∧ k ≤ 18) ∨ (k = 1 ∧ (j = 0 ∨ j = 1 ∨ j = 30 ∨ j = 31 ∨ j = 35))) M M36_23 := (F21).tr (f22.mono (mo_175))
        refine fmJ6_bitCount_0f7a4 h22 ?_
        intro x37_25 M37_26 f24 h24
        have F24 : Ks (fun k j => k = 0 ∨ k = 6 ∨ (13 ≤ k ∧ k ≤ 14) ∨ (16 ≤ k ∧ k ≤ 18) ∨ (k = 1 ∧ (j = 0 ∨ j = 1 ∨ j = 30 ∨ j = 31 ∨ j = 35))) M M37_26 := (F22).tr (f24.mono (fun _ _ h => False.elim h))
        intro g27
        have h28 := h24 g27
        exact hQ _ _ F24 h28
      · intro g29
        have h30 := h18 g29
        exact hQ _ _ F13 h30
  · intro g31
    have h32 := h9 g31
    exact hQ _ _ F2 h32
theorem fmX12_misleads_L58  {X124 X124' : Int → Int → Int → Int → Mem → Prop} {Q Q' : Int → Mem → Prop} {M0 : Mem} (hQ : ∀ (w0 : Int) (M' : Mem), Ks (fun k j => k = 0 ∨ k = 6 ∨ (13 ≤ k ∧ k ≤ 14) ∨ (16 ≤ k ∧ k ≤ 18) ∨ (k = 1 ∧ (j = 0 ∨ j = 1 ∨ j = 30 ∨ j = 31 ∨ j = 35))) M0 M' → Q w0 M' → Q' w0 M') (hX124 : ∀ (w0 w1 w2 w3 : Int) (M' : Mem), Ks (fun k j => k = 0 ∨ k = 6 ∨ (13 ≤ k ∧ k ≤ 14) ∨ (16 ≤ k ∧ k ≤ 18) ∨ (k = 1 ∧ (j = 0 ∨ j = 1 ∨ j = 30 ∨ j = 31 ∨ j = 35))) M0 M' → X124 w0 w1 w2 w3 M' → X124' w0 w1 w2 w3 M') : ∀ (n : Nat) (v1 v2 v3 v4 v5 : Int) (M : Mem), Ks (fun k j => k = 0 ∨ k = 6 ∨ (13 ≤ k ∧ k ≤ 14) ∨ (16 ≤ k ∧ k ≤ 18) ∨ (k = 1 ∧ (j = 0 ∨ j = 1 ∨ j = 30 ∨ j = 31 ∨ j = 35))) M0 M → qX12_misleads_L58 X124 Q n v1 v2 v3 v4 v5 M → qX12_misleads_L58 X124' Q' n v1 v2 v3 v4 v5 M := by
  intro n
  induction n with
  | zero => intro v1 v2 v3 v4 v5 M _ h; exact h.elim
  | succ n ih =>
    intro v1 v2 v3 v4 v5 M hF h
    rw [qX12_misleads_L58] at h
    rw [qX12_misleads_L58]
    intro x13_1 g2 g3
    have h1 := h x13_1 g2 g3
    obtain ⟨v4, h4⟩ := h1
    refine ⟨v4, ?_⟩
    obtain ⟨h5, h6⟩ := h4
    refine ⟨?_, ?_⟩
    · intro g7
      have h8 := h5 g7
      exact hX124 _ _ _ _ _ hF h8
    · intro g9
      have h10 := h6 g9
      refine fmX12_isEnded h10 ?_
      intro x16_12 M16_13 f11 h11
      have F11 : Ks (fun k j => k = 0 ∨ k = 6 ∨ (13 ≤ k ∧ k ≤ 14) ∨ (16 ≤ k ∧ k ≤ 18) ∨ (k = 1 ∧ (j = 0 ∨ j = 1 ∨ j = 30 ∨ j = 31 ∨ j = 35))) M0 M16_13 := (hF).tr (f11.mono (fun _ _ h => False.elim h))
      intro g14 g15
      have h16 := h11 g14 g15
      obtain ⟨h17, h18⟩ := h16
      refine ⟨?_, ?_⟩
      · intro g19
        have h20 := h17 g19
        unfold qX12_misleads_J107 at h20 ⊢
        obtain ⟨v21, h21⟩ := h20
        refine ⟨v21, ?_⟩
        obtain ⟨v22, h22⟩ := h21
        refine ⟨v22, ?_⟩
        intro x20_23 g24 g25
        have h23 := h22 x20_23 g24 g25
        unfold qX12_misleads_J117 at h23 ⊢
        obtain ⟨v26, h26⟩ := h23
        refine ⟨v26, ?_⟩
        obtain ⟨v27, h27⟩ := h26
        refine ⟨v27, ?_⟩
        obtain ⟨v28, h28⟩ := h27
        refine ⟨v28, ?_⟩
        intro M24_29 eM24_29
        have h29 := h28 M24_29 eM24_29
        have F29 : Ks (fun k j => k = 0 ∨ k = 6 ∨ (13 ≤ k ∧ k ≤ 14) ∨ (16 ≤ k ∧ k ≤ 18) ∨ (k = 1 ∧ (j = 0 ∨ j = 1 ∨ j = 30 ∨ j = 31 ∨ j = 35))) M0 M24_29 := by rw [eM24_29]; exact (F11).wr (mw_196 _)
        exact ih _ _ _ _ _ _ F29 h29
      · intro g30
        have h31 := h18 g30
        obtain ⟨v32, h32⟩ := h31
        refine ⟨v32, ?_⟩
        obtain ⟨v33, h33⟩ := h32
        refine ⟨v33, ?_⟩
        intro x27_34 g35 g36
        have h34 := h33 x27_34 g35 g36
        obtain ⟨v37, h37⟩ := h34
        refine ⟨v37, ?_⟩
        obtain ⟨h38, h39⟩ := h37
        refine ⟨?_, ?_⟩
        · intro g40
          have h41 := h38 g40
          unfold qX12_misleads_J107 at h41 ⊢
          obtain ⟨v42, h42⟩ := h41
          refine ⟨v42, ?_⟩
          obtain ⟨v43, h43⟩ := h42
          refine ⟨v43, ?_⟩
          intro x20_44 g45 g46
          have h44 := h43 x20_44 g45 g46
          unfold qX12_misleads_J117 at h44 ⊢
          obtain ⟨v47, h47⟩ := h44
          refine ⟨v47, ?_⟩
          obtain ⟨v48, h48⟩ := h47
          refine ⟨v48, ?_⟩
          obtain ⟨v49, h49⟩ := h48
          refine ⟨v49, ?_⟩
          intro M24_50 eM24_50
          have h50 := h49 M24_50 eM24_50
          have F50 : Ks (fun k j => k = 0 ∨ k = 6 ∨ (13 ≤ k ∧ k ≤ 14) ∨ (16 ≤ k ∧ k ≤ 18) ∨ (k = 1 ∧ (j = 0 ∨ j = 1 ∨ j = 30 ∨ j = 31 ∨ j = 35))) M0 M24_50 := by rw [eM24_50]; exact (F11).wr (mw_196 _)
          exact ih _ _ _ _ _ _ F50 h50
        · intro g51
          have h52 := h39 g51
          unfold qX12_misleads_J117 at h52 ⊢
          obtain ⟨v53, h53⟩ := h52
          refine ⟨v53, ?_⟩
          obtain ⟨v54, h54⟩ := h53
          refine ⟨v54, ?_⟩
          obtain ⟨v55, h55⟩ := h54
          refine ⟨v55, ?_⟩
          intro M24_56 eM24_56
          have h56 := h55 M24_56 eM24_56
          have F56 : Ks (fun k j => k = 0 ∨ k = 6 ∨ (13 ≤ k ∧ k ≤ 14) ∨ (16 ≤ k ∧ k ≤ 18) ∨ (k = 1 ∧ (j = 0 ∨ j = 1 ∨ j = 30 ∨ j = 31 ∨ j = 35))) M0 M24_56 := by rw [eM24_56]; exact (F11).wr (mw_196 _)
          exact ih _ _ _ _ _ _ F56 h56
theorem fmX12_misleads_L22  {X168 X168' : Int → Int → Int → Mem → Prop} {Q Q' : Int → Mem → Prop} {M0 : Mem} (hQ : ∀ (w0 : Int) (M' : Mem), Ks (fun k j => k = 0 ∨ k = 6 ∨ (13 ≤ k ∧ k ≤ 14) ∨ (16 ≤ k ∧ k ≤ 18) ∨ (k = 1 ∧ (j = 0 ∨ j = 1 ∨ j = 30 ∨ j = 31 ∨ j = 35))) M0 M' → Q w0 M' → Q' w0 M') (hX168 : ∀ (w0 w1 w2 : Int) (M' : Mem), Ks (fun k j => k = 0 ∨ k = 6 ∨ (13 ≤ k ∧ k ≤ 14) ∨ (16 ≤ k ∧ k ≤ 18) ∨ (k = 1 ∧ (j = 0 ∨ j = 1 ∨ j = 30 ∨ j = 31 ∨ j = 35))) M0 M' → X168 w0 w1 w2 M' → X168' w0 w1 w2 M') : ∀ (n : Nat) (v1 v2 v3 v4 : Int) (M : Mem), Ks (fun k j => k = 0 ∨ k = 6 ∨ (13 ≤ k ∧ k ≤ 14) ∨ (16 ≤ k ∧ k ≤ 18) ∨ (k = 1 ∧ (j = 0 ∨ j = 1 ∨ j = 30 ∨ j = 31 ∨ j = 35))) M0 M → qX12_misleads_L22 X168 Q n v1 v2 v3 v4 M → qX12_misleads_L22 X168' Q' n v1 v2 v3 v4 M := by
  intro n
  induction n with
  | zero => intro v1 v2 v3 v4 M _ h; exact h.elim
  | succ n ih =>
    intro v1 v2 v3 v4 M hF h
    rw [qX12_misleads_L22] at h
    rw [qX12_misleads_L22]
    intro x4_1 g2 g3
    have h1 := h x4_1 g2 g3
    obtain ⟨v4, h4⟩ := h1
    refine ⟨v4, ?_⟩
    obtain ⟨h5, h6⟩ := h4
    refine ⟨?_, ?_⟩
    · intro g7
      have h8 := h5 g7
      exact hX168 _ _ _ _ hF h8
    · intro g9
      have h10 := h6 g9
      refine fmX12_isOn h10 ?_
      intro x7_12 M7_13 f11 h11
      have F11 : Ks (fun k j => k = 0 ∨ k = 6 ∨ (13 ≤ k ∧ k ≤ 14) ∨ (16 ≤ k ∧ k ≤ 18) ∨ (k = 1 ∧ (j = 0 ∨ j = 1 ∨ j = 30 ∨ j = 31 ∨ j = 35))) M0 M7_13 := (hF).tr (f11.mono (fun _ _ h => False.elim h))
      intro g14 g15
      have h16 := h11 g14 g15
      obtain ⟨h17, h18⟩ := h16
      refine ⟨?_, ?_⟩
      · intro g19
        have h20 := h17 g19
        exact ih _ _ _ _ _ F11 h20
      · intro g21
        have h22 := h18 g21
        refine fmX12_copies h22 ?_
        intro M9_24 f23 h23
        have F23 : Ks (fun k j => k = 0 ∨ k = 6 ∨ (13 ≤ k ∧ k ≤ 14) ∨ (16 ≤ k ∧ k ≤ 18) ∨ (k = 1 ∧ (j = 0 ∨ j = 1 ∨ j = 30 ∨ j = 31 ∨ j = 35))) M0 M9_24 := (F11).tr (f23.mono (mo_176))
        obtain ⟨v25, h25⟩ := h23
        refine ⟨v25, ?_⟩
        obtain ⟨v26, h26⟩ := h25
        refine ⟨v26, ?_⟩
        intro M12_27 eM12_27
        have h27 := h26 M12_27 eM12_27
        have F27 : Ks (fun k j => k = 0 ∨ k = 6 ∨ (13 ≤ k ∧ k ≤ 14) ∨ (16 ≤ k ∧ k ≤ 18) ∨ (k = 1 ∧ (j = 0 ∨ j = 1 ∨ j = 30 ∨ j = 31 ∨ j = 35))) M0 M12_27 := by rw [eM12_27]; exact (F23).wr (mw_196 _)
        obtain ⟨n28, h28⟩ := h27
        refine ⟨n28, ?_⟩
        refine fmX12_misleads_L58 hQ ?_ _ _ _ _ _ _ _ F27 h28
        · intro v1_30 v2_31 v3_32 v4_33 M_34 F29 h29
          refine fmX12_rightThen h29 ?_
          intro x31_36 M31_37 f35 h35
          have F35 : Ks (fun k j => k = 0 ∨ k = 6 ∨ (13 ≤ k ∧ k ≤ 14) ∨ (16 ≤ k ∧ k ≤ 18) ∨ (k = 1 ∧ (j = 0 ∨ j = 1 ∨ j = 30 ∨ j = 31 ∨ j = 35))) M0 M31_37 := (F29).tr (f35.mono (mo_180))
          intro g38
          have h39 := h35 g38
          obtain ⟨v40, h40⟩ := h39
          refine ⟨v40, ?_⟩
          refine fmX12_owners h40 ?_
          intro x33_42 M33_43 f41 h41
          have F41 : Ks (fun k j => k = 0 ∨ k = 6 ∨ (13 ≤ k ∧ k ≤ 14) ∨ (16 ≤ k ∧ k ≤ 18) ∨ (k = 1 ∧ (j = 0 ∨ j = 1 ∨ j = 30 ∨ j = 31 ∨ j = 35))) M0 M33_43 := (F35).tr (f41.mono (fun _ _ h => False.elim h))
          intro g44
          have h45 := h41 g44
          intro x34_46 g47 g48
          have h46 := h45 x34_46 g47 g48
          intro x35_49 g50 g51
          have h49 := h46 x35_49 g50 g51
          refine fmJ6_bitCount_0f7a4 h49 ?_
          intro x36_53 M36_54 f52 h52
          have F52 : Ks (fun k j => k = 0 ∨ k = 6 ∨ (13 ≤ k ∧ k ≤ 14) ∨ (16 ≤ k ∧ k ≤ 18) ∨ (k = 1 ∧ (j = 0 ∨ j = 1 ∨ j = 30 ∨ j = 31 ∨ j = 35))) M0 M36_54 := (F41).tr (f52.mono (fun _ _ h => False.elim h))
          intro g55
          have h56 := h52 g55
          obtain ⟨v57, h57⟩ := h56
          refine ⟨v57, ?_⟩
          obtain ⟨h58, h59⟩ := h57
          refine ⟨?_, ?_⟩
          · intro g60
            have h61 := h58 g60
            unfold qX12_misleads_J154 at h61 ⊢
            obtain ⟨v62, h62⟩ := h61
            refine ⟨v62, ?_⟩
            obtain ⟨v63, h63⟩ := h62
            refine ⟨v63, ?_⟩
            intro x41_64 g65 g66
            have h64 := h63 x41_64 g65 g66
            exact ih _ _ _ _ _ F52 h64
          · intro g67
            have h68 := h59 g67
            unfold qX12_misleads_J154 at h68 ⊢
            obtain ⟨v69, h69⟩ := h68
            refine ⟨v69, ?_⟩
            obtain ⟨v70, h70⟩ := h69
            refine ⟨v70, ?_⟩
            intro x41_71 g72 g73
            have h71 := h70 x41_71 g72 g73
            exact ih _ _ _ _ _ F52 h71
theorem fmX12_misleads  {M : Mem} {Q Q' : Int → Mem → Prop} (h : qX12_misleads M Q) (hQ : ∀ (w0 : Int) (M' : Mem), Ks (fun k j => k = 0 ∨ k = 6 ∨ (13 ≤ k ∧ k ≤ 14) ∨ (16 ≤ k ∧ k ≤ 18) ∨ (k = 1 ∧ (j = 0 ∨ j = 1 ∨ j = 30 ∨ j = 31 ∨ j = 35))) M M' → Q w0 M' → Q' w0 M') : qX12_misleads M Q' := by
  unfold qX12_misleads at h ⊢
  intro M1_1 eM1_1
  have h1 := h M1_1 eM1_1
  have F1 : Ks (fun k j => k = 0 ∨ k = 6 ∨ (13 ≤ k ∧ k ≤ 14) ∨ (16 ≤ k ∧ k ≤ 18) ∨ (k = 1 ∧ (j = 0 ∨ j = 1 ∨ j = 30 ∨ j = 31 ∨ j = 35))) M M1_1 := by rw [eM1_1]; exact (Ks.rf).wr (mw_187)
  refine fmX12_copies h1 ?_
  intro M2_3 f2 h2
  have F2 : Ks (fun k j => k = 0 ∨ k = 6 ∨ (13 ≤ k ∧ k ≤ 14) ∨ (16 ≤ k ∧ k ≤ 18) ∨ (k = 1 ∧ (j = 0 ∨ j = 1 ∨ j = 30 ∨ j = 31 ∨ j = 35))) M M2_3 := (F1).tr (f2.mono (mo_176))
  refine fmX12_rightThen h2 ?_
  intro x3_5 M3_6 f4 h4
  have F4 : Ks (fun k j => k = 0 ∨ k = 6 ∨ (13 ≤ k ∧ k ≤ 14) ∨ (16 ≤ k ∧ k ≤ 18) ∨ (k = 1 ∧ (j = 0 ∨ j = 1 ∨ j = 30 ∨ j = 31 ∨ j = 35))) M M3_6 := (F2).tr (f4.mono (mo_180))
  intro g7
  have h8 := h4 g7
  obtain ⟨n9, h9⟩ := h8
  refine ⟨n9, ?_⟩
  refine fmX12_misleads_L22 hQ ?_ _ _ _ _ _ _ F4 h9
  · intro v1_11 v2_12 v3_13 M_14 F10 h10
    obtain ⟨v15, h15⟩ := h10
    refine ⟨v15, ?_⟩
    obtain ⟨h16, h17⟩ := h15
    refine ⟨?_, ?_⟩
    · intro g18
      have h19 := h16 g18
      exact hQ _ _ F10 h19
    · intro g20
      have h21 := h17 g20
      intro M45_22 eM45_22
      have h22 := h21 M45_22 eM45_22
      have F22 : Ks (fun k j => k = 0 ∨ k = 6 ∨ (13 ≤ k ∧ k ≤ 14) ∨ (16 ≤ k ∧ k ≤ 18) ∨ (k = 1 ∧ (j = 0 ∨ j = 1 ∨ j = 30 ∨ j = 31 ∨ j = 35))) M M45_22 := by rw [eM45_22]; exact (F10).wr (mw_188)
      obtain ⟨v23, h23⟩ := h22
      refine ⟨v23, ?_⟩
      refine fmX12_enters h23 ?_
      intro M47_25 f24 h24
      have F24 : Ks (fun k j => k = 0 ∨ k = 6 ∨ (13 ≤ k ∧ k ≤ 14) ∨ (16 ≤ k ∧ k ≤ 18) ∨ (k = 1 ∧ (j = 0 ∨ j = 1 ∨ j = 30 ∨ j = 31 ∨ j = 35))) M M47_25 := (F22).tr (f24.mono (mo_175))
      refine fmX12_owners h24 ?_
      intro x48_27 M48_28 f26 h26
      have F26 : Ks (fun k j => k = 0 ∨ k = 6 ∨ (13 ≤ k ∧ k ≤ 14) ∨ (16 ≤ k ∧ k ≤ 18) ∨ (k = 1 ∧ (j = 0 ∨ j = 1 ∨ j = 30 ∨ j = 31 ∨ j = 35))) M M48_28 := (F24).tr (f26.mono (fun _ _ h => False.elim h))
      intro g29
      have h30 := h26 g29
      intro x49_31 g32 g33
      have h31 := h30 x49_31 g32 g33
      intro x50_34 g35 g36
      have h34 := h31 x50_34 g35 g36
      refine fmJ6_bitCount_0f7a4 h34 ?_
      intro x51_38 M51_39 f37 h37
      have F37 : Ks (fun k j => k = 0 ∨ k = 6 ∨ (13 ≤ k ∧ k ≤ 14) ∨ (16 ≤ k ∧ k ≤ 18) ∨ (k = 1 ∧ (j = 0 ∨ j = 1 ∨ j = 30 ∨ j = 31 ∨ j = 35))) M M51_39 := (F26).tr (f37.mono (fun _ _ h => False.elim h))
      intro g40
      have h41 := h37 g40
      refine fmX12_enters h41 ?_
      intro M52_43 f42 h42
      have F42 : Ks (fun k j => k = 0 ∨ k = 6 ∨ (13 ≤ k ∧ k ≤ 14) ∨ (16 ≤ k ∧ k ≤ 18) ∨ (k = 1 ∧ (j = 0 ∨ j = 1 ∨ j = 30 ∨ j = 31 ∨ j = 35))) M M52_43 := (F37).tr (f42.mono (mo_175))
      exact hQ _ _ F42 h42
