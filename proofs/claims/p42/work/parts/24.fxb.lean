theorem fmX6_freeAhead_L15 {k0 : Nat} {p1 : Int} {p2 : Int} {Q Q' : Int → Mem → Prop} {M0 : Mem} (hQ : ∀ (w0 : Int) (M' : Mem), Ks (fun _ _ => False) M0 M' → Q w0 M' → Q' w0 M') : ∀ (n : Nat) (v3 v4 v5 : Int) (M : Mem), Ks (fun _ _ => False) M0 M → qX6_freeAhead_L15 k0 p1 p2 Q n v3 v4 v5 M → qX6_freeAhead_L15 k0 p1 p2 Q' n v3 v4 v5 M := by
  intro n
  induction n with
  | zero => intro v3 v4 v5 M _ h; exact h.elim
  | succ n ih =>
    intro v3 v4 v5 M hF h
    rw [qX6_freeAhead_L15] at h
    rw [qX6_freeAhead_L15]
    intro x4_1 g2 g3
    have h1 := h x4_1 g2 g3
    obtain ⟨v4, h4⟩ := h1
    refine ⟨v4, ?_⟩
    obtain ⟨h5, h6⟩ := h4
    refine ⟨?_, ?_⟩
    · intro g7
      have h8 := h5 g7
      obtain ⟨v9, h9⟩ := h8
      refine ⟨v9, ?_⟩
      exact hQ _ _ hF h9
    · intro g10
      have h11 := h6 g10
      obtain ⟨v12, h12⟩ := h11
      refine ⟨v12, ?_⟩
      obtain ⟨v13, h13⟩ := h12
      refine ⟨v13, ?_⟩
      intro x10_14 g15 g16
      have h14 := h13 x10_14 g15 g16
      obtain ⟨v17, h17⟩ := h14
      refine ⟨v17, ?_⟩
      obtain ⟨h18, h19⟩ := h17
      refine ⟨?_, ?_⟩
      · intro g20
        have h21 := h18 g20
        exact ih _ _ _ _ hF h21
      · intro g22
        have h23 := h19 g22
        obtain ⟨v24, h24⟩ := h23
        refine ⟨v24, ?_⟩
        obtain ⟨h25, h26⟩ := h24
        refine ⟨?_, ?_⟩
        · intro g27
          have h28 := h25 g27
          exact ih _ _ _ _ hF h28
        · intro g29
          have h30 := h26 g29
          exact ih _ _ _ _ hF h30
theorem fmX6_freeAhead {k0 : Nat} {p1 : Int} {p2 : Int} {M : Mem} {Q Q' : Int → Mem → Prop} (h : qX6_freeAhead k0 p1 p2 M Q) (hQ : ∀ (w0 : Int) (M' : Mem), Ks (fun _ _ => False) M M' → Q w0 M' → Q' w0 M') : qX6_freeAhead k0 p1 p2 M Q' := by
  unfold qX6_freeAhead at h ⊢
  obtain ⟨v1, h1⟩ := h
  refine ⟨v1, ?_⟩
  obtain ⟨v2, h2⟩ := h1
  refine ⟨v2, ?_⟩
  intro x3_3 g4 g5
  have h3 := h2 x3_3 g4 g5
  obtain ⟨n6, h6⟩ := h3
  refine ⟨n6, ?_⟩
  refine fmX6_freeAhead_L15 hQ _ _ _ _ _ Ks.rf h6
theorem fmX8_isCorner {p1 : Int} {M : Mem} {Q Q' : Int → Mem → Prop} (h : qX8_isCorner p1 M Q) (hQ : ∀ (w0 : Int) (M' : Mem), Ks (fun _ _ => False) M M' → Q w0 M' → Q' w0 M') : qX8_isCorner p1 M Q' := by
  unfold qX8_isCorner at h ⊢
  intro x1_1 g2 g3
  have h1 := h x1_1 g2 g3
  intro x2_4 g5 g6
  have h4 := h1 x2_4 g5 g6
  intro x3_7 g8 g9
  have h7 := h4 x3_7 g8 g9
  obtain ⟨h10, h11⟩ := h7
  refine ⟨?_, ?_⟩
  · intro g12
    have h13 := h10 g12
    exact hQ _ _ Ks.rf h13
  · intro g14
    have h15 := h11 g14
    exact hQ _ _ Ks.rf h15
theorem fmX8_weatherAt {p1 : Int} {M : Mem} {Q Q' : Int → Mem → Prop} (h : qX8_weatherAt p1 M Q) (hQ : ∀ (w0 : Int) (M' : Mem), Ks (fun _ _ => False) M M' → Q w0 M' → Q' w0 M') : qX8_weatherAt p1 M Q' := by
  unfold qX8_weatherAt at h ⊢
  intro x1_1 g2 g3
  have h1 := h x1_1 g2 g3
  obtain ⟨h4, h5⟩ := h1
  refine ⟨?_, ?_⟩
  · intro g6
    have h7 := h4 g6
    exact hQ _ _ Ks.rf h7
  · intro g8
    have h9 := h5 g8
    obtain ⟨h10, h11⟩ := h9
    refine ⟨?_, ?_⟩
    · intro g12
      have h13 := h10 g12
      intro x4_14 g15 g16
      have h14 := h13 x4_14 g15 g16
      obtain ⟨v17, h17⟩ := h14
      refine ⟨v17, ?_⟩
      intro x6_18 g19 g20
      have h18 := h17 x6_18 g19 g20
      obtain ⟨v21, h21⟩ := h18
      refine ⟨v21, ?_⟩
      obtain ⟨v22, h22⟩ := h21
      refine ⟨v22, ?_⟩
      intro x9_23 g24 g25
      have h23 := h22 x9_23 g24 g25
      exact hQ _ _ Ks.rf h23
    · intro g26
      have h27 := h11 g26
      exact hQ _ _ Ks.rf h27
theorem fmX2_observe {k0 : Nat} {k1 : Nat} {p3 : Int} {M : Mem} {Q Q' : Mem → Prop} (h : qX2_observe k0 k1 p3 M Q) (hQ : ∀ (M' : Mem), Ks (fun k j => k = k0 + 4) M M' → Q M' → Q' M') : qX2_observe k0 k1 p3 M Q' := by
  unfold qX2_observe at h ⊢
  obtain ⟨v1, h1⟩ := h
  refine ⟨v1, ?_⟩
  obtain ⟨v2, h2⟩ := h1
  refine ⟨v2, ?_⟩
  intro x3_3 g4 g5
  have h3 := h2 x3_3 g4 g5
  intro M4_6 eM4_6
  have h6 := h3 M4_6 eM4_6
  have F6 : Ks (fun k j => k = k0 + 4) M M4_6 := by rw [eM4_6]; exact (Ks.rf).wr (mw_56)
  refine fmX2_uses h6 ?_
  intro x5_8 M5_9 f7 h7
  have F7 : Ks (fun k j => k = k0 + 4) M M5_9 := (F6).tr (f7.mono (fun _ _ h => False.elim h))
  intro g10 g11
  have h12 := h7 g10 g11
  obtain ⟨h13, h14⟩ := h12
  refine ⟨?_, ?_⟩
  · intro g15
    have h16 := h13 g15
    unfold qX2_observe_J38 at h16 ⊢
    obtain ⟨v17, h17⟩ := h16
    refine ⟨v17, ?_⟩
    obtain ⟨v18, h18⟩ := h17
    refine ⟨v18, ?_⟩
    obtain ⟨v19, h19⟩ := h18
    refine ⟨v19, ?_⟩
    intro M10_20 eM10_20
    have h20 := h19 M10_20 eM10_20
    have F20 : Ks (fun k j => k = k0 + 4) M M10_20 := by rw [eM10_20]; exact (F7).wr (mw_56)
    obtain ⟨v21, h21⟩ := h20
    refine ⟨v21, ?_⟩
    obtain ⟨v22, h22⟩ := h21
    refine ⟨v22, ?_⟩
    intro x13_23 g24 g25
    have h23 := h22 x13_23 g24 g25
    refine fmX8_isCorner h23 ?_
    intro x14_27 M14_28 f26 h26
    have F26 : Ks (fun k j => k = k0 + 4) M M14_28 := (F20).tr (f26.mono (fun _ _ h => False.elim h))
    intro g29 g30
    have h31 := h26 g29 g30
    obtain ⟨h32, h33⟩ := h31
    refine ⟨?_, ?_⟩
    · intro g34
      have h35 := h32 g34
      unfold qX2_observe_J62 at h35 ⊢
      obtain ⟨v36, h36⟩ := h35
      refine ⟨v36, ?_⟩
      obtain ⟨v37, h37⟩ := h36
      refine ⟨v37, ?_⟩
      obtain ⟨v38, h38⟩ := h37
      refine ⟨v38, ?_⟩
      intro M19_39 eM19_39
      have h39 := h38 M19_39 eM19_39
      have F39 : Ks (fun k j => k = k0 + 4) M M19_39 := by rw [eM19_39]; exact (F26).wr (mw_56)
      intro x20_40 g41 g42
      have h40 := h39 x20_40 g41 g42
      refine fmX8_weatherAt h40 ?_
      intro x21_44 M21_45 f43 h43
      have F43 : Ks (fun k j => k = k0 + 4) M M21_45 := (F39).tr (f43.mono (fun _ _ h => False.elim h))
      intro g46
      have h47 := h43 g46
      intro M22_48 eM22_48
      have h48 := h47 M22_48 eM22_48
      have F48 : Ks (fun k j => k = k0 + 4) M M22_48 := by rw [eM22_48]; exact (F43).wr (mw_56)
      intro x23_49 g50 g51
      have h49 := h48 x23_49 g50 g51
      intro x24_52 g53 g54
      have h52 := h49 x24_52 g53 g54
      intro M25_55 eM25_55
      have h55 := h52 M25_55 eM25_55
      have F55 : Ks (fun k j => k = k0 + 4) M M25_55 := by rw [eM25_55]; exact (F48).wr (mw_56)
      intro M26_56 eM26_56
      have h56 := h55 M26_56 eM26_56
      have F56 : Ks (fun k j => k = k0 + 4) M M26_56 := by rw [eM26_56]; exact (F55).wr (mw_56)
      refine fmX2_uses h56 ?_
      intro x27_58 M27_59 f57 h57
      have F57 : Ks (fun k j => k = k0 + 4) M M27_59 := (F56).tr (f57.mono (fun _ _ h => False.elim h))
      intro g60 g61
      have h62 := h57 g60 g61
      obtain ⟨h63, h64⟩ := h62
      refine ⟨?_, ?_⟩
      · intro g65
        have h66 := h63 g65
        unfold qX2_observe_J128 at h66 ⊢
        obtain ⟨v67, h67⟩ := h66
        refine ⟨v67, ?_⟩
        obtain ⟨v68, h68⟩ := h67
        refine ⟨v68, ?_⟩
        obtain ⟨v69, h69⟩ := h68
        refine ⟨v69, ?_⟩
        intro M32_70 eM32_70
        have h70 := h69 M32_70 eM32_70
        have F70 : Ks (fun k j => k = k0 + 4) M M32_70 := by rw [eM32_70]; exact (F57).wr (mw_56)
        exact hQ _ F70 h70
      · intro g71
        have h72 := h64 g71
        refine fmX6_bitsOf h72 ?_
        intro x33_74 M33_75 f73 h73
        have F73 : Ks (fun k j => k = k0 + 4) M M33_75 := (F57).tr (f73.mono (fun _ _ h => False.elim h))
        intro g76
        have h77 := h73 g76
        refine fmJ6_bitCount_0f7a4 h77 ?_
        intro x34_79 M34_80 f78 h78
        have F78 : Ks (fun k j => k = k0 + 4) M M34_80 := (F73).tr (f78.mono (fun _ _ h => False.elim h))
        intro g81
        have h82 := h78 g81
        unfold qX2_observe_J128 at h82 ⊢
        obtain ⟨v83, h83⟩ := h82
        refine ⟨v83, ?_⟩
        obtain ⟨v84, h84⟩ := h83
        refine ⟨v84, ?_⟩
        obtain ⟨v85, h85⟩ := h84
        refine ⟨v85, ?_⟩
        intro M32_86 eM32_86
        have h86 := h85 M32_86 eM32_86
        have F86 : Ks (fun k j => k = k0 + 4) M M32_86 := by rw [eM32_86]; exact (F78).wr (mw_56)
        exact hQ _ F86 h86
    · intro g87
      have h88 := h33 g87
      unfold qX2_observe_J62 at h88 ⊢
      obtain ⟨v89, h89⟩ := h88
      refine ⟨v89, ?_⟩
      obtain ⟨v90, h90⟩ := h89
      refine ⟨v90, ?_⟩
      obtain ⟨v91, h91⟩ := h90
      refine ⟨v91, ?_⟩
      intro M19_92 eM19_92
      have h92 := h91 M19_92 eM19_92
      have F92 : Ks (fun k j => k = k0 + 4) M M19_92 := by rw [eM19_92]; exact (F26).wr (mw_56)
      intro x20_93 g94 g95
      have h93 := h92 x20_93 g94 g95
      refine fmX8_weatherAt h93 ?_
      intro x21_97 M21_98 f96 h96
      have F96 : Ks (fun k j => k = k0 + 4) M M21_98 := (F92).tr (f96.mono (fun _ _ h => False.elim h))
      intro g99
      have h100 := h96 g99
      intro M22_101 eM22_101
      have h101 := h100 M22_101 eM22_101
      have F101 : Ks (fun k j => k = k0 + 4) M M22_101 := by rw [eM22_101]; exact (F96).wr (mw_56)
      intro x23_102 g103 g104
      have h102 := h101 x23_102 g103 g104
      intro x24_105 g106 g107
      have h105 := h102 x24_105 g106 g107
      intro M25_108 eM25_108
      have h108 := h105 M25_108 eM25_108
      have F108 : Ks (fun k j => k = k0 + 4) M M25_108 := by rw [eM25_108]; exact (F101).wr (mw_56)
      intro M26_109 eM26_109
      have h109 := h108 M26_109 eM26_109
      have F109 : Ks (fun k j => k = k0 + 4) M M26_109 := by rw [eM26_109]; exact (F108).wr (mw_56)
      refine fmX2_uses h109 ?_
      intro x27_111 M27_112 f110 h110
      have F110 : Ks (fun k j => k = k0 + 4) M M27_112 := (F109).tr (f110.mono (fun _ _ h => False.elim h))
      intro g113 g114
      have h115 := h110 g113 g114
      obtain ⟨h116, h117⟩ := h115
      refine ⟨?_, ?_⟩
      · intro g118
        have h119 := h116 g118
        unfold qX2_observe_J128 at h119 ⊢
        obtain ⟨v120, h120⟩ := h119
        refine ⟨v120, ?_⟩
        obtain ⟨v121, h121⟩ := h120
        refine ⟨v121, ?_⟩
        obtain ⟨v122, h122⟩ := h121
        refine ⟨v122, ?_⟩
        intro M32_123 eM32_123
        have h123 := h122 M32_123 eM32_123
        have F123 : Ks (fun k j => k = k0 + 4) M M32_123 := by rw [eM32_123]; exact (F110).wr (mw_56)
        exact hQ _ F123 h123
      · intro g124
        have h125 := h117 g124
        refine fmX6_bitsOf h125 ?_
        intro x33_127 M33_128 f126 h126
        have F126 : Ks (fun k j => k = k0 + 4) M M33_128 := (F110).tr (f126.mono (fun _ _ h => False.elim h))
        intro g129
        have h130 := h126 g129
        refine fmJ6_bitCount_0f7a4 h130 ?_
        intro x34_132 M34_133 f131 h131
        have F131 : Ks (fun k j => k = k0 + 4) M M34_133 := (F126).tr (f131.mono (fun _ _ h => False.elim h))
        intro g134
        have h135 := h131 g134
        unfold qX2_observe_J128 at h135 ⊢
        obtain ⟨v136, h136⟩ := h135
        refine ⟨v136, ?_⟩
        obtain ⟨v137, h137⟩ := h136
        refine ⟨v137, ?_⟩
        obtain ⟨v138, h138⟩ := h137
        refine ⟨v138, ?_⟩
        intro M32_139 eM32_139
        have h139 := h138 M32_139 eM32_139
        have F139 : Ks (fun k j => k = k0 + 4) M M32_139 := by rw [eM32_139]; exact (F131).wr (mw_56)
        exact hQ _ F139 h139
  · intro g140
    have h141 := h14 g140
    refine fmX8_gate h141 ?_
    intro x35_143 M35_144 f142 h142
    have F142 : Ks (fun k j => k = k0 + 4) M M35_144 := (F7).tr (f142.mono (fun _ _ h => False.elim h))
    intro g145
    have h146 := h142 g145
    refine fmX6_freeAhead h146 ?_
    intro x36_148 M36_149 f147 h147
    have F147 : Ks (fun k j => k = k0 + 4) M M36_149 := (F142).tr (f147.mono (fun _ _ h => False.elim h))
    intro g150
    have h151 := h147 g150
    unfold qX2_observe_J38 at h151 ⊢
    obtain ⟨v152, h152⟩ := h151
    refine ⟨v152, ?_⟩
    obtain ⟨v153, h153⟩ := h152
    refine ⟨v153, ?_⟩
    obtain ⟨v154, h154⟩ := h153
    refine ⟨v154, ?_⟩
    intro M10_155 eM10_155
    have h155 := h154 M10_155 eM10_155
    have F155 : Ks (fun k j => k = k0 + 4) M M10_155 := by rw [eM10_155]; exact (F147).wr (mw_56)
    obtain ⟨v156, h156⟩ := h155
    refine ⟨v156, ?_⟩
    obtain ⟨v157, h157⟩ := h156
    refine ⟨v157, ?_⟩
    intro x13_158 g159 g160
    have h158 := h157 x13_158 g159 g160
    refine fmX8_isCorner h158 ?_
    intro x14_162 M14_163 f161 h161
    have F161 : Ks (fun k j => k = k0 + 4) M M14_163 := (F155).tr (f161.mono (fun _ _ h => False.elim h))
    intro g164 g165
    have h166 := h161 g164 g165
    obtain ⟨h167, h168⟩ := h166
    refine ⟨?_, ?_⟩
    · intro g169
      have h170 := h167 g169
      unfold qX2_observe_J62 at h170 ⊢
      obtain ⟨v171, h171⟩ := h170
      refine ⟨v171, ?_⟩
      obtain ⟨v172, h172⟩ := h171
      refine ⟨v172, ?_⟩
      obtain ⟨v173, h173⟩ := h172
      refine ⟨v173, ?_⟩
      intro M19_174 eM19_174
      have h174 := h173 M19_174 eM19_174
      have F174 : Ks (fun k j => k = k0 + 4) M M19_174 := by rw [eM19_174]; exact (F161).wr (mw_56)
      intro x20_175 g176 g177
      have h175 := h174 x20_175 g176 g177
      refine fmX8_weatherAt h175 ?_
      intro x21_179 M21_180 f178 h178
      have F178 : Ks (fun k j => k = k0 + 4) M M21_180 := (F174).tr (f178.mono (fun _ _ h => False.elim h))
      intro g181
      have h182 := h178 g181
      intro M22_183 eM22_183
      have h183 := h182 M22_183 eM22_183
      have F183 : Ks (fun k j => k = k0 + 4) M M22_183 := by rw [eM22_183]; exact (F178).wr (mw_56)
      intro x23_184 g185 g186
      have h184 := h183 x23_184 g185 g186
      intro x24_187 g188 g189
      have h187 := h184 x24_187 g188 g189
      intro M25_190 eM25_190
      have h190 := h187 M25_190 eM25_190
      have F190 : Ks (fun k j => k = k0 + 4) M M25_190 := by rw [eM25_190]; exact (F183).wr (mw_56)
      intro M26_191 eM26_191
      have h191 := h190 M26_191 eM26_191
      have F191 : Ks (fun k j => k = k0 + 4) M M26_191 := by rw [eM26_191]; exact (F190).wr (mw_56)
      refine fmX2_uses h191 ?_
      intro x27_193 M27_194 f192 h192
      have F192 : Ks (fun k j => k = k0 + 4) M M27_194 := (F191).tr (f192.mono (fun _ _ h => False.elim h))
      intro g195 g196
      have h197 := h192 g195 g196
      obtain ⟨h198, h199⟩ := h197
      refine ⟨?_, ?_⟩
      · intro g200
        have h201 := h198 g200
        unfold qX2_observe_J128 at h201 ⊢
        obtain ⟨v202, h202⟩ := h201
        refine ⟨v202, ?_⟩
        obtain ⟨v203, h203⟩ := h202
        refine ⟨v203, ?_⟩
        obtain ⟨v204, h204⟩ := h203
        refine ⟨v204, ?_⟩
        intro M32_205 eM32_205
        have h205 := h204 M32_205 eM32_205
        have F205 : Ks (fun k j => k = k0 + 4) M M32_205 := by rw [eM32_205]; exact (F192).wr (mw_56)
        exact hQ _ F205 h205
      · intro g206
        have h207 := h199 g206
        refine fmX6_bitsOf h207 ?_
        intro x33_209 M33_210 f208 h208
        have F208 : Ks (fun k j => k = k0 + 4) M M33_210 := (F192).tr (f208.mono (fun _ _ h => False.elim h))
        intro g211
        have h212 := h208 g211
        refine fmJ6_bitCount_0f7a4 h212 ?_
        intro x34_214 M34_215 f213 h213
        have F213 : Ks (fun k j => k = k0 + 4) M M34_215 := (F208).tr (f213.mono (fun _ _ h => False.elim h))
        intro g216
        have h217 := h213 g216
        unfold qX2_observe_J128 at h217 ⊢
        obtain ⟨v218, h218⟩ := h217
        refine ⟨v218, ?_⟩
        obtain ⟨v219, h219⟩ := h218
        refine ⟨v219, ?_⟩
        obtain ⟨v220, h220⟩ := h219
        refine ⟨v220, ?_⟩
        intro M32_221 eM32_221
        have h221 := h220 M32_221 eM32_221
        have F221 : Ks (fun k j => k = k0 + 4) M M32_221 := by rw [eM32_221]; exact (F213).wr (mw_56)
        exact hQ _ F221 h221
    · intro g222
      have h223 := h168 g222
      unfold qX2_observe_J62 at h223 ⊢
      obtain ⟨v224, h224⟩ := h223
      refine ⟨v224, ?_⟩
      obtain ⟨v225, h225⟩ := h224
      refine ⟨v225, ?_⟩
      obtain ⟨v226, h226⟩ := h225
      refine ⟨v226, ?_⟩
      intro M19_227 eM19_227
      have h227 := h226 M19_227 eM19_227
      have F227 : Ks (fun k j => k = k0 + 4) M M19_227 := by rw [eM19_227]; exact (F161).wr (mw_56)
      intro x20_228 g229 g230
      have h228 := h227 x20_228 g229 g230
      refine fmX8_weatherAt h228 ?_
      intro x21_232 M21_233 f231 h231
      have F231 : Ks (fun k j => k = k0 + 4) M M21_233 := (F227).tr (f231.mono (fun _ _ h => False.elim h))
      intro g234
      have h235 := h231 g234
      intro M22_236 eM22_236
      have h236 := h235 M22_236 eM22_236
      have F236 : Ks (fun k j => k = k0 + 4) M M22_236 := by rw [eM22_236]; exact (F231).wr (mw_56)
      intro x23_237 g238 g239
      have h237 := h236 x23_237 g238 g239
      intro x24_240 g241 g242
      have h240 := h237 x24_240 g241 g242
      intro M25_243 eM25_243
      have h243 := h240 M25_243 eM25_243
      have F243 : Ks (fun k j => k = k0 + 4) M M25_243 := by rw [eM25_243]; exact (F236).wr (mw_56)
      intro M26_244 eM26_244
      have h244 := h243 M26_244 eM26_244
      have F244 : Ks (fun k j => k = k0 + 4) M M26_244 := by rw [eM26_244]; exact (F243).wr (mw_56)
      refine fmX2_uses h244 ?_
      intro x27_246 M27_247 f245 h245
      have F245 : Ks (fun k j => k = k0 + 4) M M27_247 := (F244).tr (f245.mono (fun _ _ h => False.elim h))
      intro g248 g249
      have h250 := h245 g248 g249
      obtain ⟨h251, h252⟩ := h250
      refine ⟨?_, ?_⟩
      · intro g253
        have h254 := h251 g253
        unfold qX2_observe_J128 at h254 ⊢
        obtain ⟨v255, h255⟩ := h254
        refine ⟨v255, ?_⟩
        obtain ⟨v256, h256⟩ := h255
        refine ⟨v256, ?_⟩
        obtain ⟨v257, h257⟩ := h256
        refine ⟨v257, ?_⟩
        intro M32_258 eM32_258
        have h258 := h257 M32_258 eM32_258
        have F258 : Ks (fun k j => k = k0 + 4) M M32_258 := by rw [eM32_258]; exact (F245).wr (mw_56)
        exact hQ _ F258 h258
      · intro g259
        have h260 := h252 g259
        refine fmX6_bitsOf h260 ?_
        intro x33_262 M33_263 f261 h261
        have F261 : Ks (fun k j => k = k0 + 4) M M33_263 := (F245).tr (f261.mono (fun _ _ h => False.elim h))
        intro g264
        have h265 := h261 g264
        refine fmJ6_bitCount_0f7a4 h265 ?_
        intro x34_267 M34_268 f266 h266
        have F266 : Ks (fun k j => k = k0 + 4) M M34_268 := (F261).tr (f266.mono (fun _ _ h => False.elim h))
        intro g269
        have h270 := h266 g269
        unfold qX2_observe_J128 at h270 ⊢
        obtain ⟨v271, h271⟩ := h270
        refine ⟨v271, ?_⟩
        obtain ⟨v272, h272⟩ := h271
        refine ⟨v272, ?_⟩
        obtain ⟨v273, h273⟩ := h272
        refine ⟨v273, ?_⟩
        intro M32_274 eM32_274
        have h274 := h273 M32_274 eM32_274
        have F274 : Ks (fun k j => k = k0 + 4) M M32_274 := by rw [eM32_274]; exact (F266).wr (mw_56)
        exact hQ _ F274 h274
theorem fmX2_join {p0 : Int} {p1 : Int} {p2 : Int} {M : Mem} {Q Q' : Int → Mem → Prop} (h : qX2_join p0 p1 p2 M Q) (hQ : ∀ (w0 : Int) (M' : Mem), Ks (fun _ _ => False) M M' → Q w0 M' → Q' w0 M') : qX2_join p0 p1 p2 M Q' := by
  unfold qX2_join at h ⊢
  obtain ⟨h1, h2, h3, h4, h5, h6, h7⟩ := h
  refine ⟨?_, ?_, ?_, ?_, ?_, ?_, ?_⟩
  · intro g8
    have h9 := h1 g8
    intro x2_10 g11 g12
    have h10 := h9 x2_10 g11 g12
    exact hQ _ _ Ks.rf h10
  · intro g13
    have h14 := h2 g13
    intro x3_15 g16 g17
    have h15 := h14 x3_15 g16 g17
    exact hQ _ _ Ks.rf h15
  · intro g18
    have h19 := h3 g18
    intro x4_20 g21 g22
    have h20 := h19 x4_20 g21 g22
    exact hQ _ _ Ks.rf h20
  · intro g23
    have h24 := h4 g23
    obtain ⟨h25, h26⟩ := h24
    refine ⟨?_, ?_⟩
    · intro g27
      have h28 := h25 g27
      obtain ⟨v29, h29⟩ := h28
      refine ⟨v29, ?_⟩
      intro x7_30 g31 g32
      have h30 := h29 x7_30 g31 g32
      exact hQ _ _ Ks.rf h30
    · intro g33
      have h34 := h26 g33
      exact hQ _ _ Ks.rf h34
  · intro g35
    have h36 := h5 g35
    obtain ⟨h37, h38⟩ := h36
    refine ⟨?_, ?_⟩
    · intro g39
      have h40 := h37 g39
      exact hQ _ _ Ks.rf h40
    · intro g41
      have h42 := h38 g41
      exact hQ _ _ Ks.rf h42
  · intro g43
    have h44 := h6 g43
    obtain ⟨h45, h46⟩ := h44
    refine ⟨?_, ?_⟩
    · intro g47
      have h48 := h45 g47
      exact hQ _ _ Ks.rf h48
    · intro g49
      have h50 := h46 g49
      exact hQ _ _ Ks.rf h50
  · intro g51
    have h52 := h7 g51
    obtain ⟨h53, h54⟩ := h52
    refine ⟨?_, ?_⟩
    · intro g55
      have h56 := h53 g55
      exact hQ _ _ Ks.rf h56
    · intro g57
      have h58 := h54 g57
      exact hQ _ _ Ks.rf h58
theorem fmX2_pace_L4 {k0 : Nat} {X145 X145' : Mem → Prop} {Q Q' : Int → Mem → Prop} {M0 : Mem} (hQ : ∀ (w0 : Int) (M' : Mem), Ks (fun k j => k = k0 + 3) M0 M' → Q w0 M' → Q' w0 M') (hX145 : ∀ (M' : Mem), Ks (fun k j => k = k0 + 3) M0 M' → X145 M' → X145' M') : ∀ (n : Nat) (v1 v2 : Int) (M : Mem), Ks (fun k j => k = k0 + 3) M0 M → qX2_pace_L4 k0 X145 Q n v1 v2 M → qX2_pace_L4 k0 X145' Q' n v1 v2 M := by
  intro n
  induction n with
  | zero => intro v1 v2 M _ h; exact h.elim
  | succ n ih =>
    intro v1 v2 M hF h
    rw [qX2_pace_L4] at h
    rw [qX2_pace_L4]
    intro x1_1 g2 g3
    have h1 := h x1_1 g2 g3
    obtain ⟨v4, h4⟩ := h1
    refine ⟨v4, ?_⟩
    obtain ⟨h5, h6⟩ := h4
    refine ⟨?_, ?_⟩
    · intro g7
      have h8 := h5 g7
      exact hX145 _ hF h8
    · intro g9
      have h10 := h6 g9
      obtain ⟨v11, h11⟩ := h10
      refine ⟨v11, ?_⟩
      obtain ⟨v12, h12⟩ := h11
      refine ⟨v12, ?_⟩
      intro x6_13 g14 g15
      have h13 := h12 x6_13 g14 g15
      obtain ⟨h16, h17⟩ := h13
      refine ⟨?_, ?_⟩
      · intro g18
        have h19 := h16 g18
        obtain ⟨h20, h21⟩ := h19
        refine ⟨?_, ?_⟩
        · intro g22
          have h23 := h20 g22
          obtain ⟨h24, h25⟩ := h23
          refine ⟨?_, ?_⟩
          · intro g26
            have h27 := h24 g26
            unfold qX2_pace_J105 at h27 ⊢
            obtain ⟨v28, h28⟩ := h27
            refine ⟨v28, ?_⟩
            obtain ⟨h29, h30⟩ := h28
            refine ⟨?_, ?_⟩
            · intro g31
              have h32 := h29 g31
              exact ih _ _ _ hF h32
            · intro g33
              have h34 := h30 g33
              intro x12_35 g36 g37
              have h35 := h34 x12_35 g36 g37
              intro x13_38 g39 g40
              have h38 := h35 x13_38 g39 g40
              obtain ⟨v41, h41⟩ := h38
              refine ⟨v41, ?_⟩
              obtain ⟨v42, h42⟩ := h41
              refine ⟨v42, ?_⟩
              intro x16_43 g44 g45
              have h43 := h42 x16_43 g44 g45
              obtain ⟨v46, h46⟩ := h43
              refine ⟨v46, ?_⟩
              obtain ⟨v47, h47⟩ := h46
              refine ⟨v47, ?_⟩
              intro x19_48 g49 g50
              have h48 := h47 x19_48 g49 g50
              obtain ⟨v51, h51⟩ := h48
              refine ⟨v51, ?_⟩
              refine fmX2_join h51 ?_
              intro x21_53 M21_54 f52 h52
              have F52 : Ks (fun k j => k = k0 + 3) M0 M21_54 := (hF).tr (f52.mono (fun _ _ h => False.elim h))
              intro g55
              have h56 := h52 g55
              obtain ⟨v57, h57⟩ := h56
              refine ⟨v57, ?_⟩
              obtain ⟨v58, h58⟩ := h57
              refine ⟨v58, ?_⟩
              intro M24_59 eM24_59
              have h59 := h58 M24_59 eM24_59
              have F59 : Ks (fun k j => k = k0 + 3) M0 M24_59 := by rw [eM24_59]; exact (F52).wr (mw_57)
              exact ih _ _ _ F59 h59
          · intro g60
            have h61 := h25 g60
            obtain ⟨v62, h62⟩ := h61
            refine ⟨v62, ?_⟩
            obtain ⟨h63, h64⟩ := h62
            refine ⟨?_, ?_⟩
            · intro g65
              have h66 := h63 g65
              unfold qX2_pace_J105 at h66 ⊢
              obtain ⟨v67, h67⟩ := h66
              refine ⟨v67, ?_⟩
              obtain ⟨h68, h69⟩ := h67
              refine ⟨?_, ?_⟩
              · intro g70
                have h71 := h68 g70
                exact ih _ _ _ hF h71
              · intro g72
                have h73 := h69 g72
                intro x12_74 g75 g76
                have h74 := h73 x12_74 g75 g76
                intro x13_77 g78 g79
                have h77 := h74 x13_77 g78 g79
                obtain ⟨v80, h80⟩ := h77
                refine ⟨v80, ?_⟩
                obtain ⟨v81, h81⟩ := h80
                refine ⟨v81, ?_⟩
                intro x16_82 g83 g84
                have h82 := h81 x16_82 g83 g84
                obtain ⟨v85, h85⟩ := h82
                refine ⟨v85, ?_⟩
                obtain ⟨v86, h86⟩ := h85
                refine ⟨v86, ?_⟩
                intro x19_87 g88 g89
                have h87 := h86 x19_87 g88 g89
                obtain ⟨v90, h90⟩ := h87
                refine ⟨v90, ?_⟩
                refine fmX2_join h90 ?_
                intro x21_92 M21_93 f91 h91
                have F91 : Ks (fun k j => k = k0 + 3) M0 M21_93 := (hF).tr (f91.mono (fun _ _ h => False.elim h))
                intro g94
                have h95 := h91 g94
                obtain ⟨v96, h96⟩ := h95
                refine ⟨v96, ?_⟩
                obtain ⟨v97, h97⟩ := h96
                refine ⟨v97, ?_⟩
                intro M24_98 eM24_98
                have h98 := h97 M24_98 eM24_98
                have F98 : Ks (fun k j => k = k0 + 3) M0 M24_98 := by rw [eM24_98]; exact (F91).wr (mw_57)
                exact ih _ _ _ F98 h98
            · intro g99
              have h100 := h64 g99
              intro x27_101 g102 g103
              have h101 := h100 x27_101 g102 g103
              intro x28_104 g105 g106
              have h104 := h101 x28_104 g105 g106
              obtain ⟨v107, h107⟩ := h104
              refine ⟨v107, ?_⟩
              obtain ⟨v108, h108⟩ := h107
              refine ⟨v108, ?_⟩
              intro x31_109 g110 g111
              have h109 := h108 x31_109 g110 g111
              intro x32_112 g113 g114
              have h112 := h109 x32_112 g113 g114
              obtain ⟨v115, h115⟩ := h112
              refine ⟨v115, ?_⟩
              obtain ⟨v116, h116⟩ := h115
              refine ⟨v116, ?_⟩
              intro M35_117 eM35_117
              have h117 := h116 M35_117 eM35_117
              have F117 : Ks (fun k j => k = k0 + 3) M0 M35_117 := by rw [eM35_117]; exact (hF).wr (mw_57)
              exact ih _ _ _ F117 h117
        · intro g118
          have h119 := h21 g118
          intro x36_120 g121 g122
          have h120 := h119 x36_120 g121 g122
          obtain ⟨v123, h123⟩ := h120
          refine ⟨v123, ?_⟩
          obtain ⟨v124, h124⟩ := h123
          refine ⟨v124, ?_⟩
          intro x39_125 g126 g127
          have h125 := h124 x39_125 g126 g127
          obtain ⟨v128, h128⟩ := h125
          refine ⟨v128, ?_⟩
          obtain ⟨v129, h129⟩ := h128
          refine ⟨v129, ?_⟩
          intro M42_130 eM42_130
          have h130 := h129 M42_130 eM42_130
          have F130 : Ks (fun k j => k = k0 + 3) M0 M42_130 := by rw [eM42_130]; exact (hF).wr (mw_57)
          exact ih _ _ _ F130 h130
      · intro g131
        have h132 := h17 g131
        intro x43_133 g134 g135
        have h133 := h132 x43_133 g134 g135
        obtain ⟨v136, h136⟩ := h133
        refine ⟨v136, ?_⟩
        obtain ⟨v137, h137⟩ := h136
        refine ⟨v137, ?_⟩
        intro M46_138 eM46_138
        have h138 := h137 M46_138 eM46_138
        have F138 : Ks (fun k j => k = k0 + 3) M0 M46_138 := by rw [eM46_138]; exact (hF).wr (mw_57)
        exact ih _ _ _ F138 h138
theorem fmX2_pace {k0 : Nat} {M : Mem} {Q Q' : Int → Mem → Prop} (h : qX2_pace k0 M Q) (hQ : ∀ (w0 : Int) (M' : Mem), Ks (fun k j => k = k0 + 3) M M' → Q w0 M' → Q' w0 M') : qX2_pace k0 M Q' := by
  unfold qX2_pace at h ⊢
  obtain ⟨n1, h1⟩ := h
  refine ⟨n1, ?_⟩
  refine fmX2_pace_L4 hQ ?_ _ _ _ _ Ks.rf h1
  · intro M_3 F2 h2
    intro x48_4 g5 g6
    have h4 := h2 x48_4 g5 g6
    intro x49_7 g8 g9
    have h7 := h4 x49_7 g8 g9
    intro x50_10 g11 g12
    have h10 := h7 x50_10 g11 g12
    exact hQ _ _ F2 h10
theorem fmX6_arrive {k0 : Nat} {p1 : Int} {M : Mem} {Q Q' : Mem → Prop} (h : qX6_arrive k0 p1 M Q) (hQ : ∀ (M' : Mem), Ks (fun k j => (k = k0 ∧ (j = 8)) ∨ k = k0 + 1 ∨ k = k0 + 2) M M' → Q M' → Q' M') : qX6_arrive k0 p1 M Q' := by
  unfold qX6_arrive at h ⊢
  intro x1_1 g2 g3
  have h1 := h x1_1 g2 g3
  intro x2_4 g5 g6
  have h4 := h1 x2_4 g5 g6
  intro M3_7 eM3_7
  have h7 := h4 M3_7 eM3_7
  have F7 : Ks (fun k j => (k = k0 ∧ (j = 8)) ∨ k = k0 + 1 ∨ k = k0 + 2) M M3_7 := by rw [eM3_7]; exact (Ks.rf).wr (mw_58)
  intro x4_8 g9 g10
  have h8 := h7 x4_8 g9 g10
  obtain ⟨v11, h11⟩ := h8
  refine ⟨v11, ?_⟩
  obtain ⟨v12, h12⟩ := h11
  refine ⟨v12, ?_⟩
  intro M7_13 eM7_13
  have h13 := h12 M7_13 eM7_13
  have F13 : Ks (fun k j => (k = k0 ∧ (j = 8)) ∨ k = k0 + 1 ∨ k = k0 + 2) M M7_13 := by rw [eM7_13]; exact (F7).wr (mw_59 _)
  intro M8_14 eM8_14
  have h14 := h13 M8_14 eM8_14
  have F14 : Ks (fun k j => (k = k0 ∧ (j = 8)) ∨ k = k0 + 1 ∨ k = k0 + 2) M M8_14 := by rw [eM8_14]; exact (F13).wr (mw_60 _)
  exact hQ _ F14 h14
theorem fmX6_takenCells_L4 {k0 : Nat} {Q Q' : Int → Mem → Prop} {M0 : Mem} (hQ : ∀ (w0 : Int) (M' : Mem), Ks (fun _ _ => False) M0 M' → Q w0 M' → Q' w0 M') : ∀ (n : Nat) (v1 v2 : Int) (M : Mem), Ks (fun _ _ => False) M0 M → qX6_takenCells_L4 k0 Q n v1 v2 M → qX6_takenCells_L4 k0 Q' n v1 v2 M := by
  intro n
  induction n with
  | zero => intro v1 v2 M _ h; exact h.elim
  | succ n ih =>
    intro v1 v2 M hF h
    rw [qX6_takenCells_L4] at h
    rw [qX6_takenCells_L4]
    intro x1_1 g2 g3
    have h1 := h x1_1 g2 g3
    obtain ⟨v4, h4⟩ := h1
    refine ⟨v4, ?_⟩
    obtain ⟨h5, h6⟩ := h4
    refine ⟨?_, ?_⟩
    · intro g7
      have h8 := h5 g7
      obtain ⟨v9, h9⟩ := h8
      refine ⟨v9, ?_⟩
      exact hQ _ _ hF h9
    · intro g10
      have h11 := h6 g10
      obtain ⟨v12, h12⟩ := h11
      refine ⟨v12, ?_⟩
      obtain ⟨v13, h13⟩ := h12
      refine ⟨v13, ?_⟩
      intro x7_14 g15 g16
      have h14 := h13 x7_14 g15 g16
      obtain ⟨h17, h18⟩ := h14
      refine ⟨?_, ?_⟩
      · intro g19
        have h20 := h17 g19
        intro x9_21 g22 g23
        have h21 := h20 x9_21 g22 g23
        intro x10_24 g25 g26
        have h24 := h21 x10_24 g25 g26
        intro x11_27 g28 g29
        have h27 := h24 x11_27 g28 g29
        exact ih _ _ _ hF h27
      · intro g30
        have h31 := h18 g30
        intro x12_32 g33 g34
        have h32 := h31 x12_32 g33 g34
        exact ih _ _ _ hF h32
theorem fmX6_takenCells {k0 : Nat} {M : Mem} {Q Q' : Int → Mem → Prop} (h : qX6_takenCells k0 M Q) (hQ : ∀ (w0 : Int) (M' : Mem), Ks (fun _ _ => False) M M' → Q w0 M' → Q' w0 M') : qX6_takenCells k0 M Q' := by
  unfold qX6_takenCells at h ⊢
  obtain ⟨n1, h1⟩ := h
  refine ⟨n1, ?_⟩
  refine fmX6_takenCells_L4 hQ _ _ _ _ Ks.rf h1
theorem fmX10_moveHearse {k1 : Nat} {k2 : Nat} {p3 : Int} {M : Mem} {Q Q' : Mem → Prop} (h : qX10_moveHearse k1 k2 p3 M Q) (hQ : ∀ (M' : Mem), Ks (fun k j => (160 ≤ k ∧ k ≤ 161) ∨ (k = k1 ∧ (j = 8)) ∨ k = k1 + 1 ∨ k = k1 + 2 ∨ k = k2 + 3 ∨ k = k2 + 4) M M' → Q M' → Q' M') : qX10_moveHearse k1 k2 p3 M Q' := by
  unfold qX10_moveHearse at h ⊢
  obtain ⟨v1, h1⟩ := h
  refine ⟨v1, ?_⟩
  obtain ⟨v2, h2⟩ := h1
  refine ⟨v2, ?_⟩
  intro x3_3 g4 g5
  have h3 := h2 x3_3 g4 g5
  refine fmX2_observe h3 ?_
  intro M4_7 f6 h6
  have F6 : Ks (fun k j => (160 ≤ k ∧ k ≤ 161) ∨ (k = k1 ∧ (j = 8)) ∨ k = k1 + 1 ∨ k = k1 + 2 ∨ k = k2 + 3 ∨ k = k2 + 4) M M4_7 := (Ks.rf).tr (f6.mono (mo_39))
  refine fmX6_takenCells h6 ?_
  intro x5_9 M5_10 f8 h8
  have F8 : Ks (fun k j => (160 ≤ k ∧ k ≤ 161) ∨ (k = k1 ∧ (j = 8)) ∨ k = k1 + 1 ∨ k = k1 + 2 ∨ k = k2 + 3 ∨ k = k2 + 4) M M5_10 := (F6).tr (f8.mono (fun _ _ h => False.elim h))
  intro g11
  have h12 := h8 g11
  refine fmX2_pace h12 ?_
  intro x6_14 M6_15 f13 h13
  have F13 : Ks (fun k j => (160 ≤ k ∧ k ≤ 161) ∨ (k = k1 ∧ (j = 8)) ∨ k = k1 + 1 ∨ k = k1 + 2 ∨ k = k2 + 3 ∨ k = k2 + 4) M M6_15 := (F8).tr (f13.mono (mo_40))
  intro g16
  have h17 := h13 g16
  refine fmX10_goal h17 ?_
  intro x7_19 M7_20 f18 h18
  have F18 : Ks (fun k j => (160 ≤ k ∧ k ≤ 161) ∨ (k = k1 ∧ (j = 8)) ∨ k = k1 + 1 ∨ k = k1 + 2 ∨ k = k2 + 3 ∨ k = k2 + 4) M M7_20 := (F13).tr (f18.mono (fun _ _ h => False.elim h))
  intro g21
  have h22 := h18 g21
  obtain ⟨h23, h24⟩ := h22
  refine ⟨?_, ?_⟩
  · intro g25
    have h26 := h23 g25
    intro M9_27 eM9_27
    have h27 := h26 M9_27 eM9_27
    have F27 : Ks (fun k j => (160 ≤ k ∧ k ≤ 161) ∨ (k = k1 ∧ (j = 8)) ∨ k = k1 + 1 ∨ k = k1 + 2 ∨ k = k2 + 3 ∨ k = k2 + 4) M M9_27 := by rw [eM9_27]; exact (F18).wr (mw_61)
    refine fmX8_gate h27 ?_
    intro x10_29 M10_30 f28 h28
    have F28 : Ks (fun k j => (160 ≤ k ∧ k ≤ 161) ∨ (k = k1 ∧ (j = 8)) ∨ k = k1 + 1 ∨ k = k1 + 2 ∨ k = k2 + 3 ∨ k = k2 + 4) M M10_30 := (F27).tr (f28.mono (fun _ _ h => False.elim h))
    intro g31
    have h32 := h28 g31
    obtain ⟨h33, h34⟩ := h32
    refine ⟨?_, ?_⟩
    · intro g35
      have h36 := h33 g35
      intro M12_37 eM12_37
      have h37 := h36 M12_37 eM12_37
      have F37 : Ks (fun k j => (160 ≤ k ∧ k ≤ 161) ∨ (k = k1 ∧ (j = 8)) ∨ k = k1 + 1 ∨ k = k1 + 2 ∨ k = k2 + 3 ∨ k = k2 + 4) M M12_37 := by rw [eM12_37]; exact (F28).wr (mw_62 _)
      exact hQ _ F37 h37
    · intro g38
      have h39 := h34 g38
      refine fmX6_arrive h39 ?_
      intro M13_41 f40 h40
      have F40 : Ks (fun k j => (160 ≤ k ∧ k ≤ 161) ∨ (k = k1 ∧ (j = 8)) ∨ k = k1 + 1 ∨ k = k1 + 2 ∨ k = k2 + 3 ∨ k = k2 + 4) M M13_41 := (F28).tr (f40.mono (mo_41))
      exact hQ _ F40 h40
  · intro g42
    have h43 := h24 g42
    intro x14_44 g45 g46
    have h44 := h43 x14_44 g45 g46
    intro x15_47 g48 g49
    have h47 := h44 x15_47 g48 g49
    intro M16_50 eM16_50
    have h50 := h47 M16_50 eM16_50
    have F50 : Ks (fun k j => (160 ≤ k ∧ k ≤ 161) ∨ (k = k1 ∧ (j = 8)) ∨ k = k1 + 1 ∨ k = k1 + 2 ∨ k = k2 + 3 ∨ k = k2 + 4) M M16_50 := by rw [eM16_50]; exact (F18).wr (mw_63)
    obtain ⟨v51, h51⟩ := h50
    refine ⟨v51, ?_⟩
    obtain ⟨v52, h52⟩ := h51
    refine ⟨v52, ?_⟩
    intro x19_53 g54 g55
    have h53 := h52 x19_53 g54 g55
    intro x20_56 g57 g58
    have h56 := h53 x20_56 g57 g58
    intro M21_59 eM21_59
    have h59 := h56 M21_59 eM21_59
    have F59 : Ks (fun k j => (160 ≤ k ∧ k ≤ 161) ∨ (k = k1 ∧ (j = 8)) ∨ k = k1 + 1 ∨ k = k1 + 2 ∨ k = k2 + 3 ∨ k = k2 + 4) M M21_59 := by rw [eM21_59]; exact (F50).wr (mw_64 _)
    exact hQ _ F59 h59
theorem fmX6_endAt {k0 : Nat} {p1 : Int} {p2 : Int} {M : Mem} {Q Q' : Mem → Prop} (h : qX6_endAt k0 p1 p2 M Q) (hQ : ∀ (M' : Mem), Ks (fun k j => (k = k0 ∧ (j = 9)) ∨ k = k0 + 6) M M' → Q M' → Q' M') : qX6_endAt k0 p1 p2 M Q' := by
  unfold qX6_endAt at h ⊢
  obtain ⟨v1, h1⟩ := h
  refine ⟨v1, ?_⟩
  obtain ⟨v2, h2⟩ := h1
  refine ⟨v2, ?_⟩
  intro M3_3 eM3_3
  have h3 := h2 M3_3 eM3_3
  have F3 : Ks (fun k j => (k = k0 ∧ (j = 9)) ∨ k = k0 + 6) M M3_3 := by rw [eM3_3]; exact (Ks.rf).wr (mw_65 _)
  intro x4_4 g5 g6
  have h4 := h3 x4_4 g5 g6
  intro x5_7 g8 g9
  have h7 := h4 x5_7 g8 g9
  intro M6_10 eM6_10
  have h10 := h7 M6_10 eM6_10
  have F10 : Ks (fun k j => (k = k0 ∧ (j = 9)) ∨ k = k0 + 6) M M6_10 := by rw [eM6_10]; exact (F3).wr (mw_66)
  exact hQ _ F10 h10
theorem fmX6_hasArrived {k0 : Nat} {p1 : Int} {M : Mem} {Q Q' : Int → Mem → Prop} (h : qX6_hasArrived k0 p1 M Q) (hQ : ∀ (w0 : Int) (M' : Mem), Ks (fun _ _ => False) M M' → Q w0 M' → Q' w0 M') : qX6_hasArrived k0 p1 M Q' := by
  unfold qX6_hasArrived at h ⊢
  obtain ⟨v1, h1⟩ := h
  refine ⟨v1, ?_⟩
  obtain ⟨v2, h2⟩ := h1
  refine ⟨v2, ?_⟩
  intro x3_3 g4 g5
  have h3 := h2 x3_3 g4 g5
  obtain ⟨h6, h7⟩ := h3
  refine ⟨?_, ?_⟩
  · intro g8
    have h9 := h6 g8
    exact hQ _ _ Ks.rf h9
  · intro g10
    have h11 := h7 g10
    exact hQ _ _ Ks.rf h11
theorem fmX6_nearestTo_L8 {k0 : Nat} {p1 : Int} {Q Q' : Int → Mem → Prop} {M0 : Mem} (hQ : ∀ (w0 : Int) (M' : Mem), Ks (fun _ _ => False) M0 M' → Q w0 M' → Q' w0 M') : ∀ (n : Nat) (v2 v3 v4 : Int) (M : Mem), Ks (fun _ _ => False) M0 M → qX6_nearestTo_L8 k0 p1 Q n v2 v3 v4 M → qX6_nearestTo_L8 k0 p1 Q' n v2 v3 v4 M := by
  intro n
  induction n with
  | zero => intro v2 v3 v4 M _ h; exact h.elim
  | succ n ih =>
    intro v2 v3 v4 M hF h
    rw [qX6_nearestTo_L8] at h
    rw [qX6_nearestTo_L8]
    intro x1_1 g2 g3
    have h1 := h x1_1 g2 g3
    obtain ⟨v4, h4⟩ := h1
    refine ⟨v4, ?_⟩
    obtain ⟨h5, h6⟩ := h4
    refine ⟨?_, ?_⟩
    · intro g7
      have h8 := h5 g7
      obtain ⟨v9, h9⟩ := h8
      refine ⟨v9, ?_⟩
      exact hQ _ _ hF h9
    · intro g10
      have h11 := h6 g10
      obtain ⟨v12, h12⟩ := h11
      refine ⟨v12, ?_⟩
      obtain ⟨v13, h13⟩ := h12
      refine ⟨v13, ?_⟩
      intro x7_14 g15 g16
      have h14 := h13 x7_14 g15 g16
      obtain ⟨v17, h17⟩ := h14
      refine ⟨v17, ?_⟩
      intro x9_18 g19 g20
      have h18 := h17 x9_18 g19 g20
      obtain ⟨v21, h21⟩ := h18
      refine ⟨v21, ?_⟩
      obtain ⟨v22, h22⟩ := h21
      refine ⟨v22, ?_⟩
      obtain ⟨h23, h24⟩ := h22
      refine ⟨?_, ?_⟩
      · intro g25
        have h26 := h23 g25
        unfold qX6_nearestTo_J54 at h26 ⊢
        unfold qX6_nearestTo_J59 at h26 ⊢
        obtain ⟨v27, h27⟩ := h26
        refine ⟨v27, ?_⟩
        obtain ⟨h28, h29⟩ := h27
        refine ⟨?_, ?_⟩
        · intro g30
          have h31 := h28 g30
          exact ih _ _ _ _ hF h31
        · intro g32
          have h33 := h29 g32
          obtain ⟨v34, h34⟩ := h33
          refine ⟨v34, ?_⟩
          obtain ⟨v35, h35⟩ := h34
          refine ⟨v35, ?_⟩
          intro x17_36 g37 g38
          have h36 := h35 x17_36 g37 g38
          obtain ⟨h39, h40⟩ := h36
          refine ⟨?_, ?_⟩
          · intro g41
            have h42 := h39 g41
            exact ih _ _ _ _ hF h42
          · intro g43
            have h44 := h40 g43
            exact ih _ _ _ _ hF h44
      · intro g45
        have h46 := h24 g45
        obtain ⟨h47, h48⟩ := h46
        refine ⟨?_, ?_⟩
        · intro g49
          have h50 := h47 g49
          unfold qX6_nearestTo_J58 at h50 ⊢
          unfold qX6_nearestTo_J59 at h50 ⊢
          obtain ⟨v51, h51⟩ := h50
          refine ⟨v51, ?_⟩
          obtain ⟨h52, h53⟩ := h51
          refine ⟨?_, ?_⟩
          · intro g54
            have h55 := h52 g54
            exact ih _ _ _ _ hF h55
          · intro g56
            have h57 := h53 g56
            obtain ⟨v58, h58⟩ := h57
            refine ⟨v58, ?_⟩
            obtain ⟨v59, h59⟩ := h58
            refine ⟨v59, ?_⟩
            intro x17_60 g61 g62
            have h60 := h59 x17_60 g61 g62
            obtain ⟨h63, h64⟩ := h60
            refine ⟨?_, ?_⟩
            · intro g65
              have h66 := h63 g65
              exact ih _ _ _ _ hF h66
            · intro g67
              have h68 := h64 g67
              exact ih _ _ _ _ hF h68
        · intro g69
          have h70 := h48 g69
          intro x20_71 g72 g73
          have h71 := h70 x20_71 g72 g73
          obtain ⟨h74, h75⟩ := h71
          refine ⟨?_, ?_⟩
          · intro g76
            have h77 := h74 g76
            unfold qX6_nearestTo_J58 at h77 ⊢
            unfold qX6_nearestTo_J59 at h77 ⊢
            obtain ⟨v78, h78⟩ := h77
            refine ⟨v78, ?_⟩
            obtain ⟨h79, h80⟩ := h78
            refine ⟨?_, ?_⟩
            · intro g81
              have h82 := h79 g81
              exact ih _ _ _ _ hF h82
            · intro g83
              have h84 := h80 g83
              obtain ⟨v85, h85⟩ := h84
              refine ⟨v85, ?_⟩
              obtain ⟨v86, h86⟩ := h85
              refine ⟨v86, ?_⟩
              intro x17_87 g88 g89
              have h87 := h86 x17_87 g88 g89
              obtain ⟨h90, h91⟩ := h87
              refine ⟨?_, ?_⟩
              · intro g92
                have h93 := h90 g92
                exact ih _ _ _ _ hF h93
              · intro g94
                have h95 := h91 g94
                exact ih _ _ _ _ hF h95
          · intro g96
            have h97 := h75 g96
            unfold qX6_nearestTo_J54 at h97 ⊢
            unfold qX6_nearestTo_J59 at h97 ⊢
            obtain ⟨v98, h98⟩ := h97
            refine ⟨v98, ?_⟩
            obtain ⟨h99, h100⟩ := h98
            refine ⟨?_, ?_⟩
            · intro g101
              have h102 := h99 g101
              exact ih _ _ _ _ hF h102
            · intro g103
              have h104 := h100 g103
              obtain ⟨v105, h105⟩ := h104
              refine ⟨v105, ?_⟩
              obtain ⟨v106, h106⟩ := h105
              refine ⟨v106, ?_⟩
              intro x17_107 g108 g109
              have h107 := h106 x17_107 g108 g109
              obtain ⟨h110, h111⟩ := h107
              refine ⟨?_, ?_⟩
              · intro g112
                have h113 := h110 g112
                exact ih _ _ _ _ hF h113
              · intro g114
                have h115 := h111 g114
                exact ih _ _ _ _ hF h115
theorem fmX6_nearestTo {k0 : Nat} {p1 : Int} {M : Mem} {Q Q' : Int → Mem → Prop} (h : qX6_nearestTo k0 p1 M Q) (hQ : ∀ (w0 : Int) (M' : Mem), Ks (fun _ _ => False) M M' → Q w0 M' → Q' w0 M') : qX6_nearestTo k0 p1 M Q' := by
  unfold qX6_nearestTo at h ⊢
  obtain ⟨n1, h1⟩ := h
  refine ⟨n1, ?_⟩
  refine fmX6_nearestTo_L8 hQ _ _ _ _ _ Ks.rf h1
theorem fmX10_moveMourner {k1 : Nat} {p2 : Int} {M : Mem} {Q Q' : Mem → Prop} (h : qX10_moveMourner k1 p2 M Q) (hQ : ∀ (M' : Mem), Ks (fun k j => k = 160 ∨ k = 162 ∨ (k = k1 ∧ (j = 9)) ∨ k = k1 + 3 ∨ k = k1 + 5 ∨ k = k1 + 6) M M' → Q M' → Q' M') : qX10_moveMourner k1 p2 M Q' := by
  unfold qX10_moveMourner at h ⊢
  obtain ⟨v1, h1⟩ := h
  refine ⟨v1, ?_⟩
  obtain ⟨v2, h2⟩ := h1
  refine ⟨v2, ?_⟩
  intro x3_3 g4 g5
  have h3 := h2 x3_3 g4 g5
  obtain ⟨h6, h7⟩ := h3
  refine ⟨?_, ?_⟩
  · intro g8
    have h9 := h6 g8
    unfold qX10_moveMourner_J32 at h9 ⊢
    obtain ⟨v10, h10⟩ := h9
    refine ⟨v10, ?_⟩
    obtain ⟨v11, h11⟩ := h10
    refine ⟨v11, ?_⟩
    intro x7_12 g13 g14
    have h12 := h11 x7_12 g13 g14
    refine fmX6_nearestTo h12 ?_
    intro x8_16 M8_17 f15 h15
    have F15 : Ks (fun k j => k = 160 ∨ k = 162 ∨ (k = k1 ∧ (j = 9)) ∨ k = k1 + 3 ∨ k = k1 + 5 ∨ k = k1 + 6) M M8_17 := (Ks.rf).tr (f15.mono (fun _ _ h => False.elim h))
    intro g18
    have h19 := h15 g18
    obtain ⟨h20, h21⟩ := h19
    refine ⟨?_, ?_⟩
    · intro g22
      have h23 := h20 g22
      obtain ⟨v24, h24⟩ := h23
      refine ⟨v24, ?_⟩
      obtain ⟨v25, h25⟩ := h24
      refine ⟨v25, ?_⟩
      intro x12_26 g27 g28
      have h26 := h25 x12_26 g27 g28
      obtain ⟨v29, h29⟩ := h26
      refine ⟨v29, ?_⟩
      obtain ⟨h30, h31⟩ := h29
      refine ⟨?_, ?_⟩
      · intro g32
        have h33 := h30 g32
        unfold qX10_moveMourner_J92 at h33 ⊢
        obtain ⟨v34, h34⟩ := h33
        refine ⟨v34, ?_⟩
        obtain ⟨v35, h35⟩ := h34
        refine ⟨v35, ?_⟩
        obtain ⟨v36, h36⟩ := h35
        refine ⟨v36, ?_⟩
        intro M18_37 eM18_37
        have h37 := h36 M18_37 eM18_37
        have F37 : Ks (fun k j => k = 160 ∨ k = 162 ∨ (k = k1 ∧ (j = 9)) ∨ k = k1 + 3 ∨ k = k1 + 5 ∨ k = k1 + 6) M M18_37 := by rw [eM18_37]; exact (F15).wr (mw_67 _)
        intro x19_38 g39 g40
        have h38 := h37 x19_38 g39 g40
        intro x20_41 g42 g43
        have h41 := h38 x20_41 g42 g43
        intro M21_44 eM21_44
        have h44 := h41 M21_44 eM21_44
        have F44 : Ks (fun k j => k = 160 ∨ k = 162 ∨ (k = k1 ∧ (j = 9)) ∨ k = k1 + 3 ∨ k = k1 + 5 ∨ k = k1 + 6) M M21_44 := by rw [eM21_44]; exact (F37).wr (mw_68)
        intro x22_45 g46 g47
        have h45 := h44 x22_45 g46 g47
        intro x23_48 g49 g50
        have h48 := h45 x23_48 g49 g50
        intro M24_51 eM24_51
        have h51 := h48 M24_51 eM24_51
        have F51 : Ks (fun k j => k = 160 ∨ k = 162 ∨ (k = k1 ∧ (j = 9)) ∨ k = k1 + 3 ∨ k = k1 + 5 ∨ k = k1 + 6) M M24_51 := by rw [eM24_51]; exact (F44).wr (mw_69 _)
        intro M25_52 eM25_52
        have h52 := h51 M25_52 eM25_52
        have F52 : Ks (fun k j => k = 160 ∨ k = 162 ∨ (k = k1 ∧ (j = 9)) ∨ k = k1 + 3 ∨ k = k1 + 5 ∨ k = k1 + 6) M M25_52 := by rw [eM25_52]; exact (F51).wr (mw_70)
        unfold qX10_moveMourner_J139 at h52 ⊢
        obtain ⟨v53, h53⟩ := h52
        refine ⟨v53, ?_⟩
        intro x27_54 g55 g56
        have h54 := h53 x27_54 g55 g56
        intro x28_57 g58 g59
        have h57 := h54 x28_57 g58 g59
        obtain ⟨v60, h60⟩ := h57
        refine ⟨v60, ?_⟩
        obtain ⟨v61, h61⟩ := h60
        refine ⟨v61, ?_⟩
        obtain ⟨v62, h62⟩ := h61
        refine ⟨v62, ?_⟩
        intro M32_63 eM32_63
        have h63 := h62 M32_63 eM32_63
        have F63 : Ks (fun k j => k = 160 ∨ k = 162 ∨ (k = k1 ∧ (j = 9)) ∨ k = k1 + 3 ∨ k = k1 + 5 ∨ k = k1 + 6) M M32_63 := by rw [eM32_63]; exact (F52).wr (mw_71 _)
        intro x33_64 g65 g66
        have h64 := h63 x33_64 g65 g66
        obtain ⟨h67, h68⟩ := h64
        refine ⟨?_, ?_⟩
        · intro g69
          have h70 := h67 g69
          unfold qX10_moveMourner_J172 at h70 ⊢
          unfold qX10_moveMourner_J177 at h70 ⊢
          obtain ⟨v71, h71⟩ := h70
          refine ⟨v71, ?_⟩
          obtain ⟨v72, h72⟩ := h71
          refine ⟨v72, ?_⟩
          intro M37_73 eM37_73
          have h73 := h72 M37_73 eM37_73
          have F73 : Ks (fun k j => k = 160 ∨ k = 162 ∨ (k = k1 ∧ (j = 9)) ∨ k = k1 + 3 ∨ k = k1 + 5 ∨ k = k1 + 6) M M37_73 := by rw [eM37_73]; exact (F63).wr (mw_70)
          exact hQ _ F73 h73
        · intro g74
          have h75 := h68 g74
          obtain ⟨h76, h77⟩ := h75
          refine ⟨?_, ?_⟩
          · intro g78
            have h79 := h76 g78
            unfold qX10_moveMourner_J177 at h79 ⊢
            obtain ⟨v80, h80⟩ := h79
            refine ⟨v80, ?_⟩
            obtain ⟨v81, h81⟩ := h80
            refine ⟨v81, ?_⟩
            intro M37_82 eM37_82
            have h82 := h81 M37_82 eM37_82
            have F82 : Ks (fun k j => k = 160 ∨ k = 162 ∨ (k = k1 ∧ (j = 9)) ∨ k = k1 + 3 ∨ k = k1 + 5 ∨ k = k1 + 6) M M37_82 := by rw [eM37_82]; exact (F63).wr (mw_70)
            exact hQ _ F82 h82
          · intro g83
            have h84 := h77 g83
            unfold qX10_moveMourner_J172 at h84 ⊢
            unfold qX10_moveMourner_J177 at h84 ⊢
            obtain ⟨v85, h85⟩ := h84
            refine ⟨v85, ?_⟩
            obtain ⟨v86, h86⟩ := h85
            refine ⟨v86, ?_⟩
            intro M37_87 eM37_87
            have h87 := h86 M37_87 eM37_87
            have F87 : Ks (fun k j => k = 160 ∨ k = 162 ∨ (k = k1 ∧ (j = 9)) ∨ k = k1 + 3 ∨ k = k1 + 5 ∨ k = k1 + 6) M M37_87 := by rw [eM37_87]; exact (F63).wr (mw_70)
            exact hQ _ F87 h87
      · intro g88
        have h89 := h31 g88
        obtain ⟨v90, h90⟩ := h89
        refine ⟨v90, ?_⟩
        intro x40_91 g92 g93
        have h91 := h90 x40_91 g92 g93
        obtain ⟨v94, h94⟩ := h91
        refine ⟨v94, ?_⟩
        obtain ⟨v95, h95⟩ := h94
        refine ⟨v95, ?_⟩
        intro x43_96 g97 g98
        have h96 := h95 x43_96 g97 g98
        obtain ⟨v99, h99⟩ := h96
        refine ⟨v99, ?_⟩
        intro x45_100 g101 g102
        have h100 := h99 x45_100 g101 g102
        obtain ⟨v103, h103⟩ := h100
        refine ⟨v103, ?_⟩
        obtain ⟨v104, h104⟩ := h103
        refine ⟨v104, ?_⟩
        obtain ⟨h105, h106⟩ := h104
        refine ⟨?_, ?_⟩
        · intro g107
          have h108 := h105 g107
          intro x49_109 g110 g111
          have h109 := h108 x49_109 g110 g111
          unfold qX10_moveMourner_J139 at h109 ⊢
          obtain ⟨v112, h112⟩ := h109
          refine ⟨v112, ?_⟩
          intro x27_113 g114 g115
          have h113 := h112 x27_113 g114 g115
          intro x28_116 g117 g118
          have h116 := h113 x28_116 g117 g118
          obtain ⟨v119, h119⟩ := h116
          refine ⟨v119, ?_⟩
          obtain ⟨v120, h120⟩ := h119
          refine ⟨v120, ?_⟩
          obtain ⟨v121, h121⟩ := h120
          refine ⟨v121, ?_⟩
          intro M32_122 eM32_122
          have h122 := h121 M32_122 eM32_122
          have F122 : Ks (fun k j => k = 160 ∨ k = 162 ∨ (k = k1 ∧ (j = 9)) ∨ k = k1 + 3 ∨ k = k1 + 5 ∨ k = k1 + 6) M M32_122 := by rw [eM32_122]; exact (F15).wr (mw_71 _)
          intro x33_123 g124 g125
          have h123 := h122 x33_123 g124 g125
          obtain ⟨h126, h127⟩ := h123
          refine ⟨?_, ?_⟩
          · intro g128
            have h129 := h126 g128
            unfold qX10_moveMourner_J172 at h129 ⊢
            unfold qX10_moveMourner_J177 at h129 ⊢
            obtain ⟨v130, h130⟩ := h129
            refine ⟨v130, ?_⟩
            obtain ⟨v131, h131⟩ := h130
            refine ⟨v131, ?_⟩
            intro M37_132 eM37_132
            have h132 := h131 M37_132 eM37_132
            have F132 : Ks (fun k j => k = 160 ∨ k = 162 ∨ (k = k1 ∧ (j = 9)) ∨ k = k1 + 3 ∨ k = k1 + 5 ∨ k = k1 + 6) M M37_132 := by rw [eM37_132]; exact (F122).wr (mw_70)
            exact hQ _ F132 h132
          · intro g133
            have h134 := h127 g133
            obtain ⟨h135, h136⟩ := h134
            refine ⟨?_, ?_⟩
            · intro g137
              have h138 := h135 g137
              unfold qX10_moveMourner_J177 at h138 ⊢
              obtain ⟨v139, h139⟩ := h138
              refine ⟨v139, ?_⟩
              obtain ⟨v140, h140⟩ := h139
              refine ⟨v140, ?_⟩
              intro M37_141 eM37_141
              have h141 := h140 M37_141 eM37_141
              have F141 : Ks (fun k j => k = 160 ∨ k = 162 ∨ (k = k1 ∧ (j = 9)) ∨ k = k1 + 3 ∨ k = k1 + 5 ∨ k = k1 + 6) M M37_141 := by rw [eM37_141]; exact (F122).wr (mw_70)
              exact hQ _ F141 h141
            · intro g142
              have h143 := h136 g142
              unfold qX10_moveMourner_J172 at h143 ⊢
              unfold qX10_moveMourner_J177 at h143 ⊢
              obtain ⟨v144, h144⟩ := h143
              refine ⟨v144, ?_⟩
              obtain ⟨v145, h145⟩ := h144
              refine ⟨v145, ?_⟩
              intro M37_146 eM37_146
              have h146 := h145 M37_146 eM37_146
              have F146 : Ks (fun k j => k = 160 ∨ k = 162 ∨ (k = k1 ∧ (j = 9)) ∨ k = k1 + 3 ∨ k = k1 + 5 ∨ k = k1 + 6) M M37_146 := by rw [eM37_146]; exact (F122).wr (mw_70)
              exact hQ _ F146 h146
        · intro g147
          have h148 := h106 g147
          unfold qX10_moveMourner_J92 at h148 ⊢
          obtain ⟨v149, h149⟩ := h148
          refine ⟨v149, ?_⟩
          obtain ⟨v150, h150⟩ := h149
          refine ⟨v150, ?_⟩
          obtain ⟨v151, h151⟩ := h150
          refine ⟨v151, ?_⟩
          intro M18_152 eM18_152
          have h152 := h151 M18_152 eM18_152
          have F152 : Ks (fun k j => k = 160 ∨ k = 162 ∨ (k = k1 ∧ (j = 9)) ∨ k = k1 + 3 ∨ k = k1 + 5 ∨ k = k1 + 6) M M18_152 := by rw [eM18_152]; exact (F15).wr (mw_67 _)
          intro x19_153 g154 g155
          have h153 := h152 x19_153 g154 g155
          intro x20_156 g157 g158
          have h156 := h153 x20_156 g157 g158
          intro M21_159 eM21_159
          have h159 := h156 M21_159 eM21_159
          have F159 : Ks (fun k j => k = 160 ∨ k = 162 ∨ (k = k1 ∧ (j = 9)) ∨ k = k1 + 3 ∨ k = k1 + 5 ∨ k = k1 + 6) M M21_159 := by rw [eM21_159]; exact (F152).wr (mw_68)
          intro x22_160 g161 g162
          have h160 := h159 x22_160 g161 g162
          intro x23_163 g164 g165
          have h163 := h160 x23_163 g164 g165
          intro M24_166 eM24_166
          have h166 := h163 M24_166 eM24_166
          have F166 : Ks (fun k j => k = 160 ∨ k = 162 ∨ (k = k1 ∧ (j = 9)) ∨ k = k1 + 3 ∨ k = k1 + 5 ∨ k = k1 + 6) M M24_166 := by rw [eM24_166]; exact (F159).wr (mw_69 _)
          intro M25_167 eM25_167
          have h167 := h166 M25_167 eM25_167
          have F167 : Ks (fun k j => k = 160 ∨ k = 162 ∨ (k = k1 ∧ (j = 9)) ∨ k = k1 + 3 ∨ k = k1 + 5 ∨ k = k1 + 6) M M25_167 := by rw [eM25_167]; exact (F166).wr (mw_70)
          unfold qX10_moveMourner_J139 at h167 ⊢
          obtain ⟨v168, h168⟩ := h167
          refine ⟨v168, ?_⟩
          intro x27_169 g170 g171
          have h169 := h168 x27_169 g170 g171
          intro x28_172 g173 g174
          have h172 := h169 x28_172 g173 g174
          obtain ⟨v175, h175⟩ := h172
          refine ⟨v175, ?_⟩
          obtain ⟨v176, h176⟩ := h175
          refine ⟨v176, ?_⟩
          obtain ⟨v177, h177⟩ := h176
          refine ⟨v177, ?_⟩
          intro M32_178 eM32_178
          have h178 := h177 M32_178 eM32_178
          have F178 : Ks (fun k j => k = 160 ∨ k = 162 ∨ (k = k1 ∧ (j = 9)) ∨ k = k1 + 3 ∨ k = k1 + 5 ∨ k = k1 + 6) M M32_178 := by rw [eM32_178]; exact (F167).wr (mw_71 _)
          intro x33_179 g180 g181
          have h179 := h178 x33_179 g180 g181
          obtain ⟨h182, h183⟩ := h179
          refine ⟨?_, ?_⟩
          · intro g184
            have h185 := h182 g184
            unfold qX10_moveMourner_J172 at h185 ⊢
            unfold qX10_moveMourner_J177 at h185 ⊢
            obtain ⟨v186, h186⟩ := h185
            refine ⟨v186, ?_⟩
            obtain ⟨v187, h187⟩ := h186
            refine ⟨v187, ?_⟩
            intro M37_188 eM37_188
            have h188 := h187 M37_188 eM37_188
            have F188 : Ks (fun k j => k = 160 ∨ k = 162 ∨ (k = k1 ∧ (j = 9)) ∨ k = k1 + 3 ∨ k = k1 + 5 ∨ k = k1 + 6) M M37_188 := by rw [eM37_188]; exact (F178).wr (mw_70)
            exact hQ _ F188 h188
          · intro g189
            have h190 := h183 g189
            obtain ⟨h191, h192⟩ := h190
            refine ⟨?_, ?_⟩
            · intro g193
              have h194 := h191 g193
              unfold qX10_moveMourner_J177 at h194 ⊢
              obtain ⟨v195, h195⟩ := h194
              refine ⟨v195, ?_⟩
              obtain ⟨v196, h196⟩ := h195
              refine ⟨v196, ?_⟩
              intro M37_197 eM37_197
              have h197 := h196 M37_197 eM37_197
              have F197 : Ks (fun k j => k = 160 ∨ k = 162 ∨ (k = k1 ∧ (j = 9)) ∨ k = k1 + 3 ∨ k = k1 + 5 ∨ k = k1 + 6) M M37_197 := by rw [eM37_197]; exact (F178).wr (mw_70)
              exact hQ _ F197 h197
            · intro g198
              have h199 := h192 g198
              unfold qX10_moveMourner_J172 at h199 ⊢
              unfold qX10_moveMourner_J177 at h199 ⊢
              obtain ⟨v200, h200⟩ := h199
              refine ⟨v200, ?_⟩
              obtain ⟨v201, h201⟩ := h200
              refine ⟨v201, ?_⟩
              intro M37_202 eM37_202
              have h202 := h201 M37_202 eM37_202
              have F202 : Ks (fun k j => k = 160 ∨ k = 162 ∨ (k = k1 ∧ (j = 9)) ∨ k = k1 + 3 ∨ k = k1 + 5 ∨ k = k1 + 6) M M37_202 := by rw [eM37_202]; exact (F178).wr (mw_70)
              exact hQ _ F202 h202
    · intro g203
      have h204 := h21 g203
      exact hQ _ F15 h204
  · intro g205
    have h206 := h7 g205
    refine fmX6_hasArrived h206 ?_
    intro x50_208 M50_209 f207 h207
    have F207 : Ks (fun k j => k = 160 ∨ k = 162 ∨ (k = k1 ∧ (j = 9)) ∨ k = k1 + 3 ∨ k = k1 + 5 ∨ k = k1 + 6) M M50_209 := (Ks.rf).tr (f207.mono (fun _ _ h => False.elim h))
    intro g210 g211
    have h212 := h207 g210 g211
    obtain ⟨h213, h214⟩ := h212
    refine ⟨?_, ?_⟩
    · intro g215
      have h216 := h213 g215
      unfold qX10_moveMourner_J32 at h216 ⊢
      obtain ⟨v217, h217⟩ := h216
      refine ⟨v217, ?_⟩
      obtain ⟨v218, h218⟩ := h217
      refine ⟨v218, ?_⟩
      intro x7_219 g220 g221
      have h219 := h218 x7_219 g220 g221
      refine fmX6_nearestTo h219 ?_
      intro x8_223 M8_224 f222 h222
      have F222 : Ks (fun k j => k = 160 ∨ k = 162 ∨ (k = k1 ∧ (j = 9)) ∨ k = k1 + 3 ∨ k = k1 + 5 ∨ k = k1 + 6) M M8_224 := (F207).tr (f222.mono (fun _ _ h => False.elim h))
      intro g225
      have h226 := h222 g225
      obtain ⟨h227, h228⟩ := h226
      refine ⟨?_, ?_⟩
      · intro g229
        have h230 := h227 g229
        obtain ⟨v231, h231⟩ := h230
        refine ⟨v231, ?_⟩
        obtain ⟨v232, h232⟩ := h231
        refine ⟨v232, ?_⟩
        intro x12_233 g234 g235
        have h233 := h232 x12_233 g234 g235
        obtain ⟨v236, h236⟩ := h233
        refine ⟨v236, ?_⟩
        obtain ⟨h237, h238⟩ := h236
        refine ⟨?_, ?_⟩
        · intro g239
          have h240 := h237 g239
          unfold qX10_moveMourner_J92 at h240 ⊢
          obtain ⟨v241, h241⟩ := h240
          refine ⟨v241, ?_⟩
          obtain ⟨v242, h242⟩ := h241
          refine ⟨v242, ?_⟩
          obtain ⟨v243, h243⟩ := h242
          refine ⟨v243, ?_⟩
          intro M18_244 eM18_244
          have h244 := h243 M18_244 eM18_244
          have F244 : Ks (fun k j => k = 160 ∨ k = 162 ∨ (k = k1 ∧ (j = 9)) ∨ k = k1 + 3 ∨ k = k1 + 5 ∨ k = k1 + 6) M M18_244 := by rw [eM18_244]; exact (F222).wr (mw_67 _)
          intro x19_245 g246 g247
          have h245 := h244 x19_245 g246 g247
          intro x20_248 g249 g250
          have h248 := h245 x20_248 g249 g250
          intro M21_251 eM21_251
          have h251 := h248 M21_251 eM21_251
          have F251 : Ks (fun k j => k = 160 ∨ k = 162 ∨ (k = k1 ∧ (j = 9)) ∨ k = k1 + 3 ∨ k = k1 + 5 ∨ k = k1 + 6) M M21_251 := by rw [eM21_251]; exact (F244).wr (mw_68)
          intro x22_252 g253 g254
          have h252 := h251 x22_252 g253 g254
          intro x23_255 g256 g257
          have h255 := h252 x23_255 g256 g257
          intro M24_258 eM24_258
          have h258 := h255 M24_258 eM24_258
          have F258 : Ks (fun k j => k = 160 ∨ k = 162 ∨ (k = k1 ∧ (j = 9)) ∨ k = k1 + 3 ∨ k = k1 + 5 ∨ k = k1 + 6) M M24_258 := by rw [eM24_258]; exact (F251).wr (mw_69 _)
          intro M25_259 eM25_259
          have h259 := h258 M25_259 eM25_259
          have F259 : Ks (fun k j => k = 160 ∨ k = 162 ∨ (k = k1 ∧ (j = 9)) ∨ k = k1 + 3 ∨ k = k1 + 5 ∨ k = k1 + 6) M M25_259 := by rw [eM25_259]; exact (F258).wr (mw_70)
          unfold qX10_moveMourner_J139 at h259 ⊢
          obtain ⟨v260, h260⟩ := h259
          refine ⟨v260, ?_⟩
          intro x27_261 g262 g263
          have h261 := h260 x27_261 g262 g263
          intro x28_264 g265 g266
          have h264 := h261 x28_264 g265 g266
          obtain ⟨v267, h267⟩ := h264
          refine ⟨v267, ?_⟩
          obtain ⟨v268, h268⟩ := h267
          refine ⟨v268, ?_⟩
          obtain ⟨v269, h269⟩ := h268
          refine ⟨v269, ?_⟩
          intro M32_270 eM32_270
          have h270 := h269 M32_270 eM32_270
          have F270 : Ks (fun k j => k = 160 ∨ k = 162 ∨ (k = k1 ∧ (j = 9)) ∨ k = k1 + 3 ∨ k = k1 + 5 ∨ k = k1 + 6) M M32_270 := by rw [eM32_270]; exact (F259).wr (mw_71 _)
          intro x33_271 g272 g273
          have h271 := h270 x33_271 g272 g273
          obtain ⟨h274, h275⟩ := h271
          refine ⟨?_, ?_⟩
          · intro g276
            have h277 := h274 g276
            unfold qX10_moveMourner_J172 at h277 ⊢
            unfold qX10_moveMourner_J177 at h277 ⊢
            obtain ⟨v278, h278⟩ := h277
            refine ⟨v278, ?_⟩
            obtain ⟨v279, h279⟩ := h278
            refine ⟨v279, ?_⟩
            intro M37_280 eM37_280
            have h280 := h279 M37_280 eM37_280
            have F280 : Ks (fun k j => k = 160 ∨ k = 162 ∨ (k = k1 ∧ (j = 9)) ∨ k = k1 + 3 ∨ k = k1 + 5 ∨ k = k1 + 6) M M37_280 := by rw [eM37_280]; exact (F270).wr (mw_70)
            exact hQ _ F280 h280
          · intro g281
            have h282 := h275 g281
            obtain ⟨h283, h284⟩ := h282
            refine ⟨?_, ?_⟩
            · intro g285
              have h286 := h283 g285
              unfold qX10_moveMourner_J177 at h286 ⊢
              obtain ⟨v287, h287⟩ := h286
              refine ⟨v287, ?_⟩
              obtain ⟨v288, h288⟩ := h287
              refine ⟨v288, ?_⟩
              intro M37_289 eM37_289
              have h289 := h288 M37_289 eM37_289
              have F289 : Ks (fun k j => k = 160 ∨ k = 162 ∨ (k = k1 ∧ (j = 9)) ∨ k = k1 + 3 ∨ k = k1 + 5 ∨ k = k1 + 6) M M37_289 := by rw [eM37_289]; exact (F270).wr (mw_70)
              exact hQ _ F289 h289
            · intro g290
              have h291 := h284 g290
              unfold qX10_moveMourner_J172 at h291 ⊢
              unfold qX10_moveMourner_J177 at h291 ⊢
              obtain ⟨v292, h292⟩ := h291
              refine ⟨v292, ?_⟩
              obtain ⟨v293, h293⟩ := h292
              refine ⟨v293, ?_⟩
              intro M37_294 eM37_294
              have h294 := h293 M37_294 eM37_294
              have F294 : Ks (fun k j => k = 160 ∨ k = 162 ∨ (k = k1 ∧ (j = 9)) ∨ k = k1 + 3 ∨ k = k1 + 5 ∨ k = k1 + 6) M M37_294 := by rw [eM37_294]; exact (F270).wr (mw_70)
              exact hQ _ F294 h294
        · intro g295
          have h296 := h238 g295
          obtain ⟨v297, h297⟩ := h296
          refine ⟨v297, ?_⟩
          intro x40_298 g299 g300
          have h298 := h297 x40_298 g299 g300
          obtain ⟨v301, h301⟩ := h298
          refine ⟨v301, ?_⟩
          obtain ⟨v302, h302⟩ := h301
          refine ⟨v302, ?_⟩
          intro x43_303 g304 g305
          have h303 := h302 x43_303 g304 g305
          obtain ⟨v306, h306⟩ := h303
          refine ⟨v306, ?_⟩
          intro x45_307 g308 g309
          have h307 := h306 x45_307 g308 g309
          obtain ⟨v310, h310⟩ := h307
          refine ⟨v310, ?_⟩
          obtain ⟨v311, h311⟩ := h310
          refine ⟨v311, ?_⟩
          obtain ⟨h312, h313⟩ := h311
          refine ⟨?_, ?_⟩
          · intro g314
            have h315 := h312 g314
            intro x49_316 g317 g318
            have h316 := h315 x49_316 g317 g318
            unfold qX10_moveMourner_J139 at h316 ⊢
            obtain ⟨v319, h319⟩ := h316
            refine ⟨v319, ?_⟩
            intro x27_320 g321 g322
            have h320 := h319 x27_320 g321 g322
            intro x28_323 g324 g325
            have h323 := h320 x28_323 g324 g325
            obtain ⟨v326, h326⟩ := h323
            refine ⟨v326, ?_⟩
            obtain ⟨v327, h327⟩ := h326
            refine ⟨v327, ?_⟩
            obtain ⟨v328, h328⟩ := h327
            refine ⟨v328, ?_⟩
            intro M32_329 eM32_329
            have h329 := h328 M32_329 eM32_329
            have F329 : Ks (fun k j => k = 160 ∨ k = 162 ∨ (k = k1 ∧ (j = 9)) ∨ k = k1 + 3 ∨ k = k1 + 5 ∨ k = k1 + 6) M M32_329 := by rw [eM32_329]; exact (F222).wr (mw_71 _)
            intro x33_330 g331 g332
            have h330 := h329 x33_330 g331 g332
            obtain ⟨h333, h334⟩ := h330
            refine ⟨?_, ?_⟩
            · intro g335
              have h336 := h333 g335
              unfold qX10_moveMourner_J172 at h336 ⊢
              unfold qX10_moveMourner_J177 at h336 ⊢
              obtain ⟨v337, h337⟩ := h336
              refine ⟨v337, ?_⟩
              obtain ⟨v338, h338⟩ := h337
              refine ⟨v338, ?_⟩
              intro M37_339 eM37_339
              have h339 := h338 M37_339 eM37_339
              have F339 : Ks (fun k j => k = 160 ∨ k = 162 ∨ (k = k1 ∧ (j = 9)) ∨ k = k1 + 3 ∨ k = k1 + 5 ∨ k = k1 + 6) M M37_339 := by rw [eM37_339]; exact (F329).wr (mw_70)
              exact hQ _ F339 h339
            · intro g340
              have h341 := h334 g340
              obtain ⟨h342, h343⟩ := h341
              refine ⟨?_, ?_⟩
              · intro g344
                have h345 := h342 g344
                unfold qX10_moveMourner_J177 at h345 ⊢
                obtain ⟨v346, h346⟩ := h345
                refine ⟨v346, ?_⟩
                obtain ⟨v347, h347⟩ := h346
                refine ⟨v347, ?_⟩
                intro M37_348 eM37_348
                have h348 := h347 M37_348 eM37_348
                have F348 : Ks (fun k j => k = 160 ∨ k = 162 ∨ (k = k1 ∧ (j = 9)) ∨ k = k1 + 3 ∨ k = k1 + 5 ∨ k = k1 + 6) M M37_348 := by rw [eM37_348]; exact (F329).wr (mw_70)
                exact hQ _ F348 h348
              · intro g349
                have h350 := h343 g349
                unfold qX10_moveMourner_J172 at h350 ⊢
                unfold qX10_moveMourner_J177 at h350 ⊢
                obtain ⟨v351, h351⟩ := h350
                refine ⟨v351, ?_⟩
                obtain ⟨v352, h352⟩ := h351
                refine ⟨v352, ?_⟩
                intro M37_353 eM37_353
                have h353 := h352 M37_353 eM37_353
                have F353 : Ks (fun k j => k = 160 ∨ k = 162 ∨ (k = k1 ∧ (j = 9)) ∨ k = k1 + 3 ∨ k = k1 + 5 ∨ k = k1 + 6) M M37_353 := by rw [eM37_353]; exact (F329).wr (mw_70)
                exact hQ _ F353 h353
          · intro g354
            have h355 := h313 g354
            unfold qX10_moveMourner_J92 at h355 ⊢
            obtain ⟨v356, h356⟩ := h355
            refine ⟨v356, ?_⟩
            obtain ⟨v357, h357⟩ := h356
            refine ⟨v357, ?_⟩
            obtain ⟨v358, h358⟩ := h357
            refine ⟨v358, ?_⟩
            intro M18_359 eM18_359
            have h359 := h358 M18_359 eM18_359
            have F359 : Ks (fun k j => k = 160 ∨ k = 162 ∨ (k = k1 ∧ (j = 9)) ∨ k = k1 + 3 ∨ k = k1 + 5 ∨ k = k1 + 6) M M18_359 := by rw [eM18_359]; exact (F222).wr (mw_67 _)
            intro x19_360 g361 g362
            have h360 := h359 x19_360 g361 g362
            intro x20_363 g364 g365
            have h363 := h360 x20_363 g364 g365
            intro M21_366 eM21_366
            have h366 := h363 M21_366 eM21_366
            have F366 : Ks (fun k j => k = 160 ∨ k = 162 ∨ (k = k1 ∧ (j = 9)) ∨ k = k1 + 3 ∨ k = k1 + 5 ∨ k = k1 + 6) M M21_366 := by rw [eM21_366]; exact (F359).wr (mw_68)
            intro x22_367 g368 g369
            have h367 := h366 x22_367 g368 g369
            intro x23_370 g371 g372
            have h370 := h367 x23_370 g371 g372
            intro M24_373 eM24_373
            have h373 := h370 M24_373 eM24_373
            have F373 : Ks (fun k j => k = 160 ∨ k = 162 ∨ (k = k1 ∧ (j = 9)) ∨ k = k1 + 3 ∨ k = k1 + 5 ∨ k = k1 + 6) M M24_373 := by rw [eM24_373]; exact (F366).wr (mw_69 _)
            intro M25_374 eM25_374
            have h374 := h373 M25_374 eM25_374
            have F374 : Ks (fun k j => k = 160 ∨ k = 162 ∨ (k = k1 ∧ (j = 9)) ∨ k = k1 + 3 ∨ k = k1 + 5 ∨ k = k1 + 6) M M25_374 := by rw [eM25_374]; exact (F373).wr (mw_70)
            unfold qX10_moveMourner_J139 at h374 ⊢
            obtain ⟨v375, h375⟩ := h374
            refine ⟨v375, ?_⟩
            intro x27_376 g377 g378
            have h376 := h375 x27_376 g377 g378
            intro x28_379 g380 g381
            have h379 := h376 x28_379 g380 g381
            obtain ⟨v382, h382⟩ := h379
            refine ⟨v382, ?_⟩
            obtain ⟨v383, h383⟩ := h382
            refine ⟨v383, ?_⟩
            obtain ⟨v384, h384⟩ := h383
            refine ⟨v384, ?_⟩
            intro M32_385 eM32_385
            have h385 := h384 M32_385 eM32_385
            have F385 : Ks (fun k j => k = 160 ∨ k = 162 ∨ (k = k1 ∧ (j = 9)) ∨ k = k1 + 3 ∨ k = k1 + 5 ∨ k = k1 + 6) M M32_385 := by rw [eM32_385]; exact (F374).wr (mw_71 _)
            intro x33_386 g387 g388
            have h386 := h385 x33_386 g387 g388
            obtain ⟨h389, h390⟩ := h386
            refine ⟨?_, ?_⟩
            · intro g391
              have h392 := h389 g391
              unfold qX10_moveMourner_J172 at h392 ⊢
              unfold qX10_moveMourner_J177 at h392 ⊢
              obtain ⟨v393, h393⟩ := h392
              refine ⟨v393, ?_⟩
              obtain ⟨v394, h394⟩ := h393
              refine ⟨v394, ?_⟩
              intro M37_395 eM37_395
              have h395 := h394 M37_395 eM37_395
              have F395 : Ks (fun k j => k = 160 ∨ k = 162 ∨ (k = k1 ∧ (j = 9)) ∨ k = k1 + 3 ∨ k = k1 + 5 ∨ k = k1 + 6) M M37_395 := by rw [eM37_395]; exact (F385).wr (mw_70)
              exact hQ _ F395 h395
            · intro g396
              have h397 := h390 g396
              obtain ⟨h398, h399⟩ := h397
              refine ⟨?_, ?_⟩
              · intro g400
                have h401 := h398 g400
                unfold qX10_moveMourner_J177 at h401 ⊢
                obtain ⟨v402, h402⟩ := h401
                refine ⟨v402, ?_⟩
                obtain ⟨v403, h403⟩ := h402
                refine ⟨v403, ?_⟩
                intro M37_404 eM37_404
                have h404 := h403 M37_404 eM37_404
                have F404 : Ks (fun k j => k = 160 ∨ k = 162 ∨ (k = k1 ∧ (j = 9)) ∨ k = k1 + 3 ∨ k = k1 + 5 ∨ k = k1 + 6) M M37_404 := by rw [eM37_404]; exact (F385).wr (mw_70)
                exact hQ _ F404 h404
              · intro g405
                have h406 := h399 g405
                unfold qX10_moveMourner_J172 at h406 ⊢
                unfold qX10_moveMourner_J177 at h406 ⊢
                obtain ⟨v407, h407⟩ := h406
                refine ⟨v407, ?_⟩
                obtain ⟨v408, h408⟩ := h407
                refine ⟨v408, ?_⟩
                intro M37_409 eM37_409
                have h409 := h408 M37_409 eM37_409
                have F409 : Ks (fun k j => k = 160 ∨ k = 162 ∨ (k = k1 ∧ (j = 9)) ∨ k = k1 + 3 ∨ k = k1 + 5 ∨ k = k1 + 6) M M37_409 := by rw [eM37_409]; exact (F385).wr (mw_70)
                exact hQ _ F409 h409
      · intro g410
        have h411 := h228 g410
        exact hQ _ F222 h411
    · intro g412
      have h413 := h214 g412
      refine fmX6_endAt h413 ?_
      intro M52_415 f414 h414
      have F414 : Ks (fun k j => k = 160 ∨ k = 162 ∨ (k = k1 ∧ (j = 9)) ∨ k = k1 + 3 ∨ k = k1 + 5 ∨ k = k1 + 6) M M52_415 := (F207).tr (f414.mono (mo_42))
      intro M53_416 eM53_416
      have h416 := h414 M53_416 eM53_416
      have F416 : Ks (fun k j => k = 160 ∨ k = 162 ∨ (k = k1 ∧ (j = 9)) ∨ k = k1 + 3 ∨ k = k1 + 5 ∨ k = k1 + 6) M M53_416 := by rw [eM53_416]; exact (F414).wr (mw_70)
      exact hQ _ F416 h416
theorem fmX6_foremostBelow_L7 {k0 : Nat} {p1 : Int} {Q Q' : Int → Mem → Prop} {M0 : Mem} (hQ : ∀ (w0 : Int) (M' : Mem), Ks (fun _ _ => False) M0 M' → Q w0 M' → Q' w0 M') : ∀ (n : Nat) (v2 v3 v4 : Int) (M : Mem), Ks (fun _ _ => False) M0 M → qX6_foremostBelow_L7 k0 p1 Q n v2 v3 v4 M → qX6_foremostBelow_L7 k0 p1 Q' n v2 v3 v4 M := by
  intro n
  induction n with
  | zero => intro v2 v3 v4 M _ h; exact h.elim
  | succ n ih =>
    intro v2 v3 v4 M hF h
    rw [qX6_foremostBelow_L7] at h
    rw [qX6_foremostBelow_L7]
    intro x1_1 g2 g3
    have h1 := h x1_1 g2 g3
    obtain ⟨v4, h4⟩ := h1
    refine ⟨v4, ?_⟩
    obtain ⟨h5, h6⟩ := h4
    refine ⟨?_, ?_⟩
    · intro g7
      have h8 := h5 g7
      obtain ⟨v9, h9⟩ := h8
      refine ⟨v9, ?_⟩
      exact hQ _ _ hF h9
    · intro g10
      have h11 := h6 g10
      obtain ⟨v12, h12⟩ := h11
      refine ⟨v12, ?_⟩
      obtain ⟨v13, h13⟩ := h12
      refine ⟨v13, ?_⟩
      intro x7_14 g15 g16
      have h14 := h13 x7_14 g15 g16
      obtain ⟨h17, h18⟩ := h14
      refine ⟨?_, ?_⟩
      · intro g19
        have h20 := h17 g19
        exact ih _ _ _ _ hF h20
      · intro g21
        have h22 := h18 g21
        intro x9_23 g24 g25
        have h23 := h22 x9_23 g24 g25
        obtain ⟨v26, h26⟩ := h23
        refine ⟨v26, ?_⟩
        obtain ⟨h27, h28⟩ := h26
        refine ⟨?_, ?_⟩
        · intro g29
          have h30 := h27 g29
          exact ih _ _ _ _ hF h30
        · intro g31
          have h32 := h28 g31
          intro x12_33 g34 g35
          have h33 := h32 x12_33 g34 g35
          exact ih _ _ _ _ hF h33
theorem fmX6_foremostBelow {k0 : Nat} {p1 : Int} {M : Mem} {Q Q' : Int → Mem → Prop} (h : qX6_foremostBelow k0 p1 M Q) (hQ : ∀ (w0 : Int) (M' : Mem), Ks (fun _ _ => False) M M' → Q w0 M' → Q' w0 M') : qX6_foremostBelow k0 p1 M Q' := by
  unfold qX6_foremostBelow at h ⊢
  obtain ⟨n1, h1⟩ := h
  refine ⟨n1, ?_⟩
  refine fmX6_foremostBelow_L7 hQ _ _ _ _ _ Ks.rf h1
theorem fmX10_advance_L16 {k1 : Nat} {k2 : Nat} {X36 X36' : Mem → Prop} {X61 X61' : Mem → Prop} {Q Q' : Mem → Prop} {M0 : Mem} (hQ : ∀ (M' : Mem), Ks (fun k j => (160 ≤ k ∧ k ≤ 162) ∨ (k = k1 ∧ (j = 8 ∨ j = 9 ∨ j = 10)) ∨ k = k1 + 1 ∨ k = k1 + 2 ∨ k = k1 + 3 ∨ k = k1 + 5 ∨ k = k1 + 6 ∨ k = k2 + 3 ∨ k = k2 + 4) M0 M' → Q M' → Q' M') (hX36 : ∀ (M' : Mem), Ks (fun k j => (160 ≤ k ∧ k ≤ 162) ∨ (k = k1 ∧ (j = 8 ∨ j = 9 ∨ j = 10)) ∨ k = k1 + 1 ∨ k = k1 + 2 ∨ k = k1 + 3 ∨ k = k1 + 5 ∨ k = k1 + 6 ∨ k = k2 + 3 ∨ k = k2 + 4) M0 M' → X36 M' → X36' M') (hX61 : ∀ (M' : Mem), Ks (fun k j => (160 ≤ k ∧ k ≤ 162) ∨ (k = k1 ∧ (j = 8 ∨ j = 9 ∨ j = 10)) ∨ k = k1 + 1 ∨ k = k1 + 2 ∨ k = k1 + 3 ∨ k = k1 + 5 ∨ k = k1 + 6 ∨ k = k2 + 3 ∨ k = k2 + 4) M0 M' → X61 M' → X61' M') : ∀ (n : Nat) (v3 v4 : Int) (M : Mem), Ks (fun k j => (160 ≤ k ∧ k ≤ 162) ∨ (k = k1 ∧ (j = 8 ∨ j = 9 ∨ j = 10)) ∨ k = k1 + 1 ∨ k = k1 + 2 ∨ k = k1 + 3 ∨ k = k1 + 5 ∨ k = k1 + 6 ∨ k = k2 + 3 ∨ k = k2 + 4) M0 M → qX10_advance_L16 k1 k2 X36 X61 Q n v3 v4 M → qX10_advance_L16 k1 k2 X36' X61' Q' n v3 v4 M := by
  intro n
  induction n with
  | zero => intro v3 v4 M _ h; exact h.elim
  | succ n ih =>
    intro v3 v4 M hF h
    rw [qX10_advance_L16] at h
    rw [qX10_advance_L16]
    obtain ⟨v1, h1⟩ := h
    refine ⟨v1, ?_⟩
    obtain ⟨h2, h3⟩ := h1
    refine ⟨?_, ?_⟩
    · intro g4
      have h5 := h2 g4
      exact hX61 _ hF h5
    · intro g6
      have h7 := h3 g6
      obtain ⟨v8, h8⟩ := h7
      refine ⟨v8, ?_⟩
      refine fmX6_foremostBelow h8 ?_
      intro x6_10 M6_11 f9 h9
      have F9 : Ks (fun k j => (160 ≤ k ∧ k ≤ 162) ∨ (k = k1 ∧ (j = 8 ∨ j = 9 ∨ j = 10)) ∨ k = k1 + 1 ∨ k = k1 + 2 ∨ k = k1 + 3 ∨ k = k1 + 5 ∨ k = k1 + 6 ∨ k = k2 + 3 ∨ k = k2 + 4) M0 M6_11 := (hF).tr (f9.mono (fun _ _ h => False.elim h))
      intro g12
      have h13 := h9 g12
      obtain ⟨h14, h15⟩ := h13
      refine ⟨?_, ?_⟩
      · intro g16
        have h17 := h14 g16
        obtain ⟨v18, h18⟩ := h17
        refine ⟨v18, ?_⟩
        obtain ⟨v19, h19⟩ := h18
        refine ⟨v19, ?_⟩
        intro x10_20 g21 g22
        have h20 := h19 x10_20 g21 g22
        refine fmX10_moveHearse h20 ?_
        intro M11_24 f23 h23
        have F23 : Ks (fun k j => (160 ≤ k ∧ k ≤ 162) ∨ (k = k1 ∧ (j = 8 ∨ j = 9 ∨ j = 10)) ∨ k = k1 + 1 ∨ k = k1 + 2 ∨ k = k1 + 3 ∨ k = k1 + 5 ∨ k = k1 + 6 ∨ k = k2 + 3 ∨ k = k2 + 4) M0 M11_24 := (F9).tr (f23.mono (mo_43))
        exact ih _ _ _ F23 h23
      · intro g25
        have h26 := h15 g25
        exact hX36 _ F9 h26
theorem fmX10_advance_L64 {k1 : Nat} {k2 : Nat} {Q Q' : Mem → Prop} {M0 : Mem} (hQ : ∀ (M' : Mem), Ks (fun k j => (160 ≤ k ∧ k ≤ 162) ∨ (k = k1 ∧ (j = 8 ∨ j = 9 ∨ j = 10)) ∨ k = k1 + 1 ∨ k = k1 + 2 ∨ k = k1 + 3 ∨ k = k1 + 5 ∨ k = k1 + 6 ∨ k = k2 + 3 ∨ k = k2 + 4) M0 M' → Q M' → Q' M') : ∀ (n : Nat) (v4 : Int) (M : Mem), Ks (fun k j => (160 ≤ k ∧ k ≤ 162) ∨ (k = k1 ∧ (j = 8 ∨ j = 9 ∨ j = 10)) ∨ k = k1 + 1 ∨ k = k1 + 2 ∨ k = k1 + 3 ∨ k = k1 + 5 ∨ k = k1 + 6 ∨ k = k2 + 3 ∨ k = k2 + 4) M0 M → qX10_advance_L64 k1 k2 Q n v4 M → qX10_advance_L64 k1 k2 Q' n v4 M := by
  intro n
  induction n with
  | zero => intro v4 M _ h; exact h.elim
  | succ n ih =>
    intro v4 M hF h
    rw [qX10_advance_L64] at h
    rw [qX10_advance_L64]
    intro x13_1 g2 g3
    have h1 := h x13_1 g2 g3
    obtain ⟨v4, h4⟩ := h1
    refine ⟨v4, ?_⟩
    obtain ⟨h5, h6⟩ := h4
    refine ⟨?_, ?_⟩
    · intro g7
      have h8 := h5 g7
      intro x16_9 g10 g11
      have h9 := h8 x16_9 g10 g11
      intro x17_12 g13 g14
      have h12 := h9 x17_12 g13 g14
      intro M18_15 eM18_15
      have h15 := h12 M18_15 eM18_15
      have F15 : Ks (fun k j => (160 ≤ k ∧ k ≤ 162) ∨ (k = k1 ∧ (j = 8 ∨ j = 9 ∨ j = 10)) ∨ k = k1 + 1 ∨ k = k1 + 2 ∨ k = k1 + 3 ∨ k = k1 + 5 ∨ k = k1 + 6 ∨ k = k2 + 3 ∨ k = k2 + 4) M0 M18_15 := by rw [eM18_15]; exact (hF).wr (mw_72)
      exact hQ _ F15 h15
    · intro g16
      have h17 := h6 g16
      refine fmX6_hasEnded h17 ?_
      intro x19_19 M19_20 f18 h18
      have F18 : Ks (fun k j => (160 ≤ k ∧ k ≤ 162) ∨ (k = k1 ∧ (j = 8 ∨ j = 9 ∨ j = 10)) ∨ k = k1 + 1 ∨ k = k1 + 2 ∨ k = k1 + 3 ∨ k = k1 + 5 ∨ k = k1 + 6 ∨ k = k2 + 3 ∨ k = k2 + 4) M0 M19_20 := (hF).tr (f18.mono (fun _ _ h => False.elim h))
      intro g21 g22
      have h23 := h18 g21 g22
      obtain ⟨h24, h25⟩ := h23
      refine ⟨?_, ?_⟩
      · intro g26
        have h27 := h24 g26
        exact ih _ _ F18 h27
      · intro g28
        have h29 := h25 g28
        refine fmX10_moveMourner h29 ?_
        intro M21_31 f30 h30
        have F30 : Ks (fun k j => (160 ≤ k ∧ k ≤ 162) ∨ (k = k1 ∧ (j = 8 ∨ j = 9 ∨ j = 10)) ∨ k = k1 + 1 ∨ k = k1 + 2 ∨ k = k1 + 3 ∨ k = k1 + 5 ∨ k = k1 + 6 ∨ k = k2 + 3 ∨ k = k2 + 4) M0 M21_31 := (F18).tr (f30.mono (mo_44))
        exact ih _ _ F30 h30
theorem fmX10_advance {k1 : Nat} {k2 : Nat} {M : Mem} {Q Q' : Mem → Prop} (h : qX10_advance k1 k2 M Q) (hQ : ∀ (M' : Mem), Ks (fun k j => (160 ≤ k ∧ k ≤ 162) ∨ (k = k1 ∧ (j = 8 ∨ j = 9 ∨ j = 10)) ∨ k = k1 + 1 ∨ k = k1 + 2 ∨ k = k1 + 3 ∨ k = k1 + 5 ∨ k = k1 + 6 ∨ k = k2 + 3 ∨ k = k2 + 4) M M' → Q M' → Q' M') : qX10_advance k1 k2 M Q' := by
  unfold qX10_advance at h ⊢
  intro M1_1 eM1_1
  have h1 := h M1_1 eM1_1
  have F1 : Ks (fun k j => (160 ≤ k ∧ k ≤ 162) ∨ (k = k1 ∧ (j = 8 ∨ j = 9 ∨ j = 10)) ∨ k = k1 + 1 ∨ k = k1 + 2 ∨ k = k1 + 3 ∨ k = k1 + 5 ∨ k = k1 + 6 ∨ k = k2 + 3 ∨ k = k2 + 4) M M1_1 := by rw [eM1_1]; exact (Ks.rf).wr (mw_73)
  intro x2_2 g3 g4
  have h2 := h1 x2_2 g3 g4
  obtain ⟨n5, h5⟩ := h2
  refine ⟨n5, ?_⟩
  refine fmX10_advance_L16 hQ ?_ ?_ _ _ _ _ F1 h5
  · intro M_7 F6 h6
    obtain ⟨n8, h8⟩ := h6
    refine ⟨n8, ?_⟩
    refine fmX10_advance_L64 hQ _ _ _ F6 h8
  · intro M_10 F9 h9
    obtain ⟨n11, h11⟩ := h9
    refine ⟨n11, ?_⟩
    refine fmX10_advance_L64 hQ _ _ _ F9 h11
theorem fmX10_forgetTallies_L12  {X31 X31' : Mem → Prop} {Q Q' : Mem → Prop} {M0 : Mem} (hQ : ∀ (M' : Mem), Ks (fun k j => (160 ≤ k ∧ k ≤ 162)) M0 M' → Q M' → Q' M') (hX31 : ∀ (M' : Mem), Ks (fun k j => (160 ≤ k ∧ k ≤ 162)) M0 M' → X31 M' → X31' M') : ∀ (n : Nat) (v1 : Int) (M : Mem), Ks (fun k j => (160 ≤ k ∧ k ≤ 162)) M0 M → qX10_forgetTallies_L12 X31 Q n v1 M → qX10_forgetTallies_L12 X31' Q' n v1 M := by
  intro n
  induction n with
  | zero => intro v1 M _ h; exact h.elim
  | succ n ih =>
    intro v1 M hF h
    rw [qX10_forgetTallies_L12] at h
    rw [qX10_forgetTallies_L12]
    obtain ⟨v1, h1⟩ := h
    refine ⟨v1, ?_⟩
    obtain ⟨h2, h3⟩ := h1
    refine ⟨?_, ?_⟩
    · intro g4
      have h5 := h2 g4
      exact hX31 _ hF h5
    · intro g6
      have h7 := h3 g6
      obtain ⟨v8, h8⟩ := h7
      refine ⟨v8, ?_⟩
      obtain ⟨v9, h9⟩ := h8
      refine ⟨v9, ?_⟩
      intro M7_10 eM7_10
      have h10 := h9 M7_10 eM7_10
      have F10 : Ks (fun k j => (160 ≤ k ∧ k ≤ 162)) M0 M7_10 := by rw [eM7_10]; exact (hF).wr (mw_74)
      exact ih _ _ F10 h10
theorem fmX10_forgetTallies_L33  {Q Q' : Mem → Prop} {M0 : Mem} (hQ : ∀ (M' : Mem), Ks (fun k j => (160 ≤ k ∧ k ≤ 162)) M0 M' → Q M' → Q' M') : ∀ (n : Nat) (v1 : Int) (M : Mem), Ks (fun k j => (160 ≤ k ∧ k ≤ 162)) M0 M → qX10_forgetTallies_L33 Q n v1 M → qX10_forgetTallies_L33 Q' n v1 M := by
  intro n
  induction n with
  | zero => intro v1 M _ h; exact h.elim
  | succ n ih =>
    intro v1 M hF h
    rw [qX10_forgetTallies_L33] at h
    rw [qX10_forgetTallies_L33]
    obtain ⟨v1, h1⟩ := h
    refine ⟨v1, ?_⟩
    obtain ⟨h2, h3⟩ := h1
    refine ⟨?_, ?_⟩
    · intro g4
      have h5 := h2 g4
      exact hQ _ hF h5
    · intro g6
      have h7 := h3 g6
      obtain ⟨v8, h8⟩ := h7
      refine ⟨v8, ?_⟩
      obtain ⟨v9, h9⟩ := h8
      refine ⟨v9, ?_⟩
      intro M13_10 eM13_10
      have h10 := h9 M13_10 eM13_10
      have F10 : Ks (fun k j => (160 ≤ k ∧ k ≤ 162)) M0 M13_10 := by rw [eM13_10]; exact (hF).wr (mw_75)
      exact ih _ _ F10 h10
theorem fmX10_forgetTallies  {M : Mem} {Q Q' : Mem → Prop} (h : qX10_forgetTallies M Q) (hQ : ∀ (M' : Mem), Ks (fun k j => (160 ≤ k ∧ k ≤ 162)) M M' → Q M' → Q' M') : qX10_forgetTallies M Q' := by
  unfold qX10_forgetTallies at h ⊢
  intro M1_1 eM1_1
  have h1 := h M1_1 eM1_1
  have F1 : Ks (fun k j => (160 ≤ k ∧ k ≤ 162)) M M1_1 := by rw [eM1_1]; exact (Ks.rf).wr (mw_76)
  intro M2_2 eM2_2
  have h2 := h1 M2_2 eM2_2
  have F2 : Ks (fun k j => (160 ≤ k ∧ k ≤ 162)) M M2_2 := by rw [eM2_2]; exact (F1).wr (mw_76)
  obtain ⟨n3, h3⟩ := h2
  refine ⟨n3, ?_⟩
  refine fmX10_forgetTallies_L12 hQ ?_ _ _ _ F2 h3
  · intro M_5 F4 h4
    obtain ⟨n6, h6⟩ := h4
    refine ⟨n6, ?_⟩
    refine fmX10_forgetTallies_L33 hQ _ _ _ F4 h6
theorem fmX10_walk_L7 {k1 : Nat} {k2 : Nat} {p3 : Int} {Q Q' : Mem → Prop} {M0 : Mem} (hQ : ∀ (M' : Mem), Ks (fun k j => (160 ≤ k ∧ k ≤ 162) ∨ (k = k1 ∧ (j = 8 ∨ j = 9 ∨ j = 10)) ∨ k = k1 + 1 ∨ k = k1 + 2 ∨ k = k1 + 3 ∨ k = k1 + 5 ∨ k = k1 + 6 ∨ k = k2 + 3 ∨ k = k2 + 4) M0 M' → Q M' → Q' M') : ∀ (n : Nat) (v4 : Int) (M : Mem), Ks (fun k j => (160 ≤ k ∧ k ≤ 162) ∨ (k = k1 ∧ (j = 8 ∨ j = 9 ∨ j = 10)) ∨ k = k1 + 1 ∨ k = k1 + 2 ∨ k = k1 + 3 ∨ k = k1 + 5 ∨ k = k1 + 6 ∨ k = k2 + 3 ∨ k = k2 + 4) M0 M → qX10_walk_L7 k1 k2 p3 Q n v4 M → qX10_walk_L7 k1 k2 p3 Q' n v4 M := by
  intro n
  induction n with
  | zero => intro v4 M _ h; exact h.elim
  | succ n ih =>
    intro v4 M hF h
    rw [qX10_walk_L7] at h
    rw [qX10_walk_L7]
    obtain ⟨v1, h1⟩ := h
    refine ⟨v1, ?_⟩
    obtain ⟨h2, h3⟩ := h1
    refine ⟨?_, ?_⟩
    · intro g4
      have h5 := h2 g4
      exact hQ _ hF h5
    · intro g6
      have h7 := h3 g6
      refine fmX10_advance h7 ?_
      intro M4_9 f8 h8
      have F8 : Ks (fun k j => (160 ≤ k ∧ k ≤ 162) ∨ (k = k1 ∧ (j = 8 ∨ j = 9 ∨ j = 10)) ∨ k = k1 + 1 ∨ k = k1 + 2 ∨ k = k1 + 3 ∨ k = k1 + 5 ∨ k = k1 + 6 ∨ k = k2 + 3 ∨ k = k2 + 4) M0 M4_9 := (hF).tr (f8.mono (fun _ _ h => h))
      exact ih _ _ F8 h8
theorem fmX10_walk {k1 : Nat} {k2 : Nat} {p3 : Int} {M : Mem} {Q Q' : Mem → Prop} (h : qX10_walk k1 k2 p3 M Q) (hQ : ∀ (M' : Mem), Ks (fun k j => (160 ≤ k ∧ k ≤ 162) ∨ (k = k1 ∧ (j = 8 ∨ j = 9 ∨ j = 10)) ∨ k = k1 + 1 ∨ k = k1 + 2 ∨ k = k1 + 3 ∨ k = k1 + 5 ∨ k = k1 + 6 ∨ k = k2 + 3 ∨ k = k2 + 4) M M' → Q M' → Q' M') : qX10_walk k1 k2 p3 M Q' := by
  unfold qX10_walk at h ⊢
  refine fmX10_forgetTallies h ?_
  intro M1_2 f1 h1
  have F1 : Ks (fun k j => (160 ≤ k ∧ k ≤ 162) ∨ (k = k1 ∧ (j = 8 ∨ j = 9 ∨ j = 10)) ∨ k = k1 + 1 ∨ k = k1 + 2 ∨ k = k1 + 3 ∨ k = k1 + 5 ∨ k = k1 + 6 ∨ k = k2 + 3 ∨ k = k2 + 4) M M1_2 := (Ks.rf).tr (f1.mono (mo_45))
  obtain ⟨n3, h3⟩ := h1
  refine ⟨n3, ?_⟩
  refine fmX10_walk_L7 hQ _ _ _ F1 h3
theorem fmX11_isDone {p0 : Int} {M : Mem} {Q Q' : Int → Mem → Prop} (h : qX11_isDone p0 M Q) (hQ : ∀ (w0 : Int) (M' : Mem), Ks (fun _ _ => False) M M' → Q w0 M' → Q' w0 M') : qX11_isDone p0 M Q' := by
  unfold qX11_isDone at h ⊢
  obtain ⟨h1, h2⟩ := h
  refine ⟨?_, ?_⟩
  · intro g3
    have h4 := h1 g3
    exact hQ _ _ Ks.rf h4
  · intro g5
    have h6 := h2 g5
    obtain ⟨h7, h8⟩ := h6
    refine ⟨?_, ?_⟩
    · intro g9
      have h10 := h7 g9
      exact hQ _ _ Ks.rf h10
    · intro g11
      have h12 := h8 g11
      exact hQ _ _ Ks.rf h12
theorem fmX1_add {k1 : Nat} {M : Mem} {Q Q' : Mem → Prop} (h : qX1_add k1 M Q) (hQ : ∀ (M' : Mem), Ks (fun k j => (50 ≤ k ∧ k ≤ 154) ∨ (k = 163 ∧ (j = 1 ∨ j = 2))) M M' → Q M' → Q' M') : qX1_add k1 M Q' := by
  unfold qX1_add at h ⊢
  intro x1_1 g2 g3
  have h1 := h x1_1 g2 g3
  intro x2_4 g5 g6
  have h4 := h1 x2_4 g5 g6
  intro x3_7 g8 g9
  have h7 := h4 x3_7 g8 g9
  obtain ⟨v10, h10⟩ := h7
  refine ⟨v10, ?_⟩
  obtain ⟨v11, h11⟩ := h10
  refine ⟨v11, ?_⟩
  refine fmX6_copyFrom h11 ?_
  intro M6_13 f12 h12
  have F12 : Ks (fun k j => (50 ≤ k ∧ k ≤ 154) ∨ (k = 163 ∧ (j = 1 ∨ j = 2))) M M6_13 := (Ks.rf).tr (f12.mono (by intro k j h; first | exact False.elim h | omega))
  intro x7_14 g15 g16
  have h14 := h12 x7_14 g15 g16
  obtain ⟨h17, h18⟩ := h14
  refine ⟨?_, ?_⟩
  · intro g19
    have h20 := h17 g19
    intro x9_21 g22 g23
    have h21 := h20 x9_21 g22 g23
    intro x10_24 g25 g26
    have h24 := h21 x10_24 g25 g26
    intro M11_27 eM11_27
    have h27 := h24 M11_27 eM11_27
    have F27 : Ks (fun k j => (50 ≤ k ∧ k ≤ 154) ∨ (k = 163 ∧ (j = 1 ∨ j = 2))) M M11_27 := by rw [eM11_27]; exact (F12).wr (mw_77)
    exact hQ _ F27 h27
  · intro g28
    have h29 := h18 g28
    intro x12_30 g31 g32
    have h30 := h29 x12_30 g31 g32
    obtain ⟨v33, h33⟩ := h30
    refine ⟨v33, ?_⟩
    intro M14_34 eM14_34
    have h34 := h33 M14_34 eM14_34
    have F34 : Ks (fun k j => (50 ≤ k ∧ k ≤ 154) ∨ (k = 163 ∧ (j = 1 ∨ j = 2))) M M14_34 := by rw [eM14_34]; exact (F12).wr (mw_78)
    exact hQ _ F34 h34
theorem fmX11_undoable {p1 : Int} {M : Mem} {Q Q' : Int → Mem → Prop} (h : qX11_undoable p1 M Q) (hQ : ∀ (w0 : Int) (M' : Mem), Ks (fun k j => (50 ≤ k ∧ k ≤ 154) ∨ (k = 163 ∧ (j = 1 ∨ j = 2))) M M' → Q w0 M' → Q' w0 M') : qX11_undoable p1 M Q' := by
  unfold qX11_undoable at h ⊢
  refine fmX11_isDone h ?_
  intro x1_2 M1_3 f1 h1
  have F1 : Ks (fun k j => (50 ≤ k ∧ k ≤ 154) ∨ (k = 163 ∧ (j = 1 ∨ j = 2))) M M1_3 := (Ks.rf).tr (f1.mono (fun _ _ h => False.elim h))
  intro g4 g5
  have h6 := h1 g4 g5
  obtain ⟨h7, h8⟩ := h6
  refine ⟨?_, ?_⟩
  · intro g9
    have h10 := h7 g9
    exact hQ _ _ F1 h10
  · intro g11
    have h12 := h8 g11
    refine fmX1_add h12 ?_
    intro M3_14 f13 h13
    have F13 : Ks (fun k j => (50 ≤ k ∧ k ≤ 154) ∨ (k = 163 ∧ (j = 1 ∨ j = 2))) M M3_14 := (F1).tr (f13.mono (fun _ _ h => h))
    exact hQ _ _ F13 h13
theorem fmX4_add {p1 : Int} {M : Mem} {Q Q' : Mem → Prop} (h : qX4_add p1 M Q) (hQ : ∀ (M' : Mem), Ks (fun k j => k = 0 ∨ (k = 167 ∧ (j = 1))) M M' → Q M' → Q' M') : qX4_add p1 M Q' := by
  unfold qX4_add at h ⊢
  intro x1_1 g2 g3
  have h1 := h x1_1 g2 g3
  obtain ⟨h4, h5⟩ := h1
  refine ⟨?_, ?_⟩
  · intro g6
    have h7 := h4 g6
    exact hQ _ Ks.rf h7
  · intro g8
    have h9 := h5 g8
    intro x3_10 g11 g12
    have h10 := h9 x3_10 g11 g12
    obtain ⟨v13, h13⟩ := h10
    refine ⟨v13, ?_⟩
    obtain ⟨v14, h14⟩ := h13
    refine ⟨v14, ?_⟩
    intro M6_15 eM6_15
    have h15 := h14 M6_15 eM6_15
    have F15 : Ks (fun k j => k = 0 ∨ (k = 167 ∧ (j = 1))) M M6_15 := by rw [eM6_15]; exact (Ks.rf).wr (mw_79 _)
    intro x7_16 g17 g18
    have h16 := h15 x7_16 g17 g18
    obtain ⟨v19, h19⟩ := h16
    refine ⟨v19, ?_⟩
    intro M9_20 eM9_20
    have h20 := h19 M9_20 eM9_20
    have F20 : Ks (fun k j => k = 0 ∨ (k = 167 ∧ (j = 1))) M M9_20 := by rw [eM9_20]; exact (F15).wr (mw_80)
    exact hQ _ F20 h20
theorem fmX4_clear  {M : Mem} {Q Q' : Mem → Prop} (h : qX4_clear M Q) (hQ : ∀ (M' : Mem), Ks (fun k j => (k = 167 ∧ (j = 1))) M M' → Q M' → Q' M') : qX4_clear M Q' := by
  unfold qX4_clear at h ⊢
  intro M1_1 eM1_1
  have h1 := h M1_1 eM1_1
  have F1 : Ks (fun k j => (k = 167 ∧ (j = 1))) M M1_1 := by rw [eM1_1]; exact (Ks.rf).wr (mw_81)
  exact hQ _ F1 h1
theorem fmX4_tellTwo {p1 : Int} {p3 : Int} {M : Mem} {Q Q' : Mem → Prop} (h : qX4_tellTwo p1 p3 M Q) (hQ : ∀ (M' : Mem), Ks (fun k j => k = 0 ∨ (k = 167 ∧ (j = 1))) M M' → Q M' → Q' M') : qX4_tellTwo p1 p3 M Q' := by
  unfold qX4_tellTwo at h ⊢
  refine fmX4_clear h ?_
  intro M1_2 f1 h1
  have F1 : Ks (fun k j => k = 0 ∨ (k = 167 ∧ (j = 1))) M M1_2 := (Ks.rf).tr (f1.mono (mo_46))
  refine fmX4_add h1 ?_
  intro M2_4 f3 h3
  have F3 : Ks (fun k j => k = 0 ∨ (k = 167 ∧ (j = 1))) M M2_4 := (F1).tr (f3.mono (fun _ _ h => h))
  refine fmX4_add h3 ?_
  intro M3_6 f5 h5
  have F5 : Ks (fun k j => k = 0 ∨ (k = 167 ∧ (j = 1))) M M3_6 := (F3).tr (f5.mono (fun _ _ h => h))
  exact hQ _ F5 h5
theorem fmX11_steps {p1 : Int} {M : Mem} {Q Q' : Int → Mem → Prop} (h : qX11_steps p1 M Q) (hQ : ∀ (w0 : Int) (M' : Mem), Ks (fun k j => k = 0 ∨ (2 ≤ k ∧ k ≤ 4) ∨ (6 ≤ k ∧ k ≤ 7) ∨ (22 ≤ k ∧ k ≤ 28) ∨ (50 ≤ k ∧ k ≤ 154) ∨ (160 ≤ k ∧ k ≤ 162) ∨ (190 ≤ k ∧ k ≤ 191) ∨ (195 ≤ k ∧ k ≤ 196) ∨ (k = 1 ∧ (j = 8 ∨ j = 9 ∨ j = 10)) ∨ (k = 163 ∧ (j = 1 ∨ j = 2)) ∨ (k = 167 ∧ (j = 1))) M M' → Q w0 M' → Q' w0 M') : qX11_steps p1 M Q' := by
  unfold qX11_steps at h ⊢
  obtain ⟨h1, h2⟩ := h
  refine ⟨?_, ?_⟩
  · intro g3
    have h4 := h1 g3
    exact hQ _ _ Ks.rf h4
  · intro g5
    have h6 := h2 g5
    obtain ⟨h7, h8⟩ := h6
    refine ⟨?_, ?_⟩
    · intro g9
      have h10 := h7 g9
      refine fmX6_copyFrom h10 ?_
      intro M3_12 f11 h11
      have F11 : Ks (fun k j => k = 0 ∨ (2 ≤ k ∧ k ≤ 4) ∨ (6 ≤ k ∧ k ≤ 7) ∨ (22 ≤ k ∧ k ≤ 28) ∨ (50 ≤ k ∧ k ≤ 154) ∨ (160 ≤ k ∧ k ≤ 162) ∨ (190 ≤ k ∧ k ≤ 191) ∨ (195 ≤ k ∧ k ≤ 196) ∨ (k = 1 ∧ (j = 8 ∨ j = 9 ∨ j = 10)) ∨ (k = 163 ∧ (j = 1 ∨ j = 2)) ∨ (k = 167 ∧ (j = 1))) M M3_12 := (Ks.rf).tr (f11.mono (mo_47))
      obtain ⟨v13, h13⟩ := h11
      refine ⟨v13, ?_⟩
      have w13 : (M3_12 155 16).toNat = 187 ∨ (M3_12 155 16).toNat = 192 := v13
      refine fmX10_walk h13 ?_
      intro M5_15 f14 h14
      have F14 : Ks (fun k j => k = 0 ∨ (2 ≤ k ∧ k ≤ 4) ∨ (6 ≤ k ∧ k ≤ 7) ∨ (22 ≤ k ∧ k ≤ 28) ∨ (50 ≤ k ∧ k ≤ 154) ∨ (160 ≤ k ∧ k ≤ 162) ∨ (190 ≤ k ∧ k ≤ 191) ∨ (195 ≤ k ∧ k ≤ 196) ∨ (k = 1 ∧ (j = 8 ∨ j = 9 ∨ j = 10)) ∨ (k = 163 ∧ (j = 1 ∨ j = 2)) ∨ (k = 167 ∧ (j = 1))) M M5_15 := (F11).tr (f14.mono (fun k j h => w13.elim (fun e => mo_48 k j (by rw [e] at h; exact h)) (fun e => mo_49 k j (by rw [e] at h; exact h))))
      intro x6_16 g17 g18
      have h16 := h14 x6_16 g17 g18
      intro x7_19 g20 g21
      have h19 := h16 x7_19 g20 g21
      refine fmX4_tellTwo h19 ?_
      intro M8_23 f22 h22
      have F22 : Ks (fun k j => k = 0 ∨ (2 ≤ k ∧ k ≤ 4) ∨ (6 ≤ k ∧ k ≤ 7) ∨ (22 ≤ k ∧ k ≤ 28) ∨ (50 ≤ k ∧ k ≤ 154) ∨ (160 ≤ k ∧ k ≤ 162) ∨ (190 ≤ k ∧ k ≤ 191) ∨ (195 ≤ k ∧ k ≤ 196) ∨ (k = 1 ∧ (j = 8 ∨ j = 9 ∨ j = 10)) ∨ (k = 163 ∧ (j = 1 ∨ j = 2)) ∨ (k = 167 ∧ (j = 1))) M M8_23 := (F14).tr (f22.mono (mo_50))
      intro x9_24 g25 g26
      have h24 := h22 x9_24 g25 g26
      refine fmX11_undoable h24 ?_
      intro x10_28 M10_29 f27 h27
      have F27 : Ks (fun k j => k = 0 ∨ (2 ≤ k ∧ k ≤ 4) ∨ (6 ≤ k ∧ k ≤ 7) ∨ (22 ≤ k ∧ k ≤ 28) ∨ (50 ≤ k ∧ k ≤ 154) ∨ (160 ≤ k ∧ k ≤ 162) ∨ (190 ≤ k ∧ k ≤ 191) ∨ (195 ≤ k ∧ k ≤ 196) ∨ (k = 1 ∧ (j = 8 ∨ j = 9 ∨ j = 10)) ∨ (k = 163 ∧ (j = 1 ∨ j = 2)) ∨ (k = 167 ∧ (j = 1))) M M10_29 := (F22).tr (f27.mono (mo_51))
      intro g30
      have h31 := h27 g30
      exact hQ _ _ F27 h31
    · intro g32
      have h33 := h8 g32
      exact hQ _ _ Ks.rf h33
theorem fmX6_isMourner {k0 : Nat} {p1 : Int} {M : Mem} {Q Q' : Int → Mem → Prop} (h : qX6_isMourner k0 p1 M Q) (hQ : ∀ (w0 : Int) (M' : Mem), Ks (fun _ _ => False) M M' → Q w0 M' → Q' w0 M') : qX6_isMourner k0 p1 M Q' := by
  unfold qX6_isMourner at h ⊢
  obtain ⟨h1, h2⟩ := h
  refine ⟨?_, ?_⟩
  · intro g3
    have h4 := h1 g3
    exact hQ _ _ Ks.rf h4
  · intro g5
    have h6 := h2 g5
    intro x2_7 g8 g9
    have h7 := h6 x2_7 g8 g9
    obtain ⟨h10, h11⟩ := h7
    refine ⟨?_, ?_⟩
    · intro g12
      have h13 := h10 g12
      exact hQ _ _ Ks.rf h13
    · intro g14
      have h15 := h11 g14
      exact hQ _ _ Ks.rf h15
theorem fmX6_turn {k0 : Nat} {p1 : Int} {M : Mem} {Q Q' : Int → Mem → Prop} (h : qX6_turn k0 p1 M Q) (hQ : ∀ (w0 : Int) (M' : Mem), Ks (fun k j => k = k0 + 5) M M' → Q w0 M' → Q' w0 M') : qX6_turn k0 p1 M Q' := by
  unfold qX6_turn at h ⊢
  refine fmX6_isMourner h ?_
  intro x1_2 M1_3 f1 h1
  have F1 : Ks (fun k j => k = k0 + 5) M M1_3 := (Ks.rf).tr (f1.mono (fun _ _ h => False.elim h))
  intro g4 g5
  have h6 := h1 g4 g5
  obtain ⟨h7, h8⟩ := h6
  refine ⟨?_, ?_⟩
  · intro g9
    have h10 := h7 g9
    refine fmX6_hasEnded h10 ?_
    intro x3_12 M3_13 f11 h11
    have F11 : Ks (fun k j => k = k0 + 5) M M3_13 := (F1).tr (f11.mono (fun _ _ h => False.elim h))
    intro g14 g15
    have h16 := h11 g14 g15
    obtain ⟨h17, h18⟩ := h16
    refine ⟨?_, ?_⟩
    · intro g19
      have h20 := h17 g19
      obtain ⟨v21, h21⟩ := h20
      refine ⟨v21, ?_⟩
      obtain ⟨v22, h22⟩ := h21
      refine ⟨v22, ?_⟩
      intro x7_23 g24 g25
      have h23 := h22 x7_23 g24 g25
      intro x8_26 g27 g28
      have h26 := h23 x8_26 g27 g28
      refine fmX6_hasArrived h26 ?_
      intro x9_30 M9_31 f29 h29
      have F29 : Ks (fun k j => k = k0 + 5) M M9_31 := (F11).tr (f29.mono (fun _ _ h => False.elim h))
      intro g32 g33
      have h34 := h29 g32 g33
      obtain ⟨h35, h36⟩ := h34
      refine ⟨?_, ?_⟩
      · intro g37
        have h38 := h35 g37
        exact hQ _ _ F29 h38
      · intro g39
        have h40 := h36 g39
        intro x11_41 g42 g43
        have h41 := h40 x11_41 g42 g43
        obtain ⟨h44, h45⟩ := h41
        refine ⟨?_, ?_⟩
        · intro g46
          have h47 := h44 g46
          intro x13_48 g49 g50
          have h48 := h47 x13_48 g49 g50
          intro M14_51 eM14_51
          have h51 := h48 M14_51 eM14_51
          have F51 : Ks (fun k j => k = k0 + 5) M M14_51 := by rw [eM14_51]; exact (F29).wr (mw_82)
          obtain ⟨h52, h53⟩ := h51
          refine ⟨?_, ?_⟩
          · intro g54
            have h55 := h52 g54
            exact hQ _ _ F51 h55
          · intro g56
            have h57 := h53 g56
            exact hQ _ _ F51 h57
        · intro g58
          have h59 := h45 g58
          exact hQ _ _ F29 h59
    · intro g60
      have h61 := h18 g60
      exact hQ _ _ F11 h61
  · intro g62
    have h63 := h8 g62
    exact hQ _ _ F1 h63
theorem fmX11_turnsTo {p1 : Int} {M : Mem} {Q Q' : Int → Mem → Prop} (h : qX11_turnsTo p1 M Q) (hQ : ∀ (w0 : Int) (M' : Mem), Ks (fun k j => k = 6 ∨ (22 ≤ k ∧ k ≤ 28) ∨ (50 ≤ k ∧ k ≤ 154) ∨ (k = 163 ∧ (j = 1 ∨ j = 2))) M M' → Q w0 M' → Q' w0 M') : qX11_turnsTo p1 M Q' := by
  unfold qX11_turnsTo at h ⊢
  refine fmX6_copyFrom h ?_
  intro M1_2 f1 h1
  have F1 : Ks (fun k j => k = 6 ∨ (22 ≤ k ∧ k ≤ 28) ∨ (50 ≤ k ∧ k ≤ 154) ∨ (k = 163 ∧ (j = 1 ∨ j = 2))) M M1_2 := (Ks.rf).tr (f1.mono (mo_52))
  refine fmX6_turn h1 ?_
  intro x2_4 M2_5 f3 h3
  have F3 : Ks (fun k j => k = 6 ∨ (22 ≤ k ∧ k ≤ 28) ∨ (50 ≤ k ∧ k ≤ 154) ∨ (k = 163 ∧ (j = 1 ∨ j = 2))) M M2_5 := (F1).tr (f3.mono (mo_53))
  intro g6
  have h7 := h3 g6
  refine fmX11_undoable h7 ?_
  intro x3_9 M3_10 f8 h8
  have F8 : Ks (fun k j => k = 6 ∨ (22 ≤ k ∧ k ≤ 28) ∨ (50 ≤ k ∧ k ≤ 154) ∨ (k = 163 ∧ (j = 1 ∨ j = 2))) M M3_10 := (F3).tr (f8.mono (mo_54))
  intro g11
  have h12 := h8 g11
  exact hQ _ _ F8 h12
theorem fmX6_shove {k0 : Nat} {p1 : Int} {p2 : Int} {M : Mem} {Q Q' : Int → Mem → Prop} (h : qX6_shove k0 p1 p2 M Q) (hQ : ∀ (w0 : Int) (M' : Mem), Ks (fun k j => k = k0 + 3) M M' → Q w0 M' → Q' w0 M') : qX6_shove k0 p1 p2 M Q' := by
  unfold qX6_shove at h ⊢
  refine fmX6_isMourner h ?_
  intro x1_2 M1_3 f1 h1
  have F1 : Ks (fun k j => k = k0 + 3) M M1_3 := (Ks.rf).tr (f1.mono (fun _ _ h => False.elim h))
  intro g4 g5
  have h6 := h1 g4 g5
  obtain ⟨h7, h8⟩ := h6
  refine ⟨?_, ?_⟩
  · intro g9
    have h10 := h7 g9
    exact hQ _ _ F1 h10
  · intro g11
    have h12 := h8 g11
    obtain ⟨h13, h14⟩ := h12
    refine ⟨?_, ?_⟩
    · intro g15
      have h16 := h13 g15
      exact hQ _ _ F1 h16
    · intro g17
      have h18 := h14 g17
      obtain ⟨h19, h20⟩ := h18
      refine ⟨?_, ?_⟩
      · intro g21
        have h22 := h19 g21
        exact hQ _ _ F1 h22
      · intro g23
        have h24 := h20 g23
        obtain ⟨h25, h26⟩ := h24
        refine ⟨?_, ?_⟩
        · intro g27
          have h28 := h25 g27
          refine fmX6_hasEnded h28 ?_
          intro x6_30 M6_31 f29 h29
          have F29 : Ks (fun k j => k = k0 + 3) M M6_31 := (F1).tr (f29.mono (fun _ _ h => False.elim h))
          intro g32 g33
          have h34 := h29 g32 g33
          obtain ⟨h35, h36⟩ := h34
          refine ⟨?_, ?_⟩
          · intro g37
            have h38 := h35 g37
            obtain ⟨v39, h39⟩ := h38
            refine ⟨v39, ?_⟩
            obtain ⟨v40, h40⟩ := h39
            refine ⟨v40, ?_⟩
            intro x10_41 g42 g43
            have h41 := h40 x10_41 g42 g43
            obtain ⟨v44, h44⟩ := h41
            refine ⟨v44, ?_⟩
            refine fmX8_putOnStreet h44 ?_
            intro x12_46 M12_47 f45 h45
            have F45 : Ks (fun k j => k = k0 + 3) M M12_47 := (F29).tr (f45.mono (fun _ _ h => False.elim h))
            intro g48
            have h49 := h45 g48
            intro M13_50 eM13_50
            have h50 := h49 M13_50 eM13_50
            have F50 : Ks (fun k j => k = k0 + 3) M M13_50 := by rw [eM13_50]; exact (F45).wr (mw_57)
            intro x14_51 g52 g53
            have h51 := h50 x14_51 g52 g53
            exact hQ _ _ F50 h51
          · intro g54
            have h55 := h36 g54
            exact hQ _ _ F29 h55
        · intro g56
          have h57 := h26 g56
          exact hQ _ _ F1 h57
theorem fmX11_pushes {p1 : Int} {p2 : Int} {M : Mem} {Q Q' : Int → Mem → Prop} (h : qX11_pushes p1 p2 M Q) (hQ : ∀ (w0 : Int) (M' : Mem), Ks (fun k j => k = 4 ∨ (22 ≤ k ∧ k ≤ 28) ∨ (50 ≤ k ∧ k ≤ 154) ∨ (k = 163 ∧ (j = 1 ∨ j = 2))) M M' → Q w0 M' → Q' w0 M') : qX11_pushes p1 p2 M Q' := by
  unfold qX11_pushes at h ⊢
  refine fmX6_copyFrom h ?_
  intro M1_2 f1 h1
  have F1 : Ks (fun k j => k = 4 ∨ (22 ≤ k ∧ k ≤ 28) ∨ (50 ≤ k ∧ k ≤ 154) ∨ (k = 163 ∧ (j = 1 ∨ j = 2))) M M1_2 := (Ks.rf).tr (f1.mono (mo_55))
  refine fmX6_shove h1 ?_
  intro x2_4 M2_5 f3 h3
  have F3 : Ks (fun k j => k = 4 ∨ (22 ≤ k ∧ k ≤ 28) ∨ (50 ≤ k ∧ k ≤ 154) ∨ (k = 163 ∧ (j = 1 ∨ j = 2))) M M2_5 := (F1).tr (f3.mono (mo_56))
  intro g6
  have h7 := h3 g6
  refine fmX11_undoable h7 ?_
  intro x3_9 M3_10 f8 h8
  have F8 : Ks (fun k j => k = 4 ∨ (22 ≤ k ∧ k ≤ 28) ∨ (50 ≤ k ∧ k ≤ 154) ∨ (k = 163 ∧ (j = 1 ∨ j = 2))) M M3_10 := (F3).tr (f8.mono (mo_57))
  intro g11
  have h12 := h8 g11
  exact hQ _ _ F8 h12
theorem fmX6_isHearse {k0 : Nat} {p1 : Int} {M : Mem} {Q Q' : Int → Mem → Prop} (h : qX6_isHearse k0 p1 M Q) (hQ : ∀ (w0 : Int) (M' : Mem), Ks (fun _ _ => False) M M' → Q w0 M' → Q' w0 M') : qX6_isHearse k0 p1 M Q' := by
  unfold qX6_isHearse at h ⊢
  obtain ⟨h1, h2⟩ := h
  refine ⟨?_, ?_⟩
  · intro g3
    have h4 := h1 g3
    exact hQ _ _ Ks.rf h4
  · intro g5
    have h6 := h2 g5
    intro x2_7 g8 g9
    have h7 := h6 x2_7 g8 g9
    obtain ⟨h10, h11⟩ := h7
    refine ⟨?_, ?_⟩
    · intro g12
      have h13 := h10 g12
      exact hQ _ _ Ks.rf h13
    · intro g14
      have h15 := h11 g14
      exact hQ _ _ Ks.rf h15
theorem fmX6_exchange {k0 : Nat} {p1 : Int} {p2 : Int} {M : Mem} {Q Q' : Int → Mem → Prop} (h : qX6_exchange k0 p1 p2 M Q) (hQ : ∀ (w0 : Int) (M' : Mem), Ks (fun k j => k = k0 + 1) M M' → Q w0 M' → Q' w0 M') : qX6_exchange k0 p1 p2 M Q' := by
  unfold qX6_exchange at h ⊢
  refine fmX6_isHearse h ?_
  intro x1_2 M1_3 f1 h1
  have F1 : Ks (fun k j => k = k0 + 1) M M1_3 := (Ks.rf).tr (f1.mono (fun _ _ h => False.elim h))
  intro g4 g5
  have h6 := h1 g4 g5
  obtain ⟨h7, h8⟩ := h6
  refine ⟨?_, ?_⟩
  · intro g9
    have h10 := h7 g9
    exact hQ _ _ F1 h10
  · intro g11
    have h12 := h8 g11
    refine fmX6_isHearse h12 ?_
    intro x3_14 M3_15 f13 h13
    have F13 : Ks (fun k j => k = k0 + 1) M M3_15 := (F1).tr (f13.mono (fun _ _ h => False.elim h))
    intro g16 g17
    have h18 := h13 g16 g17
    obtain ⟨h19, h20⟩ := h18
    refine ⟨?_, ?_⟩
    · intro g21
      have h22 := h19 g21
      exact hQ _ _ F13 h22
    · intro g23
      have h24 := h20 g23
      obtain ⟨h25, h26⟩ := h24
      refine ⟨?_, ?_⟩
      · intro g27
        have h28 := h25 g27
        refine fmX6_hasArrived h28 ?_
        intro x6_30 M6_31 f29 h29
        have F29 : Ks (fun k j => k = k0 + 1) M M6_31 := (F13).tr (f29.mono (fun _ _ h => False.elim h))
        intro g32 g33
        have h34 := h29 g32 g33
        obtain ⟨h35, h36⟩ := h34
        refine ⟨?_, ?_⟩
        · intro g37
          have h38 := h35 g37
          exact hQ _ _ F29 h38
        · intro g39
          have h40 := h36 g39
          refine fmX6_hasArrived h40 ?_
          intro x8_42 M8_43 f41 h41
          have F41 : Ks (fun k j => k = k0 + 1) M M8_43 := (F29).tr (f41.mono (fun _ _ h => False.elim h))
          intro g44 g45
          have h46 := h41 g44 g45
          obtain ⟨h47, h48⟩ := h46
          refine ⟨?_, ?_⟩
          · intro g49
            have h50 := h47 g49
            obtain ⟨v51, h51⟩ := h50
            refine ⟨v51, ?_⟩
            obtain ⟨v52, h52⟩ := h51
            refine ⟨v52, ?_⟩
            intro x12_53 g54 g55
            have h53 := h52 x12_53 g54 g55
            obtain ⟨v56, h56⟩ := h53
            refine ⟨v56, ?_⟩
            obtain ⟨v57, h57⟩ := h56
            refine ⟨v57, ?_⟩
            intro x15_58 g59 g60
            have h58 := h57 x15_58 g59 g60
            intro M16_61 eM16_61
            have h61 := h58 M16_61 eM16_61
            have F61 : Ks (fun k j => k = k0 + 1) M M16_61 := by rw [eM16_61]; exact (F41).wr (mw_83)
            intro M17_62 eM17_62
            have h62 := h61 M17_62 eM17_62
            have F62 : Ks (fun k j => k = k0 + 1) M M17_62 := by rw [eM17_62]; exact (F61).wr (mw_83)
            intro x18_63 g64 g65
            have h63 := h62 x18_63 g64 g65
            intro x19_66 g67 g68
            have h66 := h63 x19_66 g67 g68
            obtain ⟨v69, h69⟩ := h66
            refine ⟨v69, ?_⟩
            intro x21_70 g71 g72
            have h70 := h69 x21_70 g71 g72
            obtain ⟨v73, h73⟩ := h70
            refine ⟨v73, ?_⟩
            exact hQ _ _ F62 h73
          · intro g74
            have h75 := h48 g74
            exact hQ _ _ F41 h75
      · intro g76
        have h77 := h26 g76
        exact hQ _ _ F13 h77
theorem fmX11_swaps {p1 : Int} {p2 : Int} {M : Mem} {Q Q' : Int → Mem → Prop} (h : qX11_swaps p1 p2 M Q) (hQ : ∀ (w0 : Int) (M' : Mem), Ks (fun k j => k = 2 ∨ (22 ≤ k ∧ k ≤ 28) ∨ (50 ≤ k ∧ k ≤ 154) ∨ (k = 163 ∧ (j = 1 ∨ j = 2))) M M' → Q w0 M' → Q' w0 M') : qX11_swaps p1 p2 M Q' := by
  unfold qX11_swaps at h ⊢
  refine fmX6_copyFrom h ?_
  intro M1_2 f1 h1
  have F1 : Ks (fun k j => k = 2 ∨ (22 ≤ k ∧ k ≤ 28) ∨ (50 ≤ k ∧ k ≤ 154) ∨ (k = 163 ∧ (j = 1 ∨ j = 2))) M M1_2 := (Ks.rf).tr (f1.mono (mo_58))
  refine fmX6_exchange h1 ?_
  intro x2_4 M2_5 f3 h3
  have F3 : Ks (fun k j => k = 2 ∨ (22 ≤ k ∧ k ≤ 28) ∨ (50 ≤ k ∧ k ≤ 154) ∨ (k = 163 ∧ (j = 1 ∨ j = 2))) M M2_5 := (F1).tr (f3.mono (mo_59))
  intro g6
  have h7 := h3 g6
  refine fmX11_undoable h7 ?_
  intro x3_9 M3_10 f8 h8
  have F8 : Ks (fun k j => k = 2 ∨ (22 ≤ k ∧ k ≤ 28) ∨ (50 ≤ k ∧ k ≤ 154) ∨ (k = 163 ∧ (j = 1 ∨ j = 2))) M M3_10 := (F3).tr (f8.mono (mo_60))
  intro g11
  have h12 := h8 g11
  exact hQ _ _ F8 h12
theorem fmX11_doAct  {M : Mem} {Q Q' : Int → Mem → Prop} (h : qX11_doAct M Q) (hQ : ∀ (w0 : Int) (M' : Mem), Ks (fun k j => (2 ≤ k ∧ k ≤ 4) ∨ (6 ≤ k ∧ k ≤ 7) ∨ (160 ≤ k ∧ k ≤ 162) ∨ (190 ≤ k ∧ k ≤ 191) ∨ (195 ≤ k ∧ k ≤ 196) ∨ (k = 1 ∧ (j = 8 ∨ j = 9 ∨ j = 10)) ∨ (k = 156 ∧ (j = 2))) M M' → Q w0 M' → Q' w0 M') : qX11_doAct M Q' := by
  unfold qX11_doAct at h ⊢
  refine fmX9_look h ?_
  intro x1_2 M1_3 f1 h1
  have F1 : Ks (fun k j => (2 ≤ k ∧ k ≤ 4) ∨ (6 ≤ k ∧ k ≤ 7) ∨ (160 ≤ k ∧ k ≤ 162) ∨ (190 ≤ k ∧ k ≤ 191) ∨ (195 ≤ k ∧ k ≤ 196) ∨ (k = 1 ∧ (j = 8 ∨ j = 9 ∨ j = 10)) ∨ (k = 156 ∧ (j = 2))) M M1_3 := (Ks.rf).tr (f1.mono (fun _ _ h => False.elim h))
  intro g4
  have h5 := h1 g4
  refine fmX9_pass h5 ?_
  intro M2_7 f6 h6
  have F6 : Ks (fun k j => (2 ≤ k ∧ k ≤ 4) ∨ (6 ≤ k ∧ k ≤ 7) ∨ (160 ≤ k ∧ k ≤ 162) ∨ (190 ≤ k ∧ k ≤ 191) ∨ (195 ≤ k ∧ k ≤ 196) ∨ (k = 1 ∧ (j = 8 ∨ j = 9 ∨ j = 10)) ∨ (k = 156 ∧ (j = 2))) M M2_7 := (F1).tr (f6.mono (mo_61))
  refine fmX9_digit h6 ?_
  intro x3_9 M3_10 f8 h8
  have F8 : Ks (fun k j => (2 ≤ k ∧ k ≤ 4) ∨ (6 ≤ k ∧ k ≤ 7) ∨ (160 ≤ k ∧ k ≤ 162) ∨ (190 ≤ k ∧ k ≤ 191) ∨ (195 ≤ k ∧ k ≤ 196) ∨ (k = 1 ∧ (j = 8 ∨ j = 9 ∨ j = 10)) ∨ (k = 156 ∧ (j = 2))) M M3_10 := (F6).tr (f8.mono (mo_61))
  intro g11
  have h12 := h8 g11
  obtain ⟨h13, h14, h15, h16, h17⟩ := h12
  refine ⟨?_, ?_, ?_, ?_, ?_⟩
  · intro g18
    have h19 := h13 g18
    refine fmX9_digit h19 ?_
    intro x5_21 M5_22 f20 h20
    have F20 : Ks (fun k j => (2 ≤ k ∧ k ≤ 4) ∨ (6 ≤ k ∧ k ≤ 7) ∨ (160 ≤ k ∧ k ≤ 162) ∨ (190 ≤ k ∧ k ≤ 191) ∨ (195 ≤ k ∧ k ≤ 196) ∨ (k = 1 ∧ (j = 8 ∨ j = 9 ∨ j = 10)) ∨ (k = 156 ∧ (j = 2))) M M5_22 := (F8).tr (f20.mono (mo_61))
    intro g23
    have h24 := h20 g23
    obtain ⟨v25, h25⟩ := h24
    refine ⟨v25, ?_⟩
    refine fmX6_shove h25 ?_
    intro x7_27 M7_28 f26 h26
    have F26 : Ks (fun k j => (2 ≤ k ∧ k ≤ 4) ∨ (6 ≤ k ∧ k ≤ 7) ∨ (160 ≤ k ∧ k ≤ 162) ∨ (190 ≤ k ∧ k ≤ 191) ∨ (195 ≤ k ∧ k ≤ 196) ∨ (k = 1 ∧ (j = 8 ∨ j = 9 ∨ j = 10)) ∨ (k = 156 ∧ (j = 2))) M M7_28 := (F20).tr (f26.mono (mo_62))
    intro g29
    have h30 := h26 g29
    exact hQ _ _ F26 h30
  · intro g31
    have h32 := h14 g31
    obtain ⟨v33, h33⟩ := h32
    refine ⟨v33, ?_⟩
    have w33 : (M3_10 155 16).toNat = 187 ∨ (M3_10 155 16).toNat = 192 := v33
    refine fmX10_walk h33 ?_
    intro M9_35 f34 h34
    have F34 : Ks (fun k j => (2 ≤ k ∧ k ≤ 4) ∨ (6 ≤ k ∧ k ≤ 7) ∨ (160 ≤ k ∧ k ≤ 162) ∨ (190 ≤ k ∧ k ≤ 191) ∨ (195 ≤ k ∧ k ≤ 196) ∨ (k = 1 ∧ (j = 8 ∨ j = 9 ∨ j = 10)) ∨ (k = 156 ∧ (j = 2))) M M9_35 := (F8).tr (f34.mono (fun k j h => w33.elim (fun e => mo_63 k j (by rw [e] at h; exact h)) (fun e => mo_64 k j (by rw [e] at h; exact h))))
    intro x10_36 g37 g38
    have h36 := h34 x10_36 g37 g38
    exact hQ _ _ F34 h36
  · intro g39
    have h40 := h15 g39
    refine fmX9_digit h40 ?_
    intro x11_42 M11_43 f41 h41
    have F41 : Ks (fun k j => (2 ≤ k ∧ k ≤ 4) ∨ (6 ≤ k ∧ k ≤ 7) ∨ (160 ≤ k ∧ k ≤ 162) ∨ (190 ≤ k ∧ k ≤ 191) ∨ (195 ≤ k ∧ k ≤ 196) ∨ (k = 1 ∧ (j = 8 ∨ j = 9 ∨ j = 10)) ∨ (k = 156 ∧ (j = 2))) M M11_43 := (F8).tr (f41.mono (mo_61))
    intro g44
    have h45 := h41 g44
    refine fmX6_shove h45 ?_
    intro x12_47 M12_48 f46 h46
    have F46 : Ks (fun k j => (2 ≤ k ∧ k ≤ 4) ∨ (6 ≤ k ∧ k ≤ 7) ∨ (160 ≤ k ∧ k ≤ 162) ∨ (190 ≤ k ∧ k ≤ 191) ∨ (195 ≤ k ∧ k ≤ 196) ∨ (k = 1 ∧ (j = 8 ∨ j = 9 ∨ j = 10)) ∨ (k = 156 ∧ (j = 2))) M M12_48 := (F41).tr (f46.mono (mo_62))
    intro g49
    have h50 := h46 g49
    exact hQ _ _ F46 h50
  · intro g51
    have h52 := h16 g51
    refine fmX6_turn h52 ?_
    intro x13_54 M13_55 f53 h53
    have F53 : Ks (fun k j => (2 ≤ k ∧ k ≤ 4) ∨ (6 ≤ k ∧ k ≤ 7) ∨ (160 ≤ k ∧ k ≤ 162) ∨ (190 ≤ k ∧ k ≤ 191) ∨ (195 ≤ k ∧ k ≤ 196) ∨ (k = 1 ∧ (j = 8 ∨ j = 9 ∨ j = 10)) ∨ (k = 156 ∧ (j = 2))) M M13_55 := (F8).tr (f53.mono (mo_65))
    intro g56
    have h57 := h53 g56
    exact hQ _ _ F53 h57
  · intro g58
    have h59 := h17 g58
    refine fmX9_digit h59 ?_
    intro x14_61 M14_62 f60 h60
    have F60 : Ks (fun k j => (2 ≤ k ∧ k ≤ 4) ∨ (6 ≤ k ∧ k ≤ 7) ∨ (160 ≤ k ∧ k ≤ 162) ∨ (190 ≤ k ∧ k ≤ 191) ∨ (195 ≤ k ∧ k ≤ 196) ∨ (k = 1 ∧ (j = 8 ∨ j = 9 ∨ j = 10)) ∨ (k = 156 ∧ (j = 2))) M M14_62 := (F8).tr (f60.mono (mo_61))
    intro g63
    have h64 := h60 g63
    refine fmX6_exchange h64 ?_
    intro x15_66 M15_67 f65 h65
    have F65 : Ks (fun k j => (2 ≤ k ∧ k ≤ 4) ∨ (6 ≤ k ∧ k ≤ 7) ∨ (160 ≤ k ∧ k ≤ 162) ∨ (190 ≤ k ∧ k ≤ 191) ∨ (195 ≤ k ∧ k ≤ 196) ∨ (k = 1 ∧ (j = 8 ∨ j = 9 ∨ j = 10)) ∨ (k = 156 ∧ (j = 2))) M M15_67 := (F60).tr (f65.mono (mo_66))
    intro g68
    have h69 := h65 g68
    exact hQ _ _ F65 h69
theorem fmX11_passAct  {M : Mem} {Q Q' : Int → Mem → Prop} (h : qX11_passAct M Q) (hQ : ∀ (w0 : Int) (M' : Mem), Ks (fun k j => (k = 156 ∧ (j = 2))) M M' → Q w0 M' → Q' w0 M') : qX11_passAct M Q' := by
  unfold qX11_passAct at h ⊢
  refine fmX9_look h ?_
  intro x1_2 M1_3 f1 h1
  have F1 : Ks (fun k j => (k = 156 ∧ (j = 2))) M M1_3 := (Ks.rf).tr (f1.mono (fun _ _ h => False.elim h))
  intro g4
  have h5 := h1 g4
  obtain ⟨h6, h7⟩ := h5
  refine ⟨?_, ?_⟩
  · intro g8
    have h9 := h6 g8
    unfold qX11_passAct_J20 at h9 ⊢
    unfold qX11_passAct_J25 at h9 ⊢
    obtain ⟨v10, h10⟩ := h9
    refine ⟨v10, ?_⟩
    obtain ⟨h11, h12⟩ := h10
    refine ⟨?_, ?_⟩
    · intro g13
      have h14 := h11 g13
      unfold qX11_passAct_J50 at h14 ⊢
      refine fmX9_pass h14 ?_
      intro M5_16 f15 h15
      have F15 : Ks (fun k j => (k = 156 ∧ (j = 2))) M M5_16 := (F1).tr (f15.mono (fun _ _ h => h))
      refine fmX9_digit h15 ?_
      intro x6_18 M6_19 f17 h17
      have F17 : Ks (fun k j => (k = 156 ∧ (j = 2))) M M6_19 := (F15).tr (f17.mono (fun _ _ h => h))
      intro g20
      have h21 := h17 g20
      obtain ⟨h22, h23⟩ := h21
      refine ⟨?_, ?_⟩
      · intro g24
        have h25 := h22 g24
        exact hQ _ _ F17 h25
      · intro g26
        have h27 := h23 g26
        obtain ⟨v28, h28⟩ := h27
        refine ⟨v28, ?_⟩
        obtain ⟨h29, h30⟩ := h28
        refine ⟨?_, ?_⟩
        · intro g31
          have h32 := h29 g31
          unfold qX11_passAct_J86 at h32 ⊢
          obtain ⟨v33, h33⟩ := h32
          refine ⟨v33, ?_⟩
          obtain ⟨h34, h35⟩ := h33
          refine ⟨?_, ?_⟩
          · intro g36
            have h37 := h34 g36
            unfold qX11_passAct_J96 at h37 ⊢
            refine fmX9_digit h37 ?_
            intro x12_39 M12_40 f38 h38
            have F38 : Ks (fun k j => (k = 156 ∧ (j = 2))) M M12_40 := (F17).tr (f38.mono (fun _ _ h => h))
            intro g41
            have h42 := h38 g41
            obtain ⟨h43, h44⟩ := h42
            refine ⟨?_, ?_⟩
            · intro g45
              have h46 := h43 g45
              exact hQ _ _ F38 h46
            · intro g47
              have h48 := h44 g47
              exact hQ _ _ F38 h48
          · intro g49
            have h50 := h35 g49
            obtain ⟨v51, h51⟩ := h50
            refine ⟨v51, ?_⟩
            obtain ⟨h52, h53⟩ := h51
            refine ⟨?_, ?_⟩
            · intro g54
              have h55 := h52 g54
              exact hQ _ _ F17 h55
            · intro g56
              have h57 := h53 g56
              unfold qX11_passAct_J96 at h57 ⊢
              refine fmX9_digit h57 ?_
              intro x12_59 M12_60 f58 h58
              have F58 : Ks (fun k j => (k = 156 ∧ (j = 2))) M M12_60 := (F17).tr (f58.mono (fun _ _ h => h))
              intro g61
              have h62 := h58 g61
              obtain ⟨h63, h64⟩ := h62
              refine ⟨?_, ?_⟩
              · intro g65
                have h66 := h63 g65
                exact hQ _ _ F58 h66
              · intro g67
                have h68 := h64 g67
                exact hQ _ _ F58 h68
        · intro g69
          have h70 := h30 g69
          refine fmX9_look h70 ?_
          intro x16_72 M16_73 f71 h71
          have F71 : Ks (fun k j => (k = 156 ∧ (j = 2))) M M16_73 := (F17).tr (f71.mono (fun _ _ h => False.elim h))
          intro g74
          have h75 := h71 g74
          obtain ⟨h76, h77⟩ := h75
          refine ⟨?_, ?_⟩
          · intro g78
            have h79 := h76 g78
            unfold qX11_passAct_J86 at h79 ⊢
            obtain ⟨v80, h80⟩ := h79
            refine ⟨v80, ?_⟩
            obtain ⟨h81, h82⟩ := h80
            refine ⟨?_, ?_⟩
            · intro g83
              have h84 := h81 g83
              unfold qX11_passAct_J96 at h84 ⊢
              refine fmX9_digit h84 ?_
              intro x12_86 M12_87 f85 h85
              have F85 : Ks (fun k j => (k = 156 ∧ (j = 2))) M M12_87 := (F71).tr (f85.mono (fun _ _ h => h))
              intro g88
              have h89 := h85 g88
              obtain ⟨h90, h91⟩ := h89
              refine ⟨?_, ?_⟩
              · intro g92
                have h93 := h90 g92
                exact hQ _ _ F85 h93
              · intro g94
                have h95 := h91 g94
                exact hQ _ _ F85 h95
            · intro g96
              have h97 := h82 g96
              obtain ⟨v98, h98⟩ := h97
              refine ⟨v98, ?_⟩
              obtain ⟨h99, h100⟩ := h98
              refine ⟨?_, ?_⟩
              · intro g101
                have h102 := h99 g101
                exact hQ _ _ F71 h102
              · intro g103
                have h104 := h100 g103
                unfold qX11_passAct_J96 at h104 ⊢
                refine fmX9_digit h104 ?_
                intro x12_106 M12_107 f105 h105
                have F105 : Ks (fun k j => (k = 156 ∧ (j = 2))) M M12_107 := (F71).tr (f105.mono (fun _ _ h => h))
                intro g108
                have h109 := h105 g108
                obtain ⟨h110, h111⟩ := h109
                refine ⟨?_, ?_⟩
                · intro g112
                  have h113 := h110 g112
                  exact hQ _ _ F105 h113
                · intro g114
                  have h115 := h111 g114
                  exact hQ _ _ F105 h115
          · intro g116
            have h117 := h77 g116
            exact hQ _ _ F71 h117
    · intro g118
      have h119 := h12 g118
      obtain ⟨v120, h120⟩ := h119
      refine ⟨v120, ?_⟩
      obtain ⟨h121, h122⟩ := h120
      refine ⟨?_, ?_⟩
      · intro g123
        have h124 := h121 g123
        unfold qX11_passAct_J50 at h124 ⊢
        refine fmX9_pass h124 ?_
        intro M5_126 f125 h125
        have F125 : Ks (fun k j => (k = 156 ∧ (j = 2))) M M5_126 := (F1).tr (f125.mono (fun _ _ h => h))
        refine fmX9_digit h125 ?_
        intro x6_128 M6_129 f127 h127
        have F127 : Ks (fun k j => (k = 156 ∧ (j = 2))) M M6_129 := (F125).tr (f127.mono (fun _ _ h => h))
        intro g130
        have h131 := h127 g130
        obtain ⟨h132, h133⟩ := h131
        refine ⟨?_, ?_⟩
        · intro g134
          have h135 := h132 g134
          exact hQ _ _ F127 h135
        · intro g136
          have h137 := h133 g136
          obtain ⟨v138, h138⟩ := h137
          refine ⟨v138, ?_⟩
          obtain ⟨h139, h140⟩ := h138
          refine ⟨?_, ?_⟩
          · intro g141
            have h142 := h139 g141
            unfold qX11_passAct_J86 at h142 ⊢
            obtain ⟨v143, h143⟩ := h142
            refine ⟨v143, ?_⟩
            obtain ⟨h144, h145⟩ := h143
            refine ⟨?_, ?_⟩
            · intro g146
              have h147 := h144 g146
              unfold qX11_passAct_J96 at h147 ⊢
              refine fmX9_digit h147 ?_
              intro x12_149 M12_150 f148 h148
              have F148 : Ks (fun k j => (k = 156 ∧ (j = 2))) M M12_150 := (F127).tr (f148.mono (fun _ _ h => h))
              intro g151
              have h152 := h148 g151
              obtain ⟨h153, h154⟩ := h152
              refine ⟨?_, ?_⟩
              · intro g155
                have h156 := h153 g155
                exact hQ _ _ F148 h156
              · intro g157
                have h158 := h154 g157
                exact hQ _ _ F148 h158
            · intro g159
              have h160 := h145 g159
              obtain ⟨v161, h161⟩ := h160
              refine ⟨v161, ?_⟩
              obtain ⟨h162, h163⟩ := h161
              refine ⟨?_, ?_⟩
              · intro g164
                have h165 := h162 g164
                exact hQ _ _ F127 h165
              · intro g166
                have h167 := h163 g166
                unfold qX11_passAct_J96 at h167 ⊢
                refine fmX9_digit h167 ?_
                intro x12_169 M12_170 f168 h168
                have F168 : Ks (fun k j => (k = 156 ∧ (j = 2))) M M12_170 := (F127).tr (f168.mono (fun _ _ h => h))
                intro g171
                have h172 := h168 g171
                obtain ⟨h173, h174⟩ := h172
                refine ⟨?_, ?_⟩
                · intro g175
                  have h176 := h173 g175
                  exact hQ _ _ F168 h176
                · intro g177
                  have h178 := h174 g177
                  exact hQ _ _ F168 h178
          · intro g179
            have h180 := h140 g179
            refine fmX9_look h180 ?_
            intro x16_182 M16_183 f181 h181
            have F181 : Ks (fun k j => (k = 156 ∧ (j = 2))) M M16_183 := (F127).tr (f181.mono (fun _ _ h => False.elim h))
            intro g184
            have h185 := h181 g184
            obtain ⟨h186, h187⟩ := h185
            refine ⟨?_, ?_⟩
            · intro g188
              have h189 := h186 g188
              unfold qX11_passAct_J86 at h189 ⊢
              obtain ⟨v190, h190⟩ := h189
              refine ⟨v190, ?_⟩
              obtain ⟨h191, h192⟩ := h190
              refine ⟨?_, ?_⟩
              · intro g193
                have h194 := h191 g193
                unfold qX11_passAct_J96 at h194 ⊢
                refine fmX9_digit h194 ?_
                intro x12_196 M12_197 f195 h195
                have F195 : Ks (fun k j => (k = 156 ∧ (j = 2))) M M12_197 := (F181).tr (f195.mono (fun _ _ h => h))
                intro g198
                have h199 := h195 g198
                obtain ⟨h200, h201⟩ := h199
                refine ⟨?_, ?_⟩
                · intro g202
                  have h203 := h200 g202
                  exact hQ _ _ F195 h203
                · intro g204
                  have h205 := h201 g204
                  exact hQ _ _ F195 h205
              · intro g206
                have h207 := h192 g206
                obtain ⟨v208, h208⟩ := h207
                refine ⟨v208, ?_⟩
                obtain ⟨h209, h210⟩ := h208
                refine ⟨?_, ?_⟩
                · intro g211
                  have h212 := h209 g211
                  exact hQ _ _ F181 h212
                · intro g213
                  have h214 := h210 g213
                  unfold qX11_passAct_J96 at h214 ⊢
                  refine fmX9_digit h214 ?_
                  intro x12_216 M12_217 f215 h215
                  have F215 : Ks (fun k j => (k = 156 ∧ (j = 2))) M M12_217 := (F181).tr (f215.mono (fun _ _ h => h))
                  intro g218
                  have h219 := h215 g218
                  obtain ⟨h220, h221⟩ := h219
                  refine ⟨?_, ?_⟩
                  · intro g222
                    have h223 := h220 g222
                    exact hQ _ _ F215 h223
                  · intro g224
                    have h225 := h221 g224
                    exact hQ _ _ F215 h225
            · intro g226
              have h227 := h187 g226
              exact hQ _ _ F181 h227
      · intro g228
        have h229 := h122 g228
        obtain ⟨h230, h231⟩ := h229
        refine ⟨?_, ?_⟩
        · intro g232
          have h233 := h230 g232
          unfold qX11_passAct_J50 at h233 ⊢
          refine fmX9_pass h233 ?_
          intro M5_235 f234 h234
          have F234 : Ks (fun k j => (k = 156 ∧ (j = 2))) M M5_235 := (F1).tr (f234.mono (fun _ _ h => h))
          refine fmX9_digit h234 ?_
          intro x6_237 M6_238 f236 h236
          have F236 : Ks (fun k j => (k = 156 ∧ (j = 2))) M M6_238 := (F234).tr (f236.mono (fun _ _ h => h))
          intro g239
          have h240 := h236 g239
          obtain ⟨h241, h242⟩ := h240
          refine ⟨?_, ?_⟩
          · intro g243
            have h244 := h241 g243
            exact hQ _ _ F236 h244
          · intro g245
            have h246 := h242 g245
            obtain ⟨v247, h247⟩ := h246
            refine ⟨v247, ?_⟩
            obtain ⟨h248, h249⟩ := h247
            refine ⟨?_, ?_⟩
            · intro g250
              have h251 := h248 g250
              unfold qX11_passAct_J86 at h251 ⊢
              obtain ⟨v252, h252⟩ := h251
              refine ⟨v252, ?_⟩
              obtain ⟨h253, h254⟩ := h252
              refine ⟨?_, ?_⟩
              · intro g255
                have h256 := h253 g255
                unfold qX11_passAct_J96 at h256 ⊢
                refine fmX9_digit h256 ?_
                intro x12_258 M12_259 f257 h257
                have F257 : Ks (fun k j => (k = 156 ∧ (j = 2))) M M12_259 := (F236).tr (f257.mono (fun _ _ h => h))
                intro g260
                have h261 := h257 g260
                obtain ⟨h262, h263⟩ := h261
                refine ⟨?_, ?_⟩
                · intro g264
                  have h265 := h262 g264
                  exact hQ _ _ F257 h265
                · intro g266
                  have h267 := h263 g266
                  exact hQ _ _ F257 h267
              · intro g268
                have h269 := h254 g268
                obtain ⟨v270, h270⟩ := h269
                refine ⟨v270, ?_⟩
                obtain ⟨h271, h272⟩ := h270
                refine ⟨?_, ?_⟩
                · intro g273
                  have h274 := h271 g273
                  exact hQ _ _ F236 h274
                · intro g275
                  have h276 := h272 g275
                  unfold qX11_passAct_J96 at h276 ⊢
                  refine fmX9_digit h276 ?_
                  intro x12_278 M12_279 f277 h277
                  have F277 : Ks (fun k j => (k = 156 ∧ (j = 2))) M M12_279 := (F236).tr (f277.mono (fun _ _ h => h))
                  intro g280
                  have h281 := h277 g280
                  obtain ⟨h282, h283⟩ := h281
                  refine ⟨?_, ?_⟩
                  · intro g284
                    have h285 := h282 g284
                    exact hQ _ _ F277 h285
                  · intro g286
                    have h287 := h283 g286
                    exact hQ _ _ F277 h287
            · intro g288
              have h289 := h249 g288
              refine fmX9_look h289 ?_
              intro x16_291 M16_292 f290 h290
              have F290 : Ks (fun k j => (k = 156 ∧ (j = 2))) M M16_292 := (F236).tr (f290.mono (fun _ _ h => False.elim h))
              intro g293
              have h294 := h290 g293
              obtain ⟨h295, h296⟩ := h294
              refine ⟨?_, ?_⟩
              · intro g297
                have h298 := h295 g297
                unfold qX11_passAct_J86 at h298 ⊢
                obtain ⟨v299, h299⟩ := h298
                refine ⟨v299, ?_⟩
                obtain ⟨h300, h301⟩ := h299
                refine ⟨?_, ?_⟩
                · intro g302
                  have h303 := h300 g302
                  unfold qX11_passAct_J96 at h303 ⊢
                  refine fmX9_digit h303 ?_
                  intro x12_305 M12_306 f304 h304
                  have F304 : Ks (fun k j => (k = 156 ∧ (j = 2))) M M12_306 := (F290).tr (f304.mono (fun _ _ h => h))
                  intro g307
                  have h308 := h304 g307
                  obtain ⟨h309, h310⟩ := h308
                  refine ⟨?_, ?_⟩
                  · intro g311
                    have h312 := h309 g311
                    exact hQ _ _ F304 h312
                  · intro g313
                    have h314 := h310 g313
                    exact hQ _ _ F304 h314
                · intro g315
                  have h316 := h301 g315
                  obtain ⟨v317, h317⟩ := h316
                  refine ⟨v317, ?_⟩
                  obtain ⟨h318, h319⟩ := h317
                  refine ⟨?_, ?_⟩
                  · intro g320
                    have h321 := h318 g320
                    exact hQ _ _ F290 h321
                  · intro g322
                    have h323 := h319 g322
                    unfold qX11_passAct_J96 at h323 ⊢
                    refine fmX9_digit h323 ?_
                    intro x12_325 M12_326 f324 h324
                    have F324 : Ks (fun k j => (k = 156 ∧ (j = 2))) M M12_326 := (F290).tr (f324.mono (fun _ _ h => h))
                    intro g327
                    have h328 := h324 g327
                    obtain ⟨h329, h330⟩ := h328
                    refine ⟨?_, ?_⟩
                    · intro g331
                      have h332 := h329 g331
                      exact hQ _ _ F324 h332
                    · intro g333
                      have h334 := h330 g333
                      exact hQ _ _ F324 h334
              · intro g335
                have h336 := h296 g335
                exact hQ _ _ F290 h336
        · intro g337
          have h338 := h231 g337
          obtain ⟨h339, h340⟩ := h338
          refine ⟨?_, ?_⟩
          · intro g341
            have h342 := h339 g341
            unfold qX11_passAct_J50 at h342 ⊢
            refine fmX9_pass h342 ?_
            intro M5_344 f343 h343
            have F343 : Ks (fun k j => (k = 156 ∧ (j = 2))) M M5_344 := (F1).tr (f343.mono (fun _ _ h => h))
            refine fmX9_digit h343 ?_
            intro x6_346 M6_347 f345 h345
            have F345 : Ks (fun k j => (k = 156 ∧ (j = 2))) M M6_347 := (F343).tr (f345.mono (fun _ _ h => h))
            intro g348
            have h349 := h345 g348
            obtain ⟨h350, h351⟩ := h349
            refine ⟨?_, ?_⟩
            · intro g352
              have h353 := h350 g352
              exact hQ _ _ F345 h353
            · intro g354
              have h355 := h351 g354
              obtain ⟨v356, h356⟩ := h355
              refine ⟨v356, ?_⟩
              obtain ⟨h357, h358⟩ := h356
              refine ⟨?_, ?_⟩
              · intro g359
                have h360 := h357 g359
                unfold qX11_passAct_J86 at h360 ⊢
                obtain ⟨v361, h361⟩ := h360
                refine ⟨v361, ?_⟩
                obtain ⟨h362, h363⟩ := h361
                refine ⟨?_, ?_⟩
                · intro g364
                  have h365 := h362 g364
                  unfold qX11_passAct_J96 at h365 ⊢
                  refine fmX9_digit h365 ?_
                  intro x12_367 M12_368 f366 h366
                  have F366 : Ks (fun k j => (k = 156 ∧ (j = 2))) M M12_368 := (F345).tr (f366.mono (fun _ _ h => h))
                  intro g369
                  have h370 := h366 g369
                  obtain ⟨h371, h372⟩ := h370
                  refine ⟨?_, ?_⟩
                  · intro g373
                    have h374 := h371 g373
                    exact hQ _ _ F366 h374
                  · intro g375
                    have h376 := h372 g375
                    exact hQ _ _ F366 h376
                · intro g377
                  have h378 := h363 g377
                  obtain ⟨v379, h379⟩ := h378
                  refine ⟨v379, ?_⟩
                  obtain ⟨h380, h381⟩ := h379
                  refine ⟨?_, ?_⟩
                  · intro g382
                    have h383 := h380 g382
                    exact hQ _ _ F345 h383
                  · intro g384
                    have h385 := h381 g384
                    unfold qX11_passAct_J96 at h385 ⊢
                    refine fmX9_digit h385 ?_
                    intro x12_387 M12_388 f386 h386
                    have F386 : Ks (fun k j => (k = 156 ∧ (j = 2))) M M12_388 := (F345).tr (f386.mono (fun _ _ h => h))
                    intro g389
                    have h390 := h386 g389
                    obtain ⟨h391, h392⟩ := h390
                    refine ⟨?_, ?_⟩
                    · intro g393
                      have h394 := h391 g393
                      exact hQ _ _ F386 h394
                    · intro g395
                      have h396 := h392 g395
                      exact hQ _ _ F386 h396
              · intro g397
                have h398 := h358 g397
                refine fmX9_look h398 ?_
                intro x16_400 M16_401 f399 h399
                have F399 : Ks (fun k j => (k = 156 ∧ (j = 2))) M M16_401 := (F345).tr (f399.mono (fun _ _ h => False.elim h))
                intro g402
                have h403 := h399 g402
                obtain ⟨h404, h405⟩ := h403
                refine ⟨?_, ?_⟩
                · intro g406
                  have h407 := h404 g406
                  unfold qX11_passAct_J86 at h407 ⊢
                  obtain ⟨v408, h408⟩ := h407
                  refine ⟨v408, ?_⟩
                  obtain ⟨h409, h410⟩ := h408
                  refine ⟨?_, ?_⟩
                  · intro g411
                    have h412 := h409 g411
                    unfold qX11_passAct_J96 at h412 ⊢
                    refine fmX9_digit h412 ?_
                    intro x12_414 M12_415 f413 h413
                    have F413 : Ks (fun k j => (k = 156 ∧ (j = 2))) M M12_415 := (F399).tr (f413.mono (fun _ _ h => h))
                    intro g416
                    have h417 := h413 g416
                    obtain ⟨h418, h419⟩ := h417
                    refine ⟨?_, ?_⟩
                    · intro g420
                      have h421 := h418 g420
                      exact hQ _ _ F413 h421
                    · intro g422
                      have h423 := h419 g422
                      exact hQ _ _ F413 h423
                  · intro g424
                    have h425 := h410 g424
                    obtain ⟨v426, h426⟩ := h425
                    refine ⟨v426, ?_⟩
                    obtain ⟨h427, h428⟩ := h426
                    refine ⟨?_, ?_⟩
                    · intro g429
                      have h430 := h427 g429
                      exact hQ _ _ F399 h430
                    · intro g431
                      have h432 := h428 g431
                      unfold qX11_passAct_J96 at h432 ⊢
                      refine fmX9_digit h432 ?_
                      intro x12_434 M12_435 f433 h433
                      have F433 : Ks (fun k j => (k = 156 ∧ (j = 2))) M M12_435 := (F399).tr (f433.mono (fun _ _ h => h))
                      intro g436
                      have h437 := h433 g436
                      obtain ⟨h438, h439⟩ := h437
                      refine ⟨?_, ?_⟩
                      · intro g440
                        have h441 := h438 g440
                        exact hQ _ _ F433 h441
                      · intro g442
                        have h443 := h439 g442
                        exact hQ _ _ F433 h443
                · intro g444
                  have h445 := h405 g444
                  exact hQ _ _ F399 h445
          · intro g446
            have h447 := h340 g446
            exact hQ _ _ F1 h447
  · intro g448
    have h449 := h7 g448
    obtain ⟨h450, h451⟩ := h449
    refine ⟨?_, ?_⟩
    · intro g452
      have h453 := h450 g452
      unfold qX11_passAct_J25 at h453 ⊢
      obtain ⟨v454, h454⟩ := h453
      refine ⟨v454, ?_⟩
      obtain ⟨h455, h456⟩ := h454
      refine ⟨?_, ?_⟩
      · intro g457
        have h458 := h455 g457
        unfold qX11_passAct_J50 at h458 ⊢
        refine fmX9_pass h458 ?_
        intro M5_460 f459 h459
        have F459 : Ks (fun k j => (k = 156 ∧ (j = 2))) M M5_460 := (F1).tr (f459.mono (fun _ _ h => h))
        refine fmX9_digit h459 ?_
        intro x6_462 M6_463 f461 h461
        have F461 : Ks (fun k j => (k = 156 ∧ (j = 2))) M M6_463 := (F459).tr (f461.mono (fun _ _ h => h))
        intro g464
        have h465 := h461 g464
        obtain ⟨h466, h467⟩ := h465
        refine ⟨?_, ?_⟩
        · intro g468
          have h469 := h466 g468
          exact hQ _ _ F461 h469
        · intro g470
          have h471 := h467 g470
          obtain ⟨v472, h472⟩ := h471
          refine ⟨v472, ?_⟩
          obtain ⟨h473, h474⟩ := h472
          refine ⟨?_, ?_⟩
          · intro g475
            have h476 := h473 g475
            unfold qX11_passAct_J86 at h476 ⊢
            obtain ⟨v477, h477⟩ := h476
            refine ⟨v477, ?_⟩
            obtain ⟨h478, h479⟩ := h477
            refine ⟨?_, ?_⟩
            · intro g480
              have h481 := h478 g480
              unfold qX11_passAct_J96 at h481 ⊢
              refine fmX9_digit h481 ?_
              intro x12_483 M12_484 f482 h482
              have F482 : Ks (fun k j => (k = 156 ∧ (j = 2))) M M12_484 := (F461).tr (f482.mono (fun _ _ h => h))
              intro g485
              have h486 := h482 g485
              obtain ⟨h487, h488⟩ := h486
              refine ⟨?_, ?_⟩
              · intro g489
                have h490 := h487 g489
                exact hQ _ _ F482 h490
              · intro g491
                have h492 := h488 g491
                exact hQ _ _ F482 h492
            · intro g493
              have h494 := h479 g493
              obtain ⟨v495, h495⟩ := h494
              refine ⟨v495, ?_⟩
              obtain ⟨h496, h497⟩ := h495
              refine ⟨?_, ?_⟩
              · intro g498
                have h499 := h496 g498
                exact hQ _ _ F461 h499
              · intro g500
                have h501 := h497 g500
                unfold qX11_passAct_J96 at h501 ⊢
                refine fmX9_digit h501 ?_
                intro x12_503 M12_504 f502 h502
                have F502 : Ks (fun k j => (k = 156 ∧ (j = 2))) M M12_504 := (F461).tr (f502.mono (fun _ _ h => h))
                intro g505
                have h506 := h502 g505
                obtain ⟨h507, h508⟩ := h506
                refine ⟨?_, ?_⟩
                · intro g509
                  have h510 := h507 g509
                  exact hQ _ _ F502 h510
                · intro g511
                  have h512 := h508 g511
                  exact hQ _ _ F502 h512
          · intro g513
            have h514 := h474 g513
            refine fmX9_look h514 ?_
            intro x16_516 M16_517 f515 h515
            have F515 : Ks (fun k j => (k = 156 ∧ (j = 2))) M M16_517 := (F461).tr (f515.mono (fun _ _ h => False.elim h))
            intro g518
            have h519 := h515 g518
            obtain ⟨h520, h521⟩ := h519
            refine ⟨?_, ?_⟩
            · intro g522
              have h523 := h520 g522
              unfold qX11_passAct_J86 at h523 ⊢
              obtain ⟨v524, h524⟩ := h523
              refine ⟨v524, ?_⟩
              obtain ⟨h525, h526⟩ := h524
              refine ⟨?_, ?_⟩
              · intro g527
                have h528 := h525 g527
                unfold qX11_passAct_J96 at h528 ⊢
                refine fmX9_digit h528 ?_
                intro x12_530 M12_531 f529 h529
                have F529 : Ks (fun k j => (k = 156 ∧ (j = 2))) M M12_531 := (F515).tr (f529.mono (fun _ _ h => h))
                intro g532
                have h533 := h529 g532
                obtain ⟨h534, h535⟩ := h533
                refine ⟨?_, ?_⟩
                · intro g536
                  have h537 := h534 g536
                  exact hQ _ _ F529 h537
                · intro g538
                  have h539 := h535 g538
                  exact hQ _ _ F529 h539
              · intro g540
                have h541 := h526 g540
                obtain ⟨v542, h542⟩ := h541
                refine ⟨v542, ?_⟩
                obtain ⟨h543, h544⟩ := h542
                refine ⟨?_, ?_⟩
                · intro g545
                  have h546 := h543 g545
                  exact hQ _ _ F515 h546
                · intro g547
                  have h548 := h544 g547
                  unfold qX11_passAct_J96 at h548 ⊢
                  refine fmX9_digit h548 ?_
                  intro x12_550 M12_551 f549 h549
                  have F549 : Ks (fun k j => (k = 156 ∧ (j = 2))) M M12_551 := (F515).tr (f549.mono (fun _ _ h => h))
                  intro g552
                  have h553 := h549 g552
                  obtain ⟨h554, h555⟩ := h553
                  refine ⟨?_, ?_⟩
                  · intro g556
                    have h557 := h554 g556
                    exact hQ _ _ F549 h557
                  · intro g558
                    have h559 := h555 g558
                    exact hQ _ _ F549 h559
            · intro g560
              have h561 := h521 g560
              exact hQ _ _ F515 h561
      · intro g562
        have h563 := h456 g562
        obtain ⟨v564, h564⟩ := h563
        refine ⟨v564, ?_⟩
        obtain ⟨h565, h566⟩ := h564
        refine ⟨?_, ?_⟩
        · intro g567
          have h568 := h565 g567
          unfold qX11_passAct_J50 at h568 ⊢
          refine fmX9_pass h568 ?_
          intro M5_570 f569 h569
          have F569 : Ks (fun k j => (k = 156 ∧ (j = 2))) M M5_570 := (F1).tr (f569.mono (fun _ _ h => h))
          refine fmX9_digit h569 ?_
          intro x6_572 M6_573 f571 h571
          have F571 : Ks (fun k j => (k = 156 ∧ (j = 2))) M M6_573 := (F569).tr (f571.mono (fun _ _ h => h))
          intro g574
          have h575 := h571 g574
          obtain ⟨h576, h577⟩ := h575
          refine ⟨?_, ?_⟩
          · intro g578
            have h579 := h576 g578
            exact hQ _ _ F571 h579
          · intro g580
            have h581 := h577 g580
            obtain ⟨v582, h582⟩ := h581
            refine ⟨v582, ?_⟩
            obtain ⟨h583, h584⟩ := h582
            refine ⟨?_, ?_⟩
            · intro g585
              have h586 := h583 g585
              unfold qX11_passAct_J86 at h586 ⊢
              obtain ⟨v587, h587⟩ := h586
              refine ⟨v587, ?_⟩
              obtain ⟨h588, h589⟩ := h587
              refine ⟨?_, ?_⟩
              · intro g590
                have h591 := h588 g590
                unfold qX11_passAct_J96 at h591 ⊢
                refine fmX9_digit h591 ?_
                intro x12_593 M12_594 f592 h592
                have F592 : Ks (fun k j => (k = 156 ∧ (j = 2))) M M12_594 := (F571).tr (f592.mono (fun _ _ h => h))
                intro g595
                have h596 := h592 g595
                obtain ⟨h597, h598⟩ := h596
                refine ⟨?_, ?_⟩
                · intro g599
                  have h600 := h597 g599
                  exact hQ _ _ F592 h600
                · intro g601
                  have h602 := h598 g601
                  exact hQ _ _ F592 h602
              · intro g603
                have h604 := h589 g603
                obtain ⟨v605, h605⟩ := h604
                refine ⟨v605, ?_⟩
                obtain ⟨h606, h607⟩ := h605
                refine ⟨?_, ?_⟩
                · intro g608
                  have h609 := h606 g608
                  exact hQ _ _ F571 h609
                · intro g610
                  have h611 := h607 g610
                  unfold qX11_passAct_J96 at h611 ⊢
                  refine fmX9_digit h611 ?_
                  intro x12_613 M12_614 f612 h612
                  have F612 : Ks (fun k j => (k = 156 ∧ (j = 2))) M M12_614 := (F571).tr (f612.mono (fun _ _ h => h))
                  intro g615
                  have h616 := h612 g615
                  obtain ⟨h617, h618⟩ := h616
                  refine ⟨?_, ?_⟩
                  · intro g619
                    have h620 := h617 g619
                    exact hQ _ _ F612 h620
                  · intro g621
                    have h622 := h618 g621
                    exact hQ _ _ F612 h622
            · intro g623
              have h624 := h584 g623
              refine fmX9_look h624 ?_
              intro x16_626 M16_627 f625 h625
              have F625 : Ks (fun k j => (k = 156 ∧ (j = 2))) M M16_627 := (F571).tr (f625.mono (fun _ _ h => False.elim h))
              intro g628
              have h629 := h625 g628
              obtain ⟨h630, h631⟩ := h629
              refine ⟨?_, ?_⟩
              · intro g632
                have h633 := h630 g632
                unfold qX11_passAct_J86 at h633 ⊢
                obtain ⟨v634, h634⟩ := h633
                refine ⟨v634, ?_⟩
                obtain ⟨h635, h636⟩ := h634
                refine ⟨?_, ?_⟩
                · intro g637
                  have h638 := h635 g637
                  unfold qX11_passAct_J96 at h638 ⊢
                  refine fmX9_digit h638 ?_
                  intro x12_640 M12_641 f639 h639
                  have F639 : Ks (fun k j => (k = 156 ∧ (j = 2))) M M12_641 := (F625).tr (f639.mono (fun _ _ h => h))
                  intro g642
                  have h643 := h639 g642
                  obtain ⟨h644, h645⟩ := h643
                  refine ⟨?_, ?_⟩
                  · intro g646
                    have h647 := h644 g646
                    exact hQ _ _ F639 h647
                  · intro g648
                    have h649 := h645 g648
                    exact hQ _ _ F639 h649
                · intro g650
                  have h651 := h636 g650
                  obtain ⟨v652, h652⟩ := h651
                  refine ⟨v652, ?_⟩
                  obtain ⟨h653, h654⟩ := h652
                  refine ⟨?_, ?_⟩
                  · intro g655
                    have h656 := h653 g655
                    exact hQ _ _ F625 h656
                  · intro g657
                    have h658 := h654 g657
                    unfold qX11_passAct_J96 at h658 ⊢
                    refine fmX9_digit h658 ?_
                    intro x12_660 M12_661 f659 h659
                    have F659 : Ks (fun k j => (k = 156 ∧ (j = 2))) M M12_661 := (F625).tr (f659.mono (fun _ _ h => h))
                    intro g662
                    have h663 := h659 g662
                    obtain ⟨h664, h665⟩ := h663
                    refine ⟨?_, ?_⟩
                    · intro g666
                      have h667 := h664 g666
                      exact hQ _ _ F659 h667
                    · intro g668
                      have h669 := h665 g668
                      exact hQ _ _ F659 h669
              · intro g670
                have h671 := h631 g670
                exact hQ _ _ F625 h671
        · intro g672
          have h673 := h566 g672
          obtain ⟨h674, h675⟩ := h673
          refine ⟨?_, ?_⟩
          · intro g676
            have h677 := h674 g676
            unfold qX11_passAct_J50 at h677 ⊢
            refine fmX9_pass h677 ?_
            intro M5_679 f678 h678
            have F678 : Ks (fun k j => (k = 156 ∧ (j = 2))) M M5_679 := (F1).tr (f678.mono (fun _ _ h => h))
            refine fmX9_digit h678 ?_
            intro x6_681 M6_682 f680 h680
            have F680 : Ks (fun k j => (k = 156 ∧ (j = 2))) M M6_682 := (F678).tr (f680.mono (fun _ _ h => h))
            intro g683
            have h684 := h680 g683
            obtain ⟨h685, h686⟩ := h684
            refine ⟨?_, ?_⟩
            · intro g687
              have h688 := h685 g687
              exact hQ _ _ F680 h688
            · intro g689
              have h690 := h686 g689
              obtain ⟨v691, h691⟩ := h690
              refine ⟨v691, ?_⟩
              obtain ⟨h692, h693⟩ := h691
              refine ⟨?_, ?_⟩
              · intro g694
                have h695 := h692 g694
                unfold qX11_passAct_J86 at h695 ⊢
                obtain ⟨v696, h696⟩ := h695
                refine ⟨v696, ?_⟩
                obtain ⟨h697, h698⟩ := h696
                refine ⟨?_, ?_⟩
                · intro g699
                  have h700 := h697 g699
                  unfold qX11_passAct_J96 at h700 ⊢
                  refine fmX9_digit h700 ?_
                  intro x12_702 M12_703 f701 h701
                  have F701 : Ks (fun k j => (k = 156 ∧ (j = 2))) M M12_703 := (F680).tr (f701.mono (fun _ _ h => h))
                  intro g704
                  have h705 := h701 g704
                  obtain ⟨h706, h707⟩ := h705
                  refine ⟨?_, ?_⟩
                  · intro g708
                    have h709 := h706 g708
                    exact hQ _ _ F701 h709
                  · intro g710
                    have h711 := h707 g710
                    exact hQ _ _ F701 h711
                · intro g712
                  have h713 := h698 g712
                  obtain ⟨v714, h714⟩ := h713
                  refine ⟨v714, ?_⟩
                  obtain ⟨h715, h716⟩ := h714
                  refine ⟨?_, ?_⟩
                  · intro g717
                    have h718 := h715 g717
                    exact hQ _ _ F680 h718
                  · intro g719
                    have h720 := h716 g719
                    unfold qX11_passAct_J96 at h720 ⊢
                    refine fmX9_digit h720 ?_
                    intro x12_722 M12_723 f721 h721
                    have F721 : Ks (fun k j => (k = 156 ∧ (j = 2))) M M12_723 := (F680).tr (f721.mono (fun _ _ h => h))
                    intro g724
                    have h725 := h721 g724
                    obtain ⟨h726, h727⟩ := h725
                    refine ⟨?_, ?_⟩
                    · intro g728
                      have h729 := h726 g728
                      exact hQ _ _ F721 h729
                    · intro g730
                      have h731 := h727 g730
                      exact hQ _ _ F721 h731
              · intro g732
                have h733 := h693 g732
                refine fmX9_look h733 ?_
                intro x16_735 M16_736 f734 h734
                have F734 : Ks (fun k j => (k = 156 ∧ (j = 2))) M M16_736 := (F680).tr (f734.mono (fun _ _ h => False.elim h))
                intro g737
                have h738 := h734 g737
                obtain ⟨h739, h740⟩ := h738
                refine ⟨?_, ?_⟩
                · intro g741
                  have h742 := h739 g741
                  unfold qX11_passAct_J86 at h742 ⊢
                  obtain ⟨v743, h743⟩ := h742
                  refine ⟨v743, ?_⟩
                  obtain ⟨h744, h745⟩ := h743
                  refine ⟨?_, ?_⟩
                  · intro g746
                    have h747 := h744 g746
                    unfold qX11_passAct_J96 at h747 ⊢
                    refine fmX9_digit h747 ?_
                    intro x12_749 M12_750 f748 h748
                    have F748 : Ks (fun k j => (k = 156 ∧ (j = 2))) M M12_750 := (F734).tr (f748.mono (fun _ _ h => h))
                    intro g751
                    have h752 := h748 g751
                    obtain ⟨h753, h754⟩ := h752
                    refine ⟨?_, ?_⟩
                    · intro g755
                      have h756 := h753 g755
                      exact hQ _ _ F748 h756
                    · intro g757
                      have h758 := h754 g757
                      exact hQ _ _ F748 h758
                  · intro g759
                    have h760 := h745 g759
                    obtain ⟨v761, h761⟩ := h760
                    refine ⟨v761, ?_⟩
                    obtain ⟨h762, h763⟩ := h761
                    refine ⟨?_, ?_⟩
                    · intro g764
                      have h765 := h762 g764
                      exact hQ _ _ F734 h765
                    · intro g766
                      have h767 := h763 g766
                      unfold qX11_passAct_J96 at h767 ⊢
                      refine fmX9_digit h767 ?_
                      intro x12_769 M12_770 f768 h768
                      have F768 : Ks (fun k j => (k = 156 ∧ (j = 2))) M M12_770 := (F734).tr (f768.mono (fun _ _ h => h))
                      intro g771
                      have h772 := h768 g771
                      obtain ⟨h773, h774⟩ := h772
                      refine ⟨?_, ?_⟩
                      · intro g775
                        have h776 := h773 g775
                        exact hQ _ _ F768 h776
                      · intro g777
                        have h778 := h774 g777
                        exact hQ _ _ F768 h778
                · intro g779
                  have h780 := h740 g779
                  exact hQ _ _ F734 h780
          · intro g781
            have h782 := h675 g781
            obtain ⟨h783, h784⟩ := h782
            refine ⟨?_, ?_⟩
            · intro g785
              have h786 := h783 g785
              unfold qX11_passAct_J50 at h786 ⊢
              refine fmX9_pass h786 ?_
              intro M5_788 f787 h787
              have F787 : Ks (fun k j => (k = 156 ∧ (j = 2))) M M5_788 := (F1).tr (f787.mono (fun _ _ h => h))
              refine fmX9_digit h787 ?_
              intro x6_790 M6_791 f789 h789
              have F789 : Ks (fun k j => (k = 156 ∧ (j = 2))) M M6_791 := (F787).tr (f789.mono (fun _ _ h => h))
              intro g792
              have h793 := h789 g792
              obtain ⟨h794, h795⟩ := h793
              refine ⟨?_, ?_⟩
              · intro g796
                have h797 := h794 g796
                exact hQ _ _ F789 h797
              · intro g798
                have h799 := h795 g798
                obtain ⟨v800, h800⟩ := h799
                refine ⟨v800, ?_⟩
                obtain ⟨h801, h802⟩ := h800
                refine ⟨?_, ?_⟩
                · intro g803
                  have h804 := h801 g803
                  unfold qX11_passAct_J86 at h804 ⊢
                  obtain ⟨v805, h805⟩ := h804
                  refine ⟨v805, ?_⟩
                  obtain ⟨h806, h807⟩ := h805
                  refine ⟨?_, ?_⟩
                  · intro g808
                    have h809 := h806 g808
                    unfold qX11_passAct_J96 at h809 ⊢
                    refine fmX9_digit h809 ?_
                    intro x12_811 M12_812 f810 h810
                    have F810 : Ks (fun k j => (k = 156 ∧ (j = 2))) M M12_812 := (F789).tr (f810.mono (fun _ _ h => h))
                    intro g813
                    have h814 := h810 g813
                    obtain ⟨h815, h816⟩ := h814
                    refine ⟨?_, ?_⟩
                    · intro g817
                      have h818 := h815 g817
                      exact hQ _ _ F810 h818
                    · intro g819
                      have h820 := h816 g819
                      exact hQ _ _ F810 h820
                  · intro g821
                    have h822 := h807 g821
                    obtain ⟨v823, h823⟩ := h822
                    refine ⟨v823, ?_⟩
                    obtain ⟨h824, h825⟩ := h823
                    refine ⟨?_, ?_⟩
                    · intro g826
                      have h827 := h824 g826
                      exact hQ _ _ F789 h827
                    · intro g828
                      have h829 := h825 g828
                      unfold qX11_passAct_J96 at h829 ⊢
                      refine fmX9_digit h829 ?_
                      intro x12_831 M12_832 f830 h830
                      have F830 : Ks (fun k j => (k = 156 ∧ (j = 2))) M M12_832 := (F789).tr (f830.mono (fun _ _ h => h))
                      intro g833
                      have h834 := h830 g833
                      obtain ⟨h835, h836⟩ := h834
                      refine ⟨?_, ?_⟩
                      · intro g837
                        have h838 := h835 g837
                        exact hQ _ _ F830 h838
                      · intro g839
                        have h840 := h836 g839
                        exact hQ _ _ F830 h840
                · intro g841
                  have h842 := h802 g841
                  refine fmX9_look h842 ?_
                  intro x16_844 M16_845 f843 h843
                  have F843 : Ks (fun k j => (k = 156 ∧ (j = 2))) M M16_845 := (F789).tr (f843.mono (fun _ _ h => False.elim h))
                  intro g846
                  have h847 := h843 g846
                  obtain ⟨h848, h849⟩ := h847
                  refine ⟨?_, ?_⟩
                  · intro g850
                    have h851 := h848 g850
                    unfold qX11_passAct_J86 at h851 ⊢
                    obtain ⟨v852, h852⟩ := h851
                    refine ⟨v852, ?_⟩
                    obtain ⟨h853, h854⟩ := h852
                    refine ⟨?_, ?_⟩
                    · intro g855
                      have h856 := h853 g855
                      unfold qX11_passAct_J96 at h856 ⊢
                      refine fmX9_digit h856 ?_
                      intro x12_858 M12_859 f857 h857
                      have F857 : Ks (fun k j => (k = 156 ∧ (j = 2))) M M12_859 := (F843).tr (f857.mono (fun _ _ h => h))
                      intro g860
                      have h861 := h857 g860
                      obtain ⟨h862, h863⟩ := h861
                      refine ⟨?_, ?_⟩
                      · intro g864
                        have h865 := h862 g864
                        exact hQ _ _ F857 h865
                      · intro g866
                        have h867 := h863 g866
                        exact hQ _ _ F857 h867
                    · intro g868
                      have h869 := h854 g868
                      obtain ⟨v870, h870⟩ := h869
                      refine ⟨v870, ?_⟩
                      obtain ⟨h871, h872⟩ := h870
                      refine ⟨?_, ?_⟩
                      · intro g873
                        have h874 := h871 g873
                        exact hQ _ _ F843 h874
                      · intro g875
                        have h876 := h872 g875
                        unfold qX11_passAct_J96 at h876 ⊢
                        refine fmX9_digit h876 ?_
                        intro x12_878 M12_879 f877 h877
                        have F877 : Ks (fun k j => (k = 156 ∧ (j = 2))) M M12_879 := (F843).tr (f877.mono (fun _ _ h => h))
                        intro g880
                        have h881 := h877 g880
                        obtain ⟨h882, h883⟩ := h881
                        refine ⟨?_, ?_⟩
                        · intro g884
                          have h885 := h882 g884
                          exact hQ _ _ F877 h885
                        · intro g886
                          have h887 := h883 g886
                          exact hQ _ _ F877 h887
                  · intro g888
                    have h889 := h849 g888
                    exact hQ _ _ F843 h889
            · intro g890
              have h891 := h784 g890
              exact hQ _ _ F1 h891
    · intro g892
      have h893 := h451 g892
      unfold qX11_passAct_J20 at h893 ⊢
      unfold qX11_passAct_J25 at h893 ⊢
      obtain ⟨v894, h894⟩ := h893
      refine ⟨v894, ?_⟩
      obtain ⟨h895, h896⟩ := h894
      refine ⟨?_, ?_⟩
      · intro g897
        have h898 := h895 g897
        unfold qX11_passAct_J50 at h898 ⊢
        refine fmX9_pass h898 ?_
        intro M5_900 f899 h899
        have F899 : Ks (fun k j => (k = 156 ∧ (j = 2))) M M5_900 := (F1).tr (f899.mono (fun _ _ h => h))
        refine fmX9_digit h899 ?_
        intro x6_902 M6_903 f901 h901
        have F901 : Ks (fun k j => (k = 156 ∧ (j = 2))) M M6_903 := (F899).tr (f901.mono (fun _ _ h => h))
        intro g904
        have h905 := h901 g904
        obtain ⟨h906, h907⟩ := h905
        refine ⟨?_, ?_⟩
        · intro g908
          have h909 := h906 g908
          exact hQ _ _ F901 h909
        · intro g910
          have h911 := h907 g910
          obtain ⟨v912, h912⟩ := h911
          refine ⟨v912, ?_⟩
          obtain ⟨h913, h914⟩ := h912
          refine ⟨?_, ?_⟩
          · intro g915
            have h916 := h913 g915
            unfold qX11_passAct_J86 at h916 ⊢
            obtain ⟨v917, h917⟩ := h916
            refine ⟨v917, ?_⟩
            obtain ⟨h918, h919⟩ := h917
            refine ⟨?_, ?_⟩
            · intro g920
              have h921 := h918 g920
              unfold qX11_passAct_J96 at h921 ⊢
              refine fmX9_digit h921 ?_
              intro x12_923 M12_924 f922 h922
              have F922 : Ks (fun k j => (k = 156 ∧ (j = 2))) M M12_924 := (F901).tr (f922.mono (fun _ _ h => h))
              intro g925
              have h926 := h922 g925
              obtain ⟨h927, h928⟩ := h926
              refine ⟨?_, ?_⟩
              · intro g929
                have h930 := h927 g929
                exact hQ _ _ F922 h930
              · intro g931
                have h932 := h928 g931
                exact hQ _ _ F922 h932
            · intro g933
              have h934 := h919 g933
              obtain ⟨v935, h935⟩ := h934
              refine ⟨v935, ?_⟩
              obtain ⟨h936, h937⟩ := h935
              refine ⟨?_, ?_⟩
              · intro g938
                have h939 := h936 g938
                exact hQ _ _ F901 h939
              · intro g940
                have h941 := h937 g940
                unfold qX11_passAct_J96 at h941 ⊢
                refine fmX9_digit h941 ?_
                intro x12_943 M12_944 f942 h942
                have F942 : Ks (fun k j => (k = 156 ∧ (j = 2))) M M12_944 := (F901).tr (f942.mono (fun _ _ h => h))
                intro g945
                have h946 := h942 g945
                obtain ⟨h947, h948⟩ := h946
                refine ⟨?_, ?_⟩
                · intro g949
                  have h950 := h947 g949
                  exact hQ _ _ F942 h950
                · intro g951
                  have h952 := h948 g951
                  exact hQ _ _ F942 h952
          · intro g953
            have h954 := h914 g953
            refine fmX9_look h954 ?_
            intro x16_956 M16_957 f955 h955
            have F955 : Ks (fun k j => (k = 156 ∧ (j = 2))) M M16_957 := (F901).tr (f955.mono (fun _ _ h => False.elim h))
            intro g958
            have h959 := h955 g958
            obtain ⟨h960, h961⟩ := h959
            refine ⟨?_, ?_⟩
            · intro g962
              have h963 := h960 g962
              unfold qX11_passAct_J86 at h963 ⊢
              obtain ⟨v964, h964⟩ := h963
              refine ⟨v964, ?_⟩
              obtain ⟨h965, h966⟩ := h964
              refine ⟨?_, ?_⟩
              · intro g967
                have h968 := h965 g967
                unfold qX11_passAct_J96 at h968 ⊢
                refine fmX9_digit h968 ?_
                intro x12_970 M12_971 f969 h969
                have F969 : Ks (fun k j => (k = 156 ∧ (j = 2))) M M12_971 := (F955).tr (f969.mono (fun _ _ h => h))
                intro g972
                have h973 := h969 g972
                obtain ⟨h974, h975⟩ := h973
                refine ⟨?_, ?_⟩
                · intro g976
                  have h977 := h974 g976
                  exact hQ _ _ F969 h977
                · intro g978
                  have h979 := h975 g978
                  exact hQ _ _ F969 h979
              · intro g980
                have h981 := h966 g980
                obtain ⟨v982, h982⟩ := h981
                refine ⟨v982, ?_⟩
                obtain ⟨h983, h984⟩ := h982
                refine ⟨?_, ?_⟩
                · intro g985
                  have h986 := h983 g985
                  exact hQ _ _ F955 h986
                · intro g987
                  have h988 := h984 g987
                  unfold qX11_passAct_J96 at h988 ⊢
                  refine fmX9_digit h988 ?_
                  intro x12_990 M12_991 f989 h989
                  have F989 : Ks (fun k j => (k = 156 ∧ (j = 2))) M M12_991 := (F955).tr (f989.mono (fun _ _ h => h))
                  intro g992
                  have h993 := h989 g992
                  obtain ⟨h994, h995⟩ := h993
                  refine ⟨?_, ?_⟩
                  · intro g996
                    have h997 := h994 g996
                    exact hQ _ _ F989 h997
                  · intro g998
                    have h999 := h995 g998
                    exact hQ _ _ F989 h999
            · intro g1000
              have h1001 := h961 g1000
              exact hQ _ _ F955 h1001
      · intro g1002
        have h1003 := h896 g1002
        obtain ⟨v1004, h1004⟩ := h1003
        refine ⟨v1004, ?_⟩
        obtain ⟨h1005, h1006⟩ := h1004
        refine ⟨?_, ?_⟩
        · intro g1007
          have h1008 := h1005 g1007
          unfold qX11_passAct_J50 at h1008 ⊢
          refine fmX9_pass h1008 ?_
          intro M5_1010 f1009 h1009
          have F1009 : Ks (fun k j => (k = 156 ∧ (j = 2))) M M5_1010 := (F1).tr (f1009.mono (fun _ _ h => h))
          refine fmX9_digit h1009 ?_
          intro x6_1012 M6_1013 f1011 h1011
          have F1011 : Ks (fun k j => (k = 156 ∧ (j = 2))) M M6_1013 := (F1009).tr (f1011.mono (fun _ _ h => h))
          intro g1014
          have h1015 := h1011 g1014
          obtain ⟨h1016, h1017⟩ := h1015
          refine ⟨?_, ?_⟩
          · intro g1018
            have h1019 := h1016 g1018
            exact hQ _ _ F1011 h1019
          · intro g1020
            have h1021 := h1017 g1020
            obtain ⟨v1022, h1022⟩ := h1021
            refine ⟨v1022, ?_⟩
            obtain ⟨h1023, h1024⟩ := h1022
            refine ⟨?_, ?_⟩
            · intro g1025
              have h1026 := h1023 g1025
              unfold qX11_passAct_J86 at h1026 ⊢
              obtain ⟨v1027, h1027⟩ := h1026
              refine ⟨v1027, ?_⟩
              obtain ⟨h1028, h1029⟩ := h1027
              refine ⟨?_, ?_⟩
              · intro g1030
                have h1031 := h1028 g1030
                unfold qX11_passAct_J96 at h1031 ⊢
                refine fmX9_digit h1031 ?_
                intro x12_1033 M12_1034 f1032 h1032
                have F1032 : Ks (fun k j => (k = 156 ∧ (j = 2))) M M12_1034 := (F1011).tr (f1032.mono (fun _ _ h => h))
                intro g1035
                have h1036 := h1032 g1035
                obtain ⟨h1037, h1038⟩ := h1036
                refine ⟨?_, ?_⟩
                · intro g1039
                  have h1040 := h1037 g1039
                  exact hQ _ _ F1032 h1040
                · intro g1041
                  have h1042 := h1038 g1041
                  exact hQ _ _ F1032 h1042
              · intro g1043
                have h1044 := h1029 g1043
                obtain ⟨v1045, h1045⟩ := h1044
                refine ⟨v1045, ?_⟩
                obtain ⟨h1046, h1047⟩ := h1045
                refine ⟨?_, ?_⟩
                · intro g1048
                  have h1049 := h1046 g1048
                  exact hQ _ _ F1011 h1049
                · intro g1050
                  have h1051 := h1047 g1050
                  unfold qX11_passAct_J96 at h1051 ⊢
                  refine fmX9_digit h1051 ?_
                  intro x12_1053 M12_1054 f1052 h1052
                  have F1052 : Ks (fun k j => (k = 156 ∧ (j = 2))) M M12_1054 := (F1011).tr (f1052.mono (fun _ _ h => h))
                  intro g1055
                  have h1056 := h1052 g1055
                  obtain ⟨h1057, h1058⟩ := h1056
                  refine ⟨?_, ?_⟩
                  · intro g1059
                    have h1060 := h1057 g1059
                    exact hQ _ _ F1052 h1060
                  · intro g1061
                    have h1062 := h1058 g1061
                    exact hQ _ _ F1052 h1062
            · intro g1063
              have h1064 := h1024 g1063
              refine fmX9_look h1064 ?_
              intro x16_1066 M16_1067 f1065 h1065
              have F1065 : Ks (fun k j => (k = 156 ∧ (j = 2))) M M16_1067 := (F1011).tr (f1065.mono (fun _ _ h => False.elim h))
              intro g1068
              have h1069 := h1065 g1068
              obtain ⟨h1070, h1071⟩ := h1069
              refine ⟨?_, ?_⟩
              · intro g1072
                have h1073 := h1070 g1072
                unfold qX11_passAct_J86 at h1073 ⊢
                obtain ⟨v1074, h1074⟩ := h1073
                refine ⟨v1074, ?_⟩
                obtain ⟨h1075, h1076⟩ := h1074
                refine ⟨?_, ?_⟩
                · intro g1077
                  have h1078 := h1075 g1077
                  unfold qX11_passAct_J96 at h1078 ⊢
                  refine fmX9_digit h1078 ?_
                  intro x12_1080 M12_1081 f1079 h1079
                  have F1079 : Ks (fun k j => (k = 156 ∧ (j = 2))) M M12_1081 := (F1065).tr (f1079.mono (fun _ _ h => h))
                  intro g1082
                  have h1083 := h1079 g1082
                  obtain ⟨h1084, h1085⟩ := h1083
                  refine ⟨?_, ?_⟩
                  · intro g1086
                    have h1087 := h1084 g1086
                    exact hQ _ _ F1079 h1087
                  · intro g1088
                    have h1089 := h1085 g1088
                    exact hQ _ _ F1079 h1089
                · intro g1090
                  have h1091 := h1076 g1090
                  obtain ⟨v1092, h1092⟩ := h1091
                  refine ⟨v1092, ?_⟩
                  obtain ⟨h1093, h1094⟩ := h1092
                  refine ⟨?_, ?_⟩
                  · intro g1095
                    have h1096 := h1093 g1095
                    exact hQ _ _ F1065 h1096
                  · intro g1097
                    have h1098 := h1094 g1097
                    unfold qX11_passAct_J96 at h1098 ⊢
                    refine fmX9_digit h1098 ?_
                    intro x12_1100 M12_1101 f1099 h1099
                    have F1099 : Ks (fun k j => (k = 156 ∧ (j = 2))) M M12_1101 := (F1065).tr (f1099.mono (fun _ _ h => h))
                    intro g1102
                    have h1103 := h1099 g1102
                    obtain ⟨h1104, h1105⟩ := h1103
                    refine ⟨?_, ?_⟩
                    · intro g1106
                      have h1107 := h1104 g1106
                      exact hQ _ _ F1099 h1107
                    · intro g1108
                      have h1109 := h1105 g1108
                      exact hQ _ _ F1099 h1109
              · intro g1110
                have h1111 := h1071 g1110
                exact hQ _ _ F1065 h1111
        · intro g1112
          have h1113 := h1006 g1112
          obtain ⟨h1114, h1115⟩ := h1113
          refine ⟨?_, ?_⟩
          · intro g1116
            have h1117 := h1114 g1116
            unfold qX11_passAct_J50 at h1117 ⊢
            refine fmX9_pass h1117 ?_
            intro M5_1119 f1118 h1118
            have F1118 : Ks (fun k j => (k = 156 ∧ (j = 2))) M M5_1119 := (F1).tr (f1118.mono (fun _ _ h => h))
            refine fmX9_digit h1118 ?_
            intro x6_1121 M6_1122 f1120 h1120
            have F1120 : Ks (fun k j => (k = 156 ∧ (j = 2))) M M6_1122 := (F1118).tr (f1120.mono (fun _ _ h => h))
            intro g1123
            have h1124 := h1120 g1123
            obtain ⟨h1125, h1126⟩ := h1124
            refine ⟨?_, ?_⟩
            · intro g1127
              have h1128 := h1125 g1127
              exact hQ _ _ F1120 h1128
            · intro g1129
              have h1130 := h1126 g1129
              obtain ⟨v1131, h1131⟩ := h1130
              refine ⟨v1131, ?_⟩
              obtain ⟨h1132, h1133⟩ := h1131
              refine ⟨?_, ?_⟩
              · intro g1134
                have h1135 := h1132 g1134
                unfold qX11_passAct_J86 at h1135 ⊢
                obtain ⟨v1136, h1136⟩ := h1135
                refine ⟨v1136, ?_⟩
                obtain ⟨h1137, h1138⟩ := h1136
                refine ⟨?_, ?_⟩
                · intro g1139
                  have h1140 := h1137 g1139
                  unfold qX11_passAct_J96 at h1140 ⊢
                  refine fmX9_digit h1140 ?_
                  intro x12_1142 M12_1143 f1141 h1141
                  have F1141 : Ks (fun k j => (k = 156 ∧ (j = 2))) M M12_1143 := (F1120).tr (f1141.mono (fun _ _ h => h))
                  intro g1144
                  have h1145 := h1141 g1144
                  obtain ⟨h1146, h1147⟩ := h1145
                  refine ⟨?_, ?_⟩
                  · intro g1148
                    have h1149 := h1146 g1148
                    exact hQ _ _ F1141 h1149
                  · intro g1150
                    have h1151 := h1147 g1150
                    exact hQ _ _ F1141 h1151
                · intro g1152
                  have h1153 := h1138 g1152
                  obtain ⟨v1154, h1154⟩ := h1153
                  refine ⟨v1154, ?_⟩
                  obtain ⟨h1155, h1156⟩ := h1154
                  refine ⟨?_, ?_⟩
                  · intro g1157
                    have h1158 := h1155 g1157
                    exact hQ _ _ F1120 h1158
                  · intro g1159
                    have h1160 := h1156 g1159
                    unfold qX11_passAct_J96 at h1160 ⊢
                    refine fmX9_digit h1160 ?_
                    intro x12_1162 M12_1163 f1161 h1161
                    have F1161 : Ks (fun k j => (k = 156 ∧ (j = 2))) M M12_1163 := (F1120).tr (f1161.mono (fun _ _ h => h))
                    intro g1164
                    have h1165 := h1161 g1164
                    obtain ⟨h1166, h1167⟩ := h1165
                    refine ⟨?_, ?_⟩
                    · intro g1168
                      have h1169 := h1166 g1168
                      exact hQ _ _ F1161 h1169
                    · intro g1170
                      have h1171 := h1167 g1170
                      exact hQ _ _ F1161 h1171
              · intro g1172
                have h1173 := h1133 g1172
                refine fmX9_look h1173 ?_
                intro x16_1175 M16_1176 f1174 h1174
                have F1174 : Ks (fun k j => (k = 156 ∧ (j = 2))) M M16_1176 := (F1120).tr (f1174.mono (fun _ _ h => False.elim h))
                intro g1177
                have h1178 := h1174 g1177
                obtain ⟨h1179, h1180⟩ := h1178
                refine ⟨?_, ?_⟩
                · intro g1181
                  have h1182 := h1179 g1181
                  unfold qX11_passAct_J86 at h1182 ⊢
                  obtain ⟨v1183, h1183⟩ := h1182
                  refine ⟨v1183, ?_⟩
                  obtain ⟨h1184, h1185⟩ := h1183
                  refine ⟨?_, ?_⟩
                  · intro g1186
                    have h1187 := h1184 g1186
                    unfold qX11_passAct_J96 at h1187 ⊢
                    refine fmX9_digit h1187 ?_
                    intro x12_1189 M12_1190 f1188 h1188
                    have F1188 : Ks (fun k j => (k = 156 ∧ (j = 2))) M M12_1190 := (F1174).tr (f1188.mono (fun _ _ h => h))
                    intro g1191
                    have h1192 := h1188 g1191
                    obtain ⟨h1193, h1194⟩ := h1192
                    refine ⟨?_, ?_⟩
                    · intro g1195
                      have h1196 := h1193 g1195
                      exact hQ _ _ F1188 h1196
                    · intro g1197
                      have h1198 := h1194 g1197
                      exact hQ _ _ F1188 h1198
                  · intro g1199
                    have h1200 := h1185 g1199
                    obtain ⟨v1201, h1201⟩ := h1200
                    refine ⟨v1201, ?_⟩
                    obtain ⟨h1202, h1203⟩ := h1201
                    refine ⟨?_, ?_⟩
                    · intro g1204
                      have h1205 := h1202 g1204
                      exact hQ _ _ F1174 h1205
                    · intro g1206
                      have h1207 := h1203 g1206
                      unfold qX11_passAct_J96 at h1207 ⊢
                      refine fmX9_digit h1207 ?_
                      intro x12_1209 M12_1210 f1208 h1208
                      have F1208 : Ks (fun k j => (k = 156 ∧ (j = 2))) M M12_1210 := (F1174).tr (f1208.mono (fun _ _ h => h))
                      intro g1211
                      have h1212 := h1208 g1211
                      obtain ⟨h1213, h1214⟩ := h1212
                      refine ⟨?_, ?_⟩
                      · intro g1215
                        have h1216 := h1213 g1215
                        exact hQ _ _ F1208 h1216
                      · intro g1217
                        have h1218 := h1214 g1217
                        exact hQ _ _ F1208 h1218
                · intro g1219
                  have h1220 := h1180 g1219
                  exact hQ _ _ F1174 h1220
          · intro g1221
            have h1222 := h1115 g1221
            obtain ⟨h1223, h1224⟩ := h1222
            refine ⟨?_, ?_⟩
            · intro g1225
              have h1226 := h1223 g1225
              unfold qX11_passAct_J50 at h1226 ⊢
              refine fmX9_pass h1226 ?_
              intro M5_1228 f1227 h1227
              have F1227 : Ks (fun k j => (k = 156 ∧ (j = 2))) M M5_1228 := (F1).tr (f1227.mono (fun _ _ h => h))
              refine fmX9_digit h1227 ?_
              intro x6_1230 M6_1231 f1229 h1229
              have F1229 : Ks (fun k j => (k = 156 ∧ (j = 2))) M M6_1231 := (F1227).tr (f1229.mono (fun _ _ h => h))
              intro g1232
              have h1233 := h1229 g1232
              obtain ⟨h1234, h1235⟩ := h1233
              refine ⟨?_, ?_⟩
              · intro g1236
                have h1237 := h1234 g1236
                exact hQ _ _ F1229 h1237
              · intro g1238
                have h1239 := h1235 g1238
                obtain ⟨v1240, h1240⟩ := h1239
                refine ⟨v1240, ?_⟩
                obtain ⟨h1241, h1242⟩ := h1240
                refine ⟨?_, ?_⟩
                · intro g1243
                  have h1244 := h1241 g1243
                  unfold qX11_passAct_J86 at h1244 ⊢
                  obtain ⟨v1245, h1245⟩ := h1244
                  refine ⟨v1245, ?_⟩
                  obtain ⟨h1246, h1247⟩ := h1245
                  refine ⟨?_, ?_⟩
                  · intro g1248
                    have h1249 := h1246 g1248
                    unfold qX11_passAct_J96 at h1249 ⊢
                    refine fmX9_digit h1249 ?_
                    intro x12_1251 M12_1252 f1250 h1250
                    have F1250 : Ks (fun k j => (k = 156 ∧ (j = 2))) M M12_1252 := (F1229).tr (f1250.mono (fun _ _ h => h))
                    intro g1253
                    have h1254 := h1250 g1253
                    obtain ⟨h1255, h1256⟩ := h1254
                    refine ⟨?_, ?_⟩
                    · intro g1257
                      have h1258 := h1255 g1257
                      exact hQ _ _ F1250 h1258
                    · intro g1259
                      have h1260 := h1256 g1259
                      exact hQ _ _ F1250 h1260
                  · intro g1261
                    have h1262 := h1247 g1261
                    obtain ⟨v1263, h1263⟩ := h1262
                    refine ⟨v1263, ?_⟩
                    obtain ⟨h1264, h1265⟩ := h1263
                    refine ⟨?_, ?_⟩
                    · intro g1266
                      have h1267 := h1264 g1266
                      exact hQ _ _ F1229 h1267
                    · intro g1268
                      have h1269 := h1265 g1268
                      unfold qX11_passAct_J96 at h1269 ⊢
                      refine fmX9_digit h1269 ?_
                      intro x12_1271 M12_1272 f1270 h1270
                      have F1270 : Ks (fun k j => (k = 156 ∧ (j = 2))) M M12_1272 := (F1229).tr (f1270.mono (fun _ _ h => h))
                      intro g1273
                      have h1274 := h1270 g1273
                      obtain ⟨h1275, h1276⟩ := h1274
                      refine ⟨?_, ?_⟩
                      · intro g1277
                        have h1278 := h1275 g1277
                        exact hQ _ _ F1270 h1278
                      · intro g1279
                        have h1280 := h1276 g1279
                        exact hQ _ _ F1270 h1280
                · intro g1281
                  have h1282 := h1242 g1281
                  refine fmX9_look h1282 ?_
                  intro x16_1284 M16_1285 f1283 h1283
                  have F1283 : Ks (fun k j => (k = 156 ∧ (j = 2))) M M16_1285 := (F1229).tr (f1283.mono (fun _ _ h => False.elim h))
                  intro g1286
                  have h1287 := h1283 g1286
                  obtain ⟨h1288, h1289⟩ := h1287
                  refine ⟨?_, ?_⟩
                  · intro g1290
                    have h1291 := h1288 g1290
                    unfold qX11_passAct_J86 at h1291 ⊢
                    obtain ⟨v1292, h1292⟩ := h1291
                    refine ⟨v1292, ?_⟩
                    obtain ⟨h1293, h1294⟩ := h1292
                    refine ⟨?_, ?_⟩
                    · intro g1295
                      have h1296 := h1293 g1295
                      unfold qX11_passAct_J96 at h1296 ⊢
                      refine fmX9_digit h1296 ?_
                      intro x12_1298 M12_1299 f1297 h1297
                      have F1297 : Ks (fun k j => (k = 156 ∧ (j = 2))) M M12_1299 := (F1283).tr (f1297.mono (fun _ _ h => h))
                      intro g1300
                      have h1301 := h1297 g1300
                      obtain ⟨h1302, h1303⟩ := h1301
                      refine ⟨?_, ?_⟩
                      · intro g1304
                        have h1305 := h1302 g1304
                        exact hQ _ _ F1297 h1305
                      · intro g1306
                        have h1307 := h1303 g1306
                        exact hQ _ _ F1297 h1307
                    · intro g1308
                      have h1309 := h1294 g1308
                      obtain ⟨v1310, h1310⟩ := h1309
                      refine ⟨v1310, ?_⟩
                      obtain ⟨h1311, h1312⟩ := h1310
                      refine ⟨?_, ?_⟩
                      · intro g1313
                        have h1314 := h1311 g1313
                        exact hQ _ _ F1283 h1314
                      · intro g1315
                        have h1316 := h1312 g1315
                        unfold qX11_passAct_J96 at h1316 ⊢
                        refine fmX9_digit h1316 ?_
                        intro x12_1318 M12_1319 f1317 h1317
                        have F1317 : Ks (fun k j => (k = 156 ∧ (j = 2))) M M12_1319 := (F1283).tr (f1317.mono (fun _ _ h => h))
                        intro g1320
                        have h1321 := h1317 g1320
                        obtain ⟨h1322, h1323⟩ := h1321
                        refine ⟨?_, ?_⟩
                        · intro g1324
                          have h1325 := h1322 g1324
                          exact hQ _ _ F1317 h1325
                        · intro g1326
                          have h1327 := h1323 g1326
                          exact hQ _ _ F1317 h1327
                  · intro g1328
                    have h1329 := h1289 g1328
                    exact hQ _ _ F1283 h1329
            · intro g1330
              have h1331 := h1224 g1330
              exact hQ _ _ F1 h1331
theorem fmX11_hourFault_L11  {X48 X48' : Mem → Prop} {Q Q' : Int → Mem → Prop} {M0 : Mem} (hQ : ∀ (w0 : Int) (M' : Mem), Ks (fun k j => (k = 156 ∧ (j = 2 ∨ j = 3))) M0 M' → Q w0 M' → Q' w0 M') (hX48 : ∀ (M' : Mem), Ks (fun k j => (k = 156 ∧ (j = 2 ∨ j = 3))) M0 M' → X48 M' → X48' M') : ∀ (n : Nat) (v1 : Int) (M : Mem), Ks (fun k j => (k = 156 ∧ (j = 2 ∨ j = 3))) M0 M → qX11_hourFault_L11 X48 Q n v1 M → qX11_hourFault_L11 X48' Q' n v1 M := by
  intro n
  induction n with
  | zero => intro v1 M _ h; exact h.elim
  | succ n ih =>
    intro v1 M hF h
    rw [qX11_hourFault_L11] at h
    rw [qX11_hourFault_L11]
    obtain ⟨v1, h1⟩ := h
    refine ⟨v1, ?_⟩
    obtain ⟨h2, h3⟩ := h1
    refine ⟨?_, ?_⟩
    · intro g4
      have h5 := h2 g4
      exact hX48 _ hF h5
    · intro g6
      have h7 := h3 g6
      refine fmX9_isRead h7 ?_
      intro x4_9 M4_10 f8 h8
      have F8 : Ks (fun k j => (k = 156 ∧ (j = 2 ∨ j = 3))) M0 M4_10 := (hF).tr (f8.mono (fun _ _ h => False.elim h))
      intro g11 g12
      have h13 := h8 g11 g12
      obtain ⟨h14, h15⟩ := h13
      refine ⟨?_, ?_⟩
      · intro g16
        have h17 := h14 g16
        exact hX48 _ F8 h17
      · intro g18
        have h19 := h15 g18
        refine fmX11_passAct h19 ?_
        intro x6_21 M6_22 f20 h20
        have F20 : Ks (fun k j => (k = 156 ∧ (j = 2 ∨ j = 3))) M0 M6_22 := (F8).tr (f20.mono (mo_67))
        intro g23 g24
        have h25 := h20 g23 g24
        obtain ⟨h26, h27⟩ := h25
        refine ⟨?_, ?_⟩
        · intro g28
          have h29 := h26 g28
          exact ih _ _ F20 h29
        · intro g30
          have h31 := h27 g30
          intro x8_32 g33 g34
          have h32 := h31 x8_32 g33 g34
          exact hQ _ _ F20 h32
theorem fmX11_hourFault  {M : Mem} {Q Q' : Int → Mem → Prop} (h : qX11_hourFault M Q) (hQ : ∀ (w0 : Int) (M' : Mem), Ks (fun k j => (k = 156 ∧ (j = 2 ∨ j = 3))) M M' → Q w0 M' → Q' w0 M') : qX11_hourFault M Q' := by
  unfold qX11_hourFault at h ⊢
  refine fmX9_open h ?_
  intro M1_2 f1 h1
  have F1 : Ks (fun k j => (k = 156 ∧ (j = 2 ∨ j = 3))) M M1_2 := (Ks.rf).tr (f1.mono (fun _ _ h => h))
  obtain ⟨n3, h3⟩ := h1
  refine ⟨n3, ?_⟩
  refine fmX11_hourFault_L11 hQ ?_ _ _ _ F1 h3
  · intro M_5 F4 h4
    unfold qX11_hourFault_J48 at h4 ⊢
    refine fmX9_isWhole h4 ?_
    intro x10_7 M10_8 f6 h6
    have F6 : Ks (fun k j => (k = 156 ∧ (j = 2 ∨ j = 3))) M M10_8 := (F4).tr (f6.mono (fun _ _ h => False.elim h))
    intro g9 g10
    have h11 := h6 g9 g10
    obtain ⟨h12, h13⟩ := h11
    refine ⟨?_, ?_⟩
    · intro g14
      have h15 := h12 g14
      intro x12_16 g17 g18
      have h16 := h15 x12_16 g17 g18
      exact hQ _ _ F6 h16
    · intro g19
      have h20 := h13 g19
      exact hQ _ _ F6 h20
theorem fmX11_hour_L32  {X92 X92' : Int → Int → Int → Mem → Prop} {Q Q' : Int → Mem → Prop} {M0 : Mem} (hQ : ∀ (w0 : Int) (M' : Mem), Ks (fun k j => k = 0 ∨ (2 ≤ k ∧ k ≤ 4) ∨ (6 ≤ k ∧ k ≤ 7) ∨ (22 ≤ k ∧ k ≤ 28) ∨ (50 ≤ k ∧ k ≤ 154) ∨ (160 ≤ k ∧ k ≤ 162) ∨ (190 ≤ k ∧ k ≤ 191) ∨ (195 ≤ k ∧ k ≤ 196) ∨ (k = 1 ∧ (j = 8 ∨ j = 9 ∨ j = 10)) ∨ (k = 156 ∧ (j = 1 ∨ j = 2 ∨ j = 3)) ∨ (k = 163 ∧ (j = 1 ∨ j = 2)) ∨ (k = 167 ∧ (j = 1))) M0 M' → Q w0 M' → Q' w0 M') (hX92 : ∀ (w0 w1 w2 : Int) (M' : Mem), Ks (fun k j => k = 0 ∨ (2 ≤ k ∧ k ≤ 4) ∨ (6 ≤ k ∧ k ≤ 7) ∨ (22 ≤ k ∧ k ≤ 28) ∨ (50 ≤ k ∧ k ≤ 154) ∨ (160 ≤ k ∧ k ≤ 162) ∨ (190 ≤ k ∧ k ≤ 191) ∨ (195 ≤ k ∧ k ≤ 196) ∨ (k = 1 ∧ (j = 8 ∨ j = 9 ∨ j = 10)) ∨ (k = 156 ∧ (j = 1 ∨ j = 2 ∨ j = 3)) ∨ (k = 163 ∧ (j = 1 ∨ j = 2)) ∨ (k = 167 ∧ (j = 1))) M0 M' → X92 w0 w1 w2 M' → X92' w0 w1 w2 M') : ∀ (n : Nat) (v1 v2 v3 v4 : Int) (M : Mem), Ks (fun k j => k = 0 ∨ (2 ≤ k ∧ k ≤ 4) ∨ (6 ≤ k ∧ k ≤ 7) ∨ (22 ≤ k ∧ k ≤ 28) ∨ (50 ≤ k ∧ k ≤ 154) ∨ (160 ≤ k ∧ k ≤ 162) ∨ (190 ≤ k ∧ k ≤ 191) ∨ (195 ≤ k ∧ k ≤ 196) ∨ (k = 1 ∧ (j = 8 ∨ j = 9 ∨ j = 10)) ∨ (k = 156 ∧ (j = 1 ∨ j = 2 ∨ j = 3)) ∨ (k = 163 ∧ (j = 1 ∨ j = 2)) ∨ (k = 167 ∧ (j = 1))) M0 M → qX11_hour_L32 X92 Q n v1 v2 v3 v4 M → qX11_hour_L32 X92' Q' n v1 v2 v3 v4 M := by
  intro n
  induction n with
  | zero => intro v1 v2 v3 v4 M _ h; exact h.elim
  | succ n ih =>
    intro v1 v2 v3 v4 M hF h
    rw [qX11_hour_L32] at h
    rw [qX11_hour_L32]
    obtain ⟨v1, h1⟩ := h
    refine ⟨v1, ?_⟩
    obtain ⟨h2, h3⟩ := h1
    refine ⟨?_, ?_⟩
    · intro g4
      have h5 := h2 g4
      exact hX92 _ _ _ _ hF h5
    · intro g6
      have h7 := h3 g6
      obtain ⟨v8, h8⟩ := h7
      refine ⟨v8, ?_⟩
      obtain ⟨h9, h10⟩ := h8
      refine ⟨?_, ?_⟩
      · intro g11
        have h12 := h9 g11
        exact hX92 _ _ _ _ hF h12
      · intro g13
        have h14 := h10 g13
        obtain ⟨v15, h15⟩ := h14
        refine ⟨v15, ?_⟩
        obtain ⟨h16, h17⟩ := h15
        refine ⟨?_, ?_⟩
        · intro g18
          have h19 := h16 g18
          exact hX92 _ _ _ _ hF h19
        · intro g20
          have h21 := h17 g20
          refine fmX9_isRead h21 ?_
          intro x10_23 M10_24 f22 h22
          have F22 : Ks (fun k j => k = 0 ∨ (2 ≤ k ∧ k ≤ 4) ∨ (6 ≤ k ∧ k ≤ 7) ∨ (22 ≤ k ∧ k ≤ 28) ∨ (50 ≤ k ∧ k ≤ 154) ∨ (160 ≤ k ∧ k ≤ 162) ∨ (190 ≤ k ∧ k ≤ 191) ∨ (195 ≤ k ∧ k ≤ 196) ∨ (k = 1 ∧ (j = 8 ∨ j = 9 ∨ j = 10)) ∨ (k = 156 ∧ (j = 1 ∨ j = 2 ∨ j = 3)) ∨ (k = 163 ∧ (j = 1 ∨ j = 2)) ∨ (k = 167 ∧ (j = 1))) M0 M10_24 := (hF).tr (f22.mono (fun _ _ h => False.elim h))
          intro g25 g26
          have h27 := h22 g25 g26
          obtain ⟨h28, h29⟩ := h27
          refine ⟨?_, ?_⟩
          · intro g30
            have h31 := h28 g30
            exact hX92 _ _ _ _ F22 h31
          · intro g32
            have h33 := h29 g32
            refine fmX11_doAct h33 ?_
            intro x12_35 M12_36 f34 h34
            have F34 : Ks (fun k j => k = 0 ∨ (2 ≤ k ∧ k ≤ 4) ∨ (6 ≤ k ∧ k ≤ 7) ∨ (22 ≤ k ∧ k ≤ 28) ∨ (50 ≤ k ∧ k ≤ 154) ∨ (160 ≤ k ∧ k ≤ 162) ∨ (190 ≤ k ∧ k ≤ 191) ∨ (195 ≤ k ∧ k ≤ 196) ∨ (k = 1 ∧ (j = 8 ∨ j = 9 ∨ j = 10)) ∨ (k = 156 ∧ (j = 1 ∨ j = 2 ∨ j = 3)) ∨ (k = 163 ∧ (j = 1 ∨ j = 2)) ∨ (k = 167 ∧ (j = 1))) M0 M12_36 := (F22).tr (f34.mono (mo_68))
            intro g37
            have h38 := h34 g37
            refine fmX11_isDone h38 ?_
            intro x13_40 M13_41 f39 h39
            have F39 : Ks (fun k j => k = 0 ∨ (2 ≤ k ∧ k ≤ 4) ∨ (6 ≤ k ∧ k ≤ 7) ∨ (22 ≤ k ∧ k ≤ 28) ∨ (50 ≤ k ∧ k ≤ 154) ∨ (160 ≤ k ∧ k ≤ 162) ∨ (190 ≤ k ∧ k ≤ 191) ∨ (195 ≤ k ∧ k ≤ 196) ∨ (k = 1 ∧ (j = 8 ∨ j = 9 ∨ j = 10)) ∨ (k = 156 ∧ (j = 1 ∨ j = 2 ∨ j = 3)) ∨ (k = 163 ∧ (j = 1 ∨ j = 2)) ∨ (k = 167 ∧ (j = 1))) M0 M13_41 := (F34).tr (f39.mono (fun _ _ h => False.elim h))
            intro g42 g43
            have h44 := h39 g42 g43
            obtain ⟨h45, h46⟩ := h44
            refine ⟨?_, ?_⟩
            · intro g47
              have h48 := h45 g47
              unfold qX11_hour_J73 at h48 ⊢
              obtain ⟨v49, h49⟩ := h48
              refine ⟨v49, ?_⟩
              obtain ⟨h50, h51⟩ := h49
              refine ⟨?_, ?_⟩
              · intro g52
                have h53 := h50 g52
                exact ih _ _ _ _ _ F39 h53
              · intro g54
                have h55 := h51 g54
                exact ih _ _ _ _ _ F39 h55
            · intro g56
              have h57 := h46 g56
              unfold qX11_hour_J73 at h57 ⊢
              obtain ⟨v58, h58⟩ := h57
              refine ⟨v58, ?_⟩
              obtain ⟨h59, h60⟩ := h58
              refine ⟨?_, ?_⟩
              · intro g61
                have h62 := h59 g61
                exact ih _ _ _ _ _ F39 h62
              · intro g63
                have h64 := h60 g63
                exact ih _ _ _ _ _ F39 h64
theorem fmX11_hour  {M : Mem} {Q Q' : Int → Mem → Prop} (h : qX11_hour M Q) (hQ : ∀ (w0 : Int) (M' : Mem), Ks (fun k j => k = 0 ∨ (2 ≤ k ∧ k ≤ 4) ∨ (6 ≤ k ∧ k ≤ 7) ∨ (22 ≤ k ∧ k ≤ 28) ∨ (50 ≤ k ∧ k ≤ 154) ∨ (160 ≤ k ∧ k ≤ 162) ∨ (190 ≤ k ∧ k ≤ 191) ∨ (195 ≤ k ∧ k ≤ 196) ∨ (k = 1 ∧ (j = 8 ∨ j = 9 ∨ j = 10)) ∨ (k = 156 ∧ (j = 1 ∨ j = 2 ∨ j = 3)) ∨ (k = 163 ∧ (j = 1 ∨ j = 2)) ∨ (k = 167 ∧ (j = 1))) M M' → Q w0 M' → Q' w0 M') : qX11_hour M Q' := by
  unfold qX11_hour at h ⊢
  refine fmX11_hourFault h ?_
  intro x1_2 M1_3 f1 h1
  have F1 : Ks (fun k j => k = 0 ∨ (2 ≤ k ∧ k ≤ 4) ∨ (6 ≤ k ∧ k ≤ 7) ∨ (22 ≤ k ∧ k ≤ 28) ∨ (50 ≤ k ∧ k ≤ 154) ∨ (160 ≤ k ∧ k ≤ 162) ∨ (190 ≤ k ∧ k ≤ 191) ∨ (195 ≤ k ∧ k ≤ 196) ∨ (k = 1 ∧ (j = 8 ∨ j = 9 ∨ j = 10)) ∨ (k = 156 ∧ (j = 1 ∨ j = 2 ∨ j = 3)) ∨ (k = 163 ∧ (j = 1 ∨ j = 2)) ∨ (k = 167 ∧ (j = 1))) M M1_3 := (Ks.rf).tr (f1.mono (mo_69))
  intro g4
  have h5 := h1 g4
  refine fmX6_copyFrom h5 ?_
  intro M2_7 f6 h6
  have F6 : Ks (fun k j => k = 0 ∨ (2 ≤ k ∧ k ≤ 4) ∨ (6 ≤ k ∧ k ≤ 7) ∨ (22 ≤ k ∧ k ≤ 28) ∨ (50 ≤ k ∧ k ≤ 154) ∨ (160 ≤ k ∧ k ≤ 162) ∨ (190 ≤ k ∧ k ≤ 191) ∨ (195 ≤ k ∧ k ≤ 196) ∨ (k = 1 ∧ (j = 8 ∨ j = 9 ∨ j = 10)) ∨ (k = 156 ∧ (j = 1 ∨ j = 2 ∨ j = 3)) ∨ (k = 163 ∧ (j = 1 ∨ j = 2)) ∨ (k = 167 ∧ (j = 1))) M M2_7 := (F1).tr (f6.mono (mo_70))
  refine fmX9_open h6 ?_
  intro M3_9 f8 h8
  have F8 : Ks (fun k j => k = 0 ∨ (2 ≤ k ∧ k ≤ 4) ∨ (6 ≤ k ∧ k ≤ 7) ∨ (22 ≤ k ∧ k ≤ 28) ∨ (50 ≤ k ∧ k ≤ 154) ∨ (160 ≤ k ∧ k ≤ 162) ∨ (190 ≤ k ∧ k ≤ 191) ∨ (195 ≤ k ∧ k ≤ 196) ∨ (k = 1 ∧ (j = 8 ∨ j = 9 ∨ j = 10)) ∨ (k = 156 ∧ (j = 1 ∨ j = 2 ∨ j = 3)) ∨ (k = 163 ∧ (j = 1 ∨ j = 2)) ∨ (k = 167 ∧ (j = 1))) M M3_9 := (F6).tr (f8.mono (mo_69))
  obtain ⟨n10, h10⟩ := h8
  refine ⟨n10, ?_⟩
  refine fmX11_hour_L32 hQ ?_ _ _ _ _ _ _ F8 h10
  · intro v1_12 v2_13 v3_14 M_15 F11 h11
    unfold qX11_hour_J92 at h11 ⊢
    refine fmX9_clear h11 ?_
    intro M18_17 f16 h16
    have F16 : Ks (fun k j => k = 0 ∨ (2 ≤ k ∧ k ≤ 4) ∨ (6 ≤ k ∧ k ≤ 7) ∨ (22 ≤ k ∧ k ≤ 28) ∨ (50 ≤ k ∧ k ≤ 154) ∨ (160 ≤ k ∧ k ≤ 162) ∨ (190 ≤ k ∧ k ≤ 191) ∨ (195 ≤ k ∧ k ≤ 196) ∨ (k = 1 ∧ (j = 8 ∨ j = 9 ∨ j = 10)) ∨ (k = 156 ∧ (j = 1 ∨ j = 2 ∨ j = 3)) ∨ (k = 163 ∧ (j = 1 ∨ j = 2)) ∨ (k = 167 ∧ (j = 1))) M M18_17 := (F11).tr (f16.mono (mo_71))
    obtain ⟨v18, h18⟩ := h16
    refine ⟨v18, ?_⟩
    obtain ⟨h19, h20⟩ := h18
    refine ⟨?_, ?_⟩
    · intro g21
      have h22 := h19 g21
      obtain ⟨v23, h23⟩ := h22
      refine ⟨v23, ?_⟩
      obtain ⟨h24, h25⟩ := h23
      refine ⟨?_, ?_⟩
      · intro g26
        have h27 := h24 g26
        unfold qX11_hour_J123 at h27 ⊢
        obtain ⟨v28, h28⟩ := h27
        refine ⟨v28, ?_⟩
        obtain ⟨h29, h30⟩ := h28
        refine ⟨?_, ?_⟩
        · intro g31
          have h32 := h29 g31
          unfold qX11_hour_J136 at h32 ⊢
          intro x25_33 g34 g35
          have h33 := h32 x25_33 g34 g35
          obtain ⟨v36, h36⟩ := h33
          refine ⟨v36, ?_⟩
          refine fmX4_tellTwo h36 ?_
          intro M27_38 f37 h37
          have F37 : Ks (fun k j => k = 0 ∨ (2 ≤ k ∧ k ≤ 4) ∨ (6 ≤ k ∧ k ≤ 7) ∨ (22 ≤ k ∧ k ≤ 28) ∨ (50 ≤ k ∧ k ≤ 154) ∨ (160 ≤ k ∧ k ≤ 162) ∨ (190 ≤ k ∧ k ≤ 191) ∨ (195 ≤ k ∧ k ≤ 196) ∨ (k = 1 ∧ (j = 8 ∨ j = 9 ∨ j = 10)) ∨ (k = 156 ∧ (j = 1 ∨ j = 2 ∨ j = 3)) ∨ (k = 163 ∧ (j = 1 ∨ j = 2)) ∨ (k = 167 ∧ (j = 1))) M M27_38 := (F16).tr (f37.mono (mo_72))
          obtain ⟨v39, h39⟩ := h37
          refine ⟨v39, ?_⟩
          exact hQ _ _ F37 h39
        · intro g40
          have h41 := h30 g40
          unfold qX11_hour_J136 at h41 ⊢
          intro x25_42 g43 g44
          have h42 := h41 x25_42 g43 g44
          obtain ⟨v45, h45⟩ := h42
          refine ⟨v45, ?_⟩
          refine fmX4_tellTwo h45 ?_
          intro M27_47 f46 h46
          have F46 : Ks (fun k j => k = 0 ∨ (2 ≤ k ∧ k ≤ 4) ∨ (6 ≤ k ∧ k ≤ 7) ∨ (22 ≤ k ∧ k ≤ 28) ∨ (50 ≤ k ∧ k ≤ 154) ∨ (160 ≤ k ∧ k ≤ 162) ∨ (190 ≤ k ∧ k ≤ 191) ∨ (195 ≤ k ∧ k ≤ 196) ∨ (k = 1 ∧ (j = 8 ∨ j = 9 ∨ j = 10)) ∨ (k = 156 ∧ (j = 1 ∨ j = 2 ∨ j = 3)) ∨ (k = 163 ∧ (j = 1 ∨ j = 2)) ∨ (k = 167 ∧ (j = 1))) M M27_47 := (F16).tr (f46.mono (mo_72))
          obtain ⟨v48, h48⟩ := h46
          refine ⟨v48, ?_⟩
          exact hQ _ _ F46 h48
      · intro g49
        have h50 := h25 g49
        refine fmX1_add h50 ?_
        intro M29_52 f51 h51
        have F51 : Ks (fun k j => k = 0 ∨ (2 ≤ k ∧ k ≤ 4) ∨ (6 ≤ k ∧ k ≤ 7) ∨ (22 ≤ k ∧ k ≤ 28) ∨ (50 ≤ k ∧ k ≤ 154) ∨ (160 ≤ k ∧ k ≤ 162) ∨ (190 ≤ k ∧ k ≤ 191) ∨ (195 ≤ k ∧ k ≤ 196) ∨ (k = 1 ∧ (j = 8 ∨ j = 9 ∨ j = 10)) ∨ (k = 156 ∧ (j = 1 ∨ j = 2 ∨ j = 3)) ∨ (k = 163 ∧ (j = 1 ∨ j = 2)) ∨ (k = 167 ∧ (j = 1))) M M29_52 := (F16).tr (f51.mono (mo_73))
        unfold qX11_hour_J123 at h51 ⊢
        obtain ⟨v53, h53⟩ := h51
        refine ⟨v53, ?_⟩
        obtain ⟨h54, h55⟩ := h53
        refine ⟨?_, ?_⟩
        · intro g56
          have h57 := h54 g56
          unfold qX11_hour_J136 at h57 ⊢
          intro x25_58 g59 g60
          have h58 := h57 x25_58 g59 g60
          obtain ⟨v61, h61⟩ := h58
          refine ⟨v61, ?_⟩
          refine fmX4_tellTwo h61 ?_
          intro M27_63 f62 h62
          have F62 : Ks (fun k j => k = 0 ∨ (2 ≤ k ∧ k ≤ 4) ∨ (6 ≤ k ∧ k ≤ 7) ∨ (22 ≤ k ∧ k ≤ 28) ∨ (50 ≤ k ∧ k ≤ 154) ∨ (160 ≤ k ∧ k ≤ 162) ∨ (190 ≤ k ∧ k ≤ 191) ∨ (195 ≤ k ∧ k ≤ 196) ∨ (k = 1 ∧ (j = 8 ∨ j = 9 ∨ j = 10)) ∨ (k = 156 ∧ (j = 1 ∨ j = 2 ∨ j = 3)) ∨ (k = 163 ∧ (j = 1 ∨ j = 2)) ∨ (k = 167 ∧ (j = 1))) M M27_63 := (F51).tr (f62.mono (mo_72))
          obtain ⟨v64, h64⟩ := h62
          refine ⟨v64, ?_⟩
          exact hQ _ _ F62 h64
        · intro g65
          have h66 := h55 g65
          unfold qX11_hour_J136 at h66 ⊢
          intro x25_67 g68 g69
          have h67 := h66 x25_67 g68 g69
          obtain ⟨v70, h70⟩ := h67
          refine ⟨v70, ?_⟩
          refine fmX4_tellTwo h70 ?_
          intro M27_72 f71 h71
          have F71 : Ks (fun k j => k = 0 ∨ (2 ≤ k ∧ k ≤ 4) ∨ (6 ≤ k ∧ k ≤ 7) ∨ (22 ≤ k ∧ k ≤ 28) ∨ (50 ≤ k ∧ k ≤ 154) ∨ (160 ≤ k ∧ k ≤ 162) ∨ (190 ≤ k ∧ k ≤ 191) ∨ (195 ≤ k ∧ k ≤ 196) ∨ (k = 1 ∧ (j = 8 ∨ j = 9 ∨ j = 10)) ∨ (k = 156 ∧ (j = 1 ∨ j = 2 ∨ j = 3)) ∨ (k = 163 ∧ (j = 1 ∨ j = 2)) ∨ (k = 167 ∧ (j = 1))) M M27_72 := (F51).tr (f71.mono (mo_72))
          obtain ⟨v73, h73⟩ := h71
          refine ⟨v73, ?_⟩
          exact hQ _ _ F71 h73
    · intro g74
      have h75 := h20 g74
      obtain ⟨v76, h76⟩ := h75
      refine ⟨v76, ?_⟩
      exact hQ _ _ F16 h76
theorem fmX1_takeBack {k1 : Nat} {M : Mem} {Q Q' : Int → Mem → Prop} (h : qX1_takeBack k1 M Q) (hQ : ∀ (w0 : Int) (M' : Mem), Ks (fun k j => (k = 163 ∧ (j = 2)) ∨ (k = k1 ∧ (j = 6 ∨ j = 7 ∨ j = 8 ∨ j = 9 ∨ j = 10)) ∨ k = k1 + 1 ∨ k = k1 + 2 ∨ k = k1 + 3 ∨ k = k1 + 4 ∨ k = k1 + 5 ∨ k = k1 + 6) M M' → Q w0 M' → Q' w0 M') : qX1_takeBack k1 M Q' := by
  unfold qX1_takeBack at h ⊢
  intro x1_1 g2 g3
  have h1 := h x1_1 g2 g3
  obtain ⟨h4, h5⟩ := h1
  refine ⟨?_, ?_⟩
  · intro g6
    have h7 := h4 g6
    intro x3_8 g9 g10
    have h8 := h7 x3_8 g9 g10
    obtain ⟨v11, h11⟩ := h8
    refine ⟨v11, ?_⟩
    intro M5_12 eM5_12
    have h12 := h11 M5_12 eM5_12
    have F12 : Ks (fun k j => (k = 163 ∧ (j = 2)) ∨ (k = k1 ∧ (j = 6 ∨ j = 7 ∨ j = 8 ∨ j = 9 ∨ j = 10)) ∨ k = k1 + 1 ∨ k = k1 + 2 ∨ k = k1 + 3 ∨ k = k1 + 4 ∨ k = k1 + 5 ∨ k = k1 + 6) M M5_12 := by rw [eM5_12]; exact (Ks.rf).wr (mw_84)
    intro x6_13 g14 g15
    have h13 := h12 x6_13 g14 g15
    intro x7_16 g17 g18
    have h16 := h13 x7_16 g17 g18
    intro x8_19 g20 g21
    have h19 := h16 x8_19 g20 g21
    obtain ⟨v22, h22⟩ := h19
    refine ⟨v22, ?_⟩
    obtain ⟨v23, h23⟩ := h22
    refine ⟨v23, ?_⟩
    refine fmX6_copyFrom h23 ?_
    intro M11_25 f24 h24
    have F24 : Ks (fun k j => (k = 163 ∧ (j = 2)) ∨ (k = k1 ∧ (j = 6 ∨ j = 7 ∨ j = 8 ∨ j = 9 ∨ j = 10)) ∨ k = k1 + 1 ∨ k = k1 + 2 ∨ k = k1 + 3 ∨ k = k1 + 4 ∨ k = k1 + 5 ∨ k = k1 + 6) M M11_25 := (F12).tr (f24.mono (mo_74))
    exact hQ _ _ F24 h24
  · intro g26
    have h27 := h5 g26
    exact hQ _ _ Ks.rf h27
theorem fmX11_undo  {M : Mem} {Q Q' : Int → Mem → Prop} (h : qX11_undo M Q) (hQ : ∀ (w0 : Int) (M' : Mem), Ks (fun k j => (2 ≤ k ∧ k ≤ 7) ∨ (k = 1 ∧ (j = 6 ∨ j = 7 ∨ j = 8 ∨ j = 9 ∨ j = 10)) ∨ (k = 163 ∧ (j = 2))) M M' → Q w0 M' → Q' w0 M') : qX11_undo M Q' := by
  unfold qX11_undo at h ⊢
  refine fmX1_takeBack h ?_
  intro x1_2 M1_3 f1 h1
  have F1 : Ks (fun k j => (2 ≤ k ∧ k ≤ 7) ∨ (k = 1 ∧ (j = 6 ∨ j = 7 ∨ j = 8 ∨ j = 9 ∨ j = 10)) ∨ (k = 163 ∧ (j = 2))) M M1_3 := (Ks.rf).tr (f1.mono (mo_75))
  intro g4 g5
  have h6 := h1 g4 g5
  obtain ⟨h7, h8⟩ := h6
  refine ⟨?_, ?_⟩
  · intro g9
    have h10 := h7 g9
    exact hQ _ _ F1 h10
  · intro g11
    have h12 := h8 g11
    intro x3_13 g14 g15
    have h13 := h12 x3_13 g14 g15
    exact hQ _ _ F1 h13
theorem fmX11_line_L17  {Q Q' : Int → Mem → Prop} {M0 : Mem} (hQ : ∀ (w0 : Int) (M' : Mem), Ks (fun k j => k = 0 ∨ (k = 167 ∧ (j = 1))) M0 M' → Q w0 M' → Q' w0 M') : ∀ (n : Nat) (v1 v2 : Int) (M : Mem), Ks (fun k j => k = 0 ∨ (k = 167 ∧ (j = 1))) M0 M → qX11_line_L17 Q n v1 v2 M → qX11_line_L17 Q' n v1 v2 M := by
  intro n
  induction n with
  | zero => intro v1 v2 M _ h; exact h.elim
  | succ n ih =>
    intro v1 v2 M hF h
    rw [qX11_line_L17] at h
    rw [qX11_line_L17]
    obtain ⟨v1, h1⟩ := h
    refine ⟨v1, ?_⟩
    obtain ⟨h2, h3⟩ := h1
    refine ⟨?_, ?_⟩
    · intro g4
      have h5 := h2 g4
      intro x5_6 g7 g8
      have h6 := h5 x5_6 g7 g8
      exact hQ _ _ hF h6
    · intro g9
      have h10 := h3 g9
      obtain ⟨v11, h11⟩ := h10
      refine ⟨v11, ?_⟩
      refine fmX6_foremostBelow h11 ?_
      intro x7_13 M7_14 f12 h12
      have F12 : Ks (fun k j => k = 0 ∨ (k = 167 ∧ (j = 1))) M0 M7_14 := (hF).tr (f12.mono (fun _ _ h => False.elim h))
      intro g15
      have h16 := h12 g15
      obtain ⟨h17, h18⟩ := h16
      refine ⟨?_, ?_⟩
      · intro g19
        have h20 := h17 g19
        obtain ⟨v21, h21⟩ := h20
        refine ⟨v21, ?_⟩
        obtain ⟨v22, h22⟩ := h21
        refine ⟨v22, ?_⟩
        intro x11_23 g24 g25
        have h23 := h22 x11_23 g24 g25
        refine fmX4_add h23 ?_
        intro M12_27 f26 h26
        have F26 : Ks (fun k j => k = 0 ∨ (k = 167 ∧ (j = 1))) M0 M12_27 := (F12).tr (f26.mono (fun _ _ h => h))
        exact ih _ _ _ F26 h26
      · intro g28
        have h29 := h18 g28
        intro x13_30 g31 g32
        have h30 := h29 x13_30 g31 g32
        exact hQ _ _ F12 h30
theorem fmX11_line  {M : Mem} {Q Q' : Int → Mem → Prop} (h : qX11_line M Q) (hQ : ∀ (w0 : Int) (M' : Mem), Ks (fun k j => k = 0 ∨ (k = 167 ∧ (j = 1))) M M' → Q w0 M' → Q' w0 M') : qX11_line M Q' := by
  unfold qX11_line at h ⊢
  refine fmX4_clear h ?_
  intro M1_2 f1 h1
  have F1 : Ks (fun k j => k = 0 ∨ (k = 167 ∧ (j = 1))) M M1_2 := (Ks.rf).tr (f1.mono (mo_46))
  intro x2_3 g4 g5
  have h3 := h1 x2_3 g4 g5
  obtain ⟨n6, h6⟩ := h3
  refine ⟨n6, ?_⟩
  refine fmX11_line_L17 hQ _ _ _ _ F1 h6
theorem fmX11_ahead_L48 {p1 : Int} {Q Q' : Int → Mem → Prop} {M0 : Mem} (hQ : ∀ (w0 : Int) (M' : Mem), Ks (fun k j => k = 0 ∨ (8 ≤ k ∧ k ≤ 14) ∨ (160 ≤ k ∧ k ≤ 162) ∨ (190 ≤ k ∧ k ≤ 191) ∨ (195 ≤ k ∧ k ≤ 196) ∨ (k = 167 ∧ (j = 1))) M0 M' → Q w0 M' → Q' w0 M') : ∀ (n : Nat) (v2 : Int) (M : Mem), Ks (fun k j => k = 0 ∨ (8 ≤ k ∧ k ≤ 14) ∨ (160 ≤ k ∧ k ≤ 162) ∨ (190 ≤ k ∧ k ≤ 191) ∨ (195 ≤ k ∧ k ≤ 196) ∨ (k = 167 ∧ (j = 1))) M0 M → qX11_ahead_L48 p1 Q n v2 M → qX11_ahead_L48 p1 Q' n v2 M := by
  intro n
  induction n with
  | zero => intro v2 M _ h; exact h.elim
  | succ n ih =>
    intro v2 M hF h
    rw [qX11_ahead_L48] at h
    rw [qX11_ahead_L48]
    intro x7_1 g2 g3
    have h1 := h x7_1 g2 g3
    obtain ⟨v4, h4⟩ := h1
    refine ⟨v4, ?_⟩
    obtain ⟨h5, h6⟩ := h4
    refine ⟨?_, ?_⟩
    · intro g7
      have h8 := h5 g7
      intro x10_9 g10 g11
      have h9 := h8 x10_9 g10 g11
      exact hQ _ _ hF h9
    · intro g12
      have h13 := h6 g12
      obtain ⟨v14, h14⟩ := h13
      refine ⟨v14, ?_⟩
      obtain ⟨v15, h15⟩ := h14
      refine ⟨v15, ?_⟩
      intro x13_16 g17 g18
      have h16 := h15 x13_16 g17 g18
      refine fmX4_add h16 ?_
      intro M14_20 f19 h19
      have F19 : Ks (fun k j => k = 0 ∨ (8 ≤ k ∧ k ≤ 14) ∨ (160 ≤ k ∧ k ≤ 162) ∨ (190 ≤ k ∧ k ≤ 191) ∨ (195 ≤ k ∧ k ≤ 196) ∨ (k = 167 ∧ (j = 1))) M0 M14_20 := (hF).tr (f19.mono (mo_76))
      exact ih _ _ F19 h19
theorem fmX11_ahead {p1 : Int} {M : Mem} {Q Q' : Int → Mem → Prop} (h : qX11_ahead p1 M Q) (hQ : ∀ (w0 : Int) (M' : Mem), Ks (fun k j => k = 0 ∨ (8 ≤ k ∧ k ≤ 14) ∨ (160 ≤ k ∧ k ≤ 162) ∨ (190 ≤ k ∧ k ≤ 191) ∨ (195 ≤ k ∧ k ≤ 196) ∨ (k = 167 ∧ (j = 1))) M M' → Q w0 M' → Q' w0 M') : qX11_ahead p1 M Q' := by
  unfold qX11_ahead at h ⊢
  obtain ⟨h1, h2⟩ := h
  refine ⟨?_, ?_⟩
  · intro g3
    have h4 := h1 g3
    exact hQ _ _ Ks.rf h4
  · intro g5
    have h6 := h2 g5
    obtain ⟨h7, h8⟩ := h6
    refine ⟨?_, ?_⟩
    · intro g9
      have h10 := h7 g9
      refine fmX6_copyFrom h10 ?_
      intro M3_12 f11 h11
      have F11 : Ks (fun k j => k = 0 ∨ (8 ≤ k ∧ k ≤ 14) ∨ (160 ≤ k ∧ k ≤ 162) ∨ (190 ≤ k ∧ k ≤ 191) ∨ (195 ≤ k ∧ k ≤ 196) ∨ (k = 167 ∧ (j = 1))) M M3_12 := (Ks.rf).tr (f11.mono (mo_77))
      obtain ⟨v13, h13⟩ := h11
      refine ⟨v13, ?_⟩
      have w13 : (M3_12 155 16).toNat = 187 ∨ (M3_12 155 16).toNat = 192 := v13
      refine fmX10_walk h13 ?_
      intro M5_15 f14 h14
      have F14 : Ks (fun k j => k = 0 ∨ (8 ≤ k ∧ k ≤ 14) ∨ (160 ≤ k ∧ k ≤ 162) ∨ (190 ≤ k ∧ k ≤ 191) ∨ (195 ≤ k ∧ k ≤ 196) ∨ (k = 167 ∧ (j = 1))) M M5_15 := (F11).tr (f14.mono (fun k j h => w13.elim (fun e => mo_78 k j (by rw [e] at h; exact h)) (fun e => mo_79 k j (by rw [e] at h; exact h))))
      refine fmX4_clear h14 ?_
      intro M6_17 f16 h16
      have F16 : Ks (fun k j => k = 0 ∨ (8 ≤ k ∧ k ≤ 14) ∨ (160 ≤ k ∧ k ≤ 162) ∨ (190 ≤ k ∧ k ≤ 191) ∨ (195 ≤ k ∧ k ≤ 196) ∨ (k = 167 ∧ (j = 1))) M M6_17 := (F14).tr (f16.mono (mo_80))
      obtain ⟨n18, h18⟩ := h16
      refine ⟨n18, ?_⟩
      refine fmX11_ahead_L48 hQ _ _ _ F16 h18
    · intro g19
      have h20 := h8 g19
      exact hQ _ _ Ks.rf h20
theorem fmX4_tellOne {p1 : Int} {M : Mem} {Q Q' : Mem → Prop} (h : qX4_tellOne p1 M Q) (hQ : ∀ (M' : Mem), Ks (fun k j => k = 0 ∨ (k = 167 ∧ (j = 1))) M M' → Q M' → Q' M') : qX4_tellOne p1 M Q' := by
  unfold qX4_tellOne at h ⊢
  refine fmX4_clear h ?_
  intro M1_2 f1 h1
  have F1 : Ks (fun k j => k = 0 ∨ (k = 167 ∧ (j = 1))) M M1_2 := (Ks.rf).tr (f1.mono (mo_46))
  refine fmX4_add h1 ?_
  intro M2_4 f3 h3
  have F3 : Ks (fun k j => k = 0 ∨ (k = 167 ∧ (j = 1))) M M2_4 := (F1).tr (f3.mono (fun _ _ h => h))
  exact hQ _ F3 h3
theorem fmX11_arrives_L26 {p1 : Int} {X65 X65' : Int → Mem → Prop} {Q Q' : Int → Mem → Prop} {M0 : Mem} (hQ : ∀ (w0 : Int) (M' : Mem), Ks (fun k j => k = 0 ∨ (8 ≤ k ∧ k ≤ 14) ∨ (160 ≤ k ∧ k ≤ 162) ∨ (190 ≤ k ∧ k ≤ 191) ∨ (195 ≤ k ∧ k ≤ 196) ∨ (k = 167 ∧ (j = 1))) M0 M' → Q w0 M' → Q' w0 M') (hX65 : ∀ (w0 : Int) (M' : Mem), Ks (fun k j => k = 0 ∨ (8 ≤ k ∧ k ≤ 14) ∨ (160 ≤ k ∧ k ≤ 162) ∨ (190 ≤ k ∧ k ≤ 191) ∨ (195 ≤ k ∧ k ≤ 196) ∨ (k = 167 ∧ (j = 1))) M0 M' → X65 w0 M' → X65' w0 M') : ∀ (n : Nat) (v2 : Int) (M : Mem), Ks (fun k j => k = 0 ∨ (8 ≤ k ∧ k ≤ 14) ∨ (160 ≤ k ∧ k ≤ 162) ∨ (190 ≤ k ∧ k ≤ 191) ∨ (195 ≤ k ∧ k ≤ 196) ∨ (k = 167 ∧ (j = 1))) M0 M → qX11_arrives_L26 p1 X65 Q n v2 M → qX11_arrives_L26 p1 X65' Q' n v2 M := by
  intro n
  induction n with
  | zero => intro v2 M _ h; exact h.elim
  | succ n ih =>
    intro v2 M hF h
    rw [qX11_arrives_L26] at h
    rw [qX11_arrives_L26]
    obtain ⟨v1, h1⟩ := h
    refine ⟨v1, ?_⟩
    obtain ⟨h2, h3⟩ := h1
    refine ⟨?_, ?_⟩
    · intro g4
      have h5 := h2 g4
      exact hX65 _ _ hF h5
    · intro g6
      have h7 := h3 g6
      refine fmX6_hasArrived h7 ?_
      intro x6_9 M6_10 f8 h8
      have F8 : Ks (fun k j => k = 0 ∨ (8 ≤ k ∧ k ≤ 14) ∨ (160 ≤ k ∧ k ≤ 162) ∨ (190 ≤ k ∧ k ≤ 191) ∨ (195 ≤ k ∧ k ≤ 196) ∨ (k = 167 ∧ (j = 1))) M0 M6_10 := (hF).tr (f8.mono (fun _ _ h => False.elim h))
      intro g11 g12
      have h13 := h8 g11 g12
      obtain ⟨h14, h15⟩ := h13
      refine ⟨?_, ?_⟩
      · intro g16
        have h17 := h14 g16
        exact hX65 _ _ F8 h17
      · intro g18
        have h19 := h15 g18
        obtain ⟨v20, h20⟩ := h19
        refine ⟨v20, ?_⟩
        have w20 : (M6_10 155 16).toNat = 187 ∨ (M6_10 155 16).toNat = 192 := v20
        refine fmX10_advance h20 ?_
        intro M9_22 f21 h21
        have F21 : Ks (fun k j => k = 0 ∨ (8 ≤ k ∧ k ≤ 14) ∨ (160 ≤ k ∧ k ≤ 162) ∨ (190 ≤ k ∧ k ≤ 191) ∨ (195 ≤ k ∧ k ≤ 196) ∨ (k = 167 ∧ (j = 1))) M0 M9_22 := (F8).tr (f21.mono (fun k j h => w20.elim (fun e => mo_78 k j (by rw [e] at h; exact h)) (fun e => mo_79 k j (by rw [e] at h; exact h))))
        exact ih _ _ F21 h21
theorem fmX11_arrives {p1 : Int} {M : Mem} {Q Q' : Int → Mem → Prop} (h : qX11_arrives p1 M Q) (hQ : ∀ (w0 : Int) (M' : Mem), Ks (fun k j => k = 0 ∨ (8 ≤ k ∧ k ≤ 14) ∨ (160 ≤ k ∧ k ≤ 162) ∨ (190 ≤ k ∧ k ≤ 191) ∨ (195 ≤ k ∧ k ≤ 196) ∨ (k = 167 ∧ (j = 1))) M M' → Q w0 M' → Q' w0 M') : qX11_arrives p1 M Q' := by
  unfold qX11_arrives at h ⊢
  refine fmX6_isHearse h ?_
  intro x1_2 M1_3 f1 h1
  have F1 : Ks (fun k j => k = 0 ∨ (8 ≤ k ∧ k ≤ 14) ∨ (160 ≤ k ∧ k ≤ 162) ∨ (190 ≤ k ∧ k ≤ 191) ∨ (195 ≤ k ∧ k ≤ 196) ∨ (k = 167 ∧ (j = 1))) M M1_3 := (Ks.rf).tr (f1.mono (fun _ _ h => False.elim h))
  intro g4 g5
  have h6 := h1 g4 g5
  obtain ⟨h7, h8⟩ := h6
  refine ⟨?_, ?_⟩
  · intro g9
    have h10 := h7 g9
    refine fmX6_copyFrom h10 ?_
    intro M3_12 f11 h11
    have F11 : Ks (fun k j => k = 0 ∨ (8 ≤ k ∧ k ≤ 14) ∨ (160 ≤ k ∧ k ≤ 162) ∨ (190 ≤ k ∧ k ≤ 191) ∨ (195 ≤ k ∧ k ≤ 196) ∨ (k = 167 ∧ (j = 1))) M M3_12 := (F1).tr (f11.mono (mo_77))
    obtain ⟨n13, h13⟩ := h11
    refine ⟨n13, ?_⟩
    refine fmX11_arrives_L26 hQ ?_ _ _ _ F11 h13
    · intro v2_15 M_16 F14 h14
      unfold qX11_arrives_J65 at h14 ⊢
      refine fmX6_hasArrived h14 ?_
      intro x11_18 M11_19 f17 h17
      have F17 : Ks (fun k j => k = 0 ∨ (8 ≤ k ∧ k ≤ 14) ∨ (160 ≤ k ∧ k ≤ 162) ∨ (190 ≤ k ∧ k ≤ 191) ∨ (195 ≤ k ∧ k ≤ 196) ∨ (k = 167 ∧ (j = 1))) M M11_19 := (F14).tr (f17.mono (fun _ _ h => False.elim h))
      intro g20 g21
      have h22 := h17 g20 g21
      obtain ⟨h23, h24⟩ := h22
      refine ⟨?_, ?_⟩
      · intro g25
        have h26 := h23 g25
        obtain ⟨v27, h27⟩ := h26
        refine ⟨v27, ?_⟩
        obtain ⟨v28, h28⟩ := h27
        refine ⟨v28, ?_⟩
        intro x15_29 g30 g31
        have h29 := h28 x15_29 g30 g31
        refine fmX4_tellOne h29 ?_
        intro M16_33 f32 h32
        have F32 : Ks (fun k j => k = 0 ∨ (8 ≤ k ∧ k ≤ 14) ∨ (160 ≤ k ∧ k ≤ 162) ∨ (190 ≤ k ∧ k ≤ 191) ∨ (195 ≤ k ∧ k ≤ 196) ∨ (k = 167 ∧ (j = 1))) M M16_33 := (F17).tr (f32.mono (mo_76))
        obtain ⟨v34, h34⟩ := h32
        refine ⟨v34, ?_⟩
        exact hQ _ _ F32 h34
      · intro g35
        have h36 := h24 g35
        exact hQ _ _ F17 h36
  · intro g37
    have h38 := h8 g37
    exact hQ _ _ F1 h38
theorem fmX11_jam_L44 {p1 : Int} {X84 X84' : Int → Mem → Prop} {Q Q' : Int → Mem → Prop} {M0 : Mem} (hQ : ∀ (w0 : Int) (M' : Mem), Ks (fun k j => k = 0 ∨ (8 ≤ k ∧ k ≤ 14) ∨ (160 ≤ k ∧ k ≤ 162) ∨ (190 ≤ k ∧ k ≤ 191) ∨ (195 ≤ k ∧ k ≤ 196) ∨ (k = 167 ∧ (j = 1))) M0 M' → Q w0 M' → Q' w0 M') (hX84 : ∀ (w0 : Int) (M' : Mem), Ks (fun k j => k = 0 ∨ (8 ≤ k ∧ k ≤ 14) ∨ (160 ≤ k ∧ k ≤ 162) ∨ (190 ≤ k ∧ k ≤ 191) ∨ (195 ≤ k ∧ k ≤ 196) ∨ (k = 167 ∧ (j = 1))) M0 M' → X84 w0 M' → X84' w0 M') : ∀ (n : Nat) (v2 v3 : Int) (M : Mem), Ks (fun k j => k = 0 ∨ (8 ≤ k ∧ k ≤ 14) ∨ (160 ≤ k ∧ k ≤ 162) ∨ (190 ≤ k ∧ k ≤ 191) ∨ (195 ≤ k ∧ k ≤ 196) ∨ (k = 167 ∧ (j = 1))) M0 M → qX11_jam_L44 p1 X84 Q n v2 v3 M → qX11_jam_L44 p1 X84' Q' n v2 v3 M := by
  intro n
  induction n with
  | zero => intro v2 v3 M _ h; exact h.elim
  | succ n ih =>
    intro v2 v3 M hF h
    rw [qX11_jam_L44] at h
    rw [qX11_jam_L44]
    intro x6_1 g2 g3
    have h1 := h x6_1 g2 g3
    obtain ⟨v4, h4⟩ := h1
    refine ⟨v4, ?_⟩
    obtain ⟨h5, h6⟩ := h4
    refine ⟨?_, ?_⟩
    · intro g7
      have h8 := h5 g7
      exact hX84 _ _ hF h8
    · intro g9
      have h10 := h6 g9
      obtain ⟨v11, h11⟩ := h10
      refine ⟨v11, ?_⟩
      obtain ⟨v12, h12⟩ := h11
      refine ⟨v12, ?_⟩
      intro x11_13 g14 g15
      have h13 := h12 x11_13 g14 g15
      obtain ⟨v16, h16⟩ := h13
      refine ⟨v16, ?_⟩
      obtain ⟨v17, h17⟩ := h16
      refine ⟨v17, ?_⟩
      intro x14_18 g19 g20
      have h18 := h17 x14_18 g19 g20
      obtain ⟨h21, h22⟩ := h18
      refine ⟨?_, ?_⟩
      · intro g23
        have h24 := h21 g23
        exact ih _ _ _ hF h24
      · intro g25
        have h26 := h22 g25
        exact ih _ _ _ hF h26
theorem fmX11_jam {p1 : Int} {M : Mem} {Q Q' : Int → Mem → Prop} (h : qX11_jam p1 M Q) (hQ : ∀ (w0 : Int) (M' : Mem), Ks (fun k j => k = 0 ∨ (8 ≤ k ∧ k ≤ 14) ∨ (160 ≤ k ∧ k ≤ 162) ∨ (190 ≤ k ∧ k ≤ 191) ∨ (195 ≤ k ∧ k ≤ 196) ∨ (k = 167 ∧ (j = 1))) M M' → Q w0 M' → Q' w0 M') : qX11_jam p1 M Q' := by
  unfold qX11_jam at h ⊢
  obtain ⟨h1, h2⟩ := h
  refine ⟨?_, ?_⟩
  · intro g3
    have h4 := h1 g3
    exact hQ _ _ Ks.rf h4
  · intro g5
    have h6 := h2 g5
    obtain ⟨h7, h8⟩ := h6
    refine ⟨?_, ?_⟩
    · intro g9
      have h10 := h7 g9
      refine fmX6_copyFrom h10 ?_
      intro M3_12 f11 h11
      have F11 : Ks (fun k j => k = 0 ∨ (8 ≤ k ∧ k ≤ 14) ∨ (160 ≤ k ∧ k ≤ 162) ∨ (190 ≤ k ∧ k ≤ 191) ∨ (195 ≤ k ∧ k ≤ 196) ∨ (k = 167 ∧ (j = 1))) M M3_12 := (Ks.rf).tr (f11.mono (mo_77))
      obtain ⟨v13, h13⟩ := h11
      refine ⟨v13, ?_⟩
      have w13 : (M3_12 155 16).toNat = 187 ∨ (M3_12 155 16).toNat = 192 := v13
      refine fmX10_walk h13 ?_
      intro M5_15 f14 h14
      have F14 : Ks (fun k j => k = 0 ∨ (8 ≤ k ∧ k ≤ 14) ∨ (160 ≤ k ∧ k ≤ 162) ∨ (190 ≤ k ∧ k ≤ 191) ∨ (195 ≤ k ∧ k ≤ 196) ∨ (k = 167 ∧ (j = 1))) M M5_15 := (F11).tr (f14.mono (fun k j h => w13.elim (fun e => mo_78 k j (by rw [e] at h; exact h)) (fun e => mo_79 k j (by rw [e] at h; exact h))))
      obtain ⟨n16, h16⟩ := h14
      refine ⟨n16, ?_⟩
      refine fmX11_jam_L44 hQ ?_ _ _ _ _ F14 h16
      · intro v2_18 M_19 F17 h17
        obtain ⟨v20, h20⟩ := h17
        refine ⟨v20, ?_⟩
        obtain ⟨v21, h21⟩ := h20
        refine ⟨v21, ?_⟩
        intro x19_22 g23 g24
        have h22 := h21 x19_22 g23 g24
        intro x20_25 g26 g27
        have h25 := h22 x20_25 g26 g27
        refine fmX4_tellTwo h25 ?_
        intro M21_29 f28 h28
        have F28 : Ks (fun k j => k = 0 ∨ (8 ≤ k ∧ k ≤ 14) ∨ (160 ≤ k ∧ k ≤ 162) ∨ (190 ≤ k ∧ k ≤ 191) ∨ (195 ≤ k ∧ k ≤ 196) ∨ (k = 167 ∧ (j = 1))) M M21_29 := (F17).tr (f28.mono (mo_76))
        obtain ⟨v30, h30⟩ := h28
        refine ⟨v30, ?_⟩
        exact hQ _ _ F28 h30
    · intro g31
      have h32 := h8 g31
      exact hQ _ _ Ks.rf h32
theorem fmX6_isAheadOf {k0 : Nat} {p1 : Int} {p2 : Int} {M : Mem} {Q Q' : Int → Mem → Prop} (h : qX6_isAheadOf k0 p1 p2 M Q) (hQ : ∀ (w0 : Int) (M' : Mem), Ks (fun _ _ => False) M M' → Q w0 M' → Q' w0 M') : qX6_isAheadOf k0 p1 p2 M Q' := by
  unfold qX6_isAheadOf at h ⊢
  refine fmX6_hasArrived h ?_
  intro x1_2 M1_3 f1 h1
  have F1 : Ks (fun _ _ => False) M M1_3 := (Ks.rf).tr (f1.mono (fun _ _ h => False.elim h))
  intro g4 g5
  have h6 := h1 g4 g5
  obtain ⟨h7, h8⟩ := h6
  refine ⟨?_, ?_⟩
  · intro g9
    have h10 := h7 g9
    refine fmX6_hasArrived h10 ?_
    intro x3_12 M3_13 f11 h11
    have F11 : Ks (fun _ _ => False) M M3_13 := (F1).tr (f11.mono (fun _ _ h => False.elim h))
    intro g14 g15
    have h16 := h11 g14 g15
    obtain ⟨h17, h18⟩ := h16
    refine ⟨?_, ?_⟩
    · intro g19
      have h20 := h17 g19
      exact hQ _ _ F11 h20
    · intro g21
      have h22 := h18 g21
      obtain ⟨v23, h23⟩ := h22
      refine ⟨v23, ?_⟩
      obtain ⟨v24, h24⟩ := h23
      refine ⟨v24, ?_⟩
      intro x7_25 g26 g27
      have h25 := h24 x7_25 g26 g27
      obtain ⟨v28, h28⟩ := h25
      refine ⟨v28, ?_⟩
      obtain ⟨v29, h29⟩ := h28
      refine ⟨v29, ?_⟩
      intro x10_30 g31 g32
      have h30 := h29 x10_30 g31 g32
      obtain ⟨h33, h34⟩ := h30
      refine ⟨?_, ?_⟩
      · intro g35
        have h36 := h33 g35
        exact hQ _ _ F11 h36
      · intro g37
        have h38 := h34 g37
        exact hQ _ _ F11 h38
  · intro g39
    have h40 := h8 g39
    refine fmX6_hasArrived h40 ?_
    intro x12_42 M12_43 f41 h41
    have F41 : Ks (fun _ _ => False) M M12_43 := (F1).tr (f41.mono (fun _ _ h => False.elim h))
    intro g44 g45
    have h46 := h41 g44 g45
    obtain ⟨h47, h48⟩ := h46
    refine ⟨?_, ?_⟩
    · intro g49
      have h50 := h47 g49
      exact hQ _ _ F41 h50
    · intro g51
      have h52 := h48 g51
      obtain ⟨v53, h53⟩ := h52
      refine ⟨v53, ?_⟩
      obtain ⟨v54, h54⟩ := h53
      refine ⟨v54, ?_⟩
      intro x16_55 g56 g57
      have h55 := h54 x16_55 g56 g57
      obtain ⟨v58, h58⟩ := h55
      refine ⟨v58, ?_⟩
      obtain ⟨v59, h59⟩ := h58
      refine ⟨v59, ?_⟩
      intro x19_60 g61 g62
      have h60 := h59 x19_60 g61 g62
      obtain ⟨h63, h64⟩ := h60
      refine ⟨?_, ?_⟩
      · intro g65
        have h66 := h63 g65
        exact hQ _ _ F41 h66
      · intro g67
        have h68 := h64 g67
        exact hQ _ _ F41 h68
theorem fmX11_passes_L88 {p1 : Int} {p2 : Int} {X121 X121' : Int → Mem → Prop} {Q Q' : Int → Mem → Prop} {M0 : Mem} (hQ : ∀ (w0 : Int) (M' : Mem), Ks (fun k j => k = 0 ∨ (8 ≤ k ∧ k ≤ 14) ∨ (160 ≤ k ∧ k ≤ 162) ∨ (190 ≤ k ∧ k ≤ 191) ∨ (195 ≤ k ∧ k ≤ 196) ∨ (k = 167 ∧ (j = 1))) M0 M' → Q w0 M' → Q' w0 M') (hX121 : ∀ (w0 : Int) (M' : Mem), Ks (fun k j => k = 0 ∨ (8 ≤ k ∧ k ≤ 14) ∨ (160 ≤ k ∧ k ≤ 162) ∨ (190 ≤ k ∧ k ≤ 191) ∨ (195 ≤ k ∧ k ≤ 196) ∨ (k = 167 ∧ (j = 1))) M0 M' → X121 w0 M' → X121' w0 M') : ∀ (n : Nat) (v3 : Int) (M : Mem), Ks (fun k j => k = 0 ∨ (8 ≤ k ∧ k ≤ 14) ∨ (160 ≤ k ∧ k ≤ 162) ∨ (190 ≤ k ∧ k ≤ 191) ∨ (195 ≤ k ∧ k ≤ 196) ∨ (k = 167 ∧ (j = 1))) M0 M → qX11_passes_L88 p1 p2 X121 Q n v3 M → qX11_passes_L88 p1 p2 X121' Q' n v3 M := by
  intro n
  induction n with
  | zero => intro v3 M _ h; exact h.elim
  | succ n ih =>
    intro v3 M hF h
    rw [qX11_passes_L88] at h
    rw [qX11_passes_L88]
    obtain ⟨v1, h1⟩ := h
    refine ⟨v1, ?_⟩
    obtain ⟨h2, h3⟩ := h1
    refine ⟨?_, ?_⟩
    · intro g4
      have h5 := h2 g4
      exact hQ _ _ hF h5
    · intro g6
      have h7 := h3 g6
      obtain ⟨v8, h8⟩ := h7
      refine ⟨v8, ?_⟩
      have w8 : (M 155 16).toNat = 187 ∨ (M 155 16).toNat = 192 := v8
      refine fmX10_advance h8 ?_
      intro M21_10 f9 h9
      have F9 : Ks (fun k j => k = 0 ∨ (8 ≤ k ∧ k ≤ 14) ∨ (160 ≤ k ∧ k ≤ 162) ∨ (190 ≤ k ∧ k ≤ 191) ∨ (195 ≤ k ∧ k ≤ 196) ∨ (k = 167 ∧ (j = 1))) M0 M21_10 := (hF).tr (f9.mono (fun k j h => w8.elim (fun e => mo_78 k j (by rw [e] at h; exact h)) (fun e => mo_79 k j (by rw [e] at h; exact h))))
      refine fmX6_isAheadOf h9 ?_
      intro x22_12 M22_13 f11 h11
      have F11 : Ks (fun k j => k = 0 ∨ (8 ≤ k ∧ k ≤ 14) ∨ (160 ≤ k ∧ k ≤ 162) ∨ (190 ≤ k ∧ k ≤ 191) ∨ (195 ≤ k ∧ k ≤ 196) ∨ (k = 167 ∧ (j = 1))) M0 M22_13 := (F9).tr (f11.mono (fun _ _ h => False.elim h))
      intro g14 g15
      have h16 := h11 g14 g15
      obtain ⟨h17, h18⟩ := h16
      refine ⟨?_, ?_⟩
      · intro g19
        have h20 := h17 g19
        exact ih _ _ F11 h20
      · intro g21
        have h22 := h18 g21
        exact hX121 _ _ F11 h22
theorem fmX11_passes {p1 : Int} {p2 : Int} {M : Mem} {Q Q' : Int → Mem → Prop} (h : qX11_passes p1 p2 M Q) (hQ : ∀ (w0 : Int) (M' : Mem), Ks (fun k j => k = 0 ∨ (8 ≤ k ∧ k ≤ 14) ∨ (160 ≤ k ∧ k ≤ 162) ∨ (190 ≤ k ∧ k ≤ 191) ∨ (195 ≤ k ∧ k ≤ 196) ∨ (k = 167 ∧ (j = 1))) M M' → Q w0 M' → Q' w0 M') : qX11_passes p1 p2 M Q' := by
  unfold qX11_passes at h ⊢
  refine fmX6_isHearse h ?_
  intro x1_2 M1_3 f1 h1
  have F1 : Ks (fun k j => k = 0 ∨ (8 ≤ k ∧ k ≤ 14) ∨ (160 ≤ k ∧ k ≤ 162) ∨ (190 ≤ k ∧ k ≤ 191) ∨ (195 ≤ k ∧ k ≤ 196) ∨ (k = 167 ∧ (j = 1))) M M1_3 := (Ks.rf).tr (f1.mono (fun _ _ h => False.elim h))
  intro g4 g5
  have h6 := h1 g4 g5
  obtain ⟨h7, h8⟩ := h6
  refine ⟨?_, ?_⟩
  · intro g9
    have h10 := h7 g9
    exact hQ _ _ F1 h10
  · intro g11
    have h12 := h8 g11
    refine fmX6_isHearse h12 ?_
    intro x3_14 M3_15 f13 h13
    have F13 : Ks (fun k j => k = 0 ∨ (8 ≤ k ∧ k ≤ 14) ∨ (160 ≤ k ∧ k ≤ 162) ∨ (190 ≤ k ∧ k ≤ 191) ∨ (195 ≤ k ∧ k ≤ 196) ∨ (k = 167 ∧ (j = 1))) M M3_15 := (F1).tr (f13.mono (fun _ _ h => False.elim h))
    intro g16 g17
    have h18 := h13 g16 g17
    obtain ⟨h19, h20⟩ := h18
    refine ⟨?_, ?_⟩
    · intro g21
      have h22 := h19 g21
      exact hQ _ _ F13 h22
    · intro g23
      have h24 := h20 g23
      obtain ⟨h25, h26⟩ := h24
      refine ⟨?_, ?_⟩
      · intro g27
        have h28 := h25 g27
        refine fmX6_hasArrived h28 ?_
        intro x6_30 M6_31 f29 h29
        have F29 : Ks (fun k j => k = 0 ∨ (8 ≤ k ∧ k ≤ 14) ∨ (160 ≤ k ∧ k ≤ 162) ∨ (190 ≤ k ∧ k ≤ 191) ∨ (195 ≤ k ∧ k ≤ 196) ∨ (k = 167 ∧ (j = 1))) M M6_31 := (F13).tr (f29.mono (fun _ _ h => False.elim h))
        intro g32 g33
        have h34 := h29 g32 g33
        obtain ⟨h35, h36⟩ := h34
        refine ⟨?_, ?_⟩
        · intro g37
          have h38 := h35 g37
          exact hQ _ _ F29 h38
        · intro g39
          have h40 := h36 g39
          refine fmX6_hasArrived h40 ?_
          intro x8_42 M8_43 f41 h41
          have F41 : Ks (fun k j => k = 0 ∨ (8 ≤ k ∧ k ≤ 14) ∨ (160 ≤ k ∧ k ≤ 162) ∨ (190 ≤ k ∧ k ≤ 191) ∨ (195 ≤ k ∧ k ≤ 196) ∨ (k = 167 ∧ (j = 1))) M M8_43 := (F29).tr (f41.mono (fun _ _ h => False.elim h))
          intro g44 g45
          have h46 := h41 g44 g45
          obtain ⟨h47, h48⟩ := h46
          refine ⟨?_, ?_⟩
          · intro g49
            have h50 := h47 g49
            exact hQ _ _ F41 h50
          · intro g51
            have h52 := h48 g51
            obtain ⟨v53, h53⟩ := h52
            refine ⟨v53, ?_⟩
            obtain ⟨v54, h54⟩ := h53
            refine ⟨v54, ?_⟩
            intro x12_55 g56 g57
            have h55 := h54 x12_55 g56 g57
            obtain ⟨v58, h58⟩ := h55
            refine ⟨v58, ?_⟩
            obtain ⟨v59, h59⟩ := h58
            refine ⟨v59, ?_⟩
            intro x15_60 g61 g62
            have h60 := h59 x15_60 g61 g62
            obtain ⟨h63, h64⟩ := h60
            refine ⟨?_, ?_⟩
            · intro g65
              have h66 := h63 g65
              refine fmX6_copyFrom h66 ?_
              intro M17_68 f67 h67
              have F67 : Ks (fun k j => k = 0 ∨ (8 ≤ k ∧ k ≤ 14) ∨ (160 ≤ k ∧ k ≤ 162) ∨ (190 ≤ k ∧ k ≤ 191) ∨ (195 ≤ k ∧ k ≤ 196) ∨ (k = 167 ∧ (j = 1))) M M17_68 := (F41).tr (f67.mono (mo_77))
              obtain ⟨n69, h69⟩ := h67
              refine ⟨n69, ?_⟩
              refine fmX11_passes_L88 hQ ?_ _ _ _ F67 h69
              · intro v3_71 M_72 F70 h70
                obtain ⟨v73, h73⟩ := h70
                refine ⟨v73, ?_⟩
                obtain ⟨v74, h74⟩ := h73
                refine ⟨v74, ?_⟩
                intro x27_75 g76 g77
                have h75 := h74 x27_75 g76 g77
                refine fmX4_tellOne h75 ?_
                intro M28_79 f78 h78
                have F78 : Ks (fun k j => k = 0 ∨ (8 ≤ k ∧ k ≤ 14) ∨ (160 ≤ k ∧ k ≤ 162) ∨ (190 ≤ k ∧ k ≤ 191) ∨ (195 ≤ k ∧ k ≤ 196) ∨ (k = 167 ∧ (j = 1))) M M28_79 := (F70).tr (f78.mono (mo_76))
                obtain ⟨v80, h80⟩ := h78
                refine ⟨v80, ?_⟩
                exact hQ _ _ F78 h80
            · intro g81
              have h82 := h64 g81
              exact hQ _ _ F41 h82
      · intro g83
        have h84 := h26 g83
        exact hQ _ _ F13 h84
theorem fmX11_ends_L33 {p1 : Int} {X72 X72' : Int → Mem → Prop} {Q Q' : Int → Mem → Prop} {M0 : Mem} (hQ : ∀ (w0 : Int) (M' : Mem), Ks (fun k j => k = 0 ∨ (8 ≤ k ∧ k ≤ 14) ∨ (160 ≤ k ∧ k ≤ 162) ∨ (190 ≤ k ∧ k ≤ 191) ∨ (195 ≤ k ∧ k ≤ 196) ∨ (k = 167 ∧ (j = 1))) M0 M' → Q w0 M' → Q' w0 M') (hX72 : ∀ (w0 : Int) (M' : Mem), Ks (fun k j => k = 0 ∨ (8 ≤ k ∧ k ≤ 14) ∨ (160 ≤ k ∧ k ≤ 162) ∨ (190 ≤ k ∧ k ≤ 191) ∨ (195 ≤ k ∧ k ≤ 196) ∨ (k = 167 ∧ (j = 1))) M0 M' → X72 w0 M' → X72' w0 M') : ∀ (n : Nat) (v2 : Int) (M : Mem), Ks (fun k j => k = 0 ∨ (8 ≤ k ∧ k ≤ 14) ∨ (160 ≤ k ∧ k ≤ 162) ∨ (190 ≤ k ∧ k ≤ 191) ∨ (195 ≤ k ∧ k ≤ 196) ∨ (k = 167 ∧ (j = 1))) M0 M → qX11_ends_L33 p1 X72 Q n v2 M → qX11_ends_L33 p1 X72' Q' n v2 M := by
  intro n
  induction n with
  | zero => intro v2 M _ h; exact h.elim
  | succ n ih =>
    intro v2 M hF h
    rw [qX11_ends_L33] at h
    rw [qX11_ends_L33]
    obtain ⟨v1, h1⟩ := h
    refine ⟨v1, ?_⟩
    obtain ⟨h2, h3⟩ := h1
    refine ⟨?_, ?_⟩
    · intro g4
      have h5 := h2 g4
      exact hX72 _ _ hF h5
    · intro g6
      have h7 := h3 g6
      refine fmX6_hasEnded h7 ?_
      intro x7_9 M7_10 f8 h8
      have F8 : Ks (fun k j => k = 0 ∨ (8 ≤ k ∧ k ≤ 14) ∨ (160 ≤ k ∧ k ≤ 162) ∨ (190 ≤ k ∧ k ≤ 191) ∨ (195 ≤ k ∧ k ≤ 196) ∨ (k = 167 ∧ (j = 1))) M0 M7_10 := (hF).tr (f8.mono (fun _ _ h => False.elim h))
      intro g11 g12
      have h13 := h8 g11 g12
      obtain ⟨h14, h15⟩ := h13
      refine ⟨?_, ?_⟩
      · intro g16
        have h17 := h14 g16
        exact hX72 _ _ F8 h17
      · intro g18
        have h19 := h15 g18
        obtain ⟨v20, h20⟩ := h19
        refine ⟨v20, ?_⟩
        have w20 : (M7_10 155 16).toNat = 187 ∨ (M7_10 155 16).toNat = 192 := v20
        refine fmX10_advance h20 ?_
        intro M10_22 f21 h21
        have F21 : Ks (fun k j => k = 0 ∨ (8 ≤ k ∧ k ≤ 14) ∨ (160 ≤ k ∧ k ≤ 162) ∨ (190 ≤ k ∧ k ≤ 191) ∨ (195 ≤ k ∧ k ≤ 196) ∨ (k = 167 ∧ (j = 1))) M0 M10_22 := (F8).tr (f21.mono (fun k j h => w20.elim (fun e => mo_78 k j (by rw [e] at h; exact h)) (fun e => mo_79 k j (by rw [e] at h; exact h))))
        exact ih _ _ F21 h21
theorem fmX11_ends {p1 : Int} {M : Mem} {Q Q' : Int → Mem → Prop} (h : qX11_ends p1 M Q) (hQ : ∀ (w0 : Int) (M' : Mem), Ks (fun k j => k = 0 ∨ (8 ≤ k ∧ k ≤ 14) ∨ (160 ≤ k ∧ k ≤ 162) ∨ (190 ≤ k ∧ k ≤ 191) ∨ (195 ≤ k ∧ k ≤ 196) ∨ (k = 167 ∧ (j = 1))) M M' → Q w0 M' → Q' w0 M') : qX11_ends p1 M Q' := by
  unfold qX11_ends at h ⊢
  refine fmX6_isMourner h ?_
  intro x1_2 M1_3 f1 h1
  have F1 : Ks (fun k j => k = 0 ∨ (8 ≤ k ∧ k ≤ 14) ∨ (160 ≤ k ∧ k ≤ 162) ∨ (190 ≤ k ∧ k ≤ 191) ∨ (195 ≤ k ∧ k ≤ 196) ∨ (k = 167 ∧ (j = 1))) M M1_3 := (Ks.rf).tr (f1.mono (fun _ _ h => False.elim h))
  intro g4 g5
  have h6 := h1 g4 g5
  obtain ⟨h7, h8⟩ := h6
  refine ⟨?_, ?_⟩
  · intro g9
    have h10 := h7 g9
    refine fmX6_copyFrom h10 ?_
    intro M3_12 f11 h11
    have F11 : Ks (fun k j => k = 0 ∨ (8 ≤ k ∧ k ≤ 14) ∨ (160 ≤ k ∧ k ≤ 162) ∨ (190 ≤ k ∧ k ≤ 191) ∨ (195 ≤ k ∧ k ≤ 196) ∨ (k = 167 ∧ (j = 1))) M M3_12 := (F1).tr (f11.mono (mo_77))
    refine fmX10_forgetTallies h11 ?_
    intro M4_14 f13 h13
    have F13 : Ks (fun k j => k = 0 ∨ (8 ≤ k ∧ k ≤ 14) ∨ (160 ≤ k ∧ k ≤ 162) ∨ (190 ≤ k ∧ k ≤ 191) ∨ (195 ≤ k ∧ k ≤ 196) ∨ (k = 167 ∧ (j = 1))) M M4_14 := (F11).tr (f13.mono (mo_81))
    obtain ⟨n15, h15⟩ := h13
    refine ⟨n15, ?_⟩
    refine fmX11_ends_L33 hQ ?_ _ _ _ F13 h15
    · intro v2_17 M_18 F16 h16
      unfold qX11_ends_J72 at h16 ⊢
      refine fmX6_hasEnded h16 ?_
      intro x12_20 M12_21 f19 h19
      have F19 : Ks (fun k j => k = 0 ∨ (8 ≤ k ∧ k ≤ 14) ∨ (160 ≤ k ∧ k ≤ 162) ∨ (190 ≤ k ∧ k ≤ 191) ∨ (195 ≤ k ∧ k ≤ 196) ∨ (k = 167 ∧ (j = 1))) M M12_21 := (F16).tr (f19.mono (fun _ _ h => False.elim h))
      intro g22 g23
      have h24 := h19 g22 g23
      obtain ⟨h25, h26⟩ := h24
      refine ⟨?_, ?_⟩
      · intro g27
        have h28 := h25 g27
        obtain ⟨v29, h29⟩ := h28
        refine ⟨v29, ?_⟩
        obtain ⟨v30, h30⟩ := h29
        refine ⟨v30, ?_⟩
        obtain ⟨v31, h31⟩ := h30
        refine ⟨v31, ?_⟩
        intro x17_32 g33 g34
        have h32 := h31 x17_32 g33 g34
        refine fmX4_tellTwo h32 ?_
        intro M18_36 f35 h35
        have F35 : Ks (fun k j => k = 0 ∨ (8 ≤ k ∧ k ≤ 14) ∨ (160 ≤ k ∧ k ≤ 162) ∨ (190 ≤ k ∧ k ≤ 191) ∨ (195 ≤ k ∧ k ≤ 196) ∨ (k = 167 ∧ (j = 1))) M M18_36 := (F19).tr (f35.mono (mo_76))
        intro x19_37 g38 g39
        have h37 := h35 x19_37 g38 g39
        exact hQ _ _ F35 h37
      · intro g40
        have h41 := h26 g40
        exact hQ _ _ F19 h41
  · intro g42
    have h43 := h8 g42
    exact hQ _ _ F1 h43
theorem fmX2_period {k0 : Nat} {M : Mem} {Q Q' : Int → Mem → Prop} (h : qX2_period k0 M Q) (hQ : ∀ (w0 : Int) (M' : Mem), Ks (fun _ _ => False) M M' → Q w0 M' → Q' w0 M') : qX2_period k0 M Q' := by
  unfold qX2_period at h ⊢
  refine fmX2_uses h ?_
  intro x1_2 M1_3 f1 h1
  have F1 : Ks (fun _ _ => False) M M1_3 := (Ks.rf).tr (f1.mono (fun _ _ h => False.elim h))
  intro g4 g5
  have h6 := h1 g4 g5
  obtain ⟨h7, h8⟩ := h6
  refine ⟨?_, ?_⟩
  · intro g9
    have h10 := h7 g9
    unfold qX2_period_J14 at h10 ⊢
    refine fmX2_uses h10 ?_
    intro x3_12 M3_13 f11 h11
    have F11 : Ks (fun _ _ => False) M M3_13 := (F1).tr (f11.mono (fun _ _ h => False.elim h))
    intro g14 g15
    have h16 := h11 g14 g15
    obtain ⟨h17, h18⟩ := h16
    refine ⟨?_, ?_⟩
    · intro g19
      have h20 := h17 g19
      obtain ⟨v21, h21⟩ := h20
      refine ⟨v21, ?_⟩
      exact hQ _ _ F11 h21
    · intro g22
      have h23 := h18 g22
      intro x6_24 g25 g26
      have h24 := h23 x6_24 g25 g26
      obtain ⟨v27, h27⟩ := h24
      refine ⟨v27, ?_⟩
      exact hQ _ _ F11 h27
  · intro g28
    have h29 := h8 g28
    unfold qX2_period_J14 at h29 ⊢
    refine fmX2_uses h29 ?_
    intro x3_31 M3_32 f30 h30
    have F30 : Ks (fun _ _ => False) M M3_32 := (F1).tr (f30.mono (fun _ _ h => False.elim h))
    intro g33 g34
    have h35 := h30 g33 g34
    obtain ⟨h36, h37⟩ := h35
    refine ⟨?_, ?_⟩
    · intro g38
      have h39 := h36 g38
      obtain ⟨v40, h40⟩ := h39
      refine ⟨v40, ?_⟩
      exact hQ _ _ F30 h40
    · intro g41
      have h42 := h37 g41
      intro x6_43 g44 g45
      have h43 := h42 x6_43 g44 g45
      obtain ⟨v46, h46⟩ := h43
      refine ⟨v46, ?_⟩
      exact hQ _ _ F30 h46
theorem fmX10_toEnd_L15 {k1 : Nat} {k2 : Nat} {Q Q' : Mem → Prop} {M0 : Mem} (hQ : ∀ (M' : Mem), Ks (fun k j => (160 ≤ k ∧ k ≤ 162) ∨ (k = k1 ∧ (j = 8 ∨ j = 9 ∨ j = 10)) ∨ k = k1 + 1 ∨ k = k1 + 2 ∨ k = k1 + 3 ∨ k = k1 + 5 ∨ k = k1 + 6 ∨ k = k2 + 3 ∨ k = k2 + 4) M0 M' → Q M' → Q' M') : ∀ (n : Nat) (v3 v4 v5 : Int) (M : Mem), Ks (fun k j => (160 ≤ k ∧ k ≤ 162) ∨ (k = k1 ∧ (j = 8 ∨ j = 9 ∨ j = 10)) ∨ k = k1 + 1 ∨ k = k1 + 2 ∨ k = k1 + 3 ∨ k = k1 + 5 ∨ k = k1 + 6 ∨ k = k2 + 3 ∨ k = k2 + 4) M0 M → qX10_toEnd_L15 k1 k2 Q n v3 v4 v5 M → qX10_toEnd_L15 k1 k2 Q' n v3 v4 v5 M := by
  intro n
  induction n with
  | zero => intro v3 v4 v5 M _ h; exact h.elim
  | succ n ih =>
    intro v3 v4 v5 M hF h
    rw [qX10_toEnd_L15] at h
    rw [qX10_toEnd_L15]
    obtain ⟨v1, h1⟩ := h
    refine ⟨v1, ?_⟩
    obtain ⟨h2, h3⟩ := h1
    refine ⟨?_, ?_⟩
    · intro g4
      have h5 := h2 g4
      exact hQ _ hF h5
    · intro g6
      have h7 := h3 g6
      obtain ⟨v8, h8⟩ := h7
      refine ⟨v8, ?_⟩
      obtain ⟨v9, h9⟩ := h8
      refine ⟨v9, ?_⟩
      obtain ⟨h10, h11⟩ := h9
      refine ⟨?_, ?_⟩
      · intro g12
        have h13 := h10 g12
        exact hQ _ hF h13
      · intro g14
        have h15 := h11 g14
        intro x7_16 g17 g18
        have h16 := h15 x7_16 g17 g18
        intro x8_19 g20 g21
        have h19 := h16 x8_19 g20 g21
        obtain ⟨h22, h23⟩ := h19
        refine ⟨?_, ?_⟩
        · intro g24
          have h25 := h22 g24
          exact hQ _ hF h25
        · intro g26
          have h27 := h23 g26
          intro x10_28 g29 g30
          have h28 := h27 x10_28 g29 g30
          intro x11_31 g32 g33
          have h31 := h28 x11_31 g32 g33
          obtain ⟨h34, h35⟩ := h31
          refine ⟨?_, ?_⟩
          · intro g36
            have h37 := h34 g36
            refine fmX10_advance h37 ?_
            intro M13_39 f38 h38
            have F38 : Ks (fun k j => (160 ≤ k ∧ k ≤ 162) ∨ (k = k1 ∧ (j = 8 ∨ j = 9 ∨ j = 10)) ∨ k = k1 + 1 ∨ k = k1 + 2 ∨ k = k1 + 3 ∨ k = k1 + 5 ∨ k = k1 + 6 ∨ k = k2 + 3 ∨ k = k2 + 4) M0 M13_39 := (hF).tr (f38.mono (fun _ _ h => h))
            intro x14_40 g41 g42
            have h40 := h38 x14_40 g41 g42
            obtain ⟨h43, h44⟩ := h40
            refine ⟨?_, ?_⟩
            · intro g45
              have h46 := h43 g45
              exact ih _ _ _ _ F38 h46
            · intro g47
              have h48 := h44 g47
              exact ih _ _ _ _ F38 h48
          · intro g49
            have h50 := h35 g49
            exact hQ _ hF h50
theorem fmX10_toEnd {k1 : Nat} {k2 : Nat} {M : Mem} {Q Q' : Mem → Prop} (h : qX10_toEnd k1 k2 M Q) (hQ : ∀ (M' : Mem), Ks (fun k j => (160 ≤ k ∧ k ≤ 162) ∨ (k = k1 ∧ (j = 8 ∨ j = 9 ∨ j = 10)) ∨ k = k1 + 1 ∨ k = k1 + 2 ∨ k = k1 + 3 ∨ k = k1 + 5 ∨ k = k1 + 6 ∨ k = k2 + 3 ∨ k = k2 + 4) M M' → Q M' → Q' M') : qX10_toEnd k1 k2 M Q' := by
  unfold qX10_toEnd at h ⊢
  refine fmX2_period h ?_
  intro x1_2 M1_3 f1 h1
  have F1 : Ks (fun k j => (160 ≤ k ∧ k ≤ 162) ∨ (k = k1 ∧ (j = 8 ∨ j = 9 ∨ j = 10)) ∨ k = k1 + 1 ∨ k = k1 + 2 ∨ k = k1 + 3 ∨ k = k1 + 5 ∨ k = k1 + 6 ∨ k = k2 + 3 ∨ k = k2 + 4) M M1_3 := (Ks.rf).tr (f1.mono (fun _ _ h => False.elim h))
  intro g4
  have h5 := h1 g4
  obtain ⟨n6, h6⟩ := h5
  refine ⟨n6, ?_⟩
  refine fmX10_toEnd_L15 hQ _ _ _ _ _ F1 h6
theorem fmX6_isRight {k0 : Nat} {p1 : Int} {M : Mem} {Q Q' : Int → Mem → Prop} (h : qX6_isRight k0 p1 M Q) (hQ : ∀ (w0 : Int) (M' : Mem), Ks (fun _ _ => False) M M' → Q w0 M' → Q' w0 M') : qX6_isRight k0 p1 M Q' := by
  unfold qX6_isRight at h ⊢
  obtain ⟨v1, h1⟩ := h
  refine ⟨v1, ?_⟩
  obtain ⟨v2, h2⟩ := h1
  refine ⟨v2, ?_⟩
  intro x3_3 g4 g5
  have h3 := h2 x3_3 g4 g5
  intro x4_6 g7 g8
  have h6 := h3 x4_6 g7 g8
  obtain ⟨h9, h10⟩ := h6
  refine ⟨?_, ?_⟩
  · intro g11
    have h12 := h9 g11
    exact hQ _ _ Ks.rf h12
  · intro g13
    have h14 := h10 g13
    exact hQ _ _ Ks.rf h14
theorem fmX6_rightBits_L4 {k0 : Nat} {Q Q' : Int → Mem → Prop} {M0 : Mem} (hQ : ∀ (w0 : Int) (M' : Mem), Ks (fun _ _ => False) M0 M' → Q w0 M' → Q' w0 M') : ∀ (n : Nat) (v1 v2 : Int) (M : Mem), Ks (fun _ _ => False) M0 M → qX6_rightBits_L4 k0 Q n v1 v2 M → qX6_rightBits_L4 k0 Q' n v1 v2 M := by
  intro n
  induction n with
  | zero => intro v1 v2 M _ h; exact h.elim
  | succ n ih =>
    intro v1 v2 M hF h
    rw [qX6_rightBits_L4] at h
    rw [qX6_rightBits_L4]
    intro x1_1 g2 g3
    have h1 := h x1_1 g2 g3
    obtain ⟨v4, h4⟩ := h1
    refine ⟨v4, ?_⟩
    obtain ⟨h5, h6⟩ := h4
    refine ⟨?_, ?_⟩
    · intro g7
      have h8 := h5 g7
      obtain ⟨v9, h9⟩ := h8
      refine ⟨v9, ?_⟩
      exact hQ _ _ hF h9
    · intro g10
      have h11 := h6 g10
      refine fmX6_isRight h11 ?_
      intro x5_13 M5_14 f12 h12
      have F12 : Ks (fun _ _ => False) M0 M5_14 := (hF).tr (f12.mono (fun _ _ h => False.elim h))
      intro g15 g16
      have h17 := h12 g15 g16
      obtain ⟨h18, h19⟩ := h17
      refine ⟨?_, ?_⟩
      · intro g20
        have h21 := h18 g20
        intro x7_22 g23 g24
        have h22 := h21 x7_22 g23 g24
        exact ih _ _ _ F12 h22
      · intro g25
        have h26 := h19 g25
        intro x8_27 g28 g29
        have h27 := h26 x8_27 g28 g29
        intro x9_30 g31 g32
        have h30 := h27 x9_30 g31 g32
        exact ih _ _ _ F12 h30
theorem fmX6_rightBits {k0 : Nat} {M : Mem} {Q Q' : Int → Mem → Prop} (h : qX6_rightBits k0 M Q) (hQ : ∀ (w0 : Int) (M' : Mem), Ks (fun _ _ => False) M M' → Q w0 M' → Q' w0 M') : qX6_rightBits k0 M Q' := by
  unfold qX6_rightBits at h ⊢
  obtain ⟨n1, h1⟩ := h
  refine ⟨n1, ?_⟩
  refine fmX6_rightBits_L4 hQ _ _ _ _ Ks.rf h1
