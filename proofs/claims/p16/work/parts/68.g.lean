/-! what the calls leave of the text: nothing -/
theorem fzX9_clear  {M : Mem} {Q Q' : Mem → Prop} (h : qX9_clear M Q) (hQ : ∀ (M' : Mem), M' 156 1 = 0 → Q M' → Q' M') : qX9_clear M Q' := by
  unfold qX9_clear at h ⊢
  intro M1_1 eM1_1
  have h1 := h M1_1 eM1_1
  have T1 : M1_1 156 1 = 0 := by rw [eM1_1, up2_s]
  exact hQ _ T1 h1
theorem fzX11_avenue  {M : Mem} {Q Q' : Int → Mem → Prop} (h : qX11_avenue M Q) (hQ : ∀ (w0 : Int) (M' : Mem), M' 156 1 = 0 → Q w0 M' → Q' w0 M') : qX11_avenue M Q' := by
  unfold qX11_avenue at h ⊢
  refine fmX11_avenueFault h ?_
  intro x1_2 M1_3 f1 h1
  intro g4
  have h5 := h1 g4
  intro x2_6 g7 g8
  have h6 := h5 x2_6 g7 g8
  obtain ⟨h9, h10⟩ := h6
  refine ⟨?_, ?_⟩
  · intro g11
    have h12 := h9 g11
    unfold qX11_avenue_J47 at h12 ⊢
    refine fzX9_clear h12 ?_
    intro M4_14 T13 h13
    obtain ⟨v15, h15⟩ := h13
    refine ⟨v15, ?_⟩
    obtain ⟨h16, h17⟩ := h15
    refine ⟨?_, ?_⟩
    · intro g18
      have h19 := h16 g18
      obtain ⟨v20, h20⟩ := h19
      refine ⟨v20, ?_⟩
      exact hQ _ _ T13 h20
    · intro g21
      have h22 := h17 g21
      obtain ⟨v23, h23⟩ := h22
      refine ⟨v23, ?_⟩
      exact hQ _ _ T13 h23
  · intro g24
    have h25 := h10 g24
    refine fmX8_become h25 ?_
    intro M9_27 f26 h26
    refine fmX6_clear h26 ?_
    intro M10_29 f28 h28
    refine fmX1_clear h28 ?_
    intro M11_31 f30 h30
    refine fmX11_forgetKept h30 ?_
    intro M12_33 f32 h32
    unfold qX11_avenue_J47 at h32 ⊢
    refine fzX9_clear h32 ?_
    intro M4_35 T34 h34
    obtain ⟨v36, h36⟩ := h34
    refine ⟨v36, ?_⟩
    obtain ⟨h37, h38⟩ := h36
    refine ⟨?_, ?_⟩
    · intro g39
      have h40 := h37 g39
      obtain ⟨v41, h41⟩ := h40
      refine ⟨v41, ?_⟩
      exact hQ _ _ T34 h41
    · intro g42
      have h43 := h38 g42
      obtain ⟨v44, h44⟩ := h43
      refine ⟨v44, ?_⟩
      exact hQ _ _ T34 h44
theorem fzX11_hearses  {M : Mem} {Q Q' : Int → Mem → Prop} (h : qX11_hearses M Q) (hQ : ∀ (w0 : Int) (M' : Mem), M' 156 1 = 0 → Q w0 M' → Q' w0 M') : qX11_hearses M Q' := by
  unfold qX11_hearses at h ⊢
  refine fmX9_isEmpty h ?_
  intro x1_2 M1_3 f1 h1
  intro g4 g5
  have h6 := h1 g4 g5
  obtain ⟨h7, h8⟩ := h6
  refine ⟨?_, ?_⟩
  · intro g9
    have h10 := h7 g9
    refine fmX11_readLines h10 ?_
    intro x3_12 M3_13 f11 h11
    intro g14
    have h15 := h11 g14
    unfold qX11_hearses_J19 at h15 ⊢
    refine fzX9_clear h15 ?_
    intro M4_17 T16 h16
    obtain ⟨v18, h18⟩ := h16
    refine ⟨v18, ?_⟩
    exact hQ _ _ T16 h18
  · intro g19
    have h20 := h8 g19
    unfold qX11_hearses_J19 at h20 ⊢
    refine fzX9_clear h20 ?_
    intro M4_22 T21 h21
    obtain ⟨v23, h23⟩ := h21
    refine ⟨v23, ?_⟩
    exact hQ _ _ T21 h23
theorem fzX11_mourners  {M : Mem} {Q Q' : Int → Mem → Prop} (h : qX11_mourners M Q) (hQ : ∀ (w0 : Int) (M' : Mem), M' 156 1 = 0 → Q w0 M' → Q' w0 M') : qX11_mourners M Q' := by
  unfold qX11_mourners at h ⊢
  refine fmX9_isEmpty h ?_
  intro x1_2 M1_3 f1 h1
  intro g4 g5
  have h6 := h1 g4 g5
  obtain ⟨h7, h8⟩ := h6
  refine ⟨?_, ?_⟩
  · intro g9
    have h10 := h7 g9
    refine fmX11_readLines h10 ?_
    intro x3_12 M3_13 f11 h11
    intro g14
    have h15 := h11 g14
    unfold qX11_mourners_J19 at h15 ⊢
    refine fzX9_clear h15 ?_
    intro M4_17 T16 h16
    obtain ⟨v18, h18⟩ := h16
    refine ⟨v18, ?_⟩
    exact hQ _ _ T16 h18
  · intro g19
    have h20 := h8 g19
    unfold qX11_mourners_J19 at h20 ⊢
    refine fzX9_clear h20 ?_
    intro M4_22 T21 h21
    obtain ⟨v23, h23⟩ := h21
    refine ⟨v23, ?_⟩
    exact hQ _ _ T21 h23
theorem fzX11_weather  {M : Mem} {Q Q' : Int → Mem → Prop} (h : qX11_weather M Q) (hQ : ∀ (w0 : Int) (M' : Mem), M' 156 1 = 0 → Q w0 M' → Q' w0 M') : qX11_weather M Q' := by
  unfold qX11_weather at h ⊢
  refine fmX11_weatherFault h ?_
  intro x1_2 M1_3 f1 h1
  intro g4
  have h5 := h1 g4
  intro x2_6 g7 g8
  have h6 := h5 x2_6 g7 g8
  obtain ⟨h9, h10⟩ := h6
  refine ⟨?_, ?_⟩
  · intro g11
    have h12 := h9 g11
    unfold qX11_weather_J29 at h12 ⊢
    refine fzX9_clear h12 ?_
    intro M4_14 T13 h13
    obtain ⟨v15, h15⟩ := h13
    refine ⟨v15, ?_⟩
    obtain ⟨h16, h17⟩ := h15
    refine ⟨?_, ?_⟩
    · intro g18
      have h19 := h16 g18
      obtain ⟨v20, h20⟩ := h19
      refine ⟨v20, ?_⟩
      exact hQ _ _ T13 h20
    · intro g21
      have h22 := h17 g21
      obtain ⟨v23, h23⟩ := h22
      refine ⟨v23, ?_⟩
      exact hQ _ _ T13 h23
  · intro g24
    have h25 := h10 g24
    refine fmX8_takeWeather h25 ?_
    intro M9_27 f26 h26
    unfold qX11_weather_J29 at h26 ⊢
    refine fzX9_clear h26 ?_
    intro M4_29 T28 h28
    obtain ⟨v30, h30⟩ := h28
    refine ⟨v30, ?_⟩
    obtain ⟨h31, h32⟩ := h30
    refine ⟨?_, ?_⟩
    · intro g33
      have h34 := h31 g33
      obtain ⟨v35, h35⟩ := h34
      refine ⟨v35, ?_⟩
      exact hQ _ _ T28 h35
    · intro g36
      have h37 := h32 g36
      obtain ⟨v38, h38⟩ := h37
      refine ⟨v38, ?_⟩
      exact hQ _ _ T28 h38
theorem fzX11_rule  {M : Mem} {Q Q' : Int → Mem → Prop} (h : qX11_rule M Q) (hQ : ∀ (w0 : Int) (M' : Mem), M' 156 1 = 0 → Q w0 M' → Q' w0 M') : qX11_rule M Q' := by
  unfold qX11_rule at h ⊢
  obtain ⟨v1, h1⟩ := h
  refine ⟨v1, ?_⟩
  have w1 : (M 155 17).toNat = 187 ∨ (M 155 17).toNat = 192 := v1
  refine fmX5_read h1 ?_
  intro x2_3 M2_4 f2 h2
  intro g5
  have h6 := h2 g5
  refine fzX9_clear h6 ?_
  intro M3_8 T7 h7
  obtain ⟨h9, h10⟩ := h7
  refine ⟨?_, ?_⟩
  · intro g11
    have h12 := h9 g11
    obtain ⟨v13, h13⟩ := h12
    refine ⟨v13, ?_⟩
    have w13 : (M3_8 155 16).toNat = 187 ∨ (M3_8 155 16).toNat = 192 := v13
    obtain ⟨v14, h14⟩ := h13
    refine ⟨v14, ?_⟩
    have w14 : (M3_8 155 17).toNat = 187 ∨ (M3_8 155 17).toNat = 192 := v14
    intro M7_15 eM7_15
    have h15 := h14 M7_15 eM7_15
    have T15 : M7_15 156 1 = 0 := by rw [eM7_15, up2_n (by decide)]; exact T7
    intro M8_16 eM8_16
    have h16 := h15 M8_16 eM8_16
    have T16 : M8_16 156 1 = 0 := by rw [eM8_16, up2_n (by decide)]; exact T15
    exact hQ _ _ T16 h16
  · intro g17
    have h18 := h10 g17
    obtain ⟨v19, h19⟩ := h18
    refine ⟨v19, ?_⟩
    exact hQ _ _ T7 h19
theorem fzX11_hour_L32  {X92 X92' : Int → Int → Int → Mem → Prop} {Q Q' : Int → Mem → Prop} (hX92 : ∀ (w0 w1 w2 : Int) (M' : Mem), X92 w0 w1 w2 M' → X92' w0 w1 w2 M') : ∀ (n : Nat) (v1 v2 v3 v4 : Int) (M : Mem), qX11_hour_L32 X92 Q n v1 v2 v3 v4 M → qX11_hour_L32 X92' Q' n v1 v2 v3 v4 M := by
  intro n
  induction n with
  | zero => intro v1 v2 v3 v4 M h; exact h.elim
  | succ n ih =>
    intro v1 v2 v3 v4 M h
    rw [qX11_hour_L32] at h
    rw [qX11_hour_L32]
    obtain ⟨v1, h1⟩ := h
    refine ⟨v1, ?_⟩
    obtain ⟨h2, h3⟩ := h1
    refine ⟨?_, ?_⟩
    · intro g4
      have h5 := h2 g4
      exact hX92 _ _ _ _ h5
    · intro g6
      have h7 := h3 g6
      obtain ⟨v8, h8⟩ := h7
      refine ⟨v8, ?_⟩
      obtain ⟨h9, h10⟩ := h8
      refine ⟨?_, ?_⟩
      · intro g11
        have h12 := h9 g11
        exact hX92 _ _ _ _ h12
      · intro g13
        have h14 := h10 g13
        obtain ⟨v15, h15⟩ := h14
        refine ⟨v15, ?_⟩
        obtain ⟨h16, h17⟩ := h15
        refine ⟨?_, ?_⟩
        · intro g18
          have h19 := h16 g18
          exact hX92 _ _ _ _ h19
        · intro g20
          have h21 := h17 g20
          refine fmX9_isRead h21 ?_
          intro x10_23 M10_24 f22 h22
          intro g25 g26
          have h27 := h22 g25 g26
          obtain ⟨h28, h29⟩ := h27
          refine ⟨?_, ?_⟩
          · intro g30
            have h31 := h28 g30
            exact hX92 _ _ _ _ h31
          · intro g32
            have h33 := h29 g32
            refine fmX11_doAct h33 ?_
            intro x12_35 M12_36 f34 h34
            intro g37
            have h38 := h34 g37
            refine fmX11_isDone h38 ?_
            intro x13_40 M13_41 f39 h39
            intro g42 g43
            have h44 := h39 g42 g43
            obtain ⟨h45, h46⟩ := h44
            refine ⟨?_, ?_⟩
            · intro g47
              have h48 := h45 g47
              unfold qX11_hour_J73 at h48 ⊢
              obtain ⟨v49, h49⟩ := h48
              refine ⟨v49, ?_⟩
              obtain ⟨h50, h51⟩ := h49
              refine ⟨?_, ?_⟩
              · intro g52
                have h53 := h50 g52
                exact ih _ _ _ _ _ h53
              · intro g54
                have h55 := h51 g54
                exact ih _ _ _ _ _ h55
            · intro g56
              have h57 := h46 g56
              unfold qX11_hour_J73 at h57 ⊢
              obtain ⟨v58, h58⟩ := h57
              refine ⟨v58, ?_⟩
              obtain ⟨h59, h60⟩ := h58
              refine ⟨?_, ?_⟩
              · intro g61
                have h62 := h59 g61
                exact ih _ _ _ _ _ h62
              · intro g63
                have h64 := h60 g63
                exact ih _ _ _ _ _ h64
theorem fzX11_hour  {M : Mem} {Q Q' : Int → Mem → Prop} (h : qX11_hour M Q) (hQ : ∀ (w0 : Int) (M' : Mem), M' 156 1 = 0 → Q w0 M' → Q' w0 M') : qX11_hour M Q' := by
  unfold qX11_hour at h ⊢
  refine fmX11_hourFault h ?_
  intro x1_2 M1_3 f1 h1
  intro g4
  have h5 := h1 g4
  refine fmX6_copyFrom h5 ?_
  intro M2_7 f6 h6
  refine fmX9_open h6 ?_
  intro M3_9 f8 h8
  obtain ⟨n10, h10⟩ := h8
  refine ⟨n10, ?_⟩
  refine fzX11_hour_L32 ?_ _ _ _ _ _ _ h10
  · intro v1_12 v2_13 v3_14 M_15 h11
    unfold qX11_hour_J92 at h11 ⊢
    refine fzX9_clear h11 ?_
    intro M18_17 T16 h16
    obtain ⟨v18, h18⟩ := h16
    refine ⟨v18, ?_⟩
    obtain ⟨h19, h20⟩ := h18
    refine ⟨?_, ?_⟩
    · intro g21
      have h22 := h19 g21
      obtain ⟨v23, h23⟩ := h22
      refine ⟨v23, ?_⟩
      obtain ⟨h24, h25⟩ := h23
      refine ⟨?_, ?_⟩
      · intro g26
        have h27 := h24 g26
        unfold qX11_hour_J123 at h27 ⊢
        obtain ⟨v28, h28⟩ := h27
        refine ⟨v28, ?_⟩
        obtain ⟨h29, h30⟩ := h28
        refine ⟨?_, ?_⟩
        · intro g31
          have h32 := h29 g31
          unfold qX11_hour_J136 at h32 ⊢
          intro x25_33 g34 g35
          have h33 := h32 x25_33 g34 g35
          obtain ⟨v36, h36⟩ := h33
          refine ⟨v36, ?_⟩
          refine fmX4_tellTwo h36 ?_
          intro M27_38 f37 h37
          have T37 : M27_38 156 1 = 0 := by rw [f37 156 1 (by first | omega | exact fun h => h)]; exact T16
          obtain ⟨v39, h39⟩ := h37
          refine ⟨v39, ?_⟩
          exact hQ _ _ T37 h39
        · intro g40
          have h41 := h30 g40
          unfold qX11_hour_J136 at h41 ⊢
          intro x25_42 g43 g44
          have h42 := h41 x25_42 g43 g44
          obtain ⟨v45, h45⟩ := h42
          refine ⟨v45, ?_⟩
          refine fmX4_tellTwo h45 ?_
          intro M27_47 f46 h46
          have T46 : M27_47 156 1 = 0 := by rw [f46 156 1 (by first | omega | exact fun h => h)]; exact T16
          obtain ⟨v48, h48⟩ := h46
          refine ⟨v48, ?_⟩
          exact hQ _ _ T46 h48
      · intro g49
        have h50 := h25 g49
        refine fmX1_add h50 ?_
        intro M29_52 f51 h51
        have T51 : M29_52 156 1 = 0 := by rw [f51 156 1 (by first | omega | exact fun h => h)]; exact T16
        unfold qX11_hour_J123 at h51 ⊢
        obtain ⟨v53, h53⟩ := h51
        refine ⟨v53, ?_⟩
        obtain ⟨h54, h55⟩ := h53
        refine ⟨?_, ?_⟩
        · intro g56
          have h57 := h54 g56
          unfold qX11_hour_J136 at h57 ⊢
          intro x25_58 g59 g60
          have h58 := h57 x25_58 g59 g60
          obtain ⟨v61, h61⟩ := h58
          refine ⟨v61, ?_⟩
          refine fmX4_tellTwo h61 ?_
          intro M27_63 f62 h62
          have T62 : M27_63 156 1 = 0 := by rw [f62 156 1 (by first | omega | exact fun h => h)]; exact T51
          obtain ⟨v64, h64⟩ := h62
          refine ⟨v64, ?_⟩
          exact hQ _ _ T62 h64
        · intro g65
          have h66 := h55 g65
          unfold qX11_hour_J136 at h66 ⊢
          intro x25_67 g68 g69
          have h67 := h66 x25_67 g68 g69
          obtain ⟨v70, h70⟩ := h67
          refine ⟨v70, ?_⟩
          refine fmX4_tellTwo h70 ?_
          intro M27_72 f71 h71
          have T71 : M27_72 156 1 = 0 := by rw [f71 156 1 (by first | omega | exact fun h => h)]; exact T51
          obtain ⟨v73, h73⟩ := h71
          refine ⟨v73, ?_⟩
          exact hQ _ _ T71 h73
    · intro g74
      have h75 := h20 g74
      obtain ⟨v76, h76⟩ := h75
      refine ⟨v76, ?_⟩
      exact hQ _ _ T16 h76
theorem fzX11_law  {M : Mem} {Q Q' : Int → Mem → Prop} (h : qX11_law M Q) (hQ : ∀ (w0 : Int) (M' : Mem), M' 156 1 = 0 → Q w0 M' → Q' w0 M') : qX11_law M Q' := by
  unfold qX11_law at h ⊢
  obtain ⟨v1, h1⟩ := h
  refine ⟨v1, ?_⟩
  have w1 : (M 155 17).toNat = 187 ∨ (M 155 17).toNat = 192 := v1
  refine fmX5_read h1 ?_
  intro x2_3 M2_4 f2 h2
  intro g5
  have h6 := h2 g5
  refine fzX9_clear h6 ?_
  intro M3_8 T7 h7
  obtain ⟨h9, h10⟩ := h7
  refine ⟨?_, ?_⟩
  · intro g11
    have h12 := h9 g11
    refine fmX6_copyFrom h12 ?_
    intro M5_14 f13 h13
    have T13 : M5_14 156 1 = 0 := by rw [f13 156 1 (by first | omega | exact fun h => h)]; exact T7
    obtain ⟨v15, h15⟩ := h13
    refine ⟨v15, ?_⟩
    have w15 : (M5_14 155 17).toNat = 187 ∨ (M5_14 155 17).toNat = 192 := v15
    refine fmX11_rightOnesOfTrial h15 ?_
    intro x7_17 M7_18 f16 h16
    have T16 : M7_18 156 1 = 0 := by rw [f16 156 1 (by first | omega | exact fun h => h)]; exact T13
    intro g19
    have h20 := h16 g19
    refine fmJ6_bitCount_0f7a4 h20 ?_
    intro x8_22 M8_23 f21 h21
    have T21 : M8_23 156 1 = 0 := by rw [f21 156 1 (by first | omega | exact fun h => h)]; exact T16
    intro g24
    have h25 := h21 g24
    refine fmX6_copyFrom h25 ?_
    intro M9_27 f26 h26
    have T26 : M9_27 156 1 = 0 := by rw [f26 156 1 (by first | omega | exact fun h => h)]; exact T21
    obtain ⟨v28, h28⟩ := h26
    refine ⟨v28, ?_⟩
    have w28 : (M9_27 155 16).toNat = 187 ∨ (M9_27 155 16).toNat = 192 := v28
    refine fmX11_rightOnesOfTrial h28 ?_
    intro x11_30 M11_31 f29 h29
    have T29 : M11_31 156 1 = 0 := by rw [f29 156 1 (by first | omega | exact fun h => h)]; exact T26
    intro g32
    have h33 := h29 g32
    refine fmJ6_bitCount_0f7a4 h33 ?_
    intro x12_35 M12_36 f34 h34
    have T34 : M12_36 156 1 = 0 := by rw [f34 156 1 (by first | omega | exact fun h => h)]; exact T29
    intro g37
    have h38 := h34 g37
    refine fmX4_tellTwo h38 ?_
    intro M13_40 f39 h39
    have T39 : M13_40 156 1 = 0 := by rw [f39 156 1 (by first | omega | exact fun h => h)]; exact T34
    obtain ⟨v41, h41⟩ := h39
    refine ⟨v41, ?_⟩
    exact hQ _ _ T39 h41
  · intro g42
    have h43 := h10 g42
    obtain ⟨v44, h44⟩ := h43
    refine ⟨v44, ?_⟩
    exact hQ _ _ T7 h44
theorem fzX12_begins {p1 : Int} {M : Mem} {Q Q' : Int → Mem → Prop} (h : qX12_begins p1 M Q) (hQ : ∀ (w0 : Int) (M' : Mem), M' 1 14 = 0 → Q w0 M' → Q' w0 M') : qX12_begins p1 M Q' := by
  unfold qX12_begins at h ⊢
  intro x1_1 g2 g3
  have h1 := h x1_1 g2 g3
  intro M2_4 eM2_4
  have h4 := h1 M2_4 eM2_4
  have T4 : M2_4 1 14 = 0 := by rw [eM2_4, up2_s]
  intro M3_5 eM3_5
  have h5 := h4 M3_5 eM3_5
  have T5 : M3_5 1 14 = 0 := by rw [eM3_5, up2_j (by decide)]; exact T4
  intro M4_6 eM4_6
  have h6 := h5 M4_6 eM4_6
  have T6 : M4_6 1 14 = 0 := by rw [eM4_6, up2_j (by decide)]; exact T5
  intro x5_7 g8 g9
  have h7 := h6 x5_7 g8 g9
  intro M6_10 eM6_10
  have h10 := h7 M6_10 eM6_10
  have T10 : M6_10 1 14 = 0 := by rw [eM6_10, up2_j (by decide)]; exact T6
  exact hQ _ _ T10 h10
theorem fzX12_avenue_L16  {X69 X69' : Int → Mem → Prop} {Q Q' : Int → Mem → Prop} (hX69 : ∀ (w0 : Int) (M' : Mem), M' 1 14 = 0 → X69 w0 M' → X69' w0 M') : ∀ (n : Nat) (v1 v2 : Int) (M : Mem), M 1 14 = 0 → qX12_avenue_L16 X69 Q n v1 v2 M → qX12_avenue_L16 X69' Q' n v1 v2 M := by
  intro n
  induction n with
  | zero => intro v1 v2 M _ h; exact h.elim
  | succ n ih =>
    intro v1 v2 M hT h
    rw [qX12_avenue_L16] at h
    rw [qX12_avenue_L16]
    obtain ⟨v1, h1⟩ := h
    refine ⟨v1, ?_⟩
    obtain ⟨h2, h3⟩ := h1
    refine ⟨?_, ?_⟩
    · intro g4
      have h5 := h2 g4
      exact hX69 _ _ hT h5
    · intro g6
      have h7 := h3 g6
      obtain ⟨v8, h8⟩ := h7
      refine ⟨v8, ?_⟩
      obtain ⟨h9, h10⟩ := h8
      refine ⟨?_, ?_⟩
      · intro g11
        have h12 := h9 g11
        exact hX69 _ _ hT h12
      · intro g13
        have h14 := h10 g13
        refine fmX12_takesOf h14 ?_
        intro x7_16 M7_17 f15 h15
        have T15 : M7_17 1 14 = 0 := by rw [f15 1 14 (by first | omega | exact fun h => h)]; exact hT
        intro g18
        have h19 := h15 g18
        obtain ⟨h20, h21⟩ := h19
        refine ⟨?_, ?_⟩
        · intro g22
          have h23 := h20 g22
          unfold qX12_avenue_J42 at h23 ⊢
          obtain ⟨v24, h24⟩ := h23
          refine ⟨v24, ?_⟩
          obtain ⟨h25, h26⟩ := h24
          refine ⟨?_, ?_⟩
          · intro g27
            have h28 := h25 g27
            unfold qX12_avenue_J58 at h28 ⊢
            obtain ⟨v29, h29⟩ := h28
            refine ⟨v29, ?_⟩
            obtain ⟨v30, h30⟩ := h29
            refine ⟨v30, ?_⟩
            obtain ⟨v31, h31⟩ := h30
            refine ⟨v31, ?_⟩
            obtain ⟨v32, h32⟩ := h31
            refine ⟨v32, ?_⟩
            intro M15_33 eM15_33
            have h33 := h32 M15_33 eM15_33
            have T33 : M15_33 1 14 = 0 := by rw [eM15_33, up2_n (by decide)]; exact T15
            obtain ⟨v34, h34⟩ := h33
            refine ⟨v34, ?_⟩
            refine fmX12_flag h34 ?_
            intro x17_36 M17_37 f35 h35
            have T35 : M17_37 1 14 = 0 := by rw [f35 1 14 (by first | omega | exact fun h => h)]; exact T33
            intro g38
            have h39 := h35 g38
            exact ih _ _ _ T35 h39
          · intro g40
            have h41 := h26 g40
            unfold qX12_avenue_J58 at h41 ⊢
            obtain ⟨v42, h42⟩ := h41
            refine ⟨v42, ?_⟩
            obtain ⟨v43, h43⟩ := h42
            refine ⟨v43, ?_⟩
            obtain ⟨v44, h44⟩ := h43
            refine ⟨v44, ?_⟩
            obtain ⟨v45, h45⟩ := h44
            refine ⟨v45, ?_⟩
            intro M15_46 eM15_46
            have h46 := h45 M15_46 eM15_46
            have T46 : M15_46 1 14 = 0 := by rw [eM15_46, up2_n (by decide)]; exact T15
            obtain ⟨v47, h47⟩ := h46
            refine ⟨v47, ?_⟩
            refine fmX12_flag h47 ?_
            intro x17_49 M17_50 f48 h48
            have T48 : M17_50 1 14 = 0 := by rw [f48 1 14 (by first | omega | exact fun h => h)]; exact T46
            intro g51
            have h52 := h48 g51
            exact ih _ _ _ T48 h52
        · intro g53
          have h54 := h21 g53
          unfold qX12_avenue_J42 at h54 ⊢
          obtain ⟨v55, h55⟩ := h54
          refine ⟨v55, ?_⟩
          obtain ⟨h56, h57⟩ := h55
          refine ⟨?_, ?_⟩
          · intro g58
            have h59 := h56 g58
            unfold qX12_avenue_J58 at h59 ⊢
            obtain ⟨v60, h60⟩ := h59
            refine ⟨v60, ?_⟩
            obtain ⟨v61, h61⟩ := h60
            refine ⟨v61, ?_⟩
            obtain ⟨v62, h62⟩ := h61
            refine ⟨v62, ?_⟩
            obtain ⟨v63, h63⟩ := h62
            refine ⟨v63, ?_⟩
            intro M15_64 eM15_64
            have h64 := h63 M15_64 eM15_64
            have T64 : M15_64 1 14 = 0 := by rw [eM15_64, up2_n (by decide)]; exact T15
            obtain ⟨v65, h65⟩ := h64
            refine ⟨v65, ?_⟩
            refine fmX12_flag h65 ?_
            intro x17_67 M17_68 f66 h66
            have T66 : M17_68 1 14 = 0 := by rw [f66 1 14 (by first | omega | exact fun h => h)]; exact T64
            intro g69
            have h70 := h66 g69
            exact ih _ _ _ T66 h70
          · intro g71
            have h72 := h57 g71
            unfold qX12_avenue_J58 at h72 ⊢
            obtain ⟨v73, h73⟩ := h72
            refine ⟨v73, ?_⟩
            obtain ⟨v74, h74⟩ := h73
            refine ⟨v74, ?_⟩
            obtain ⟨v75, h75⟩ := h74
            refine ⟨v75, ?_⟩
            obtain ⟨v76, h76⟩ := h75
            refine ⟨v76, ?_⟩
            intro M15_77 eM15_77
            have h77 := h76 M15_77 eM15_77
            have T77 : M15_77 1 14 = 0 := by rw [eM15_77, up2_n (by decide)]; exact T15
            obtain ⟨v78, h78⟩ := h77
            refine ⟨v78, ?_⟩
            refine fmX12_flag h78 ?_
            intro x17_80 M17_81 f79 h79
            have T79 : M17_81 1 14 = 0 := by rw [f79 1 14 (by first | omega | exact fun h => h)]; exact T77
            intro g82
            have h83 := h79 g82
            exact ih _ _ _ T79 h83
theorem fzX12_avenue_L99  {X122 X122' : Int → Mem → Prop} {Q Q' : Int → Mem → Prop} (hX122 : ∀ (w0 : Int) (M' : Mem), M' 1 14 = 0 → X122 w0 M' → X122' w0 M') : ∀ (n : Nat) (v1 v3 : Int) (M : Mem), M 1 14 = 0 → qX12_avenue_L99 X122 Q n v1 v3 M → qX12_avenue_L99 X122' Q' n v1 v3 M := by
  intro n
  induction n with
  | zero => intro v1 v3 M _ h; exact h.elim
  | succ n ih =>
    intro v1 v3 M hT h
    rw [qX12_avenue_L99] at h
    rw [qX12_avenue_L99]
    obtain ⟨v1, h1⟩ := h
    refine ⟨v1, ?_⟩
    obtain ⟨v2, h2⟩ := h1
    refine ⟨v2, ?_⟩
    obtain ⟨h3, h4⟩ := h2
    refine ⟨?_, ?_⟩
    · intro g5
      have h6 := h3 g5
      exact hX122 _ _ hT h6
    · intro g7
      have h8 := h4 g7
      obtain ⟨v9, h9⟩ := h8
      refine ⟨v9, ?_⟩
      obtain ⟨v10, h10⟩ := h9
      refine ⟨v10, ?_⟩
      intro x32_11 g12 g13
      have h11 := h10 x32_11 g12 g13
      obtain ⟨v14, h14⟩ := h11
      refine ⟨v14, ?_⟩
      intro M34_15 eM34_15
      have h15 := h14 M34_15 eM34_15
      have T15 : M34_15 1 14 = 0 := by rw [eM34_15, up2_n (by decide)]; exact hT
      exact ih _ _ _ T15 h15
theorem fzX12_avenue_L155  {Q Q' : Int → Mem → Prop} (hQ : ∀ (w0 : Int) (M' : Mem), M' 1 14 = 0 → Q w0 M' → Q' w0 M') : ∀ (n : Nat) (v1 v3 : Int) (M : Mem), M 1 14 = 0 → qX12_avenue_L155 Q n v1 v3 M → qX12_avenue_L155 Q' n v1 v3 M := by
  intro n
  induction n with
  | zero => intro v1 v3 M _ h; exact h.elim
  | succ n ih =>
    intro v1 v3 M hT h
    rw [qX12_avenue_L155] at h
    rw [qX12_avenue_L155]
    obtain ⟨v1, h1⟩ := h
    refine ⟨v1, ?_⟩
    obtain ⟨h2, h3⟩ := h1
    refine ⟨?_, ?_⟩
    · intro g4
      have h5 := h2 g4
      obtain ⟨v6, h6⟩ := h5
      refine ⟨v6, ?_⟩
      exact hQ _ _ hT h6
    · intro g7
      have h8 := h3 g7
      obtain ⟨v9, h9⟩ := h8
      refine ⟨v9, ?_⟩
      obtain ⟨v10, h10⟩ := h9
      refine ⟨v10, ?_⟩
      intro M46_11 eM46_11
      have h11 := h10 M46_11 eM46_11
      have T11 : M46_11 1 14 = 0 := by rw [eM46_11, up2_n (by decide)]; exact hT
      exact ih _ _ _ T11 h11
theorem fzX12_avenue  {M : Mem} {Q Q' : Int → Mem → Prop} (h : qX12_avenue M Q) (hQ : ∀ (w0 : Int) (M' : Mem), M' 1 14 = 0 → Q w0 M' → Q' w0 M') : qX12_avenue M Q' := by
  unfold qX12_avenue at h ⊢
  intro M1_1 eM1_1
  have h1 := h M1_1 eM1_1
  refine fzX12_begins h1 ?_
  intro x2_3 M2_4 T2 h2
  intro g5
  have h6 := h2 g5
  obtain ⟨n7, h7⟩ := h6
  refine ⟨n7, ?_⟩
  refine fzX12_avenue_L16 ?_ _ _ _ _ T2 h7
  · intro v1_9 M_10 T8 h8
    unfold qX12_avenue_J69 at h8 ⊢
    obtain ⟨v11, h11⟩ := h8
    refine ⟨v11, ?_⟩
    obtain ⟨h12, h13⟩ := h11
    refine ⟨?_, ?_⟩
    · intro g14
      have h15 := h12 g14
      intro x21_16 g17 g18
      have h16 := h15 x21_16 g17 g18
      obtain ⟨v19, h19⟩ := h16
      refine ⟨v19, ?_⟩
      exact hQ _ _ T8 h19
    · intro g20
      have h21 := h13 g20
      intro x23_22 g23 g24
      have h22 := h21 x23_22 g23 g24
      intro x24_25 g26 g27
      have h25 := h22 x24_25 g26 g27
      obtain ⟨h28, h29⟩ := h25
      refine ⟨?_, ?_⟩
      · intro g30
        have h31 := h28 g30
        intro M26_32 eM26_32
        have h32 := h31 M26_32 eM26_32
        have T32 : M26_32 1 14 = 0 := by rw [eM26_32, up2_j (by decide)]; exact T8
        obtain ⟨n33, h33⟩ := h32
        refine ⟨n33, ?_⟩
        refine fzX12_avenue_L99 ?_ _ _ _ _ T32 h33
        · intro v1_35 M_36 T34 h34
          intro M36_37 eM36_37
          have h37 := h34 M36_37 eM36_37
          have T37 : M36_37 1 14 = 0 := by rw [eM36_37, up2_j (by decide)]; exact T34
          intro M37_38 eM37_38
          have h38 := h37 M37_38 eM37_38
          have T38 : M37_38 1 14 = 0 := by rw [eM37_38, up2_j (by decide)]; exact T37
          intro M38_39 eM38_39
          have h39 := h38 M38_39 eM38_39
          have T39 : M38_39 1 14 = 0 := by rw [eM38_39, up2_n (by decide)]; exact T38
          intro M39_40 eM39_40
          have h40 := h39 M39_40 eM39_40
          have T40 : M39_40 1 14 = 0 := by rw [eM39_40, up2_n (by decide)]; exact T39
          intro M40_41 eM40_41
          have h41 := h40 M40_41 eM40_41
          have T41 : M40_41 1 14 = 0 := by rw [eM40_41, up2_j (by decide)]; exact T40
          obtain ⟨n42, h42⟩ := h41
          refine ⟨n42, ?_⟩
          refine fzX12_avenue_L155 hQ _ _ _ _ T41 h42
      · intro g43
        have h44 := h29 g43
        intro x48_45 g46 g47
        have h45 := h44 x48_45 g46 g47
        obtain ⟨v48, h48⟩ := h45
        refine ⟨v48, ?_⟩
        exact hQ _ _ T8 h48
theorem fzX12_hearses_L29  {X60 X60' : Int → Int → Mem → Prop} {Q Q' : Int → Mem → Prop} (hX60 : ∀ (w0 w1 : Int) (M' : Mem), M' 1 14 = 0 → X60 w0 w1 M' → X60' w0 w1 M') : ∀ (n : Nat) (v1 v2 v3 : Int) (M : Mem), M 1 14 = 0 → qX12_hearses_L29 X60 Q n v1 v2 v3 M → qX12_hearses_L29 X60' Q' n v1 v2 v3 M := by
  intro n
  induction n with
  | zero => intro v1 v2 v3 M _ h; exact h.elim
  | succ n ih =>
    intro v1 v2 v3 M hT h
    rw [qX12_hearses_L29] at h
    rw [qX12_hearses_L29]
    obtain ⟨v1, h1⟩ := h
    refine ⟨v1, ?_⟩
    obtain ⟨h2, h3⟩ := h1
    refine ⟨?_, ?_⟩
    · intro g4
      have h5 := h2 g4
      exact hX60 _ _ _ hT h5
    · intro g6
      have h7 := h3 g6
      refine fmX12_readsHearse h7 ?_
      intro x7_9 M7_10 f8 h8
      have T8 : M7_10 1 14 = 0 := by rw [f8 1 14 (by first | omega | exact fun h => h)]; exact hT
      intro g11 g12
      have h13 := h8 g11 g12
      obtain ⟨h14, h15⟩ := h13
      refine ⟨?_, ?_⟩
      · intro g16
        have h17 := h14 g16
        exact ih _ _ _ _ T8 h17
      · intro g18
        have h19 := h15 g18
        refine fmX12_takes h19 ?_
        intro x9_21 M9_22 f20 h20
        have T20 : M9_22 1 14 = 0 := by rw [f20 1 14 (by first | omega | exact fun h => h)]; exact T8
        intro g23 g24
        have h25 := h20 g23 g24
        obtain ⟨h26, h27⟩ := h25
        refine ⟨?_, ?_⟩
        · intro g28
          have h29 := h26 g28
          exact ih _ _ _ _ T20 h29
        · intro g30
          have h31 := h27 g30
          exact ih _ _ _ _ T20 h31
theorem fzX12_hearses_L81  {X135 X135' : Mem → Prop} {Q Q' : Int → Mem → Prop} (hX135 : ∀ (M' : Mem), M' 1 14 = 0 → X135 M' → X135' M') : ∀ (n : Nat) (v5 : Int) (M : Mem), M 1 14 = 0 → qX12_hearses_L81 X135 Q n v5 M → qX12_hearses_L81 X135' Q' n v5 M := by
  intro n
  induction n with
  | zero => intro v5 M _ h; exact h.elim
  | succ n ih =>
    intro v5 M hT h
    rw [qX12_hearses_L81] at h
    rw [qX12_hearses_L81]
    intro x16_1 g2 g3
    have h1 := h x16_1 g2 g3
    obtain ⟨v4, h4⟩ := h1
    refine ⟨v4, ?_⟩
    obtain ⟨h5, h6⟩ := h4
    refine ⟨?_, ?_⟩
    · intro g7
      have h8 := h5 g7
      exact hX135 _ hT h8
    · intro g9
      have h10 := h6 g9
      intro x19_11 g12 g13
      have h11 := h10 x19_11 g12 g13
      obtain ⟨v14, h14⟩ := h11
      refine ⟨v14, ?_⟩
      obtain ⟨v15, h15⟩ := h14
      refine ⟨v15, ?_⟩
      intro x22_16 g17 g18
      have h16 := h15 x22_16 g17 g18
      obtain ⟨v19, h19⟩ := h16
      refine ⟨v19, ?_⟩
      obtain ⟨v20, h20⟩ := h19
      refine ⟨v20, ?_⟩
      intro M25_21 eM25_21
      have h21 := h20 M25_21 eM25_21
      have T21 : M25_21 1 14 = 0 := by rw [eM25_21, up2_n (by decide)]; exact hT
      intro x26_22 g23 g24
      have h22 := h21 x26_22 g23 g24
      obtain ⟨v25, h25⟩ := h22
      refine ⟨v25, ?_⟩
      obtain ⟨v26, h26⟩ := h25
      refine ⟨v26, ?_⟩
      intro M29_27 eM29_27
      have h27 := h26 M29_27 eM29_27
      have T27 : M29_27 1 14 = 0 := by rw [eM29_27, up2_n (by decide)]; exact T21
      intro x30_28 g29 g30
      have h28 := h27 x30_28 g29 g30
      obtain ⟨v31, h31⟩ := h28
      refine ⟨v31, ?_⟩
      intro M32_32 eM32_32
      have h32 := h31 M32_32 eM32_32
      have T32 : M32_32 1 14 = 0 := by rw [eM32_32, up2_j (by decide)]; exact T27
      exact ih _ _ T32 h32
theorem fzX12_hearses  {M : Mem} {Q Q' : Int → Mem → Prop} (h : qX12_hearses M Q) (hQ : ∀ (w0 : Int) (M' : Mem), M' 1 14 = 0 → Q w0 M' → Q' w0 M') : qX12_hearses M Q' := by
  unfold qX12_hearses at h ⊢
  intro M1_1 eM1_1
  have h1 := h M1_1 eM1_1
  refine fzX12_begins h1 ?_
  intro x2_3 M2_4 T2 h2
  intro g5
  have h6 := h2 g5
  intro M3_7 eM3_7
  have h7 := h6 M3_7 eM3_7
  have T7 : M3_7 1 14 = 0 := by rw [eM3_7, up2_j (by decide)]; exact T2
  obtain ⟨h8, h9⟩ := h7
  refine ⟨?_, ?_⟩
  · intro g10
    have h11 := h8 g10
    obtain ⟨n12, h12⟩ := h11
    refine ⟨n12, ?_⟩
    refine fzX12_hearses_L29 ?_ _ _ _ _ _ T7 h12
    · intro v1_14 v2_15 M_16 T13 h13
      obtain ⟨v17, h17⟩ := h13
      refine ⟨v17, ?_⟩
      obtain ⟨v18, h18⟩ := h17
      refine ⟨v18, ?_⟩
      refine fmX12_faultOf h18 ?_
      intro x14_20 M14_21 f19 h19
      have T19 : M14_21 1 14 = 0 := by rw [f19 1 14 (by first | omega | exact fun h => h)]; exact T13
      intro g22
      have h23 := h19 g22
      obtain ⟨h24, h25⟩ := h23
      refine ⟨?_, ?_⟩
      · intro g26
        have h27 := h24 g26
        obtain ⟨n28, h28⟩ := h27
        refine ⟨n28, ?_⟩
        refine fzX12_hearses_L81 ?_ _ _ _ T19 h28
        · intro M_30 T29 h29
          refine fmX12_isNew h29 ?_
          intro x34_32 M34_33 f31 h31
          have T31 : M34_33 1 14 = 0 := by rw [f31 1 14 (by first | omega | exact fun h => h)]; exact T29
          intro g34
          have h35 := h31 g34
          exact hQ _ _ T31 h35
      · intro g36
        have h37 := h25 g36
        exact hQ _ _ T19 h37
  · intro g38
    have h39 := h9 g38
    obtain ⟨n40, h40⟩ := h39
    refine ⟨n40, ?_⟩
    refine fzX12_hearses_L29 ?_ _ _ _ _ _ T7 h40
    · intro v1_42 v2_43 M_44 T41 h41
      obtain ⟨v45, h45⟩ := h41
      refine ⟨v45, ?_⟩
      obtain ⟨v46, h46⟩ := h45
      refine ⟨v46, ?_⟩
      refine fmX12_faultOf h46 ?_
      intro x38_48 M38_49 f47 h47
      have T47 : M38_49 1 14 = 0 := by rw [f47 1 14 (by first | omega | exact fun h => h)]; exact T41
      intro g50
      have h51 := h47 g50
      obtain ⟨h52, h53⟩ := h51
      refine ⟨?_, ?_⟩
      · intro g54
        have h55 := h52 g54
        obtain ⟨n56, h56⟩ := h55
        refine ⟨n56, ?_⟩
        refine fzX12_hearses_L81 ?_ _ _ _ T47 h56
        · intro M_58 T57 h57
          refine fmX12_isNew h57 ?_
          intro x41_60 M41_61 f59 h59
          have T59 : M41_61 1 14 = 0 := by rw [f59 1 14 (by first | omega | exact fun h => h)]; exact T57
          intro g62
          have h63 := h59 g62
          exact hQ _ _ T59 h63
      · intro g64
        have h65 := h53 g64
        exact hQ _ _ T47 h65
theorem fzX12_mourners_L29  {X60 X60' : Int → Int → Mem → Prop} {Q Q' : Int → Mem → Prop} (hX60 : ∀ (w0 w1 : Int) (M' : Mem), M' 1 14 = 0 → X60 w0 w1 M' → X60' w0 w1 M') : ∀ (n : Nat) (v1 v2 v3 : Int) (M : Mem), M 1 14 = 0 → qX12_mourners_L29 X60 Q n v1 v2 v3 M → qX12_mourners_L29 X60' Q' n v1 v2 v3 M := by
  intro n
  induction n with
  | zero => intro v1 v2 v3 M _ h; exact h.elim
  | succ n ih =>
    intro v1 v2 v3 M hT h
    rw [qX12_mourners_L29] at h
    rw [qX12_mourners_L29]
    obtain ⟨v1, h1⟩ := h
    refine ⟨v1, ?_⟩
    obtain ⟨h2, h3⟩ := h1
    refine ⟨?_, ?_⟩
    · intro g4
      have h5 := h2 g4
      exact hX60 _ _ _ hT h5
    · intro g6
      have h7 := h3 g6
      refine fmX12_readsMourner h7 ?_
      intro x7_9 M7_10 f8 h8
      have T8 : M7_10 1 14 = 0 := by rw [f8 1 14 (by first | omega | exact fun h => h)]; exact hT
      intro g11 g12
      have h13 := h8 g11 g12
      obtain ⟨h14, h15⟩ := h13
      refine ⟨?_, ?_⟩
      · intro g16
        have h17 := h14 g16
        exact ih _ _ _ _ T8 h17
      · intro g18
        have h19 := h15 g18
        refine fmX12_takes h19 ?_
        intro x9_21 M9_22 f20 h20
        have T20 : M9_22 1 14 = 0 := by rw [f20 1 14 (by first | omega | exact fun h => h)]; exact T8
        intro g23 g24
        have h25 := h20 g23 g24
        obtain ⟨h26, h27⟩ := h25
        refine ⟨?_, ?_⟩
        · intro g28
          have h29 := h26 g28
          exact ih _ _ _ _ T20 h29
        · intro g30
          have h31 := h27 g30
          exact ih _ _ _ _ T20 h31
theorem fzX12_mourners_L81  {X173 X173' : Mem → Prop} {Q Q' : Int → Mem → Prop} (hX173 : ∀ (M' : Mem), M' 1 14 = 0 → X173 M' → X173' M') : ∀ (n : Nat) (v5 : Int) (M : Mem), M 1 14 = 0 → qX12_mourners_L81 X173 Q n v5 M → qX12_mourners_L81 X173' Q' n v5 M := by
  intro n
  induction n with
  | zero => intro v5 M _ h; exact h.elim
  | succ n ih =>
    intro v5 M hT h
    rw [qX12_mourners_L81] at h
    rw [qX12_mourners_L81]
    intro x16_1 g2 g3
    have h1 := h x16_1 g2 g3
    obtain ⟨v4, h4⟩ := h1
    refine ⟨v4, ?_⟩
    obtain ⟨h5, h6⟩ := h4
    refine ⟨?_, ?_⟩
    · intro g7
      have h8 := h5 g7
      exact hX173 _ hT h8
    · intro g9
      have h10 := h6 g9
      intro x19_11 g12 g13
      have h11 := h10 x19_11 g12 g13
      obtain ⟨v14, h14⟩ := h11
      refine ⟨v14, ?_⟩
      obtain ⟨v15, h15⟩ := h14
      refine ⟨v15, ?_⟩
      intro x22_16 g17 g18
      have h16 := h15 x22_16 g17 g18
      obtain ⟨v19, h19⟩ := h16
      refine ⟨v19, ?_⟩
      obtain ⟨v20, h20⟩ := h19
      refine ⟨v20, ?_⟩
      intro M25_21 eM25_21
      have h21 := h20 M25_21 eM25_21
      have T21 : M25_21 1 14 = 0 := by rw [eM25_21, up2_n (by decide)]; exact hT
      intro x26_22 g23 g24
      have h22 := h21 x26_22 g23 g24
      obtain ⟨v25, h25⟩ := h22
      refine ⟨v25, ?_⟩
      obtain ⟨v26, h26⟩ := h25
      refine ⟨v26, ?_⟩
      intro x29_27 g28 g29
      have h27 := h26 x29_27 g28 g29
      obtain ⟨v30, h30⟩ := h27
      refine ⟨v30, ?_⟩
      obtain ⟨v31, h31⟩ := h30
      refine ⟨v31, ?_⟩
      intro M32_32 eM32_32
      have h32 := h31 M32_32 eM32_32
      have T32 : M32_32 1 14 = 0 := by rw [eM32_32, up2_n (by decide)]; exact T21
      intro x33_33 g34 g35
      have h33 := h32 x33_33 g34 g35
      obtain ⟨v36, h36⟩ := h33
      refine ⟨v36, ?_⟩
      obtain ⟨v37, h37⟩ := h36
      refine ⟨v37, ?_⟩
      intro M36_38 eM36_38
      have h38 := h37 M36_38 eM36_38
      have T38 : M36_38 1 14 = 0 := by rw [eM36_38, up2_n (by decide)]; exact T32
      intro x37_39 g40 g41
      have h39 := h38 x37_39 g40 g41
      obtain ⟨v42, h42⟩ := h39
      refine ⟨v42, ?_⟩
      obtain ⟨v43, h43⟩ := h42
      refine ⟨v43, ?_⟩
      intro M40_44 eM40_44
      have h44 := h43 M40_44 eM40_44
      have T44 : M40_44 1 14 = 0 := by rw [eM40_44, up2_n (by decide)]; exact T38
      intro x41_45 g46 g47
      have h45 := h44 x41_45 g46 g47
      obtain ⟨v48, h48⟩ := h45
      refine ⟨v48, ?_⟩
      intro M43_49 eM43_49
      have h49 := h48 M43_49 eM43_49
      have T49 : M43_49 1 14 = 0 := by rw [eM43_49, up2_j (by decide)]; exact T44
      exact ih _ _ T49 h49
theorem fzX12_mourners  {M : Mem} {Q Q' : Int → Mem → Prop} (h : qX12_mourners M Q) (hQ : ∀ (w0 : Int) (M' : Mem), M' 1 14 = 0 → Q w0 M' → Q' w0 M') : qX12_mourners M Q' := by
  unfold qX12_mourners at h ⊢
  intro M1_1 eM1_1
  have h1 := h M1_1 eM1_1
  refine fzX12_begins h1 ?_
  intro x2_3 M2_4 T2 h2
  intro g5
  have h6 := h2 g5
  intro M3_7 eM3_7
  have h7 := h6 M3_7 eM3_7
  have T7 : M3_7 1 14 = 0 := by rw [eM3_7, up2_j (by decide)]; exact T2
  obtain ⟨h8, h9⟩ := h7
  refine ⟨?_, ?_⟩
  · intro g10
    have h11 := h8 g10
    obtain ⟨n12, h12⟩ := h11
    refine ⟨n12, ?_⟩
    obtain ⟨v13, h13⟩ := h12
    refine ⟨v13, ?_⟩
    refine fzX12_mourners_L29 ?_ _ _ _ _ _ T7 h13
    · intro v1_15 v2_16 M_17 T14 h14
      obtain ⟨v18, h18⟩ := h14
      refine ⟨v18, ?_⟩
      obtain ⟨v19, h19⟩ := h18
      refine ⟨v19, ?_⟩
      refine fmX12_faultOf h19 ?_
      intro x14_21 M14_22 f20 h20
      have T20 : M14_22 1 14 = 0 := by rw [f20 1 14 (by first | omega | exact fun h => h)]; exact T14
      intro g23
      have h24 := h20 g23
      obtain ⟨h25, h26⟩ := h24
      refine ⟨?_, ?_⟩
      · intro g27
        have h28 := h25 g27
        obtain ⟨n29, h29⟩ := h28
        refine ⟨n29, ?_⟩
        refine fzX12_mourners_L81 ?_ _ _ _ T20 h29
        · intro M_31 T30 h30
          refine fmX12_isNew h30 ?_
          intro x45_33 M45_34 f32 h32
          have T32 : M45_34 1 14 = 0 := by rw [f32 1 14 (by first | omega | exact fun h => h)]; exact T30
          intro g35
          have h36 := h32 g35
          exact hQ _ _ T32 h36
      · intro g37
        have h38 := h26 g37
        exact hQ _ _ T20 h38
  · intro g39
    have h40 := h9 g39
    obtain ⟨n41, h41⟩ := h40
    refine ⟨n41, ?_⟩
    obtain ⟨v42, h42⟩ := h41
    refine ⟨v42, ?_⟩
    refine fzX12_mourners_L29 ?_ _ _ _ _ _ T7 h42
    · intro v1_44 v2_45 M_46 T43 h43
      obtain ⟨v47, h47⟩ := h43
      refine ⟨v47, ?_⟩
      obtain ⟨v48, h48⟩ := h47
      refine ⟨v48, ?_⟩
      refine fmX12_faultOf h48 ?_
      intro x49_50 M49_51 f49 h49
      have T49 : M49_51 1 14 = 0 := by rw [f49 1 14 (by first | omega | exact fun h => h)]; exact T43
      intro g52
      have h53 := h49 g52
      obtain ⟨h54, h55⟩ := h53
      refine ⟨?_, ?_⟩
      · intro g56
        have h57 := h54 g56
        obtain ⟨n58, h58⟩ := h57
        refine ⟨n58, ?_⟩
        refine fzX12_mourners_L81 ?_ _ _ _ T49 h58
        · intro M_60 T59 h59
          refine fmX12_isNew h59 ?_
          intro x52_62 M52_63 f61 h61
          have T61 : M52_63 1 14 = 0 := by rw [f61 1 14 (by first | omega | exact fun h => h)]; exact T59
          intro g64
          have h65 := h61 g64
          exact hQ _ _ T61 h65
      · intro g66
        have h67 := h55 g66
        exact hQ _ _ T49 h67
theorem fzX12_weather_L14  {X44 X44' : Int → Mem → Prop} {Q Q' : Int → Mem → Prop} (hX44 : ∀ (w0 : Int) (M' : Mem), M' 1 14 = 0 → X44 w0 M' → X44' w0 M') : ∀ (n : Nat) (v1 : Int) (M : Mem), M 1 14 = 0 → qX12_weather_L14 X44 Q n v1 M → qX12_weather_L14 X44' Q' n v1 M := by
  intro n
  induction n with
  | zero => intro v1 M _ h; exact h.elim
  | succ n ih =>
    intro v1 M hT h
    rw [qX12_weather_L14] at h
    rw [qX12_weather_L14]
    obtain ⟨v1, h1⟩ := h
    refine ⟨v1, ?_⟩
    obtain ⟨h2, h3⟩ := h1
    refine ⟨?_, ?_⟩
    · intro g4
      have h5 := h2 g4
      exact hX44 _ _ hT h5
    · intro g6
      have h7 := h3 g6
      refine fmX12_isDigit h7 ?_
      intro x5_9 M5_10 f8 h8
      have T8 : M5_10 1 14 = 0 := by rw [f8 1 14 (by first | omega | exact fun h => h)]; exact hT
      intro g11 g12
      have h13 := h8 g11 g12
      obtain ⟨h14, h15⟩ := h13
      refine ⟨?_, ?_⟩
      · intro g16
        have h17 := h14 g16
        exact hX44 _ _ T8 h17
      · intro g18
        have h19 := h15 g18
        refine fmX12_number h19 ?_
        intro x7_21 M7_22 f20 h20
        have T20 : M7_22 1 14 = 0 := by rw [f20 1 14 (by first | omega | exact fun h => h)]; exact T8
        intro g23
        have h24 := h20 g23
        obtain ⟨v25, h25⟩ := h24
        refine ⟨v25, ?_⟩
        obtain ⟨v26, h26⟩ := h25
        refine ⟨v26, ?_⟩
        intro M10_27 eM10_27
        have h27 := h26 M10_27 eM10_27
        have T27 : M10_27 1 14 = 0 := by rw [eM10_27, up2_n (by decide)]; exact T20
        exact ih _ _ T27 h27
theorem fzX12_weather_L73  {Q Q' : Int → Mem → Prop} (hQ : ∀ (w0 : Int) (M' : Mem), M' 1 14 = 0 → Q w0 M' → Q' w0 M') : ∀ (n : Nat) (v1 v2 : Int) (M : Mem), M 1 14 = 0 → qX12_weather_L73 Q n v1 v2 M → qX12_weather_L73 Q' n v1 v2 M := by
  intro n
  induction n with
  | zero => intro v1 v2 M _ h; exact h.elim
  | succ n ih =>
    intro v1 v2 M hT h
    rw [qX12_weather_L73] at h
    rw [qX12_weather_L73]
    obtain ⟨v1, h1⟩ := h
    refine ⟨v1, ?_⟩
    obtain ⟨v2, h2⟩ := h1
    refine ⟨v2, ?_⟩
    obtain ⟨h3, h4⟩ := h2
    refine ⟨?_, ?_⟩
    · intro g5
      have h6 := h3 g5
      exact hQ _ _ hT h6
    · intro g7
      have h8 := h4 g7
      obtain ⟨v9, h9⟩ := h8
      refine ⟨v9, ?_⟩
      obtain ⟨v10, h10⟩ := h9
      refine ⟨v10, ?_⟩
      intro x25_11 g12 g13
      have h11 := h10 x25_11 g12 g13
      intro M26_14 eM26_14
      have h14 := h11 M26_14 eM26_14
      have T14 : M26_14 1 14 = 0 := by rw [eM26_14, up2_n (by decide)]; exact hT
      exact ih _ _ _ T14 h14
theorem fzX12_weather  {M : Mem} {Q Q' : Int → Mem → Prop} (h : qX12_weather M Q) (hQ : ∀ (w0 : Int) (M' : Mem), M' 1 14 = 0 → Q w0 M' → Q' w0 M') : qX12_weather M Q' := by
  unfold qX12_weather at h ⊢
  intro M1_1 eM1_1
  have h1 := h M1_1 eM1_1
  refine fzX12_begins h1 ?_
  intro x2_3 M2_4 T2 h2
  intro g5
  have h6 := h2 g5
  obtain ⟨n7, h7⟩ := h6
  refine ⟨n7, ?_⟩
  refine fzX12_weather_L14 ?_ _ _ _ T2 h7
  · intro v1_9 M_10 T8 h8
    unfold qX12_weather_J44 at h8 ⊢
    obtain ⟨v11, h11⟩ := h8
    refine ⟨v11, ?_⟩
    obtain ⟨h12, h13⟩ := h11
    refine ⟨?_, ?_⟩
    · intro g14
      have h15 := h12 g14
      intro x14_16 g17 g18
      have h16 := h15 x14_16 g17 g18
      obtain ⟨v19, h19⟩ := h16
      refine ⟨v19, ?_⟩
      exact hQ _ _ T8 h19
    · intro g20
      have h21 := h13 g20
      intro x16_22 g23 g24
      have h22 := h21 x16_22 g23 g24
      intro x17_25 g26 g27
      have h25 := h22 x17_25 g26 g27
      obtain ⟨h28, h29⟩ := h25
      refine ⟨?_, ?_⟩
      · intro g30
        have h31 := h28 g30
        intro M19_32 eM19_32
        have h32 := h31 M19_32 eM19_32
        have T32 : M19_32 1 14 = 0 := by rw [eM19_32, up2_j (by decide)]; exact T8
        obtain ⟨n33, h33⟩ := h32
        refine ⟨n33, ?_⟩
        refine fzX12_weather_L73 hQ _ _ _ _ T32 h33
      · intro g34
        have h35 := h29 g34
        intro x28_36 g37 g38
        have h36 := h35 x28_36 g37 g38
        obtain ⟨v39, h39⟩ := h36
        refine ⟨v39, ?_⟩
        exact hQ _ _ T8 h39
theorem fzX12_readsRule  {M : Mem} {Q Q' : Int → Mem → Prop} (h : qX12_readsRule M Q) (hQ : ∀ (w0 : Int) (M' : Mem), M' 1 14 = 0 → Q w0 M' → Q' w0 M') : qX12_readsRule M Q' := by
  unfold qX12_readsRule at h ⊢
  refine fzX12_begins h ?_
  intro x1_2 M1_3 T1 h1
  intro g4
  have h5 := h1 g4
  intro M2_6 eM2_6
  have h6 := h5 M2_6 eM2_6
  have T6 : M2_6 1 14 = 0 := by rw [eM2_6, up2_j (by decide)]; exact T1
  obtain ⟨h7, h8⟩ := h6
  refine ⟨?_, ?_⟩
  · intro g9
    have h10 := h7 g9
    unfold qX12_readsRule_J24 at h10 ⊢
    unfold qX12_readsRule_J29 at h10 ⊢
    obtain ⟨v11, h11⟩ := h10
    refine ⟨v11, ?_⟩
    obtain ⟨v12, h12⟩ := h11
    refine ⟨v12, ?_⟩
    refine fmX12_faultOf h12 ?_
    intro x6_14 M6_15 f13 h13
    have T13 : M6_15 1 14 = 0 := by rw [f13 1 14 (by first | omega | exact fun h => h)]; exact T6
    intro g16
    have h17 := h13 g16
    exact hQ _ _ T13 h17
  · intro g18
    have h19 := h8 g18
    obtain ⟨n20, h20⟩ := h19
    refine ⟨n20, ?_⟩
    obtain ⟨v21, h21⟩ := h20
    refine ⟨v21, ?_⟩
    refine fmX12_readsRank h21 ?_
    intro x7_23 M7_24 f22 h22
    have T22 : M7_24 1 14 = 0 := by rw [f22 1 14 (by first | omega | exact fun h => h)]; exact T6
    intro g25 g26
    have h27 := h22 g25 g26
    obtain ⟨h28, h29⟩ := h27
    refine ⟨?_, ?_⟩
    · intro g30
      have h31 := h28 g30
      unfold qX12_readsRule_J29 at h31 ⊢
      obtain ⟨v32, h32⟩ := h31
      refine ⟨v32, ?_⟩
      obtain ⟨v33, h33⟩ := h32
      refine ⟨v33, ?_⟩
      refine fmX12_faultOf h33 ?_
      intro x6_35 M6_36 f34 h34
      have T34 : M6_36 1 14 = 0 := by rw [f34 1 14 (by first | omega | exact fun h => h)]; exact T22
      intro g37
      have h38 := h34 g37
      exact hQ _ _ T34 h38
    · intro g39
      have h40 := h29 g39
      unfold qX12_readsRule_J24 at h40 ⊢
      unfold qX12_readsRule_J29 at h40 ⊢
      obtain ⟨v41, h41⟩ := h40
      refine ⟨v41, ?_⟩
      obtain ⟨v42, h42⟩ := h41
      refine ⟨v42, ?_⟩
      refine fmX12_faultOf h42 ?_
      intro x6_44 M6_45 f43 h43
      have T43 : M6_45 1 14 = 0 := by rw [f43 1 14 (by first | omega | exact fun h => h)]; exact T22
      intro g46
      have h47 := h43 g46
      exact hQ _ _ T43 h47
theorem fzX12_rule  {M : Mem} {Q Q' : Int → Mem → Prop} (h : qX12_rule M Q) (hQ : ∀ (w0 : Int) (M' : Mem), M' 1 14 = 0 → Q w0 M' → Q' w0 M') : qX12_rule M Q' := by
  unfold qX12_rule at h ⊢
  intro M1_1 eM1_1
  have h1 := h M1_1 eM1_1
  refine fzX12_readsRule h1 ?_
  intro x2_3 M2_4 T2 h2
  intro g5
  have h6 := h2 g5
  obtain ⟨h7, h8⟩ := h6
  refine ⟨?_, ?_⟩
  · intro g9
    have h10 := h7 g9
    exact hQ _ _ T2 h10
  · intro g11
    have h12 := h8 g11
    intro x4_13 g14 g15
    have h13 := h12 x4_13 g14 g15
    refine fmX12_laysCode h13 ?_
    intro M5_17 f16 h16
    have T16 : M5_17 1 14 = 0 := by rw [f16 1 14 (by first | omega | exact fun h => h)]; exact T2
    exact hQ _ _ T16 h16
theorem fzX12_hour_L19  {X42 X42' : Int → Int → Mem → Prop} {Q Q' : Int → Mem → Prop} (hX42 : ∀ (w0 w1 : Int) (M' : Mem), M' 1 14 = 0 → X42 w0 w1 M' → X42' w0 w1 M') : ∀ (n : Nat) (v1 v2 : Int) (M : Mem), M 1 14 = 0 → qX12_hour_L19 X42 Q n v1 v2 M → qX12_hour_L19 X42' Q' n v1 v2 M := by
  intro n
  induction n with
  | zero => intro v1 v2 M _ h; exact h.elim
  | succ n ih =>
    intro v1 v2 M hT h
    rw [qX12_hour_L19] at h
    rw [qX12_hour_L19]
    obtain ⟨v1, h1⟩ := h
    refine ⟨v1, ?_⟩
    obtain ⟨h2, h3⟩ := h1
    refine ⟨?_, ?_⟩
    · intro g4
      have h5 := h2 g4
      exact hX42 _ _ _ hT h5
    · intro g6
      have h7 := h3 g6
      intro x6_8 g9 g10
      have h8 := h7 x6_8 g9 g10
      intro x7_11 g12 g13
      have h11 := h8 x7_11 g12 g13
      obtain ⟨h14, h15⟩ := h11
      refine ⟨?_, ?_⟩
      · intro g16
        have h17 := h14 g16
        exact hX42 _ _ _ hT h17
      · intro g18
        have h19 := h15 g18
        refine fmX12_readsAct h19 ?_
        intro x9_21 M9_22 f20 h20
        have T20 : M9_22 1 14 = 0 := by rw [f20 1 14 (by first | omega | exact fun h => h)]; exact hT
        intro g23 g24
        have h25 := h20 g23 g24
        exact ih _ _ _ T20 h25
theorem fzX12_hour_L64  {X88 X88' : Int → Mem → Prop} {Q Q' : Int → Mem → Prop} (hX88 : ∀ (w0 : Int) (M' : Mem), M' 1 14 = 0 → X88 w0 M' → X88' w0 M') : ∀ (n : Nat) (v4 : Int) (M : Mem), M 1 14 = 0 → qX12_hour_L64 X88 Q n v4 M → qX12_hour_L64 X88' Q' n v4 M := by
  intro n
  induction n with
  | zero => intro v4 M _ h; exact h.elim
  | succ n ih =>
    intro v4 M hT h
    rw [qX12_hour_L64] at h
    rw [qX12_hour_L64]
    intro x16_1 g2 g3
    have h1 := h x16_1 g2 g3
    obtain ⟨v4, h4⟩ := h1
    refine ⟨v4, ?_⟩
    obtain ⟨h5, h6⟩ := h4
    refine ⟨?_, ?_⟩
    · intro g7
      have h8 := h5 g7
      exact hX88 _ _ hT h8
    · intro g9
      have h10 := h6 g9
      refine fmX12_does h10 ?_
      intro x19_12 M19_13 f11 h11
      have T11 : M19_13 1 14 = 0 := by rw [f11 1 14 (by first | omega | exact fun h => h)]; exact hT
      intro g14 g15
      have h16 := h11 g14 g15
      obtain ⟨h17, h18⟩ := h16
      refine ⟨?_, ?_⟩
      · intro g19
        have h20 := h17 g19
        exact hX88 _ _ T11 h20
      · intro g21
        have h22 := h18 g21
        exact ih _ _ T11 h22
theorem fzX12_hour  {M : Mem} {Q Q' : Int → Mem → Prop} (h : qX12_hour M Q) (hQ : ∀ (w0 : Int) (M' : Mem), M' 1 14 = 0 → Q w0 M' → Q' w0 M') : qX12_hour M Q' := by
  unfold qX12_hour at h ⊢
  intro M1_1 eM1_1
  have h1 := h M1_1 eM1_1
  refine fzX12_begins h1 ?_
  intro x2_3 M2_4 T2 h2
  intro g5
  have h6 := h2 g5
  intro M3_7 eM3_7
  have h7 := h6 M3_7 eM3_7
  have T7 : M3_7 1 14 = 0 := by rw [eM3_7, up2_j (by decide)]; exact T2
  obtain ⟨n8, h8⟩ := h7
  refine ⟨n8, ?_⟩
  refine fzX12_hour_L19 ?_ _ _ _ _ T7 h8
  · intro v1_10 v2_11 M_12 T9 h9
    unfold qX12_hour_J42 at h9 ⊢
    obtain ⟨v13, h13⟩ := h9
    refine ⟨v13, ?_⟩
    obtain ⟨v14, h14⟩ := h13
    refine ⟨v14, ?_⟩
    refine fmX12_faultOf h14 ?_
    intro x13_16 M13_17 f15 h15
    have T15 : M13_17 1 14 = 0 := by rw [f15 1 14 (by first | omega | exact fun h => h)]; exact T9
    intro g18
    have h19 := h15 g18
    obtain ⟨h20, h21⟩ := h19
    refine ⟨?_, ?_⟩
    · intro g22
      have h23 := h20 g22
      refine fmX12_putsBy h23 ?_
      intro M15_25 f24 h24
      have T24 : M15_25 1 14 = 0 := by rw [f24 1 14 (by first | omega | exact fun h => h)]; exact T15
      obtain ⟨n26, h26⟩ := h24
      refine ⟨n26, ?_⟩
      refine fzX12_hour_L64 ?_ _ _ _ T24 h26
      · intro v4_28 M_29 T27 h27
        unfold qX12_hour_J88 at h27 ⊢
        intro M22_30 eM22_30
        have h30 := h27 M22_30 eM22_30
        have T30 : M22_30 1 14 = 0 := by rw [eM22_30, up2_j (by decide)]; exact T27
        intro x23_31 g32 g33
        have h31 := h30 x23_31 g32 g33
        obtain ⟨v34, h34⟩ := h31
        refine ⟨v34, ?_⟩
        obtain ⟨h35, h36⟩ := h34
        refine ⟨?_, ?_⟩
        · intro g37
          have h38 := h35 g37
          unfold qX12_hour_J108 at h38 ⊢
          obtain ⟨v39, h39⟩ := h38
          refine ⟨v39, ?_⟩
          refine fmX12_flag h39 ?_
          intro x27_41 M27_42 f40 h40
          have T40 : M27_42 1 14 = 0 := by rw [f40 1 14 (by first | omega | exact fun h => h)]; exact T30
          intro g43
          have h44 := h40 g43
          refine fmX12_enters h44 ?_
          intro M28_46 f45 h45
          have T45 : M28_46 1 14 = 0 := by rw [f45 1 14 (by first | omega | exact fun h => h)]; exact T40
          intro x29_47 g48 g49
          have h47 := h45 x29_47 g48 g49
          refine fmX12_enters h47 ?_
          intro M30_51 f50 h50
          have T50 : M30_51 1 14 = 0 := by rw [f50 1 14 (by first | omega | exact fun h => h)]; exact T45
          obtain ⟨v52, h52⟩ := h50
          refine ⟨v52, ?_⟩
          obtain ⟨h53, h54⟩ := h52
          refine ⟨?_, ?_⟩
          · intro g55
            have h56 := h53 g55
            exact hQ _ _ T50 h56
          · intro g57
            have h58 := h54 g57
            refine fmX12_adds h58 ?_
            intro x33_60 M33_61 f59 h59
            have T59 : M33_61 1 14 = 0 := by rw [f59 1 14 (by first | omega | exact fun h => h)]; exact T50
            intro g62
            have h63 := h59 g62
            exact hQ _ _ T59 h63
        · intro g64
          have h65 := h36 g64
          unfold qX12_hour_J108 at h65 ⊢
          obtain ⟨v66, h66⟩ := h65
          refine ⟨v66, ?_⟩
          refine fmX12_flag h66 ?_
          intro x27_68 M27_69 f67 h67
          have T67 : M27_69 1 14 = 0 := by rw [f67 1 14 (by first | omega | exact fun h => h)]; exact T30
          intro g70
          have h71 := h67 g70
          refine fmX12_enters h71 ?_
          intro M28_73 f72 h72
          have T72 : M28_73 1 14 = 0 := by rw [f72 1 14 (by first | omega | exact fun h => h)]; exact T67
          intro x29_74 g75 g76
          have h74 := h72 x29_74 g75 g76
          refine fmX12_enters h74 ?_
          intro M30_78 f77 h77
          have T77 : M30_78 1 14 = 0 := by rw [f77 1 14 (by first | omega | exact fun h => h)]; exact T72
          obtain ⟨v79, h79⟩ := h77
          refine ⟨v79, ?_⟩
          obtain ⟨h80, h81⟩ := h79
          refine ⟨?_, ?_⟩
          · intro g82
            have h83 := h80 g82
            exact hQ _ _ T77 h83
          · intro g84
            have h85 := h81 g84
            refine fmX12_adds h85 ?_
            intro x33_87 M33_88 f86 h86
            have T86 : M33_88 1 14 = 0 := by rw [f86 1 14 (by first | omega | exact fun h => h)]; exact T77
            intro g89
            have h90 := h86 g89
            exact hQ _ _ T86 h90
    · intro g91
      have h92 := h21 g91
      exact hQ _ _ T15 h92
theorem fzX12_law_L42  {X71 X71' : Int → Int → Mem → Prop} {Q Q' : Int → Mem → Prop} (hX71 : ∀ (w0 w1 : Int) (M' : Mem), M' 1 14 = 0 → X71 w0 w1 M' → X71' w0 w1 M') : ∀ (n : Nat) (v2 v3 v4 : Int) (M : Mem), M 1 14 = 0 → qX12_law_L42 X71 Q n v2 v3 v4 M → qX12_law_L42 X71' Q' n v2 v3 v4 M := by
  intro n
  induction n with
  | zero => intro v2 v3 v4 M _ h; exact h.elim
  | succ n ih =>
    intro v2 v3 v4 M hT h
    rw [qX12_law_L42] at h
    rw [qX12_law_L42]
    intro x8_1 g2 g3
    have h1 := h x8_1 g2 g3
    obtain ⟨v4, h4⟩ := h1
    refine ⟨v4, ?_⟩
    obtain ⟨h5, h6⟩ := h4
    refine ⟨?_, ?_⟩
    · intro g7
      have h8 := h5 g7
      exact hX71 _ _ _ hT h8
    · intro g9
      have h10 := h6 g9
      obtain ⟨v11, h11⟩ := h10
      refine ⟨v11, ?_⟩
      obtain ⟨v12, h12⟩ := h11
      refine ⟨v12, ?_⟩
      intro x13_13 g14 g15
      have h13 := h12 x13_13 g14 g15
      intro M14_16 eM14_16
      have h16 := h13 M14_16 eM14_16
      have T16 : M14_16 1 14 = 0 := by rw [eM14_16, up2_n (by decide)]; exact hT
      exact ih _ _ _ _ T16 h16
theorem fzX12_law  {M : Mem} {Q Q' : Int → Mem → Prop} (h : qX12_law M Q) (hQ : ∀ (w0 : Int) (M' : Mem), M' 1 14 = 0 → Q w0 M' → Q' w0 M') : qX12_law M Q' := by
  unfold qX12_law at h ⊢
  intro M1_1 eM1_1
  have h1 := h M1_1 eM1_1
  refine fzX12_readsRule h1 ?_
  intro x2_3 M2_4 T2 h2
  intro g5
  have h6 := h2 g5
  obtain ⟨h7, h8⟩ := h6
  refine ⟨?_, ?_⟩
  · intro g9
    have h10 := h7 g9
    refine fmX12_copies h10 ?_
    intro M4_12 f11 h11
    have T11 : M4_12 1 14 = 0 := by rw [f11 1 14 (by first | omega | exact fun h => h)]; exact T2
    refine fmX12_rightThen h11 ?_
    intro x5_14 M5_15 f13 h13
    have T13 : M5_15 1 14 = 0 := by rw [f13 1 14 (by first | omega | exact fun h => h)]; exact T11
    intro g16
    have h17 := h13 g16
    refine fmJ6_bitCount_0f7a4 h17 ?_
    intro x6_19 M6_20 f18 h18
    have T18 : M6_20 1 14 = 0 := by rw [f18 1 14 (by first | omega | exact fun h => h)]; exact T13
    intro g21
    have h22 := h18 g21
    intro x7_23 g24 g25
    have h23 := h22 x7_23 g24 g25
    obtain ⟨n26, h26⟩ := h23
    refine ⟨n26, ?_⟩
    refine fzX12_law_L42 ?_ _ _ _ _ _ T18 h26
    · intro v2_28 v3_29 M_30 T27 h27
      intro x16_31 g32 g33
      have h31 := h27 x16_31 g32 g33
      refine fmX12_laysCode h31 ?_
      intro M17_35 f34 h34
      have T34 : M17_35 1 14 = 0 := by rw [f34 1 14 (by first | omega | exact fun h => h)]; exact T27
      refine fmX12_copies h34 ?_
      intro M18_37 f36 h36
      have T36 : M18_37 1 14 = 0 := by rw [f36 1 14 (by first | omega | exact fun h => h)]; exact T34
      refine fmX12_rightThen h36 ?_
      intro x19_39 M19_40 f38 h38
      have T38 : M19_40 1 14 = 0 := by rw [f38 1 14 (by first | omega | exact fun h => h)]; exact T36
      intro g41
      have h42 := h38 g41
      refine fmJ6_bitCount_0f7a4 h42 ?_
      intro x20_44 M20_45 f43 h43
      have T43 : M20_45 1 14 = 0 := by rw [f43 1 14 (by first | omega | exact fun h => h)]; exact T38
      intro g46
      have h47 := h43 g46
      obtain ⟨v48, h48⟩ := h47
      refine ⟨v48, ?_⟩
      refine fmX12_laysCode h48 ?_
      intro M22_50 f49 h49
      have T49 : M22_50 1 14 = 0 := by rw [f49 1 14 (by first | omega | exact fun h => h)]; exact T43
      intro M23_51 eM23_51
      have h51 := h49 M23_51 eM23_51
      have T51 : M23_51 1 14 = 0 := by rw [eM23_51, up2_j (by decide)]; exact T49
      refine fmX12_enters h51 ?_
      intro M24_53 f52 h52
      have T52 : M24_53 1 14 = 0 := by rw [f52 1 14 (by first | omega | exact fun h => h)]; exact T51
      obtain ⟨v54, h54⟩ := h52
      refine ⟨v54, ?_⟩
      refine fmX12_enters h54 ?_
      intro M26_56 f55 h55
      have T55 : M26_56 1 14 = 0 := by rw [f55 1 14 (by first | omega | exact fun h => h)]; exact T52
      obtain ⟨v57, h57⟩ := h55
      refine ⟨v57, ?_⟩
      exact hQ _ _ T55 h57
  · intro g58
    have h59 := h8 g58
    obtain ⟨v60, h60⟩ := h59
    refine ⟨v60, ?_⟩
    exact hQ _ _ T2 h60
