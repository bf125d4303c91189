/-! what the calls leave of the text: nothing -/
theorem fzX9_clear  {M : Mem} {Q Q' : Mem → Prop} (h : qX9_clear M Q) (hQ : ∀ (M' : Mem), M' 156 1 = 0 → Q M' → Q' M') : qX9_clear M Q' := by
  unfold qX9_clear at h ⊢
  intro M1_1 eM1_1
  have h1 := h M1_1 eM1_1
  have T1 : M1_1 156 1 = 0 := by rw [eM1_1, up2_s]
  exact hQ _ T1 h1
theorem fzX11_rule  {M : Mem} {Q Q' : Int → Mem → Prop} (h : qX11_rule M Q) (hQ : ∀ (w0 : Int) (M' : Mem), M' 156 1 = 0 → Q w0 M' → Q' w0 M') : qX11_rule M Q' := by
  unfold qX11_rule at h ⊢
  obtain ⟨v1, h1⟩ := h
  refine ⟨v1, ?_⟩
  have w1 : (M 155 17).toNat = 187 ∨ (M 155 17).toNat = 192 := v1
  refine fmX5_read h1 ?_
  intro x2_3 M2_4 f2 h2
  intro g5
  have h6 := h2 g5
  refine fzX9_clear h6 ?_
  intro M3_8 T7 h7
  obtain ⟨h9, h10⟩ := h7
  refine ⟨?_, ?_⟩
  · intro g11
    have h12 := h9 g11
    obtain ⟨v13, h13⟩ := h12
    refine ⟨v13, ?_⟩
    have w13 : (M3_8 155 16).toNat = 187 ∨ (M3_8 155 16).toNat = 192 := v13
    obtain ⟨v14, h14⟩ := h13
    refine ⟨v14, ?_⟩
    have w14 : (M3_8 155 17).toNat = 187 ∨ (M3_8 155 17).toNat = 192 := v14
    intro M7_15 eM7_15
    have h15 := h14 M7_15 eM7_15
    have T15 : M7_15 156 1 = 0 := by rw [eM7_15, up2_n (by decide)]; exact T7
    intro M8_16 eM8_16
    have h16 := h15 M8_16 eM8_16
    have T16 : M8_16 156 1 = 0 := by rw [eM8_16, up2_n (by decide)]; exact T15
    exact hQ _ _ T16 h16
  · intro g17
    have h18 := h10 g17
    obtain ⟨v19, h19⟩ := h18
    refine ⟨v19, ?_⟩
    exact hQ _ _ T7 h19
theorem fzX11_hour_L32  {X92 X92' : Int → Int → Int → Mem → Prop} {Q Q' : Int → Mem → Prop} (hX92 : ∀ (w0 w1 w2 : Int) (M' : Mem), X92 w0 w1 w2 M' → X92' w0 w1 w2 M') : ∀ (n : Nat) (v1 v2 v3 v4 : Int) (M : Mem), qX11_hour_L32 X92 Q n v1 v2 v3 v4 M → qX11_hour_L32 X92' Q' n v1 v2 v3 v4 M := by
  intro n
  induction n with
  | zero => intro v1 v2 v3 v4 M h; exact h.elim
  | succ n ih =>
    intro v1 v2 v3 v4 M h
    rw [qX11_hour_L32] at h
    rw [qX11_hour_L32]
    obtain ⟨v1, h1⟩ := h
    refine ⟨v1, ?_⟩
    obtain ⟨h2, h3⟩ := h1
    refine ⟨?_, ?_⟩
    · intro g4
      have h5 := h2 g4
      exact hX92 _ _ _ _ h5
    · intro g6
      have h7 := h3 g6
      obtain ⟨v8, h8⟩ := h7
      refine ⟨v8, ?_⟩
      obtain ⟨h9, h10⟩ := h8
      refine ⟨?_, ?_⟩
      · intro g11
        have h12 := h9 g11
        exact hX92 _ _ _ _ h12
      · intro g13
        have h14 := h10 g13
        obtain ⟨v15, h15⟩ := h14
        refine ⟨v15, ?_⟩
        obtain ⟨h16, h17⟩ := h15
        refine ⟨?_, ?_⟩
        · intro g18
          have h19 := h16 g18
          exact hX92 _ _ _ _ h19
        · intro g20
          have h21 := h17 g20
          refine fmX9_isRead h21 ?_
          intro x10_23 M10_24 f22 h22
          intro g25 g26
          have h27 := h22 g25 g26
          obtain ⟨h28, h29⟩ := h27
          refine ⟨?_, ?_⟩
          · intro g30
            have h31 := h28 g30
            exact hX92 _ _ _ _ h31
          · intro g32
            have h33 := h29 g32
            refine fmX11_doAct h33 ?_
            intro x12_35 M12_36 f34 h34
            intro g37
            have h38 := h34 g37
            refine fmX11_isDone h38 ?_
            intro x13_40 M13_41 f39 h39
            intro g42 g43
            have h44 := h39 g42 g43
            obtain ⟨h45, h46⟩ := h44
            refine ⟨?_, ?_⟩
            · intro g47
              have h48 := h45 g47
              unfold qX11_hour_J73 at h48 ⊢
              obtain ⟨v49, h49⟩ := h48
              refine ⟨v49, ?_⟩
              obtain ⟨h50, h51⟩ := h49
              refine ⟨?_, ?_⟩
              · intro g52
                have h53 := h50 g52
                exact ih _ _ _ _ _ h53
              · intro g54
                have h55 := h51 g54
                exact ih _ _ _ _ _ h55
            · intro g56
              have h57 := h46 g56
              unfold qX11_hour_J73 at h57 ⊢
              obtain ⟨v58, h58⟩ := h57
              refine ⟨v58, ?_⟩
              obtain ⟨h59, h60⟩ := h58
              refine ⟨?_, ?_⟩
              · intro g61
                have h62 := h59 g61
                exact ih _ _ _ _ _ h62
              · intro g63
                have h64 := h60 g63
                exact ih _ _ _ _ _ h64
theorem fzX11_hour  {M : Mem} {Q Q' : Int → Mem → Prop} (h : qX11_hour M Q) (hQ : ∀ (w0 : Int) (M' : Mem), M' 156 1 = 0 → Q w0 M' → Q' w0 M') : qX11_hour M Q' := by
  unfold qX11_hour at h ⊢
  refine fmX11_hourFault h ?_
  intro x1_2 M1_3 f1 h1
  intro g4
  have h5 := h1 g4
  refine fmX6_copyFrom h5 ?_
  intro M2_7 f6 h6
  refine fmX9_open h6 ?_
  intro M3_9 f8 h8
  obtain ⟨n10, h10⟩ := h8
  refine ⟨n10, ?_⟩
  refine fzX11_hour_L32 ?_ _ _ _ _ _ _ h10
  · intro v1_12 v2_13 v3_14 M_15 h11
    unfold qX11_hour_J92 at h11 ⊢
    refine fzX9_clear h11 ?_
    intro M18_17 T16 h16
    obtain ⟨v18, h18⟩ := h16
    refine ⟨v18, ?_⟩
    obtain ⟨h19, h20⟩ := h18
    refine ⟨?_, ?_⟩
    · intro g21
      have h22 := h19 g21
      obtain ⟨v23, h23⟩ := h22
      refine ⟨v23, ?_⟩
      obtain ⟨h24, h25⟩ := h23
      refine ⟨?_, ?_⟩
      · intro g26
        have h27 := h24 g26
        unfold qX11_hour_J123 at h27 ⊢
        obtain ⟨v28, h28⟩ := h27
        refine ⟨v28, ?_⟩
        obtain ⟨h29, h30⟩ := h28
        refine ⟨?_, ?_⟩
        · intro g31
          have h32 := h29 g31
          unfold qX11_hour_J136 at h32 ⊢
          intro x25_33 g34 g35
          have h33 := h32 x25_33 g34 g35
          obtain ⟨v36, h36⟩ := h33
          refine ⟨v36, ?_⟩
          refine fmX4_tellTwo h36 ?_
          intro M27_38 f37 h37
          have T37 : M27_38 156 1 = 0 := by rw [f37 156 1 (by first | omega | exact fun h => h)]; exact T16
          obtain ⟨v39, h39⟩ := h37
          refine ⟨v39, ?_⟩
          exact hQ _ _ T37 h39
        · intro g40
          have h41 := h30 g40
          unfold qX11_hour_J136 at h41 ⊢
          intro x25_42 g43 g44
          have h42 := h41 x25_42 g43 g44
          obtain ⟨v45, h45⟩ := h42
          refine ⟨v45, ?_⟩
          refine fmX4_tellTwo h45 ?_
          intro M27_47 f46 h46
          have T46 : M27_47 156 1 = 0 := by rw [f46 156 1 (by first | omega | exact fun h => h)]; exact T16
          obtain ⟨v48, h48⟩ := h46
          refine ⟨v48, ?_⟩
          exact hQ _ _ T46 h48
      · intro g49
        have h50 := h25 g49
        refine fmX1_add h50 ?_
        intro M29_52 f51 h51
        have T51 : M29_52 156 1 = 0 := by rw [f51 156 1 (by first | omega | exact fun h => h)]; exact T16
        unfold qX11_hour_J123 at h51 ⊢
        obtain ⟨v53, h53⟩ := h51
        refine ⟨v53, ?_⟩
        obtain ⟨h54, h55⟩ := h53
        refine ⟨?_, ?_⟩
        · intro g56
          have h57 := h54 g56
          unfold qX11_hour_J136 at h57 ⊢
          intro x25_58 g59 g60
          have h58 := h57 x25_58 g59 g60
          obtain ⟨v61, h61⟩ := h58
          refine ⟨v61, ?_⟩
          refine fmX4_tellTwo h61 ?_
          intro M27_63 f62 h62
          have T62 : M27_63 156 1 = 0 := by rw [f62 156 1 (by first | omega | exact fun h => h)]; exact T51
          obtain ⟨v64, h64⟩ := h62
          refine ⟨v64, ?_⟩
          exact hQ _ _ T62 h64
        · intro g65
          have h66 := h55 g65
          unfold qX11_hour_J136 at h66 ⊢
          intro x25_67 g68 g69
          have h67 := h66 x25_67 g68 g69
          obtain ⟨v70, h70⟩ := h67
          refine ⟨v70, ?_⟩
          refine fmX4_tellTwo h70 ?_
          intro M27_72 f71 h71
          have T71 : M27_72 156 1 = 0 := by rw [f71 156 1 (by first | omega | exact fun h => h)]; exact T51
          obtain ⟨v73, h73⟩ := h71
          refine ⟨v73, ?_⟩
          exact hQ _ _ T71 h73
    · intro g74
      have h75 := h20 g74
      obtain ⟨v76, h76⟩ := h75
      refine ⟨v76, ?_⟩
      exact hQ _ _ T16 h76
theorem fzX11_law  {M : Mem} {Q Q' : Int → Mem → Prop} (h : qX11_law M Q) (hQ : ∀ (w0 : Int) (M' : Mem), M' 156 1 = 0 → Q w0 M' → Q' w0 M') : qX11_law M Q' := by
  unfold qX11_law at h ⊢
  obtain ⟨v1, h1⟩ := h
  refine ⟨v1, ?_⟩
  have w1 : (M 155 17).toNat = 187 ∨ (M 155 17).toNat = 192 := v1
  refine fmX5_read h1 ?_
  intro x2_3 M2_4 f2 h2
  intro g5
  have h6 := h2 g5
  refine fzX9_clear h6 ?_
  intro M3_8 T7 h7
  obtain ⟨h9, h10⟩ := h7
  refine ⟨?_, ?_⟩
  · intro g11
    have h12 := h9 g11
    refine fmX6_copyFrom h12 ?_
    intro M5_14 f13 h13
    have T13 : M5_14 156 1 = 0 := by rw [f13 156 1 (by first | omega | exact fun h => h)]; exact T7
    obtain ⟨v15, h15⟩ := h13
    refine ⟨v15, ?_⟩
    have w15 : (M5_14 155 17).toNat = 187 ∨ (M5_14 155 17).toNat = 192 := v15
    refine fmX11_rightOnesOfTrial h15 ?_
    intro x7_17 M7_18 f16 h16
    have T16 : M7_18 156 1 = 0 := by rw [f16 156 1 (by first | omega | exact fun h => h)]; exact T13
    intro g19
    have h20 := h16 g19
    refine fmJ6_bitCount_0f7a4 h20 ?_
    intro x8_22 M8_23 f21 h21
    have T21 : M8_23 156 1 = 0 := by rw [f21 156 1 (by first | omega | exact fun h => h)]; exact T16
    intro g24
    have h25 := h21 g24
    refine fmX6_copyFrom h25 ?_
    intro M9_27 f26 h26
    have T26 : M9_27 156 1 = 0 := by rw [f26 156 1 (by first | omega | exact fun h => h)]; exact T21
    obtain ⟨v28, h28⟩ := h26
    refine ⟨v28, ?_⟩
    have w28 : (M9_27 155 16).toNat = 187 ∨ (M9_27 155 16).toNat = 192 := v28
    refine fmX11_rightOnesOfTrial h28 ?_
    intro x11_30 M11_31 f29 h29
    have T29 : M11_31 156 1 = 0 := by rw [f29 156 1 (by first | omega | exact fun h => h)]; exact T26
    intro g32
    have h33 := h29 g32
    refine fmJ6_bitCount_0f7a4 h33 ?_
    intro x12_35 M12_36 f34 h34
    have T34 : M12_36 156 1 = 0 := by rw [f34 156 1 (by first | omega | exact fun h => h)]; exact T29
    intro g37
    have h38 := h34 g37
    refine fmX4_tellTwo h38 ?_
    intro M13_40 f39 h39
    have T39 : M13_40 156 1 = 0 := by rw [f39 156 1 (by first | omega | exact fun h => h)]; exact T34
    obtain ⟨v41, h41⟩ := h39
    refine ⟨v41, ?_⟩
    exact hQ _ _ T39 h41
  · intro g42
    have h43 := h10 g42
    obtain ⟨v44, h44⟩ := h43
    refine ⟨v44, ?_⟩
    exact hQ _ _ T7 h44
theorem fzX12_begins {p1 : Int} {M : Mem} {Q Q' : Int → Mem → Prop} (h : qX12_begins p1 M Q) (hQ : ∀ (w0 : Int) (M' : Mem), M' 1 14 = 0 → Q w0 M' → Q' w0 M') : qX12_begins p1 M Q' := by
  unfold qX12_begins at h ⊢
  intro x1_1 g2 g3
  have h1 := h x1_1 g2 g3
  intro M2_4 eM2_4
  have h4 := h1 M2_4 eM2_4
  have T4 : M2_4 1 14 = 0 := by rw [eM2_4, up2_s]
  intro M3_5 eM3_5
  have h5 := h4 M3_5 eM3_5
  have T5 : M3_5 1 14 = 0 := by rw [eM3_5, up2_j (by decide)]; exact T4
  intro M4_6 eM4_6
  have h6 := h5 M4_6 eM4_6
  have T6 : M4_6 1 14 = 0 := by rw [eM4_6, up2_j (by decide)]; exact T5
  intro x5_7 g8 g9
  have h7 := h6 x5_7 g8 g9
  intro M6_10 eM6_10
  have h10 := h7 M6_10 eM6_10
  have T10 : M6_10 1 14 = 0 := by rw [eM6_10, up2_j (by decide)]; exact T6
  exact hQ _ _ T10 h10
theorem fzX12_readsRule  {M : Mem} {Q Q' : Int → Mem → Prop} (h : qX12_readsRule M Q) (hQ : ∀ (w0 : Int) (M' : Mem), M' 1 14 = 0 → Q w0 M' → Q' w0 M') : qX12_readsRule M Q' := by
  unfold qX12_readsRule at h ⊢
  refine fzX12_begins h ?_
  intro x1_2 M1_3 T1 h1
  intro g4
  have h5 := h1 g4
  intro M2_6 eM2_6
  have h6 := h5 M2_6 eM2_6
  have T6 : M2_6 1 14 = 0 := by rw [eM2_6, up2_j (by decide)]; exact T1
  obtain ⟨h7, h8⟩ := h6
  refine ⟨?_, ?_⟩
  · intro g9
    have h10 := h7 g9
    unfold qX12_readsRule_J24 at h10 ⊢
    unfold qX12_readsRule_J29 at h10 ⊢
    obtain ⟨v11, h11⟩ := h10
    refine ⟨v11, ?_⟩
    obtain ⟨v12, h12⟩ := h11
    refine ⟨v12, ?_⟩
    refine fmX12_faultOf h12 ?_
    intro x6_14 M6_15 f13 h13
    have T13 : M6_15 1 14 = 0 := by rw [f13 1 14 (by first | omega | exact fun h => h)]; exact T6
    intro g16
    have h17 := h13 g16
    exact hQ _ _ T13 h17
  · intro g18
    have h19 := h8 g18
    obtain ⟨n20, h20⟩ := h19
    refine ⟨n20, ?_⟩
    obtain ⟨v21, h21⟩ := h20
    refine ⟨v21, ?_⟩
    refine fmX12_readsRank h21 ?_
    intro x7_23 M7_24 f22 h22
    have T22 : M7_24 1 14 = 0 := by rw [f22 1 14 (by first | omega | exact fun h => h)]; exact T6
    intro g25 g26
    have h27 := h22 g25 g26
    obtain ⟨h28, h29⟩ := h27
    refine ⟨?_, ?_⟩
    · intro g30
      have h31 := h28 g30
      unfold qX12_readsRule_J29 at h31 ⊢
      obtain ⟨v32, h32⟩ := h31
      refine ⟨v32, ?_⟩
      obtain ⟨v33, h33⟩ := h32
      refine ⟨v33, ?_⟩
      refine fmX12_faultOf h33 ?_
      intro x6_35 M6_36 f34 h34
      have T34 : M6_36 1 14 = 0 := by rw [f34 1 14 (by first | omega | exact fun h => h)]; exact T22
      intro g37
      have h38 := h34 g37
      exact hQ _ _ T34 h38
    · intro g39
      have h40 := h29 g39
      unfold qX12_readsRule_J24 at h40 ⊢
      unfold qX12_readsRule_J29 at h40 ⊢
      obtain ⟨v41, h41⟩ := h40
      refine ⟨v41, ?_⟩
      obtain ⟨v42, h42⟩ := h41
      refine ⟨v42, ?_⟩
      refine fmX12_faultOf h42 ?_
      intro x6_44 M6_45 f43 h43
      have T43 : M6_45 1 14 = 0 := by rw [f43 1 14 (by first | omega | exact fun h => h)]; exact T22
      intro g46
      have h47 := h43 g46
      exact hQ _ _ T43 h47
theorem fzX12_rule  {M : Mem} {Q Q' : Int → Mem → Prop} (h : qX12_rule M Q) (hQ : ∀ (w0 : Int) (M' : Mem), M' 1 14 = 0 → Q w0 M' → Q' w0 M') : qX12_rule M Q' := by
  unfold qX12_rule at h ⊢
  intro M1_1 eM1_1
  have h1 := h M1_1 eM1_1
  refine fzX12_readsRule h1 ?_
  intro x2_3 M2_4 T2 h2
  intro g5
  have h6 := h2 g5
  obtain ⟨h7, h8⟩ := h6
  refine ⟨?_, ?_⟩
  · intro g9
    have h10 := h7 g9
    exact hQ _ _ T2 h10
  · intro g11
    have h12 := h8 g11
    intro x4_13 g14 g15
    have h13 := h12 x4_13 g14 g15
    refine fmX12_laysCode h13 ?_
    intro M5_17 f16 h16
    have T16 : M5_17 1 14 = 0 := by rw [f16 1 14 (by first | omega | exact fun h => h)]; exact T2
    exact hQ _ _ T16 h16
theorem fzX12_hour_L19  {X42 X42' : Int → Int → Mem → Prop} {Q Q' : Int → Mem → Prop} (hX42 : ∀ (w0 w1 : Int) (M' : Mem), M' 1 14 = 0 → X42 w0 w1 M' → X42' w0 w1 M') : ∀ (n : Nat) (v1 v2 : Int) (M : Mem), M 1 14 = 0 → qX12_hour_L19 X42 Q n v1 v2 M → qX12_hour_L19 X42' Q' n v1 v2 M := by
  intro n
  induction n with
  | zero => intro v1 v2 M _ h; exact h.elim
  | succ n ih =>
    intro v1 v2 M hT h
    rw [qX12_hour_L19] at h
    rw [qX12_hour_L19]
    obtain ⟨v1, h1⟩ := h
    refine ⟨v1, ?_⟩
    obtain ⟨h2, h3⟩ := h1
    refine ⟨?_, ?_⟩
    · intro g4
      have h5 := h2 g4
      exact hX42 _ _ _ hT h5
    · intro g6
      have h7 := h3 g6
      intro x6_8 g9 g10
      have h8 := h7 x6_8 g9 g10
      intro x7_11 g12 g13
      have h11 := h8 x7_11 g12 g13
      obtain ⟨h14, h15⟩ := h11
      refine ⟨?_, ?_⟩
      · intro g16
        have h17 := h14 g16
        exact hX42 _ _ _ hT h17
      · intro g18
        have h19 := h15 g18
        refine fmX12_readsAct h19 ?_
        intro x9_21 M9_22 f20 h20
        have T20 : M9_22 1 14 = 0 := by rw [f20 1 14 (by first | omega | exact fun h => h)]; exact hT
        intro g23 g24
        have h25 := h20 g23 g24
        exact ih _ _ _ T20 h25
theorem fzX12_hour_L64  {X88 X88' : Int → Mem → Prop} {Q Q' : Int → Mem → Prop} (hX88 : ∀ (w0 : Int) (M' : Mem), M' 1 14 = 0 → X88 w0 M' → X88' w0 M') : ∀ (n : Nat) (v4 : Int) (M : Mem), M 1 14 = 0 → qX12_hour_L64 X88 Q n v4 M → qX12_hour_L64 X88' Q' n v4 M := by
  intro n
  induction n with
  | zero => intro v4 M _ h; exact h.elim
  | succ n ih =>
    intro v4 M hT h
    rw [qX12_hour_L64] at h
    rw [qX12_hour_L64]
    intro x16_1 g2 g3
    have h1 := h x16_1 g2 g3
    obtain ⟨v4, h4⟩ := h1
    refine ⟨v4, ?_⟩
    obtain ⟨h5, h6⟩ := h4
    refine ⟨?_, ?_⟩
    · intro g7
      have h8 := h5 g7
      exact hX88 _ _ hT h8
    · intro g9
      have h10 := h6 g9
      refine fmX12_does h10 ?_
      intro x19_12 M19_13 f11 h11
      have T11 : M19_13 1 14 = 0 := by rw [f11 1 14 (by first | omega | exact fun h => h)]; exact hT
      intro g14 g15
      have h16 := h11 g14 g15
      obtain ⟨h17, h18⟩ := h16
      refine ⟨?_, ?_⟩
      · intro g19
        have h20 := h17 g19
        exact hX88 _ _ T11 h20
      · intro g21
        have h22 := h18 g21
        exact ih _ _ T11 h22
theorem fzX12_hour  {M : Mem} {Q Q' : Int → Mem → Prop} (h : qX12_hour M Q) (hQ : ∀ (w0 : Int) (M' : Mem), M' 1 14 = 0 → Q w0 M' → Q' w0 M') : qX12_hour M Q' := by
  unfold qX12_hour at h ⊢
  intro M1_1 eM1_1
  have h1 := h M1_1 eM1_1
  refine fzX12_begins h1 ?_
  intro x2_3 M2_4 T2 h2
  intro g5
  have h6 := h2 g5
  intro M3_7 eM3_7
  have h7 := h6 M3_7 eM3_7
  have T7 : M3_7 1 14 = 0 := by rw [eM3_7, up2_j (by decide)]; exact T2
  obtain ⟨n8, h8⟩ := h7
  refine ⟨n8, ?_⟩
  refine fzX12_hour_L19 ?_ _ _ _ _ T7 h8
  · intro v1_10 v2_11 M_12 T9 h9
    unfold qX12_hour_J42 at h9 ⊢
    obtain ⟨v13, h13⟩ := h9
    refine ⟨v13, ?_⟩
    obtain ⟨v14, h14⟩ := h13
    refine ⟨v14, ?_⟩
    refine fmX12_faultOf h14 ?_
    intro x13_16 M13_17 f15 h15
    have T15 : M13_17 1 14 = 0 := by rw [f15 1 14 (by first | omega | exact fun h => h)]; exact T9
    intro g18
    have h19 := h15 g18
    obtain ⟨h20, h21⟩ := h19
    refine ⟨?_, ?_⟩
    · intro g22
      have h23 := h20 g22
      refine fmX12_putsBy h23 ?_
      intro M15_25 f24 h24
      have T24 : M15_25 1 14 = 0 := by rw [f24 1 14 (by first | omega | exact fun h => h)]; exact T15
      obtain ⟨n26, h26⟩ := h24
      refine ⟨n26, ?_⟩
      refine fzX12_hour_L64 ?_ _ _ _ T24 h26
      · intro v4_28 M_29 T27 h27
        unfold qX12_hour_J88 at h27 ⊢
        intro M22_30 eM22_30
        have h30 := h27 M22_30 eM22_30
        have T30 : M22_30 1 14 = 0 := by rw [eM22_30, up2_j (by decide)]; exact T27
        intro x23_31 g32 g33
        have h31 := h30 x23_31 g32 g33
        obtain ⟨v34, h34⟩ := h31
        refine ⟨v34, ?_⟩
        obtain ⟨h35, h36⟩ := h34
        refine ⟨?_, ?_⟩
        · intro g37
          have h38 := h35 g37
          unfold qX12_hour_J108 at h38 ⊢
          obtain ⟨v39, h39⟩ := h38
          refine ⟨v39, ?_⟩
          refine fmX12_flag h39 ?_
          intro x27_41 M27_42 f40 h40
          have T40 : M27_42 1 14 = 0 := by rw [f40 1 14 (by first | omega | exact fun h => h)]; exact T30
          intro g43
          have h44 := h40 g43
          refine fmX12_enters h44 ?_
          intro M28_46 f45 h45
          have T45 : M28_46 1 14 = 0 := by rw [f45 1 14 (by first | omega | exact fun h => h)]; exact T40
          intro x29_47 g48 g49
          have h47 := h45 x29_47 g48 g49
          refine fmX12_enters h47 ?_
          intro M30_51 f50 h50
          have T50 : M30_51 1 14 = 0 := by rw [f50 1 14 (by first | omega | exact fun h => h)]; exact T45
          obtain ⟨v52, h52⟩ := h50
          refine ⟨v52, ?_⟩
          obtain ⟨h53, h54⟩ := h52
          refine ⟨?_, ?_⟩
          · intro g55
            have h56 := h53 g55
            exact hQ _ _ T50 h56
          · intro g57
            have h58 := h54 g57
            refine fmX12_adds h58 ?_
            intro x33_60 M33_61 f59 h59
            have T59 : M33_61 1 14 = 0 := by rw [f59 1 14 (by first | omega | exact fun h => h)]; exact T50
            intro g62
            have h63 := h59 g62
            exact hQ _ _ T59 h63
        · intro g64
          have h65 := h36 g64
          unfold qX12_hour_J108 at h65 ⊢
          obtain ⟨v66, h66⟩ := h65
          refine ⟨v66, ?_⟩
          refine fmX12_flag h66 ?_
          intro x27_68 M27_69 f67 h67
          have T67 : M27_69 1 14 = 0 := by rw [f67 1 14 (by first | omega | exact fun h => h)]; exact T30
          intro g70
          have h71 := h67 g70
          refine fmX12_enters h71 ?_
          intro M28_73 f72 h72
          have T72 : M28_73 1 14 = 0 := by rw [f72 1 14 (by first | omega | exact fun h => h)]; exact T67
          intro x29_74 g75 g76
          have h74 := h72 x29_74 g75 g76
          refine fmX12_enters h74 ?_
          intro M30_78 f77 h77
          have T77 : M30_78 1 14 = 0 := by rw [f77 1 14 (by first | omega | exact fun h => h)]; exact T72
          obtain ⟨v79, h79⟩ := h77
          refine ⟨v79, ?_⟩
          obtain ⟨h80, h81⟩ := h79
          refine ⟨?_, ?_⟩
          · intro g82
            have h83 := h80 g82
            exact hQ _ _ T77 h83
          · intro g84
            have h85 := h81 g84
            refine fmX12_adds h85 ?_
            intro x33_87 M33_88 f86 h86
            have T86 : M33_88 1 14 = 0 := by rw [f86 1 14 (by first | omega | exact fun h => h)]; exact T77
            intro g89
            have h90 := h86 g89
            exact hQ _ _ T86 h90
    · intro g91
      have h92 := h21 g91
      exact hQ _ _ T15 h92
theorem fzX12_law_L42  {X71 X71' : Int → Int → Mem → Prop} {Q Q' : Int → Mem → Prop} (hX71 : ∀ (w0 w1 : Int) (M' : Mem), M' 1 14 = 0 → X71 w0 w1 M' → X71' w0 w1 M') : ∀ (n : Nat) (v2 v3 v4 : Int) (M : Mem), M 1 14 = 0 → qX12_law_L42 X71 Q n v2 v3 v4 M → qX12_law_L42 X71' Q' n v2 v3 v4 M := by
  intro n
  induction n with
  | zero => intro v2 v3 v4 M _ h; exact h.elim
  | succ n ih =>
    intro v2 v3 v4 M hT h
    rw [qX12_law_L42] at h
    rw [qX12_law_L42]
    intro x8_1 g2 g3
    have h1 := h x8_1 g2 g3
    obtain ⟨v4, h4⟩ := h1
    refine ⟨v4, ?_⟩
    obtain ⟨h5, h6⟩ := h4
    refine ⟨?_, ?_⟩
    · intro g7
      have h8 := h5 g7
      exact hX71 _ _ _ hT h8
    · intro g9
      have h10 := h6 g9
      obtain ⟨v11, h11⟩ := h10
      refine ⟨v11, ?_⟩
      obtain ⟨v12, h12⟩ := h11
      refine ⟨v12, ?_⟩
      intro x13_13 g14 g15
      have h13 := h12 x13_13 g14 g15
      intro M14_16 eM14_16
      have h16 := h13 M14_16 eM14_16
      have T16 : M14_16 1 14 = 0 := by rw [eM14_16, up2_n (by decide)]; exact hT
      exact ih _ _ _ _ T16 h16
theorem fzX12_law  {M : Mem} {Q Q' : Int → Mem → Prop} (h : qX12_law M Q) (hQ : ∀ (w0 : Int) (M' : Mem), M' 1 14 = 0 → Q w0 M' → Q' w0 M') : qX12_law M Q' := by
  unfold qX12_law at h ⊢
  intro M1_1 eM1_1
  have h1 := h M1_1 eM1_1
  refine fzX12_readsRule h1 ?_
  intro x2_3 M2_4 T2 h2
  intro g5
  have h6 := h2 g5
  obtain ⟨h7, h8⟩ := h6
  refine ⟨?_, ?_⟩
  · intro g9
    have h10 := h7 g9
    refine fmX12_copies h10 ?_
    intro M4_12 f11 h11
    have T11 : M4_12 1 14 = 0 := by rw [f11 1 14 (by first | omega | exact fun h => h)]; exact T2
    refine fmX12_rightThen h11 ?_
    intro x5_14 M5_15 f13 h13
    have T13 : M5_15 1 14 = 0 := by rw [f13 1 14 (by first | omega | exact fun h => h)]; exact T11
    intro g16
    have h17 := h13 g16
    refine fmJ6_bitCount_0f7a4 h17 ?_
    intro x6_19 M6_20 f18 h18
    have T18 : M6_20 1 14 = 0 := by rw [f18 1 14 (by first | omega | exact fun h => h)]; exact T13
    intro g21
    have h22 := h18 g21
    intro x7_23 g24 g25
    have h23 := h22 x7_23 g24 g25
    obtain ⟨n26, h26⟩ := h23
    refine ⟨n26, ?_⟩
    refine fzX12_law_L42 ?_ _ _ _ _ _ T18 h26
    · intro v2_28 v3_29 M_30 T27 h27
      intro x16_31 g32 g33
      have h31 := h27 x16_31 g32 g33
      refine fmX12_laysCode h31 ?_
      intro M17_35 f34 h34
      have T34 : M17_35 1 14 = 0 := by rw [f34 1 14 (by first | omega | exact fun h => h)]; exact T27
      refine fmX12_copies h34 ?_
      intro M18_37 f36 h36
      have T36 : M18_37 1 14 = 0 := by rw [f36 1 14 (by first | omega | exact fun h => h)]; exact T34
      refine fmX12_rightThen h36 ?_
      intro x19_39 M19_40 f38 h38
      have T38 : M19_40 1 14 = 0 := by rw [f38 1 14 (by first | omega | exact fun h => h)]; exact T36
      intro g41
      have h42 := h38 g41
      refine fmJ6_bitCount_0f7a4 h42 ?_
      intro x20_44 M20_45 f43 h43
      have T43 : M20_45 1 14 = 0 := by rw [f43 1 14 (by first | omega | exact fun h => h)]; exact T38
      intro g46
      have h47 := h43 g46
      obtain ⟨v48, h48⟩ := h47
      refine ⟨v48, ?_⟩
      refine fmX12_laysCode h48 ?_
      intro M22_50 f49 h49
      have T49 : M22_50 1 14 = 0 := by rw [f49 1 14 (by first | omega | exact fun h => h)]; exact T43
      intro M23_51 eM23_51
      have h51 := h49 M23_51 eM23_51
      have T51 : M23_51 1 14 = 0 := by rw [eM23_51, up2_j (by decide)]; exact T49
      refine fmX12_enters h51 ?_
      intro M24_53 f52 h52
      have T52 : M24_53 1 14 = 0 := by rw [f52 1 14 (by first | omega | exact fun h => h)]; exact T51
      obtain ⟨v54, h54⟩ := h52
      refine ⟨v54, ?_⟩
      refine fmX12_enters h54 ?_
      intro M26_56 f55 h55
      have T55 : M26_56 1 14 = 0 := by rw [f55 1 14 (by first | omega | exact fun h => h)]; exact T52
      obtain ⟨v57, h57⟩ := h55
      refine ⟨v57, ?_⟩
      exact hQ _ _ T55 h57
  · intro g58
    have h59 := h8 g58
    obtain ⟨v60, h60⟩ := h59
    refine ⟨v60, ?_⟩
    exact hQ _ _ T2 h60
