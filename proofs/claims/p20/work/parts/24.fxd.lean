theorem fmX11_isBestAnswer {p0 : Int} {p1 : Int} {p2 : Int} {M : Mem} {Q Q' : Int → Mem → Prop} (h : qX11_isBestAnswer p0 p1 p2 M Q) (hQ : ∀ (w0 : Int) (M' : Mem), Ks (fun _ _ => False) M M' → Q w0 M' → Q' w0 M') : qX11_isBestAnswer p0 p1 p2 M Q' := by
  unfold qX11_isBestAnswer at h ⊢
  refine fmX11_gain h ?_
  intro x1_2 M1_3 f1 h1
  have F1 : Ks (fun _ _ => False) M M1_3 := (Ks.rf).tr (f1.mono (fun _ _ h => False.elim h))
  intro g4
  have h5 := h1 g4
  obtain ⟨n6, h6⟩ := h5
  refine ⟨n6, ?_⟩
  refine fmX11_isBestAnswer_L10 hQ _ _ _ _ F1 h6
theorem fmX11_rests_L32 {p1 : Int} {X85 X85' : Int → Int → Mem → Prop} {Q Q' : Int → Mem → Prop} {M0 : Mem} (hQ : ∀ (w0 : Int) (M' : Mem), Ks (fun k j => k = 0 ∨ (k = 167 ∧ (j = 1))) M0 M' → Q w0 M' → Q' w0 M') (hX85 : ∀ (w0 w1 : Int) (M' : Mem), Ks (fun k j => k = 0 ∨ (k = 167 ∧ (j = 1))) M0 M' → X85 w0 w1 M' → X85' w0 w1 M') : ∀ (n : Nat) (v2 v3 v4 : Int) (M : Mem), Ks (fun k j => k = 0 ∨ (k = 167 ∧ (j = 1))) M0 M → qX11_rests_L32 p1 X85 Q n v2 v3 v4 M → qX11_rests_L32 p1 X85' Q' n v2 v3 v4 M := by
  intro n
  induction n with
  | zero => intro v2 v3 v4 M _ h; exact h.elim
  | succ n ih =>
    intro v2 v3 v4 M hF h
    rw [qX11_rests_L32] at h
    rw [qX11_rests_L32]
    obtain ⟨v1, h1⟩ := h
    refine ⟨v1, ?_⟩
    obtain ⟨h2, h3⟩ := h1
    refine ⟨?_, ?_⟩
    · intro g4
      have h5 := h2 g4
      exact hX85 _ _ _ hF h5
    · intro g6
      have h7 := h3 g6
      obtain ⟨v8, h8⟩ := h7
      refine ⟨v8, ?_⟩
      refine fmX11_isBestAnswer h8 ?_
      intro x10_10 M10_11 f9 h9
      have F9 : Ks (fun k j => k = 0 ∨ (k = 167 ∧ (j = 1))) M0 M10_11 := (hF).tr (f9.mono (fun _ _ h => False.elim h))
      intro g12 g13
      have h14 := h9 g12 g13
      obtain ⟨h15, h16⟩ := h14
      refine ⟨?_, ?_⟩
      · intro g17
        have h18 := h15 g17
        exact ih _ _ _ _ F9 h18
      · intro g19
        have h20 := h16 g19
        refine fmX11_isBestAnswer h20 ?_
        intro x12_22 M12_23 f21 h21
        have F21 : Ks (fun k j => k = 0 ∨ (k = 167 ∧ (j = 1))) M0 M12_23 := (F9).tr (f21.mono (fun _ _ h => False.elim h))
        intro g24 g25
        have h26 := h21 g24 g25
        obtain ⟨h27, h28⟩ := h26
        refine ⟨?_, ?_⟩
        · intro g29
          have h30 := h27 g29
          exact ih _ _ _ _ F21 h30
        · intro g31
          have h32 := h28 g31
          obtain ⟨v33, h33⟩ := h32
          refine ⟨v33, ?_⟩
          obtain ⟨h34, h35⟩ := h33
          refine ⟨?_, ?_⟩
          · intro g36
            have h37 := h34 g36
            exact ih _ _ _ _ F21 h37
          · intro g38
            have h39 := h35 g38
            refine fmX4_tellTwo h39 ?_
            intro M16_41 f40 h40
            have F40 : Ks (fun k j => k = 0 ∨ (k = 167 ∧ (j = 1))) M0 M16_41 := (F21).tr (f40.mono (fun _ _ h => h))
            exact ih _ _ _ _ F40 h40
theorem fmX11_rests_L23 {p1 : Int} {Q Q' : Int → Mem → Prop} {M0 : Mem} (hQ : ∀ (w0 : Int) (M' : Mem), Ks (fun k j => k = 0 ∨ (k = 167 ∧ (j = 1))) M0 M' → Q w0 M' → Q' w0 M') : ∀ (n : Nat) (v2 v3 : Int) (M : Mem), Ks (fun k j => k = 0 ∨ (k = 167 ∧ (j = 1))) M0 M → qX11_rests_L23 p1 Q n v2 v3 M → qX11_rests_L23 p1 Q' n v2 v3 M := by
  intro n
  induction n with
  | zero => intro v2 v3 M _ h; exact h.elim
  | succ n ih =>
    intro v2 v3 M hF h
    rw [qX11_rests_L23] at h
    rw [qX11_rests_L23]
    obtain ⟨v1, h1⟩ := h
    refine ⟨v1, ?_⟩
    obtain ⟨h2, h3⟩ := h1
    refine ⟨?_, ?_⟩
    · intro g4
      have h5 := h2 g4
      obtain ⟨v6, h6⟩ := h5
      refine ⟨v6, ?_⟩
      exact hQ _ _ hF h6
    · intro g7
      have h8 := h3 g7
      obtain ⟨n9, h9⟩ := h8
      refine ⟨n9, ?_⟩
      refine fmX11_rests_L32 hQ ?_ _ _ _ _ _ hF h9
      · intro v2_11 v3_12 M_13 F10 h10
        exact ih _ _ _ F10 h10
theorem fmX11_rests {p1 : Int} {M : Mem} {Q Q' : Int → Mem → Prop} (h : qX11_rests p1 M Q) (hQ : ∀ (w0 : Int) (M' : Mem), Ks (fun k j => k = 0 ∨ (k = 167 ∧ (j = 1))) M M' → Q w0 M' → Q' w0 M') : qX11_rests p1 M Q' := by
  unfold qX11_rests at h ⊢
  obtain ⟨h1, h2⟩ := h
  refine ⟨?_, ?_⟩
  · intro g3
    have h4 := h1 g3
    exact hQ _ _ Ks.rf h4
  · intro g5
    have h6 := h2 g5
    obtain ⟨h7, h8⟩ := h6
    refine ⟨?_, ?_⟩
    · intro g9
      have h10 := h7 g9
      refine fmX4_clear h10 ?_
      intro M3_12 f11 h11
      have F11 : Ks (fun k j => k = 0 ∨ (k = 167 ∧ (j = 1))) M M3_12 := (Ks.rf).tr (f11.mono (mo_46))
      obtain ⟨n13, h13⟩ := h11
      refine ⟨n13, ?_⟩
      refine fmX11_rests_L23 hQ _ _ _ _ F11 h13
    · intro g14
      have h15 := h8 g14
      exact hQ _ _ Ks.rf h15
theorem fmX11_draw {p1 : Int} {M : Mem} {Q Q' : Int → Mem → Prop} (h : qX11_draw p1 M Q) (hQ : ∀ (w0 : Int) (M' : Mem), Ks (fun k j => (k = 155 ∧ (j = 15))) M M' → Q w0 M' → Q' w0 M') : qX11_draw p1 M Q' := by
  unfold qX11_draw at h ⊢
  intro x1_1 g2 g3
  have h1 := h x1_1 g2 g3
  intro x2_4 g5 g6
  have h4 := h1 x2_4 g5 g6
  intro x3_7 g8 g9
  have h7 := h4 x3_7 g8 g9
  intro M4_10 eM4_10
  have h10 := h7 M4_10 eM4_10
  have F10 : Ks (fun k j => (k = 155 ∧ (j = 15))) M M4_10 := by rw [eM4_10]; exact (Ks.rf).wr (mw_97)
  obtain ⟨h11, h12⟩ := h10
  refine ⟨?_, ?_⟩
  · intro g13
    have h14 := h11 g13
    intro x6_15 g16 g17
    have h15 := h14 x6_15 g16 g17
    intro x7_18 g19 g20
    have h18 := h15 x7_18 g19 g20
    obtain ⟨v21, h21⟩ := h18
    refine ⟨v21, ?_⟩
    intro x9_22 g23 g24
    have h22 := h21 x9_22 g23 g24
    exact hQ _ _ F10 h22
  · intro g25
    have h26 := h12 g25
    exact hQ _ _ F10 h26
theorem fmX11_years_L31 {p1 : Int} {p2 : Int} {X155 X155' : Mem → Prop} {Q Q' : Int → Mem → Prop} {M0 : Mem} (hQ : ∀ (w0 : Int) (M' : Mem), Ks (fun k j => k = 0 ∨ (8 ≤ k ∧ k ≤ 14) ∨ (160 ≤ k ∧ k ≤ 162) ∨ (190 ≤ k ∧ k ≤ 191) ∨ (195 ≤ k ∧ k ≤ 196) ∨ (k = 155 ∧ (j = 15)) ∨ (k = 167 ∧ (j = 1))) M0 M' → Q w0 M' → Q' w0 M') (hX155 : ∀ (M' : Mem), Ks (fun k j => k = 0 ∨ (8 ≤ k ∧ k ≤ 14) ∨ (160 ≤ k ∧ k ≤ 162) ∨ (190 ≤ k ∧ k ≤ 191) ∨ (195 ≤ k ∧ k ≤ 196) ∨ (k = 155 ∧ (j = 15)) ∨ (k = 167 ∧ (j = 1))) M0 M' → X155 M' → X155' M') : ∀ (n : Nat) (v3 : Int) (M : Mem), Ks (fun k j => k = 0 ∨ (8 ≤ k ∧ k ≤ 14) ∨ (160 ≤ k ∧ k ≤ 162) ∨ (190 ≤ k ∧ k ≤ 191) ∨ (195 ≤ k ∧ k ≤ 196) ∨ (k = 155 ∧ (j = 15)) ∨ (k = 167 ∧ (j = 1))) M0 M → qX11_years_L31 p1 p2 X155 Q n v3 M → qX11_years_L31 p1 p2 X155' Q' n v3 M := by
  intro n
  induction n with
  | zero => intro v3 M _ h; exact h.elim
  | succ n ih =>
    intro v3 M hF h
    rw [qX11_years_L31] at h
    rw [qX11_years_L31]
    obtain ⟨v1, h1⟩ := h
    refine ⟨v1, ?_⟩
    obtain ⟨h2, h3⟩ := h1
    refine ⟨?_, ?_⟩
    · intro g4
      have h5 := h2 g4
      exact hX155 _ hF h5
    · intro g6
      have h7 := h3 g6
      refine fmX11_draw h7 ?_
      intro x7_9 M7_10 f8 h8
      have F8 : Ks (fun k j => k = 0 ∨ (8 ≤ k ∧ k ≤ 14) ∨ (160 ≤ k ∧ k ≤ 162) ∨ (190 ≤ k ∧ k ≤ 191) ∨ (195 ≤ k ∧ k ≤ 196) ∨ (k = 155 ∧ (j = 15)) ∨ (k = 167 ∧ (j = 1))) M0 M7_10 := (hF).tr (f8.mono (mo_118))
      intro g11
      have h12 := h8 g11
      obtain ⟨h13, h14⟩ := h12
      refine ⟨?_, ?_⟩
      · intro g15
        have h16 := h13 g15
        obtain ⟨h17, h18⟩ := h16
        refine ⟨?_, ?_⟩
        · intro g19
          have h20 := h17 g19
          intro x10_21 g22 g23
          have h21 := h20 x10_21 g22 g23
          obtain ⟨h24, h25⟩ := h21
          refine ⟨?_, ?_⟩
          · intro g26
            have h27 := h24 g26
            exact ih _ _ F8 h27
          · intro g28
            have h29 := h25 g28
            intro x12_30 g31 g32
            have h30 := h29 x12_30 g31 g32
            refine fmX11_draw h30 ?_
            intro x13_34 M13_35 f33 h33
            have F33 : Ks (fun k j => k = 0 ∨ (8 ≤ k ∧ k ≤ 14) ∨ (160 ≤ k ∧ k ≤ 162) ∨ (190 ≤ k ∧ k ≤ 191) ∨ (195 ≤ k ∧ k ≤ 196) ∨ (k = 155 ∧ (j = 15)) ∨ (k = 167 ∧ (j = 1))) M0 M13_35 := (F8).tr (f33.mono (mo_118))
            intro g36
            have h37 := h33 g36
            refine fmX11_draw h37 ?_
            intro x14_39 M14_40 f38 h38
            have F38 : Ks (fun k j => k = 0 ∨ (8 ≤ k ∧ k ≤ 14) ∨ (160 ≤ k ∧ k ≤ 162) ∨ (190 ≤ k ∧ k ≤ 191) ∨ (195 ≤ k ∧ k ≤ 196) ∨ (k = 155 ∧ (j = 15)) ∨ (k = 167 ∧ (j = 1))) M0 M14_40 := (F33).tr (f38.mono (mo_118))
            intro g41
            have h42 := h38 g41
            obtain ⟨v43, h43⟩ := h42
            refine ⟨v43, ?_⟩
            refine fmX6_shove h43 ?_
            intro x16_45 M16_46 f44 h44
            have F44 : Ks (fun k j => k = 0 ∨ (8 ≤ k ∧ k ≤ 14) ∨ (160 ≤ k ∧ k ≤ 162) ∨ (190 ≤ k ∧ k ≤ 191) ∨ (195 ≤ k ∧ k ≤ 196) ∨ (k = 155 ∧ (j = 15)) ∨ (k = 167 ∧ (j = 1))) M0 M16_46 := (F38).tr (f44.mono (mo_119))
            intro g47
            have h48 := h44 g47
            exact ih _ _ F44 h48
        · intro g49
          have h50 := h18 g49
          intro x17_51 g52 g53
          have h51 := h50 x17_51 g52 g53
          obtain ⟨h54, h55⟩ := h51
          refine ⟨?_, ?_⟩
          · intro g56
            have h57 := h54 g56
            exact ih _ _ F8 h57
          · intro g58
            have h59 := h55 g58
            intro x19_60 g61 g62
            have h60 := h59 x19_60 g61 g62
            refine fmX11_draw h60 ?_
            intro x20_64 M20_65 f63 h63
            have F63 : Ks (fun k j => k = 0 ∨ (8 ≤ k ∧ k ≤ 14) ∨ (160 ≤ k ∧ k ≤ 162) ∨ (190 ≤ k ∧ k ≤ 191) ∨ (195 ≤ k ∧ k ≤ 196) ∨ (k = 155 ∧ (j = 15)) ∨ (k = 167 ∧ (j = 1))) M0 M20_65 := (F8).tr (f63.mono (mo_118))
            intro g66
            have h67 := h63 g66
            refine fmX6_turn h67 ?_
            intro x21_69 M21_70 f68 h68
            have F68 : Ks (fun k j => k = 0 ∨ (8 ≤ k ∧ k ≤ 14) ∨ (160 ≤ k ∧ k ≤ 162) ∨ (190 ≤ k ∧ k ≤ 191) ∨ (195 ≤ k ∧ k ≤ 196) ∨ (k = 155 ∧ (j = 15)) ∨ (k = 167 ∧ (j = 1))) M0 M21_70 := (F63).tr (f68.mono (mo_120))
            intro g71
            have h72 := h68 g71
            exact ih _ _ F68 h72
      · intro g73
        have h74 := h14 g73
        obtain ⟨v75, h75⟩ := h74
        refine ⟨v75, ?_⟩
        have w75 : (M7_10 155 16).toNat = 187 ∨ (M7_10 155 16).toNat = 192 := v75
        refine fmX10_advance h75 ?_
        intro M23_77 f76 h76
        have F76 : Ks (fun k j => k = 0 ∨ (8 ≤ k ∧ k ≤ 14) ∨ (160 ≤ k ∧ k ≤ 162) ∨ (190 ≤ k ∧ k ≤ 191) ∨ (195 ≤ k ∧ k ≤ 196) ∨ (k = 155 ∧ (j = 15)) ∨ (k = 167 ∧ (j = 1))) M0 M23_77 := (F8).tr (f76.mono (fun k j h => w75.elim (fun e => mo_121 k j (by rw [e] at h; exact h)) (fun e => mo_122 k j (by rw [e] at h; exact h))))
        exact ih _ _ F76 h76
theorem fmX11_years {p1 : Int} {p2 : Int} {M : Mem} {Q Q' : Int → Mem → Prop} (h : qX11_years p1 p2 M Q) (hQ : ∀ (w0 : Int) (M' : Mem), Ks (fun k j => k = 0 ∨ (8 ≤ k ∧ k ≤ 14) ∨ (160 ≤ k ∧ k ≤ 162) ∨ (190 ≤ k ∧ k ≤ 191) ∨ (195 ≤ k ∧ k ≤ 196) ∨ (k = 155 ∧ (j = 15)) ∨ (k = 167 ∧ (j = 1))) M M' → Q w0 M' → Q' w0 M') : qX11_years p1 p2 M Q' := by
  unfold qX11_years at h ⊢
  obtain ⟨h1, h2⟩ := h
  refine ⟨?_, ?_⟩
  · intro g3
    have h4 := h1 g3
    exact hQ _ _ Ks.rf h4
  · intro g5
    have h6 := h2 g5
    obtain ⟨h7, h8⟩ := h6
    refine ⟨?_, ?_⟩
    · intro g9
      have h10 := h7 g9
      refine fmX6_copyFrom h10 ?_
      intro M3_12 f11 h11
      have F11 : Ks (fun k j => k = 0 ∨ (8 ≤ k ∧ k ≤ 14) ∨ (160 ≤ k ∧ k ≤ 162) ∨ (190 ≤ k ∧ k ≤ 191) ∨ (195 ≤ k ∧ k ≤ 196) ∨ (k = 155 ∧ (j = 15)) ∨ (k = 167 ∧ (j = 1))) M M3_12 := (Ks.rf).tr (f11.mono (mo_123))
      intro M4_13 eM4_13
      have h13 := h11 M4_13 eM4_13
      have F13 : Ks (fun k j => k = 0 ∨ (8 ≤ k ∧ k ≤ 14) ∨ (160 ≤ k ∧ k ≤ 162) ∨ (190 ≤ k ∧ k ≤ 191) ∨ (195 ≤ k ∧ k ≤ 196) ∨ (k = 155 ∧ (j = 15)) ∨ (k = 167 ∧ (j = 1))) M M4_13 := by rw [eM4_13]; exact (F11).wr (mw_98)
      obtain ⟨n14, h14⟩ := h13
      refine ⟨n14, ?_⟩
      refine fmX11_years_L31 hQ ?_ _ _ _ F13 h14
      · intro M_16 F15 h15
        intro x25_17 g18 g19
        have h17 := h15 x25_17 g18 g19
        refine fmX6_rightBits h17 ?_
        intro x26_21 M26_22 f20 h20
        have F20 : Ks (fun k j => k = 0 ∨ (8 ≤ k ∧ k ≤ 14) ∨ (160 ≤ k ∧ k ≤ 162) ∨ (190 ≤ k ∧ k ≤ 191) ∨ (195 ≤ k ∧ k ≤ 196) ∨ (k = 155 ∧ (j = 15)) ∨ (k = 167 ∧ (j = 1))) M M26_22 := (F15).tr (f20.mono (fun _ _ h => False.elim h))
        intro g23
        have h24 := h20 g23
        refine fmJ6_bitCount_0f7a4 h24 ?_
        intro x27_26 M27_27 f25 h25
        have F25 : Ks (fun k j => k = 0 ∨ (8 ≤ k ∧ k ≤ 14) ∨ (160 ≤ k ∧ k ≤ 162) ∨ (190 ≤ k ∧ k ≤ 191) ∨ (195 ≤ k ∧ k ≤ 196) ∨ (k = 155 ∧ (j = 15)) ∨ (k = 167 ∧ (j = 1))) M M27_27 := (F20).tr (f25.mono (fun _ _ h => False.elim h))
        intro g28
        have h29 := h25 g28
        refine fmX4_tellTwo h29 ?_
        intro M28_31 f30 h30
        have F30 : Ks (fun k j => k = 0 ∨ (8 ≤ k ∧ k ≤ 14) ∨ (160 ≤ k ∧ k ≤ 162) ∨ (190 ≤ k ∧ k ≤ 191) ∨ (195 ≤ k ∧ k ≤ 196) ∨ (k = 155 ∧ (j = 15)) ∨ (k = 167 ∧ (j = 1))) M M28_31 := (F25).tr (f30.mono (mo_124))
        intro x29_32 g33 g34
        have h32 := h30 x29_32 g33 g34
        exact hQ _ _ F30 h32
    · intro g35
      have h36 := h8 g35
      exact hQ _ _ Ks.rf h36
theorem fmX11_keep {p1 : Int} {M : Mem} {Q Q' : Int → Mem → Prop} (h : qX11_keep p1 M Q) (hQ : ∀ (w0 : Int) (M' : Mem), Ks (fun k j => (29 ≤ k ∧ k ≤ 49) ∨ k = 166) M M' → Q w0 M' → Q' w0 M') : qX11_keep p1 M Q' := by
  unfold qX11_keep at h ⊢
  obtain ⟨h1, h2⟩ := h
  refine ⟨?_, ?_⟩
  · intro g3
    have h4 := h1 g3
    exact hQ _ _ Ks.rf h4
  · intro g5
    have h6 := h2 g5
    obtain ⟨h7, h8⟩ := h6
    refine ⟨?_, ?_⟩
    · intro g9
      have h10 := h7 g9
      obtain ⟨v11, h11⟩ := h10
      refine ⟨v11, ?_⟩
      obtain ⟨v12, h12⟩ := h11
      refine ⟨v12, ?_⟩
      refine fmX6_copyFrom h12 ?_
      intro M5_14 f13 h13
      have F13 : Ks (fun k j => (29 ≤ k ∧ k ≤ 49) ∨ k = 166) M M5_14 := (Ks.rf).tr (f13.mono (by intro k j h; first | exact False.elim h | omega))
      intro M6_15 eM6_15
      have h15 := h13 M6_15 eM6_15
      have F15 : Ks (fun k j => (29 ≤ k ∧ k ≤ 49) ∨ k = 166) M M6_15 := by rw [eM6_15]; exact (F13).wr (mw_99)
      exact hQ _ _ F15 h15
    · intro g16
      have h17 := h8 g16
      exact hQ _ _ Ks.rf h17
theorem fmX11_again {p1 : Int} {M : Mem} {Q Q' : Int → Mem → Prop} (h : qX11_again p1 M Q) (hQ : ∀ (w0 : Int) (M' : Mem), Ks (fun k j => (2 ≤ k ∧ k ≤ 7) ∨ (k = 1 ∧ (j = 6 ∨ j = 7 ∨ j = 8 ∨ j = 9 ∨ j = 10)) ∨ (k = 163 ∧ (j = 2))) M M' → Q w0 M' → Q' w0 M') : qX11_again p1 M Q' := by
  unfold qX11_again at h ⊢
  obtain ⟨h1, h2⟩ := h
  refine ⟨?_, ?_⟩
  · intro g3
    have h4 := h1 g3
    exact hQ _ _ Ks.rf h4
  · intro g5
    have h6 := h2 g5
    obtain ⟨h7, h8⟩ := h6
    refine ⟨?_, ?_⟩
    · intro g9
      have h10 := h7 g9
      exact hQ _ _ Ks.rf h10
    · intro g11
      have h12 := h8 g11
      obtain ⟨v13, h13⟩ := h12
      refine ⟨v13, ?_⟩
      obtain ⟨v14, h14⟩ := h13
      refine ⟨v14, ?_⟩
      intro x5_15 g16 g17
      have h15 := h14 x5_15 g16 g17
      obtain ⟨h18, h19⟩ := h15
      refine ⟨?_, ?_⟩
      · intro g20
        have h21 := h18 g20
        intro x7_22 g23 g24
        have h22 := h21 x7_22 g23 g24
        intro x8_25 g26 g27
        have h25 := h22 x8_25 g26 g27
        obtain ⟨h28, h29⟩ := h25
        refine ⟨?_, ?_⟩
        · intro g30
          have h31 := h28 g30
          exact hQ _ _ Ks.rf h31
        · intro g32
          have h33 := h29 g32
          intro x10_34 g35 g36
          have h34 := h33 x10_34 g35 g36
          intro x11_37 g38 g39
          have h37 := h34 x11_37 g38 g39
          obtain ⟨h40, h41⟩ := h37
          refine ⟨?_, ?_⟩
          · intro g42
            have h43 := h40 g42
            refine fmX6_copyFrom h43 ?_
            intro M13_45 f44 h44
            have F44 : Ks (fun k j => (2 ≤ k ∧ k ≤ 7) ∨ (k = 1 ∧ (j = 6 ∨ j = 7 ∨ j = 8 ∨ j = 9 ∨ j = 10)) ∨ (k = 163 ∧ (j = 2))) M M13_45 := (Ks.rf).tr (f44.mono (mo_125))
            refine fmX1_clear h44 ?_
            intro M14_47 f46 h46
            have F46 : Ks (fun k j => (2 ≤ k ∧ k ≤ 7) ∨ (k = 1 ∧ (j = 6 ∨ j = 7 ∨ j = 8 ∨ j = 9 ∨ j = 10)) ∨ (k = 163 ∧ (j = 2))) M M14_47 := (F44).tr (f46.mono (mo_126))
            exact hQ _ _ F46 h46
          · intro g48
            have h49 := h41 g48
            exact hQ _ _ Ks.rf h49
      · intro g50
        have h51 := h19 g50
        exact hQ _ _ Ks.rf h51
theorem fmX11_count {p1 : Int} {M : Mem} {Q Q' : Int → Mem → Prop} (h : qX11_count p1 M Q) (hQ : ∀ (w0 : Int) (M' : Mem), Ks (fun _ _ => False) M M' → Q w0 M' → Q' w0 M') : qX11_count p1 M Q' := by
  unfold qX11_count at h ⊢
  obtain ⟨h1, h2, h3, h4, h5, h6, h7, h8, h9, h10, h11, h12, h13, h14⟩ := h
  refine ⟨?_, ?_, ?_, ?_, ?_, ?_, ?_, ?_, ?_, ?_, ?_, ?_, ?_, ?_⟩
  · intro g15
    have h16 := h1 g15
    intro x2_17 g18 g19
    have h17 := h16 x2_17 g18 g19
    exact hQ _ _ Ks.rf h17
  · intro g20
    have h21 := h2 g20
    intro x3_22 g23 g24
    have h22 := h21 x3_22 g23 g24
    exact hQ _ _ Ks.rf h22
  · intro g25
    have h26 := h3 g25
    intro x4_27 g28 g29
    have h27 := h26 x4_27 g28 g29
    exact hQ _ _ Ks.rf h27
  · intro g30
    have h31 := h4 g30
    intro x5_32 g33 g34
    have h32 := h31 x5_32 g33 g34
    exact hQ _ _ Ks.rf h32
  · intro g35
    have h36 := h5 g35
    intro x6_37 g38 g39
    have h37 := h36 x6_37 g38 g39
    exact hQ _ _ Ks.rf h37
  · intro g40
    have h41 := h6 g40
    intro x7_42 g43 g44
    have h42 := h41 x7_42 g43 g44
    exact hQ _ _ Ks.rf h42
  · intro g45
    have h46 := h7 g45
    refine fmX6_rightBits h46 ?_
    intro x8_48 M8_49 f47 h47
    have F47 : Ks (fun _ _ => False) M M8_49 := (Ks.rf).tr (f47.mono (fun _ _ h => False.elim h))
    intro g50
    have h51 := h47 g50
    refine fmJ6_bitCount_0f7a4 h51 ?_
    intro x9_53 M9_54 f52 h52
    have F52 : Ks (fun _ _ => False) M M9_54 := (F47).tr (f52.mono (fun _ _ h => False.elim h))
    intro g55
    have h56 := h52 g55
    exact hQ _ _ F52 h56
  · intro g57
    have h58 := h8 g57
    intro x10_59 g60 g61
    have h59 := h58 x10_59 g60 g61
    refine fmJ6_bitCount_0f7a4 h59 ?_
    intro x11_63 M11_64 f62 h62
    have F62 : Ks (fun _ _ => False) M M11_64 := (Ks.rf).tr (f62.mono (fun _ _ h => False.elim h))
    intro g65
    have h66 := h62 g65
    exact hQ _ _ F62 h66
  · intro g67
    have h68 := h9 g67
    intro x12_69 g70 g71
    have h69 := h68 x12_69 g70 g71
    refine fmX8_weatherAt h69 ?_
    intro x13_73 M13_74 f72 h72
    have F72 : Ks (fun _ _ => False) M M13_74 := (Ks.rf).tr (f72.mono (fun _ _ h => False.elim h))
    intro g75
    have h76 := h72 g75
    exact hQ _ _ F72 h76
  · intro g77
    have h78 := h10 g77
    intro x14_79 g80 g81
    have h79 := h78 x14_79 g80 g81
    exact hQ _ _ Ks.rf h79
  · intro g82
    have h83 := h11 g82
    intro x15_84 g85 g86
    have h84 := h83 x15_84 g85 g86
    exact hQ _ _ Ks.rf h84
  · intro g87
    have h88 := h12 g87
    intro x16_89 g90 g91
    have h89 := h88 x16_89 g90 g91
    exact hQ _ _ Ks.rf h89
  · intro g92
    have h93 := h13 g92
    intro x17_94 g95 g96
    have h94 := h93 x17_94 g95 g96
    exact hQ _ _ Ks.rf h94
  · intro g97
    have h98 := h14 g97
    exact hQ _ _ Ks.rf h98
theorem fmX11_paceNow {p1 : Int} {M : Mem} {Q Q' : Int → Mem → Prop} (h : qX11_paceNow p1 M Q) (hQ : ∀ (w0 : Int) (M' : Mem), Ks (fun k j => (190 ≤ k ∧ k ≤ 191) ∨ (195 ≤ k ∧ k ≤ 196)) M M' → Q w0 M' → Q' w0 M') : qX11_paceNow p1 M Q' := by
  unfold qX11_paceNow at h ⊢
  refine fmX6_hasArrived h ?_
  intro x1_2 M1_3 f1 h1
  have F1 : Ks (fun k j => (190 ≤ k ∧ k ≤ 191) ∨ (195 ≤ k ∧ k ≤ 196)) M M1_3 := (Ks.rf).tr (f1.mono (fun _ _ h => False.elim h))
  intro g4 g5
  have h6 := h1 g4 g5
  obtain ⟨h7, h8⟩ := h6
  refine ⟨?_, ?_⟩
  · intro g9
    have h10 := h7 g9
    obtain ⟨v11, h11⟩ := h10
    refine ⟨v11, ?_⟩
    have w11 : (M1_3 155 16).toNat = 187 ∨ (M1_3 155 16).toNat = 192 := v11
    refine fmX2_observe h11 ?_
    intro M4_13 f12 h12
    have F12 : Ks (fun k j => (190 ≤ k ∧ k ≤ 191) ∨ (195 ≤ k ∧ k ≤ 196)) M M4_13 := (F1).tr (f12.mono (fun k j h => w11.elim (fun e => mo_127 k j (by rw [e] at h; exact h)) (fun e => mo_128 k j (by rw [e] at h; exact h))))
    obtain ⟨v14, h14⟩ := h12
    refine ⟨v14, ?_⟩
    have w14 : (M4_13 155 16).toNat = 187 ∨ (M4_13 155 16).toNat = 192 := v14
    refine fmX2_pace h14 ?_
    intro x6_16 M6_17 f15 h15
    have F15 : Ks (fun k j => (190 ≤ k ∧ k ≤ 191) ∨ (195 ≤ k ∧ k ≤ 196)) M M6_17 := (F12).tr (f15.mono (fun k j h => w14.elim (fun e => mo_129 k j (by rw [e] at h; exact h)) (fun e => mo_130 k j (by rw [e] at h; exact h))))
    intro g18
    have h19 := h15 g18
    exact hQ _ _ F15 h19
  · intro g20
    have h21 := h8 g20
    exact hQ _ _ F1 h21
theorem fmX11_hearse {p1 : Int} {p2 : Int} {M : Mem} {Q Q' : Int → Mem → Prop} {E E' : Mem → Prop} (h : qX11_hearse p1 p2 M Q E) (hQ : ∀ (w0 : Int) (M' : Mem), Ks (fun k j => (190 ≤ k ∧ k ≤ 191) ∨ (195 ≤ k ∧ k ≤ 196)) M M' → Q w0 M' → Q' w0 M') (hE : ∀ (M' : Mem), Ks (fun k j => (190 ≤ k ∧ k ≤ 191) ∨ (195 ≤ k ∧ k ≤ 196)) M M' → E M' → E' M') : qX11_hearse p1 p2 M Q' E' := by
  unfold qX11_hearse at h ⊢
  refine fmX6_isHearse h ?_
  intro x1_2 M1_3 f1 h1
  have F1 : Ks (fun k j => (190 ≤ k ∧ k ≤ 191) ∨ (195 ≤ k ∧ k ≤ 196)) M M1_3 := (Ks.rf).tr (f1.mono (fun _ _ h => False.elim h))
  intro g4 g5
  have h6 := h1 g4 g5
  obtain ⟨h7, h8⟩ := h6
  refine ⟨?_, ?_⟩
  · intro g9
    have h10 := h7 g9
    obtain ⟨h11, h12, h13, h14, h15, h16, h17⟩ := h10
    refine ⟨?_, ?_, ?_, ?_, ?_, ?_, ?_⟩
    · intro g18
      have h19 := h11 g18
      obtain ⟨v20, h20⟩ := h19
      refine ⟨v20, ?_⟩
      obtain ⟨v21, h21⟩ := h20
      refine ⟨v21, ?_⟩
      intro x6_22 g23 g24
      have h22 := h21 x6_22 g23 g24
      exact hQ _ _ F1 h22
    · intro g25
      have h26 := h12 g25
      obtain ⟨v27, h27⟩ := h26
      refine ⟨v27, ?_⟩
      obtain ⟨v28, h28⟩ := h27
      refine ⟨v28, ?_⟩
      intro x9_29 g30 g31
      have h29 := h28 x9_29 g30 g31
      exact hQ _ _ F1 h29
    · intro g32
      have h33 := h13 g32
      refine fmX11_paceNow h33 ?_
      intro x10_35 M10_36 f34 h34
      have F34 : Ks (fun k j => (190 ≤ k ∧ k ≤ 191) ∨ (195 ≤ k ∧ k ≤ 196)) M M10_36 := (F1).tr (f34.mono (fun _ _ h => h))
      intro g37
      have h38 := h34 g37
      exact hQ _ _ F34 h38
    · intro g39
      have h40 := h14 g39
      refine fmX6_bitsOf h40 ?_
      intro x11_42 M11_43 f41 h41
      have F41 : Ks (fun k j => (190 ≤ k ∧ k ≤ 191) ∨ (195 ≤ k ∧ k ≤ 196)) M M11_43 := (F1).tr (f41.mono (fun _ _ h => False.elim h))
      intro g44
      have h45 := h41 g44
      exact hQ _ _ F41 h45
    · intro g46
      have h47 := h15 g46
      refine fmX6_bitsOf h47 ?_
      intro x12_49 M12_50 f48 h48
      have F48 : Ks (fun k j => (190 ≤ k ∧ k ≤ 191) ∨ (195 ≤ k ∧ k ≤ 196)) M M12_50 := (F1).tr (f48.mono (fun _ _ h => False.elim h))
      intro g51
      have h52 := h48 g51
      exact hQ _ _ F48 h52
    · intro g53
      have h54 := h16 g53
      refine fmX6_bitsOf h54 ?_
      intro x13_56 M13_57 f55 h55
      have F55 : Ks (fun k j => (190 ≤ k ∧ k ≤ 191) ∨ (195 ≤ k ∧ k ≤ 196)) M M13_57 := (F1).tr (f55.mono (fun _ _ h => False.elim h))
      intro g58
      have h59 := h55 g58
      exact hQ _ _ F55 h59
    · intro g60
      have h61 := h17 g60
      exact hE _ F1 h61
  · intro g62
    have h63 := h8 g62
    exact hE _ F1 h63
theorem fmX11_mourner {p1 : Int} {p2 : Int} {M : Mem} {Q Q' : Int → Mem → Prop} {E E' : Mem → Prop} (h : qX11_mourner p1 p2 M Q E) (hQ : ∀ (w0 : Int) (M' : Mem), Ks (fun _ _ => False) M M' → Q w0 M' → Q' w0 M') (hE : ∀ (M' : Mem), Ks (fun _ _ => False) M M' → E M' → E' M') : qX11_mourner p1 p2 M Q' E' := by
  unfold qX11_mourner at h ⊢
  refine fmX6_isMourner h ?_
  intro x1_2 M1_3 f1 h1
  have F1 : Ks (fun _ _ => False) M M1_3 := (Ks.rf).tr (f1.mono (fun _ _ h => False.elim h))
  intro g4 g5
  have h6 := h1 g4 g5
  obtain ⟨h7, h8⟩ := h6
  refine ⟨?_, ?_⟩
  · intro g9
    have h10 := h7 g9
    obtain ⟨h11, h12, h13, h14, h15, h16⟩ := h10
    refine ⟨?_, ?_, ?_, ?_, ?_, ?_⟩
    · intro g17
      have h18 := h11 g17
      obtain ⟨v19, h19⟩ := h18
      refine ⟨v19, ?_⟩
      obtain ⟨v20, h20⟩ := h19
      refine ⟨v20, ?_⟩
      intro x6_21 g22 g23
      have h21 := h20 x6_21 g22 g23
      exact hQ _ _ F1 h21
    · intro g24
      have h25 := h12 g24
      obtain ⟨v26, h26⟩ := h25
      refine ⟨v26, ?_⟩
      obtain ⟨v27, h27⟩ := h26
      refine ⟨v27, ?_⟩
      intro x9_28 g29 g30
      have h28 := h27 x9_28 g29 g30
      exact hQ _ _ F1 h28
    · intro g31
      have h32 := h13 g31
      obtain ⟨v33, h33⟩ := h32
      refine ⟨v33, ?_⟩
      obtain ⟨v34, h34⟩ := h33
      refine ⟨v34, ?_⟩
      intro x12_35 g36 g37
      have h35 := h34 x12_35 g36 g37
      exact hQ _ _ F1 h35
    · intro g38
      have h39 := h14 g38
      obtain ⟨v40, h40⟩ := h39
      refine ⟨v40, ?_⟩
      obtain ⟨v41, h41⟩ := h40
      refine ⟨v41, ?_⟩
      intro x15_42 g43 g44
      have h42 := h41 x15_42 g43 g44
      exact hQ _ _ F1 h42
    · intro g45
      have h46 := h15 g45
      obtain ⟨v47, h47⟩ := h46
      refine ⟨v47, ?_⟩
      obtain ⟨v48, h48⟩ := h47
      refine ⟨v48, ?_⟩
      intro x18_49 g50 g51
      have h49 := h48 x18_49 g50 g51
      refine fmX6_nearestTo h49 ?_
      intro x19_53 M19_54 f52 h52
      have F52 : Ks (fun _ _ => False) M M19_54 := (F1).tr (f52.mono (fun _ _ h => False.elim h))
      intro g55
      have h56 := h52 g55
      exact hQ _ _ F52 h56
    · intro g57
      have h58 := h16 g57
      exact hE _ F1 h58
  · intro g59
    have h60 := h8 g59
    exact hE _ F1 h60
theorem fmX11_row {p1 : Int} {M : Mem} {Q Q' : Int → Mem → Prop} {E E' : Mem → Prop} (h : qX11_row p1 M Q E) (hQ : ∀ (w0 : Int) (M' : Mem), Ks (fun _ _ => False) M M' → Q w0 M' → Q' w0 M') (hE : ∀ (M' : Mem), Ks (fun _ _ => False) M M' → E M' → E' M') : qX11_row p1 M Q' E' := by
  unfold qX11_row at h ⊢
  obtain ⟨h1, h2⟩ := h
  refine ⟨?_, ?_⟩
  · intro g3
    have h4 := h1 g3
    exact hE _ Ks.rf h4
  · intro g5
    have h6 := h2 g5
    intro x2_7 g8 g9
    have h7 := h6 x2_7 g8 g9
    obtain ⟨h10, h11⟩ := h7
    refine ⟨?_, ?_⟩
    · intro g12
      have h13 := h10 g12
      obtain ⟨v14, h14⟩ := h13
      refine ⟨v14, ?_⟩
      obtain ⟨v15, h15⟩ := h14
      refine ⟨v15, ?_⟩
      intro x6_16 g17 g18
      have h16 := h15 x6_16 g17 g18
      exact hQ _ _ Ks.rf h16
    · intro g19
      have h20 := h11 g19
      exact hE _ Ks.rf h20
