section
theorem fmX11_rightOnesOfTrial {k1 : Nat} {M : Mem} {Q Q' : Int → Mem → Prop} (h : qX11_rightOnesOfTrial k1 M Q) (hQ : ∀ (w0 : Int) (M' : Mem), Ks (fun k j => (8 ≤ k ∧ k ≤ 11) ∨ (13 ≤ k ∧ k ≤ 14) ∨ (160 ≤ k ∧ k ≤ 162) ∨ k = k1 + 3 ∨ k = k1 + 4) M M' → Q w0 M' → Q' w0 M') : qX11_rightOnesOfTrial k1 M Q' := by
  unfold qX11_rightOnesOfTrial at h ⊢
  refine fmX10_toEnd h ?_
  intro M1_2 f1 h1
  have F1 : Ks (fun k j => (8 ≤ k ∧ k ≤ 11) ∨ (13 ≤ k ∧ k ≤ 14) ∨ (160 ≤ k ∧ k ≤ 162) ∨ k = k1 + 3 ∨ k = k1 + 4) M M1_2 := (Ks.rf).tr (f1.mono (mo_82))
  refine fmX6_rightBits h1 ?_
  intro x2_4 M2_5 f3 h3
  have F3 : Ks (fun k j => (8 ≤ k ∧ k ≤ 11) ∨ (13 ≤ k ∧ k ≤ 14) ∨ (160 ≤ k ∧ k ≤ 162) ∨ k = k1 + 3 ∨ k = k1 + 4) M M2_5 := (F1).tr (f3.mono (fun _ _ h => False.elim h))
  intro g6
  have h7 := h3 g6
  exact hQ _ _ F3 h7
theorem fmX6_wrongBits_L4 {k0 : Nat} {Q Q' : Int → Mem → Prop} {M0 : Mem} (hQ : ∀ (w0 : Int) (M' : Mem), Ks (fun _ _ => False) M0 M' → Q w0 M' → Q' w0 M') : ∀ (n : Nat) (v1 v2 : Int) (M : Mem), Ks (fun _ _ => False) M0 M → qX6_wrongBits_L4 k0 Q n v1 v2 M → qX6_wrongBits_L4 k0 Q' n v1 v2 M := by
  intro n
  induction n with
  | zero => intro v1 v2 M _ h; exact h.elim
  | succ n ih =>
    intro v1 v2 M hF h
    rw [qX6_wrongBits_L4] at h
    rw [qX6_wrongBits_L4]
    intro x1_1 g2 g3
    have h1 := h x1_1 g2 g3
    obtain ⟨v4, h4⟩ := h1
    refine ⟨v4, ?_⟩
    obtain ⟨h5, h6⟩ := h4
    refine ⟨?_, ?_⟩
    · intro g7
      have h8 := h5 g7
      obtain ⟨v9, h9⟩ := h8
      refine ⟨v9, ?_⟩
      exact hQ _ _ hF h9
    · intro g10
      have h11 := h6 g10
      refine fmX6_hasEnded h11 ?_
      intro x5_13 M5_14 f12 h12
      have F12 : Ks (fun _ _ => False) M0 M5_14 := (hF).tr (f12.mono (fun _ _ h => False.elim h))
      intro g15 g16
      have h17 := h12 g15 g16
      obtain ⟨h18, h19⟩ := h17
      refine ⟨?_, ?_⟩
      · intro g20
        have h21 := h18 g20
        intro x7_22 g23 g24
        have h22 := h21 x7_22 g23 g24
        exact ih _ _ _ F12 h22
      · intro g25
        have h26 := h19 g25
        refine fmX6_isRight h26 ?_
        intro x8_28 M8_29 f27 h27
        have F27 : Ks (fun _ _ => False) M0 M8_29 := (F12).tr (f27.mono (fun _ _ h => False.elim h))
        intro g30 g31
        have h32 := h27 g30 g31
        obtain ⟨h33, h34⟩ := h32
        refine ⟨?_, ?_⟩
        · intro g35
          have h36 := h33 g35
          intro x10_37 g38 g39
          have h37 := h36 x10_37 g38 g39
          exact ih _ _ _ F27 h37
        · intro g40
          have h41 := h34 g40
          intro x11_42 g43 g44
          have h42 := h41 x11_42 g43 g44
          intro x12_45 g46 g47
          have h45 := h42 x12_45 g46 g47
          exact ih _ _ _ F27 h45
theorem fmX6_wrongBits {k0 : Nat} {M : Mem} {Q Q' : Int → Mem → Prop} (h : qX6_wrongBits k0 M Q) (hQ : ∀ (w0 : Int) (M' : Mem), Ks (fun _ _ => False) M M' → Q w0 M' → Q' w0 M') : qX6_wrongBits k0 M Q' := by
  unfold qX6_wrongBits at h ⊢
  obtain ⟨n1, h1⟩ := h
  refine ⟨n1, ?_⟩
  refine fmX6_wrongBits_L4 hQ _ _ _ _ Ks.rf h1
theorem fmX11_right  {M : Mem} {Q Q' : Int → Mem → Prop} (h : qX11_right M Q) (hQ : ∀ (w0 : Int) (M' : Mem), Ks (fun k j => k = 0 ∨ (8 ≤ k ∧ k ≤ 14) ∨ (160 ≤ k ∧ k ≤ 162) ∨ (190 ≤ k ∧ k ≤ 191) ∨ (195 ≤ k ∧ k ≤ 196) ∨ (k = 167 ∧ (j = 1))) M M' → Q w0 M' → Q' w0 M') : qX11_right M Q' := by
  unfold qX11_right at h ⊢
  refine fmX6_copyFrom h ?_
  intro M1_2 f1 h1
  have F1 : Ks (fun k j => k = 0 ∨ (8 ≤ k ∧ k ≤ 14) ∨ (160 ≤ k ∧ k ≤ 162) ∨ (190 ≤ k ∧ k ≤ 191) ∨ (195 ≤ k ∧ k ≤ 196) ∨ (k = 167 ∧ (j = 1))) M M1_2 := (Ks.rf).tr (f1.mono (mo_77))
  obtain ⟨v3, h3⟩ := h1
  refine ⟨v3, ?_⟩
  have w3 : (M1_2 155 16).toNat = 187 ∨ (M1_2 155 16).toNat = 192 := v3
  refine fmX11_rightOnesOfTrial h3 ?_
  intro x3_5 M3_6 f4 h4
  have F4 : Ks (fun k j => k = 0 ∨ (8 ≤ k ∧ k ≤ 14) ∨ (160 ≤ k ∧ k ≤ 162) ∨ (190 ≤ k ∧ k ≤ 191) ∨ (195 ≤ k ∧ k ≤ 196) ∨ (k = 167 ∧ (j = 1))) M M3_6 := (F1).tr (f4.mono (fun k j h => w3.elim (fun e => mo_83 k j (by rw [e] at h; exact h)) (fun e => mo_84 k j (by rw [e] at h; exact h))))
  intro g7
  have h8 := h4 g7
  refine fmX6_wrongBits h8 ?_
  intro x4_10 M4_11 f9 h9
  have F9 : Ks (fun k j => k = 0 ∨ (8 ≤ k ∧ k ≤ 14) ∨ (160 ≤ k ∧ k ≤ 162) ∨ (190 ≤ k ∧ k ≤ 191) ∨ (195 ≤ k ∧ k ≤ 196) ∨ (k = 167 ∧ (j = 1))) M M4_11 := (F4).tr (f9.mono (fun _ _ h => False.elim h))
  intro g12
  have h13 := h9 g12
  refine fmX4_tellTwo h13 ?_
  intro M5_15 f14 h14
  have F14 : Ks (fun k j => k = 0 ∨ (8 ≤ k ∧ k ≤ 14) ∨ (160 ≤ k ∧ k ≤ 162) ∨ (190 ≤ k ∧ k ≤ 191) ∨ (195 ≤ k ∧ k ≤ 196) ∨ (k = 167 ∧ (j = 1))) M M5_15 := (F9).tr (f14.mono (mo_76))
  refine fmJ6_bitCount_0f7a4 h14 ?_
  intro x6_17 M6_18 f16 h16
  have F16 : Ks (fun k j => k = 0 ∨ (8 ≤ k ∧ k ≤ 14) ∨ (160 ≤ k ∧ k ≤ 162) ∨ (190 ≤ k ∧ k ≤ 191) ∨ (195 ≤ k ∧ k ≤ 196) ∨ (k = 167 ∧ (j = 1))) M M6_18 := (F14).tr (f16.mono (fun _ _ h => False.elim h))
  intro g19
  have h20 := h16 g19
  exact hQ _ _ F16 h20
theorem fmX3_begin_L7 {k1 : Nat} {Q Q' : Mem → Prop} {M0 : Mem} (hQ : ∀ (M' : Mem), Ks (fun k j => k = 180 ∨ (k = 179 ∧ (j = 2))) M0 M' → Q M' → Q' M') : ∀ (n : Nat) (v3 : Int) (M : Mem), Ks (fun k j => k = 180 ∨ (k = 179 ∧ (j = 2))) M0 M → qX3_begin_L7 k1 Q n v3 M → qX3_begin_L7 k1 Q' n v3 M := by
  intro n
  induction n with
  | zero => intro v3 M _ h; exact h.elim
  | succ n ih =>
    intro v3 M hF h
    rw [qX3_begin_L7] at h
    rw [qX3_begin_L7]
    intro x2_1 g2 g3
    have h1 := h x2_1 g2 g3
    obtain ⟨v4, h4⟩ := h1
    refine ⟨v4, ?_⟩
    obtain ⟨h5, h6⟩ := h4
    refine ⟨?_, ?_⟩
    · intro g7
      have h8 := h5 g7
      exact hQ _ hF h8
    · intro g9
      have h10 := h6 g9
      intro x5_11 g12 g13
      have h11 := h10 x5_11 g12 g13
      obtain ⟨h14, h15⟩ := h11
      refine ⟨?_, ?_⟩
      · intro g16
        have h17 := h14 g16
        exact hQ _ hF h17
      · intro g18
        have h19 := h15 g18
        refine fmX6_hearseOn h19 ?_
        intro x7_21 M7_22 f20 h20
        have F20 : Ks (fun k j => k = 180 ∨ (k = 179 ∧ (j = 2))) M0 M7_22 := (hF).tr (f20.mono (fun _ _ h => False.elim h))
        intro g23
        have h24 := h20 g23
        obtain ⟨h25, h26⟩ := h24
        refine ⟨?_, ?_⟩
        · intro g27
          have h28 := h25 g27
          exact ih _ _ F20 h28
        · intro g29
          have h30 := h26 g29
          intro x9_31 g32 g33
          have h31 := h30 x9_31 g32 g33
          obtain ⟨v34, h34⟩ := h31
          refine ⟨v34, ?_⟩
          obtain ⟨v35, h35⟩ := h34
          refine ⟨v35, ?_⟩
          intro M12_36 eM12_36
          have h36 := h35 M12_36 eM12_36
          have F36 : Ks (fun k j => k = 180 ∨ (k = 179 ∧ (j = 2))) M0 M12_36 := by rw [eM12_36]; exact (F20).wr (mw_85 _)
          intro x13_37 g38 g39
          have h37 := h36 x13_37 g38 g39
          obtain ⟨v40, h40⟩ := h37
          refine ⟨v40, ?_⟩
          intro M15_41 eM15_41
          have h41 := h40 M15_41 eM15_41
          have F41 : Ks (fun k j => k = 180 ∨ (k = 179 ∧ (j = 2))) M0 M15_41 := by rw [eM15_41]; exact (F36).wr (mw_86)
          exact ih _ _ F41 h41
theorem fmX3_begin {k1 : Nat} {M : Mem} {Q Q' : Mem → Prop} (h : qX3_begin k1 M Q) (hQ : ∀ (M' : Mem), Ks (fun k j => k = 180 ∨ (k = 179 ∧ (j = 2))) M M' → Q M' → Q' M') : qX3_begin k1 M Q' := by
  unfold qX3_begin at h ⊢
  intro M1_1 eM1_1
  have h1 := h M1_1 eM1_1
  have F1 : Ks (fun k j => k = 180 ∨ (k = 179 ∧ (j = 2))) M M1_1 := by rw [eM1_1]; exact (Ks.rf).wr (mw_86)
  obtain ⟨n2, h2⟩ := h1
  refine ⟨n2, ?_⟩
  refine fmX3_begin_L7 hQ _ _ _ F1 h2
theorem fmX3_markBest  {M : Mem} {Q Q' : Mem → Prop} (h : qX3_markBest M Q) (hQ : ∀ (M' : Mem), Ks (fun k j => k = 181) M M' → Q M' → Q' M') : qX3_markBest M Q' := by
  unfold qX3_markBest at h ⊢
  intro M1_1 eM1_1
  have h1 := h M1_1 eM1_1
  have F1 : Ks (fun k j => k = 181) M M1_1 := by rw [eM1_1]; exact (Ks.rf).cp (fun _ => mw_87)
  exact hQ _ F1 h1
theorem fmX3_exchangeCells {p1 : Int} {p2 : Int} {M : Mem} {Q Q' : Mem → Prop} (h : qX3_exchangeCells p1 p2 M Q) (hQ : ∀ (M' : Mem), Ks (fun k j => k = 180) M M' → Q M' → Q' M') : qX3_exchangeCells p1 p2 M Q' := by
  unfold qX3_exchangeCells at h ⊢
  obtain ⟨v1, h1⟩ := h
  refine ⟨v1, ?_⟩
  obtain ⟨v2, h2⟩ := h1
  refine ⟨v2, ?_⟩
  intro x3_3 g4 g5
  have h3 := h2 x3_3 g4 g5
  obtain ⟨v6, h6⟩ := h3
  refine ⟨v6, ?_⟩
  obtain ⟨v7, h7⟩ := h6
  refine ⟨v7, ?_⟩
  intro x6_8 g9 g10
  have h8 := h7 x6_8 g9 g10
  intro M7_11 eM7_11
  have h11 := h8 M7_11 eM7_11
  have F11 : Ks (fun k j => k = 180) M M7_11 := by rw [eM7_11]; exact (Ks.rf).wr (mw_88)
  intro M8_12 eM8_12
  have h12 := h11 M8_12 eM8_12
  have F12 : Ks (fun k j => k = 180) M M8_12 := by rw [eM8_12]; exact (F11).wr (mw_88)
  exact hQ _ F12 h12
theorem fmX3_toNext_L7  {X34 X34' : Int → Mem → Prop} {Q Q' : Int → Mem → Prop} {M0 : Mem} (hQ : ∀ (w0 : Int) (M' : Mem), Ks (fun k j => k = 180) M0 M' → Q w0 M' → Q' w0 M') (hX34 : ∀ (w0 : Int) (M' : Mem), Ks (fun k j => k = 180) M0 M' → X34 w0 M' → X34' w0 M') : ∀ (n : Nat) (v1 : Int) (M : Mem), Ks (fun k j => k = 180) M0 M → qX3_toNext_L7 X34 Q n v1 M → qX3_toNext_L7 X34' Q' n v1 M := by
  intro n
  induction n with
  | zero => intro v1 M _ h; exact h.elim
  | succ n ih =>
    intro v1 M hF h
    rw [qX3_toNext_L7] at h
    rw [qX3_toNext_L7]
    obtain ⟨v1, h1⟩ := h
    refine ⟨v1, ?_⟩
    obtain ⟨h2, h3⟩ := h1
    refine ⟨?_, ?_⟩
    · intro g4
      have h5 := h2 g4
      exact hX34 _ _ hF h5
    · intro g6
      have h7 := h3 g6
      obtain ⟨v8, h8⟩ := h7
      refine ⟨v8, ?_⟩
      obtain ⟨v9, h9⟩ := h8
      refine ⟨v9, ?_⟩
      intro x6_10 g11 g12
      have h10 := h9 x6_10 g11 g12
      obtain ⟨v13, h13⟩ := h10
      refine ⟨v13, ?_⟩
      obtain ⟨v14, h14⟩ := h13
      refine ⟨v14, ?_⟩
      intro x9_15 g16 g17
      have h15 := h14 x9_15 g16 g17
      obtain ⟨h18, h19⟩ := h15
      refine ⟨?_, ?_⟩
      · intro g20
        have h21 := h18 g20
        exact hX34 _ _ hF h21
      · intro g22
        have h23 := h19 g22
        exact ih _ _ hF h23
theorem fmX3_toNext_L47  {X73 X73' : Int → Int → Mem → Prop} {Q Q' : Int → Mem → Prop} {M0 : Mem} (hQ : ∀ (w0 : Int) (M' : Mem), Ks (fun k j => k = 180) M0 M' → Q w0 M' → Q' w0 M') (hX73 : ∀ (w0 w1 : Int) (M' : Mem), Ks (fun k j => k = 180) M0 M' → X73 w0 w1 M' → X73' w0 w1 M') : ∀ (n : Nat) (v1 v2 : Int) (M : Mem), Ks (fun k j => k = 180) M0 M → qX3_toNext_L47 X73 Q n v1 v2 M → qX3_toNext_L47 X73' Q' n v1 v2 M := by
  intro n
  induction n with
  | zero => intro v1 v2 M _ h; exact h.elim
  | succ n ih =>
    intro v1 v2 M hF h
    rw [qX3_toNext_L47] at h
    rw [qX3_toNext_L47]
    obtain ⟨v1, h1⟩ := h
    refine ⟨v1, ?_⟩
    obtain ⟨v2, h2⟩ := h1
    refine ⟨v2, ?_⟩
    obtain ⟨h3, h4⟩ := h2
    refine ⟨?_, ?_⟩
    · intro g5
      have h6 := h3 g5
      exact hX73 _ _ _ hF h6
    · intro g7
      have h8 := h4 g7
      obtain ⟨v9, h9⟩ := h8
      refine ⟨v9, ?_⟩
      obtain ⟨v10, h10⟩ := h9
      refine ⟨v10, ?_⟩
      intro x20_11 g12 g13
      have h11 := h10 x20_11 g12 g13
      obtain ⟨v14, h14⟩ := h11
      refine ⟨v14, ?_⟩
      obtain ⟨v15, h15⟩ := h14
      refine ⟨v15, ?_⟩
      intro x23_16 g17 g18
      have h16 := h15 x23_16 g17 g18
      obtain ⟨h19, h20⟩ := h16
      refine ⟨?_, ?_⟩
      · intro g21
        have h22 := h19 g21
        exact hX73 _ _ _ hF h22
      · intro g23
        have h24 := h20 g23
        exact ih _ _ _ hF h24
theorem fmX3_toNext_L91  {Q Q' : Int → Mem → Prop} {M0 : Mem} (hQ : ∀ (w0 : Int) (M' : Mem), Ks (fun k j => k = 180) M0 M' → Q w0 M' → Q' w0 M') : ∀ (n : Nat) (v3 v4 : Int) (M : Mem), Ks (fun k j => k = 180) M0 M → qX3_toNext_L91 Q n v3 v4 M → qX3_toNext_L91 Q' n v3 v4 M := by
  intro n
  induction n with
  | zero => intro v3 v4 M _ h; exact h.elim
  | succ n ih =>
    intro v3 v4 M hF h
    rw [qX3_toNext_L91] at h
    rw [qX3_toNext_L91]
    obtain ⟨v1, h1⟩ := h
    refine ⟨v1, ?_⟩
    obtain ⟨v2, h2⟩ := h1
    refine ⟨v2, ?_⟩
    obtain ⟨h3, h4⟩ := h2
    refine ⟨?_, ?_⟩
    · intro g5
      have h6 := h3 g5
      exact hQ _ _ hF h6
    · intro g7
      have h8 := h4 g7
      refine fmX3_exchangeCells h8 ?_
      intro M33_10 f9 h9
      have F9 : Ks (fun k j => k = 180) M0 M33_10 := (hF).tr (f9.mono (fun _ _ h => h))
      exact ih _ _ _ F9 h9
theorem fmX3_toNext  {M : Mem} {Q Q' : Int → Mem → Prop} (h : qX3_toNext M Q) (hQ : ∀ (w0 : Int) (M' : Mem), Ks (fun k j => k = 180) M M' → Q w0 M' → Q' w0 M') : qX3_toNext M Q' := by
  unfold qX3_toNext at h ⊢
  intro x1_1 g2 g3
  have h1 := h x1_1 g2 g3
  obtain ⟨n4, h4⟩ := h1
  refine ⟨n4, ?_⟩
  refine fmX3_toNext_L7 hQ ?_ _ _ _ Ks.rf h4
  · intro v1_6 M_7 F5 h5
    unfold qX3_toNext_J34 at h5 ⊢
    obtain ⟨v8, h8⟩ := h5
    refine ⟨v8, ?_⟩
    obtain ⟨h9, h10⟩ := h8
    refine ⟨?_, ?_⟩
    · intro g11
      have h12 := h9 g11
      intro x14_13 g14 g15
      have h13 := h12 x14_13 g14 g15
      obtain ⟨n16, h16⟩ := h13
      refine ⟨n16, ?_⟩
      refine fmX3_toNext_L47 hQ ?_ _ _ _ _ F5 h16
      · intro v1_18 v2_19 M_20 F17 h17
        unfold qX3_toNext_J73 at h17 ⊢
        obtain ⟨v21, h21⟩ := h17
        refine ⟨v21, ?_⟩
        obtain ⟨v22, h22⟩ := h21
        refine ⟨v22, ?_⟩
        refine fmX3_exchangeCells h22 ?_
        intro M28_24 f23 h23
        have F23 : Ks (fun k j => k = 180) M M28_24 := (F17).tr (f23.mono (fun _ _ h => h))
        intro x29_25 g26 g27
        have h25 := h23 x29_25 g26 g27
        obtain ⟨n28, h28⟩ := h25
        refine ⟨n28, ?_⟩
        refine fmX3_toNext_L91 hQ _ _ _ _ F23 h28
    · intro g29
      have h30 := h10 g29
      exact hQ _ _ F5 h30
theorem fmX6_placeHearses_L4 {k0 : Nat} {k1 : Nat} {Q Q' : Mem → Prop} {M0 : Mem} (hQ : ∀ (M' : Mem), Ks (fun k j => k = k0 + 1) M0 M' → Q M' → Q' M') : ∀ (n : Nat) (v2 v3 : Int) (M : Mem), Ks (fun k j => k = k0 + 1) M0 M → qX6_placeHearses_L4 k0 k1 Q n v2 v3 M → qX6_placeHearses_L4 k0 k1 Q' n v2 v3 M := by
  intro n
  induction n with
  | zero => intro v2 v3 M _ h; exact h.elim
  | succ n ih =>
    intro v2 v3 M hF h
    rw [qX6_placeHearses_L4] at h
    rw [qX6_placeHearses_L4]
    intro x1_1 g2 g3
    have h1 := h x1_1 g2 g3
    obtain ⟨v4, h4⟩ := h1
    refine ⟨v4, ?_⟩
    obtain ⟨h5, h6⟩ := h4
    refine ⟨?_, ?_⟩
    · intro g7
      have h8 := h5 g7
      exact hQ _ hF h8
    · intro g9
      have h10 := h6 g9
      refine fmX6_hasArrived h10 ?_
      intro x4_12 M4_13 f11 h11
      have F11 : Ks (fun k j => k = k0 + 1) M0 M4_13 := (hF).tr (f11.mono (fun _ _ h => False.elim h))
      intro g14 g15
      have h16 := h11 g14 g15
      obtain ⟨h17, h18⟩ := h16
      refine ⟨?_, ?_⟩
      · intro g19
        have h20 := h17 g19
        exact ih _ _ _ F11 h20
      · intro g21
        have h22 := h18 g21
        obtain ⟨v23, h23⟩ := h22
        refine ⟨v23, ?_⟩
        obtain ⟨v24, h24⟩ := h23
        refine ⟨v24, ?_⟩
        intro x8_25 g26 g27
        have h25 := h24 x8_25 g26 g27
        obtain ⟨v28, h28⟩ := h25
        refine ⟨v28, ?_⟩
        obtain ⟨v29, h29⟩ := h28
        refine ⟨v29, ?_⟩
        intro M11_30 eM11_30
        have h30 := h29 M11_30 eM11_30
        have F30 : Ks (fun k j => k = k0 + 1) M0 M11_30 := by rw [eM11_30]; exact (F11).wr (mw_83)
        exact ih _ _ _ F30 h30
theorem fmX6_placeHearses {k0 : Nat} {k1 : Nat} {M : Mem} {Q Q' : Mem → Prop} (h : qX6_placeHearses k0 k1 M Q) (hQ : ∀ (M' : Mem), Ks (fun k j => k = k0 + 1) M M' → Q M' → Q' M') : qX6_placeHearses k0 k1 M Q' := by
  unfold qX6_placeHearses at h ⊢
  obtain ⟨n1, h1⟩ := h
  refine ⟨n1, ?_⟩
  refine fmX6_placeHearses_L4 hQ _ _ _ _ Ks.rf h1
theorem fmX11_order_L21  {X111 X111' : Int → Mem → Prop} {Q Q' : Int → Mem → Prop} {M0 : Mem} (hQ : ∀ (w0 : Int) (M' : Mem), Ks (fun k j => k = 0 ∨ (8 ≤ k ∧ k ≤ 14) ∨ (160 ≤ k ∧ k ≤ 162) ∨ (180 ≤ k ∧ k ≤ 181) ∨ (190 ≤ k ∧ k ≤ 191) ∨ (195 ≤ k ∧ k ≤ 196) ∨ (k = 167 ∧ (j = 1)) ∨ (k = 179 ∧ (j = 2))) M0 M' → Q w0 M' → Q' w0 M') (hX111 : ∀ (w0 : Int) (M' : Mem), Ks (fun k j => k = 0 ∨ (8 ≤ k ∧ k ≤ 14) ∨ (160 ≤ k ∧ k ≤ 162) ∨ (180 ≤ k ∧ k ≤ 181) ∨ (190 ≤ k ∧ k ≤ 191) ∨ (195 ≤ k ∧ k ≤ 196) ∨ (k = 167 ∧ (j = 1)) ∨ (k = 179 ∧ (j = 2))) M0 M' → X111 w0 M' → X111' w0 M') : ∀ (n : Nat) (v1 v2 v3 : Int) (M : Mem), Ks (fun k j => k = 0 ∨ (8 ≤ k ∧ k ≤ 14) ∨ (160 ≤ k ∧ k ≤ 162) ∨ (180 ≤ k ∧ k ≤ 181) ∨ (190 ≤ k ∧ k ≤ 191) ∨ (195 ≤ k ∧ k ≤ 196) ∨ (k = 167 ∧ (j = 1)) ∨ (k = 179 ∧ (j = 2))) M0 M → qX11_order_L21 X111 Q n v1 v2 v3 M → qX11_order_L21 X111' Q' n v1 v2 v3 M := by
  intro n
  induction n with
  | zero => intro v1 v2 v3 M _ h; exact h.elim
  | succ n ih =>
    intro v1 v2 v3 M hF h
    rw [qX11_order_L21] at h
    rw [qX11_order_L21]
    obtain ⟨v1, h1⟩ := h
    refine ⟨v1, ?_⟩
    obtain ⟨h2, h3⟩ := h1
    refine ⟨?_, ?_⟩
    · intro g4
      have h5 := h2 g4
      exact hX111 _ _ hF h5
    · intro g6
      have h7 := h3 g6
      obtain ⟨v8, h8⟩ := h7
      refine ⟨v8, ?_⟩
      obtain ⟨h9, h10⟩ := h8
      refine ⟨?_, ?_⟩
      · intro g11
        have h12 := h9 g11
        exact hX111 _ _ hF h12
      · intro g13
        have h14 := h10 g13
        intro x6_15 g16 g17
        have h15 := h14 x6_15 g16 g17
        obtain ⟨v18, h18⟩ := h15
        refine ⟨v18, ?_⟩
        obtain ⟨h19, h20⟩ := h18
        refine ⟨?_, ?_⟩
        · intro g21
          have h22 := h19 g21
          exact hX111 _ _ hF h22
        · intro g23
          have h24 := h20 g23
          refine fmX6_copyFrom h24 ?_
          intro M9_26 f25 h25
          have F25 : Ks (fun k j => k = 0 ∨ (8 ≤ k ∧ k ≤ 14) ∨ (160 ≤ k ∧ k ≤ 162) ∨ (180 ≤ k ∧ k ≤ 181) ∨ (190 ≤ k ∧ k ≤ 191) ∨ (195 ≤ k ∧ k ≤ 196) ∨ (k = 167 ∧ (j = 1)) ∨ (k = 179 ∧ (j = 2))) M0 M9_26 := (hF).tr (f25.mono (mo_85))
          refine fmX6_placeHearses h25 ?_
          intro M10_28 f27 h27
          have F27 : Ks (fun k j => k = 0 ∨ (8 ≤ k ∧ k ≤ 14) ∨ (160 ≤ k ∧ k ≤ 162) ∨ (180 ≤ k ∧ k ≤ 181) ∨ (190 ≤ k ∧ k ≤ 191) ∨ (195 ≤ k ∧ k ≤ 196) ∨ (k = 167 ∧ (j = 1)) ∨ (k = 179 ∧ (j = 2))) M0 M10_28 := (F25).tr (f27.mono (mo_86))
          obtain ⟨v29, h29⟩ := h27
          refine ⟨v29, ?_⟩
          have w29 : (M10_28 155 16).toNat = 187 ∨ (M10_28 155 16).toNat = 192 := v29
          refine fmX11_rightOnesOfTrial h29 ?_
          intro x12_31 M12_32 f30 h30
          have F30 : Ks (fun k j => k = 0 ∨ (8 ≤ k ∧ k ≤ 14) ∨ (160 ≤ k ∧ k ≤ 162) ∨ (180 ≤ k ∧ k ≤ 181) ∨ (190 ≤ k ∧ k ≤ 191) ∨ (195 ≤ k ∧ k ≤ 196) ∨ (k = 167 ∧ (j = 1)) ∨ (k = 179 ∧ (j = 2))) M0 M12_32 := (F27).tr (f30.mono (fun k j h => w29.elim (fun e => mo_87 k j (by rw [e] at h; exact h)) (fun e => mo_88 k j (by rw [e] at h; exact h))))
          intro g33
          have h34 := h30 g33
          refine fmJ6_bitCount_0f7a4 h34 ?_
          intro x13_36 M13_37 f35 h35
          have F35 : Ks (fun k j => k = 0 ∨ (8 ≤ k ∧ k ≤ 14) ∨ (160 ≤ k ∧ k ≤ 162) ∨ (180 ≤ k ∧ k ≤ 181) ∨ (190 ≤ k ∧ k ≤ 191) ∨ (195 ≤ k ∧ k ≤ 196) ∨ (k = 167 ∧ (j = 1)) ∨ (k = 179 ∧ (j = 2))) M0 M13_37 := (F30).tr (f35.mono (fun _ _ h => False.elim h))
          intro g38
          have h39 := h35 g38
          obtain ⟨h40, h41⟩ := h39
          refine ⟨?_, ?_⟩
          · intro g42
            have h43 := h40 g42
            unfold qX11_order_J97 at h43 ⊢
            refine fmX3_toNext h43 ?_
            intro x15_45 M15_46 f44 h44
            have F44 : Ks (fun k j => k = 0 ∨ (8 ≤ k ∧ k ≤ 14) ∨ (160 ≤ k ∧ k ≤ 162) ∨ (180 ≤ k ∧ k ≤ 181) ∨ (190 ≤ k ∧ k ≤ 191) ∨ (195 ≤ k ∧ k ≤ 196) ∨ (k = 167 ∧ (j = 1)) ∨ (k = 179 ∧ (j = 2))) M0 M15_46 := (F35).tr (f44.mono (mo_89))
            intro g47 g48
            have h49 := h44 g47 g48
            exact ih _ _ _ _ F44 h49
          · intro g50
            have h51 := h41 g50
            refine fmX3_markBest h51 ?_
            intro M16_53 f52 h52
            have F52 : Ks (fun k j => k = 0 ∨ (8 ≤ k ∧ k ≤ 14) ∨ (160 ≤ k ∧ k ≤ 162) ∨ (180 ≤ k ∧ k ≤ 181) ∨ (190 ≤ k ∧ k ≤ 191) ∨ (195 ≤ k ∧ k ≤ 196) ∨ (k = 167 ∧ (j = 1)) ∨ (k = 179 ∧ (j = 2))) M0 M16_53 := (F35).tr (f52.mono (mo_90))
            unfold qX11_order_J97 at h52 ⊢
            refine fmX3_toNext h52 ?_
            intro x15_55 M15_56 f54 h54
            have F54 : Ks (fun k j => k = 0 ∨ (8 ≤ k ∧ k ≤ 14) ∨ (160 ≤ k ∧ k ≤ 162) ∨ (180 ≤ k ∧ k ≤ 181) ∨ (190 ≤ k ∧ k ≤ 191) ∨ (195 ≤ k ∧ k ≤ 196) ∨ (k = 167 ∧ (j = 1)) ∨ (k = 179 ∧ (j = 2))) M0 M15_56 := (F52).tr (f54.mono (mo_89))
            intro g57 g58
            have h59 := h54 g57 g58
            exact ih _ _ _ _ F54 h59
theorem fmX11_order_L120  {Q Q' : Int → Mem → Prop} {M0 : Mem} (hQ : ∀ (w0 : Int) (M' : Mem), Ks (fun k j => k = 0 ∨ (8 ≤ k ∧ k ≤ 14) ∨ (160 ≤ k ∧ k ≤ 162) ∨ (180 ≤ k ∧ k ≤ 181) ∨ (190 ≤ k ∧ k ≤ 191) ∨ (195 ≤ k ∧ k ≤ 196) ∨ (k = 167 ∧ (j = 1)) ∨ (k = 179 ∧ (j = 2))) M0 M' → Q w0 M' → Q' w0 M') : ∀ (n : Nat) (v1 v3 : Int) (M : Mem), Ks (fun k j => k = 0 ∨ (8 ≤ k ∧ k ≤ 14) ∨ (160 ≤ k ∧ k ≤ 162) ∨ (180 ≤ k ∧ k ≤ 181) ∨ (190 ≤ k ∧ k ≤ 191) ∨ (195 ≤ k ∧ k ≤ 196) ∨ (k = 167 ∧ (j = 1)) ∨ (k = 179 ∧ (j = 2))) M0 M → qX11_order_L120 Q n v1 v3 M → qX11_order_L120 Q' n v1 v3 M := by
  intro n
  induction n with
  | zero => intro v1 v3 M _ h; exact h.elim
  | succ n ih =>
    intro v1 v3 M hF h
    rw [qX11_order_L120] at h
    rw [qX11_order_L120]
    intro x19_1 g2 g3
    have h1 := h x19_1 g2 g3
    obtain ⟨v4, h4⟩ := h1
    refine ⟨v4, ?_⟩
    obtain ⟨h5, h6⟩ := h4
    refine ⟨?_, ?_⟩
    · intro g7
      have h8 := h5 g7
      obtain ⟨v9, h9⟩ := h8
      refine ⟨v9, ?_⟩
      exact hQ _ _ hF h9
    · intro g10
      have h11 := h6 g10
      obtain ⟨v12, h12⟩ := h11
      refine ⟨v12, ?_⟩
      obtain ⟨v13, h13⟩ := h12
      refine ⟨v13, ?_⟩
      intro x25_14 g15 g16
      have h14 := h13 x25_14 g15 g16
      refine fmX4_add h14 ?_
      intro M26_18 f17 h17
      have F17 : Ks (fun k j => k = 0 ∨ (8 ≤ k ∧ k ≤ 14) ∨ (160 ≤ k ∧ k ≤ 162) ∨ (180 ≤ k ∧ k ≤ 181) ∨ (190 ≤ k ∧ k ≤ 191) ∨ (195 ≤ k ∧ k ≤ 196) ∨ (k = 167 ∧ (j = 1)) ∨ (k = 179 ∧ (j = 2))) M0 M26_18 := (hF).tr (f17.mono (mo_91))
      exact ih _ _ _ F17 h17
theorem fmX11_order  {M : Mem} {Q Q' : Int → Mem → Prop} (h : qX11_order M Q) (hQ : ∀ (w0 : Int) (M' : Mem), Ks (fun k j => k = 0 ∨ (8 ≤ k ∧ k ≤ 14) ∨ (160 ≤ k ∧ k ≤ 162) ∨ (180 ≤ k ∧ k ≤ 181) ∨ (190 ≤ k ∧ k ≤ 191) ∨ (195 ≤ k ∧ k ≤ 196) ∨ (k = 167 ∧ (j = 1)) ∨ (k = 179 ∧ (j = 2))) M M' → Q w0 M' → Q' w0 M') : qX11_order M Q' := by
  unfold qX11_order at h ⊢
  refine fmX3_begin h ?_
  intro M1_2 f1 h1
  have F1 : Ks (fun k j => k = 0 ∨ (8 ≤ k ∧ k ≤ 14) ∨ (160 ≤ k ∧ k ≤ 162) ∨ (180 ≤ k ∧ k ≤ 181) ∨ (190 ≤ k ∧ k ≤ 191) ∨ (195 ≤ k ∧ k ≤ 196) ∨ (k = 167 ∧ (j = 1)) ∨ (k = 179 ∧ (j = 2))) M M1_2 := (Ks.rf).tr (f1.mono (mo_92))
  obtain ⟨n3, h3⟩ := h1
  refine ⟨n3, ?_⟩
  refine fmX11_order_L21 hQ ?_ _ _ _ _ _ F1 h3
  · intro v1_5 M_6 F4 h4
    unfold qX11_order_J111 at h4 ⊢
    refine fmX4_clear h4 ?_
    intro M18_8 f7 h7
    have F7 : Ks (fun k j => k = 0 ∨ (8 ≤ k ∧ k ≤ 14) ∨ (160 ≤ k ∧ k ≤ 162) ∨ (180 ≤ k ∧ k ≤ 181) ∨ (190 ≤ k ∧ k ≤ 191) ∨ (195 ≤ k ∧ k ≤ 196) ∨ (k = 167 ∧ (j = 1)) ∨ (k = 179 ∧ (j = 2))) M M18_8 := (F4).tr (f7.mono (mo_93))
    obtain ⟨n9, h9⟩ := h7
    refine ⟨n9, ?_⟩
    refine fmX11_order_L120 hQ _ _ _ _ F7 h9
theorem fmX11_stands_L42 {p1 : Int} {X117 X117' : Int → Int → Mem → Prop} {Q Q' : Int → Mem → Prop} {M0 : Mem} (hQ : ∀ (w0 : Int) (M' : Mem), Ks (fun k j => k = 0 ∨ (8 ≤ k ∧ k ≤ 14) ∨ (160 ≤ k ∧ k ≤ 162) ∨ (190 ≤ k ∧ k ≤ 191) ∨ (195 ≤ k ∧ k ≤ 196) ∨ (k = 167 ∧ (j = 1))) M0 M' → Q w0 M' → Q' w0 M') (hX117 : ∀ (w0 w1 : Int) (M' : Mem), Ks (fun k j => k = 0 ∨ (8 ≤ k ∧ k ≤ 14) ∨ (160 ≤ k ∧ k ≤ 162) ∨ (190 ≤ k ∧ k ≤ 191) ∨ (195 ≤ k ∧ k ≤ 196) ∨ (k = 167 ∧ (j = 1))) M0 M' → X117 w0 w1 M' → X117' w0 w1 M') : ∀ (n : Nat) (v2 v3 v4 : Int) (M : Mem), Ks (fun k j => k = 0 ∨ (8 ≤ k ∧ k ≤ 14) ∨ (160 ≤ k ∧ k ≤ 162) ∨ (190 ≤ k ∧ k ≤ 191) ∨ (195 ≤ k ∧ k ≤ 196) ∨ (k = 167 ∧ (j = 1))) M0 M → qX11_stands_L42 p1 X117 Q n v2 v3 v4 M → qX11_stands_L42 p1 X117' Q' n v2 v3 v4 M := by
  intro n
  induction n with
  | zero => intro v2 v3 v4 M _ h; exact h.elim
  | succ n ih =>
    intro v2 v3 v4 M hF h
    rw [qX11_stands_L42] at h
    rw [qX11_stands_L42]
    obtain ⟨v1, h1⟩ := h
    refine ⟨v1, ?_⟩
    obtain ⟨h2, h3⟩ := h1
    refine ⟨?_, ?_⟩
    · intro g4
      have h5 := h2 g4
      exact hX117 _ _ _ hF h5
    · intro g6
      have h7 := h3 g6
      refine fmX6_copyFrom h7 ?_
      intro M8_9 f8 h8
      have F8 : Ks (fun k j => k = 0 ∨ (8 ≤ k ∧ k ≤ 14) ∨ (160 ≤ k ∧ k ≤ 162) ∨ (190 ≤ k ∧ k ≤ 191) ∨ (195 ≤ k ∧ k ≤ 196) ∨ (k = 167 ∧ (j = 1))) M0 M8_9 := (hF).tr (f8.mono (mo_77))
      obtain ⟨v10, h10⟩ := h8
      refine ⟨v10, ?_⟩
      obtain ⟨v11, h11⟩ := h10
      refine ⟨v11, ?_⟩
      intro M11_12 eM11_12
      have h12 := h11 M11_12 eM11_12
      have F12 : Ks (fun k j => k = 0 ∨ (8 ≤ k ∧ k ≤ 14) ∨ (160 ≤ k ∧ k ≤ 162) ∨ (190 ≤ k ∧ k ≤ 191) ∨ (195 ≤ k ∧ k ≤ 196) ∨ (k = 167 ∧ (j = 1))) M0 M11_12 := by rw [eM11_12]; exact (F8).wr (mw_89 _)
      intro M12_13 eM12_13
      have h13 := h12 M12_13 eM12_13
      have F13 : Ks (fun k j => k = 0 ∨ (8 ≤ k ∧ k ≤ 14) ∨ (160 ≤ k ∧ k ≤ 162) ∨ (190 ≤ k ∧ k ≤ 191) ∨ (195 ≤ k ∧ k ≤ 196) ∨ (k = 167 ∧ (j = 1))) M0 M12_13 := by rw [eM12_13]; exact (F12).wr (mw_90 _)
      obtain ⟨v14, h14⟩ := h13
      refine ⟨v14, ?_⟩
      have w14 : (M12_13 155 16).toNat = 187 ∨ (M12_13 155 16).toNat = 192 := v14
      refine fmX10_toEnd h14 ?_
      intro M14_16 f15 h15
      have F15 : Ks (fun k j => k = 0 ∨ (8 ≤ k ∧ k ≤ 14) ∨ (160 ≤ k ∧ k ≤ 162) ∨ (190 ≤ k ∧ k ≤ 191) ∨ (195 ≤ k ∧ k ≤ 196) ∨ (k = 167 ∧ (j = 1))) M0 M14_16 := (F13).tr (f15.mono (fun k j h => w14.elim (fun e => mo_78 k j (by rw [e] at h; exact h)) (fun e => mo_79 k j (by rw [e] at h; exact h))))
      refine fmX6_isRight h15 ?_
      intro x15_18 M15_19 f17 h17
      have F17 : Ks (fun k j => k = 0 ∨ (8 ≤ k ∧ k ≤ 14) ∨ (160 ≤ k ∧ k ≤ 162) ∨ (190 ≤ k ∧ k ≤ 191) ∨ (195 ≤ k ∧ k ≤ 196) ∨ (k = 167 ∧ (j = 1))) M0 M15_19 := (F15).tr (f17.mono (fun _ _ h => False.elim h))
      intro g20 g21
      have h22 := h17 g20 g21
      obtain ⟨h23, h24⟩ := h22
      refine ⟨?_, ?_⟩
      · intro g25
        have h26 := h23 g25
        exact ih _ _ _ _ F17 h26
      · intro g27
        have h28 := h24 g27
        exact ih _ _ _ _ F17 h28
theorem fmX11_stands {p1 : Int} {M : Mem} {Q Q' : Int → Mem → Prop} (h : qX11_stands p1 M Q) (hQ : ∀ (w0 : Int) (M' : Mem), Ks (fun k j => k = 0 ∨ (8 ≤ k ∧ k ≤ 14) ∨ (160 ≤ k ∧ k ≤ 162) ∨ (190 ≤ k ∧ k ≤ 191) ∨ (195 ≤ k ∧ k ≤ 196) ∨ (k = 167 ∧ (j = 1))) M M' → Q w0 M' → Q' w0 M') : qX11_stands p1 M Q' := by
  unfold qX11_stands at h ⊢
  refine fmX6_isMourner h ?_
  intro x1_2 M1_3 f1 h1
  have F1 : Ks (fun k j => k = 0 ∨ (8 ≤ k ∧ k ≤ 14) ∨ (160 ≤ k ∧ k ≤ 162) ∨ (190 ≤ k ∧ k ≤ 191) ∨ (195 ≤ k ∧ k ≤ 196) ∨ (k = 167 ∧ (j = 1))) M M1_3 := (Ks.rf).tr (f1.mono (fun _ _ h => False.elim h))
  intro g4 g5
  have h6 := h1 g4 g5
  obtain ⟨h7, h8⟩ := h6
  refine ⟨?_, ?_⟩
  · intro g9
    have h10 := h7 g9
    refine fmX6_hasEnded h10 ?_
    intro x3_12 M3_13 f11 h11
    have F11 : Ks (fun k j => k = 0 ∨ (8 ≤ k ∧ k ≤ 14) ∨ (160 ≤ k ∧ k ≤ 162) ∨ (190 ≤ k ∧ k ≤ 191) ∨ (195 ≤ k ∧ k ≤ 196) ∨ (k = 167 ∧ (j = 1))) M M3_13 := (F1).tr (f11.mono (fun _ _ h => False.elim h))
    intro g14 g15
    have h16 := h11 g14 g15
    obtain ⟨h17, h18⟩ := h16
    refine ⟨?_, ?_⟩
    · intro g19
      have h20 := h17 g19
      refine fmX8_gate h20 ?_
      intro x5_22 M5_23 f21 h21
      have F21 : Ks (fun k j => k = 0 ∨ (8 ≤ k ∧ k ≤ 14) ∨ (160 ≤ k ∧ k ≤ 162) ∨ (190 ≤ k ∧ k ≤ 191) ∨ (195 ≤ k ∧ k ≤ 196) ∨ (k = 167 ∧ (j = 1))) M M5_23 := (F11).tr (f21.mono (fun _ _ h => False.elim h))
      intro g24
      have h25 := h21 g24
      obtain ⟨n26, h26⟩ := h25
      refine ⟨n26, ?_⟩
      refine fmX11_stands_L42 hQ ?_ _ _ _ _ _ F21 h26
      · intro v2_28 v3_29 M_30 F27 h27
        obtain ⟨v31, h31⟩ := h27
        refine ⟨v31, ?_⟩
        obtain ⟨h32, h33⟩ := h31
        refine ⟨?_, ?_⟩
        · intro g34
          have h35 := h32 g34
          refine fmX4_tellOne h35 ?_
          intro M20_37 f36 h36
          have F36 : Ks (fun k j => k = 0 ∨ (8 ≤ k ∧ k ≤ 14) ∨ (160 ≤ k ∧ k ≤ 162) ∨ (190 ≤ k ∧ k ≤ 191) ∨ (195 ≤ k ∧ k ≤ 196) ∨ (k = 167 ∧ (j = 1))) M M20_37 := (F27).tr (f36.mono (mo_76))
          obtain ⟨v38, h38⟩ := h36
          refine ⟨v38, ?_⟩
          exact hQ _ _ F36 h38
        · intro g39
          have h40 := h33 g39
          exact hQ _ _ F27 h40
    · intro g41
      have h42 := h18 g41
      exact hQ _ _ F11 h42
  · intro g43
    have h44 := h8 g43
    exact hQ _ _ F1 h44
theorem fmX11_isTurned {p1 : Int} {M : Mem} {Q Q' : Int → Mem → Prop} (h : qX11_isTurned p1 M Q) (hQ : ∀ (w0 : Int) (M' : Mem), Ks (fun k j => k = 13) M M' → Q w0 M' → Q' w0 M') : qX11_isTurned p1 M Q' := by
  unfold qX11_isTurned at h ⊢
  refine fmX6_hasEnded h ?_
  intro x1_2 M1_3 f1 h1
  have F1 : Ks (fun k j => k = 13) M M1_3 := (Ks.rf).tr (f1.mono (fun _ _ h => False.elim h))
  intro g4 g5
  have h6 := h1 g4 g5
  obtain ⟨h7, h8⟩ := h6
  refine ⟨?_, ?_⟩
  · intro g9
    have h10 := h7 g9
    unfold qX11_isTurned_J36 at h10 ⊢
    unfold qX11_isTurned_J37 at h10 ⊢
    obtain ⟨v11, h11⟩ := h10
    refine ⟨v11, ?_⟩
    obtain ⟨h12, h13⟩ := h11
    refine ⟨?_, ?_⟩
    · intro g14
      have h15 := h12 g14
      exact hQ _ _ F1 h15
    · intro g16
      have h17 := h13 g16
      refine fmX6_turn h17 ?_
      intro x5_19 M5_20 f18 h18
      have F18 : Ks (fun k j => k = 13) M M5_20 := (F1).tr (f18.mono (mo_94))
      intro g21
      have h22 := h18 g21
      refine fmX11_isDone h22 ?_
      intro x6_24 M6_25 f23 h23
      have F23 : Ks (fun k j => k = 13) M M6_25 := (F18).tr (f23.mono (fun _ _ h => False.elim h))
      intro g26 g27
      have h28 := h23 g26 g27
      obtain ⟨h29, h30⟩ := h28
      refine ⟨?_, ?_⟩
      · intro g31
        have h32 := h29 g31
        exact hQ _ _ F23 h32
      · intro g33
        have h34 := h30 g33
        exact hQ _ _ F23 h34
  · intro g35
    have h36 := h8 g35
    obtain ⟨v37, h37⟩ := h36
    refine ⟨v37, ?_⟩
    obtain ⟨v38, h38⟩ := h37
    refine ⟨v38, ?_⟩
    intro x10_39 g40 g41
    have h39 := h38 x10_39 g40 g41
    intro x11_42 g43 g44
    have h42 := h39 x11_42 g43 g44
    obtain ⟨h45, h46⟩ := h42
    refine ⟨?_, ?_⟩
    · intro g47
      have h48 := h45 g47
      unfold qX11_isTurned_J36 at h48 ⊢
      unfold qX11_isTurned_J37 at h48 ⊢
      obtain ⟨v49, h49⟩ := h48
      refine ⟨v49, ?_⟩
      obtain ⟨h50, h51⟩ := h49
      refine ⟨?_, ?_⟩
      · intro g52
        have h53 := h50 g52
        exact hQ _ _ F1 h53
      · intro g54
        have h55 := h51 g54
        refine fmX6_turn h55 ?_
        intro x5_57 M5_58 f56 h56
        have F56 : Ks (fun k j => k = 13) M M5_58 := (F1).tr (f56.mono (mo_94))
        intro g59
        have h60 := h56 g59
        refine fmX11_isDone h60 ?_
        intro x6_62 M6_63 f61 h61
        have F61 : Ks (fun k j => k = 13) M M6_63 := (F56).tr (f61.mono (fun _ _ h => False.elim h))
        intro g64 g65
        have h66 := h61 g64 g65
        obtain ⟨h67, h68⟩ := h66
        refine ⟨?_, ?_⟩
        · intro g69
          have h70 := h67 g69
          exact hQ _ _ F61 h70
        · intro g71
          have h72 := h68 g71
          exact hQ _ _ F61 h72
    · intro g73
      have h74 := h46 g73
      unfold qX11_isTurned_J37 at h74 ⊢
      obtain ⟨v75, h75⟩ := h74
      refine ⟨v75, ?_⟩
      obtain ⟨h76, h77⟩ := h75
      refine ⟨?_, ?_⟩
      · intro g78
        have h79 := h76 g78
        exact hQ _ _ F1 h79
      · intro g80
        have h81 := h77 g80
        refine fmX6_turn h81 ?_
        intro x5_83 M5_84 f82 h82
        have F82 : Ks (fun k j => k = 13) M M5_84 := (F1).tr (f82.mono (mo_94))
        intro g85
        have h86 := h82 g85
        refine fmX11_isDone h86 ?_
        intro x6_88 M6_89 f87 h87
        have F87 : Ks (fun k j => k = 13) M M6_89 := (F82).tr (f87.mono (fun _ _ h => False.elim h))
        intro g90 g91
        have h92 := h87 g90 g91
        obtain ⟨h93, h94⟩ := h92
        refine ⟨?_, ?_⟩
        · intro g95
          have h96 := h93 g95
          exact hQ _ _ F87 h96
        · intro g97
          have h98 := h94 g97
          exact hQ _ _ F87 h98
theorem fmX11_when_L31 {p1 : Int} {X119 X119' : Int → Int → Mem → Prop} {Q Q' : Int → Mem → Prop} {M0 : Mem} (hQ : ∀ (w0 : Int) (M' : Mem), Ks (fun k j => k = 0 ∨ (8 ≤ k ∧ k ≤ 21) ∨ (160 ≤ k ∧ k ≤ 162) ∨ (190 ≤ k ∧ k ≤ 191) ∨ (195 ≤ k ∧ k ≤ 196) ∨ (k = 167 ∧ (j = 1))) M0 M' → Q w0 M' → Q' w0 M') (hX119 : ∀ (w0 w1 : Int) (M' : Mem), Ks (fun k j => k = 0 ∨ (8 ≤ k ∧ k ≤ 21) ∨ (160 ≤ k ∧ k ≤ 162) ∨ (190 ≤ k ∧ k ≤ 191) ∨ (195 ≤ k ∧ k ≤ 196) ∨ (k = 167 ∧ (j = 1))) M0 M' → X119 w0 w1 M' → X119' w0 w1 M') : ∀ (n : Nat) (v2 v3 v4 : Int) (M : Mem), Ks (fun k j => k = 0 ∨ (8 ≤ k ∧ k ≤ 21) ∨ (160 ≤ k ∧ k ≤ 162) ∨ (190 ≤ k ∧ k ≤ 191) ∨ (195 ≤ k ∧ k ≤ 196) ∨ (k = 167 ∧ (j = 1))) M0 M → qX11_when_L31 p1 X119 Q n v2 v3 v4 M → qX11_when_L31 p1 X119' Q' n v2 v3 v4 M := by
  intro n
  induction n with
  | zero => intro v2 v3 v4 M _ h; exact h.elim
  | succ n ih =>
    intro v2 v3 v4 M hF h
    rw [qX11_when_L31] at h
    rw [qX11_when_L31]
    obtain ⟨v1, h1⟩ := h
    refine ⟨v1, ?_⟩
    obtain ⟨h2, h3⟩ := h1
    refine ⟨?_, ?_⟩
    · intro g4
      have h5 := h2 g4
      exact hX119 _ _ _ hF h5
    · intro g6
      have h7 := h3 g6
      refine fmX6_copyFrom h7 ?_
      intro M6_9 f8 h8
      have F8 : Ks (fun k j => k = 0 ∨ (8 ≤ k ∧ k ≤ 21) ∨ (160 ≤ k ∧ k ≤ 162) ∨ (190 ≤ k ∧ k ≤ 191) ∨ (195 ≤ k ∧ k ≤ 196) ∨ (k = 167 ∧ (j = 1))) M0 M6_9 := (hF).tr (f8.mono (mo_95))
      refine fmX11_isTurned h8 ?_
      intro x7_11 M7_12 f10 h10
      have F10 : Ks (fun k j => k = 0 ∨ (8 ≤ k ∧ k ≤ 21) ∨ (160 ≤ k ∧ k ≤ 162) ∨ (190 ≤ k ∧ k ≤ 191) ∨ (195 ≤ k ∧ k ≤ 196) ∨ (k = 167 ∧ (j = 1))) M0 M7_12 := (F8).tr (f10.mono (mo_96))
      intro g13 g14
      have h15 := h10 g13 g14
      obtain ⟨h16, h17⟩ := h15
      refine ⟨?_, ?_⟩
      · intro g18
        have h19 := h16 g18
        unfold qX11_when_J98 at h19 ⊢
        obtain ⟨v20, h20⟩ := h19
        refine ⟨v20, ?_⟩
        have w20 : (M7_12 155 16).toNat = 187 ∨ (M7_12 155 16).toNat = 192 := v20
        refine fmX10_advance h20 ?_
        intro M10_22 f21 h21
        have F21 : Ks (fun k j => k = 0 ∨ (8 ≤ k ∧ k ≤ 21) ∨ (160 ≤ k ∧ k ≤ 162) ∨ (190 ≤ k ∧ k ≤ 191) ∨ (195 ≤ k ∧ k ≤ 196) ∨ (k = 167 ∧ (j = 1))) M0 M10_22 := (F10).tr (f21.mono (fun k j h => w20.elim (fun e => mo_97 k j (by rw [e] at h; exact h)) (fun e => mo_98 k j (by rw [e] at h; exact h))))
        exact ih _ _ _ _ F21 h21
      · intro g23
        have h24 := h17 g23
        obtain ⟨v25, h25⟩ := h24
        refine ⟨v25, ?_⟩
        have w25 : (M7_12 155 16).toNat = 187 ∨ (M7_12 155 16).toNat = 192 := v25
        refine fmX10_toEnd h25 ?_
        intro M12_27 f26 h26
        have F26 : Ks (fun k j => k = 0 ∨ (8 ≤ k ∧ k ≤ 21) ∨ (160 ≤ k ∧ k ≤ 162) ∨ (190 ≤ k ∧ k ≤ 191) ∨ (195 ≤ k ∧ k ≤ 196) ∨ (k = 167 ∧ (j = 1))) M0 M12_27 := (F10).tr (f26.mono (fun k j h => w25.elim (fun e => mo_99 k j (by rw [e] at h; exact h)) (fun e => mo_100 k j (by rw [e] at h; exact h))))
        refine fmX6_isRight h26 ?_
        intro x13_29 M13_30 f28 h28
        have F28 : Ks (fun k j => k = 0 ∨ (8 ≤ k ∧ k ≤ 21) ∨ (160 ≤ k ∧ k ≤ 162) ∨ (190 ≤ k ∧ k ≤ 191) ∨ (195 ≤ k ∧ k ≤ 196) ∨ (k = 167 ∧ (j = 1))) M0 M13_30 := (F26).tr (f28.mono (fun _ _ h => False.elim h))
        intro g31 g32
        have h33 := h28 g31 g32
        obtain ⟨h34, h35⟩ := h33
        refine ⟨?_, ?_⟩
        · intro g36
          have h37 := h34 g36
          unfold qX11_when_J98 at h37 ⊢
          obtain ⟨v38, h38⟩ := h37
          refine ⟨v38, ?_⟩
          have w38 : (M13_30 155 16).toNat = 187 ∨ (M13_30 155 16).toNat = 192 := v38
          refine fmX10_advance h38 ?_
          intro M10_40 f39 h39
          have F39 : Ks (fun k j => k = 0 ∨ (8 ≤ k ∧ k ≤ 21) ∨ (160 ≤ k ∧ k ≤ 162) ∨ (190 ≤ k ∧ k ≤ 191) ∨ (195 ≤ k ∧ k ≤ 196) ∨ (k = 167 ∧ (j = 1))) M0 M10_40 := (F28).tr (f39.mono (fun k j h => w38.elim (fun e => mo_97 k j (by rw [e] at h; exact h)) (fun e => mo_98 k j (by rw [e] at h; exact h))))
          exact ih _ _ _ _ F39 h39
        · intro g41
          have h42 := h35 g41
          obtain ⟨v43, h43⟩ := h42
          refine ⟨v43, ?_⟩
          obtain ⟨h44, h45⟩ := h43
          refine ⟨?_, ?_⟩
          · intro g46
            have h47 := h44 g46
            unfold qX11_when_J94 at h47 ⊢
            unfold qX11_when_J98 at h47 ⊢
            obtain ⟨v48, h48⟩ := h47
            refine ⟨v48, ?_⟩
            have w48 : (M13_30 155 16).toNat = 187 ∨ (M13_30 155 16).toNat = 192 := v48
            refine fmX10_advance h48 ?_
            intro M10_50 f49 h49
            have F49 : Ks (fun k j => k = 0 ∨ (8 ≤ k ∧ k ≤ 21) ∨ (160 ≤ k ∧ k ≤ 162) ∨ (190 ≤ k ∧ k ≤ 191) ∨ (195 ≤ k ∧ k ≤ 196) ∨ (k = 167 ∧ (j = 1))) M0 M10_50 := (F28).tr (f49.mono (fun k j h => w48.elim (fun e => mo_97 k j (by rw [e] at h; exact h)) (fun e => mo_98 k j (by rw [e] at h; exact h))))
            exact ih _ _ _ _ F49 h49
          · intro g51
            have h52 := h45 g51
            unfold qX11_when_J94 at h52 ⊢
            unfold qX11_when_J98 at h52 ⊢
            obtain ⟨v53, h53⟩ := h52
            refine ⟨v53, ?_⟩
            have w53 : (M13_30 155 16).toNat = 187 ∨ (M13_30 155 16).toNat = 192 := v53
            refine fmX10_advance h53 ?_
            intro M10_55 f54 h54
            have F54 : Ks (fun k j => k = 0 ∨ (8 ≤ k ∧ k ≤ 21) ∨ (160 ≤ k ∧ k ≤ 162) ∨ (190 ≤ k ∧ k ≤ 191) ∨ (195 ≤ k ∧ k ≤ 196) ∨ (k = 167 ∧ (j = 1))) M0 M10_55 := (F28).tr (f54.mono (fun k j h => w53.elim (fun e => mo_97 k j (by rw [e] at h; exact h)) (fun e => mo_98 k j (by rw [e] at h; exact h))))
            exact ih _ _ _ _ F54 h54
theorem fmX11_when {p1 : Int} {M : Mem} {Q Q' : Int → Mem → Prop} (h : qX11_when p1 M Q) (hQ : ∀ (w0 : Int) (M' : Mem), Ks (fun k j => k = 0 ∨ (8 ≤ k ∧ k ≤ 21) ∨ (160 ≤ k ∧ k ≤ 162) ∨ (190 ≤ k ∧ k ≤ 191) ∨ (195 ≤ k ∧ k ≤ 196) ∨ (k = 167 ∧ (j = 1))) M M' → Q w0 M' → Q' w0 M') : qX11_when p1 M Q' := by
  unfold qX11_when at h ⊢
  refine fmX6_isMourner h ?_
  intro x1_2 M1_3 f1 h1
  have F1 : Ks (fun k j => k = 0 ∨ (8 ≤ k ∧ k ≤ 21) ∨ (160 ≤ k ∧ k ≤ 162) ∨ (190 ≤ k ∧ k ≤ 191) ∨ (195 ≤ k ∧ k ≤ 196) ∨ (k = 167 ∧ (j = 1))) M M1_3 := (Ks.rf).tr (f1.mono (fun _ _ h => False.elim h))
  intro g4 g5
  have h6 := h1 g4 g5
  obtain ⟨h7, h8⟩ := h6
  refine ⟨?_, ?_⟩
  · intro g9
    have h10 := h7 g9
    refine fmX6_copyFrom h10 ?_
    intro M3_12 f11 h11
    have F11 : Ks (fun k j => k = 0 ∨ (8 ≤ k ∧ k ≤ 21) ∨ (160 ≤ k ∧ k ≤ 162) ∨ (190 ≤ k ∧ k ≤ 191) ∨ (195 ≤ k ∧ k ≤ 196) ∨ (k = 167 ∧ (j = 1))) M M3_12 := (F1).tr (f11.mono (mo_101))
    obtain ⟨n13, h13⟩ := h11
    refine ⟨n13, ?_⟩
    refine fmX11_when_L31 hQ ?_ _ _ _ _ _ F11 h13
    · intro v2_15 v3_16 M_17 F14 h14
      obtain ⟨v18, h18⟩ := h14
      refine ⟨v18, ?_⟩
      obtain ⟨h19, h20⟩ := h18
      refine ⟨?_, ?_⟩
      · intro g21
        have h22 := h19 g21
        obtain ⟨v23, h23⟩ := h22
        refine ⟨v23, ?_⟩
        refine fmX4_tellOne h23 ?_
        intro M21_25 f24 h24
        have F24 : Ks (fun k j => k = 0 ∨ (8 ≤ k ∧ k ≤ 21) ∨ (160 ≤ k ∧ k ≤ 162) ∨ (190 ≤ k ∧ k ≤ 191) ∨ (195 ≤ k ∧ k ≤ 196) ∨ (k = 167 ∧ (j = 1))) M M21_25 := (F14).tr (f24.mono (mo_102))
        exact hQ _ _ F24 h24
      · intro g26
        have h27 := h20 g26
        exact hQ _ _ F14 h27
  · intro g28
    have h29 := h8 g28
    exact hQ _ _ F1 h29
theorem fmX11_ableToTurn_L15  {Q Q' : Int → Mem → Prop} {M0 : Mem} (hQ : ∀ (w0 : Int) (M' : Mem), Ks (fun k j => (8 ≤ k ∧ k ≤ 14)) M0 M' → Q w0 M' → Q' w0 M') : ∀ (n : Nat) (v1 v2 : Int) (M : Mem), Ks (fun k j => (8 ≤ k ∧ k ≤ 14)) M0 M → qX11_ableToTurn_L15 Q n v1 v2 M → qX11_ableToTurn_L15 Q' n v1 v2 M := by
  intro n
  induction n with
  | zero => intro v1 v2 M _ h; exact h.elim
  | succ n ih =>
    intro v1 v2 M hF h
    rw [qX11_ableToTurn_L15] at h
    rw [qX11_ableToTurn_L15]
    intro x2_1 g2 g3
    have h1 := h x2_1 g2 g3
    obtain ⟨v4, h4⟩ := h1
    refine ⟨v4, ?_⟩
    obtain ⟨h5, h6⟩ := h4
    refine ⟨?_, ?_⟩
    · intro g7
      have h8 := h5 g7
      obtain ⟨v9, h9⟩ := h8
      refine ⟨v9, ?_⟩
      exact hQ _ _ hF h9
    · intro g10
      have h11 := h6 g10
      refine fmX6_turn h11 ?_
      intro x6_13 M6_14 f12 h12
      have F12 : Ks (fun k j => (8 ≤ k ∧ k ≤ 14)) M0 M6_14 := (hF).tr (f12.mono (mo_103))
      intro g15
      have h16 := h12 g15
      refine fmX11_isDone h16 ?_
      intro x7_18 M7_19 f17 h17
      have F17 : Ks (fun k j => (8 ≤ k ∧ k ≤ 14)) M0 M7_19 := (F12).tr (f17.mono (fun _ _ h => False.elim h))
      intro g20 g21
      have h22 := h17 g20 g21
      obtain ⟨h23, h24⟩ := h22
      refine ⟨?_, ?_⟩
      · intro g25
        have h26 := h23 g25
        intro x9_27 g28 g29
        have h27 := h26 x9_27 g28 g29
        exact ih _ _ _ F17 h27
      · intro g30
        have h31 := h24 g30
        intro x10_32 g33 g34
        have h32 := h31 x10_32 g33 g34
        intro x11_35 g36 g37
        have h35 := h32 x11_35 g36 g37
        exact ih _ _ _ F17 h35
theorem fmX11_ableToTurn  {M : Mem} {Q Q' : Int → Mem → Prop} (h : qX11_ableToTurn M Q) (hQ : ∀ (w0 : Int) (M' : Mem), Ks (fun k j => (8 ≤ k ∧ k ≤ 14)) M M' → Q w0 M' → Q' w0 M') : qX11_ableToTurn M Q' := by
  unfold qX11_ableToTurn at h ⊢
  refine fmX6_copyFrom h ?_
  intro M1_2 f1 h1
  have F1 : Ks (fun k j => (8 ≤ k ∧ k ≤ 14)) M M1_2 := (Ks.rf).tr (f1.mono (mo_104))
  obtain ⟨n3, h3⟩ := h1
  refine ⟨n3, ?_⟩
  refine fmX11_ableToTurn_L15 hQ _ _ _ _ F1 h3
theorem fmX11_turnInTrial_L13 {p1 : Int} {Q Q' : Mem → Prop} {M0 : Mem} (hQ : ∀ (M' : Mem), Ks (fun k j => (8 ≤ k ∧ k ≤ 14)) M0 M' → Q M' → Q' M') : ∀ (n : Nat) (v2 : Int) (M : Mem), Ks (fun k j => (8 ≤ k ∧ k ≤ 14)) M0 M → qX11_turnInTrial_L13 p1 Q n v2 M → qX11_turnInTrial_L13 p1 Q' n v2 M := by
  intro n
  induction n with
  | zero => intro v2 M _ h; exact h.elim
  | succ n ih =>
    intro v2 M hF h
    rw [qX11_turnInTrial_L13] at h
    rw [qX11_turnInTrial_L13]
    intro x2_1 g2 g3
    have h1 := h x2_1 g2 g3
    obtain ⟨v4, h4⟩ := h1
    refine ⟨v4, ?_⟩
    obtain ⟨h5, h6⟩ := h4
    refine ⟨?_, ?_⟩
    · intro g7
      have h8 := h5 g7
      exact hQ _ hF h8
    · intro g9
      have h10 := h6 g9
      intro x5_11 g12 g13
      have h11 := h10 x5_11 g12 g13
      intro x6_14 g15 g16
      have h14 := h11 x6_14 g15 g16
      obtain ⟨h17, h18⟩ := h14
      refine ⟨?_, ?_⟩
      · intro g19
        have h20 := h17 g19
        exact ih _ _ hF h20
      · intro g21
        have h22 := h18 g21
        refine fmX6_turn h22 ?_
        intro x8_24 M8_25 f23 h23
        have F23 : Ks (fun k j => (8 ≤ k ∧ k ≤ 14)) M0 M8_25 := (hF).tr (f23.mono (mo_103))
        intro g26
        have h27 := h23 g26
        exact ih _ _ F23 h27
theorem fmX11_turnInTrial {p1 : Int} {M : Mem} {Q Q' : Mem → Prop} (h : qX11_turnInTrial p1 M Q) (hQ : ∀ (M' : Mem), Ks (fun k j => (8 ≤ k ∧ k ≤ 14)) M M' → Q M' → Q' M') : qX11_turnInTrial p1 M Q' := by
  unfold qX11_turnInTrial at h ⊢
  refine fmX6_copyFrom h ?_
  intro M1_2 f1 h1
  have F1 : Ks (fun k j => (8 ≤ k ∧ k ≤ 14)) M M1_2 := (Ks.rf).tr (f1.mono (mo_104))
  obtain ⟨n3, h3⟩ := h1
  refine ⟨n3, ?_⟩
  refine fmX11_turnInTrial_L13 hQ _ _ _ F1 h3
theorem fmX11_mends_L33 {p1 : Int} {X98 X98' : Int → Int → Mem → Prop} {X116 X116' : Int → Int → Mem → Prop} {Q Q' : Int → Mem → Prop} {M0 : Mem} (hQ : ∀ (w0 : Int) (M' : Mem), Ks (fun k j => k = 0 ∨ (8 ≤ k ∧ k ≤ 14) ∨ (160 ≤ k ∧ k ≤ 162) ∨ (190 ≤ k ∧ k ≤ 191) ∨ (195 ≤ k ∧ k ≤ 196) ∨ (k = 167 ∧ (j = 1))) M0 M' → Q w0 M' → Q' w0 M') (hX98 : ∀ (w0 w1 : Int) (M' : Mem), Ks (fun k j => k = 0 ∨ (8 ≤ k ∧ k ≤ 14) ∨ (160 ≤ k ∧ k ≤ 162) ∨ (190 ≤ k ∧ k ≤ 191) ∨ (195 ≤ k ∧ k ≤ 196) ∨ (k = 167 ∧ (j = 1))) M0 M' → X98 w0 w1 M' → X98' w0 w1 M') (hX116 : ∀ (w0 w1 : Int) (M' : Mem), Ks (fun k j => k = 0 ∨ (8 ≤ k ∧ k ≤ 14) ∨ (160 ≤ k ∧ k ≤ 162) ∨ (190 ≤ k ∧ k ≤ 191) ∨ (195 ≤ k ∧ k ≤ 196) ∨ (k = 167 ∧ (j = 1))) M0 M' → X116 w0 w1 M' → X116' w0 w1 M') : ∀ (n : Nat) (v2 v3 v4 : Int) (M : Mem), Ks (fun k j => k = 0 ∨ (8 ≤ k ∧ k ≤ 14) ∨ (160 ≤ k ∧ k ≤ 162) ∨ (190 ≤ k ∧ k ≤ 191) ∨ (195 ≤ k ∧ k ≤ 196) ∨ (k = 167 ∧ (j = 1))) M0 M → qX11_mends_L33 p1 X98 X116 Q n v2 v3 v4 M → qX11_mends_L33 p1 X98' X116' Q' n v2 v3 v4 M := by
  intro n
  induction n with
  | zero => intro v2 v3 v4 M _ h; exact h.elim
  | succ n ih =>
    intro v2 v3 v4 M hF h
    rw [qX11_mends_L33] at h
    rw [qX11_mends_L33]
    intro x7_1 g2 g3
    have h1 := h x7_1 g2 g3
    intro x8_4 g5 g6
    have h4 := h1 x8_4 g5 g6
    obtain ⟨v7, h7⟩ := h4
    refine ⟨v7, ?_⟩
    obtain ⟨h8, h9⟩ := h7
    refine ⟨?_, ?_⟩
    · intro g10
      have h11 := h8 g10
      exact hX116 _ _ _ hF h11
    · intro g12
      have h13 := h9 g12
      intro x11_14 g15 g16
      have h14 := h13 x11_14 g15 g16
      intro x12_17 g18 g19
      have h17 := h14 x12_17 g18 g19
      obtain ⟨h20, h21⟩ := h17
      refine ⟨?_, ?_⟩
      · intro g22
        have h23 := h20 g22
        unfold qX11_mends_J69 at h23 ⊢
        unfold qX11_mends_J70 at h23 ⊢
        obtain ⟨v24, h24⟩ := h23
        refine ⟨v24, ?_⟩
        obtain ⟨h25, h26⟩ := h24
        refine ⟨?_, ?_⟩
        · intro g27
          have h28 := h25 g27
          exact ih _ _ _ _ hF h28
        · intro g29
          have h30 := h26 g29
          obtain ⟨v31, h31⟩ := h30
          refine ⟨v31, ?_⟩
          refine fmX11_turnInTrial h31 ?_
          intro M17_33 f32 h32
          have F32 : Ks (fun k j => k = 0 ∨ (8 ≤ k ∧ k ≤ 14) ∨ (160 ≤ k ∧ k ≤ 162) ∨ (190 ≤ k ∧ k ≤ 191) ∨ (195 ≤ k ∧ k ≤ 196) ∨ (k = 167 ∧ (j = 1))) M0 M17_33 := (hF).tr (f32.mono (mo_105))
          obtain ⟨v34, h34⟩ := h32
          refine ⟨v34, ?_⟩
          have w34 : (M17_33 155 16).toNat = 187 ∨ (M17_33 155 16).toNat = 192 := v34
          refine fmX11_rightOnesOfTrial h34 ?_
          intro x19_36 M19_37 f35 h35
          have F35 : Ks (fun k j => k = 0 ∨ (8 ≤ k ∧ k ≤ 14) ∨ (160 ≤ k ∧ k ≤ 162) ∨ (190 ≤ k ∧ k ≤ 191) ∨ (195 ≤ k ∧ k ≤ 196) ∨ (k = 167 ∧ (j = 1))) M0 M19_37 := (F32).tr (f35.mono (fun k j h => w34.elim (fun e => mo_83 k j (by rw [e] at h; exact h)) (fun e => mo_84 k j (by rw [e] at h; exact h))))
          intro g38
          have h39 := h35 g38
          refine fmJ6_bitCount_0f7a4 h39 ?_
          intro x20_41 M20_42 f40 h40
          have F40 : Ks (fun k j => k = 0 ∨ (8 ≤ k ∧ k ≤ 14) ∨ (160 ≤ k ∧ k ≤ 162) ∨ (190 ≤ k ∧ k ≤ 191) ∨ (195 ≤ k ∧ k ≤ 196) ∨ (k = 167 ∧ (j = 1))) M0 M20_42 := (F35).tr (f40.mono (fun _ _ h => False.elim h))
          intro g43
          have h44 := h40 g43
          obtain ⟨h45, h46⟩ := h44
          refine ⟨?_, ?_⟩
          · intro g47
            have h48 := h45 g47
            exact ih _ _ _ _ F40 h48
          · intro g49
            have h50 := h46 g49
            exact hX98 _ _ _ F40 h50
      · intro g51
        have h52 := h21 g51
        refine fmJ6_bitCount_0f7a4 h52 ?_
        intro x22_54 M22_55 f53 h53
        have F53 : Ks (fun k j => k = 0 ∨ (8 ≤ k ∧ k ≤ 14) ∨ (160 ≤ k ∧ k ≤ 162) ∨ (190 ≤ k ∧ k ≤ 191) ∨ (195 ≤ k ∧ k ≤ 196) ∨ (k = 167 ∧ (j = 1))) M0 M22_55 := (hF).tr (f53.mono (fun _ _ h => False.elim h))
        intro g56
        have h57 := h53 g56
        obtain ⟨v58, h58⟩ := h57
        refine ⟨v58, ?_⟩
        obtain ⟨h59, h60⟩ := h58
        refine ⟨?_, ?_⟩
        · intro g61
          have h62 := h59 g61
          unfold qX11_mends_J69 at h62 ⊢
          unfold qX11_mends_J70 at h62 ⊢
          obtain ⟨v63, h63⟩ := h62
          refine ⟨v63, ?_⟩
          obtain ⟨h64, h65⟩ := h63
          refine ⟨?_, ?_⟩
          · intro g66
            have h67 := h64 g66
            exact ih _ _ _ _ F53 h67
          · intro g68
            have h69 := h65 g68
            obtain ⟨v70, h70⟩ := h69
            refine ⟨v70, ?_⟩
            refine fmX11_turnInTrial h70 ?_
            intro M17_72 f71 h71
            have F71 : Ks (fun k j => k = 0 ∨ (8 ≤ k ∧ k ≤ 14) ∨ (160 ≤ k ∧ k ≤ 162) ∨ (190 ≤ k ∧ k ≤ 191) ∨ (195 ≤ k ∧ k ≤ 196) ∨ (k = 167 ∧ (j = 1))) M0 M17_72 := (F53).tr (f71.mono (mo_105))
            obtain ⟨v73, h73⟩ := h71
            refine ⟨v73, ?_⟩
            have w73 : (M17_72 155 16).toNat = 187 ∨ (M17_72 155 16).toNat = 192 := v73
            refine fmX11_rightOnesOfTrial h73 ?_
            intro x19_75 M19_76 f74 h74
            have F74 : Ks (fun k j => k = 0 ∨ (8 ≤ k ∧ k ≤ 14) ∨ (160 ≤ k ∧ k ≤ 162) ∨ (190 ≤ k ∧ k ≤ 191) ∨ (195 ≤ k ∧ k ≤ 196) ∨ (k = 167 ∧ (j = 1))) M0 M19_76 := (F71).tr (f74.mono (fun k j h => w73.elim (fun e => mo_83 k j (by rw [e] at h; exact h)) (fun e => mo_84 k j (by rw [e] at h; exact h))))
            intro g77
            have h78 := h74 g77
            refine fmJ6_bitCount_0f7a4 h78 ?_
            intro x20_80 M20_81 f79 h79
            have F79 : Ks (fun k j => k = 0 ∨ (8 ≤ k ∧ k ≤ 14) ∨ (160 ≤ k ∧ k ≤ 162) ∨ (190 ≤ k ∧ k ≤ 191) ∨ (195 ≤ k ∧ k ≤ 196) ∨ (k = 167 ∧ (j = 1))) M0 M20_81 := (F74).tr (f79.mono (fun _ _ h => False.elim h))
            intro g82
            have h83 := h79 g82
            obtain ⟨h84, h85⟩ := h83
            refine ⟨?_, ?_⟩
            · intro g86
              have h87 := h84 g86
              exact ih _ _ _ _ F79 h87
            · intro g88
              have h89 := h85 g88
              exact hX98 _ _ _ F79 h89
        · intro g90
          have h91 := h60 g90
          unfold qX11_mends_J70 at h91 ⊢
          obtain ⟨v92, h92⟩ := h91
          refine ⟨v92, ?_⟩
          obtain ⟨h93, h94⟩ := h92
          refine ⟨?_, ?_⟩
          · intro g95
            have h96 := h93 g95
            exact ih _ _ _ _ F53 h96
          · intro g97
            have h98 := h94 g97
            obtain ⟨v99, h99⟩ := h98
            refine ⟨v99, ?_⟩
            refine fmX11_turnInTrial h99 ?_
            intro M17_101 f100 h100
            have F100 : Ks (fun k j => k = 0 ∨ (8 ≤ k ∧ k ≤ 14) ∨ (160 ≤ k ∧ k ≤ 162) ∨ (190 ≤ k ∧ k ≤ 191) ∨ (195 ≤ k ∧ k ≤ 196) ∨ (k = 167 ∧ (j = 1))) M0 M17_101 := (F53).tr (f100.mono (mo_105))
            obtain ⟨v102, h102⟩ := h100
            refine ⟨v102, ?_⟩
            have w102 : (M17_101 155 16).toNat = 187 ∨ (M17_101 155 16).toNat = 192 := v102
            refine fmX11_rightOnesOfTrial h102 ?_
            intro x19_104 M19_105 f103 h103
            have F103 : Ks (fun k j => k = 0 ∨ (8 ≤ k ∧ k ≤ 14) ∨ (160 ≤ k ∧ k ≤ 162) ∨ (190 ≤ k ∧ k ≤ 191) ∨ (195 ≤ k ∧ k ≤ 196) ∨ (k = 167 ∧ (j = 1))) M0 M19_105 := (F100).tr (f103.mono (fun k j h => w102.elim (fun e => mo_83 k j (by rw [e] at h; exact h)) (fun e => mo_84 k j (by rw [e] at h; exact h))))
            intro g106
            have h107 := h103 g106
            refine fmJ6_bitCount_0f7a4 h107 ?_
            intro x20_109 M20_110 f108 h108
            have F108 : Ks (fun k j => k = 0 ∨ (8 ≤ k ∧ k ≤ 14) ∨ (160 ≤ k ∧ k ≤ 162) ∨ (190 ≤ k ∧ k ≤ 191) ∨ (195 ≤ k ∧ k ≤ 196) ∨ (k = 167 ∧ (j = 1))) M0 M20_110 := (F103).tr (f108.mono (fun _ _ h => False.elim h))
            intro g111
            have h112 := h108 g111
            obtain ⟨h113, h114⟩ := h112
            refine ⟨?_, ?_⟩
            · intro g115
              have h116 := h113 g115
              exact ih _ _ _ _ F108 h116
            · intro g117
              have h118 := h114 g117
              exact hX98 _ _ _ F108 h118
theorem fmX11_mends_L19 {p1 : Int} {X98 X98' : Int → Int → Mem → Prop} {Q Q' : Int → Mem → Prop} {M0 : Mem} (hQ : ∀ (w0 : Int) (M' : Mem), Ks (fun k j => k = 0 ∨ (8 ≤ k ∧ k ≤ 14) ∨ (160 ≤ k ∧ k ≤ 162) ∨ (190 ≤ k ∧ k ≤ 191) ∨ (195 ≤ k ∧ k ≤ 196) ∨ (k = 167 ∧ (j = 1))) M0 M' → Q w0 M' → Q' w0 M') (hX98 : ∀ (w0 w1 : Int) (M' : Mem), Ks (fun k j => k = 0 ∨ (8 ≤ k ∧ k ≤ 14) ∨ (160 ≤ k ∧ k ≤ 162) ∨ (190 ≤ k ∧ k ≤ 191) ∨ (195 ≤ k ∧ k ≤ 196) ∨ (k = 167 ∧ (j = 1))) M0 M' → X98 w0 w1 M' → X98' w0 w1 M') : ∀ (n : Nat) (v2 v3 : Int) (M : Mem), Ks (fun k j => k = 0 ∨ (8 ≤ k ∧ k ≤ 14) ∨ (160 ≤ k ∧ k ≤ 162) ∨ (190 ≤ k ∧ k ≤ 191) ∨ (195 ≤ k ∧ k ≤ 196) ∨ (k = 167 ∧ (j = 1))) M0 M → qX11_mends_L19 p1 X98 Q n v2 v3 M → qX11_mends_L19 p1 X98' Q' n v2 v3 M := by
  intro n
  induction n with
  | zero => intro v2 v3 M _ h; exact h.elim
  | succ n ih =>
    intro v2 v3 M hF h
    rw [qX11_mends_L19] at h
    rw [qX11_mends_L19]
    intro x4_1 g2 g3
    have h1 := h x4_1 g2 g3
    obtain ⟨v4, h4⟩ := h1
    refine ⟨v4, ?_⟩
    obtain ⟨h5, h6⟩ := h4
    refine ⟨?_, ?_⟩
    · intro g7
      have h8 := h5 g7
      exact hQ _ _ hF h8
    · intro g9
      have h10 := h6 g9
      obtain ⟨n11, h11⟩ := h10
      refine ⟨n11, ?_⟩
      refine fmX11_mends_L33 hQ ?_ ?_ _ _ _ _ _ hF h11
      · intro v3_13 v4_14 M_15 F12 h12
        exact hX98 _ _ _ F12 h12
      · intro v2_17 v3_18 M_19 F16 h16
        exact ih _ _ _ F16 h16
theorem fmX11_mends {p1 : Int} {M : Mem} {Q Q' : Int → Mem → Prop} (h : qX11_mends p1 M Q) (hQ : ∀ (w0 : Int) (M' : Mem), Ks (fun k j => k = 0 ∨ (8 ≤ k ∧ k ≤ 14) ∨ (160 ≤ k ∧ k ≤ 162) ∨ (190 ≤ k ∧ k ≤ 191) ∨ (195 ≤ k ∧ k ≤ 196) ∨ (k = 167 ∧ (j = 1))) M M' → Q w0 M' → Q' w0 M') : qX11_mends p1 M Q' := by
  unfold qX11_mends at h ⊢
  obtain ⟨h1, h2⟩ := h
  refine ⟨?_, ?_⟩
  · intro g3
    have h4 := h1 g3
    exact hQ _ _ Ks.rf h4
  · intro g5
    have h6 := h2 g5
    obtain ⟨h7, h8⟩ := h6
    refine ⟨?_, ?_⟩
    · intro g9
      have h10 := h7 g9
      refine fmX11_ableToTurn h10 ?_
      intro x3_12 M3_13 f11 h11
      have F11 : Ks (fun k j => k = 0 ∨ (8 ≤ k ∧ k ≤ 14) ∨ (160 ≤ k ∧ k ≤ 162) ∨ (190 ≤ k ∧ k ≤ 191) ∨ (195 ≤ k ∧ k ≤ 196) ∨ (k = 167 ∧ (j = 1))) M M3_13 := (Ks.rf).tr (f11.mono (mo_105))
      intro g14
      have h15 := h11 g14
      obtain ⟨n16, h16⟩ := h15
      refine ⟨n16, ?_⟩
      refine fmX11_mends_L19 hQ ?_ _ _ _ _ F11 h16
      · intro v3_18 v4_19 M_20 F17 h17
        obtain ⟨v21, h21⟩ := h17
        refine ⟨v21, ?_⟩
        refine fmX4_tellOne h21 ?_
        intro M28_23 f22 h22
        have F22 : Ks (fun k j => k = 0 ∨ (8 ≤ k ∧ k ≤ 14) ∨ (160 ≤ k ∧ k ≤ 162) ∨ (190 ≤ k ∧ k ≤ 191) ∨ (195 ≤ k ∧ k ≤ 196) ∨ (k = 167 ∧ (j = 1))) M M28_23 := (F17).tr (f22.mono (mo_76))
        obtain ⟨v24, h24⟩ := h22
        refine ⟨v24, ?_⟩
        exact hQ _ _ F22 h24
    · intro g25
      have h26 := h8 g25
      exact hQ _ _ Ks.rf h26
theorem fmX6_takeAway_L7 {k0 : Nat} {p1 : Int} {Q Q' : Mem → Prop} {M0 : Mem} (hQ : ∀ (M' : Mem), Ks (fun k j => (k = k0 ∧ (j = 8)) ∨ k = k0 + 1 ∨ k = k0 + 2 ∨ k = k0 + 5) M0 M' → Q M' → Q' M') : ∀ (n : Nat) (v2 : Int) (M : Mem), Ks (fun k j => (k = k0 ∧ (j = 8)) ∨ k = k0 + 1 ∨ k = k0 + 2 ∨ k = k0 + 5) M0 M → qX6_takeAway_L7 k0 p1 Q n v2 M → qX6_takeAway_L7 k0 p1 Q' n v2 M := by
  intro n
  induction n with
  | zero => intro v2 M _ h; exact h.elim
  | succ n ih =>
    intro v2 M hF h
    rw [qX6_takeAway_L7] at h
    rw [qX6_takeAway_L7]
    intro x2_1 g2 g3
    have h1 := h x2_1 g2 g3
    obtain ⟨v4, h4⟩ := h1
    refine ⟨v4, ?_⟩
    obtain ⟨h5, h6⟩ := h4
    refine ⟨?_, ?_⟩
    · intro g7
      have h8 := h5 g7
      exact hQ _ hF h8
    · intro g9
      have h10 := h6 g9
      obtain ⟨v11, h11⟩ := h10
      refine ⟨v11, ?_⟩
      obtain ⟨v12, h12⟩ := h11
      refine ⟨v12, ?_⟩
      intro x7_13 g14 g15
      have h13 := h12 x7_13 g14 g15
      obtain ⟨h16, h17⟩ := h13
      refine ⟨?_, ?_⟩
      · intro g18
        have h19 := h16 g18
        exact ih _ _ hF h19
      · intro g20
        have h21 := h17 g20
        intro M9_22 eM9_22
        have h22 := h21 M9_22 eM9_22
        have F22 : Ks (fun k j => (k = k0 ∧ (j = 8)) ∨ k = k0 + 1 ∨ k = k0 + 2 ∨ k = k0 + 5) M0 M9_22 := by rw [eM9_22]; exact (hF).wr (mw_91 _)
        exact ih _ _ F22 h22
theorem fmX6_takeAway {k0 : Nat} {p1 : Int} {M : Mem} {Q Q' : Mem → Prop} (h : qX6_takeAway k0 p1 M Q) (hQ : ∀ (M' : Mem), Ks (fun k j => (k = k0 ∧ (j = 8)) ∨ k = k0 + 1 ∨ k = k0 + 2 ∨ k = k0 + 5) M M' → Q M' → Q' M') : qX6_takeAway k0 p1 M Q' := by
  unfold qX6_takeAway at h ⊢
  refine fmX6_arrive h ?_
  intro M1_2 f1 h1
  have F1 : Ks (fun k j => (k = k0 ∧ (j = 8)) ∨ k = k0 + 1 ∨ k = k0 + 2 ∨ k = k0 + 5) M M1_2 := (Ks.rf).tr (f1.mono (mo_106))
  obtain ⟨n3, h3⟩ := h1
  refine ⟨n3, ?_⟩
  refine fmX6_takeAway_L7 hQ _ _ _ F1 h3
theorem fmX11_misleads_L27  {X129 X129' : Int → Int → Int → Mem → Prop} {Q Q' : Int → Mem → Prop} {M0 : Mem} (hQ : ∀ (w0 : Int) (M' : Mem), Ks (fun k j => k = 0 ∨ (8 ≤ k ∧ k ≤ 14) ∨ (160 ≤ k ∧ k ≤ 162) ∨ (190 ≤ k ∧ k ≤ 191) ∨ (195 ≤ k ∧ k ≤ 196) ∨ (k = 167 ∧ (j = 1))) M0 M' → Q w0 M' → Q' w0 M') (hX129 : ∀ (w0 w1 w2 : Int) (M' : Mem), Ks (fun k j => k = 0 ∨ (8 ≤ k ∧ k ≤ 14) ∨ (160 ≤ k ∧ k ≤ 162) ∨ (190 ≤ k ∧ k ≤ 191) ∨ (195 ≤ k ∧ k ≤ 196) ∨ (k = 167 ∧ (j = 1))) M0 M' → X129 w0 w1 w2 M' → X129' w0 w1 w2 M') : ∀ (n : Nat) (v1 v2 v3 v4 : Int) (M : Mem), Ks (fun k j => k = 0 ∨ (8 ≤ k ∧ k ≤ 14) ∨ (160 ≤ k ∧ k ≤ 162) ∨ (190 ≤ k ∧ k ≤ 191) ∨ (195 ≤ k ∧ k ≤ 196) ∨ (k = 167 ∧ (j = 1))) M0 M → qX11_misleads_L27 X129 Q n v1 v2 v3 v4 M → qX11_misleads_L27 X129' Q' n v1 v2 v3 v4 M := by
  intro n
  induction n with
  | zero => intro v1 v2 v3 v4 M _ h; exact h.elim
  | succ n ih =>
    intro v1 v2 v3 v4 M hF h
    rw [qX11_misleads_L27] at h
    rw [qX11_misleads_L27]
    intro x4_1 g2 g3
    have h1 := h x4_1 g2 g3
    obtain ⟨v4, h4⟩ := h1
    refine ⟨v4, ?_⟩
    obtain ⟨h5, h6⟩ := h4
    refine ⟨?_, ?_⟩
    · intro g7
      have h8 := h5 g7
      exact hX129 _ _ _ _ hF h8
    · intro g9
      have h10 := h6 g9
      refine fmX6_hasArrived h10 ?_
      intro x7_12 M7_13 f11 h11
      have F11 : Ks (fun k j => k = 0 ∨ (8 ≤ k ∧ k ≤ 14) ∨ (160 ≤ k ∧ k ≤ 162) ∨ (190 ≤ k ∧ k ≤ 191) ∨ (195 ≤ k ∧ k ≤ 196) ∨ (k = 167 ∧ (j = 1))) M0 M7_13 := (hF).tr (f11.mono (fun _ _ h => False.elim h))
      intro g14 g15
      have h16 := h11 g14 g15
      obtain ⟨h17, h18⟩ := h16
      refine ⟨?_, ?_⟩
      · intro g19
        have h20 := h17 g19
        exact ih _ _ _ _ _ F11 h20
      · intro g21
        have h22 := h18 g21
        refine fmX6_copyFrom h22 ?_
        intro M9_24 f23 h23
        have F23 : Ks (fun k j => k = 0 ∨ (8 ≤ k ∧ k ≤ 14) ∨ (160 ≤ k ∧ k ≤ 162) ∨ (190 ≤ k ∧ k ≤ 191) ∨ (195 ≤ k ∧ k ≤ 196) ∨ (k = 167 ∧ (j = 1))) M0 M9_24 := (F11).tr (f23.mono (mo_77))
        refine fmX6_takeAway h23 ?_
        intro M10_26 f25 h25
        have F25 : Ks (fun k j => k = 0 ∨ (8 ≤ k ∧ k ≤ 14) ∨ (160 ≤ k ∧ k ≤ 162) ∨ (190 ≤ k ∧ k ≤ 191) ∨ (195 ≤ k ∧ k ≤ 196) ∨ (k = 167 ∧ (j = 1))) M0 M10_26 := (F23).tr (f25.mono (mo_107))
        obtain ⟨v27, h27⟩ := h25
        refine ⟨v27, ?_⟩
        have w27 : (M10_26 155 16).toNat = 187 ∨ (M10_26 155 16).toNat = 192 := v27
        refine fmX11_rightOnesOfTrial h27 ?_
        intro x12_29 M12_30 f28 h28
        have F28 : Ks (fun k j => k = 0 ∨ (8 ≤ k ∧ k ≤ 14) ∨ (160 ≤ k ∧ k ≤ 162) ∨ (190 ≤ k ∧ k ≤ 191) ∨ (195 ≤ k ∧ k ≤ 196) ∨ (k = 167 ∧ (j = 1))) M0 M12_30 := (F25).tr (f28.mono (fun k j h => w27.elim (fun e => mo_83 k j (by rw [e] at h; exact h)) (fun e => mo_84 k j (by rw [e] at h; exact h))))
        intro g31
        have h32 := h28 g31
        refine fmX6_bitsOf h32 ?_
        intro x13_34 M13_35 f33 h33
        have F33 : Ks (fun k j => k = 0 ∨ (8 ≤ k ∧ k ≤ 14) ∨ (160 ≤ k ∧ k ≤ 162) ∨ (190 ≤ k ∧ k ≤ 191) ∨ (195 ≤ k ∧ k ≤ 196) ∨ (k = 167 ∧ (j = 1))) M0 M13_35 := (F28).tr (f33.mono (fun _ _ h => False.elim h))
        intro g36
        have h37 := h33 g36
        intro x14_38 g39 g40
        have h38 := h37 x14_38 g39 g40
        intro x15_41 g42 g43
        have h41 := h38 x15_41 g42 g43
        refine fmJ6_bitCount_0f7a4 h41 ?_
        intro x16_45 M16_46 f44 h44
        have F44 : Ks (fun k j => k = 0 ∨ (8 ≤ k ∧ k ≤ 14) ∨ (160 ≤ k ∧ k ≤ 162) ∨ (190 ≤ k ∧ k ≤ 191) ∨ (195 ≤ k ∧ k ≤ 196) ∨ (k = 167 ∧ (j = 1))) M0 M16_46 := (F33).tr (f44.mono (fun _ _ h => False.elim h))
        intro g47
        have h48 := h44 g47
        obtain ⟨v49, h49⟩ := h48
        refine ⟨v49, ?_⟩
        obtain ⟨h50, h51⟩ := h49
        refine ⟨?_, ?_⟩
        · intro g52
          have h53 := h50 g52
          unfold qX11_misleads_J115 at h53 ⊢
          obtain ⟨v54, h54⟩ := h53
          refine ⟨v54, ?_⟩
          obtain ⟨v55, h55⟩ := h54
          refine ⟨v55, ?_⟩
          intro x21_56 g57 g58
          have h56 := h55 x21_56 g57 g58
          exact ih _ _ _ _ _ F44 h56
        · intro g59
          have h60 := h51 g59
          unfold qX11_misleads_J115 at h60 ⊢
          obtain ⟨v61, h61⟩ := h60
          refine ⟨v61, ?_⟩
          obtain ⟨v62, h62⟩ := h61
          refine ⟨v62, ?_⟩
          intro x21_63 g64 g65
          have h63 := h62 x21_63 g64 g65
          exact ih _ _ _ _ _ F44 h63
theorem fmX11_misleads  {M : Mem} {Q Q' : Int → Mem → Prop} (h : qX11_misleads M Q) (hQ : ∀ (w0 : Int) (M' : Mem), Ks (fun k j => k = 0 ∨ (8 ≤ k ∧ k ≤ 14) ∨ (160 ≤ k ∧ k ≤ 162) ∨ (190 ≤ k ∧ k ≤ 191) ∨ (195 ≤ k ∧ k ≤ 196) ∨ (k = 167 ∧ (j = 1))) M M' → Q w0 M' → Q' w0 M') : qX11_misleads M Q' := by
  unfold qX11_misleads at h ⊢
  refine fmX6_copyFrom h ?_
  intro M1_2 f1 h1
  have F1 : Ks (fun k j => k = 0 ∨ (8 ≤ k ∧ k ≤ 14) ∨ (160 ≤ k ∧ k ≤ 162) ∨ (190 ≤ k ∧ k ≤ 191) ∨ (195 ≤ k ∧ k ≤ 196) ∨ (k = 167 ∧ (j = 1))) M M1_2 := (Ks.rf).tr (f1.mono (mo_77))
  obtain ⟨v3, h3⟩ := h1
  refine ⟨v3, ?_⟩
  have w3 : (M1_2 155 16).toNat = 187 ∨ (M1_2 155 16).toNat = 192 := v3
  refine fmX11_rightOnesOfTrial h3 ?_
  intro x3_5 M3_6 f4 h4
  have F4 : Ks (fun k j => k = 0 ∨ (8 ≤ k ∧ k ≤ 14) ∨ (160 ≤ k ∧ k ≤ 162) ∨ (190 ≤ k ∧ k ≤ 191) ∨ (195 ≤ k ∧ k ≤ 196) ∨ (k = 167 ∧ (j = 1))) M M3_6 := (F1).tr (f4.mono (fun k j h => w3.elim (fun e => mo_83 k j (by rw [e] at h; exact h)) (fun e => mo_84 k j (by rw [e] at h; exact h))))
  intro g7
  have h8 := h4 g7
  obtain ⟨n9, h9⟩ := h8
  refine ⟨n9, ?_⟩
  refine fmX11_misleads_L27 hQ ?_ _ _ _ _ _ _ F4 h9
  · intro v1_11 v2_12 v3_13 M_14 F10 h10
    obtain ⟨v15, h15⟩ := h10
    refine ⟨v15, ?_⟩
    obtain ⟨h16, h17⟩ := h15
    refine ⟨?_, ?_⟩
    · intro g18
      have h19 := h16 g18
      obtain ⟨v20, h20⟩ := h19
      refine ⟨v20, ?_⟩
      refine fmX6_bitsOf h20 ?_
      intro x26_22 M26_23 f21 h21
      have F21 : Ks (fun k j => k = 0 ∨ (8 ≤ k ∧ k ≤ 14) ∨ (160 ≤ k ∧ k ≤ 162) ∨ (190 ≤ k ∧ k ≤ 191) ∨ (195 ≤ k ∧ k ≤ 196) ∨ (k = 167 ∧ (j = 1))) M M26_23 := (F10).tr (f21.mono (fun _ _ h => False.elim h))
      intro g24
      have h25 := h21 g24
      intro x27_26 g27 g28
      have h26 := h25 x27_26 g27 g28
      intro x28_29 g30 g31
      have h29 := h26 x28_29 g30 g31
      refine fmJ6_bitCount_0f7a4 h29 ?_
      intro x29_33 M29_34 f32 h32
      have F32 : Ks (fun k j => k = 0 ∨ (8 ≤ k ∧ k ≤ 14) ∨ (160 ≤ k ∧ k ≤ 162) ∨ (190 ≤ k ∧ k ≤ 191) ∨ (195 ≤ k ∧ k ≤ 196) ∨ (k = 167 ∧ (j = 1))) M M29_34 := (F21).tr (f32.mono (fun _ _ h => False.elim h))
      intro g35
      have h36 := h32 g35
      refine fmX4_tellTwo h36 ?_
      intro M30_38 f37 h37
      have F37 : Ks (fun k j => k = 0 ∨ (8 ≤ k ∧ k ≤ 14) ∨ (160 ≤ k ∧ k ≤ 162) ∨ (190 ≤ k ∧ k ≤ 191) ∨ (195 ≤ k ∧ k ≤ 196) ∨ (k = 167 ∧ (j = 1))) M M30_38 := (F32).tr (f37.mono (mo_76))
      exact hQ _ _ F37 h37
    · intro g39
      have h40 := h17 g39
      exact hQ _ _ F10 h40
theorem fmX11_crowd_L45  {X101 X101' : Int → Int → Mem → Prop} {Q Q' : Int → Mem → Prop} {M0 : Mem} (hQ : ∀ (w0 : Int) (M' : Mem), Ks (fun k j => k = 0 ∨ (8 ≤ k ∧ k ≤ 14) ∨ (160 ≤ k ∧ k ≤ 162) ∨ (190 ≤ k ∧ k ≤ 191) ∨ (195 ≤ k ∧ k ≤ 196) ∨ (k = 167 ∧ (j = 1))) M0 M' → Q w0 M' → Q' w0 M') (hX101 : ∀ (w0 w1 : Int) (M' : Mem), Ks (fun k j => k = 0 ∨ (8 ≤ k ∧ k ≤ 14) ∨ (160 ≤ k ∧ k ≤ 162) ∨ (190 ≤ k ∧ k ≤ 191) ∨ (195 ≤ k ∧ k ≤ 196) ∨ (k = 167 ∧ (j = 1))) M0 M' → X101 w0 w1 M' → X101' w0 w1 M') : ∀ (n : Nat) (v1 v2 v3 : Int) (M : Mem), Ks (fun k j => k = 0 ∨ (8 ≤ k ∧ k ≤ 14) ∨ (160 ≤ k ∧ k ≤ 162) ∨ (190 ≤ k ∧ k ≤ 191) ∨ (195 ≤ k ∧ k ≤ 196) ∨ (k = 167 ∧ (j = 1))) M0 M → qX11_crowd_L45 X101 Q n v1 v2 v3 M → qX11_crowd_L45 X101' Q' n v1 v2 v3 M := by
  intro n
  induction n with
  | zero => intro v1 v2 v3 M _ h; exact h.elim
  | succ n ih =>
    intro v1 v2 v3 M hF h
    rw [qX11_crowd_L45] at h
    rw [qX11_crowd_L45]
    intro x6_1 g2 g3
    have h1 := h x6_1 g2 g3
    obtain ⟨v4, h4⟩ := h1
    refine ⟨v4, ?_⟩
    obtain ⟨h5, h6⟩ := h4
    refine ⟨?_, ?_⟩
    · intro g7
      have h8 := h5 g7
      exact hX101 _ _ _ hF h8
    · intro g9
      have h10 := h6 g9
      refine fmX6_bitsOf h10 ?_
      intro x9_12 M9_13 f11 h11
      have F11 : Ks (fun k j => k = 0 ∨ (8 ≤ k ∧ k ≤ 14) ∨ (160 ≤ k ∧ k ≤ 162) ∨ (190 ≤ k ∧ k ≤ 191) ∨ (195 ≤ k ∧ k ≤ 196) ∨ (k = 167 ∧ (j = 1))) M0 M9_13 := (hF).tr (f11.mono (fun _ _ h => False.elim h))
      intro g14
      have h15 := h11 g14
      refine fmJ6_bitCount_0f7a4 h15 ?_
      intro x10_17 M10_18 f16 h16
      have F16 : Ks (fun k j => k = 0 ∨ (8 ≤ k ∧ k ≤ 14) ∨ (160 ≤ k ∧ k ≤ 162) ∨ (190 ≤ k ∧ k ≤ 191) ∨ (195 ≤ k ∧ k ≤ 196) ∨ (k = 167 ∧ (j = 1))) M0 M10_18 := (F11).tr (f16.mono (fun _ _ h => False.elim h))
      intro g19
      have h20 := h16 g19
      obtain ⟨v21, h21⟩ := h20
      refine ⟨v21, ?_⟩
      obtain ⟨h22, h23⟩ := h21
      refine ⟨?_, ?_⟩
      · intro g24
        have h25 := h22 g24
        unfold qX11_crowd_J87 at h25 ⊢
        obtain ⟨v26, h26⟩ := h25
        refine ⟨v26, ?_⟩
        obtain ⟨v27, h27⟩ := h26
        refine ⟨v27, ?_⟩
        intro x15_28 g29 g30
        have h28 := h27 x15_28 g29 g30
        exact ih _ _ _ _ F16 h28
      · intro g31
        have h32 := h23 g31
        unfold qX11_crowd_J87 at h32 ⊢
        obtain ⟨v33, h33⟩ := h32
        refine ⟨v33, ?_⟩
        obtain ⟨v34, h34⟩ := h33
        refine ⟨v34, ?_⟩
        intro x15_35 g36 g37
        have h35 := h34 x15_35 g36 g37
        exact ih _ _ _ _ F16 h35
theorem fmX11_crowd  {M : Mem} {Q Q' : Int → Mem → Prop} (h : qX11_crowd M Q) (hQ : ∀ (w0 : Int) (M' : Mem), Ks (fun k j => k = 0 ∨ (8 ≤ k ∧ k ≤ 14) ∨ (160 ≤ k ∧ k ≤ 162) ∨ (190 ≤ k ∧ k ≤ 191) ∨ (195 ≤ k ∧ k ≤ 196) ∨ (k = 167 ∧ (j = 1))) M M' → Q w0 M' → Q' w0 M') : qX11_crowd M Q' := by
  unfold qX11_crowd at h ⊢
  intro x1_1 g2 g3
  have h1 := h x1_1 g2 g3
  obtain ⟨h4, h5⟩ := h1
  refine ⟨?_, ?_⟩
  · intro g6
    have h7 := h4 g6
    refine fmX6_copyFrom h7 ?_
    intro M3_9 f8 h8
    have F8 : Ks (fun k j => k = 0 ∨ (8 ≤ k ∧ k ≤ 14) ∨ (160 ≤ k ∧ k ≤ 162) ∨ (190 ≤ k ∧ k ≤ 191) ∨ (195 ≤ k ∧ k ≤ 196) ∨ (k = 167 ∧ (j = 1))) M M3_9 := (Ks.rf).tr (f8.mono (mo_77))
    obtain ⟨v10, h10⟩ := h8
    refine ⟨v10, ?_⟩
    have w10 : (M3_9 155 16).toNat = 187 ∨ (M3_9 155 16).toNat = 192 := v10
    refine fmX10_toEnd h10 ?_
    intro M5_12 f11 h11
    have F11 : Ks (fun k j => k = 0 ∨ (8 ≤ k ∧ k ≤ 14) ∨ (160 ≤ k ∧ k ≤ 162) ∨ (190 ≤ k ∧ k ≤ 191) ∨ (195 ≤ k ∧ k ≤ 196) ∨ (k = 167 ∧ (j = 1))) M M5_12 := (F8).tr (f11.mono (fun k j h => w10.elim (fun e => mo_78 k j (by rw [e] at h; exact h)) (fun e => mo_79 k j (by rw [e] at h; exact h))))
    obtain ⟨n13, h13⟩ := h11
    refine ⟨n13, ?_⟩
    refine fmX11_crowd_L45 hQ ?_ _ _ _ _ _ F11 h13
    · intro v1_15 v2_16 M_17 F14 h14
      obtain ⟨v18, h18⟩ := h14
      refine ⟨v18, ?_⟩
      refine fmX6_rightBits h18 ?_
      intro x18_20 M18_21 f19 h19
      have F19 : Ks (fun k j => k = 0 ∨ (8 ≤ k ∧ k ≤ 14) ∨ (160 ≤ k ∧ k ≤ 162) ∨ (190 ≤ k ∧ k ≤ 191) ∨ (195 ≤ k ∧ k ≤ 196) ∨ (k = 167 ∧ (j = 1))) M M18_21 := (F14).tr (f19.mono (fun _ _ h => False.elim h))
      intro g22
      have h23 := h19 g22
      obtain ⟨v24, h24⟩ := h23
      refine ⟨v24, ?_⟩
      refine fmX6_bitsOf h24 ?_
      intro x20_26 M20_27 f25 h25
      have F25 : Ks (fun k j => k = 0 ∨ (8 ≤ k ∧ k ≤ 14) ∨ (160 ≤ k ∧ k ≤ 162) ∨ (190 ≤ k ∧ k ≤ 191) ∨ (195 ≤ k ∧ k ≤ 196) ∨ (k = 167 ∧ (j = 1))) M M20_27 := (F19).tr (f25.mono (fun _ _ h => False.elim h))
      intro g28
      have h29 := h25 g28
      intro x21_30 g31 g32
      have h30 := h29 x21_30 g31 g32
      refine fmJ6_bitCount_0f7a4 h30 ?_
      intro x22_34 M22_35 f33 h33
      have F33 : Ks (fun k j => k = 0 ∨ (8 ≤ k ∧ k ≤ 14) ∨ (160 ≤ k ∧ k ≤ 162) ∨ (190 ≤ k ∧ k ≤ 191) ∨ (195 ≤ k ∧ k ≤ 196) ∨ (k = 167 ∧ (j = 1))) M M22_35 := (F25).tr (f33.mono (fun _ _ h => False.elim h))
      intro g36
      have h37 := h33 g36
      refine fmX4_tellTwo h37 ?_
      intro M23_39 f38 h38
      have F38 : Ks (fun k j => k = 0 ∨ (8 ≤ k ∧ k ≤ 14) ∨ (160 ≤ k ∧ k ≤ 162) ∨ (190 ≤ k ∧ k ≤ 191) ∨ (195 ≤ k ∧ k ≤ 196) ∨ (k = 167 ∧ (j = 1))) M M23_39 := (F33).tr (f38.mono (mo_76))
      exact hQ _ _ F38 h38
  · intro g40
    have h41 := h5 g40
    exact hQ _ _ Ks.rf h41
theorem fmX7_canHave {k1 : Nat} {p2 : Int} {p3 : Int} {p4 : Int} {M : Mem} {Q Q' : Int → Mem → Prop} (h : qX7_canHave k1 p2 p3 p4 M Q) (hQ : ∀ (w0 : Int) (M' : Mem), Ks (fun _ _ => False) M M' → Q w0 M' → Q' w0 M') : qX7_canHave k1 p2 p3 p4 M Q' := by
  unfold qX7_canHave at h ⊢
  intro x1_1 g2 g3
  have h1 := h x1_1 g2 g3
  intro x2_4 g5 g6
  have h4 := h1 x2_4 g5 g6
  obtain ⟨h7, h8⟩ := h4
  refine ⟨?_, ?_⟩
  · intro g9
    have h10 := h7 g9
    exact hQ _ _ Ks.rf h10
  · intro g11
    have h12 := h8 g11
    refine fmX6_hasEnded h12 ?_
    intro x4_14 M4_15 f13 h13
    have F13 : Ks (fun _ _ => False) M M4_15 := (Ks.rf).tr (f13.mono (fun _ _ h => False.elim h))
    intro g16 g17
    have h18 := h13 g16 g17
    obtain ⟨h19, h20⟩ := h18
    refine ⟨?_, ?_⟩
    · intro g21
      have h22 := h19 g21
      exact hQ _ _ F13 h22
    · intro g23
      have h24 := h20 g23
      refine fmX6_hasArrived h24 ?_
      intro x6_26 M6_27 f25 h25
      have F25 : Ks (fun _ _ => False) M M6_27 := (F13).tr (f25.mono (fun _ _ h => False.elim h))
      intro g28 g29
      have h30 := h25 g28 g29
      obtain ⟨h31, h32⟩ := h30
      refine ⟨?_, ?_⟩
      · intro g33
        have h34 := h31 g33
        exact hQ _ _ F25 h34
      · intro g35
        have h36 := h32 g35
        obtain ⟨v37, h37⟩ := h36
        refine ⟨v37, ?_⟩
        obtain ⟨v38, h38⟩ := h37
        refine ⟨v38, ?_⟩
        intro x10_39 g40 g41
        have h39 := h38 x10_39 g40 g41
        obtain ⟨v42, h42⟩ := h39
        refine ⟨v42, ?_⟩
        obtain ⟨v43, h43⟩ := h42
        refine ⟨v43, ?_⟩
        intro x13_44 g45 g46
        have h44 := h43 x13_44 g45 g46
        obtain ⟨v47, h47⟩ := h44
        refine ⟨v47, ?_⟩
        intro x15_48 g49 g50
        have h48 := h47 x15_48 g49 g50
        intro x16_51 g52 g53
        have h51 := h48 x16_51 g52 g53
        obtain ⟨v54, h54⟩ := h51
        refine ⟨v54, ?_⟩
        obtain ⟨h55, h56⟩ := h54
        refine ⟨?_, ?_⟩
        · intro g57
          have h58 := h55 g57
          exact hQ _ _ F25 h58
        · intro g59
          have h60 := h56 g59
          exact hQ _ _ F25 h60
theorem fmX7_choice_L30 {k1 : Nat} {p2 : Int} {p3 : Int} {Q Q' : Int → Mem → Prop} {M0 : Mem} (hQ : ∀ (w0 : Int) (M' : Mem), Ks (fun _ _ => False) M0 M' → Q w0 M' → Q' w0 M') : ∀ (n : Nat) (v4 v5 : Int) (M : Mem), Ks (fun _ _ => False) M0 M → qX7_choice_L30 k1 p2 p3 Q n v4 v5 M → qX7_choice_L30 k1 p2 p3 Q' n v4 v5 M := by
  intro n
  induction n with
  | zero => intro v4 v5 M _ h; exact h.elim
  | succ n ih =>
    intro v4 v5 M hF h
    rw [qX7_choice_L30] at h
    rw [qX7_choice_L30]
    intro x10_1 g2 g3
    have h1 := h x10_1 g2 g3
    obtain ⟨v4, h4⟩ := h1
    refine ⟨v4, ?_⟩
    obtain ⟨h5, h6⟩ := h4
    refine ⟨?_, ?_⟩
    · intro g7
      have h8 := h5 g7
      exact hQ _ _ hF h8
    · intro g9
      have h10 := h6 g9
      refine fmX7_canHave h10 ?_
      intro x13_12 M13_13 f11 h11
      have F11 : Ks (fun _ _ => False) M0 M13_13 := (hF).tr (f11.mono (fun _ _ h => False.elim h))
      intro g14 g15
      have h16 := h11 g14 g15
      obtain ⟨h17, h18⟩ := h16
      refine ⟨?_, ?_⟩
      · intro g19
        have h20 := h17 g19
        exact ih _ _ _ F11 h20
      · intro g21
        have h22 := h18 g21
        obtain ⟨v23, h23⟩ := h22
        refine ⟨v23, ?_⟩
        obtain ⟨v24, h24⟩ := h23
        refine ⟨v24, ?_⟩
        intro x17_25 g26 g27
        have h25 := h24 x17_25 g26 g27
        intro x18_28 g29 g30
        have h28 := h25 x18_28 g29 g30
        obtain ⟨v31, h31⟩ := h28
        refine ⟨v31, ?_⟩
        obtain ⟨v32, h32⟩ := h31
        refine ⟨v32, ?_⟩
        intro x21_33 g34 g35
        have h33 := h32 x21_33 g34 g35
        obtain ⟨v36, h36⟩ := h33
        refine ⟨v36, ?_⟩
        obtain ⟨v37, h37⟩ := h36
        refine ⟨v37, ?_⟩
        obtain ⟨h38, h39⟩ := h37
        refine ⟨?_, ?_⟩
        · intro g40
          have h41 := h38 g40
          exact ih _ _ _ F11 h41
        · intro g42
          have h43 := h39 g42
          exact hQ _ _ F11 h43
theorem fmX7_choice {k1 : Nat} {p2 : Int} {p3 : Int} {M : Mem} {Q Q' : Int → Mem → Prop} (h : qX7_choice k1 p2 p3 M Q) (hQ : ∀ (w0 : Int) (M' : Mem), Ks (fun _ _ => False) M M' → Q w0 M' → Q' w0 M') : qX7_choice k1 p2 p3 M Q' := by
  unfold qX7_choice at h ⊢
  obtain ⟨v1, h1⟩ := h
  refine ⟨v1, ?_⟩
  obtain ⟨v2, h2⟩ := h1
  refine ⟨v2, ?_⟩
  obtain ⟨v3, h3⟩ := h2
  refine ⟨v3, ?_⟩
  obtain ⟨v4, h4⟩ := h3
  refine ⟨v4, ?_⟩
  intro x5_5 g6 g7
  have h5 := h4 x5_5 g6 g7
  obtain ⟨v8, h8⟩ := h5
  refine ⟨v8, ?_⟩
  obtain ⟨v9, h9⟩ := h8
  refine ⟨v9, ?_⟩
  intro x8_10 g11 g12
  have h10 := h9 x8_10 g11 g12
  obtain ⟨h13, h14⟩ := h10
  refine ⟨?_, ?_⟩
  · intro g15
    have h16 := h13 g15
    obtain ⟨n17, h17⟩ := h16
    refine ⟨n17, ?_⟩
    refine fmX7_choice_L30 hQ _ _ _ _ Ks.rf h17
  · intro g18
    have h19 := h14 g18
    exact hQ _ _ Ks.rf h19
theorem fmX7_mostFrom_L15 {k1 : Nat} {p2 : Int} {p3 : Int} {Q Q' : Int → Mem → Prop} {M0 : Mem} (hQ : ∀ (w0 : Int) (M' : Mem), Ks (fun _ _ => False) M0 M' → Q w0 M' → Q' w0 M') : ∀ (n : Nat) (v4 v5 : Int) (M : Mem), Ks (fun _ _ => False) M0 M → qX7_mostFrom_L15 k1 p2 p3 Q n v4 v5 M → qX7_mostFrom_L15 k1 p2 p3 Q' n v4 v5 M := by
  intro n
  induction n with
  | zero => intro v4 v5 M _ h; exact h.elim
  | succ n ih =>
    intro v4 v5 M hF h
    rw [qX7_mostFrom_L15] at h
    rw [qX7_mostFrom_L15]
    intro x6_1 g2 g3
    have h1 := h x6_1 g2 g3
    obtain ⟨v4, h4⟩ := h1
    refine ⟨v4, ?_⟩
    obtain ⟨h5, h6⟩ := h4
    refine ⟨?_, ?_⟩
    · intro g7
      have h8 := h5 g7
      obtain ⟨v9, h9⟩ := h8
      refine ⟨v9, ?_⟩
      exact hQ _ _ hF h9
    · intro g10
      have h11 := h6 g10
      refine fmX7_canHave h11 ?_
      intro x10_13 M10_14 f12 h12
      have F12 : Ks (fun _ _ => False) M0 M10_14 := (hF).tr (f12.mono (fun _ _ h => False.elim h))
      intro g15 g16
      have h17 := h12 g15 g16
      obtain ⟨h18, h19⟩ := h17
      refine ⟨?_, ?_⟩
      · intro g20
        have h21 := h18 g20
        exact ih _ _ _ F12 h21
      · intro g22
        have h23 := h19 g22
        obtain ⟨v24, h24⟩ := h23
        refine ⟨v24, ?_⟩
        obtain ⟨v25, h25⟩ := h24
        refine ⟨v25, ?_⟩
        intro x14_26 g27 g28
        have h26 := h25 x14_26 g27 g28
        intro x15_29 g30 g31
        have h29 := h26 x15_29 g30 g31
        obtain ⟨v32, h32⟩ := h29
        refine ⟨v32, ?_⟩
        obtain ⟨v33, h33⟩ := h32
        refine ⟨v33, ?_⟩
        intro x18_34 g35 g36
        have h34 := h33 x18_34 g35 g36
        obtain ⟨v37, h37⟩ := h34
        refine ⟨v37, ?_⟩
        obtain ⟨v38, h38⟩ := h37
        refine ⟨v38, ?_⟩
        intro x21_39 g40 g41
        have h39 := h38 x21_39 g40 g41
        exact ih _ _ _ F12 h39
theorem fmX7_mostFrom {k1 : Nat} {p2 : Int} {p3 : Int} {M : Mem} {Q Q' : Int → Mem → Prop} (h : qX7_mostFrom k1 p2 p3 M Q) (hQ : ∀ (w0 : Int) (M' : Mem), Ks (fun _ _ => False) M M' → Q w0 M' → Q' w0 M') : qX7_mostFrom k1 p2 p3 M Q' := by
  unfold qX7_mostFrom at h ⊢
  obtain ⟨v1, h1⟩ := h
  refine ⟨v1, ?_⟩
  obtain ⟨v2, h2⟩ := h1
  refine ⟨v2, ?_⟩
  obtain ⟨v3, h3⟩ := h2
  refine ⟨v3, ?_⟩
  obtain ⟨v4, h4⟩ := h3
  refine ⟨v4, ?_⟩
  intro x5_5 g6 g7
  have h5 := h4 x5_5 g6 g7
  obtain ⟨n8, h8⟩ := h5
  refine ⟨n8, ?_⟩
  refine fmX7_mostFrom_L15 hQ _ _ _ _ Ks.rf h8
theorem fmX7_weigh_L15 {k1 : Nat} {p2 : Int} {X40 X40' : Int → Mem → Prop} {Q Q' : Int → Mem → Prop} {M0 : Mem} (hQ : ∀ (w0 : Int) (M' : Mem), Ks (fun k j => (170 ≤ k ∧ k ≤ 178) ∨ (k = 168 ∧ (j = 1))) M0 M' → Q w0 M' → Q' w0 M') (hX40 : ∀ (w0 : Int) (M' : Mem), Ks (fun k j => (170 ≤ k ∧ k ≤ 178) ∨ (k = 168 ∧ (j = 1))) M0 M' → X40 w0 M' → X40' w0 M') : ∀ (n : Nat) (v3 v4 : Int) (M : Mem), Ks (fun k j => (170 ≤ k ∧ k ≤ 178) ∨ (k = 168 ∧ (j = 1))) M0 M → qX7_weigh_L15 k1 p2 X40 Q n v3 v4 M → qX7_weigh_L15 k1 p2 X40' Q' n v3 v4 M := by
  intro n
  induction n with
  | zero => intro v3 v4 M _ h; exact h.elim
  | succ n ih =>
    intro v3 v4 M hF h
    rw [qX7_weigh_L15] at h
    rw [qX7_weigh_L15]
    obtain ⟨v1, h1⟩ := h
    refine ⟨v1, ?_⟩
    obtain ⟨v2, h2⟩ := h1
    refine ⟨v2, ?_⟩
    obtain ⟨h3, h4⟩ := h2
    refine ⟨?_, ?_⟩
    · intro g5
      have h6 := h3 g5
      exact hX40 _ _ hF h6
    · intro g7
      have h8 := h4 g7
      intro x7_9 g10 g11
      have h9 := h8 x7_9 g10 g11
      obtain ⟨v12, h12⟩ := h9
      refine ⟨v12, ?_⟩
      obtain ⟨v13, h13⟩ := h12
      refine ⟨v13, ?_⟩
      obtain ⟨v14, h14⟩ := h13
      refine ⟨v14, ?_⟩
      obtain ⟨v15, h15⟩ := h14
      refine ⟨v15, ?_⟩
      intro M12_16 eM12_16
      have h16 := h15 M12_16 eM12_16
      have F16 : Ks (fun k j => (170 ≤ k ∧ k ≤ 178) ∨ (k = 168 ∧ (j = 1))) M0 M12_16 := by rw [eM12_16]; exact (hF).wr (by omega)
      exact ih _ _ _ F16 h16
theorem fmX7_weigh_L56 {k1 : Nat} {p2 : Int} {X87 X87' : Int → Int → Mem → Prop} {Q Q' : Int → Mem → Prop} {M0 : Mem} (hQ : ∀ (w0 : Int) (M' : Mem), Ks (fun k j => (170 ≤ k ∧ k ≤ 178) ∨ (k = 168 ∧ (j = 1))) M0 M' → Q w0 M' → Q' w0 M') (hX87 : ∀ (w0 w1 : Int) (M' : Mem), Ks (fun k j => (170 ≤ k ∧ k ≤ 178) ∨ (k = 168 ∧ (j = 1))) M0 M' → X87 w0 w1 M' → X87' w0 w1 M') : ∀ (n : Nat) (v3 v4 v5 : Int) (M : Mem), Ks (fun k j => (170 ≤ k ∧ k ≤ 178) ∨ (k = 168 ∧ (j = 1))) M0 M → qX7_weigh_L56 k1 p2 X87 Q n v3 v4 v5 M → qX7_weigh_L56 k1 p2 X87' Q' n v3 v4 v5 M := by
  intro n
  induction n with
  | zero => intro v3 v4 v5 M _ h; exact h.elim
  | succ n ih =>
    intro v3 v4 v5 M hF h
    rw [qX7_weigh_L56] at h
    rw [qX7_weigh_L56]
    obtain ⟨v1, h1⟩ := h
    refine ⟨v1, ?_⟩
    obtain ⟨v2, h2⟩ := h1
    refine ⟨v2, ?_⟩
    obtain ⟨h3, h4⟩ := h2
    refine ⟨?_, ?_⟩
    · intro g5
      have h6 := h3 g5
      exact hX87 _ _ _ hF h6
    · intro g7
      have h8 := h4 g7
      obtain ⟨v9, h9⟩ := h8
      refine ⟨v9, ?_⟩
      obtain ⟨v10, h10⟩ := h9
      refine ⟨v10, ?_⟩
      obtain ⟨v11, h11⟩ := h10
      refine ⟨v11, ?_⟩
      refine fmX7_mostFrom h11 ?_
      intro x24_13 M24_14 f12 h12
      have F12 : Ks (fun k j => (170 ≤ k ∧ k ≤ 178) ∨ (k = 168 ∧ (j = 1))) M0 M24_14 := (hF).tr (f12.mono (fun _ _ h => False.elim h))
      intro g15
      have h16 := h12 g15
      obtain ⟨v17, h17⟩ := h16
      refine ⟨v17, ?_⟩
      obtain ⟨v18, h18⟩ := h17
      refine ⟨v18, ?_⟩
      intro M27_19 eM27_19
      have h19 := h18 M27_19 eM27_19
      have F19 : Ks (fun k j => (170 ≤ k ∧ k ≤ 178) ∨ (k = 168 ∧ (j = 1))) M0 M27_19 := by rw [eM27_19]; exact (F12).wr (by omega)
      exact ih _ _ _ _ F19 h19
theorem fmX7_weigh_L48 {k1 : Nat} {p2 : Int} {Q Q' : Int → Mem → Prop} {M0 : Mem} (hQ : ∀ (w0 : Int) (M' : Mem), Ks (fun k j => (170 ≤ k ∧ k ≤ 178) ∨ (k = 168 ∧ (j = 1))) M0 M' → Q w0 M' → Q' w0 M') : ∀ (n : Nat) (v3 v4 : Int) (M : Mem), Ks (fun k j => (170 ≤ k ∧ k ≤ 178) ∨ (k = 168 ∧ (j = 1))) M0 M → qX7_weigh_L48 k1 p2 Q n v3 v4 M → qX7_weigh_L48 k1 p2 Q' n v3 v4 M := by
  intro n
  induction n with
  | zero => intro v3 v4 M _ h; exact h.elim
  | succ n ih =>
    intro v3 v4 M hF h
    rw [qX7_weigh_L48] at h
    rw [qX7_weigh_L48]
    obtain ⟨v1, h1⟩ := h
    refine ⟨v1, ?_⟩
    obtain ⟨h2, h3⟩ := h1
    refine ⟨?_, ?_⟩
    · intro g4
      have h5 := h2 g4
      intro x17_6 g7 g8
      have h6 := h5 x17_6 g7 g8
      exact hQ _ _ hF h6
    · intro g9
      have h10 := h3 g9
      obtain ⟨n11, h11⟩ := h10
      refine ⟨n11, ?_⟩
      refine fmX7_weigh_L56 hQ ?_ _ _ _ _ _ hF h11
      · intro v3_13 v4_14 M_15 F12 h12
        exact ih _ _ _ F12 h12
theorem fmX7_weigh {k1 : Nat} {p2 : Int} {M : Mem} {Q Q' : Int → Mem → Prop} (h : qX7_weigh k1 p2 M Q) (hQ : ∀ (w0 : Int) (M' : Mem), Ks (fun k j => (170 ≤ k ∧ k ≤ 178) ∨ (k = 168 ∧ (j = 1))) M M' → Q w0 M' → Q' w0 M') : qX7_weigh k1 p2 M Q' := by
  unfold qX7_weigh at h ⊢
  intro M1_1 eM1_1
  have h1 := h M1_1 eM1_1
  have F1 : Ks (fun k j => (170 ≤ k ∧ k ≤ 178) ∨ (k = 168 ∧ (j = 1))) M M1_1 := by rw [eM1_1]; exact (Ks.rf).wr (mw_92)
  intro x2_2 g3 g4
  have h2 := h1 x2_2 g3 g4
  intro x3_5 g6 g7
  have h5 := h2 x3_5 g6 g7
  obtain ⟨n8, h8⟩ := h5
  refine ⟨n8, ?_⟩
  refine fmX7_weigh_L15 hQ ?_ _ _ _ _ F1 h8
  · intro v3_10 M_11 F9 h9
    intro x14_12 g13 g14
    have h12 := h9 x14_12 g13 g14
    obtain ⟨n15, h15⟩ := h12
    refine ⟨n15, ?_⟩
    refine fmX7_weigh_L48 hQ _ _ _ _ F9 h15
theorem fmX11_shares_L37 {p1 : Int} {Q Q' : Int → Mem → Prop} {M0 : Mem} (hQ : ∀ (w0 : Int) (M' : Mem), Ks (fun k j => k = 0 ∨ (170 ≤ k ∧ k ≤ 178) ∨ (k = 167 ∧ (j = 1)) ∨ (k = 168 ∧ (j = 1))) M0 M' → Q w0 M' → Q' w0 M') : ∀ (n : Nat) (v2 v3 v4 : Int) (M : Mem), Ks (fun k j => k = 0 ∨ (170 ≤ k ∧ k ≤ 178) ∨ (k = 167 ∧ (j = 1)) ∨ (k = 168 ∧ (j = 1))) M0 M → qX11_shares_L37 p1 Q n v2 v3 v4 M → qX11_shares_L37 p1 Q' n v2 v3 v4 M := by
  intro n
  induction n with
  | zero => intro v2 v3 v4 M _ h; exact h.elim
  | succ n ih =>
    intro v2 v3 v4 M hF h
    rw [qX11_shares_L37] at h
    rw [qX11_shares_L37]
    intro x5_1 g2 g3
    have h1 := h x5_1 g2 g3
    obtain ⟨v4, h4⟩ := h1
    refine ⟨v4, ?_⟩
    obtain ⟨h5, h6⟩ := h4
    refine ⟨?_, ?_⟩
    · intro g7
      have h8 := h5 g7
      obtain ⟨v9, h9⟩ := h8
      refine ⟨v9, ?_⟩
      exact hQ _ _ hF h9
    · intro g10
      have h11 := h6 g10
      obtain ⟨v12, h12⟩ := h11
      refine ⟨v12, ?_⟩
      refine fmX7_choice h12 ?_
      intro x10_14 M10_15 f13 h13
      have F13 : Ks (fun k j => k = 0 ∨ (170 ≤ k ∧ k ≤ 178) ∨ (k = 167 ∧ (j = 1)) ∨ (k = 168 ∧ (j = 1))) M0 M10_15 := (hF).tr (f13.mono (fun _ _ h => False.elim h))
      intro g16
      have h17 := h13 g16
      obtain ⟨h18, h19⟩ := h17
      refine ⟨?_, ?_⟩
      · intro g20
        have h21 := h18 g20
        intro x12_22 g23 g24
        have h22 := h21 x12_22 g23 g24
        unfold qX11_shares_J80 at h22 ⊢
        intro x13_25 g26 g27
        have h25 := h22 x13_25 g26 g27
        obtain ⟨v28, h28⟩ := h25
        refine ⟨v28, ?_⟩
        refine fmX4_add h28 ?_
        intro M15_30 f29 h29
        have F29 : Ks (fun k j => k = 0 ∨ (170 ≤ k ∧ k ≤ 178) ∨ (k = 167 ∧ (j = 1)) ∨ (k = 168 ∧ (j = 1))) M0 M15_30 := (F13).tr (f29.mono (mo_108))
        exact ih _ _ _ _ F29 h29
      · intro g31
        have h32 := h19 g31
        unfold qX11_shares_J80 at h32 ⊢
        intro x13_33 g34 g35
        have h33 := h32 x13_33 g34 g35
        obtain ⟨v36, h36⟩ := h33
        refine ⟨v36, ?_⟩
        refine fmX4_add h36 ?_
        intro M15_38 f37 h37
        have F37 : Ks (fun k j => k = 0 ∨ (170 ≤ k ∧ k ≤ 178) ∨ (k = 167 ∧ (j = 1)) ∨ (k = 168 ∧ (j = 1))) M0 M15_38 := (F13).tr (f37.mono (mo_108))
        exact ih _ _ _ _ F37 h37
theorem fmX11_shares {p1 : Int} {M : Mem} {Q Q' : Int → Mem → Prop} (h : qX11_shares p1 M Q) (hQ : ∀ (w0 : Int) (M' : Mem), Ks (fun k j => k = 0 ∨ (170 ≤ k ∧ k ≤ 178) ∨ (k = 167 ∧ (j = 1)) ∨ (k = 168 ∧ (j = 1))) M M' → Q w0 M' → Q' w0 M') : qX11_shares p1 M Q' := by
  unfold qX11_shares at h ⊢
  obtain ⟨h1, h2⟩ := h
  refine ⟨?_, ?_⟩
  · intro g3
    have h4 := h1 g3
    exact hQ _ _ Ks.rf h4
  · intro g5
    have h6 := h2 g5
    obtain ⟨h7, h8⟩ := h6
    refine ⟨?_, ?_⟩
    · intro g9
      have h10 := h7 g9
      refine fmX7_weigh h10 ?_
      intro x3_12 M3_13 f11 h11
      have F11 : Ks (fun k j => k = 0 ∨ (170 ≤ k ∧ k ≤ 178) ∨ (k = 167 ∧ (j = 1)) ∨ (k = 168 ∧ (j = 1))) M M3_13 := (Ks.rf).tr (f11.mono (mo_109))
      intro g14
      have h15 := h11 g14
      refine fmX4_clear h15 ?_
      intro M4_17 f16 h16
      have F16 : Ks (fun k j => k = 0 ∨ (170 ≤ k ∧ k ≤ 178) ∨ (k = 167 ∧ (j = 1)) ∨ (k = 168 ∧ (j = 1))) M M4_17 := (F11).tr (f16.mono (mo_110))
      obtain ⟨n18, h18⟩ := h16
      refine ⟨n18, ?_⟩
      refine fmX11_shares_L37 hQ _ _ _ _ _ F16 h18
    · intro g19
      have h20 := h8 g19
      exact hQ _ _ Ks.rf h20
theorem fmX11_strangers_L20  {X136 X136' : Int → Int → Mem → Prop} {Q Q' : Int → Mem → Prop} {M0 : Mem} (hQ : ∀ (w0 : Int) (M' : Mem), Ks (fun k j => k = 0 ∨ (k = 167 ∧ (j = 1))) M0 M' → Q w0 M' → Q' w0 M') (hX136 : ∀ (w0 w1 : Int) (M' : Mem), Ks (fun k j => k = 0 ∨ (k = 167 ∧ (j = 1))) M0 M' → X136 w0 w1 M' → X136' w0 w1 M') : ∀ (n : Nat) (v1 v2 v3 : Int) (M : Mem), Ks (fun k j => k = 0 ∨ (k = 167 ∧ (j = 1))) M0 M → qX11_strangers_L20 X136 Q n v1 v2 v3 M → qX11_strangers_L20 X136' Q' n v1 v2 v3 M := by
  intro n
  induction n with
  | zero => intro v1 v2 v3 M _ h; exact h.elim
  | succ n ih =>
    intro v1 v2 v3 M hF h
    rw [qX11_strangers_L20] at h
    rw [qX11_strangers_L20]
    intro x4_1 g2 g3
    have h1 := h x4_1 g2 g3
    obtain ⟨v4, h4⟩ := h1
    refine ⟨v4, ?_⟩
    obtain ⟨h5, h6⟩ := h4
    refine ⟨?_, ?_⟩
    · intro g7
      have h8 := h5 g7
      exact hX136 _ _ _ hF h8
    · intro g9
      have h10 := h6 g9
      obtain ⟨v11, h11⟩ := h10
      refine ⟨v11, ?_⟩
      refine fmX6_hasEnded h11 ?_
      intro x8_13 M8_14 f12 h12
      have F12 : Ks (fun k j => k = 0 ∨ (k = 167 ∧ (j = 1))) M0 M8_14 := (hF).tr (f12.mono (fun _ _ h => False.elim h))
      intro g15 g16
      have h17 := h12 g15 g16
      obtain ⟨h18, h19⟩ := h17
      refine ⟨?_, ?_⟩
      · intro g20
        have h21 := h18 g20
        unfold qX11_strangers_J78 at h21 ⊢
        unfold qX11_strangers_J79 at h21 ⊢
        obtain ⟨v22, h22⟩ := h21
        refine ⟨v22, ?_⟩
        obtain ⟨v23, h23⟩ := h22
        refine ⟨v23, ?_⟩
        intro x12_24 g25 g26
        have h24 := h23 x12_24 g25 g26
        obtain ⟨v27, h27⟩ := h24
        refine ⟨v27, ?_⟩
        obtain ⟨v28, h28⟩ := h27
        refine ⟨v28, ?_⟩
        intro x15_29 g30 g31
        have h29 := h28 x15_29 g30 g31
        obtain ⟨v32, h32⟩ := h29
        refine ⟨v32, ?_⟩
        intro x17_33 g34 g35
        have h33 := h32 x17_33 g34 g35
        obtain ⟨v36, h36⟩ := h33
        refine ⟨v36, ?_⟩
        obtain ⟨h37, h38⟩ := h36
        refine ⟨?_, ?_⟩
        · intro g39
          have h40 := h37 g39
          exact ih _ _ _ _ F12 h40
        · intro g41
          have h42 := h38 g41
          obtain ⟨v43, h43⟩ := h42
          refine ⟨v43, ?_⟩
          obtain ⟨v44, h44⟩ := h43
          refine ⟨v44, ?_⟩
          obtain ⟨h45, h46⟩ := h44
          refine ⟨?_, ?_⟩
          · intro g47
            have h48 := h45 g47
            exact ih _ _ _ _ F12 h48
          · intro g49
            have h50 := h46 g49
            obtain ⟨v51, h51⟩ := h50
            refine ⟨v51, ?_⟩
            obtain ⟨v52, h52⟩ := h51
            refine ⟨v52, ?_⟩
            refine fmX4_tellTwo h52 ?_
            intro M25_54 f53 h53
            have F53 : Ks (fun k j => k = 0 ∨ (k = 167 ∧ (j = 1))) M0 M25_54 := (F12).tr (f53.mono (fun _ _ h => h))
            exact ih _ _ _ _ F53 h53
      · intro g55
        have h56 := h19 g55
        refine fmX6_hasEnded h56 ?_
        intro x26_58 M26_59 f57 h57
        have F57 : Ks (fun k j => k = 0 ∨ (k = 167 ∧ (j = 1))) M0 M26_59 := (F12).tr (f57.mono (fun _ _ h => False.elim h))
        intro g60 g61
        have h62 := h57 g60 g61
        obtain ⟨h63, h64⟩ := h62
        refine ⟨?_, ?_⟩
        · intro g65
          have h66 := h63 g65
          unfold qX11_strangers_J78 at h66 ⊢
          unfold qX11_strangers_J79 at h66 ⊢
          obtain ⟨v67, h67⟩ := h66
          refine ⟨v67, ?_⟩
          obtain ⟨v68, h68⟩ := h67
          refine ⟨v68, ?_⟩
          intro x12_69 g70 g71
          have h69 := h68 x12_69 g70 g71
          obtain ⟨v72, h72⟩ := h69
          refine ⟨v72, ?_⟩
          obtain ⟨v73, h73⟩ := h72
          refine ⟨v73, ?_⟩
          intro x15_74 g75 g76
          have h74 := h73 x15_74 g75 g76
          obtain ⟨v77, h77⟩ := h74
          refine ⟨v77, ?_⟩
          intro x17_78 g79 g80
          have h78 := h77 x17_78 g79 g80
          obtain ⟨v81, h81⟩ := h78
          refine ⟨v81, ?_⟩
          obtain ⟨h82, h83⟩ := h81
          refine ⟨?_, ?_⟩
          · intro g84
            have h85 := h82 g84
            exact ih _ _ _ _ F57 h85
          · intro g86
            have h87 := h83 g86
            obtain ⟨v88, h88⟩ := h87
            refine ⟨v88, ?_⟩
            obtain ⟨v89, h89⟩ := h88
            refine ⟨v89, ?_⟩
            obtain ⟨h90, h91⟩ := h89
            refine ⟨?_, ?_⟩
            · intro g92
              have h93 := h90 g92
              exact ih _ _ _ _ F57 h93
            · intro g94
              have h95 := h91 g94
              obtain ⟨v96, h96⟩ := h95
              refine ⟨v96, ?_⟩
              obtain ⟨v97, h97⟩ := h96
              refine ⟨v97, ?_⟩
              refine fmX4_tellTwo h97 ?_
              intro M25_99 f98 h98
              have F98 : Ks (fun k j => k = 0 ∨ (k = 167 ∧ (j = 1))) M0 M25_99 := (F57).tr (f98.mono (fun _ _ h => h))
              exact ih _ _ _ _ F98 h98
        · intro g100
          have h101 := h64 g100
          obtain ⟨v102, h102⟩ := h101
          refine ⟨v102, ?_⟩
          obtain ⟨v103, h103⟩ := h102
          refine ⟨v103, ?_⟩
          intro x30_104 g105 g106
          have h104 := h103 x30_104 g105 g106
          obtain ⟨v107, h107⟩ := h104
          refine ⟨v107, ?_⟩
          obtain ⟨v108, h108⟩ := h107
          refine ⟨v108, ?_⟩
          intro x33_109 g110 g111
          have h109 := h108 x33_109 g110 g111
          obtain ⟨h112, h113⟩ := h109
          refine ⟨?_, ?_⟩
          · intro g114
            have h115 := h112 g114
            unfold qX11_strangers_J78 at h115 ⊢
            unfold qX11_strangers_J79 at h115 ⊢
            obtain ⟨v116, h116⟩ := h115
            refine ⟨v116, ?_⟩
            obtain ⟨v117, h117⟩ := h116
            refine ⟨v117, ?_⟩
            intro x12_118 g119 g120
            have h118 := h117 x12_118 g119 g120
            obtain ⟨v121, h121⟩ := h118
            refine ⟨v121, ?_⟩
            obtain ⟨v122, h122⟩ := h121
            refine ⟨v122, ?_⟩
            intro x15_123 g124 g125
            have h123 := h122 x15_123 g124 g125
            obtain ⟨v126, h126⟩ := h123
            refine ⟨v126, ?_⟩
            intro x17_127 g128 g129
            have h127 := h126 x17_127 g128 g129
            obtain ⟨v130, h130⟩ := h127
            refine ⟨v130, ?_⟩
            obtain ⟨h131, h132⟩ := h130
            refine ⟨?_, ?_⟩
            · intro g133
              have h134 := h131 g133
              exact ih _ _ _ _ F57 h134
            · intro g135
              have h136 := h132 g135
              obtain ⟨v137, h137⟩ := h136
              refine ⟨v137, ?_⟩
              obtain ⟨v138, h138⟩ := h137
              refine ⟨v138, ?_⟩
              obtain ⟨h139, h140⟩ := h138
              refine ⟨?_, ?_⟩
              · intro g141
                have h142 := h139 g141
                exact ih _ _ _ _ F57 h142
              · intro g143
                have h144 := h140 g143
                obtain ⟨v145, h145⟩ := h144
                refine ⟨v145, ?_⟩
                obtain ⟨v146, h146⟩ := h145
                refine ⟨v146, ?_⟩
                refine fmX4_tellTwo h146 ?_
                intro M25_148 f147 h147
                have F147 : Ks (fun k j => k = 0 ∨ (k = 167 ∧ (j = 1))) M0 M25_148 := (F57).tr (f147.mono (fun _ _ h => h))
                exact ih _ _ _ _ F147 h147
          · intro g149
            have h150 := h113 g149
            unfold qX11_strangers_J79 at h150 ⊢
            obtain ⟨v151, h151⟩ := h150
            refine ⟨v151, ?_⟩
            obtain ⟨v152, h152⟩ := h151
            refine ⟨v152, ?_⟩
            intro x12_153 g154 g155
            have h153 := h152 x12_153 g154 g155
            obtain ⟨v156, h156⟩ := h153
            refine ⟨v156, ?_⟩
            obtain ⟨v157, h157⟩ := h156
            refine ⟨v157, ?_⟩
            intro x15_158 g159 g160
            have h158 := h157 x15_158 g159 g160
            obtain ⟨v161, h161⟩ := h158
            refine ⟨v161, ?_⟩
            intro x17_162 g163 g164
            have h162 := h161 x17_162 g163 g164
            obtain ⟨v165, h165⟩ := h162
            refine ⟨v165, ?_⟩
            obtain ⟨h166, h167⟩ := h165
            refine ⟨?_, ?_⟩
            · intro g168
              have h169 := h166 g168
              exact ih _ _ _ _ F57 h169
            · intro g170
              have h171 := h167 g170
              obtain ⟨v172, h172⟩ := h171
              refine ⟨v172, ?_⟩
              obtain ⟨v173, h173⟩ := h172
              refine ⟨v173, ?_⟩
              obtain ⟨h174, h175⟩ := h173
              refine ⟨?_, ?_⟩
              · intro g176
                have h177 := h174 g176
                exact ih _ _ _ _ F57 h177
              · intro g178
                have h179 := h175 g178
                obtain ⟨v180, h180⟩ := h179
                refine ⟨v180, ?_⟩
                obtain ⟨v181, h181⟩ := h180
                refine ⟨v181, ?_⟩
                refine fmX4_tellTwo h181 ?_
                intro M25_183 f182 h182
                have F182 : Ks (fun k j => k = 0 ∨ (k = 167 ∧ (j = 1))) M0 M25_183 := (F57).tr (f182.mono (fun _ _ h => h))
                exact ih _ _ _ _ F182 h182
theorem fmX11_strangers_L5  {X142 X142' : Int → Mem → Prop} {Q Q' : Int → Mem → Prop} {M0 : Mem} (hQ : ∀ (w0 : Int) (M' : Mem), Ks (fun k j => k = 0 ∨ (k = 167 ∧ (j = 1))) M0 M' → Q w0 M' → Q' w0 M') (hX142 : ∀ (w0 : Int) (M' : Mem), Ks (fun k j => k = 0 ∨ (k = 167 ∧ (j = 1))) M0 M' → X142 w0 M' → X142' w0 M') : ∀ (n : Nat) (v1 v2 : Int) (M : Mem), Ks (fun k j => k = 0 ∨ (k = 167 ∧ (j = 1))) M0 M → qX11_strangers_L5 X142 Q n v1 v2 M → qX11_strangers_L5 X142' Q' n v1 v2 M := by
  intro n
  induction n with
  | zero => intro v1 v2 M _ h; exact h.elim
  | succ n ih =>
    intro v1 v2 M hF h
    rw [qX11_strangers_L5] at h
    rw [qX11_strangers_L5]
    intro x1_1 g2 g3
    have h1 := h x1_1 g2 g3
    obtain ⟨v4, h4⟩ := h1
    refine ⟨v4, ?_⟩
    obtain ⟨h5, h6⟩ := h4
    refine ⟨?_, ?_⟩
    · intro g7
      have h8 := h5 g7
      exact hX142 _ _ hF h8
    · intro g9
      have h10 := h6 g9
      obtain ⟨n11, h11⟩ := h10
      refine ⟨n11, ?_⟩
      refine fmX11_strangers_L20 hQ ?_ _ _ _ _ _ hF h11
      · intro v1_13 v2_14 M_15 F12 h12
        exact ih _ _ _ F12 h12
theorem fmX11_strangers  {M : Mem} {Q Q' : Int → Mem → Prop} (h : qX11_strangers M Q) (hQ : ∀ (w0 : Int) (M' : Mem), Ks (fun k j => k = 0 ∨ (k = 167 ∧ (j = 1))) M M' → Q w0 M' → Q' w0 M') : qX11_strangers M Q' := by
  unfold qX11_strangers at h ⊢
  obtain ⟨n1, h1⟩ := h
  refine ⟨n1, ?_⟩
  refine fmX11_strangers_L5 hQ ?_ _ _ _ _ Ks.rf h1
  · intro v1_3 M_4 F2 h2
    obtain ⟨v5, h5⟩ := h2
    refine ⟨v5, ?_⟩
    obtain ⟨h6, h7⟩ := h5
    refine ⟨?_, ?_⟩
    · intro g8
      have h9 := h6 g8
      exact hQ _ _ F2 h9
    · intro g10
      have h11 := h7 g10
      exact hQ _ _ F2 h11
theorem fmX6_isInDoubt {k0 : Nat} {p1 : Int} {M : Mem} {Q Q' : Int → Mem → Prop} (h : qX6_isInDoubt k0 p1 M Q) (hQ : ∀ (w0 : Int) (M' : Mem), Ks (fun _ _ => False) M M' → Q w0 M' → Q' w0 M') : qX6_isInDoubt k0 p1 M Q' := by
  unfold qX6_isInDoubt at h ⊢
  obtain ⟨v1, h1⟩ := h
  refine ⟨v1, ?_⟩
  obtain ⟨v2, h2⟩ := h1
  refine ⟨v2, ?_⟩
  intro x3_3 g4 g5
  have h3 := h2 x3_3 g4 g5
  refine fmX6_nearestTo h3 ?_
  intro x4_7 M4_8 f6 h6
  have F6 : Ks (fun _ _ => False) M M4_8 := (Ks.rf).tr (f6.mono (fun _ _ h => False.elim h))
  intro g9
  have h10 := h6 g9
  obtain ⟨h11, h12⟩ := h10
  refine ⟨?_, ?_⟩
  · intro g13
    have h14 := h11 g13
    obtain ⟨v15, h15⟩ := h14
    refine ⟨v15, ?_⟩
    obtain ⟨v16, h16⟩ := h15
    refine ⟨v16, ?_⟩
    intro x8_17 g18 g19
    have h17 := h16 x8_17 g18 g19
    obtain ⟨v20, h20⟩ := h17
    refine ⟨v20, ?_⟩
    obtain ⟨h21, h22⟩ := h20
    refine ⟨?_, ?_⟩
    · intro g23
      have h24 := h21 g23
      exact hQ _ _ F6 h24
    · intro g25
      have h26 := h22 g25
      intro x11_27 g28 g29
      have h27 := h26 x11_27 g28 g29
      obtain ⟨h30, h31⟩ := h27
      refine ⟨?_, ?_⟩
      · intro g32
        have h33 := h30 g32
        exact hQ _ _ F6 h33
      · intro g34
        have h35 := h31 g34
        refine fmX6_hearseOn h35 ?_
        intro x13_37 M13_38 f36 h36
        have F36 : Ks (fun _ _ => False) M M13_38 := (F6).tr (f36.mono (fun _ _ h => False.elim h))
        intro g39
        have h40 := h36 g39
        obtain ⟨h41, h42⟩ := h40
        refine ⟨?_, ?_⟩
        · intro g43
          have h44 := h41 g43
          exact hQ _ _ F36 h44
        · intro g45
          have h46 := h42 g45
          exact hQ _ _ F36 h46
  · intro g47
    have h48 := h12 g47
    exact hQ _ _ F6 h48
theorem fmX11_doubts_L4  {X42 X42' : Int → Mem → Prop} {Q Q' : Int → Mem → Prop} {M0 : Mem} (hQ : ∀ (w0 : Int) (M' : Mem), Ks (fun k j => k = 0 ∨ (k = 167 ∧ (j = 1))) M0 M' → Q w0 M' → Q' w0 M') (hX42 : ∀ (w0 : Int) (M' : Mem), Ks (fun k j => k = 0 ∨ (k = 167 ∧ (j = 1))) M0 M' → X42 w0 M' → X42' w0 M') : ∀ (n : Nat) (v1 v2 : Int) (M : Mem), Ks (fun k j => k = 0 ∨ (k = 167 ∧ (j = 1))) M0 M → qX11_doubts_L4 X42 Q n v1 v2 M → qX11_doubts_L4 X42' Q' n v1 v2 M := by
  intro n
  induction n with
  | zero => intro v1 v2 M _ h; exact h.elim
  | succ n ih =>
    intro v1 v2 M hF h
    rw [qX11_doubts_L4] at h
    rw [qX11_doubts_L4]
    intro x1_1 g2 g3
    have h1 := h x1_1 g2 g3
    obtain ⟨v4, h4⟩ := h1
    refine ⟨v4, ?_⟩
    obtain ⟨h5, h6⟩ := h4
    refine ⟨?_, ?_⟩
    · intro g7
      have h8 := h5 g7
      exact hX42 _ _ hF h8
    · intro g9
      have h10 := h6 g9
      refine fmX6_isInDoubt h10 ?_
      intro x4_12 M4_13 f11 h11
      have F11 : Ks (fun k j => k = 0 ∨ (k = 167 ∧ (j = 1))) M0 M4_13 := (hF).tr (f11.mono (fun _ _ h => False.elim h))
      intro g14 g15
      have h16 := h11 g14 g15
      obtain ⟨h17, h18⟩ := h16
      refine ⟨?_, ?_⟩
      · intro g19
        have h20 := h17 g19
        intro x6_21 g22 g23
        have h21 := h20 x6_21 g22 g23
        exact ih _ _ _ F11 h21
      · intro g24
        have h25 := h18 g24
        intro x7_26 g27 g28
        have h26 := h25 x7_26 g27 g28
        intro x8_29 g30 g31
        have h29 := h26 x8_29 g30 g31
        exact ih _ _ _ F11 h29
theorem fmX11_doubts  {M : Mem} {Q Q' : Int → Mem → Prop} (h : qX11_doubts M Q) (hQ : ∀ (w0 : Int) (M' : Mem), Ks (fun k j => k = 0 ∨ (k = 167 ∧ (j = 1))) M M' → Q w0 M' → Q' w0 M') : qX11_doubts M Q' := by
  unfold qX11_doubts at h ⊢
  obtain ⟨n1, h1⟩ := h
  refine ⟨n1, ?_⟩
  refine fmX11_doubts_L4 hQ ?_ _ _ _ _ Ks.rf h1
  · intro v1_3 M_4 F2 h2
    obtain ⟨v5, h5⟩ := h2
    refine ⟨v5, ?_⟩
    refine fmJ6_bitCount_0f7a4 h5 ?_
    intro x11_7 M11_8 f6 h6
    have F6 : Ks (fun k j => k = 0 ∨ (k = 167 ∧ (j = 1))) M M11_8 := (F2).tr (f6.mono (fun _ _ h => False.elim h))
    intro g9
    have h10 := h6 g9
    refine fmX4_tellOne h10 ?_
    intro M12_12 f11 h11
    have F11 : Ks (fun k j => k = 0 ∨ (k = 167 ∧ (j = 1))) M M12_12 := (F6).tr (f11.mono (fun _ _ h => h))
    exact hQ _ _ F11 h11
theorem fmX0_canBe {p0 : Int} {p1 : Int} {M : Mem} {Q Q' : Int → Mem → Prop} (h : qX0_canBe p0 p1 M Q) (hQ : ∀ (w0 : Int) (M' : Mem), Ks (fun _ _ => False) M M' → Q w0 M' → Q' w0 M') : qX0_canBe p0 p1 M Q' := by
  unfold qX0_canBe at h ⊢
  obtain ⟨h1, h2, h3, h4, h5⟩ := h
  refine ⟨?_, ?_, ?_, ?_, ?_⟩
  · intro g6
    have h7 := h1 g6
    obtain ⟨h8, h9⟩ := h7
    refine ⟨?_, ?_⟩
    · intro g10
      have h11 := h8 g10
      exact hQ _ _ Ks.rf h11
    · intro g12
      have h13 := h9 g12
      obtain ⟨h14, h15⟩ := h13
      refine ⟨?_, ?_⟩
      · intro g16
        have h17 := h14 g16
        exact hQ _ _ Ks.rf h17
      · intro g18
        have h19 := h15 g18
        exact hQ _ _ Ks.rf h19
  · intro g20
    have h21 := h2 g20
    obtain ⟨h22, h23⟩ := h21
    refine ⟨?_, ?_⟩
    · intro g24
      have h25 := h22 g24
      exact hQ _ _ Ks.rf h25
    · intro g26
      have h27 := h23 g26
      obtain ⟨h28, h29⟩ := h27
      refine ⟨?_, ?_⟩
      · intro g30
        have h31 := h28 g30
        exact hQ _ _ Ks.rf h31
      · intro g32
        have h33 := h29 g32
        exact hQ _ _ Ks.rf h33
  · intro g34
    have h35 := h3 g34
    obtain ⟨h36, h37⟩ := h35
    refine ⟨?_, ?_⟩
    · intro g38
      have h39 := h36 g38
      exact hQ _ _ Ks.rf h39
    · intro g40
      have h41 := h37 g40
      obtain ⟨h42, h43⟩ := h41
      refine ⟨?_, ?_⟩
      · intro g44
        have h45 := h42 g44
        exact hQ _ _ Ks.rf h45
      · intro g46
        have h47 := h43 g46
        exact hQ _ _ Ks.rf h47
  · intro g48
    have h49 := h4 g48
    obtain ⟨h50, h51⟩ := h49
    refine ⟨?_, ?_⟩
    · intro g52
      have h53 := h50 g52
      exact hQ _ _ Ks.rf h53
    · intro g54
      have h55 := h51 g54
      obtain ⟨h56, h57⟩ := h55
      refine ⟨?_, ?_⟩
      · intro g58
        have h59 := h56 g58
        exact hQ _ _ Ks.rf h59
      · intro g60
        have h61 := h57 g60
        exact hQ _ _ Ks.rf h61
  · intro g62
    have h63 := h5 g62
    exact hQ _ _ Ks.rf h63
theorem fmX0_add {p1 : Int} {p2 : Int} {M : Mem} {Q Q' : Int → Mem → Prop} (h : qX0_add p1 p2 M Q) (hQ : ∀ (w0 : Int) (M' : Mem), Ks (fun k j => (183 ≤ k ∧ k ≤ 184) ∨ (k = 182 ∧ (j = 2))) M M' → Q w0 M' → Q' w0 M') : qX0_add p1 p2 M Q' := by
  unfold qX0_add at h ⊢
  intro x1_1 g2 g3
  have h1 := h x1_1 g2 g3
  obtain ⟨h4, h5⟩ := h1
  refine ⟨?_, ?_⟩
  · intro g6
    have h7 := h4 g6
    exact hQ _ _ Ks.rf h7
  · intro g8
    have h9 := h5 g8
    refine fmX0_canBe h9 ?_
    intro x3_11 M3_12 f10 h10
    have F10 : Ks (fun k j => (183 ≤ k ∧ k ≤ 184) ∨ (k = 182 ∧ (j = 2))) M M3_12 := (Ks.rf).tr (f10.mono (fun _ _ h => False.elim h))
    intro g13 g14
    have h15 := h10 g13 g14
    obtain ⟨h16, h17⟩ := h15
    refine ⟨?_, ?_⟩
    · intro g18
      have h19 := h16 g18
      intro x5_20 g21 g22
      have h20 := h19 x5_20 g21 g22
      obtain ⟨v23, h23⟩ := h20
      refine ⟨v23, ?_⟩
      obtain ⟨v24, h24⟩ := h23
      refine ⟨v24, ?_⟩
      intro M8_25 eM8_25
      have h25 := h24 M8_25 eM8_25
      have F25 : Ks (fun k j => (183 ≤ k ∧ k ≤ 184) ∨ (k = 182 ∧ (j = 2))) M M8_25 := by rw [eM8_25]; exact (F10).wr (mw_93 _)
      intro x9_26 g27 g28
      have h26 := h25 x9_26 g27 g28
      obtain ⟨v29, h29⟩ := h26
      refine ⟨v29, ?_⟩
      obtain ⟨v30, h30⟩ := h29
      refine ⟨v30, ?_⟩
      intro M12_31 eM12_31
      have h31 := h30 M12_31 eM12_31
      have F31 : Ks (fun k j => (183 ≤ k ∧ k ≤ 184) ∨ (k = 182 ∧ (j = 2))) M M12_31 := by rw [eM12_31]; exact (F25).wr (mw_94 _)
      intro x13_32 g33 g34
      have h32 := h31 x13_32 g33 g34
      obtain ⟨v35, h35⟩ := h32
      refine ⟨v35, ?_⟩
      intro M15_36 eM15_36
      have h36 := h35 M15_36 eM15_36
      have F36 : Ks (fun k j => (183 ≤ k ∧ k ≤ 184) ∨ (k = 182 ∧ (j = 2))) M M15_36 := by rw [eM15_36]; exact (F31).wr (mw_95)
      exact hQ _ _ F36 h36
    · intro g37
      have h38 := h17 g37
      exact hQ _ _ F10 h38
theorem fmX11_heard {p1 : Int} {p2 : Int} {M : Mem} {Q Q' : Int → Mem → Prop} (h : qX11_heard p1 p2 M Q) (hQ : ∀ (w0 : Int) (M' : Mem), Ks (fun k j => (183 ≤ k ∧ k ≤ 184) ∨ (k = 182 ∧ (j = 2))) M M' → Q w0 M' → Q' w0 M') : qX11_heard p1 p2 M Q' := by
  unfold qX11_heard at h ⊢
  refine fmX0_add h ?_
  intro x1_2 M1_3 f1 h1
  have F1 : Ks (fun k j => (183 ≤ k ∧ k ≤ 184) ∨ (k = 182 ∧ (j = 2))) M M1_3 := (Ks.rf).tr (f1.mono (fun _ _ h => h))
  intro g4 g5
  have h6 := h1 g4 g5
  obtain ⟨h7, h8⟩ := h6
  refine ⟨?_, ?_⟩
  · intro g9
    have h10 := h7 g9
    exact hQ _ _ F1 h10
  · intro g11
    have h12 := h8 g11
    intro x3_13 g14 g15
    have h13 := h12 x3_13 g14 g15
    exact hQ _ _ F1 h13
theorem fmX11_forget  {M : Mem} {Q Q' : Int → Mem → Prop} (h : qX11_forget M Q) (hQ : ∀ (w0 : Int) (M' : Mem), Ks (fun k j => (k = 182 ∧ (j = 2))) M M' → Q w0 M' → Q' w0 M') : qX11_forget M Q' := by
  unfold qX11_forget at h ⊢
  intro x1_1 g2 g3
  have h1 := h x1_1 g2 g3
  intro M2_4 eM2_4
  have h4 := h1 M2_4 eM2_4
  have F4 : Ks (fun k j => (k = 182 ∧ (j = 2))) M M2_4 := by rw [eM2_4]; exact (Ks.rf).wr (mw_96)
  exact hQ _ _ F4 h4
theorem fmX0_isOneTrueOf {k1 : Nat} {p2 : Int} {p3 : Int} {M : Mem} {Q Q' : Int → Mem → Prop} (h : qX0_isOneTrueOf k1 p2 p3 M Q) (hQ : ∀ (w0 : Int) (M' : Mem), Ks (fun _ _ => False) M M' → Q w0 M' → Q' w0 M') : qX0_isOneTrueOf k1 p2 p3 M Q' := by
  unfold qX0_isOneTrueOf at h ⊢
  obtain ⟨v1, h1⟩ := h
  refine ⟨v1, ?_⟩
  obtain ⟨v2, h2⟩ := h1
  refine ⟨v2, ?_⟩
  intro x3_3 g4 g5
  have h3 := h2 x3_3 g4 g5
  obtain ⟨h6, h7, h8, h9⟩ := h3
  refine ⟨?_, ?_, ?_, ?_⟩
  · intro g10
    have h11 := h6 g10
    refine fmX6_bitsOf h11 ?_
    intro x5_13 M5_14 f12 h12
    have F12 : Ks (fun _ _ => False) M M5_14 := (Ks.rf).tr (f12.mono (fun _ _ h => False.elim h))
    intro g15
    have h16 := h12 g15
    refine fmJ6_bitCount_0f7a4 h16 ?_
    intro x6_18 M6_19 f17 h17
    have F17 : Ks (fun _ _ => False) M M6_19 := (F12).tr (f17.mono (fun _ _ h => False.elim h))
    intro g20
    have h21 := h17 g20
    intro x7_22 g23 g24
    have h22 := h21 x7_22 g23 g24
    obtain ⟨h25, h26⟩ := h22
    refine ⟨?_, ?_⟩
    · intro g27
      have h28 := h25 g27
      exact hQ _ _ F17 h28
    · intro g29
      have h30 := h26 g29
      exact hQ _ _ F17 h30
  · intro g31
    have h32 := h7 g31
    obtain ⟨v33, h33⟩ := h32
    refine ⟨v33, ?_⟩
    obtain ⟨v34, h34⟩ := h33
    refine ⟨v34, ?_⟩
    intro x11_35 g36 g37
    have h35 := h34 x11_35 g36 g37
    intro x12_38 g39 g40
    have h38 := h35 x12_38 g39 g40
    obtain ⟨h41, h42⟩ := h38
    refine ⟨?_, ?_⟩
    · intro g43
      have h44 := h41 g43
      exact hQ _ _ Ks.rf h44
    · intro g45
      have h46 := h42 g45
      exact hQ _ _ Ks.rf h46
  · intro g47
    have h48 := h8 g47
    refine fmX6_bitsOf h48 ?_
    intro x14_50 M14_51 f49 h49
    have F49 : Ks (fun _ _ => False) M M14_51 := (Ks.rf).tr (f49.mono (fun _ _ h => False.elim h))
    intro g52
    have h53 := h49 g52
    refine fmJ6_bitCount_0f7a4 h53 ?_
    intro x15_55 M15_56 f54 h54
    have F54 : Ks (fun _ _ => False) M M15_56 := (F49).tr (f54.mono (fun _ _ h => False.elim h))
    intro g57
    have h58 := h54 g57
    intro x16_59 g60 g61
    have h59 := h58 x16_59 g60 g61
    obtain ⟨h62, h63⟩ := h59
    refine ⟨?_, ?_⟩
    · intro g64
      have h65 := h62 g64
      exact hQ _ _ F54 h65
    · intro g66
      have h67 := h63 g66
      exact hQ _ _ F54 h67
  · intro g68
    have h69 := h9 g68
    intro x18_70 g71 g72
    have h70 := h69 x18_70 g71 g72
    intro x19_73 g74 g75
    have h73 := h70 x19_73 g74 g75
    obtain ⟨h76, h77⟩ := h73
    refine ⟨?_, ?_⟩
    · intro g78
      have h79 := h76 g78
      exact hQ _ _ Ks.rf h79
    · intro g80
      have h81 := h77 g80
      exact hQ _ _ Ks.rf h81
theorem fmX0_isTrueOf_L2 {k1 : Nat} {p2 : Int} {Q Q' : Int → Mem → Prop} {M0 : Mem} (hQ : ∀ (w0 : Int) (M' : Mem), Ks (fun _ _ => False) M0 M' → Q w0 M' → Q' w0 M') : ∀ (n : Nat) (v3 : Int) (M : Mem), Ks (fun _ _ => False) M0 M → qX0_isTrueOf_L2 k1 p2 Q n v3 M → qX0_isTrueOf_L2 k1 p2 Q' n v3 M := by
  intro n
  induction n with
  | zero => intro v3 M _ h; exact h.elim
  | succ n ih =>
    intro v3 M hF h
    rw [qX0_isTrueOf_L2] at h
    rw [qX0_isTrueOf_L2]
    intro x1_1 g2 g3
    have h1 := h x1_1 g2 g3
    obtain ⟨v4, h4⟩ := h1
    refine ⟨v4, ?_⟩
    obtain ⟨h5, h6⟩ := h4
    refine ⟨?_, ?_⟩
    · intro g7
      have h8 := h5 g7
      exact hQ _ _ hF h8
    · intro g9
      have h10 := h6 g9
      refine fmX0_isOneTrueOf h10 ?_
      intro x4_12 M4_13 f11 h11
      have F11 : Ks (fun _ _ => False) M0 M4_13 := (hF).tr (f11.mono (fun _ _ h => False.elim h))
      intro g14 g15
      have h16 := h11 g14 g15
      obtain ⟨h17, h18⟩ := h16
      refine ⟨?_, ?_⟩
      · intro g19
        have h20 := h17 g19
        exact ih _ _ F11 h20
      · intro g21
        have h22 := h18 g21
        exact hQ _ _ F11 h22
theorem fmX0_isTrueOf {k1 : Nat} {p2 : Int} {M : Mem} {Q Q' : Int → Mem → Prop} (h : qX0_isTrueOf k1 p2 M Q) (hQ : ∀ (w0 : Int) (M' : Mem), Ks (fun _ _ => False) M M' → Q w0 M' → Q' w0 M') : qX0_isTrueOf k1 p2 M Q' := by
  unfold qX0_isTrueOf at h ⊢
  obtain ⟨n1, h1⟩ := h
  refine ⟨n1, ?_⟩
  refine fmX0_isTrueOf_L2 hQ _ _ _ Ks.rf h1
theorem fmX11_fits_L33  {X75 X75' : Int → Mem → Prop} {Q Q' : Int → Mem → Prop} {M0 : Mem} (hQ : ∀ (w0 : Int) (M' : Mem), Ks (fun k j => k = 0 ∨ (8 ≤ k ∧ k ≤ 14) ∨ (160 ≤ k ∧ k ≤ 162) ∨ (190 ≤ k ∧ k ≤ 191) ∨ (195 ≤ k ∧ k ≤ 196) ∨ (k = 167 ∧ (j = 1))) M0 M' → Q w0 M' → Q' w0 M') (hX75 : ∀ (w0 : Int) (M' : Mem), Ks (fun k j => k = 0 ∨ (8 ≤ k ∧ k ≤ 14) ∨ (160 ≤ k ∧ k ≤ 162) ∨ (190 ≤ k ∧ k ≤ 191) ∨ (195 ≤ k ∧ k ≤ 196) ∨ (k = 167 ∧ (j = 1))) M0 M' → X75 w0 M' → X75' w0 M') : ∀ (n : Nat) (v1 v2 : Int) (M : Mem), Ks (fun k j => k = 0 ∨ (8 ≤ k ∧ k ≤ 14) ∨ (160 ≤ k ∧ k ≤ 162) ∨ (190 ≤ k ∧ k ≤ 191) ∨ (195 ≤ k ∧ k ≤ 196) ∨ (k = 167 ∧ (j = 1))) M0 M → qX11_fits_L33 X75 Q n v1 v2 M → qX11_fits_L33 X75' Q' n v1 v2 M := by
  intro n
  induction n with
  | zero => intro v1 v2 M _ h; exact h.elim
  | succ n ih =>
    intro v1 v2 M hF h
    rw [qX11_fits_L33] at h
    rw [qX11_fits_L33]
    intro x4_1 g2 g3
    have h1 := h x4_1 g2 g3
    obtain ⟨v4, h4⟩ := h1
    refine ⟨v4, ?_⟩
    obtain ⟨h5, h6⟩ := h4
    refine ⟨?_, ?_⟩
    · intro g7
      have h8 := h5 g7
      exact hX75 _ _ hF h8
    · intro g9
      have h10 := h6 g9
      refine fmX0_isTrueOf h10 ?_
      intro x7_12 M7_13 f11 h11
      have F11 : Ks (fun k j => k = 0 ∨ (8 ≤ k ∧ k ≤ 14) ∨ (160 ≤ k ∧ k ≤ 162) ∨ (190 ≤ k ∧ k ≤ 191) ∨ (195 ≤ k ∧ k ≤ 196) ∨ (k = 167 ∧ (j = 1))) M0 M7_13 := (hF).tr (f11.mono (fun _ _ h => False.elim h))
      intro g14 g15
      have h16 := h11 g14 g15
      obtain ⟨h17, h18⟩ := h16
      refine ⟨?_, ?_⟩
      · intro g19
        have h20 := h17 g19
        intro x9_21 g22 g23
        have h21 := h20 x9_21 g22 g23
        exact ih _ _ _ F11 h21
      · intro g24
        have h25 := h18 g24
        intro x10_26 g27 g28
        have h26 := h25 x10_26 g27 g28
        intro x11_29 g30 g31
        have h29 := h26 x11_29 g30 g31
        exact ih _ _ _ F11 h29
theorem fmX11_fits  {M : Mem} {Q Q' : Int → Mem → Prop} (h : qX11_fits M Q) (hQ : ∀ (w0 : Int) (M' : Mem), Ks (fun k j => k = 0 ∨ (8 ≤ k ∧ k ≤ 14) ∨ (160 ≤ k ∧ k ≤ 162) ∨ (190 ≤ k ∧ k ≤ 191) ∨ (195 ≤ k ∧ k ≤ 196) ∨ (k = 167 ∧ (j = 1))) M M' → Q w0 M' → Q' w0 M') : qX11_fits M Q' := by
  unfold qX11_fits at h ⊢
  refine fmX6_copyFrom h ?_
  intro M1_2 f1 h1
  have F1 : Ks (fun k j => k = 0 ∨ (8 ≤ k ∧ k ≤ 14) ∨ (160 ≤ k ∧ k ≤ 162) ∨ (190 ≤ k ∧ k ≤ 191) ∨ (195 ≤ k ∧ k ≤ 196) ∨ (k = 167 ∧ (j = 1))) M M1_2 := (Ks.rf).tr (f1.mono (mo_77))
  obtain ⟨v3, h3⟩ := h1
  refine ⟨v3, ?_⟩
  have w3 : (M1_2 155 16).toNat = 187 ∨ (M1_2 155 16).toNat = 192 := v3
  refine fmX10_walk h3 ?_
  intro M3_5 f4 h4
  have F4 : Ks (fun k j => k = 0 ∨ (8 ≤ k ∧ k ≤ 14) ∨ (160 ≤ k ∧ k ≤ 162) ∨ (190 ≤ k ∧ k ≤ 191) ∨ (195 ≤ k ∧ k ≤ 196) ∨ (k = 167 ∧ (j = 1))) M M3_5 := (F1).tr (f4.mono (fun k j h => w3.elim (fun e => mo_78 k j (by rw [e] at h; exact h)) (fun e => mo_79 k j (by rw [e] at h; exact h))))
  obtain ⟨n6, h6⟩ := h4
  refine ⟨n6, ?_⟩
  refine fmX11_fits_L33 hQ ?_ _ _ _ _ F4 h6
  · intro v1_8 M_9 F7 h7
    obtain ⟨v10, h10⟩ := h7
    refine ⟨v10, ?_⟩
    refine fmJ6_bitCount_0f7a4 h10 ?_
    intro x14_12 M14_13 f11 h11
    have F11 : Ks (fun k j => k = 0 ∨ (8 ≤ k ∧ k ≤ 14) ∨ (160 ≤ k ∧ k ≤ 162) ∨ (190 ≤ k ∧ k ≤ 191) ∨ (195 ≤ k ∧ k ≤ 196) ∨ (k = 167 ∧ (j = 1))) M M14_13 := (F7).tr (f11.mono (fun _ _ h => False.elim h))
    intro g14
    have h15 := h11 g14
    refine fmX4_tellOne h15 ?_
    intro M15_17 f16 h16
    have F16 : Ks (fun k j => k = 0 ∨ (8 ≤ k ∧ k ≤ 14) ∨ (160 ≤ k ∧ k ≤ 162) ∨ (190 ≤ k ∧ k ≤ 191) ∨ (195 ≤ k ∧ k ≤ 196) ∨ (k = 167 ∧ (j = 1))) M M15_17 := (F11).tr (f16.mono (mo_76))
    exact hQ _ _ F16 h16
theorem fmX11_commonDivisor_L9 {p0 : Int} {p2 : Int} {Q Q' : Int → Mem → Prop} {M0 : Mem} (hQ : ∀ (w0 : Int) (M' : Mem), Ks (fun _ _ => False) M0 M' → Q w0 M' → Q' w0 M') : ∀ (n : Nat) (v4 v6 v8 : Int) (M : Mem), Ks (fun _ _ => False) M0 M → qX11_commonDivisor_L9 p0 p2 Q n v4 v6 v8 M → qX11_commonDivisor_L9 p0 p2 Q' n v4 v6 v8 M := by
  intro n
  induction n with
  | zero => intro v4 v6 v8 M _ h; exact h.elim
  | succ n ih =>
    intro v4 v6 v8 M hF h
    rw [qX11_commonDivisor_L9] at h
    rw [qX11_commonDivisor_L9]
    obtain ⟨v1, h1⟩ := h
    refine ⟨v1, ?_⟩
    obtain ⟨h2, h3⟩ := h1
    refine ⟨?_, ?_⟩
    · intro g4
      have h5 := h2 g4
      obtain ⟨v6, h6⟩ := h5
      refine ⟨v6, ?_⟩
      exact hQ _ _ hF h6
    · intro g7
      have h8 := h3 g7
      obtain ⟨v9, h9⟩ := h8
      refine ⟨v9, ?_⟩
      intro x5_10 g11 g12
      have h10 := h9 x5_10 g11 g12
      obtain ⟨h13, h14⟩ := h10
      refine ⟨?_, ?_⟩
      · intro g15
        have h16 := h13 g15
        obtain ⟨v17, h17⟩ := h16
        refine ⟨v17, ?_⟩
        exact hQ _ _ hF h17
      · intro g18
        have h19 := h14 g18
        obtain ⟨v20, h20⟩ := h19
        refine ⟨v20, ?_⟩
        intro x9_21 g22 g23
        have h21 := h20 x9_21 g22 g23
        exact ih _ _ _ _ hF h21
theorem fmX11_commonDivisor {p0 : Int} {p2 : Int} {M : Mem} {Q Q' : Int → Mem → Prop} (h : qX11_commonDivisor p0 p2 M Q) (hQ : ∀ (w0 : Int) (M' : Mem), Ks (fun _ _ => False) M M' → Q w0 M' → Q' w0 M') : qX11_commonDivisor p0 p2 M Q' := by
  unfold qX11_commonDivisor at h ⊢
  obtain ⟨n1, h1⟩ := h
  refine ⟨n1, ?_⟩
  refine fmX11_commonDivisor_L9 hQ _ _ _ _ _ Ks.rf h1
theorem fmX11_power_L5 {p0 : Int} {p2 : Int} {Q Q' : Int → Mem → Prop} {M0 : Mem} (hQ : ∀ (w0 : Int) (M' : Mem), Ks (fun _ _ => False) M0 M' → Q w0 M' → Q' w0 M') : ∀ (n : Nat) (v3 v5 : Int) (M : Mem), Ks (fun _ _ => False) M0 M → qX11_power_L5 p0 p2 Q n v3 v5 M → qX11_power_L5 p0 p2 Q' n v3 v5 M := by
  intro n
  induction n with
  | zero => intro v3 v5 M _ h; exact h.elim
  | succ n ih =>
    intro v3 v5 M hF h
    rw [qX11_power_L5] at h
    rw [qX11_power_L5]
    obtain ⟨v1, h1⟩ := h
    refine ⟨v1, ?_⟩
    obtain ⟨h2, h3⟩ := h1
    refine ⟨?_, ?_⟩
    · intro g4
      have h5 := h2 g4
      obtain ⟨v6, h6⟩ := h5
      refine ⟨v6, ?_⟩
      exact hQ _ _ hF h6
    · intro g7
      have h8 := h3 g7
      intro x4_9 g10 g11
      have h9 := h8 x4_9 g10 g11
      exact ih _ _ _ hF h9
theorem fmX11_power {p0 : Int} {p2 : Int} {M : Mem} {Q Q' : Int → Mem → Prop} (h : qX11_power p0 p2 M Q) (hQ : ∀ (w0 : Int) (M' : Mem), Ks (fun _ _ => False) M M' → Q w0 M' → Q' w0 M') : qX11_power p0 p2 M Q' := by
  unfold qX11_power at h ⊢
  obtain ⟨n1, h1⟩ := h
  refine ⟨n1, ?_⟩
  refine fmX11_power_L5 hQ _ _ _ _ Ks.rf h1
theorem fmX11_rains_L42 {p1 : Int} {p2 : Int} {p3 : Int} {X112 X112' : Int → Mem → Prop} {Q Q' : Int → Mem → Prop} {M0 : Mem} (hQ : ∀ (w0 : Int) (M' : Mem), Ks (fun k j => k = 0 ∨ (k = 167 ∧ (j = 1))) M0 M' → Q w0 M' → Q' w0 M') (hX112 : ∀ (w0 : Int) (M' : Mem), Ks (fun k j => k = 0 ∨ (k = 167 ∧ (j = 1))) M0 M' → X112 w0 M' → X112' w0 M') : ∀ (n : Nat) (v4 v6 v8 : Int) (M : Mem), Ks (fun k j => k = 0 ∨ (k = 167 ∧ (j = 1))) M0 M → qX11_rains_L42 p1 p2 p3 X112 Q n v4 v6 v8 M → qX11_rains_L42 p1 p2 p3 X112' Q' n v4 v6 v8 M := by
  intro n
  induction n with
  | zero => intro v4 v6 v8 M _ h; exact h.elim
  | succ n ih =>
    intro v4 v6 v8 M hF h
    rw [qX11_rains_L42] at h
    rw [qX11_rains_L42]
    obtain ⟨v1, h1⟩ := h
    refine ⟨v1, ?_⟩
    obtain ⟨h2, h3⟩ := h1
    refine ⟨?_, ?_⟩
    · intro g4
      have h5 := h2 g4
      exact hX112 _ _ hF h5
    · intro g6
      have h7 := h3 g6
      obtain ⟨v8, h8⟩ := h7
      refine ⟨v8, ?_⟩
      obtain ⟨h9, h10⟩ := h8
      refine ⟨?_, ?_⟩
      · intro g11
        have h12 := h9 g11
        unfold qX11_rains_J88 at h12 ⊢
        intro x11_13 g14 g15
        have h13 := h12 x11_13 g14 g15
        intro x12_16 g17 g18
        have h16 := h13 x12_16 g17 g18
        intro x13_19 g20 g21
        have h19 := h16 x13_19 g20 g21
        obtain ⟨v22, h22⟩ := h19
        refine ⟨v22, ?_⟩
        obtain ⟨v23, h23⟩ := h22
        refine ⟨v23, ?_⟩
        intro x16_24 g25 g26
        have h24 := h23 x16_24 g25 g26
        exact ih _ _ _ _ hF h24
      · intro g27
        have h28 := h10 g27
        refine fmX11_power h28 ?_
        intro x17_30 M17_31 f29 h29
        have F29 : Ks (fun k j => k = 0 ∨ (k = 167 ∧ (j = 1))) M0 M17_31 := (hF).tr (f29.mono (fun _ _ h => False.elim h))
        intro g32
        have h33 := h29 g32
        intro x18_34 g35 g36
        have h34 := h33 x18_34 g35 g36
        intro x19_37 g38 g39
        have h37 := h34 x19_37 g38 g39
        intro x20_40 g41 g42
        have h40 := h37 x20_40 g41 g42
        intro x21_43 g44 g45
        have h43 := h40 x21_43 g44 g45
        refine fmX11_power h43 ?_
        intro x22_47 M22_48 f46 h46
        have F46 : Ks (fun k j => k = 0 ∨ (k = 167 ∧ (j = 1))) M0 M22_48 := (F29).tr (f46.mono (fun _ _ h => False.elim h))
        intro g49
        have h50 := h46 g49
        intro x23_51 g52 g53
        have h51 := h50 x23_51 g52 g53
        intro x24_54 g55 g56
        have h54 := h51 x24_54 g55 g56
        unfold qX11_rains_J88 at h54 ⊢
        intro x11_57 g58 g59
        have h57 := h54 x11_57 g58 g59
        intro x12_60 g61 g62
        have h60 := h57 x12_60 g61 g62
        intro x13_63 g64 g65
        have h63 := h60 x13_63 g64 g65
        obtain ⟨v66, h66⟩ := h63
        refine ⟨v66, ?_⟩
        obtain ⟨v67, h67⟩ := h66
        refine ⟨v67, ?_⟩
        intro x16_68 g69 g70
        have h68 := h67 x16_68 g69 g70
        exact ih _ _ _ _ F46 h68
theorem fmX11_rains {p1 : Int} {p2 : Int} {p3 : Int} {M : Mem} {Q Q' : Int → Mem → Prop} (h : qX11_rains p1 p2 p3 M Q) (hQ : ∀ (w0 : Int) (M' : Mem), Ks (fun k j => k = 0 ∨ (k = 167 ∧ (j = 1))) M M' → Q w0 M' → Q' w0 M') : qX11_rains p1 p2 p3 M Q' := by
  unfold qX11_rains at h ⊢
  obtain ⟨h1, h2⟩ := h
  refine ⟨?_, ?_⟩
  · intro g3
    have h4 := h1 g3
    exact hQ _ _ Ks.rf h4
  · intro g5
    have h6 := h2 g5
    obtain ⟨h7, h8⟩ := h6
    refine ⟨?_, ?_⟩
    · intro g9
      have h10 := h7 g9
      exact hQ _ _ Ks.rf h10
    · intro g11
      have h12 := h8 g11
      obtain ⟨h13, h14⟩ := h12
      refine ⟨?_, ?_⟩
      · intro g15
        have h16 := h13 g15
        exact hQ _ _ Ks.rf h16
      · intro g17
        have h18 := h14 g17
        obtain ⟨h19, h20⟩ := h18
        refine ⟨?_, ?_⟩
        · intro g21
          have h22 := h19 g21
          exact hQ _ _ Ks.rf h22
        · intro g23
          have h24 := h20 g23
          obtain ⟨h25, h26⟩ := h24
          refine ⟨?_, ?_⟩
          · intro g27
            have h28 := h25 g27
            exact hQ _ _ Ks.rf h28
          · intro g29
            have h30 := h26 g29
            obtain ⟨h31, h32⟩ := h30
            refine ⟨?_, ?_⟩
            · intro g33
              have h34 := h31 g33
              obtain ⟨n35, h35⟩ := h34
              refine ⟨n35, ?_⟩
              refine fmX11_rains_L42 hQ ?_ _ _ _ _ _ Ks.rf h35
              · intro v4_37 M_38 F36 h36
                refine fmX11_power h36 ?_
                intro x26_40 M26_41 f39 h39
                have F39 : Ks (fun k j => k = 0 ∨ (k = 167 ∧ (j = 1))) M M26_41 := (F36).tr (f39.mono (fun _ _ h => False.elim h))
                intro g42
                have h43 := h39 g42
                obtain ⟨v44, h44⟩ := h43
                refine ⟨v44, ?_⟩
                refine fmX11_commonDivisor h44 ?_
                intro x28_46 M28_47 f45 h45
                have F45 : Ks (fun k j => k = 0 ∨ (k = 167 ∧ (j = 1))) M M28_47 := (F39).tr (f45.mono (fun _ _ h => False.elim h))
                intro g48
                have h49 := h45 g48
                intro x29_50 g51 g52
                have h50 := h49 x29_50 g51 g52
                obtain ⟨h53, h54⟩ := h50
                refine ⟨?_, ?_⟩
                · intro g55
                  have h56 := h53 g55
                  obtain ⟨v57, h57⟩ := h56
                  refine ⟨v57, ?_⟩
                  intro x32_58 g59 g60
                  have h58 := h57 x32_58 g59 g60
                  obtain ⟨v61, h61⟩ := h58
                  refine ⟨v61, ?_⟩
                  intro x34_62 g63 g64
                  have h62 := h61 x34_62 g63 g64
                  refine fmX4_tellTwo h62 ?_
                  intro M35_66 f65 h65
                  have F65 : Ks (fun k j => k = 0 ∨ (k = 167 ∧ (j = 1))) M M35_66 := (F45).tr (f65.mono (fun _ _ h => h))
                  exact hQ _ _ F65 h65
                · intro g67
                  have h68 := h54 g67
                  exact hQ _ _ F45 h68
            · intro g69
              have h70 := h32 g69
              exact hQ _ _ Ks.rf h70
theorem fmX11_law  {M : Mem} {Q Q' : Int → Mem → Prop} (h : qX11_law M Q) (hQ : ∀ (w0 : Int) (M' : Mem), Ks (fun k j => k = 0 ∨ (8 ≤ k ∧ k ≤ 14) ∨ (160 ≤ k ∧ k ≤ 162) ∨ (186 ≤ k ∧ k ≤ 196) ∨ (k = 156 ∧ (j = 1 ∨ j = 2 ∨ j = 3)) ∨ (k = 167 ∧ (j = 1)) ∨ (k = 185 ∧ (j = 1 ∨ j = 2 ∨ j = 3))) M M' → Q w0 M' → Q' w0 M') : qX11_law M Q' := by
  unfold qX11_law at h ⊢
  obtain ⟨v1, h1⟩ := h
  refine ⟨v1, ?_⟩
  have w1 : (M 155 17).toNat = 187 ∨ (M 155 17).toNat = 192 := v1
  refine fmX5_read h1 ?_
  intro x2_3 M2_4 f2 h2
  have F2 : Ks (fun k j => k = 0 ∨ (8 ≤ k ∧ k ≤ 14) ∨ (160 ≤ k ∧ k ≤ 162) ∨ (186 ≤ k ∧ k ≤ 196) ∨ (k = 156 ∧ (j = 1 ∨ j = 2 ∨ j = 3)) ∨ (k = 167 ∧ (j = 1)) ∨ (k = 185 ∧ (j = 1 ∨ j = 2 ∨ j = 3))) M M2_4 := (Ks.rf).tr (f2.mono (fun k j h => w1.elim (fun e => mo_111 k j (by rw [e] at h; exact h)) (fun e => mo_112 k j (by rw [e] at h; exact h))))
  intro g5
  have h6 := h2 g5
  refine fmX9_clear h6 ?_
  intro M3_8 f7 h7
  have F7 : Ks (fun k j => k = 0 ∨ (8 ≤ k ∧ k ≤ 14) ∨ (160 ≤ k ∧ k ≤ 162) ∨ (186 ≤ k ∧ k ≤ 196) ∨ (k = 156 ∧ (j = 1 ∨ j = 2 ∨ j = 3)) ∨ (k = 167 ∧ (j = 1)) ∨ (k = 185 ∧ (j = 1 ∨ j = 2 ∨ j = 3))) M M3_8 := (F2).tr (f7.mono (mo_113))
  obtain ⟨h9, h10⟩ := h7
  refine ⟨?_, ?_⟩
  · intro g11
    have h12 := h9 g11
    refine fmX6_copyFrom h12 ?_
    intro M5_14 f13 h13
    have F13 : Ks (fun k j => k = 0 ∨ (8 ≤ k ∧ k ≤ 14) ∨ (160 ≤ k ∧ k ≤ 162) ∨ (186 ≤ k ∧ k ≤ 196) ∨ (k = 156 ∧ (j = 1 ∨ j = 2 ∨ j = 3)) ∨ (k = 167 ∧ (j = 1)) ∨ (k = 185 ∧ (j = 1 ∨ j = 2 ∨ j = 3))) M M5_14 := (F7).tr (f13.mono (mo_114))
    obtain ⟨v15, h15⟩ := h13
    refine ⟨v15, ?_⟩
    have w15 : (M5_14 155 17).toNat = 187 ∨ (M5_14 155 17).toNat = 192 := v15
    refine fmX11_rightOnesOfTrial h15 ?_
    intro x7_17 M7_18 f16 h16
    have F16 : Ks (fun k j => k = 0 ∨ (8 ≤ k ∧ k ≤ 14) ∨ (160 ≤ k ∧ k ≤ 162) ∨ (186 ≤ k ∧ k ≤ 196) ∨ (k = 156 ∧ (j = 1 ∨ j = 2 ∨ j = 3)) ∨ (k = 167 ∧ (j = 1)) ∨ (k = 185 ∧ (j = 1 ∨ j = 2 ∨ j = 3))) M M7_18 := (F13).tr (f16.mono (fun k j h => w15.elim (fun e => mo_115 k j (by rw [e] at h; exact h)) (fun e => mo_116 k j (by rw [e] at h; exact h))))
    intro g19
    have h20 := h16 g19
    refine fmJ6_bitCount_0f7a4 h20 ?_
    intro x8_22 M8_23 f21 h21
    have F21 : Ks (fun k j => k = 0 ∨ (8 ≤ k ∧ k ≤ 14) ∨ (160 ≤ k ∧ k ≤ 162) ∨ (186 ≤ k ∧ k ≤ 196) ∨ (k = 156 ∧ (j = 1 ∨ j = 2 ∨ j = 3)) ∨ (k = 167 ∧ (j = 1)) ∨ (k = 185 ∧ (j = 1 ∨ j = 2 ∨ j = 3))) M M8_23 := (F16).tr (f21.mono (fun _ _ h => False.elim h))
    intro g24
    have h25 := h21 g24
    refine fmX6_copyFrom h25 ?_
    intro M9_27 f26 h26
    have F26 : Ks (fun k j => k = 0 ∨ (8 ≤ k ∧ k ≤ 14) ∨ (160 ≤ k ∧ k ≤ 162) ∨ (186 ≤ k ∧ k ≤ 196) ∨ (k = 156 ∧ (j = 1 ∨ j = 2 ∨ j = 3)) ∨ (k = 167 ∧ (j = 1)) ∨ (k = 185 ∧ (j = 1 ∨ j = 2 ∨ j = 3))) M M9_27 := (F21).tr (f26.mono (mo_114))
    obtain ⟨v28, h28⟩ := h26
    refine ⟨v28, ?_⟩
    have w28 : (M9_27 155 16).toNat = 187 ∨ (M9_27 155 16).toNat = 192 := v28
    refine fmX11_rightOnesOfTrial h28 ?_
    intro x11_30 M11_31 f29 h29
    have F29 : Ks (fun k j => k = 0 ∨ (8 ≤ k ∧ k ≤ 14) ∨ (160 ≤ k ∧ k ≤ 162) ∨ (186 ≤ k ∧ k ≤ 196) ∨ (k = 156 ∧ (j = 1 ∨ j = 2 ∨ j = 3)) ∨ (k = 167 ∧ (j = 1)) ∨ (k = 185 ∧ (j = 1 ∨ j = 2 ∨ j = 3))) M M11_31 := (F26).tr (f29.mono (fun k j h => w28.elim (fun e => mo_115 k j (by rw [e] at h; exact h)) (fun e => mo_116 k j (by rw [e] at h; exact h))))
    intro g32
    have h33 := h29 g32
    refine fmJ6_bitCount_0f7a4 h33 ?_
    intro x12_35 M12_36 f34 h34
    have F34 : Ks (fun k j => k = 0 ∨ (8 ≤ k ∧ k ≤ 14) ∨ (160 ≤ k ∧ k ≤ 162) ∨ (186 ≤ k ∧ k ≤ 196) ∨ (k = 156 ∧ (j = 1 ∨ j = 2 ∨ j = 3)) ∨ (k = 167 ∧ (j = 1)) ∨ (k = 185 ∧ (j = 1 ∨ j = 2 ∨ j = 3))) M M12_36 := (F29).tr (f34.mono (fun _ _ h => False.elim h))
    intro g37
    have h38 := h34 g37
    refine fmX4_tellTwo h38 ?_
    intro M13_40 f39 h39
    have F39 : Ks (fun k j => k = 0 ∨ (8 ≤ k ∧ k ≤ 14) ∨ (160 ≤ k ∧ k ≤ 162) ∨ (186 ≤ k ∧ k ≤ 196) ∨ (k = 156 ∧ (j = 1 ∨ j = 2 ∨ j = 3)) ∨ (k = 167 ∧ (j = 1)) ∨ (k = 185 ∧ (j = 1 ∨ j = 2 ∨ j = 3))) M M13_40 := (F34).tr (f39.mono (mo_117))
    obtain ⟨v41, h41⟩ := h39
    refine ⟨v41, ?_⟩
    exact hQ _ _ F39 h41
  · intro g42
    have h43 := h10 g42
    obtain ⟨v44, h44⟩ := h43
    refine ⟨v44, ?_⟩
    exact hQ _ _ F7 h44
theorem fmX11_gain {p0 : Int} {p1 : Int} {p2 : Int} {M : Mem} {Q Q' : Int → Mem → Prop} (h : qX11_gain p0 p1 p2 M Q) (hQ : ∀ (w0 : Int) (M' : Mem), Ks (fun _ _ => False) M M' → Q w0 M' → Q' w0 M') : qX11_gain p0 p1 p2 M Q' := by
  unfold qX11_gain at h ⊢
  obtain ⟨h1, h2⟩ := h
  refine ⟨?_, ?_⟩
  · intro g3
    have h4 := h1 g3
    obtain ⟨h5, h6⟩ := h4
    refine ⟨?_, ?_⟩
    · intro g7
      have h8 := h5 g7
      unfold qX11_gain_J21 at h8 ⊢
      obtain ⟨v9, h9⟩ := h8
      refine ⟨v9, ?_⟩
      obtain ⟨h10, h11⟩ := h9
      refine ⟨?_, ?_⟩
      · intro g12
        have h13 := h10 g12
        obtain ⟨v14, h14⟩ := h13
        refine ⟨v14, ?_⟩
        exact hQ _ _ Ks.rf h14
      · intro g15
        have h16 := h11 g15
        obtain ⟨v17, h17⟩ := h16
        refine ⟨v17, ?_⟩
        exact hQ _ _ Ks.rf h17
    · intro g18
      have h19 := h6 g18
      intro x7_20 g21 g22
      have h20 := h19 x7_20 g21 g22
      unfold qX11_gain_J21 at h20 ⊢
      obtain ⟨v23, h23⟩ := h20
      refine ⟨v23, ?_⟩
      obtain ⟨h24, h25⟩ := h23
      refine ⟨?_, ?_⟩
      · intro g26
        have h27 := h24 g26
        obtain ⟨v28, h28⟩ := h27
        refine ⟨v28, ?_⟩
        exact hQ _ _ Ks.rf h28
      · intro g29
        have h30 := h25 g29
        obtain ⟨v31, h31⟩ := h30
        refine ⟨v31, ?_⟩
        exact hQ _ _ Ks.rf h31
  · intro g32
    have h33 := h2 g32
    unfold qX11_gain_J21 at h33 ⊢
    obtain ⟨v34, h34⟩ := h33
    refine ⟨v34, ?_⟩
    obtain ⟨h35, h36⟩ := h34
    refine ⟨?_, ?_⟩
    · intro g37
      have h38 := h35 g37
      obtain ⟨v39, h39⟩ := h38
      refine ⟨v39, ?_⟩
      exact hQ _ _ Ks.rf h39
    · intro g40
      have h41 := h36 g40
      obtain ⟨v42, h42⟩ := h41
      refine ⟨v42, ?_⟩
      exact hQ _ _ Ks.rf h42
theorem fmX11_isBestAnswer_L10 {p0 : Int} {p1 : Int} {p2 : Int} {Q Q' : Int → Mem → Prop} {M0 : Mem} (hQ : ∀ (w0 : Int) (M' : Mem), Ks (fun _ _ => False) M0 M' → Q w0 M' → Q' w0 M') : ∀ (n : Nat) (v3 v4 : Int) (M : Mem), Ks (fun _ _ => False) M0 M → qX11_isBestAnswer_L10 p0 p1 p2 Q n v3 v4 M → qX11_isBestAnswer_L10 p0 p1 p2 Q' n v3 v4 M := by
  intro n
  induction n with
  | zero => intro v3 v4 M _ h; exact h.elim
  | succ n ih =>
    intro v3 v4 M hF h
    rw [qX11_isBestAnswer_L10] at h
    rw [qX11_isBestAnswer_L10]
    obtain ⟨v1, h1⟩ := h
    refine ⟨v1, ?_⟩
    obtain ⟨h2, h3⟩ := h1
    refine ⟨?_, ?_⟩
    · intro g4
      have h5 := h2 g4
      exact hQ _ _ hF h5
    · intro g6
      have h7 := h3 g6
      refine fmX11_gain h7 ?_
      intro x4_9 M4_10 f8 h8
      have F8 : Ks (fun _ _ => False) M0 M4_10 := (hF).tr (f8.mono (fun _ _ h => False.elim h))
      intro g11
      have h12 := h8 g11
      obtain ⟨v13, h13⟩ := h12
      refine ⟨v13, ?_⟩
      obtain ⟨h14, h15⟩ := h13
      refine ⟨?_, ?_⟩
      · intro g16
        have h17 := h14 g16
        exact ih _ _ _ F8 h17
      · intro g18
        have h19 := h15 g18
        exact hQ _ _ F8 h19
end
section
theorem fmX11_isBestAnswer {p0 : Int} {p1 : Int} {p2 : Int} {M : Mem} {Q Q' : Int → Mem → Prop} (h : qX11_isBestAnswer p0 p1 p2 M Q) (hQ : ∀ (w0 : Int) (M' : Mem), Ks (fun _ _ => False) M M' → Q w0 M' → Q' w0 M') : qX11_isBestAnswer p0 p1 p2 M Q' := by
  unfold qX11_isBestAnswer at h ⊢
  refine fmX11_gain h ?_
  intro x1_2 M1_3 f1 h1
  have F1 : Ks (fun _ _ => False) M M1_3 := (Ks.rf).tr (f1.mono (fun _ _ h => False.elim h))
  intro g4
  have h5 := h1 g4
  obtain ⟨n6, h6⟩ := h5
  refine ⟨n6, ?_⟩
  refine fmX11_isBestAnswer_L10 hQ _ _ _ _ F1 h6
theorem fmX11_rests_L32 {p1 : Int} {X85 X85' : Int → Int → Mem → Prop} {Q Q' : Int → Mem → Prop} {M0 : Mem} (hQ : ∀ (w0 : Int) (M' : Mem), Ks (fun k j => k = 0 ∨ (k = 167 ∧ (j = 1))) M0 M' → Q w0 M' → Q' w0 M') (hX85 : ∀ (w0 w1 : Int) (M' : Mem), Ks (fun k j => k = 0 ∨ (k = 167 ∧ (j = 1))) M0 M' → X85 w0 w1 M' → X85' w0 w1 M') : ∀ (n : Nat) (v2 v3 v4 : Int) (M : Mem), Ks (fun k j => k = 0 ∨ (k = 167 ∧ (j = 1))) M0 M → qX11_rests_L32 p1 X85 Q n v2 v3 v4 M → qX11_rests_L32 p1 X85' Q' n v2 v3 v4 M := by
  intro n
  induction n with
  | zero => intro v2 v3 v4 M _ h; exact h.elim
  | succ n ih =>
    intro v2 v3 v4 M hF h
    rw [qX11_rests_L32] at h
    rw [qX11_rests_L32]
    obtain ⟨v1, h1⟩ := h
    refine ⟨v1, ?_⟩
    obtain ⟨h2, h3⟩ := h1
    refine ⟨?_, ?_⟩
    · intro g4
      have h5 := h2 g4
      exact hX85 _ _ _ hF h5
    · intro g6
      have h7 := h3 g6
      obtain ⟨v8, h8⟩ := h7
      refine ⟨v8, ?_⟩
      refine fmX11_isBestAnswer h8 ?_
      intro x10_10 M10_11 f9 h9
      have F9 : Ks (fun k j => k = 0 ∨ (k = 167 ∧ (j = 1))) M0 M10_11 := (hF).tr (f9.mono (fun _ _ h => False.elim h))
      intro g12 g13
      have h14 := h9 g12 g13
      obtain ⟨h15, h16⟩ := h14
      refine ⟨?_, ?_⟩
      · intro g17
        have h18 := h15 g17
        exact ih _ _ _ _ F9 h18
      · intro g19
        have h20 := h16 g19
        refine fmX11_isBestAnswer h20 ?_
        intro x12_22 M12_23 f21 h21
        have F21 : Ks (fun k j => k = 0 ∨ (k = 167 ∧ (j = 1))) M0 M12_23 := (F9).tr (f21.mono (fun _ _ h => False.elim h))
        intro g24 g25
        have h26 := h21 g24 g25
        obtain ⟨h27, h28⟩ := h26
        refine ⟨?_, ?_⟩
        · intro g29
          have h30 := h27 g29
          exact ih _ _ _ _ F21 h30
        · intro g31
          have h32 := h28 g31
          obtain ⟨v33, h33⟩ := h32
          refine ⟨v33, ?_⟩
          obtain ⟨h34, h35⟩ := h33
          refine ⟨?_, ?_⟩
          · intro g36
            have h37 := h34 g36
            exact ih _ _ _ _ F21 h37
          · intro g38
            have h39 := h35 g38
            refine fmX4_tellTwo h39 ?_
            intro M16_41 f40 h40
            have F40 : Ks (fun k j => k = 0 ∨ (k = 167 ∧ (j = 1))) M0 M16_41 := (F21).tr (f40.mono (fun _ _ h => h))
            exact ih _ _ _ _ F40 h40
theorem fmX11_rests_L23 {p1 : Int} {Q Q' : Int → Mem → Prop} {M0 : Mem} (hQ : ∀ (w0 : Int) (M' : Mem), Ks (fun k j => k = 0 ∨ (k = 167 ∧ (j = 1))) M0 M' → Q w0 M' → Q' w0 M') : ∀ (n : Nat) (v2 v3 : Int) (M : Mem), Ks (fun k j => k = 0 ∨ (k = 167 ∧ (j = 1))) M0 M → qX11_rests_L23 p1 Q n v2 v3 M → qX11_rests_L23 p1 Q' n v2 v3 M := by
  intro n
  induction n with
  | zero => intro v2 v3 M _ h; exact h.elim
  | succ n ih =>
    intro v2 v3 M hF h
    rw [qX11_rests_L23] at h
    rw [qX11_rests_L23]
    obtain ⟨v1, h1⟩ := h
    refine ⟨v1, ?_⟩
    obtain ⟨h2, h3⟩ := h1
    refine ⟨?_, ?_⟩
    · intro g4
      have h5 := h2 g4
      obtain ⟨v6, h6⟩ := h5
      refine ⟨v6, ?_⟩
      exact hQ _ _ hF h6
    · intro g7
      have h8 := h3 g7
      obtain ⟨n9, h9⟩ := h8
      refine ⟨n9, ?_⟩
      refine fmX11_rests_L32 hQ ?_ _ _ _ _ _ hF h9
      · intro v2_11 v3_12 M_13 F10 h10
        exact ih _ _ _ F10 h10
theorem fmX11_rests {p1 : Int} {M : Mem} {Q Q' : Int → Mem → Prop} (h : qX11_rests p1 M Q) (hQ : ∀ (w0 : Int) (M' : Mem), Ks (fun k j => k = 0 ∨ (k = 167 ∧ (j = 1))) M M' → Q w0 M' → Q' w0 M') : qX11_rests p1 M Q' := by
  unfold qX11_rests at h ⊢
  obtain ⟨h1, h2⟩ := h
  refine ⟨?_, ?_⟩
  · intro g3
    have h4 := h1 g3
    exact hQ _ _ Ks.rf h4
  · intro g5
    have h6 := h2 g5
    obtain ⟨h7, h8⟩ := h6
    refine ⟨?_, ?_⟩
    · intro g9
      have h10 := h7 g9
      refine fmX4_clear h10 ?_
      intro M3_12 f11 h11
      have F11 : Ks (fun k j => k = 0 ∨ (k = 167 ∧ (j = 1))) M M3_12 := (Ks.rf).tr (f11.mono (mo_46))
      obtain ⟨n13, h13⟩ := h11
      refine ⟨n13, ?_⟩
      refine fmX11_rests_L23 hQ _ _ _ _ F11 h13
    · intro g14
      have h15 := h8 g14
      exact hQ _ _ Ks.rf h15
theorem fmX11_draw {p1 : Int} {M : Mem} {Q Q' : Int → Mem → Prop} (h : qX11_draw p1 M Q) (hQ : ∀ (w0 : Int) (M' : Mem), Ks (fun k j => (k = 155 ∧ (j = 15))) M M' → Q w0 M' → Q' w0 M') : qX11_draw p1 M Q' := by
  unfold qX11_draw at h ⊢
  intro x1_1 g2 g3
  have h1 := h x1_1 g2 g3
  intro x2_4 g5 g6
  have h4 := h1 x2_4 g5 g6
  intro x3_7 g8 g9
  have h7 := h4 x3_7 g8 g9
  intro M4_10 eM4_10
  have h10 := h7 M4_10 eM4_10
  have F10 : Ks (fun k j => (k = 155 ∧ (j = 15))) M M4_10 := by rw [eM4_10]; exact (Ks.rf).wr (mw_97)
  obtain ⟨h11, h12⟩ := h10
  refine ⟨?_, ?_⟩
  · intro g13
    have h14 := h11 g13
    intro x6_15 g16 g17
    have h15 := h14 x6_15 g16 g17
    intro x7_18 g19 g20
    have h18 := h15 x7_18 g19 g20
    obtain ⟨v21, h21⟩ := h18
    refine ⟨v21, ?_⟩
    intro x9_22 g23 g24
    have h22 := h21 x9_22 g23 g24
    exact hQ _ _ F10 h22
  · intro g25
    have h26 := h12 g25
    exact hQ _ _ F10 h26
theorem fmX11_years_L31 {p1 : Int} {p2 : Int} {X155 X155' : Mem → Prop} {Q Q' : Int → Mem → Prop} {M0 : Mem} (hQ : ∀ (w0 : Int) (M' : Mem), Ks (fun k j => k = 0 ∨ (8 ≤ k ∧ k ≤ 14) ∨ (160 ≤ k ∧ k ≤ 162) ∨ (190 ≤ k ∧ k ≤ 191) ∨ (195 ≤ k ∧ k ≤ 196) ∨ (k = 155 ∧ (j = 15)) ∨ (k = 167 ∧ (j = 1))) M0 M' → Q w0 M' → Q' w0 M') (hX155 : ∀ (M' : Mem), Ks (fun k j => k = 0 ∨ (8 ≤ k ∧ k ≤ 14) ∨ (160 ≤ k ∧ k ≤ 162) ∨ (190 ≤ k ∧ k ≤ 191) ∨ (195 ≤ k ∧ k ≤ 196) ∨ (k = 155 ∧ (j = 15)) ∨ (k = 167 ∧ (j = 1))) M0 M' → X155 M' → X155' M') : ∀ (n : Nat) (v3 : Int) (M : Mem), Ks (fun k j => k = 0 ∨ (8 ≤ k ∧ k ≤ 14) ∨ (160 ≤ k ∧ k ≤ 162) ∨ (190 ≤ k ∧ k ≤ 191) ∨ (195 ≤ k ∧ k ≤ 196) ∨ (k = 155 ∧ (j = 15)) ∨ (k = 167 ∧ (j = 1))) M0 M → qX11_years_L31 p1 p2 X155 Q n v3 M → qX11_years_L31 p1 p2 X155' Q' n v3 M := by
  intro n
  induction n with
  | zero => intro v3 M _ h; exact h.elim
  | succ n ih =>
    intro v3 M hF h
    rw [qX11_years_L31] at h
    rw [qX11_years_L31]
    obtain ⟨v1, h1⟩ := h
    refine ⟨v1, ?_⟩
    obtain ⟨h2, h3⟩ := h1
    refine ⟨?_, ?_⟩
    · intro g4
      have h5 := h2 g4
      exact hX155 _ hF h5
    · intro g6
      have h7 := h3 g6
      refine fmX11_draw h7 ?_
      intro x7_9 M7_10 f8 h8
      have F8 : Ks (fun k j => k = 0 ∨ (8 ≤ k ∧ k ≤ 14) ∨ (160 ≤ k ∧ k ≤ 162) ∨ (190 ≤ k ∧ k ≤ 191) ∨ (195 ≤ k ∧ k ≤ 196) ∨ (k = 155 ∧ (j = 15)) ∨ (k = 167 ∧ (j = 1))) M0 M7_10 := (hF).tr (f8.mono (mo_118))
      intro g11
      have h12 := h8 g11
      obtain ⟨h13, h14⟩ := h12
      refine ⟨?_, ?_⟩
      · intro g15
        have h16 := h13 g15
        obtain ⟨h17, h18⟩ := h16
        refine ⟨?_, ?_⟩
        · intro g19
          have h20 := h17 g19
          intro x10_21 g22 g23
          have h21 := h20 x10_21 g22 g23
          obtain ⟨h24, h25⟩ := h21
          refine ⟨?_, ?_⟩
          · intro g26
            have h27 := h24 g26
            exact ih _ _ F8 h27
          · intro g28
            have h29 := h25 g28
            intro x12_30 g31 g32
            have h30 := h29 x12_30 g31 g32
            refine fmX11_draw h30 ?_
            intro x13_34 M13_35 f33 h33
            have F33 : Ks (fun k j => k = 0 ∨ (8 ≤ k ∧ k ≤ 14) ∨ (160 ≤ k ∧ k ≤ 162) ∨ (190 ≤ k ∧ k ≤ 191) ∨ (195 ≤ k ∧ k ≤ 196) ∨ (k = 155 ∧ (j = 15)) ∨ (k = 167 ∧ (j = 1))) M0 M13_35 := (F8).tr (f33.mono (mo_118))
            intro g36
            have h37 := h33 g36
            refine fmX11_draw h37 ?_
            intro x14_39 M14_40 f38 h38
            have F38 : Ks (fun k j => k = 0 ∨ (8 ≤ k ∧ k ≤ 14) ∨ (160 ≤ k ∧ k ≤ 162) ∨ (190 ≤ k ∧ k ≤ 191) ∨ (195 ≤ k ∧ k ≤ 196) ∨ (k = 155 ∧ (j = 15)) ∨ (k = 167 ∧ (j = 1))) M0 M14_40 := (F33).tr (f38.mono (mo_118))
            intro g41
            have h42 := h38 g41
            obtain ⟨v43, h43⟩ := h42
            refine ⟨v43, ?_⟩
            refine fmX6_shove h43 ?_
            intro x16_45 M16_46 f44 h44
            have F44 : Ks (fun k j => k = 0 ∨ (8 ≤ k ∧ k ≤ 14) ∨ (160 ≤ k ∧ k ≤ 162) ∨ (190 ≤ k ∧ k ≤ 191) ∨ (195 ≤ k ∧ k ≤ 196) ∨ (k = 155 ∧ (j = 15)) ∨ (k = 167 ∧ (j = 1))) M0 M16_46 := (F38).tr (f44.mono (mo_119))
            intro g47
            have h48 := h44 g47
            exact ih _ _ F44 h48
        · intro g49
          have h50 := h18 g49
          intro x17_51 g52 g53
          have h51 := h50 x17_51 g52 g53
          obtain ⟨h54, h55⟩ := h51
          refine ⟨?_, ?_⟩
          · intro g56
            have h57 := h54 g56
            exact ih _ _ F8 h57
          · intro g58
            have h59 := h55 g58
            intro x19_60 g61 g62
            have h60 := h59 x19_60 g61 g62
            refine fmX11_draw h60 ?_
            intro x20_64 M20_65 f63 h63
            have F63 : Ks (fun k j => k = 0 ∨ (8 ≤ k ∧ k ≤ 14) ∨ (160 ≤ k ∧ k ≤ 162) ∨ (190 ≤ k ∧ k ≤ 191) ∨ (195 ≤ k ∧ k ≤ 196) ∨ (k = 155 ∧ (j = 15)) ∨ (k = 167 ∧ (j = 1))) M0 M20_65 := (F8).tr (f63.mono (mo_118))
            intro g66
            have h67 := h63 g66
            refine fmX6_turn h67 ?_
            intro x21_69 M21_70 f68 h68
            have F68 : Ks (fun k j => k = 0 ∨ (8 ≤ k ∧ k ≤ 14) ∨ (160 ≤ k ∧ k ≤ 162) ∨ (190 ≤ k ∧ k ≤ 191) ∨ (195 ≤ k ∧ k ≤ 196) ∨ (k = 155 ∧ (j = 15)) ∨ (k = 167 ∧ (j = 1))) M0 M21_70 := (F63).tr (f68.mono (mo_120))
            intro g71
            have h72 := h68 g71
            exact ih _ _ F68 h72
      · intro g73
        have h74 := h14 g73
        obtain ⟨v75, h75⟩ := h74
        refine ⟨v75, ?_⟩
        have w75 : (M7_10 155 16).toNat = 187 ∨ (M7_10 155 16).toNat = 192 := v75
        refine fmX10_advance h75 ?_
        intro M23_77 f76 h76
        have F76 : Ks (fun k j => k = 0 ∨ (8 ≤ k ∧ k ≤ 14) ∨ (160 ≤ k ∧ k ≤ 162) ∨ (190 ≤ k ∧ k ≤ 191) ∨ (195 ≤ k ∧ k ≤ 196) ∨ (k = 155 ∧ (j = 15)) ∨ (k = 167 ∧ (j = 1))) M0 M23_77 := (F8).tr (f76.mono (fun k j h => w75.elim (fun e => mo_121 k j (by rw [e] at h; exact h)) (fun e => mo_122 k j (by rw [e] at h; exact h))))
        exact ih _ _ F76 h76
theorem fmX11_years {p1 : Int} {p2 : Int} {M : Mem} {Q Q' : Int → Mem → Prop} (h : qX11_years p1 p2 M Q) (hQ : ∀ (w0 : Int) (M' : Mem), Ks (fun k j => k = 0 ∨ (8 ≤ k ∧ k ≤ 14) ∨ (160 ≤ k ∧ k ≤ 162) ∨ (190 ≤ k ∧ k ≤ 191) ∨ (195 ≤ k ∧ k ≤ 196) ∨ (k = 155 ∧ (j = 15)) ∨ (k = 167 ∧ (j = 1))) M M' → Q w0 M' → Q' w0 M') : qX11_years p1 p2 M Q' := by
  unfold qX11_years at h ⊢
  obtain ⟨h1, h2⟩ := h
  refine ⟨?_, ?_⟩
  · intro g3
    have h4 := h1 g3
    exact hQ _ _ Ks.rf h4
  · intro g5
    have h6 := h2 g5
    obtain ⟨h7, h8⟩ := h6
    refine ⟨?_, ?_⟩
    · intro g9
      have h10 := h7 g9
      refine fmX6_copyFrom h10 ?_
      intro M3_12 f11 h11
      have F11 : Ks (fun k j => k = 0 ∨ (8 ≤ k ∧ k ≤ 14) ∨ (160 ≤ k ∧ k ≤ 162) ∨ (190 ≤ k ∧ k ≤ 191) ∨ (195 ≤ k ∧ k ≤ 196) ∨ (k = 155 ∧ (j = 15)) ∨ (k = 167 ∧ (j = 1))) M M3_12 := (Ks.rf).tr (f11.mono (mo_123))
      intro M4_13 eM4_13
      have h13 := h11 M4_13 eM4_13
      have F13 : Ks (fun k j => k = 0 ∨ (8 ≤ k ∧ k ≤ 14) ∨ (160 ≤ k ∧ k ≤ 162) ∨ (190 ≤ k ∧ k ≤ 191) ∨ (195 ≤ k ∧ k ≤ 196) ∨ (k = 155 ∧ (j = 15)) ∨ (k = 167 ∧ (j = 1))) M M4_13 := by rw [eM4_13]; exact (F11).wr (mw_98)
      obtain ⟨n14, h14⟩ := h13
      refine ⟨n14, ?_⟩
      refine fmX11_years_L31 hQ ?_ _ _ _ F13 h14
      · intro M_16 F15 h15
        intro x25_17 g18 g19
        have h17 := h15 x25_17 g18 g19
        refine fmX6_rightBits h17 ?_
        intro x26_21 M26_22 f20 h20
        have F20 : Ks (fun k j => k = 0 ∨ (8 ≤ k ∧ k ≤ 14) ∨ (160 ≤ k ∧ k ≤ 162) ∨ (190 ≤ k ∧ k ≤ 191) ∨ (195 ≤ k ∧ k ≤ 196) ∨ (k = 155 ∧ (j = 15)) ∨ (k = 167 ∧ (j = 1))) M M26_22 := (F15).tr (f20.mono (fun _ _ h => False.elim h))
        intro g23
        have h24 := h20 g23
        refine fmJ6_bitCount_0f7a4 h24 ?_
        intro x27_26 M27_27 f25 h25
        have F25 : Ks (fun k j => k = 0 ∨ (8 ≤ k ∧ k ≤ 14) ∨ (160 ≤ k ∧ k ≤ 162) ∨ (190 ≤ k ∧ k ≤ 191) ∨ (195 ≤ k ∧ k ≤ 196) ∨ (k = 155 ∧ (j = 15)) ∨ (k = 167 ∧ (j = 1))) M M27_27 := (F20).tr (f25.mono (fun _ _ h => False.elim h))
        intro g28
        have h29 := h25 g28
        refine fmX4_tellTwo h29 ?_
        intro M28_31 f30 h30
        have F30 : Ks (fun k j => k = 0 ∨ (8 ≤ k ∧ k ≤ 14) ∨ (160 ≤ k ∧ k ≤ 162) ∨ (190 ≤ k ∧ k ≤ 191) ∨ (195 ≤ k ∧ k ≤ 196) ∨ (k = 155 ∧ (j = 15)) ∨ (k = 167 ∧ (j = 1))) M M28_31 := (F25).tr (f30.mono (mo_124))
        intro x29_32 g33 g34
        have h32 := h30 x29_32 g33 g34
        exact hQ _ _ F30 h32
    · intro g35
      have h36 := h8 g35
      exact hQ _ _ Ks.rf h36
theorem fmX11_keep {p1 : Int} {M : Mem} {Q Q' : Int → Mem → Prop} (h : qX11_keep p1 M Q) (hQ : ∀ (w0 : Int) (M' : Mem), Ks (fun k j => (29 ≤ k ∧ k ≤ 49) ∨ k = 166) M M' → Q w0 M' → Q' w0 M') : qX11_keep p1 M Q' := by
  unfold qX11_keep at h ⊢
  obtain ⟨h1, h2⟩ := h
  refine ⟨?_, ?_⟩
  · intro g3
    have h4 := h1 g3
    exact hQ _ _ Ks.rf h4
  · intro g5
    have h6 := h2 g5
    obtain ⟨h7, h8⟩ := h6
    refine ⟨?_, ?_⟩
    · intro g9
      have h10 := h7 g9
      obtain ⟨v11, h11⟩ := h10
      refine ⟨v11, ?_⟩
      obtain ⟨v12, h12⟩ := h11
      refine ⟨v12, ?_⟩
      refine fmX6_copyFrom h12 ?_
      intro M5_14 f13 h13
      have F13 : Ks (fun k j => (29 ≤ k ∧ k ≤ 49) ∨ k = 166) M M5_14 := (Ks.rf).tr (f13.mono (by intro k j h; first | exact False.elim h | omega))
      intro M6_15 eM6_15
      have h15 := h13 M6_15 eM6_15
      have F15 : Ks (fun k j => (29 ≤ k ∧ k ≤ 49) ∨ k = 166) M M6_15 := by rw [eM6_15]; exact (F13).wr (mw_99)
      exact hQ _ _ F15 h15
    · intro g16
      have h17 := h8 g16
      exact hQ _ _ Ks.rf h17
theorem fmX11_again {p1 : Int} {M : Mem} {Q Q' : Int → Mem → Prop} (h : qX11_again p1 M Q) (hQ : ∀ (w0 : Int) (M' : Mem), Ks (fun k j => (2 ≤ k ∧ k ≤ 7) ∨ (k = 1 ∧ (j = 6 ∨ j = 7 ∨ j = 8 ∨ j = 9 ∨ j = 10)) ∨ (k = 163 ∧ (j = 2))) M M' → Q w0 M' → Q' w0 M') : qX11_again p1 M Q' := by
  unfold qX11_again at h ⊢
  obtain ⟨h1, h2⟩ := h
  refine ⟨?_, ?_⟩
  · intro g3
    have h4 := h1 g3
    exact hQ _ _ Ks.rf h4
  · intro g5
    have h6 := h2 g5
    obtain ⟨h7, h8⟩ := h6
    refine ⟨?_, ?_⟩
    · intro g9
      have h10 := h7 g9
      exact hQ _ _ Ks.rf h10
    · intro g11
      have h12 := h8 g11
      obtain ⟨v13, h13⟩ := h12
      refine ⟨v13, ?_⟩
      obtain ⟨v14, h14⟩ := h13
      refine ⟨v14, ?_⟩
      intro x5_15 g16 g17
      have h15 := h14 x5_15 g16 g17
      obtain ⟨h18, h19⟩ := h15
      refine ⟨?_, ?_⟩
      · intro g20
        have h21 := h18 g20
        intro x7_22 g23 g24
        have h22 := h21 x7_22 g23 g24
        intro x8_25 g26 g27
        have h25 := h22 x8_25 g26 g27
        obtain ⟨h28, h29⟩ := h25
        refine ⟨?_, ?_⟩
        · intro g30
          have h31 := h28 g30
          exact hQ _ _ Ks.rf h31
        · intro g32
          have h33 := h29 g32
          intro x10_34 g35 g36
          have h34 := h33 x10_34 g35 g36
          intro x11_37 g38 g39
          have h37 := h34 x11_37 g38 g39
          obtain ⟨h40, h41⟩ := h37
          refine ⟨?_, ?_⟩
          · intro g42
            have h43 := h40 g42
            refine fmX6_copyFrom h43 ?_
            intro M13_45 f44 h44
            have F44 : Ks (fun k j => (2 ≤ k ∧ k ≤ 7) ∨ (k = 1 ∧ (j = 6 ∨ j = 7 ∨ j = 8 ∨ j = 9 ∨ j = 10)) ∨ (k = 163 ∧ (j = 2))) M M13_45 := (Ks.rf).tr (f44.mono (mo_125))
            refine fmX1_clear h44 ?_
            intro M14_47 f46 h46
            have F46 : Ks (fun k j => (2 ≤ k ∧ k ≤ 7) ∨ (k = 1 ∧ (j = 6 ∨ j = 7 ∨ j = 8 ∨ j = 9 ∨ j = 10)) ∨ (k = 163 ∧ (j = 2))) M M14_47 := (F44).tr (f46.mono (mo_126))
            exact hQ _ _ F46 h46
          · intro g48
            have h49 := h41 g48
            exact hQ _ _ Ks.rf h49
      · intro g50
        have h51 := h19 g50
        exact hQ _ _ Ks.rf h51
theorem fmX11_count {p1 : Int} {M : Mem} {Q Q' : Int → Mem → Prop} (h : qX11_count p1 M Q) (hQ : ∀ (w0 : Int) (M' : Mem), Ks (fun _ _ => False) M M' → Q w0 M' → Q' w0 M') : qX11_count p1 M Q' := by
  unfold qX11_count at h ⊢
  obtain ⟨h1, h2, h3, h4, h5, h6, h7, h8, h9, h10, h11, h12, h13, h14⟩ := h
  refine ⟨?_, ?_, ?_, ?_, ?_, ?_, ?_, ?_, ?_, ?_, ?_, ?_, ?_, ?_⟩
  · intro g15
    have h16 := h1 g15
    intro x2_17 g18 g19
    have h17 := h16 x2_17 g18 g19
    exact hQ _ _ Ks.rf h17
  · intro g20
    have h21 := h2 g20
    intro x3_22 g23 g24
    have h22 := h21 x3_22 g23 g24
    exact hQ _ _ Ks.rf h22
  · intro g25
    have h26 := h3 g25
    intro x4_27 g28 g29
    have h27 := h26 x4_27 g28 g29
    exact hQ _ _ Ks.rf h27
  · intro g30
    have h31 := h4 g30
    intro x5_32 g33 g34
    have h32 := h31 x5_32 g33 g34
    exact hQ _ _ Ks.rf h32
  · intro g35
    have h36 := h5 g35
    intro x6_37 g38 g39
    have h37 := h36 x6_37 g38 g39
    exact hQ _ _ Ks.rf h37
  · intro g40
    have h41 := h6 g40
    intro x7_42 g43 g44
    have h42 := h41 x7_42 g43 g44
    exact hQ _ _ Ks.rf h42
  · intro g45
    have h46 := h7 g45
    refine fmX6_rightBits h46 ?_
    intro x8_48 M8_49 f47 h47
    have F47 : Ks (fun _ _ => False) M M8_49 := (Ks.rf).tr (f47.mono (fun _ _ h => False.elim h))
    intro g50
    have h51 := h47 g50
    refine fmJ6_bitCount_0f7a4 h51 ?_
    intro x9_53 M9_54 f52 h52
    have F52 : Ks (fun _ _ => False) M M9_54 := (F47).tr (f52.mono (fun _ _ h => False.elim h))
    intro g55
    have h56 := h52 g55
    exact hQ _ _ F52 h56
  · intro g57
    have h58 := h8 g57
    intro x10_59 g60 g61
    have h59 := h58 x10_59 g60 g61
    refine fmJ6_bitCount_0f7a4 h59 ?_
    intro x11_63 M11_64 f62 h62
    have F62 : Ks (fun _ _ => False) M M11_64 := (Ks.rf).tr (f62.mono (fun _ _ h => False.elim h))
    intro g65
    have h66 := h62 g65
    exact hQ _ _ F62 h66
  · intro g67
    have h68 := h9 g67
    intro x12_69 g70 g71
    have h69 := h68 x12_69 g70 g71
    refine fmX8_weatherAt h69 ?_
    intro x13_73 M13_74 f72 h72
    have F72 : Ks (fun _ _ => False) M M13_74 := (Ks.rf).tr (f72.mono (fun _ _ h => False.elim h))
    intro g75
    have h76 := h72 g75
    exact hQ _ _ F72 h76
  · intro g77
    have h78 := h10 g77
    intro x14_79 g80 g81
    have h79 := h78 x14_79 g80 g81
    exact hQ _ _ Ks.rf h79
  · intro g82
    have h83 := h11 g82
    intro x15_84 g85 g86
    have h84 := h83 x15_84 g85 g86
    exact hQ _ _ Ks.rf h84
  · intro g87
    have h88 := h12 g87
    intro x16_89 g90 g91
    have h89 := h88 x16_89 g90 g91
    exact hQ _ _ Ks.rf h89
  · intro g92
    have h93 := h13 g92
    intro x17_94 g95 g96
    have h94 := h93 x17_94 g95 g96
    exact hQ _ _ Ks.rf h94
  · intro g97
    have h98 := h14 g97
    exact hQ _ _ Ks.rf h98
theorem fmX11_paceNow {p1 : Int} {M : Mem} {Q Q' : Int → Mem → Prop} (h : qX11_paceNow p1 M Q) (hQ : ∀ (w0 : Int) (M' : Mem), Ks (fun k j => (190 ≤ k ∧ k ≤ 191) ∨ (195 ≤ k ∧ k ≤ 196)) M M' → Q w0 M' → Q' w0 M') : qX11_paceNow p1 M Q' := by
  unfold qX11_paceNow at h ⊢
  refine fmX6_hasArrived h ?_
  intro x1_2 M1_3 f1 h1
  have F1 : Ks (fun k j => (190 ≤ k ∧ k ≤ 191) ∨ (195 ≤ k ∧ k ≤ 196)) M M1_3 := (Ks.rf).tr (f1.mono (fun _ _ h => False.elim h))
  intro g4 g5
  have h6 := h1 g4 g5
  obtain ⟨h7, h8⟩ := h6
  refine ⟨?_, ?_⟩
  · intro g9
    have h10 := h7 g9
    obtain ⟨v11, h11⟩ := h10
    refine ⟨v11, ?_⟩
    have w11 : (M1_3 155 16).toNat = 187 ∨ (M1_3 155 16).toNat = 192 := v11
    refine fmX2_observe h11 ?_
    intro M4_13 f12 h12
    have F12 : Ks (fun k j => (190 ≤ k ∧ k ≤ 191) ∨ (195 ≤ k ∧ k ≤ 196)) M M4_13 := (F1).tr (f12.mono (fun k j h => w11.elim (fun e => mo_127 k j (by rw [e] at h; exact h)) (fun e => mo_128 k j (by rw [e] at h; exact h))))
    obtain ⟨v14, h14⟩ := h12
    refine ⟨v14, ?_⟩
    have w14 : (M4_13 155 16).toNat = 187 ∨ (M4_13 155 16).toNat = 192 := v14
    refine fmX2_pace h14 ?_
    intro x6_16 M6_17 f15 h15
    have F15 : Ks (fun k j => (190 ≤ k ∧ k ≤ 191) ∨ (195 ≤ k ∧ k ≤ 196)) M M6_17 := (F12).tr (f15.mono (fun k j h => w14.elim (fun e => mo_129 k j (by rw [e] at h; exact h)) (fun e => mo_130 k j (by rw [e] at h; exact h))))
    intro g18
    have h19 := h15 g18
    exact hQ _ _ F15 h19
  · intro g20
    have h21 := h8 g20
    exact hQ _ _ F1 h21
theorem fmX11_hearse {p1 : Int} {p2 : Int} {M : Mem} {Q Q' : Int → Mem → Prop} {E E' : Mem → Prop} (h : qX11_hearse p1 p2 M Q E) (hQ : ∀ (w0 : Int) (M' : Mem), Ks (fun k j => (190 ≤ k ∧ k ≤ 191) ∨ (195 ≤ k ∧ k ≤ 196)) M M' → Q w0 M' → Q' w0 M') (hE : ∀ (M' : Mem), Ks (fun k j => (190 ≤ k ∧ k ≤ 191) ∨ (195 ≤ k ∧ k ≤ 196)) M M' → E M' → E' M') : qX11_hearse p1 p2 M Q' E' := by
  unfold qX11_hearse at h ⊢
  refine fmX6_isHearse h ?_
  intro x1_2 M1_3 f1 h1
  have F1 : Ks (fun k j => (190 ≤ k ∧ k ≤ 191) ∨ (195 ≤ k ∧ k ≤ 196)) M M1_3 := (Ks.rf).tr (f1.mono (fun _ _ h => False.elim h))
  intro g4 g5
  have h6 := h1 g4 g5
  obtain ⟨h7, h8⟩ := h6
  refine ⟨?_, ?_⟩
  · intro g9
    have h10 := h7 g9
    obtain ⟨h11, h12, h13, h14, h15, h16, h17⟩ := h10
    refine ⟨?_, ?_, ?_, ?_, ?_, ?_, ?_⟩
    · intro g18
      have h19 := h11 g18
      obtain ⟨v20, h20⟩ := h19
      refine ⟨v20, ?_⟩
      obtain ⟨v21, h21⟩ := h20
      refine ⟨v21, ?_⟩
      intro x6_22 g23 g24
      have h22 := h21 x6_22 g23 g24
      exact hQ _ _ F1 h22
    · intro g25
      have h26 := h12 g25
      obtain ⟨v27, h27⟩ := h26
      refine ⟨v27, ?_⟩
      obtain ⟨v28, h28⟩ := h27
      refine ⟨v28, ?_⟩
      intro x9_29 g30 g31
      have h29 := h28 x9_29 g30 g31
      exact hQ _ _ F1 h29
    · intro g32
      have h33 := h13 g32
      refine fmX11_paceNow h33 ?_
      intro x10_35 M10_36 f34 h34
      have F34 : Ks (fun k j => (190 ≤ k ∧ k ≤ 191) ∨ (195 ≤ k ∧ k ≤ 196)) M M10_36 := (F1).tr (f34.mono (fun _ _ h => h))
      intro g37
      have h38 := h34 g37
      exact hQ _ _ F34 h38
    · intro g39
      have h40 := h14 g39
      refine fmX6_bitsOf h40 ?_
      intro x11_42 M11_43 f41 h41
      have F41 : Ks (fun k j => (190 ≤ k ∧ k ≤ 191) ∨ (195 ≤ k ∧ k ≤ 196)) M M11_43 := (F1).tr (f41.mono (fun _ _ h => False.elim h))
      intro g44
      have h45 := h41 g44
      exact hQ _ _ F41 h45
    · intro g46
      have h47 := h15 g46
      refine fmX6_bitsOf h47 ?_
      intro x12_49 M12_50 f48 h48
      have F48 : Ks (fun k j => (190 ≤ k ∧ k ≤ 191) ∨ (195 ≤ k ∧ k ≤ 196)) M M12_50 := (F1).tr (f48.mono (fun _ _ h => False.elim h))
      intro g51
      have h52 := h48 g51
      exact hQ _ _ F48 h52
    · intro g53
      have h54 := h16 g53
      refine fmX6_bitsOf h54 ?_
      intro x13_56 M13_57 f55 h55
      have F55 : Ks (fun k j => (190 ≤ k ∧ k ≤ 191) ∨ (195 ≤ k ∧ k ≤ 196)) M M13_57 := (F1).tr (f55.mono (fun _ _ h => False.elim h))
      intro g58
      have h59 := h55 g58
      exact hQ _ _ F55 h59
    · intro g60
      have h61 := h17 g60
      exact hE _ F1 h61
  · intro g62
    have h63 := h8 g62
    exact hE _ F1 h63
theorem fmX11_mourner {p1 : Int} {p2 : Int} {M : Mem} {Q Q' : Int → Mem → Prop} {E E' : Mem → Prop} (h : qX11_mourner p1 p2 M Q E) (hQ : ∀ (w0 : Int) (M' : Mem), Ks (fun _ _ => False) M M' → Q w0 M' → Q' w0 M') (hE : ∀ (M' : Mem), Ks (fun _ _ => False) M M' → E M' → E' M') : qX11_mourner p1 p2 M Q' E' := by
  unfold qX11_mourner at h ⊢
  refine fmX6_isMourner h ?_
  intro x1_2 M1_3 f1 h1
  have F1 : Ks (fun _ _ => False) M M1_3 := (Ks.rf).tr (f1.mono (fun _ _ h => False.elim h))
  intro g4 g5
  have h6 := h1 g4 g5
  obtain ⟨h7, h8⟩ := h6
  refine ⟨?_, ?_⟩
  · intro g9
    have h10 := h7 g9
    obtain ⟨h11, h12, h13, h14, h15, h16⟩ := h10
    refine ⟨?_, ?_, ?_, ?_, ?_, ?_⟩
    · intro g17
      have h18 := h11 g17
      obtain ⟨v19, h19⟩ := h18
      refine ⟨v19, ?_⟩
      obtain ⟨v20, h20⟩ := h19
      refine ⟨v20, ?_⟩
      intro x6_21 g22 g23
      have h21 := h20 x6_21 g22 g23
      exact hQ _ _ F1 h21
    · intro g24
      have h25 := h12 g24
      obtain ⟨v26, h26⟩ := h25
      refine ⟨v26, ?_⟩
      obtain ⟨v27, h27⟩ := h26
      refine ⟨v27, ?_⟩
      intro x9_28 g29 g30
      have h28 := h27 x9_28 g29 g30
      exact hQ _ _ F1 h28
    · intro g31
      have h32 := h13 g31
      obtain ⟨v33, h33⟩ := h32
      refine ⟨v33, ?_⟩
      obtain ⟨v34, h34⟩ := h33
      refine ⟨v34, ?_⟩
      intro x12_35 g36 g37
      have h35 := h34 x12_35 g36 g37
      exact hQ _ _ F1 h35
    · intro g38
      have h39 := h14 g38
      obtain ⟨v40, h40⟩ := h39
      refine ⟨v40, ?_⟩
      obtain ⟨v41, h41⟩ := h40
      refine ⟨v41, ?_⟩
      intro x15_42 g43 g44
      have h42 := h41 x15_42 g43 g44
      exact hQ _ _ F1 h42
    · intro g45
      have h46 := h15 g45
      obtain ⟨v47, h47⟩ := h46
      refine ⟨v47, ?_⟩
      obtain ⟨v48, h48⟩ := h47
      refine ⟨v48, ?_⟩
      intro x18_49 g50 g51
      have h49 := h48 x18_49 g50 g51
      refine fmX6_nearestTo h49 ?_
      intro x19_53 M19_54 f52 h52
      have F52 : Ks (fun _ _ => False) M M19_54 := (F1).tr (f52.mono (fun _ _ h => False.elim h))
      intro g55
      have h56 := h52 g55
      exact hQ _ _ F52 h56
    · intro g57
      have h58 := h16 g57
      exact hE _ F1 h58
  · intro g59
    have h60 := h8 g59
    exact hE _ F1 h60
theorem fmX11_row {p1 : Int} {M : Mem} {Q Q' : Int → Mem → Prop} {E E' : Mem → Prop} (h : qX11_row p1 M Q E) (hQ : ∀ (w0 : Int) (M' : Mem), Ks (fun _ _ => False) M M' → Q w0 M' → Q' w0 M') (hE : ∀ (M' : Mem), Ks (fun _ _ => False) M M' → E M' → E' M') : qX11_row p1 M Q' E' := by
  unfold qX11_row at h ⊢
  obtain ⟨h1, h2⟩ := h
  refine ⟨?_, ?_⟩
  · intro g3
    have h4 := h1 g3
    exact hE _ Ks.rf h4
  · intro g5
    have h6 := h2 g5
    intro x2_7 g8 g9
    have h7 := h6 x2_7 g8 g9
    obtain ⟨h10, h11⟩ := h7
    refine ⟨?_, ?_⟩
    · intro g12
      have h13 := h10 g12
      obtain ⟨v14, h14⟩ := h13
      refine ⟨v14, ?_⟩
      obtain ⟨v15, h15⟩ := h14
      refine ⟨v15, ?_⟩
      intro x6_16 g17 g18
      have h16 := h15 x6_16 g17 g18
      exact hQ _ _ Ks.rf h16
    · intro g19
      have h20 := h11 g19
      exact hE _ Ks.rf h20
end
