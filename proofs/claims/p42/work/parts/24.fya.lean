theorem fmX12_sign_L18 {p1 : Int} {X53 X53' : Mem → Prop} {Q Q' : Int → Mem → Prop} {M0 : Mem} (hQ : ∀ (w0 : Int) (M' : Mem), Ks (fun k j => k = 7 ∨ (k = 1 ∧ (j = 0 ∨ j = 14))) M0 M' → Q w0 M' → Q' w0 M') (hX53 : ∀ (M' : Mem), Ks (fun k j => k = 7 ∨ (k = 1 ∧ (j = 0 ∨ j = 14))) M0 M' → X53 M' → X53' M') : ∀ (n : Nat) (v2 : Int) (M : Mem), Ks (fun k j => k = 7 ∨ (k = 1 ∧ (j = 0 ∨ j = 14))) M0 M → qX12_sign_L18 p1 X53 Q n v2 M → qX12_sign_L18 p1 X53' Q' n v2 M := by
  intro n
  induction n with
  | zero => intro v2 M _ h; exact h.elim
  | succ n ih =>
    intro v2 M hF h
    rw [qX12_sign_L18] at h
    rw [qX12_sign_L18]
    obtain ⟨v1, h1⟩ := h
    refine ⟨v1, ?_⟩
    obtain ⟨h2, h3⟩ := h1
    refine ⟨?_, ?_⟩
    · intro g4
      have h5 := h2 g4
      exact hX53 _ hF h5
    · intro g6
      have h7 := h3 g6
      intro x6_8 g9 g10
      have h8 := h7 x6_8 g9 g10
      intro x7_11 g12 g13
      have h11 := h8 x7_11 g12 g13
      intro x8_14 g15 g16
      have h14 := h11 x8_14 g15 g16
      obtain ⟨v17, h17⟩ := h14
      refine ⟨v17, ?_⟩
      obtain ⟨v18, h18⟩ := h17
      refine ⟨v18, ?_⟩
      intro M11_19 eM11_19
      have h19 := h18 M11_19 eM11_19
      have F19 : Ks (fun k j => k = 7 ∨ (k = 1 ∧ (j = 0 ∨ j = 14))) M0 M11_19 := by rw [eM11_19]; exact (hF).wr (mw_100 _)
      exact ih _ _ F19 h19
theorem fmX12_sign {p1 : Int} {M : Mem} {Q Q' : Int → Mem → Prop} (h : qX12_sign p1 M Q) (hQ : ∀ (w0 : Int) (M' : Mem), Ks (fun k j => k = 7 ∨ (k = 1 ∧ (j = 0 ∨ j = 14))) M M' → Q w0 M' → Q' w0 M') : qX12_sign p1 M Q' := by
  unfold qX12_sign at h ⊢
  intro M1_1 eM1_1
  have h1 := h M1_1 eM1_1
  have F1 : Ks (fun k j => k = 7 ∨ (k = 1 ∧ (j = 0 ∨ j = 14))) M M1_1 := by rw [eM1_1]; exact (Ks.rf).wr (mw_101)
  intro x2_2 g3 g4
  have h2 := h1 x2_2 g3 g4
  obtain ⟨h5, h6⟩ := h2
  refine ⟨?_, ?_⟩
  · intro g7
    have h8 := h5 g7
    obtain ⟨n9, h9⟩ := h8
    refine ⟨n9, ?_⟩
    refine fmX12_sign_L18 hQ ?_ _ _ _ F1 h9
    · intro M_11 F10 h10
      intro x13_12 g13 g14
      have h12 := h10 x13_12 g13 g14
      obtain ⟨v15, h15⟩ := h12
      refine ⟨v15, ?_⟩
      intro M15_16 eM15_16
      have h16 := h15 M15_16 eM15_16
      have F16 : Ks (fun k j => k = 7 ∨ (k = 1 ∧ (j = 0 ∨ j = 14))) M M15_16 := by rw [eM15_16]; exact (F10).wr (mw_102)
      intro x16_17 g18 g19
      have h17 := h16 x16_17 g18 g19
      exact hQ _ _ F16 h17
  · intro g20
    have h21 := h6 g20
    exact hQ _ _ F1 h21
theorem fmX12_in {p0 : Int} {p2 : Int} {p4 : Int} {M : Mem} {Q Q' : Int → Mem → Prop} (h : qX12_in p0 p2 p4 M Q) (hQ : ∀ (w0 : Int) (M' : Mem), Ks (fun _ _ => False) M M' → Q w0 M' → Q' w0 M') : qX12_in p0 p2 p4 M Q' := by
  unfold qX12_in at h ⊢
  intro x1_1 g2 g3
  have h1 := h x1_1 g2 g3
  obtain ⟨h4, h5⟩ := h1
  refine ⟨?_, ?_⟩
  · intro g6
    have h7 := h4 g6
    exact hQ _ _ Ks.rf h7
  · intro g8
    have h9 := h5 g8
    intro x3_10 g11 g12
    have h10 := h9 x3_10 g11 g12
    obtain ⟨h13, h14⟩ := h10
    refine ⟨?_, ?_⟩
    · intro g15
      have h16 := h13 g15
      exact hQ _ _ Ks.rf h16
    · intro g17
      have h18 := h14 g17
      exact hQ _ _ Ks.rf h18
theorem fmX12_end {p1 : Int} {M : Mem} {Q Q' : Int → Mem → Prop} (h : qX12_end p1 M Q) (hQ : ∀ (w0 : Int) (M' : Mem), Ks (fun k j => (k = 1 ∧ (j = 0 ∨ j = 14))) M M' → Q w0 M' → Q' w0 M') : qX12_end p1 M Q' := by
  unfold qX12_end at h ⊢
  intro M1_1 eM1_1
  have h1 := h M1_1 eM1_1
  have F1 : Ks (fun k j => (k = 1 ∧ (j = 0 ∨ j = 14))) M M1_1 := by rw [eM1_1]; exact (Ks.rf).wr (mw_103)
  intro x2_2 g3 g4
  have h2 := h1 x2_2 g3 g4
  refine fmX12_in h2 ?_
  intro x3_6 M3_7 f5 h5
  have F5 : Ks (fun k j => (k = 1 ∧ (j = 0 ∨ j = 14))) M M3_7 := (F1).tr (f5.mono (fun _ _ h => False.elim h))
  intro g8 g9
  have h10 := h5 g8 g9
  obtain ⟨h11, h12⟩ := h10
  refine ⟨?_, ?_⟩
  · intro g13
    have h14 := h11 g13
    intro M5_15 eM5_15
    have h15 := h14 M5_15 eM5_15
    have F15 : Ks (fun k j => (k = 1 ∧ (j = 0 ∨ j = 14))) M M5_15 := by rw [eM5_15]; exact (F5).wr (mw_104)
    exact hQ _ _ F15 h15
  · intro g16
    have h17 := h12 g16
    exact hQ _ _ F5 h17
theorem fmX12_begins {p1 : Int} {M : Mem} {Q Q' : Int → Mem → Prop} (h : qX12_begins p1 M Q) (hQ : ∀ (w0 : Int) (M' : Mem), Ks (fun k j => (k = 1 ∧ (j = 14 ∨ j = 15 ∨ j = 16 ∨ j = 17))) M M' → Q w0 M' → Q' w0 M') : qX12_begins p1 M Q' := by
  unfold qX12_begins at h ⊢
  intro x1_1 g2 g3
  have h1 := h x1_1 g2 g3
  intro M2_4 eM2_4
  have h4 := h1 M2_4 eM2_4
  have F4 : Ks (fun k j => (k = 1 ∧ (j = 14 ∨ j = 15 ∨ j = 16 ∨ j = 17))) M M2_4 := by rw [eM2_4]; exact (Ks.rf).wr (mw_105)
  intro M3_5 eM3_5
  have h5 := h4 M3_5 eM3_5
  have F5 : Ks (fun k j => (k = 1 ∧ (j = 14 ∨ j = 15 ∨ j = 16 ∨ j = 17))) M M3_5 := by rw [eM3_5]; exact (F4).wr (mw_106)
  intro M4_6 eM4_6
  have h6 := h5 M4_6 eM4_6
  have F6 : Ks (fun k j => (k = 1 ∧ (j = 14 ∨ j = 15 ∨ j = 16 ∨ j = 17))) M M4_6 := by rw [eM4_6]; exact (F5).wr (mw_107)
  intro x5_7 g8 g9
  have h7 := h6 x5_7 g8 g9
  intro M6_10 eM6_10
  have h10 := h7 M6_10 eM6_10
  have F10 : Ks (fun k j => (k = 1 ∧ (j = 14 ∨ j = 15 ∨ j = 16 ∨ j = 17))) M M6_10 := by rw [eM6_10]; exact (F6).wr (mw_108)
  exact hQ _ _ F10 h10
theorem fmX12_flag {p0 : Int} {M : Mem} {Q Q' : Int → Mem → Prop} (h : qX12_flag p0 M Q) (hQ : ∀ (w0 : Int) (M' : Mem), Ks (fun _ _ => False) M M' → Q w0 M' → Q' w0 M') : qX12_flag p0 M Q' := by
  unfold qX12_flag at h ⊢
  obtain ⟨h1, h2⟩ := h
  refine ⟨?_, ?_⟩
  · intro g3
    have h4 := h1 g3
    exact hQ _ _ Ks.rf h4
  · intro g5
    have h6 := h2 g5
    exact hQ _ _ Ks.rf h6
theorem fmX12_takesOf_L2 {bs : List Int} {X38 X38' : Int → Mem → Prop} {Q Q' : Int → Mem → Prop} {M0 : Mem} (hQ : ∀ (w0 : Int) (M' : Mem), Ks (fun k j => (k = 1 ∧ (j = 15))) M0 M' → Q w0 M' → Q' w0 M') (hX38 : ∀ (w0 : Int) (M' : Mem), Ks (fun k j => (k = 1 ∧ (j = 15))) M0 M' → X38 w0 M' → X38' w0 M') : ∀ (n : Nat) (v2 : Int) (M : Mem), Ks (fun k j => (k = 1 ∧ (j = 15))) M0 M → qX12_takesOf_L2 bs X38 Q n v2 M → qX12_takesOf_L2 bs X38' Q' n v2 M := by
  intro n
  induction n with
  | zero => intro v2 M _ h; exact h.elim
  | succ n ih =>
    intro v2 M hF h
    rw [qX12_takesOf_L2] at h
    rw [qX12_takesOf_L2]
    intro x1_1 g2 g3
    have h1 := h x1_1 g2 g3
    obtain ⟨v4, h4⟩ := h1
    refine ⟨v4, ?_⟩
    obtain ⟨h5, h6⟩ := h4
    refine ⟨?_, ?_⟩
    · intro g7
      have h8 := h5 g7
      exact hQ _ _ hF h8
    · intro g9
      have h10 := h6 g9
      intro x4_11 g12 g13
      have h11 := h10 x4_11 g12 g13
      intro x5_14 g15 g16
      have h14 := h11 x5_14 g15 g16
      obtain ⟨h17, h18⟩ := h14
      refine ⟨?_, ?_⟩
      · intro g19
        have h20 := h17 g19
        exact hQ _ _ hF h20
      · intro g21
        have h22 := h18 g21
        obtain ⟨v23, h23⟩ := h22
        refine ⟨v23, ?_⟩
        obtain ⟨v24, h24⟩ := h23
        refine ⟨v24, ?_⟩
        intro x9_25 g26 g27
        have h25 := h24 x9_25 g26 g27
        intro x10_28 g29 g30
        have h28 := h25 x10_28 g29 g30
        obtain ⟨v31, h31⟩ := h28
        refine ⟨v31, ?_⟩
        obtain ⟨v32, h32⟩ := h31
        refine ⟨v32, ?_⟩
        intro x13_33 g34 g35
        have h33 := h32 x13_33 g34 g35
        obtain ⟨h36, h37⟩ := h33
        refine ⟨?_, ?_⟩
        · intro g38
          have h39 := h36 g38
          exact ih _ _ hF h39
        · intro g40
          have h41 := h37 g40
          exact hX38 _ _ hF h41
theorem fmX12_takesOf {bs : List Int} {M : Mem} {Q Q' : Int → Mem → Prop} (h : qX12_takesOf bs M Q) (hQ : ∀ (w0 : Int) (M' : Mem), Ks (fun k j => (k = 1 ∧ (j = 15))) M M' → Q w0 M' → Q' w0 M') : qX12_takesOf bs M Q' := by
  unfold qX12_takesOf at h ⊢
  obtain ⟨n1, h1⟩ := h
  refine ⟨n1, ?_⟩
  refine fmX12_takesOf_L2 hQ ?_ _ _ _ Ks.rf h1
  · intro v2_3 M_4 F2 h2
    intro x16_5 g6 g7
    have h5 := h2 x16_5 g6 g7
    obtain ⟨v8, h8⟩ := h5
    refine ⟨v8, ?_⟩
    intro M18_9 eM18_9
    have h9 := h8 M18_9 eM18_9
    have F9 : Ks (fun k j => (k = 1 ∧ (j = 15))) M M18_9 := by rw [eM18_9]; exact (F2).wr (mw_109)
    obtain ⟨v10, h10⟩ := h9
    refine ⟨v10, ?_⟩
    exact hQ _ _ F9 h10
theorem fmX12_avenue_L16  {X69 X69' : Int → Mem → Prop} {Q Q' : Int → Mem → Prop} {M0 : Mem} (hQ : ∀ (w0 : Int) (M' : Mem), Ks (fun k j => k = 2 ∨ k = 5 ∨ k = 8 ∨ k = 29 ∨ (k = 1 ∧ (j = 0 ∨ j = 3 ∨ j = 4 ∨ j = 5 ∨ j = 14 ∨ j = 15 ∨ j = 16 ∨ j = 17 ∨ j = 28))) M0 M' → Q w0 M' → Q' w0 M') (hX69 : ∀ (w0 : Int) (M' : Mem), Ks (fun k j => k = 2 ∨ k = 5 ∨ k = 8 ∨ k = 29 ∨ (k = 1 ∧ (j = 0 ∨ j = 3 ∨ j = 4 ∨ j = 5 ∨ j = 14 ∨ j = 15 ∨ j = 16 ∨ j = 17 ∨ j = 28))) M0 M' → X69 w0 M' → X69' w0 M') : ∀ (n : Nat) (v1 v2 : Int) (M : Mem), Ks (fun k j => k = 2 ∨ k = 5 ∨ k = 8 ∨ k = 29 ∨ (k = 1 ∧ (j = 0 ∨ j = 3 ∨ j = 4 ∨ j = 5 ∨ j = 14 ∨ j = 15 ∨ j = 16 ∨ j = 17 ∨ j = 28))) M0 M → qX12_avenue_L16 X69 Q n v1 v2 M → qX12_avenue_L16 X69' Q' n v1 v2 M := by
  intro n
  induction n with
  | zero => intro v1 v2 M _ h; exact h.elim
  | succ n ih =>
    intro v1 v2 M hF h
    rw [qX12_avenue_L16] at h
    rw [qX12_avenue_L16]
    obtain ⟨v1, h1⟩ := h
    refine ⟨v1, ?_⟩
    obtain ⟨h2, h3⟩ := h1
    refine ⟨?_, ?_⟩
    · intro g4
      have h5 := h2 g4
      exact hX69 _ _ hF h5
    · intro g6
      have h7 := h3 g6
      obtain ⟨v8, h8⟩ := h7
      refine ⟨v8, ?_⟩
      obtain ⟨h9, h10⟩ := h8
      refine ⟨?_, ?_⟩
      · intro g11
        have h12 := h9 g11
        exact hX69 _ _ hF h12
      · intro g13
        have h14 := h10 g13
        refine fmX12_takesOf h14 ?_
        intro x7_16 M7_17 f15 h15
        have F15 : Ks (fun k j => k = 2 ∨ k = 5 ∨ k = 8 ∨ k = 29 ∨ (k = 1 ∧ (j = 0 ∨ j = 3 ∨ j = 4 ∨ j = 5 ∨ j = 14 ∨ j = 15 ∨ j = 16 ∨ j = 17 ∨ j = 28))) M0 M7_17 := (hF).tr (f15.mono (mo_131))
        intro g18
        have h19 := h15 g18
        obtain ⟨h20, h21⟩ := h19
        refine ⟨?_, ?_⟩
        · intro g22
          have h23 := h20 g22
          unfold qX12_avenue_J42 at h23 ⊢
          obtain ⟨v24, h24⟩ := h23
          refine ⟨v24, ?_⟩
          obtain ⟨h25, h26⟩ := h24
          refine ⟨?_, ?_⟩
          · intro g27
            have h28 := h25 g27
            unfold qX12_avenue_J58 at h28 ⊢
            obtain ⟨v29, h29⟩ := h28
            refine ⟨v29, ?_⟩
            obtain ⟨v30, h30⟩ := h29
            refine ⟨v30, ?_⟩
            obtain ⟨v31, h31⟩ := h30
            refine ⟨v31, ?_⟩
            obtain ⟨v32, h32⟩ := h31
            refine ⟨v32, ?_⟩
            intro M15_33 eM15_33
            have h33 := h32 M15_33 eM15_33
            have F33 : Ks (fun k j => k = 2 ∨ k = 5 ∨ k = 8 ∨ k = 29 ∨ (k = 1 ∧ (j = 0 ∨ j = 3 ∨ j = 4 ∨ j = 5 ∨ j = 14 ∨ j = 15 ∨ j = 16 ∨ j = 17 ∨ j = 28))) M0 M15_33 := by rw [eM15_33]; exact (F15).wr (mw_110 _)
            obtain ⟨v34, h34⟩ := h33
            refine ⟨v34, ?_⟩
            refine fmX12_flag h34 ?_
            intro x17_36 M17_37 f35 h35
            have F35 : Ks (fun k j => k = 2 ∨ k = 5 ∨ k = 8 ∨ k = 29 ∨ (k = 1 ∧ (j = 0 ∨ j = 3 ∨ j = 4 ∨ j = 5 ∨ j = 14 ∨ j = 15 ∨ j = 16 ∨ j = 17 ∨ j = 28))) M0 M17_37 := (F33).tr (f35.mono (fun _ _ h => False.elim h))
            intro g38
            have h39 := h35 g38
            exact ih _ _ _ F35 h39
          · intro g40
            have h41 := h26 g40
            unfold qX12_avenue_J58 at h41 ⊢
            obtain ⟨v42, h42⟩ := h41
            refine ⟨v42, ?_⟩
            obtain ⟨v43, h43⟩ := h42
            refine ⟨v43, ?_⟩
            obtain ⟨v44, h44⟩ := h43
            refine ⟨v44, ?_⟩
            obtain ⟨v45, h45⟩ := h44
            refine ⟨v45, ?_⟩
            intro M15_46 eM15_46
            have h46 := h45 M15_46 eM15_46
            have F46 : Ks (fun k j => k = 2 ∨ k = 5 ∨ k = 8 ∨ k = 29 ∨ (k = 1 ∧ (j = 0 ∨ j = 3 ∨ j = 4 ∨ j = 5 ∨ j = 14 ∨ j = 15 ∨ j = 16 ∨ j = 17 ∨ j = 28))) M0 M15_46 := by rw [eM15_46]; exact (F15).wr (mw_110 _)
            obtain ⟨v47, h47⟩ := h46
            refine ⟨v47, ?_⟩
            refine fmX12_flag h47 ?_
            intro x17_49 M17_50 f48 h48
            have F48 : Ks (fun k j => k = 2 ∨ k = 5 ∨ k = 8 ∨ k = 29 ∨ (k = 1 ∧ (j = 0 ∨ j = 3 ∨ j = 4 ∨ j = 5 ∨ j = 14 ∨ j = 15 ∨ j = 16 ∨ j = 17 ∨ j = 28))) M0 M17_50 := (F46).tr (f48.mono (fun _ _ h => False.elim h))
            intro g51
            have h52 := h48 g51
            exact ih _ _ _ F48 h52
        · intro g53
          have h54 := h21 g53
          unfold qX12_avenue_J42 at h54 ⊢
          obtain ⟨v55, h55⟩ := h54
          refine ⟨v55, ?_⟩
          obtain ⟨h56, h57⟩ := h55
          refine ⟨?_, ?_⟩
          · intro g58
            have h59 := h56 g58
            unfold qX12_avenue_J58 at h59 ⊢
            obtain ⟨v60, h60⟩ := h59
            refine ⟨v60, ?_⟩
            obtain ⟨v61, h61⟩ := h60
            refine ⟨v61, ?_⟩
            obtain ⟨v62, h62⟩ := h61
            refine ⟨v62, ?_⟩
            obtain ⟨v63, h63⟩ := h62
            refine ⟨v63, ?_⟩
            intro M15_64 eM15_64
            have h64 := h63 M15_64 eM15_64
            have F64 : Ks (fun k j => k = 2 ∨ k = 5 ∨ k = 8 ∨ k = 29 ∨ (k = 1 ∧ (j = 0 ∨ j = 3 ∨ j = 4 ∨ j = 5 ∨ j = 14 ∨ j = 15 ∨ j = 16 ∨ j = 17 ∨ j = 28))) M0 M15_64 := by rw [eM15_64]; exact (F15).wr (mw_110 _)
            obtain ⟨v65, h65⟩ := h64
            refine ⟨v65, ?_⟩
            refine fmX12_flag h65 ?_
            intro x17_67 M17_68 f66 h66
            have F66 : Ks (fun k j => k = 2 ∨ k = 5 ∨ k = 8 ∨ k = 29 ∨ (k = 1 ∧ (j = 0 ∨ j = 3 ∨ j = 4 ∨ j = 5 ∨ j = 14 ∨ j = 15 ∨ j = 16 ∨ j = 17 ∨ j = 28))) M0 M17_68 := (F64).tr (f66.mono (fun _ _ h => False.elim h))
            intro g69
            have h70 := h66 g69
            exact ih _ _ _ F66 h70
          · intro g71
            have h72 := h57 g71
            unfold qX12_avenue_J58 at h72 ⊢
            obtain ⟨v73, h73⟩ := h72
            refine ⟨v73, ?_⟩
            obtain ⟨v74, h74⟩ := h73
            refine ⟨v74, ?_⟩
            obtain ⟨v75, h75⟩ := h74
            refine ⟨v75, ?_⟩
            obtain ⟨v76, h76⟩ := h75
            refine ⟨v76, ?_⟩
            intro M15_77 eM15_77
            have h77 := h76 M15_77 eM15_77
            have F77 : Ks (fun k j => k = 2 ∨ k = 5 ∨ k = 8 ∨ k = 29 ∨ (k = 1 ∧ (j = 0 ∨ j = 3 ∨ j = 4 ∨ j = 5 ∨ j = 14 ∨ j = 15 ∨ j = 16 ∨ j = 17 ∨ j = 28))) M0 M15_77 := by rw [eM15_77]; exact (F15).wr (mw_110 _)
            obtain ⟨v78, h78⟩ := h77
            refine ⟨v78, ?_⟩
            refine fmX12_flag h78 ?_
            intro x17_80 M17_81 f79 h79
            have F79 : Ks (fun k j => k = 2 ∨ k = 5 ∨ k = 8 ∨ k = 29 ∨ (k = 1 ∧ (j = 0 ∨ j = 3 ∨ j = 4 ∨ j = 5 ∨ j = 14 ∨ j = 15 ∨ j = 16 ∨ j = 17 ∨ j = 28))) M0 M17_81 := (F77).tr (f79.mono (fun _ _ h => False.elim h))
            intro g82
            have h83 := h79 g82
            exact ih _ _ _ F79 h83
theorem fmX12_avenue_L99  {X122 X122' : Int → Mem → Prop} {Q Q' : Int → Mem → Prop} {M0 : Mem} (hQ : ∀ (w0 : Int) (M' : Mem), Ks (fun k j => k = 2 ∨ k = 5 ∨ k = 8 ∨ k = 29 ∨ (k = 1 ∧ (j = 0 ∨ j = 3 ∨ j = 4 ∨ j = 5 ∨ j = 14 ∨ j = 15 ∨ j = 16 ∨ j = 17 ∨ j = 28))) M0 M' → Q w0 M' → Q' w0 M') (hX122 : ∀ (w0 : Int) (M' : Mem), Ks (fun k j => k = 2 ∨ k = 5 ∨ k = 8 ∨ k = 29 ∨ (k = 1 ∧ (j = 0 ∨ j = 3 ∨ j = 4 ∨ j = 5 ∨ j = 14 ∨ j = 15 ∨ j = 16 ∨ j = 17 ∨ j = 28))) M0 M' → X122 w0 M' → X122' w0 M') : ∀ (n : Nat) (v1 v3 : Int) (M : Mem), Ks (fun k j => k = 2 ∨ k = 5 ∨ k = 8 ∨ k = 29 ∨ (k = 1 ∧ (j = 0 ∨ j = 3 ∨ j = 4 ∨ j = 5 ∨ j = 14 ∨ j = 15 ∨ j = 16 ∨ j = 17 ∨ j = 28))) M0 M → qX12_avenue_L99 X122 Q n v1 v3 M → qX12_avenue_L99 X122' Q' n v1 v3 M := by
  intro n
  induction n with
  | zero => intro v1 v3 M _ h; exact h.elim
  | succ n ih =>
    intro v1 v3 M hF h
    rw [qX12_avenue_L99] at h
    rw [qX12_avenue_L99]
    obtain ⟨v1, h1⟩ := h
    refine ⟨v1, ?_⟩
    obtain ⟨v2, h2⟩ := h1
    refine ⟨v2, ?_⟩
    obtain ⟨h3, h4⟩ := h2
    refine ⟨?_, ?_⟩
    · intro g5
      have h6 := h3 g5
      exact hX122 _ _ hF h6
    · intro g7
      have h8 := h4 g7
      obtain ⟨v9, h9⟩ := h8
      refine ⟨v9, ?_⟩
      obtain ⟨v10, h10⟩ := h9
      refine ⟨v10, ?_⟩
      intro x32_11 g12 g13
      have h11 := h10 x32_11 g12 g13
      obtain ⟨v14, h14⟩ := h11
      refine ⟨v14, ?_⟩
      intro M34_15 eM34_15
      have h15 := h14 M34_15 eM34_15
      have F15 : Ks (fun k j => k = 2 ∨ k = 5 ∨ k = 8 ∨ k = 29 ∨ (k = 1 ∧ (j = 0 ∨ j = 3 ∨ j = 4 ∨ j = 5 ∨ j = 14 ∨ j = 15 ∨ j = 16 ∨ j = 17 ∨ j = 28))) M0 M34_15 := by rw [eM34_15]; exact (hF).wr (mw_111 _)
      exact ih _ _ _ F15 h15
theorem fmX12_avenue_L155  {Q Q' : Int → Mem → Prop} {M0 : Mem} (hQ : ∀ (w0 : Int) (M' : Mem), Ks (fun k j => k = 2 ∨ k = 5 ∨ k = 8 ∨ k = 29 ∨ (k = 1 ∧ (j = 0 ∨ j = 3 ∨ j = 4 ∨ j = 5 ∨ j = 14 ∨ j = 15 ∨ j = 16 ∨ j = 17 ∨ j = 28))) M0 M' → Q w0 M' → Q' w0 M') : ∀ (n : Nat) (v1 v3 : Int) (M : Mem), Ks (fun k j => k = 2 ∨ k = 5 ∨ k = 8 ∨ k = 29 ∨ (k = 1 ∧ (j = 0 ∨ j = 3 ∨ j = 4 ∨ j = 5 ∨ j = 14 ∨ j = 15 ∨ j = 16 ∨ j = 17 ∨ j = 28))) M0 M → qX12_avenue_L155 Q n v1 v3 M → qX12_avenue_L155 Q' n v1 v3 M := by
  intro n
  induction n with
  | zero => intro v1 v3 M _ h; exact h.elim
  | succ n ih =>
    intro v1 v3 M hF h
    rw [qX12_avenue_L155] at h
    rw [qX12_avenue_L155]
    obtain ⟨v1, h1⟩ := h
    refine ⟨v1, ?_⟩
    obtain ⟨h2, h3⟩ := h1
    refine ⟨?_, ?_⟩
    · intro g4
      have h5 := h2 g4
      obtain ⟨v6, h6⟩ := h5
      refine ⟨v6, ?_⟩
      exact hQ _ _ hF h6
    · intro g7
      have h8 := h3 g7
      obtain ⟨v9, h9⟩ := h8
      refine ⟨v9, ?_⟩
      obtain ⟨v10, h10⟩ := h9
      refine ⟨v10, ?_⟩
      intro M46_11 eM46_11
      have h11 := h10 M46_11 eM46_11
      have F11 : Ks (fun k j => k = 2 ∨ k = 5 ∨ k = 8 ∨ k = 29 ∨ (k = 1 ∧ (j = 0 ∨ j = 3 ∨ j = 4 ∨ j = 5 ∨ j = 14 ∨ j = 15 ∨ j = 16 ∨ j = 17 ∨ j = 28))) M0 M46_11 := by rw [eM46_11]; exact (hF).wr (mw_112 _)
      exact ih _ _ _ F11 h11
theorem fmX12_avenue  {M : Mem} {Q Q' : Int → Mem → Prop} (h : qX12_avenue M Q) (hQ : ∀ (w0 : Int) (M' : Mem), Ks (fun k j => k = 2 ∨ k = 5 ∨ k = 8 ∨ k = 29 ∨ (k = 1 ∧ (j = 0 ∨ j = 3 ∨ j = 4 ∨ j = 5 ∨ j = 14 ∨ j = 15 ∨ j = 16 ∨ j = 17 ∨ j = 28))) M M' → Q w0 M' → Q' w0 M') : qX12_avenue M Q' := by
  unfold qX12_avenue at h ⊢
  intro M1_1 eM1_1
  have h1 := h M1_1 eM1_1
  have F1 : Ks (fun k j => k = 2 ∨ k = 5 ∨ k = 8 ∨ k = 29 ∨ (k = 1 ∧ (j = 0 ∨ j = 3 ∨ j = 4 ∨ j = 5 ∨ j = 14 ∨ j = 15 ∨ j = 16 ∨ j = 17 ∨ j = 28))) M M1_1 := by rw [eM1_1]; exact (Ks.rf).wr (mw_113)
  refine fmX12_begins h1 ?_
  intro x2_3 M2_4 f2 h2
  have F2 : Ks (fun k j => k = 2 ∨ k = 5 ∨ k = 8 ∨ k = 29 ∨ (k = 1 ∧ (j = 0 ∨ j = 3 ∨ j = 4 ∨ j = 5 ∨ j = 14 ∨ j = 15 ∨ j = 16 ∨ j = 17 ∨ j = 28))) M M2_4 := (F1).tr (f2.mono (mo_132))
  intro g5
  have h6 := h2 g5
  obtain ⟨n7, h7⟩ := h6
  refine ⟨n7, ?_⟩
  refine fmX12_avenue_L16 hQ ?_ _ _ _ _ F2 h7
  · intro v1_9 M_10 F8 h8
    unfold qX12_avenue_J69 at h8 ⊢
    obtain ⟨v11, h11⟩ := h8
    refine ⟨v11, ?_⟩
    obtain ⟨h12, h13⟩ := h11
    refine ⟨?_, ?_⟩
    · intro g14
      have h15 := h12 g14
      intro x21_16 g17 g18
      have h16 := h15 x21_16 g17 g18
      obtain ⟨v19, h19⟩ := h16
      refine ⟨v19, ?_⟩
      exact hQ _ _ F8 h19
    · intro g20
      have h21 := h13 g20
      intro x23_22 g23 g24
      have h22 := h21 x23_22 g23 g24
      intro x24_25 g26 g27
      have h25 := h22 x24_25 g26 g27
      obtain ⟨h28, h29⟩ := h25
      refine ⟨?_, ?_⟩
      · intro g30
        have h31 := h28 g30
        intro M26_32 eM26_32
        have h32 := h31 M26_32 eM26_32
        have F32 : Ks (fun k j => k = 2 ∨ k = 5 ∨ k = 8 ∨ k = 29 ∨ (k = 1 ∧ (j = 0 ∨ j = 3 ∨ j = 4 ∨ j = 5 ∨ j = 14 ∨ j = 15 ∨ j = 16 ∨ j = 17 ∨ j = 28))) M M26_32 := by rw [eM26_32]; exact (F8).wr (mw_114)
        obtain ⟨n33, h33⟩ := h32
        refine ⟨n33, ?_⟩
        refine fmX12_avenue_L99 hQ ?_ _ _ _ _ F32 h33
        · intro v1_35 M_36 F34 h34
          intro M36_37 eM36_37
          have h37 := h34 M36_37 eM36_37
          have F37 : Ks (fun k j => k = 2 ∨ k = 5 ∨ k = 8 ∨ k = 29 ∨ (k = 1 ∧ (j = 0 ∨ j = 3 ∨ j = 4 ∨ j = 5 ∨ j = 14 ∨ j = 15 ∨ j = 16 ∨ j = 17 ∨ j = 28))) M M36_37 := by rw [eM36_37]; exact (F34).wr (mw_115)
          intro M37_38 eM37_38
          have h38 := h37 M37_38 eM37_38
          have F38 : Ks (fun k j => k = 2 ∨ k = 5 ∨ k = 8 ∨ k = 29 ∨ (k = 1 ∧ (j = 0 ∨ j = 3 ∨ j = 4 ∨ j = 5 ∨ j = 14 ∨ j = 15 ∨ j = 16 ∨ j = 17 ∨ j = 28))) M M37_38 := by rw [eM37_38]; exact (F37).wr (mw_116)
          intro M38_39 eM38_39
          have h39 := h38 M38_39 eM38_39
          have F39 : Ks (fun k j => k = 2 ∨ k = 5 ∨ k = 8 ∨ k = 29 ∨ (k = 1 ∧ (j = 0 ∨ j = 3 ∨ j = 4 ∨ j = 5 ∨ j = 14 ∨ j = 15 ∨ j = 16 ∨ j = 17 ∨ j = 28))) M M38_39 := by rw [eM38_39]; exact (F38).wr (mw_117)
          intro M39_40 eM39_40
          have h40 := h39 M39_40 eM39_40
          have F40 : Ks (fun k j => k = 2 ∨ k = 5 ∨ k = 8 ∨ k = 29 ∨ (k = 1 ∧ (j = 0 ∨ j = 3 ∨ j = 4 ∨ j = 5 ∨ j = 14 ∨ j = 15 ∨ j = 16 ∨ j = 17 ∨ j = 28))) M M39_40 := by rw [eM39_40]; exact (F39).wr (mw_118)
          intro M40_41 eM40_41
          have h41 := h40 M40_41 eM40_41
          have F41 : Ks (fun k j => k = 2 ∨ k = 5 ∨ k = 8 ∨ k = 29 ∨ (k = 1 ∧ (j = 0 ∨ j = 3 ∨ j = 4 ∨ j = 5 ∨ j = 14 ∨ j = 15 ∨ j = 16 ∨ j = 17 ∨ j = 28))) M M40_41 := by rw [eM40_41]; exact (F40).wr (mw_119)
          obtain ⟨n42, h42⟩ := h41
          refine ⟨n42, ?_⟩
          refine fmX12_avenue_L155 hQ _ _ _ _ F41 h42
      · intro g43
        have h44 := h29 g43
        intro x48_45 g46 g47
        have h45 := h44 x48_45 g46 g47
        obtain ⟨v48, h48⟩ := h45
        refine ⟨v48, ?_⟩
        exact hQ _ _ F8 h48
theorem fmX12_faultOf {p1 : Int} {p2 : Int} {p3 : Int} {M : Mem} {Q Q' : Int → Mem → Prop} (h : qX12_faultOf p1 p2 p3 M Q) (hQ : ∀ (w0 : Int) (M' : Mem), Ks (fun _ _ => False) M M' → Q w0 M' → Q' w0 M') : qX12_faultOf p1 p2 p3 M Q' := by
  unfold qX12_faultOf at h ⊢
  obtain ⟨h1, h2⟩ := h
  refine ⟨?_, ?_⟩
  · intro g3
    have h4 := h1 g3
    unfold qX12_faultOf_J19 at h4 ⊢
    unfold qX12_faultOf_J20 at h4 ⊢
    obtain ⟨h5, h6⟩ := h4
    refine ⟨?_, ?_⟩
    · intro g7
      have h8 := h5 g7
      unfold qX12_faultOf_J44 at h8 ⊢
      obtain ⟨v9, h9⟩ := h8
      refine ⟨v9, ?_⟩
      obtain ⟨h10, h11⟩ := h9
      refine ⟨?_, ?_⟩
      · intro g12
        have h13 := h10 g12
        intro x5_14 g15 g16
        have h14 := h13 x5_14 g15 g16
        obtain ⟨v17, h17⟩ := h14
        refine ⟨v17, ?_⟩
        exact hQ _ _ Ks.rf h17
      · intro g18
        have h19 := h11 g18
        exact hQ _ _ Ks.rf h19
    · intro g20
      have h21 := h6 g20
      obtain ⟨v22, h22⟩ := h21
      refine ⟨v22, ?_⟩
      obtain ⟨h23, h24⟩ := h22
      refine ⟨?_, ?_⟩
      · intro g25
        have h26 := h23 g25
        obtain ⟨v27, h27⟩ := h26
        refine ⟨v27, ?_⟩
        exact hQ _ _ Ks.rf h27
      · intro g28
        have h29 := h24 g28
        intro x10_30 g31 g32
        have h30 := h29 x10_30 g31 g32
        obtain ⟨h33, h34⟩ := h30
        refine ⟨?_, ?_⟩
        · intro g35
          have h36 := h33 g35
          unfold qX12_faultOf_J44 at h36 ⊢
          obtain ⟨v37, h37⟩ := h36
          refine ⟨v37, ?_⟩
          obtain ⟨h38, h39⟩ := h37
          refine ⟨?_, ?_⟩
          · intro g40
            have h41 := h38 g40
            intro x5_42 g43 g44
            have h42 := h41 x5_42 g43 g44
            obtain ⟨v45, h45⟩ := h42
            refine ⟨v45, ?_⟩
            exact hQ _ _ Ks.rf h45
          · intro g46
            have h47 := h39 g46
            exact hQ _ _ Ks.rf h47
        · intro g48
          have h49 := h34 g48
          obtain ⟨v50, h50⟩ := h49
          refine ⟨v50, ?_⟩
          exact hQ _ _ Ks.rf h50
  · intro g51
    have h52 := h2 g51
    intro x13_53 g54 g55
    have h53 := h52 x13_53 g54 g55
    intro x14_56 g57 g58
    have h56 := h53 x14_56 g57 g58
    obtain ⟨h59, h60⟩ := h56
    refine ⟨?_, ?_⟩
    · intro g61
      have h62 := h59 g61
      unfold qX12_faultOf_J19 at h62 ⊢
      unfold qX12_faultOf_J20 at h62 ⊢
      obtain ⟨h63, h64⟩ := h62
      refine ⟨?_, ?_⟩
      · intro g65
        have h66 := h63 g65
        unfold qX12_faultOf_J44 at h66 ⊢
        obtain ⟨v67, h67⟩ := h66
        refine ⟨v67, ?_⟩
        obtain ⟨h68, h69⟩ := h67
        refine ⟨?_, ?_⟩
        · intro g70
          have h71 := h68 g70
          intro x5_72 g73 g74
          have h72 := h71 x5_72 g73 g74
          obtain ⟨v75, h75⟩ := h72
          refine ⟨v75, ?_⟩
          exact hQ _ _ Ks.rf h75
        · intro g76
          have h77 := h69 g76
          exact hQ _ _ Ks.rf h77
      · intro g78
        have h79 := h64 g78
        obtain ⟨v80, h80⟩ := h79
        refine ⟨v80, ?_⟩
        obtain ⟨h81, h82⟩ := h80
        refine ⟨?_, ?_⟩
        · intro g83
          have h84 := h81 g83
          obtain ⟨v85, h85⟩ := h84
          refine ⟨v85, ?_⟩
          exact hQ _ _ Ks.rf h85
        · intro g86
          have h87 := h82 g86
          intro x10_88 g89 g90
          have h88 := h87 x10_88 g89 g90
          obtain ⟨h91, h92⟩ := h88
          refine ⟨?_, ?_⟩
          · intro g93
            have h94 := h91 g93
            unfold qX12_faultOf_J44 at h94 ⊢
            obtain ⟨v95, h95⟩ := h94
            refine ⟨v95, ?_⟩
            obtain ⟨h96, h97⟩ := h95
            refine ⟨?_, ?_⟩
            · intro g98
              have h99 := h96 g98
              intro x5_100 g101 g102
              have h100 := h99 x5_100 g101 g102
              obtain ⟨v103, h103⟩ := h100
              refine ⟨v103, ?_⟩
              exact hQ _ _ Ks.rf h103
            · intro g104
              have h105 := h97 g104
              exact hQ _ _ Ks.rf h105
          · intro g106
            have h107 := h92 g106
            obtain ⟨v108, h108⟩ := h107
            refine ⟨v108, ?_⟩
            exact hQ _ _ Ks.rf h108
    · intro g109
      have h110 := h60 g109
      unfold qX12_faultOf_J20 at h110 ⊢
      obtain ⟨h111, h112⟩ := h110
      refine ⟨?_, ?_⟩
      · intro g113
        have h114 := h111 g113
        unfold qX12_faultOf_J44 at h114 ⊢
        obtain ⟨v115, h115⟩ := h114
        refine ⟨v115, ?_⟩
        obtain ⟨h116, h117⟩ := h115
        refine ⟨?_, ?_⟩
        · intro g118
          have h119 := h116 g118
          intro x5_120 g121 g122
          have h120 := h119 x5_120 g121 g122
          obtain ⟨v123, h123⟩ := h120
          refine ⟨v123, ?_⟩
          exact hQ _ _ Ks.rf h123
        · intro g124
          have h125 := h117 g124
          exact hQ _ _ Ks.rf h125
      · intro g126
        have h127 := h112 g126
        obtain ⟨v128, h128⟩ := h127
        refine ⟨v128, ?_⟩
        obtain ⟨h129, h130⟩ := h128
        refine ⟨?_, ?_⟩
        · intro g131
          have h132 := h129 g131
          obtain ⟨v133, h133⟩ := h132
          refine ⟨v133, ?_⟩
          exact hQ _ _ Ks.rf h133
        · intro g134
          have h135 := h130 g134
          intro x10_136 g137 g138
          have h136 := h135 x10_136 g137 g138
          obtain ⟨h139, h140⟩ := h136
          refine ⟨?_, ?_⟩
          · intro g141
            have h142 := h139 g141
            unfold qX12_faultOf_J44 at h142 ⊢
            obtain ⟨v143, h143⟩ := h142
            refine ⟨v143, ?_⟩
            obtain ⟨h144, h145⟩ := h143
            refine ⟨?_, ?_⟩
            · intro g146
              have h147 := h144 g146
              intro x5_148 g149 g150
              have h148 := h147 x5_148 g149 g150
              obtain ⟨v151, h151⟩ := h148
              refine ⟨v151, ?_⟩
              exact hQ _ _ Ks.rf h151
            · intro g152
              have h153 := h145 g152
              exact hQ _ _ Ks.rf h153
          · intro g154
            have h155 := h140 g154
            obtain ⟨v156, h156⟩ := h155
            refine ⟨v156, ?_⟩
            exact hQ _ _ Ks.rf h156
theorem fmX12_isNew  {M : Mem} {Q Q' : Int → Mem → Prop} (h : qX12_isNew M Q) (hQ : ∀ (w0 : Int) (M' : Mem), Ks (fun k j => (k = 1 ∧ (j = 6 ∨ j = 28))) M M' → Q w0 M' → Q' w0 M') : qX12_isNew M Q' := by
  unfold qX12_isNew at h ⊢
  intro x1_1 g2 g3
  have h1 := h x1_1 g2 g3
  obtain ⟨h4, h5⟩ := h1
  refine ⟨?_, ?_⟩
  · intro g6
    have h7 := h4 g6
    intro x3_8 g9 g10
    have h8 := h7 x3_8 g9 g10
    unfold qX12_isNew_J16 at h8 ⊢
    obtain ⟨v11, h11⟩ := h8
    refine ⟨v11, ?_⟩
    intro M5_12 eM5_12
    have h12 := h11 M5_12 eM5_12
    have F12 : Ks (fun k j => (k = 1 ∧ (j = 6 ∨ j = 28))) M M5_12 := by rw [eM5_12]; exact (Ks.rf).wr (mw_120)
    intro x6_13 g14 g15
    have h13 := h12 x6_13 g14 g15
    intro x7_16 g17 g18
    have h16 := h13 x7_16 g17 g18
    obtain ⟨h19, h20⟩ := h16
    refine ⟨?_, ?_⟩
    · intro g21
      have h22 := h19 g21
      unfold qX12_isNew_J36 at h22 ⊢
      obtain ⟨v23, h23⟩ := h22
      refine ⟨v23, ?_⟩
      refine fmX12_flag h23 ?_
      intro x10_25 M10_26 f24 h24
      have F24 : Ks (fun k j => (k = 1 ∧ (j = 6 ∨ j = 28))) M M10_26 := (F12).tr (f24.mono (fun _ _ h => False.elim h))
      intro g27
      have h28 := h24 g27
      obtain ⟨v29, h29⟩ := h28
      refine ⟨v29, ?_⟩
      intro M12_30 eM12_30
      have h30 := h29 M12_30 eM12_30
      have F30 : Ks (fun k j => (k = 1 ∧ (j = 6 ∨ j = 28))) M M12_30 := by rw [eM12_30]; exact (F24).wr (mw_121)
      intro x13_31 g32 g33
      have h31 := h30 x13_31 g32 g33
      exact hQ _ _ F30 h31
    · intro g34
      have h35 := h20 g34
      unfold qX12_isNew_J36 at h35 ⊢
      obtain ⟨v36, h36⟩ := h35
      refine ⟨v36, ?_⟩
      refine fmX12_flag h36 ?_
      intro x10_38 M10_39 f37 h37
      have F37 : Ks (fun k j => (k = 1 ∧ (j = 6 ∨ j = 28))) M M10_39 := (F12).tr (f37.mono (fun _ _ h => False.elim h))
      intro g40
      have h41 := h37 g40
      obtain ⟨v42, h42⟩ := h41
      refine ⟨v42, ?_⟩
      intro M12_43 eM12_43
      have h43 := h42 M12_43 eM12_43
      have F43 : Ks (fun k j => (k = 1 ∧ (j = 6 ∨ j = 28))) M M12_43 := by rw [eM12_43]; exact (F37).wr (mw_121)
      intro x13_44 g45 g46
      have h44 := h43 x13_44 g45 g46
      exact hQ _ _ F43 h44
  · intro g47
    have h48 := h5 g47
    unfold qX12_isNew_J16 at h48 ⊢
    obtain ⟨v49, h49⟩ := h48
    refine ⟨v49, ?_⟩
    intro M5_50 eM5_50
    have h50 := h49 M5_50 eM5_50
    have F50 : Ks (fun k j => (k = 1 ∧ (j = 6 ∨ j = 28))) M M5_50 := by rw [eM5_50]; exact (Ks.rf).wr (mw_120)
    intro x6_51 g52 g53
    have h51 := h50 x6_51 g52 g53
    intro x7_54 g55 g56
    have h54 := h51 x7_54 g55 g56
    obtain ⟨h57, h58⟩ := h54
    refine ⟨?_, ?_⟩
    · intro g59
      have h60 := h57 g59
      unfold qX12_isNew_J36 at h60 ⊢
      obtain ⟨v61, h61⟩ := h60
      refine ⟨v61, ?_⟩
      refine fmX12_flag h61 ?_
      intro x10_63 M10_64 f62 h62
      have F62 : Ks (fun k j => (k = 1 ∧ (j = 6 ∨ j = 28))) M M10_64 := (F50).tr (f62.mono (fun _ _ h => False.elim h))
      intro g65
      have h66 := h62 g65
      obtain ⟨v67, h67⟩ := h66
      refine ⟨v67, ?_⟩
      intro M12_68 eM12_68
      have h68 := h67 M12_68 eM12_68
      have F68 : Ks (fun k j => (k = 1 ∧ (j = 6 ∨ j = 28))) M M12_68 := by rw [eM12_68]; exact (F62).wr (mw_121)
      intro x13_69 g70 g71
      have h69 := h68 x13_69 g70 g71
      exact hQ _ _ F68 h69
    · intro g72
      have h73 := h58 g72
      unfold qX12_isNew_J36 at h73 ⊢
      obtain ⟨v74, h74⟩ := h73
      refine ⟨v74, ?_⟩
      refine fmX12_flag h74 ?_
      intro x10_76 M10_77 f75 h75
      have F75 : Ks (fun k j => (k = 1 ∧ (j = 6 ∨ j = 28))) M M10_77 := (F50).tr (f75.mono (fun _ _ h => False.elim h))
      intro g78
      have h79 := h75 g78
      obtain ⟨v80, h80⟩ := h79
      refine ⟨v80, ?_⟩
      intro M12_81 eM12_81
      have h81 := h80 M12_81 eM12_81
      have F81 : Ks (fun k j => (k = 1 ∧ (j = 6 ∨ j = 28))) M M12_81 := by rw [eM12_81]; exact (F75).wr (mw_121)
      intro x13_82 g83 g84
      have h82 := h81 x13_82 g83 g84
      exact hQ _ _ F81 h82
theorem fmX12_gate  {M : Mem} {Q Q' : Int → Mem → Prop} (h : qX12_gate M Q) (hQ : ∀ (w0 : Int) (M' : Mem), Ks (fun _ _ => False) M M' → Q w0 M' → Q' w0 M') : qX12_gate M Q' := by
  unfold qX12_gate at h ⊢
  intro x1_1 g2 g3
  have h1 := h x1_1 g2 g3
  obtain ⟨v4, h4⟩ := h1
  refine ⟨v4, ?_⟩
  exact hQ _ _ Ks.rf h4
theorem fmX12_isDigit  {M : Mem} {Q Q' : Int → Mem → Prop} (h : qX12_isDigit M Q) (hQ : ∀ (w0 : Int) (M' : Mem), Ks (fun _ _ => False) M M' → Q w0 M' → Q' w0 M') : qX12_isDigit M Q' := by
  unfold qX12_isDigit at h ⊢
  intro x1_1 g2 g3
  have h1 := h x1_1 g2 g3
  intro x2_4 g5 g6
  have h4 := h1 x2_4 g5 g6
  obtain ⟨h7, h8⟩ := h4
  refine ⟨?_, ?_⟩
  · intro g9
    have h10 := h7 g9
    exact hQ _ _ Ks.rf h10
  · intro g11
    have h12 := h8 g11
    intro x4_13 g14 g15
    have h13 := h12 x4_13 g14 g15
    obtain ⟨v16, h16⟩ := h13
    refine ⟨v16, ?_⟩
    obtain ⟨v17, h17⟩ := h16
    refine ⟨v17, ?_⟩
    intro x7_18 g19 g20
    have h18 := h17 x7_18 g19 g20
    refine fmX12_in h18 ?_
    intro x8_22 M8_23 f21 h21
    have F21 : Ks (fun _ _ => False) M M8_23 := (Ks.rf).tr (f21.mono (fun _ _ h => False.elim h))
    intro g24 g25
    have h26 := h21 g24 g25
    obtain ⟨h27, h28⟩ := h26
    refine ⟨?_, ?_⟩
    · intro g29
      have h30 := h27 g29
      exact hQ _ _ F21 h30
    · intro g31
      have h32 := h28 g31
      exact hQ _ _ F21 h32
theorem fmX12_number_L13 {p1 : Int} {Q Q' : Int → Mem → Prop} {M0 : Mem} (hQ : ∀ (w0 : Int) (M' : Mem), Ks (fun k j => (k = 1 ∧ (j = 15))) M0 M' → Q w0 M' → Q' w0 M') : ∀ (n : Nat) (v2 v3 : Int) (M : Mem), Ks (fun k j => (k = 1 ∧ (j = 15))) M0 M → qX12_number_L13 p1 Q n v2 v3 M → qX12_number_L13 p1 Q' n v2 v3 M := by
  intro n
  induction n with
  | zero => intro v2 v3 M _ h; exact h.elim
  | succ n ih =>
    intro v2 v3 M hF h
    rw [qX12_number_L13] at h
    rw [qX12_number_L13]
    obtain ⟨v1, h1⟩ := h
    refine ⟨v1, ?_⟩
    obtain ⟨h2, h3⟩ := h1
    refine ⟨?_, ?_⟩
    · intro g4
      have h5 := h2 g4
      obtain ⟨v6, h6⟩ := h5
      refine ⟨v6, ?_⟩
      exact hQ _ _ hF h6
    · intro g7
      have h8 := h3 g7
      refine fmX12_isDigit h8 ?_
      intro x6_10 M6_11 f9 h9
      have F9 : Ks (fun k j => (k = 1 ∧ (j = 15))) M0 M6_11 := (hF).tr (f9.mono (fun _ _ h => False.elim h))
      intro g12 g13
      have h14 := h9 g12 g13
      obtain ⟨h15, h16⟩ := h14
      refine ⟨?_, ?_⟩
      · intro g17
        have h18 := h15 g17
        obtain ⟨v19, h19⟩ := h18
        refine ⟨v19, ?_⟩
        exact hQ _ _ F9 h19
      · intro g20
        have h21 := h16 g20
        intro x9_22 g23 g24
        have h22 := h21 x9_22 g23 g24
        obtain ⟨v25, h25⟩ := h22
        refine ⟨v25, ?_⟩
        obtain ⟨v26, h26⟩ := h25
        refine ⟨v26, ?_⟩
        intro x12_27 g28 g29
        have h27 := h26 x12_27 g28 g29
        intro x13_30 g31 g32
        have h30 := h27 x13_30 g31 g32
        obtain ⟨v33, h33⟩ := h30
        refine ⟨v33, ?_⟩
        intro M15_34 eM15_34
        have h34 := h33 M15_34 eM15_34
        have F34 : Ks (fun k j => (k = 1 ∧ (j = 15))) M0 M15_34 := by rw [eM15_34]; exact (F9).wr (mw_109)
        exact ih _ _ _ F34 h34
theorem fmX12_number {p1 : Int} {M : Mem} {Q Q' : Int → Mem → Prop} (h : qX12_number p1 M Q) (hQ : ∀ (w0 : Int) (M' : Mem), Ks (fun k j => (k = 1 ∧ (j = 15))) M M' → Q w0 M' → Q' w0 M') : qX12_number p1 M Q' := by
  unfold qX12_number at h ⊢
  refine fmX12_isDigit h ?_
  intro x1_2 M1_3 f1 h1
  have F1 : Ks (fun k j => (k = 1 ∧ (j = 15))) M M1_3 := (Ks.rf).tr (f1.mono (fun _ _ h => False.elim h))
  intro g4 g5
  have h6 := h1 g4 g5
  obtain ⟨h7, h8⟩ := h6
  refine ⟨?_, ?_⟩
  · intro g9
    have h10 := h7 g9
    obtain ⟨n11, h11⟩ := h10
    refine ⟨n11, ?_⟩
    refine fmX12_number_L13 hQ _ _ _ _ F1 h11
  · intro g12
    have h13 := h8 g12
    exact hQ _ _ F1 h13
theorem fmX12_onCell_L5 {k1 : Nat} {p2 : Int} {Q Q' : Int → Mem → Prop} {M0 : Mem} (hQ : ∀ (w0 : Int) (M' : Mem), Ks (fun _ _ => False) M0 M' → Q w0 M' → Q' w0 M') : ∀ (n : Nat) (v3 v4 : Int) (M : Mem), Ks (fun _ _ => False) M0 M → qX12_onCell_L5 k1 p2 Q n v3 v4 M → qX12_onCell_L5 k1 p2 Q' n v3 v4 M := by
  intro n
  induction n with
  | zero => intro v3 v4 M _ h; exact h.elim
  | succ n ih =>
    intro v3 v4 M hF h
    rw [qX12_onCell_L5] at h
    rw [qX12_onCell_L5]
    intro x1_1 g2 g3
    have h1 := h x1_1 g2 g3
    obtain ⟨v4, h4⟩ := h1
    refine ⟨v4, ?_⟩
    obtain ⟨h5, h6⟩ := h4
    refine ⟨?_, ?_⟩
    · intro g7
      have h8 := h5 g7
      obtain ⟨v9, h9⟩ := h8
      refine ⟨v9, ?_⟩
      exact hQ _ _ hF h9
    · intro g10
      have h11 := h6 g10
      obtain ⟨v12, h12⟩ := h11
      refine ⟨v12, ?_⟩
      obtain ⟨v13, h13⟩ := h12
      refine ⟨v13, ?_⟩
      intro x7_14 g15 g16
      have h14 := h13 x7_14 g15 g16
      obtain ⟨h17, h18⟩ := h14
      refine ⟨?_, ?_⟩
      · intro g19
        have h20 := h17 g19
        exact ih _ _ _ hF h20
      · intro g21
        have h22 := h18 g21
        exact ih _ _ _ hF h22
theorem fmX12_onCell {k1 : Nat} {p2 : Int} {M : Mem} {Q Q' : Int → Mem → Prop} (h : qX12_onCell k1 p2 M Q) (hQ : ∀ (w0 : Int) (M' : Mem), Ks (fun _ _ => False) M M' → Q w0 M' → Q' w0 M') : qX12_onCell k1 p2 M Q' := by
  unfold qX12_onCell at h ⊢
  obtain ⟨n1, h1⟩ := h
  refine ⟨n1, ?_⟩
  refine fmX12_onCell_L5 hQ _ _ _ _ Ks.rf h1
theorem fmX12_readsCell_L45 {p1 : Int} {X85 X85' : Int → Int → Mem → Prop} {Q Q' : Int → Mem → Prop} {M0 : Mem} (hQ : ∀ (w0 : Int) (M' : Mem), Ks (fun k j => (k = 1 ∧ (j = 15))) M0 M' → Q w0 M' → Q' w0 M') (hX85 : ∀ (w0 w1 : Int) (M' : Mem), Ks (fun k j => (k = 1 ∧ (j = 15))) M0 M' → X85 w0 w1 M' → X85' w0 w1 M') : ∀ (n : Nat) (v2 v3 v4 : Int) (M : Mem), Ks (fun k j => (k = 1 ∧ (j = 15))) M0 M → qX12_readsCell_L45 p1 X85 Q n v2 v3 v4 M → qX12_readsCell_L45 p1 X85' Q' n v2 v3 v4 M := by
  intro n
  induction n with
  | zero => intro v2 v3 v4 M _ h; exact h.elim
  | succ n ih =>
    intro v2 v3 v4 M hF h
    rw [qX12_readsCell_L45] at h
    rw [qX12_readsCell_L45]
    intro x5_1 g2 g3
    have h1 := h x5_1 g2 g3
    obtain ⟨v4, h4⟩ := h1
    refine ⟨v4, ?_⟩
    obtain ⟨h5, h6⟩ := h4
    refine ⟨?_, ?_⟩
    · intro g7
      have h8 := h5 g7
      exact hX85 _ _ _ hF h8
    · intro g9
      have h10 := h6 g9
      obtain ⟨h11, h12⟩ := h10
      refine ⟨?_, ?_⟩
      · intro g13
        have h14 := h11 g13
        exact hX85 _ _ _ hF h14
      · intro g15
        have h16 := h12 g15
        obtain ⟨v17, h17⟩ := h16
        refine ⟨v17, ?_⟩
        obtain ⟨h18, h19⟩ := h17
        refine ⟨?_, ?_⟩
        · intro g20
          have h21 := h18 g20
          exact ih _ _ _ _ hF h21
        · intro g22
          have h23 := h19 g22
          obtain ⟨v24, h24⟩ := h23
          refine ⟨v24, ?_⟩
          obtain ⟨v25, h25⟩ := h24
          refine ⟨v25, ?_⟩
          intro x13_26 g27 g28
          have h26 := h25 x13_26 g27 g28
          obtain ⟨v29, h29⟩ := h26
          refine ⟨v29, ?_⟩
          obtain ⟨h30, h31⟩ := h29
          refine ⟨?_, ?_⟩
          · intro g32
            have h33 := h30 g32
            exact ih _ _ _ _ hF h33
          · intro g34
            have h35 := h31 g34
            exact ih _ _ _ _ hF h35
theorem fmX12_readsCell {p1 : Int} {M : Mem} {Q Q' : Int → Mem → Prop} (h : qX12_readsCell p1 M Q) (hQ : ∀ (w0 : Int) (M' : Mem), Ks (fun k j => (k = 1 ∧ (j = 15))) M M' → Q w0 M' → Q' w0 M') : qX12_readsCell p1 M Q' := by
  unfold qX12_readsCell at h ⊢
  refine fmX12_number h ?_
  intro x1_2 M1_3 f1 h1
  have F1 : Ks (fun k j => (k = 1 ∧ (j = 15))) M M1_3 := (Ks.rf).tr (f1.mono (fun _ _ h => h))
  intro g4
  have h5 := h1 g4
  obtain ⟨h6, h7⟩ := h5
  refine ⟨?_, ?_⟩
  · intro g8
    have h9 := h6 g8
    refine fmX12_gate h9 ?_
    intro x3_11 M3_12 f10 h10
    have F10 : Ks (fun k j => (k = 1 ∧ (j = 15))) M M3_12 := (F1).tr (f10.mono (fun _ _ h => False.elim h))
    intro g13
    have h14 := h10 g13
    obtain ⟨h15, h16⟩ := h14
    refine ⟨?_, ?_⟩
    · intro g17
      have h18 := h15 g17
      obtain ⟨n19, h19⟩ := h18
      refine ⟨n19, ?_⟩
      refine fmX12_readsCell_L45 hQ ?_ _ _ _ _ _ F10 h19
      · intro v2_21 v3_22 M_23 F20 h20
        unfold qX12_readsCell_J85 at h20 ⊢
        intro x17_24 g25 g26
        have h24 := h20 x17_24 g25 g26
        obtain ⟨v27, h27⟩ := h24
        refine ⟨v27, ?_⟩
        obtain ⟨h28, h29⟩ := h27
        refine ⟨?_, ?_⟩
        · intro g30
          have h31 := h28 g30
          unfold qX12_readsCell_J99 at h31 ⊢
          obtain ⟨v32, h32⟩ := h31
          refine ⟨v32, ?_⟩
          refine fmX12_flag h32 ?_
          intro x21_34 M21_35 f33 h33
          have F33 : Ks (fun k j => (k = 1 ∧ (j = 15))) M M21_35 := (F20).tr (f33.mono (fun _ _ h => False.elim h))
          intro g36
          have h37 := h33 g36
          obtain ⟨v38, h38⟩ := h37
          refine ⟨v38, ?_⟩
          intro M23_39 eM23_39
          have h39 := h38 M23_39 eM23_39
          have F39 : Ks (fun k j => (k = 1 ∧ (j = 15))) M M23_39 := by rw [eM23_39]; exact (F33).wr (mw_109)
          obtain ⟨v40, h40⟩ := h39
          refine ⟨v40, ?_⟩
          obtain ⟨h41, h42⟩ := h40
          refine ⟨?_, ?_⟩
          · intro g43
            have h44 := h41 g43
            exact hQ _ _ F39 h44
          · intro g45
            have h46 := h42 g45
            obtain ⟨v47, h47⟩ := h46
            refine ⟨v47, ?_⟩
            exact hQ _ _ F39 h47
        · intro g48
          have h49 := h29 g48
          unfold qX12_readsCell_J99 at h49 ⊢
          obtain ⟨v50, h50⟩ := h49
          refine ⟨v50, ?_⟩
          refine fmX12_flag h50 ?_
          intro x21_52 M21_53 f51 h51
          have F51 : Ks (fun k j => (k = 1 ∧ (j = 15))) M M21_53 := (F20).tr (f51.mono (fun _ _ h => False.elim h))
          intro g54
          have h55 := h51 g54
          obtain ⟨v56, h56⟩ := h55
          refine ⟨v56, ?_⟩
          intro M23_57 eM23_57
          have h57 := h56 M23_57 eM23_57
          have F57 : Ks (fun k j => (k = 1 ∧ (j = 15))) M M23_57 := by rw [eM23_57]; exact (F51).wr (mw_109)
          obtain ⟨v58, h58⟩ := h57
          refine ⟨v58, ?_⟩
          obtain ⟨h59, h60⟩ := h58
          refine ⟨?_, ?_⟩
          · intro g61
            have h62 := h59 g61
            exact hQ _ _ F57 h62
          · intro g63
            have h64 := h60 g63
            obtain ⟨v65, h65⟩ := h64
            refine ⟨v65, ?_⟩
            exact hQ _ _ F57 h65
    · intro g66
      have h67 := h16 g66
      obtain ⟨h68, h69⟩ := h67
      refine ⟨?_, ?_⟩
      · intro g70
        have h71 := h68 g70
        obtain ⟨n72, h72⟩ := h71
        refine ⟨n72, ?_⟩
        refine fmX12_readsCell_L45 hQ ?_ _ _ _ _ _ F10 h72
        · intro v2_74 v3_75 M_76 F73 h73
          unfold qX12_readsCell_J85 at h73 ⊢
          intro x17_77 g78 g79
          have h77 := h73 x17_77 g78 g79
          obtain ⟨v80, h80⟩ := h77
          refine ⟨v80, ?_⟩
          obtain ⟨h81, h82⟩ := h80
          refine ⟨?_, ?_⟩
          · intro g83
            have h84 := h81 g83
            unfold qX12_readsCell_J99 at h84 ⊢
            obtain ⟨v85, h85⟩ := h84
            refine ⟨v85, ?_⟩
            refine fmX12_flag h85 ?_
            intro x21_87 M21_88 f86 h86
            have F86 : Ks (fun k j => (k = 1 ∧ (j = 15))) M M21_88 := (F73).tr (f86.mono (fun _ _ h => False.elim h))
            intro g89
            have h90 := h86 g89
            obtain ⟨v91, h91⟩ := h90
            refine ⟨v91, ?_⟩
            intro M23_92 eM23_92
            have h92 := h91 M23_92 eM23_92
            have F92 : Ks (fun k j => (k = 1 ∧ (j = 15))) M M23_92 := by rw [eM23_92]; exact (F86).wr (mw_109)
            obtain ⟨v93, h93⟩ := h92
            refine ⟨v93, ?_⟩
            obtain ⟨h94, h95⟩ := h93
            refine ⟨?_, ?_⟩
            · intro g96
              have h97 := h94 g96
              exact hQ _ _ F92 h97
            · intro g98
              have h99 := h95 g98
              obtain ⟨v100, h100⟩ := h99
              refine ⟨v100, ?_⟩
              exact hQ _ _ F92 h100
          · intro g101
            have h102 := h82 g101
            unfold qX12_readsCell_J99 at h102 ⊢
            obtain ⟨v103, h103⟩ := h102
            refine ⟨v103, ?_⟩
            refine fmX12_flag h103 ?_
            intro x21_105 M21_106 f104 h104
            have F104 : Ks (fun k j => (k = 1 ∧ (j = 15))) M M21_106 := (F73).tr (f104.mono (fun _ _ h => False.elim h))
            intro g107
            have h108 := h104 g107
            obtain ⟨v109, h109⟩ := h108
            refine ⟨v109, ?_⟩
            intro M23_110 eM23_110
            have h110 := h109 M23_110 eM23_110
            have F110 : Ks (fun k j => (k = 1 ∧ (j = 15))) M M23_110 := by rw [eM23_110]; exact (F104).wr (mw_109)
            obtain ⟨v111, h111⟩ := h110
            refine ⟨v111, ?_⟩
            obtain ⟨h112, h113⟩ := h111
            refine ⟨?_, ?_⟩
            · intro g114
              have h115 := h112 g114
              exact hQ _ _ F110 h115
            · intro g116
              have h117 := h113 g116
              obtain ⟨v118, h118⟩ := h117
              refine ⟨v118, ?_⟩
              exact hQ _ _ F110 h118
      · intro g119
        have h120 := h69 g119
        refine fmX12_onCell h120 ?_
        intro x29_122 M29_123 f121 h121
        have F121 : Ks (fun k j => (k = 1 ∧ (j = 15))) M M29_123 := (F10).tr (f121.mono (fun _ _ h => False.elim h))
        intro g124
        have h125 := h121 g124
        obtain ⟨h126, h127⟩ := h125
        refine ⟨?_, ?_⟩
        · intro g128
          have h129 := h126 g128
          obtain ⟨n130, h130⟩ := h129
          refine ⟨n130, ?_⟩
          refine fmX12_readsCell_L45 hQ ?_ _ _ _ _ _ F121 h130
          · intro v2_132 v3_133 M_134 F131 h131
            unfold qX12_readsCell_J85 at h131 ⊢
            intro x17_135 g136 g137
            have h135 := h131 x17_135 g136 g137
            obtain ⟨v138, h138⟩ := h135
            refine ⟨v138, ?_⟩
            obtain ⟨h139, h140⟩ := h138
            refine ⟨?_, ?_⟩
            · intro g141
              have h142 := h139 g141
              unfold qX12_readsCell_J99 at h142 ⊢
              obtain ⟨v143, h143⟩ := h142
              refine ⟨v143, ?_⟩
              refine fmX12_flag h143 ?_
              intro x21_145 M21_146 f144 h144
              have F144 : Ks (fun k j => (k = 1 ∧ (j = 15))) M M21_146 := (F131).tr (f144.mono (fun _ _ h => False.elim h))
              intro g147
              have h148 := h144 g147
              obtain ⟨v149, h149⟩ := h148
              refine ⟨v149, ?_⟩
              intro M23_150 eM23_150
              have h150 := h149 M23_150 eM23_150
              have F150 : Ks (fun k j => (k = 1 ∧ (j = 15))) M M23_150 := by rw [eM23_150]; exact (F144).wr (mw_109)
              obtain ⟨v151, h151⟩ := h150
              refine ⟨v151, ?_⟩
              obtain ⟨h152, h153⟩ := h151
              refine ⟨?_, ?_⟩
              · intro g154
                have h155 := h152 g154
                exact hQ _ _ F150 h155
              · intro g156
                have h157 := h153 g156
                obtain ⟨v158, h158⟩ := h157
                refine ⟨v158, ?_⟩
                exact hQ _ _ F150 h158
            · intro g159
              have h160 := h140 g159
              unfold qX12_readsCell_J99 at h160 ⊢
              obtain ⟨v161, h161⟩ := h160
              refine ⟨v161, ?_⟩
              refine fmX12_flag h161 ?_
              intro x21_163 M21_164 f162 h162
              have F162 : Ks (fun k j => (k = 1 ∧ (j = 15))) M M21_164 := (F131).tr (f162.mono (fun _ _ h => False.elim h))
              intro g165
              have h166 := h162 g165
              obtain ⟨v167, h167⟩ := h166
              refine ⟨v167, ?_⟩
              intro M23_168 eM23_168
              have h168 := h167 M23_168 eM23_168
              have F168 : Ks (fun k j => (k = 1 ∧ (j = 15))) M M23_168 := by rw [eM23_168]; exact (F162).wr (mw_109)
              obtain ⟨v169, h169⟩ := h168
              refine ⟨v169, ?_⟩
              obtain ⟨h170, h171⟩ := h169
              refine ⟨?_, ?_⟩
              · intro g172
                have h173 := h170 g172
                exact hQ _ _ F168 h173
              · intro g174
                have h175 := h171 g174
                obtain ⟨v176, h176⟩ := h175
                refine ⟨v176, ?_⟩
                exact hQ _ _ F168 h176
        · intro g177
          have h178 := h127 g177
          obtain ⟨n179, h179⟩ := h178
          refine ⟨n179, ?_⟩
          refine fmX12_readsCell_L45 hQ ?_ _ _ _ _ _ F121 h179
          · intro v2_181 v3_182 M_183 F180 h180
            unfold qX12_readsCell_J85 at h180 ⊢
            intro x17_184 g185 g186
            have h184 := h180 x17_184 g185 g186
            obtain ⟨v187, h187⟩ := h184
            refine ⟨v187, ?_⟩
            obtain ⟨h188, h189⟩ := h187
            refine ⟨?_, ?_⟩
            · intro g190
              have h191 := h188 g190
              unfold qX12_readsCell_J99 at h191 ⊢
              obtain ⟨v192, h192⟩ := h191
              refine ⟨v192, ?_⟩
              refine fmX12_flag h192 ?_
              intro x21_194 M21_195 f193 h193
              have F193 : Ks (fun k j => (k = 1 ∧ (j = 15))) M M21_195 := (F180).tr (f193.mono (fun _ _ h => False.elim h))
              intro g196
              have h197 := h193 g196
              obtain ⟨v198, h198⟩ := h197
              refine ⟨v198, ?_⟩
              intro M23_199 eM23_199
              have h199 := h198 M23_199 eM23_199
              have F199 : Ks (fun k j => (k = 1 ∧ (j = 15))) M M23_199 := by rw [eM23_199]; exact (F193).wr (mw_109)
              obtain ⟨v200, h200⟩ := h199
              refine ⟨v200, ?_⟩
              obtain ⟨h201, h202⟩ := h200
              refine ⟨?_, ?_⟩
              · intro g203
                have h204 := h201 g203
                exact hQ _ _ F199 h204
              · intro g205
                have h206 := h202 g205
                obtain ⟨v207, h207⟩ := h206
                refine ⟨v207, ?_⟩
                exact hQ _ _ F199 h207
            · intro g208
              have h209 := h189 g208
              unfold qX12_readsCell_J99 at h209 ⊢
              obtain ⟨v210, h210⟩ := h209
              refine ⟨v210, ?_⟩
              refine fmX12_flag h210 ?_
              intro x21_212 M21_213 f211 h211
              have F211 : Ks (fun k j => (k = 1 ∧ (j = 15))) M M21_213 := (F180).tr (f211.mono (fun _ _ h => False.elim h))
              intro g214
              have h215 := h211 g214
              obtain ⟨v216, h216⟩ := h215
              refine ⟨v216, ?_⟩
              intro M23_217 eM23_217
              have h217 := h216 M23_217 eM23_217
              have F217 : Ks (fun k j => (k = 1 ∧ (j = 15))) M M23_217 := by rw [eM23_217]; exact (F211).wr (mw_109)
              obtain ⟨v218, h218⟩ := h217
              refine ⟨v218, ?_⟩
              obtain ⟨h219, h220⟩ := h218
              refine ⟨?_, ?_⟩
              · intro g221
                have h222 := h219 g221
                exact hQ _ _ F217 h222
              · intro g223
                have h224 := h220 g223
                obtain ⟨v225, h225⟩ := h224
                refine ⟨v225, ?_⟩
                exact hQ _ _ F217 h225
  · intro g226
    have h227 := h7 g226
    exact hQ _ _ F1 h227
theorem fmX12_readsHearse  {M : Mem} {Q Q' : Int → Mem → Prop} (h : qX12_readsHearse M Q) (hQ : ∀ (w0 : Int) (M' : Mem), Ks (fun k j => k = 9 ∨ (k = 1 ∧ (j = 15 ∨ j = 20))) M M' → Q w0 M' → Q' w0 M') : qX12_readsHearse M Q' := by
  unfold qX12_readsHearse at h ⊢
  intro x1_1 g2 g3
  have h1 := h x1_1 g2 g3
  intro x2_4 g5 g6
  have h4 := h1 x2_4 g5 g6
  obtain ⟨v7, h7⟩ := h4
  refine ⟨v7, ?_⟩
  obtain ⟨h8, h9⟩ := h7
  refine ⟨?_, ?_⟩
  · intro g10
    have h11 := h8 g10
    refine fmX12_readsCell h11 ?_
    intro x5_13 M5_14 f12 h12
    have F12 : Ks (fun k j => k = 9 ∨ (k = 1 ∧ (j = 15 ∨ j = 20))) M M5_14 := (Ks.rf).tr (f12.mono (mo_133))
    intro g15
    have h16 := h12 g15
    intro x6_17 g18 g19
    have h17 := h16 x6_17 g18 g19
    obtain ⟨v20, h20⟩ := h17
    refine ⟨v20, ?_⟩
    obtain ⟨v21, h21⟩ := h20
    refine ⟨v21, ?_⟩
    intro M9_22 eM9_22
    have h22 := h21 M9_22 eM9_22
    have F22 : Ks (fun k j => k = 9 ∨ (k = 1 ∧ (j = 15 ∨ j = 20))) M M9_22 := by rw [eM9_22]; exact (F12).wr (mw_122 _)
    intro x10_23 g24 g25
    have h23 := h22 x10_23 g24 g25
    obtain ⟨v26, h26⟩ := h23
    refine ⟨v26, ?_⟩
    intro M12_27 eM12_27
    have h27 := h26 M12_27 eM12_27
    have F27 : Ks (fun k j => k = 9 ∨ (k = 1 ∧ (j = 15 ∨ j = 20))) M M12_27 := by rw [eM12_27]; exact (F22).wr (mw_123)
    obtain ⟨h28, h29⟩ := h27
    refine ⟨?_, ?_⟩
    · intro g30
      have h31 := h28 g30
      exact hQ _ _ F27 h31
    · intro g32
      have h33 := h29 g32
      exact hQ _ _ F27 h33
  · intro g34
    have h35 := h9 g34
    exact hQ _ _ Ks.rf h35
theorem fmX12_takes {p1 : Int} {M : Mem} {Q Q' : Int → Mem → Prop} (h : qX12_takes p1 M Q) (hQ : ∀ (w0 : Int) (M' : Mem), Ks (fun k j => (k = 1 ∧ (j = 15))) M M' → Q w0 M' → Q' w0 M') : qX12_takes p1 M Q' := by
  unfold qX12_takes at h ⊢
  intro x1_1 g2 g3
  have h1 := h x1_1 g2 g3
  intro x2_4 g5 g6
  have h4 := h1 x2_4 g5 g6
  obtain ⟨h7, h8⟩ := h4
  refine ⟨?_, ?_⟩
  · intro g9
    have h10 := h7 g9
    unfold qX12_takes_J28 at h10 ⊢
    unfold qX12_takes_J29 at h10 ⊢
    intro x4_11 g12 g13
    have h11 := h10 x4_11 g12 g13
    obtain ⟨v14, h14⟩ := h11
    refine ⟨v14, ?_⟩
    refine fmX12_flag h14 ?_
    intro x6_16 M6_17 f15 h15
    have F15 : Ks (fun k j => (k = 1 ∧ (j = 15))) M M6_17 := (Ks.rf).tr (f15.mono (fun _ _ h => False.elim h))
    intro g18
    have h19 := h15 g18
    obtain ⟨v20, h20⟩ := h19
    refine ⟨v20, ?_⟩
    intro M8_21 eM8_21
    have h21 := h20 M8_21 eM8_21
    have F21 : Ks (fun k j => (k = 1 ∧ (j = 15))) M M8_21 := by rw [eM8_21]; exact (F15).wr (mw_109)
    obtain ⟨v22, h22⟩ := h21
    refine ⟨v22, ?_⟩
    exact hQ _ _ F21 h22
  · intro g23
    have h24 := h8 g23
    intro x10_25 g26 g27
    have h25 := h24 x10_25 g26 g27
    obtain ⟨v28, h28⟩ := h25
    refine ⟨v28, ?_⟩
    obtain ⟨v29, h29⟩ := h28
    refine ⟨v29, ?_⟩
    intro x13_30 g31 g32
    have h30 := h29 x13_30 g31 g32
    obtain ⟨h33, h34⟩ := h30
    refine ⟨?_, ?_⟩
    · intro g35
      have h36 := h33 g35
      unfold qX12_takes_J28 at h36 ⊢
      unfold qX12_takes_J29 at h36 ⊢
      intro x4_37 g38 g39
      have h37 := h36 x4_37 g38 g39
      obtain ⟨v40, h40⟩ := h37
      refine ⟨v40, ?_⟩
      refine fmX12_flag h40 ?_
      intro x6_42 M6_43 f41 h41
      have F41 : Ks (fun k j => (k = 1 ∧ (j = 15))) M M6_43 := (Ks.rf).tr (f41.mono (fun _ _ h => False.elim h))
      intro g44
      have h45 := h41 g44
      obtain ⟨v46, h46⟩ := h45
      refine ⟨v46, ?_⟩
      intro M8_47 eM8_47
      have h47 := h46 M8_47 eM8_47
      have F47 : Ks (fun k j => (k = 1 ∧ (j = 15))) M M8_47 := by rw [eM8_47]; exact (F41).wr (mw_109)
      obtain ⟨v48, h48⟩ := h47
      refine ⟨v48, ?_⟩
      exact hQ _ _ F47 h48
    · intro g49
      have h50 := h34 g49
      unfold qX12_takes_J29 at h50 ⊢
      intro x4_51 g52 g53
      have h51 := h50 x4_51 g52 g53
      obtain ⟨v54, h54⟩ := h51
      refine ⟨v54, ?_⟩
      refine fmX12_flag h54 ?_
      intro x6_56 M6_57 f55 h55
      have F55 : Ks (fun k j => (k = 1 ∧ (j = 15))) M M6_57 := (Ks.rf).tr (f55.mono (fun _ _ h => False.elim h))
      intro g58
      have h59 := h55 g58
      obtain ⟨v60, h60⟩ := h59
      refine ⟨v60, ?_⟩
      intro M8_61 eM8_61
      have h61 := h60 M8_61 eM8_61
      have F61 : Ks (fun k j => (k = 1 ∧ (j = 15))) M M8_61 := by rw [eM8_61]; exact (F55).wr (mw_109)
      obtain ⟨v62, h62⟩ := h61
      refine ⟨v62, ?_⟩
      exact hQ _ _ F61 h62
theorem fmX12_hearses_L29  {X60 X60' : Int → Int → Mem → Prop} {Q Q' : Int → Mem → Prop} {M0 : Mem} (hQ : ∀ (w0 : Int) (M' : Mem), Ks (fun k j => k = 5 ∨ k = 9 ∨ (k = 1 ∧ (j = 0 ∨ j = 4 ∨ j = 6 ∨ j = 14 ∨ j = 15 ∨ j = 16 ∨ j = 17 ∨ j = 20 ∨ j = 28))) M0 M' → Q w0 M' → Q' w0 M') (hX60 : ∀ (w0 w1 : Int) (M' : Mem), Ks (fun k j => k = 5 ∨ k = 9 ∨ (k = 1 ∧ (j = 0 ∨ j = 4 ∨ j = 6 ∨ j = 14 ∨ j = 15 ∨ j = 16 ∨ j = 17 ∨ j = 20 ∨ j = 28))) M0 M' → X60 w0 w1 M' → X60' w0 w1 M') : ∀ (n : Nat) (v1 v2 v3 : Int) (M : Mem), Ks (fun k j => k = 5 ∨ k = 9 ∨ (k = 1 ∧ (j = 0 ∨ j = 4 ∨ j = 6 ∨ j = 14 ∨ j = 15 ∨ j = 16 ∨ j = 17 ∨ j = 20 ∨ j = 28))) M0 M → qX12_hearses_L29 X60 Q n v1 v2 v3 M → qX12_hearses_L29 X60' Q' n v1 v2 v3 M := by
  intro n
  induction n with
  | zero => intro v1 v2 v3 M _ h; exact h.elim
  | succ n ih =>
    intro v1 v2 v3 M hF h
    rw [qX12_hearses_L29] at h
    rw [qX12_hearses_L29]
    obtain ⟨v1, h1⟩ := h
    refine ⟨v1, ?_⟩
    obtain ⟨h2, h3⟩ := h1
    refine ⟨?_, ?_⟩
    · intro g4
      have h5 := h2 g4
      exact hX60 _ _ _ hF h5
    · intro g6
      have h7 := h3 g6
      refine fmX12_readsHearse h7 ?_
      intro x7_9 M7_10 f8 h8
      have F8 : Ks (fun k j => k = 5 ∨ k = 9 ∨ (k = 1 ∧ (j = 0 ∨ j = 4 ∨ j = 6 ∨ j = 14 ∨ j = 15 ∨ j = 16 ∨ j = 17 ∨ j = 20 ∨ j = 28))) M0 M7_10 := (hF).tr (f8.mono (mo_134))
      intro g11 g12
      have h13 := h8 g11 g12
      obtain ⟨h14, h15⟩ := h13
      refine ⟨?_, ?_⟩
      · intro g16
        have h17 := h14 g16
        exact ih _ _ _ _ F8 h17
      · intro g18
        have h19 := h15 g18
        refine fmX12_takes h19 ?_
        intro x9_21 M9_22 f20 h20
        have F20 : Ks (fun k j => k = 5 ∨ k = 9 ∨ (k = 1 ∧ (j = 0 ∨ j = 4 ∨ j = 6 ∨ j = 14 ∨ j = 15 ∨ j = 16 ∨ j = 17 ∨ j = 20 ∨ j = 28))) M0 M9_22 := (F8).tr (f20.mono (mo_135))
        intro g23 g24
        have h25 := h20 g23 g24
        obtain ⟨h26, h27⟩ := h25
        refine ⟨?_, ?_⟩
        · intro g28
          have h29 := h26 g28
          exact ih _ _ _ _ F20 h29
        · intro g30
          have h31 := h27 g30
          exact ih _ _ _ _ F20 h31
theorem fmX12_hearses_L81  {X135 X135' : Mem → Prop} {Q Q' : Int → Mem → Prop} {M0 : Mem} (hQ : ∀ (w0 : Int) (M' : Mem), Ks (fun k j => k = 5 ∨ k = 9 ∨ (k = 1 ∧ (j = 0 ∨ j = 4 ∨ j = 6 ∨ j = 14 ∨ j = 15 ∨ j = 16 ∨ j = 17 ∨ j = 20 ∨ j = 28))) M0 M' → Q w0 M' → Q' w0 M') (hX135 : ∀ (M' : Mem), Ks (fun k j => k = 5 ∨ k = 9 ∨ (k = 1 ∧ (j = 0 ∨ j = 4 ∨ j = 6 ∨ j = 14 ∨ j = 15 ∨ j = 16 ∨ j = 17 ∨ j = 20 ∨ j = 28))) M0 M' → X135 M' → X135' M') : ∀ (n : Nat) (v5 : Int) (M : Mem), Ks (fun k j => k = 5 ∨ k = 9 ∨ (k = 1 ∧ (j = 0 ∨ j = 4 ∨ j = 6 ∨ j = 14 ∨ j = 15 ∨ j = 16 ∨ j = 17 ∨ j = 20 ∨ j = 28))) M0 M → qX12_hearses_L81 X135 Q n v5 M → qX12_hearses_L81 X135' Q' n v5 M := by
  intro n
  induction n with
  | zero => intro v5 M _ h; exact h.elim
  | succ n ih =>
    intro v5 M hF h
    rw [qX12_hearses_L81] at h
    rw [qX12_hearses_L81]
    intro x16_1 g2 g3
    have h1 := h x16_1 g2 g3
    obtain ⟨v4, h4⟩ := h1
    refine ⟨v4, ?_⟩
    obtain ⟨h5, h6⟩ := h4
    refine ⟨?_, ?_⟩
    · intro g7
      have h8 := h5 g7
      exact hX135 _ hF h8
    · intro g9
      have h10 := h6 g9
      intro x19_11 g12 g13
      have h11 := h10 x19_11 g12 g13
      obtain ⟨v14, h14⟩ := h11
      refine ⟨v14, ?_⟩
      obtain ⟨v15, h15⟩ := h14
      refine ⟨v15, ?_⟩
      intro x22_16 g17 g18
      have h16 := h15 x22_16 g17 g18
      obtain ⟨v19, h19⟩ := h16
      refine ⟨v19, ?_⟩
      obtain ⟨v20, h20⟩ := h19
      refine ⟨v20, ?_⟩
      intro M25_21 eM25_21
      have h21 := h20 M25_21 eM25_21
      have F21 : Ks (fun k j => k = 5 ∨ k = 9 ∨ (k = 1 ∧ (j = 0 ∨ j = 4 ∨ j = 6 ∨ j = 14 ∨ j = 15 ∨ j = 16 ∨ j = 17 ∨ j = 20 ∨ j = 28))) M0 M25_21 := by rw [eM25_21]; exact (hF).wr (mw_124 _)
      intro x26_22 g23 g24
      have h22 := h21 x26_22 g23 g24
      obtain ⟨v25, h25⟩ := h22
      refine ⟨v25, ?_⟩
      obtain ⟨v26, h26⟩ := h25
      refine ⟨v26, ?_⟩
      intro M29_27 eM29_27
      have h27 := h26 M29_27 eM29_27
      have F27 : Ks (fun k j => k = 5 ∨ k = 9 ∨ (k = 1 ∧ (j = 0 ∨ j = 4 ∨ j = 6 ∨ j = 14 ∨ j = 15 ∨ j = 16 ∨ j = 17 ∨ j = 20 ∨ j = 28))) M0 M29_27 := by rw [eM29_27]; exact (F21).wr (mw_124 _)
      intro x30_28 g29 g30
      have h28 := h27 x30_28 g29 g30
      obtain ⟨v31, h31⟩ := h28
      refine ⟨v31, ?_⟩
      intro M32_32 eM32_32
      have h32 := h31 M32_32 eM32_32
      have F32 : Ks (fun k j => k = 5 ∨ k = 9 ∨ (k = 1 ∧ (j = 0 ∨ j = 4 ∨ j = 6 ∨ j = 14 ∨ j = 15 ∨ j = 16 ∨ j = 17 ∨ j = 20 ∨ j = 28))) M0 M32_32 := by rw [eM32_32]; exact (F27).wr (mw_125)
      exact ih _ _ F32 h32
theorem fmX12_hearses  {M : Mem} {Q Q' : Int → Mem → Prop} (h : qX12_hearses M Q) (hQ : ∀ (w0 : Int) (M' : Mem), Ks (fun k j => k = 5 ∨ k = 9 ∨ (k = 1 ∧ (j = 0 ∨ j = 4 ∨ j = 6 ∨ j = 14 ∨ j = 15 ∨ j = 16 ∨ j = 17 ∨ j = 20 ∨ j = 28))) M M' → Q w0 M' → Q' w0 M') : qX12_hearses M Q' := by
  unfold qX12_hearses at h ⊢
  intro M1_1 eM1_1
  have h1 := h M1_1 eM1_1
  have F1 : Ks (fun k j => k = 5 ∨ k = 9 ∨ (k = 1 ∧ (j = 0 ∨ j = 4 ∨ j = 6 ∨ j = 14 ∨ j = 15 ∨ j = 16 ∨ j = 17 ∨ j = 20 ∨ j = 28))) M M1_1 := by rw [eM1_1]; exact (Ks.rf).wr (mw_126)
  refine fmX12_begins h1 ?_
  intro x2_3 M2_4 f2 h2
  have F2 : Ks (fun k j => k = 5 ∨ k = 9 ∨ (k = 1 ∧ (j = 0 ∨ j = 4 ∨ j = 6 ∨ j = 14 ∨ j = 15 ∨ j = 16 ∨ j = 17 ∨ j = 20 ∨ j = 28))) M M2_4 := (F1).tr (f2.mono (mo_136))
  intro g5
  have h6 := h2 g5
  intro M3_7 eM3_7
  have h7 := h6 M3_7 eM3_7
  have F7 : Ks (fun k j => k = 5 ∨ k = 9 ∨ (k = 1 ∧ (j = 0 ∨ j = 4 ∨ j = 6 ∨ j = 14 ∨ j = 15 ∨ j = 16 ∨ j = 17 ∨ j = 20 ∨ j = 28))) M M3_7 := by rw [eM3_7]; exact (F2).wr (mw_127)
  obtain ⟨h8, h9⟩ := h7
  refine ⟨?_, ?_⟩
  · intro g10
    have h11 := h8 g10
    obtain ⟨n12, h12⟩ := h11
    refine ⟨n12, ?_⟩
    refine fmX12_hearses_L29 hQ ?_ _ _ _ _ _ F7 h12
    · intro v1_14 v2_15 M_16 F13 h13
      obtain ⟨v17, h17⟩ := h13
      refine ⟨v17, ?_⟩
      obtain ⟨v18, h18⟩ := h17
      refine ⟨v18, ?_⟩
      refine fmX12_faultOf h18 ?_
      intro x14_20 M14_21 f19 h19
      have F19 : Ks (fun k j => k = 5 ∨ k = 9 ∨ (k = 1 ∧ (j = 0 ∨ j = 4 ∨ j = 6 ∨ j = 14 ∨ j = 15 ∨ j = 16 ∨ j = 17 ∨ j = 20 ∨ j = 28))) M M14_21 := (F13).tr (f19.mono (fun _ _ h => False.elim h))
      intro g22
      have h23 := h19 g22
      obtain ⟨h24, h25⟩ := h23
      refine ⟨?_, ?_⟩
      · intro g26
        have h27 := h24 g26
        obtain ⟨n28, h28⟩ := h27
        refine ⟨n28, ?_⟩
        refine fmX12_hearses_L81 hQ ?_ _ _ _ F19 h28
        · intro M_30 F29 h29
          refine fmX12_isNew h29 ?_
          intro x34_32 M34_33 f31 h31
          have F31 : Ks (fun k j => k = 5 ∨ k = 9 ∨ (k = 1 ∧ (j = 0 ∨ j = 4 ∨ j = 6 ∨ j = 14 ∨ j = 15 ∨ j = 16 ∨ j = 17 ∨ j = 20 ∨ j = 28))) M M34_33 := (F29).tr (f31.mono (mo_137))
          intro g34
          have h35 := h31 g34
          exact hQ _ _ F31 h35
      · intro g36
        have h37 := h25 g36
        exact hQ _ _ F19 h37
  · intro g38
    have h39 := h9 g38
    obtain ⟨n40, h40⟩ := h39
    refine ⟨n40, ?_⟩
    refine fmX12_hearses_L29 hQ ?_ _ _ _ _ _ F7 h40
    · intro v1_42 v2_43 M_44 F41 h41
      obtain ⟨v45, h45⟩ := h41
      refine ⟨v45, ?_⟩
      obtain ⟨v46, h46⟩ := h45
      refine ⟨v46, ?_⟩
      refine fmX12_faultOf h46 ?_
      intro x38_48 M38_49 f47 h47
      have F47 : Ks (fun k j => k = 5 ∨ k = 9 ∨ (k = 1 ∧ (j = 0 ∨ j = 4 ∨ j = 6 ∨ j = 14 ∨ j = 15 ∨ j = 16 ∨ j = 17 ∨ j = 20 ∨ j = 28))) M M38_49 := (F41).tr (f47.mono (fun _ _ h => False.elim h))
      intro g50
      have h51 := h47 g50
      obtain ⟨h52, h53⟩ := h51
      refine ⟨?_, ?_⟩
      · intro g54
        have h55 := h52 g54
        obtain ⟨n56, h56⟩ := h55
        refine ⟨n56, ?_⟩
        refine fmX12_hearses_L81 hQ ?_ _ _ _ F47 h56
        · intro M_58 F57 h57
          refine fmX12_isNew h57 ?_
          intro x41_60 M41_61 f59 h59
          have F59 : Ks (fun k j => k = 5 ∨ k = 9 ∨ (k = 1 ∧ (j = 0 ∨ j = 4 ∨ j = 6 ∨ j = 14 ∨ j = 15 ∨ j = 16 ∨ j = 17 ∨ j = 20 ∨ j = 28))) M M41_61 := (F57).tr (f59.mono (mo_137))
          intro g62
          have h63 := h59 g62
          exact hQ _ _ F59 h63
      · intro g64
        have h65 := h53 g64
        exact hQ _ _ F47 h65
theorem fmX12_readsMourner  {M : Mem} {Q Q' : Int → Mem → Prop} (h : qX12_readsMourner M Q) (hQ : ∀ (w0 : Int) (M' : Mem), Ks (fun k j => k = 9 ∨ (k = 1 ∧ (j = 15 ∨ j = 20))) M M' → Q w0 M' → Q' w0 M') : qX12_readsMourner M Q' := by
  unfold qX12_readsMourner at h ⊢
  intro x1_1 g2 g3
  have h1 := h x1_1 g2 g3
  intro x2_4 g5 g6
  have h4 := h1 x2_4 g5 g6
  obtain ⟨v7, h7⟩ := h4
  refine ⟨v7, ?_⟩
  obtain ⟨h8, h9⟩ := h7
  refine ⟨?_, ?_⟩
  · intro g10
    have h11 := h8 g10
    refine fmX12_readsCell h11 ?_
    intro x5_13 M5_14 f12 h12
    have F12 : Ks (fun k j => k = 9 ∨ (k = 1 ∧ (j = 15 ∨ j = 20))) M M5_14 := (Ks.rf).tr (f12.mono (mo_133))
    intro g15
    have h16 := h12 g15
    intro x6_17 g18 g19
    have h17 := h16 x6_17 g18 g19
    obtain ⟨v20, h20⟩ := h17
    refine ⟨v20, ?_⟩
    obtain ⟨v21, h21⟩ := h20
    refine ⟨v21, ?_⟩
    intro M9_22 eM9_22
    have h22 := h21 M9_22 eM9_22
    have F22 : Ks (fun k j => k = 9 ∨ (k = 1 ∧ (j = 15 ∨ j = 20))) M M9_22 := by rw [eM9_22]; exact (F12).wr (mw_122 _)
    intro x10_23 g24 g25
    have h23 := h22 x10_23 g24 g25
    obtain ⟨h26, h27⟩ := h23
    refine ⟨?_, ?_⟩
    · intro g28
      have h29 := h26 g28
      intro x12_30 g31 g32
      have h30 := h29 x12_30 g31 g32
      obtain ⟨v33, h33⟩ := h30
      refine ⟨v33, ?_⟩
      obtain ⟨v34, h34⟩ := h33
      refine ⟨v34, ?_⟩
      refine fmX12_takesOf h34 ?_
      intro x16_36 M16_37 f35 h35
      have F35 : Ks (fun k j => k = 9 ∨ (k = 1 ∧ (j = 15 ∨ j = 20))) M M16_37 := (F22).tr (f35.mono (mo_133))
      intro g38
      have h39 := h35 g38
      unfold qX12_readsMourner_J68 at h39 ⊢
      obtain ⟨v40, h40⟩ := h39
      refine ⟨v40, ?_⟩
      obtain ⟨v41, h41⟩ := h40
      refine ⟨v41, ?_⟩
      obtain ⟨v42, h42⟩ := h41
      refine ⟨v42, ?_⟩
      intro M20_43 eM20_43
      have h43 := h42 M20_43 eM20_43
      have F43 : Ks (fun k j => k = 9 ∨ (k = 1 ∧ (j = 15 ∨ j = 20))) M M20_43 := by rw [eM20_43]; exact (F35).wr (mw_122 _)
      intro x21_44 g45 g46
      have h44 := h43 x21_44 g45 g46
      obtain ⟨v47, h47⟩ := h44
      refine ⟨v47, ?_⟩
      intro M23_48 eM23_48
      have h48 := h47 M23_48 eM23_48
      have F48 : Ks (fun k j => k = 9 ∨ (k = 1 ∧ (j = 15 ∨ j = 20))) M M23_48 := by rw [eM23_48]; exact (F43).wr (mw_123)
      intro x24_49 g50 g51
      have h49 := h48 x24_49 g50 g51
      obtain ⟨v52, h52⟩ := h49
      refine ⟨v52, ?_⟩
      obtain ⟨v53, h53⟩ := h52
      refine ⟨v53, ?_⟩
      intro x27_54 g55 g56
      have h54 := h53 x27_54 g55 g56
      obtain ⟨h57, h58⟩ := h54
      refine ⟨?_, ?_⟩
      · intro g59
        have h60 := h57 g59
        exact hQ _ _ F48 h60
      · intro g61
        have h62 := h58 g61
        exact hQ _ _ F48 h62
    · intro g63
      have h64 := h27 g63
      unfold qX12_readsMourner_J68 at h64 ⊢
      obtain ⟨v65, h65⟩ := h64
      refine ⟨v65, ?_⟩
      obtain ⟨v66, h66⟩ := h65
      refine ⟨v66, ?_⟩
      obtain ⟨v67, h67⟩ := h66
      refine ⟨v67, ?_⟩
      intro M20_68 eM20_68
      have h68 := h67 M20_68 eM20_68
      have F68 : Ks (fun k j => k = 9 ∨ (k = 1 ∧ (j = 15 ∨ j = 20))) M M20_68 := by rw [eM20_68]; exact (F22).wr (mw_122 _)
      intro x21_69 g70 g71
      have h69 := h68 x21_69 g70 g71
      obtain ⟨v72, h72⟩ := h69
      refine ⟨v72, ?_⟩
      intro M23_73 eM23_73
      have h73 := h72 M23_73 eM23_73
      have F73 : Ks (fun k j => k = 9 ∨ (k = 1 ∧ (j = 15 ∨ j = 20))) M M23_73 := by rw [eM23_73]; exact (F68).wr (mw_123)
      intro x24_74 g75 g76
      have h74 := h73 x24_74 g75 g76
      obtain ⟨v77, h77⟩ := h74
      refine ⟨v77, ?_⟩
      obtain ⟨v78, h78⟩ := h77
      refine ⟨v78, ?_⟩
      intro x27_79 g80 g81
      have h79 := h78 x27_79 g80 g81
      obtain ⟨h82, h83⟩ := h79
      refine ⟨?_, ?_⟩
      · intro g84
        have h85 := h82 g84
        exact hQ _ _ F73 h85
      · intro g86
        have h87 := h83 g86
        exact hQ _ _ F73 h87
  · intro g88
    have h89 := h9 g88
    exact hQ _ _ Ks.rf h89
theorem fmX12_mourners_L29  {X60 X60' : Int → Int → Mem → Prop} {Q Q' : Int → Mem → Prop} {M0 : Mem} (hQ : ∀ (w0 : Int) (M' : Mem), Ks (fun k j => k = 3 ∨ k = 5 ∨ k = 9 ∨ (k = 1 ∧ (j = 0 ∨ j = 5 ∨ j = 6 ∨ j = 14 ∨ j = 15 ∨ j = 16 ∨ j = 17 ∨ j = 20 ∨ j = 28))) M0 M' → Q w0 M' → Q' w0 M') (hX60 : ∀ (w0 w1 : Int) (M' : Mem), Ks (fun k j => k = 3 ∨ k = 5 ∨ k = 9 ∨ (k = 1 ∧ (j = 0 ∨ j = 5 ∨ j = 6 ∨ j = 14 ∨ j = 15 ∨ j = 16 ∨ j = 17 ∨ j = 20 ∨ j = 28))) M0 M' → X60 w0 w1 M' → X60' w0 w1 M') : ∀ (n : Nat) (v1 v2 v3 : Int) (M : Mem), Ks (fun k j => k = 3 ∨ k = 5 ∨ k = 9 ∨ (k = 1 ∧ (j = 0 ∨ j = 5 ∨ j = 6 ∨ j = 14 ∨ j = 15 ∨ j = 16 ∨ j = 17 ∨ j = 20 ∨ j = 28))) M0 M → qX12_mourners_L29 X60 Q n v1 v2 v3 M → qX12_mourners_L29 X60' Q' n v1 v2 v3 M := by
  intro n
  induction n with
  | zero => intro v1 v2 v3 M _ h; exact h.elim
  | succ n ih =>
    intro v1 v2 v3 M hF h
    rw [qX12_mourners_L29] at h
    rw [qX12_mourners_L29]
    obtain ⟨v1, h1⟩ := h
    refine ⟨v1, ?_⟩
    obtain ⟨h2, h3⟩ := h1
    refine ⟨?_, ?_⟩
    · intro g4
      have h5 := h2 g4
      exact hX60 _ _ _ hF h5
    · intro g6
      have h7 := h3 g6
      refine fmX12_readsMourner h7 ?_
      intro x7_9 M7_10 f8 h8
      have F8 : Ks (fun k j => k = 3 ∨ k = 5 ∨ k = 9 ∨ (k = 1 ∧ (j = 0 ∨ j = 5 ∨ j = 6 ∨ j = 14 ∨ j = 15 ∨ j = 16 ∨ j = 17 ∨ j = 20 ∨ j = 28))) M0 M7_10 := (hF).tr (f8.mono (mo_138))
      intro g11 g12
      have h13 := h8 g11 g12
      obtain ⟨h14, h15⟩ := h13
      refine ⟨?_, ?_⟩
      · intro g16
        have h17 := h14 g16
        exact ih _ _ _ _ F8 h17
      · intro g18
        have h19 := h15 g18
        refine fmX12_takes h19 ?_
        intro x9_21 M9_22 f20 h20
        have F20 : Ks (fun k j => k = 3 ∨ k = 5 ∨ k = 9 ∨ (k = 1 ∧ (j = 0 ∨ j = 5 ∨ j = 6 ∨ j = 14 ∨ j = 15 ∨ j = 16 ∨ j = 17 ∨ j = 20 ∨ j = 28))) M0 M9_22 := (F8).tr (f20.mono (mo_139))
        intro g23 g24
        have h25 := h20 g23 g24
        obtain ⟨h26, h27⟩ := h25
        refine ⟨?_, ?_⟩
        · intro g28
          have h29 := h26 g28
          exact ih _ _ _ _ F20 h29
        · intro g30
          have h31 := h27 g30
          exact ih _ _ _ _ F20 h31
theorem fmX12_mourners_L81  {X173 X173' : Mem → Prop} {Q Q' : Int → Mem → Prop} {M0 : Mem} (hQ : ∀ (w0 : Int) (M' : Mem), Ks (fun k j => k = 3 ∨ k = 5 ∨ k = 9 ∨ (k = 1 ∧ (j = 0 ∨ j = 5 ∨ j = 6 ∨ j = 14 ∨ j = 15 ∨ j = 16 ∨ j = 17 ∨ j = 20 ∨ j = 28))) M0 M' → Q w0 M' → Q' w0 M') (hX173 : ∀ (M' : Mem), Ks (fun k j => k = 3 ∨ k = 5 ∨ k = 9 ∨ (k = 1 ∧ (j = 0 ∨ j = 5 ∨ j = 6 ∨ j = 14 ∨ j = 15 ∨ j = 16 ∨ j = 17 ∨ j = 20 ∨ j = 28))) M0 M' → X173 M' → X173' M') : ∀ (n : Nat) (v5 : Int) (M : Mem), Ks (fun k j => k = 3 ∨ k = 5 ∨ k = 9 ∨ (k = 1 ∧ (j = 0 ∨ j = 5 ∨ j = 6 ∨ j = 14 ∨ j = 15 ∨ j = 16 ∨ j = 17 ∨ j = 20 ∨ j = 28))) M0 M → qX12_mourners_L81 X173 Q n v5 M → qX12_mourners_L81 X173' Q' n v5 M := by
  intro n
  induction n with
  | zero => intro v5 M _ h; exact h.elim
  | succ n ih =>
    intro v5 M hF h
    rw [qX12_mourners_L81] at h
    rw [qX12_mourners_L81]
    intro x16_1 g2 g3
    have h1 := h x16_1 g2 g3
    obtain ⟨v4, h4⟩ := h1
    refine ⟨v4, ?_⟩
    obtain ⟨h5, h6⟩ := h4
    refine ⟨?_, ?_⟩
    · intro g7
      have h8 := h5 g7
      exact hX173 _ hF h8
    · intro g9
      have h10 := h6 g9
      intro x19_11 g12 g13
      have h11 := h10 x19_11 g12 g13
      obtain ⟨v14, h14⟩ := h11
      refine ⟨v14, ?_⟩
      obtain ⟨v15, h15⟩ := h14
      refine ⟨v15, ?_⟩
      intro x22_16 g17 g18
      have h16 := h15 x22_16 g17 g18
      obtain ⟨v19, h19⟩ := h16
      refine ⟨v19, ?_⟩
      obtain ⟨v20, h20⟩ := h19
      refine ⟨v20, ?_⟩
      intro M25_21 eM25_21
      have h21 := h20 M25_21 eM25_21
      have F21 : Ks (fun k j => k = 3 ∨ k = 5 ∨ k = 9 ∨ (k = 1 ∧ (j = 0 ∨ j = 5 ∨ j = 6 ∨ j = 14 ∨ j = 15 ∨ j = 16 ∨ j = 17 ∨ j = 20 ∨ j = 28))) M0 M25_21 := by rw [eM25_21]; exact (hF).wr (mw_128 _)
      intro x26_22 g23 g24
      have h22 := h21 x26_22 g23 g24
      obtain ⟨v25, h25⟩ := h22
      refine ⟨v25, ?_⟩
      obtain ⟨v26, h26⟩ := h25
      refine ⟨v26, ?_⟩
      intro x29_27 g28 g29
      have h27 := h26 x29_27 g28 g29
      obtain ⟨v30, h30⟩ := h27
      refine ⟨v30, ?_⟩
      obtain ⟨v31, h31⟩ := h30
      refine ⟨v31, ?_⟩
      intro M32_32 eM32_32
      have h32 := h31 M32_32 eM32_32
      have F32 : Ks (fun k j => k = 3 ∨ k = 5 ∨ k = 9 ∨ (k = 1 ∧ (j = 0 ∨ j = 5 ∨ j = 6 ∨ j = 14 ∨ j = 15 ∨ j = 16 ∨ j = 17 ∨ j = 20 ∨ j = 28))) M0 M32_32 := by rw [eM32_32]; exact (F21).wr (mw_129 _)
      intro x33_33 g34 g35
      have h33 := h32 x33_33 g34 g35
      obtain ⟨v36, h36⟩ := h33
      refine ⟨v36, ?_⟩
      obtain ⟨v37, h37⟩ := h36
      refine ⟨v37, ?_⟩
      intro M36_38 eM36_38
      have h38 := h37 M36_38 eM36_38
      have F38 : Ks (fun k j => k = 3 ∨ k = 5 ∨ k = 9 ∨ (k = 1 ∧ (j = 0 ∨ j = 5 ∨ j = 6 ∨ j = 14 ∨ j = 15 ∨ j = 16 ∨ j = 17 ∨ j = 20 ∨ j = 28))) M0 M36_38 := by rw [eM36_38]; exact (F32).wr (mw_128 _)
      intro x37_39 g40 g41
      have h39 := h38 x37_39 g40 g41
      obtain ⟨v42, h42⟩ := h39
      refine ⟨v42, ?_⟩
      obtain ⟨v43, h43⟩ := h42
      refine ⟨v43, ?_⟩
      intro M40_44 eM40_44
      have h44 := h43 M40_44 eM40_44
      have F44 : Ks (fun k j => k = 3 ∨ k = 5 ∨ k = 9 ∨ (k = 1 ∧ (j = 0 ∨ j = 5 ∨ j = 6 ∨ j = 14 ∨ j = 15 ∨ j = 16 ∨ j = 17 ∨ j = 20 ∨ j = 28))) M0 M40_44 := by rw [eM40_44]; exact (F38).wr (mw_128 _)
      intro x41_45 g46 g47
      have h45 := h44 x41_45 g46 g47
      obtain ⟨v48, h48⟩ := h45
      refine ⟨v48, ?_⟩
      intro M43_49 eM43_49
      have h49 := h48 M43_49 eM43_49
      have F49 : Ks (fun k j => k = 3 ∨ k = 5 ∨ k = 9 ∨ (k = 1 ∧ (j = 0 ∨ j = 5 ∨ j = 6 ∨ j = 14 ∨ j = 15 ∨ j = 16 ∨ j = 17 ∨ j = 20 ∨ j = 28))) M0 M43_49 := by rw [eM43_49]; exact (F44).wr (mw_130)
      exact ih _ _ F49 h49
theorem fmX12_mourners  {M : Mem} {Q Q' : Int → Mem → Prop} (h : qX12_mourners M Q) (hQ : ∀ (w0 : Int) (M' : Mem), Ks (fun k j => k = 3 ∨ k = 5 ∨ k = 9 ∨ (k = 1 ∧ (j = 0 ∨ j = 5 ∨ j = 6 ∨ j = 14 ∨ j = 15 ∨ j = 16 ∨ j = 17 ∨ j = 20 ∨ j = 28))) M M' → Q w0 M' → Q' w0 M') : qX12_mourners M Q' := by
  unfold qX12_mourners at h ⊢
  intro M1_1 eM1_1
  have h1 := h M1_1 eM1_1
  have F1 : Ks (fun k j => k = 3 ∨ k = 5 ∨ k = 9 ∨ (k = 1 ∧ (j = 0 ∨ j = 5 ∨ j = 6 ∨ j = 14 ∨ j = 15 ∨ j = 16 ∨ j = 17 ∨ j = 20 ∨ j = 28))) M M1_1 := by rw [eM1_1]; exact (Ks.rf).wr (mw_131)
  refine fmX12_begins h1 ?_
  intro x2_3 M2_4 f2 h2
  have F2 : Ks (fun k j => k = 3 ∨ k = 5 ∨ k = 9 ∨ (k = 1 ∧ (j = 0 ∨ j = 5 ∨ j = 6 ∨ j = 14 ∨ j = 15 ∨ j = 16 ∨ j = 17 ∨ j = 20 ∨ j = 28))) M M2_4 := (F1).tr (f2.mono (mo_140))
  intro g5
  have h6 := h2 g5
  intro M3_7 eM3_7
  have h7 := h6 M3_7 eM3_7
  have F7 : Ks (fun k j => k = 3 ∨ k = 5 ∨ k = 9 ∨ (k = 1 ∧ (j = 0 ∨ j = 5 ∨ j = 6 ∨ j = 14 ∨ j = 15 ∨ j = 16 ∨ j = 17 ∨ j = 20 ∨ j = 28))) M M3_7 := by rw [eM3_7]; exact (F2).wr (mw_132)
  obtain ⟨h8, h9⟩ := h7
  refine ⟨?_, ?_⟩
  · intro g10
    have h11 := h8 g10
    obtain ⟨n12, h12⟩ := h11
    refine ⟨n12, ?_⟩
    obtain ⟨v13, h13⟩ := h12
    refine ⟨v13, ?_⟩
    refine fmX12_mourners_L29 hQ ?_ _ _ _ _ _ F7 h13
    · intro v1_15 v2_16 M_17 F14 h14
      obtain ⟨v18, h18⟩ := h14
      refine ⟨v18, ?_⟩
      obtain ⟨v19, h19⟩ := h18
      refine ⟨v19, ?_⟩
      refine fmX12_faultOf h19 ?_
      intro x14_21 M14_22 f20 h20
      have F20 : Ks (fun k j => k = 3 ∨ k = 5 ∨ k = 9 ∨ (k = 1 ∧ (j = 0 ∨ j = 5 ∨ j = 6 ∨ j = 14 ∨ j = 15 ∨ j = 16 ∨ j = 17 ∨ j = 20 ∨ j = 28))) M M14_22 := (F14).tr (f20.mono (fun _ _ h => False.elim h))
      intro g23
      have h24 := h20 g23
      obtain ⟨h25, h26⟩ := h24
      refine ⟨?_, ?_⟩
      · intro g27
        have h28 := h25 g27
        obtain ⟨n29, h29⟩ := h28
        refine ⟨n29, ?_⟩
        refine fmX12_mourners_L81 hQ ?_ _ _ _ F20 h29
        · intro M_31 F30 h30
          refine fmX12_isNew h30 ?_
          intro x45_33 M45_34 f32 h32
          have F32 : Ks (fun k j => k = 3 ∨ k = 5 ∨ k = 9 ∨ (k = 1 ∧ (j = 0 ∨ j = 5 ∨ j = 6 ∨ j = 14 ∨ j = 15 ∨ j = 16 ∨ j = 17 ∨ j = 20 ∨ j = 28))) M M45_34 := (F30).tr (f32.mono (mo_141))
          intro g35
          have h36 := h32 g35
          exact hQ _ _ F32 h36
      · intro g37
        have h38 := h26 g37
        exact hQ _ _ F20 h38
  · intro g39
    have h40 := h9 g39
    obtain ⟨n41, h41⟩ := h40
    refine ⟨n41, ?_⟩
    obtain ⟨v42, h42⟩ := h41
    refine ⟨v42, ?_⟩
    refine fmX12_mourners_L29 hQ ?_ _ _ _ _ _ F7 h42
    · intro v1_44 v2_45 M_46 F43 h43
      obtain ⟨v47, h47⟩ := h43
      refine ⟨v47, ?_⟩
      obtain ⟨v48, h48⟩ := h47
      refine ⟨v48, ?_⟩
      refine fmX12_faultOf h48 ?_
      intro x49_50 M49_51 f49 h49
      have F49 : Ks (fun k j => k = 3 ∨ k = 5 ∨ k = 9 ∨ (k = 1 ∧ (j = 0 ∨ j = 5 ∨ j = 6 ∨ j = 14 ∨ j = 15 ∨ j = 16 ∨ j = 17 ∨ j = 20 ∨ j = 28))) M M49_51 := (F43).tr (f49.mono (fun _ _ h => False.elim h))
      intro g52
      have h53 := h49 g52
      obtain ⟨h54, h55⟩ := h53
      refine ⟨?_, ?_⟩
      · intro g56
        have h57 := h54 g56
        obtain ⟨n58, h58⟩ := h57
        refine ⟨n58, ?_⟩
        refine fmX12_mourners_L81 hQ ?_ _ _ _ F49 h58
        · intro M_60 F59 h59
          refine fmX12_isNew h59 ?_
          intro x52_62 M52_63 f61 h61
          have F61 : Ks (fun k j => k = 3 ∨ k = 5 ∨ k = 9 ∨ (k = 1 ∧ (j = 0 ∨ j = 5 ∨ j = 6 ∨ j = 14 ∨ j = 15 ∨ j = 16 ∨ j = 17 ∨ j = 20 ∨ j = 28))) M M52_63 := (F59).tr (f61.mono (mo_141))
          intro g64
          have h65 := h61 g64
          exact hQ _ _ F61 h65
      · intro g66
        have h67 := h55 g66
        exact hQ _ _ F49 h67
theorem fmX12_weather_L14  {X44 X44' : Int → Mem → Prop} {Q Q' : Int → Mem → Prop} {M0 : Mem} (hQ : ∀ (w0 : Int) (M' : Mem), Ks (fun k j => k = 4 ∨ k = 10 ∨ (k = 1 ∧ (j = 0 ∨ j = 7 ∨ j = 14 ∨ j = 15 ∨ j = 16 ∨ j = 17))) M0 M' → Q w0 M' → Q' w0 M') (hX44 : ∀ (w0 : Int) (M' : Mem), Ks (fun k j => k = 4 ∨ k = 10 ∨ (k = 1 ∧ (j = 0 ∨ j = 7 ∨ j = 14 ∨ j = 15 ∨ j = 16 ∨ j = 17))) M0 M' → X44 w0 M' → X44' w0 M') : ∀ (n : Nat) (v1 : Int) (M : Mem), Ks (fun k j => k = 4 ∨ k = 10 ∨ (k = 1 ∧ (j = 0 ∨ j = 7 ∨ j = 14 ∨ j = 15 ∨ j = 16 ∨ j = 17))) M0 M → qX12_weather_L14 X44 Q n v1 M → qX12_weather_L14 X44' Q' n v1 M := by
  intro n
  induction n with
  | zero => intro v1 M _ h; exact h.elim
  | succ n ih =>
    intro v1 M hF h
    rw [qX12_weather_L14] at h
    rw [qX12_weather_L14]
    obtain ⟨v1, h1⟩ := h
    refine ⟨v1, ?_⟩
    obtain ⟨h2, h3⟩ := h1
    refine ⟨?_, ?_⟩
    · intro g4
      have h5 := h2 g4
      exact hX44 _ _ hF h5
    · intro g6
      have h7 := h3 g6
      refine fmX12_isDigit h7 ?_
      intro x5_9 M5_10 f8 h8
      have F8 : Ks (fun k j => k = 4 ∨ k = 10 ∨ (k = 1 ∧ (j = 0 ∨ j = 7 ∨ j = 14 ∨ j = 15 ∨ j = 16 ∨ j = 17))) M0 M5_10 := (hF).tr (f8.mono (fun _ _ h => False.elim h))
      intro g11 g12
      have h13 := h8 g11 g12
      obtain ⟨h14, h15⟩ := h13
      refine ⟨?_, ?_⟩
      · intro g16
        have h17 := h14 g16
        exact hX44 _ _ F8 h17
      · intro g18
        have h19 := h15 g18
        refine fmX12_number h19 ?_
        intro x7_21 M7_22 f20 h20
        have F20 : Ks (fun k j => k = 4 ∨ k = 10 ∨ (k = 1 ∧ (j = 0 ∨ j = 7 ∨ j = 14 ∨ j = 15 ∨ j = 16 ∨ j = 17))) M0 M7_22 := (F8).tr (f20.mono (mo_142))
        intro g23
        have h24 := h20 g23
        obtain ⟨v25, h25⟩ := h24
        refine ⟨v25, ?_⟩
        obtain ⟨v26, h26⟩ := h25
        refine ⟨v26, ?_⟩
        intro M10_27 eM10_27
        have h27 := h26 M10_27 eM10_27
        have F27 : Ks (fun k j => k = 4 ∨ k = 10 ∨ (k = 1 ∧ (j = 0 ∨ j = 7 ∨ j = 14 ∨ j = 15 ∨ j = 16 ∨ j = 17))) M0 M10_27 := by rw [eM10_27]; exact (F20).wr (mw_133 _)
        exact ih _ _ F27 h27
theorem fmX12_weather_L73  {Q Q' : Int → Mem → Prop} {M0 : Mem} (hQ : ∀ (w0 : Int) (M' : Mem), Ks (fun k j => k = 4 ∨ k = 10 ∨ (k = 1 ∧ (j = 0 ∨ j = 7 ∨ j = 14 ∨ j = 15 ∨ j = 16 ∨ j = 17))) M0 M' → Q w0 M' → Q' w0 M') : ∀ (n : Nat) (v1 v2 : Int) (M : Mem), Ks (fun k j => k = 4 ∨ k = 10 ∨ (k = 1 ∧ (j = 0 ∨ j = 7 ∨ j = 14 ∨ j = 15 ∨ j = 16 ∨ j = 17))) M0 M → qX12_weather_L73 Q n v1 v2 M → qX12_weather_L73 Q' n v1 v2 M := by
  intro n
  induction n with
  | zero => intro v1 v2 M _ h; exact h.elim
  | succ n ih =>
    intro v1 v2 M hF h
    rw [qX12_weather_L73] at h
    rw [qX12_weather_L73]
    obtain ⟨v1, h1⟩ := h
    refine ⟨v1, ?_⟩
    obtain ⟨v2, h2⟩ := h1
    refine ⟨v2, ?_⟩
    obtain ⟨h3, h4⟩ := h2
    refine ⟨?_, ?_⟩
    · intro g5
      have h6 := h3 g5
      exact hQ _ _ hF h6
    · intro g7
      have h8 := h4 g7
      obtain ⟨v9, h9⟩ := h8
      refine ⟨v9, ?_⟩
      obtain ⟨v10, h10⟩ := h9
      refine ⟨v10, ?_⟩
      intro x25_11 g12 g13
      have h11 := h10 x25_11 g12 g13
      intro M26_14 eM26_14
      have h14 := h11 M26_14 eM26_14
      have F14 : Ks (fun k j => k = 4 ∨ k = 10 ∨ (k = 1 ∧ (j = 0 ∨ j = 7 ∨ j = 14 ∨ j = 15 ∨ j = 16 ∨ j = 17))) M0 M26_14 := by rw [eM26_14]; exact (hF).wr (mw_134 _)
      exact ih _ _ _ F14 h14
theorem fmX12_weather  {M : Mem} {Q Q' : Int → Mem → Prop} (h : qX12_weather M Q) (hQ : ∀ (w0 : Int) (M' : Mem), Ks (fun k j => k = 4 ∨ k = 10 ∨ (k = 1 ∧ (j = 0 ∨ j = 7 ∨ j = 14 ∨ j = 15 ∨ j = 16 ∨ j = 17))) M M' → Q w0 M' → Q' w0 M') : qX12_weather M Q' := by
  unfold qX12_weather at h ⊢
  intro M1_1 eM1_1
  have h1 := h M1_1 eM1_1
  have F1 : Ks (fun k j => k = 4 ∨ k = 10 ∨ (k = 1 ∧ (j = 0 ∨ j = 7 ∨ j = 14 ∨ j = 15 ∨ j = 16 ∨ j = 17))) M M1_1 := by rw [eM1_1]; exact (Ks.rf).wr (mw_135)
  refine fmX12_begins h1 ?_
  intro x2_3 M2_4 f2 h2
  have F2 : Ks (fun k j => k = 4 ∨ k = 10 ∨ (k = 1 ∧ (j = 0 ∨ j = 7 ∨ j = 14 ∨ j = 15 ∨ j = 16 ∨ j = 17))) M M2_4 := (F1).tr (f2.mono (mo_143))
  intro g5
  have h6 := h2 g5
  obtain ⟨n7, h7⟩ := h6
  refine ⟨n7, ?_⟩
  refine fmX12_weather_L14 hQ ?_ _ _ _ F2 h7
  · intro v1_9 M_10 F8 h8
    unfold qX12_weather_J44 at h8 ⊢
    obtain ⟨v11, h11⟩ := h8
    refine ⟨v11, ?_⟩
    obtain ⟨h12, h13⟩ := h11
    refine ⟨?_, ?_⟩
    · intro g14
      have h15 := h12 g14
      intro x14_16 g17 g18
      have h16 := h15 x14_16 g17 g18
      obtain ⟨v19, h19⟩ := h16
      refine ⟨v19, ?_⟩
      exact hQ _ _ F8 h19
    · intro g20
      have h21 := h13 g20
      intro x16_22 g23 g24
      have h22 := h21 x16_22 g23 g24
      intro x17_25 g26 g27
      have h25 := h22 x17_25 g26 g27
      obtain ⟨h28, h29⟩ := h25
      refine ⟨?_, ?_⟩
      · intro g30
        have h31 := h28 g30
        intro M19_32 eM19_32
        have h32 := h31 M19_32 eM19_32
        have F32 : Ks (fun k j => k = 4 ∨ k = 10 ∨ (k = 1 ∧ (j = 0 ∨ j = 7 ∨ j = 14 ∨ j = 15 ∨ j = 16 ∨ j = 17))) M M19_32 := by rw [eM19_32]; exact (F8).wr (mw_136)
        obtain ⟨n33, h33⟩ := h32
        refine ⟨n33, ?_⟩
        refine fmX12_weather_L73 hQ _ _ _ _ F32 h33
      · intro g34
        have h35 := h29 g34
        intro x28_36 g37 g38
        have h36 := h35 x28_36 g37 g38
        obtain ⟨v39, h39⟩ := h36
        refine ⟨v39, ?_⟩
        exact hQ _ _ F8 h39
theorem fmX12_laysCode_L7 {k1 : Nat} {p2 : Int} {Q Q' : Mem → Prop} {M0 : Mem} (hQ : ∀ (M' : Mem), Ks (fun k j => k = 11 ∨ (k = 1 ∧ (j = 24))) M0 M' → Q M' → Q' M') : ∀ (n : Nat) (v3 : Int) (M : Mem), Ks (fun k j => k = 11 ∨ (k = 1 ∧ (j = 24))) M0 M → qX12_laysCode_L7 k1 p2 Q n v3 M → qX12_laysCode_L7 k1 p2 Q' n v3 M := by
  intro n
  induction n with
  | zero => intro v3 M _ h; exact h.elim
  | succ n ih =>
    intro v3 M hF h
    rw [qX12_laysCode_L7] at h
    rw [qX12_laysCode_L7]
    obtain ⟨v1, h1⟩ := h
    refine ⟨v1, ?_⟩
    obtain ⟨h2, h3⟩ := h1
    refine ⟨?_, ?_⟩
    · intro g4
      have h5 := h2 g4
      exact hQ _ hF h5
    · intro g6
      have h7 := h3 g6
      obtain ⟨v8, h8⟩ := h7
      refine ⟨v8, ?_⟩
      obtain ⟨v9, h9⟩ := h8
      refine ⟨v9, ?_⟩
      intro x6_10 g11 g12
      have h10 := h9 x6_10 g11 g12
      intro M7_13 eM7_13
      have h13 := h10 M7_13 eM7_13
      have F13 : Ks (fun k j => k = 11 ∨ (k = 1 ∧ (j = 24))) M0 M7_13 := by rw [eM7_13]; exact (hF).wr (mw_137 _)
      exact ih _ _ F13 h13
theorem fmX12_laysCode {k1 : Nat} {p2 : Int} {M : Mem} {Q Q' : Mem → Prop} (h : qX12_laysCode k1 p2 M Q) (hQ : ∀ (M' : Mem), Ks (fun k j => k = 11 ∨ (k = 1 ∧ (j = 24))) M M' → Q M' → Q' M') : qX12_laysCode k1 p2 M Q' := by
  unfold qX12_laysCode at h ⊢
  intro M1_1 eM1_1
  have h1 := h M1_1 eM1_1
  have F1 : Ks (fun k j => k = 11 ∨ (k = 1 ∧ (j = 24))) M M1_1 := by rw [eM1_1]; exact (Ks.rf).wr (mw_138)
  obtain ⟨n2, h2⟩ := h1
  refine ⟨n2, ?_⟩
  refine fmX12_laysCode_L7 hQ _ _ _ F1 h2
theorem fmX12_codes {p1 : Int} {M : Mem} {Q Q' : Mem → Prop} (h : qX12_codes p1 M Q) (hQ : ∀ (M' : Mem), Ks (fun k j => k = 12 ∨ (k = 1 ∧ (j = 25))) M M' → Q M' → Q' M') : qX12_codes p1 M Q' := by
  unfold qX12_codes at h ⊢
  intro x1_1 g2 g3
  have h1 := h x1_1 g2 g3
  obtain ⟨v4, h4⟩ := h1
  refine ⟨v4, ?_⟩
  obtain ⟨v5, h5⟩ := h4
  refine ⟨v5, ?_⟩
  intro M4_6 eM4_6
  have h6 := h5 M4_6 eM4_6
  have F6 : Ks (fun k j => k = 12 ∨ (k = 1 ∧ (j = 25))) M M4_6 := by rw [eM4_6]; exact (Ks.rf).wr (mw_139 _)
  intro x5_7 g8 g9
  have h7 := h6 x5_7 g8 g9
  obtain ⟨v10, h10⟩ := h7
  refine ⟨v10, ?_⟩
  intro M7_11 eM7_11
  have h11 := h10 M7_11 eM7_11
  have F11 : Ks (fun k j => k = 12 ∨ (k = 1 ∧ (j = 25))) M M7_11 := by rw [eM7_11]; exact (F6).wr (mw_140)
  exact hQ _ F11 h11
theorem fmbX12_readsThing  {M : Mem} {Q Q' : Int → Mem → Prop} {rc : Nat → Int → Mem → (Int → Mem → Prop) → Prop} (hrc : ∀ (a0 : Nat) (a1 : Int) (M : Mem) (Q Q' : Int → Mem → Prop), (∀ z M', Ks (fun k j => k = 12 ∨ (k = 1 ∧ (j = 15 ∨ j = 17 ∨ j = 25))) M M' → Q z M' → Q' z M') → rc a0 a1 M Q → rc a0 a1 M Q') (h : bX12_readsThing rc M Q) (hQ : ∀ (w0 : Int) (M' : Mem), Ks (fun k j => k = 12 ∨ (k = 1 ∧ (j = 15 ∨ j = 17 ∨ j = 25))) M M' → Q w0 M' → Q' w0 M') : bX12_readsThing rc M Q' := by
  unfold bX12_readsThing at h ⊢
  refine fmX12_takes h ?_
  intro x1_2 M1_3 f1 h1
  have F1 : Ks (fun k j => k = 12 ∨ (k = 1 ∧ (j = 15 ∨ j = 17 ∨ j = 25))) M M1_3 := (Ks.rf).tr (f1.mono (mo_144))
  intro g4 g5
  have h6 := h1 g4 g5
  obtain ⟨h7, h8⟩ := h6
  refine ⟨?_, ?_⟩
  · intro g9
    have h10 := h7 g9
    refine fmX12_isDigit h10 ?_
    intro x3_12 M3_13 f11 h11
    have F11 : Ks (fun k j => k = 12 ∨ (k = 1 ∧ (j = 15 ∨ j = 17 ∨ j = 25))) M M3_13 := (F1).tr (f11.mono (fun _ _ h => False.elim h))
    intro g14 g15
    have h16 := h11 g14 g15
    obtain ⟨h17, h18⟩ := h16
    refine ⟨?_, ?_⟩
    · intro g19
      have h20 := h17 g19
      refine fmX12_takesOf h20 ?_
      intro x5_22 M5_23 f21 h21
      have F21 : Ks (fun k j => k = 12 ∨ (k = 1 ∧ (j = 15 ∨ j = 17 ∨ j = 25))) M M5_23 := (F11).tr (f21.mono (mo_144))
      intro g24
      have h25 := h21 g24
      obtain ⟨h26, h27⟩ := h25
      refine ⟨?_, ?_⟩
      · intro g28
        have h29 := h26 g28
        intro x7_30 g31 g32
        have h30 := h29 x7_30 g31 g32
        obtain ⟨h33, h34⟩ := h30
        refine ⟨?_, ?_⟩
        · intro g35
          have h36 := h33 g35
          exact hQ _ _ F21 h36
        · intro g37
          have h38 := h34 g37
          refine fmX12_takes h38 ?_
          intro x9_40 M9_41 f39 h39
          have F39 : Ks (fun k j => k = 12 ∨ (k = 1 ∧ (j = 15 ∨ j = 17 ∨ j = 25))) M M9_41 := (F21).tr (f39.mono (mo_144))
          intro g42 g43
          have h44 := h39 g42 g43
          obtain ⟨h45, h46⟩ := h44
          refine ⟨?_, ?_⟩
          · intro g47
            have h48 := h45 g47
            intro x11_49 g50 g51
            have h49 := h48 x11_49 g50 g51
            obtain ⟨v52, h52⟩ := h49
            refine ⟨v52, ?_⟩
            intro M13_53 eM13_53
            have h53 := h52 M13_53 eM13_53
            have F53 : Ks (fun k j => k = 12 ∨ (k = 1 ∧ (j = 15 ∨ j = 17 ∨ j = 25))) M M13_53 := by rw [eM13_53]; exact (F39).wr (mw_141)
            refine hrc _ _ _ _ _ ?_ h53
            intro x14_55 M14_56 f54 h54
            have F54 : Ks (fun k j => k = 12 ∨ (k = 1 ∧ (j = 15 ∨ j = 17 ∨ j = 25))) M M14_56 := (F53).tr (f54.mono (by intro k j h; first | exact False.elim h | omega))
            intro g57 g58
            have h59 := h54 g57 g58
            obtain ⟨h60, h61⟩ := h59
            refine ⟨?_, ?_⟩
            · intro g62
              have h63 := h60 g62
              exact hQ _ _ F54 h63
            · intro g64
              have h65 := h61 g64
              refine fmX12_takes h65 ?_
              intro x16_67 M16_68 f66 h66
              have F66 : Ks (fun k j => k = 12 ∨ (k = 1 ∧ (j = 15 ∨ j = 17 ∨ j = 25))) M M16_68 := (F54).tr (f66.mono (mo_144))
              intro g69 g70
              have h71 := h66 g69 g70
              obtain ⟨h72, h73⟩ := h71
              refine ⟨?_, ?_⟩
              · intro g74
                have h75 := h72 g74
                intro x18_76 g77 g78
                have h76 := h75 x18_76 g77 g78
                obtain ⟨v79, h79⟩ := h76
                refine ⟨v79, ?_⟩
                intro M20_80 eM20_80
                have h80 := h79 M20_80 eM20_80
                have F80 : Ks (fun k j => k = 12 ∨ (k = 1 ∧ (j = 15 ∨ j = 17 ∨ j = 25))) M M20_80 := by rw [eM20_80]; exact (F66).wr (mw_141)
                exact hQ _ _ F80 h80
              · intro g81
                have h82 := h73 g81
                exact hQ _ _ F66 h82
          · intro g83
            have h84 := h46 g83
            exact hQ _ _ F39 h84
      · intro g85
        have h86 := h27 g85
        obtain ⟨v87, h87⟩ := h86
        refine ⟨v87, ?_⟩
        refine fmX12_codes h87 ?_
        intro M22_89 f88 h88
        have F88 : Ks (fun k j => k = 12 ∨ (k = 1 ∧ (j = 15 ∨ j = 17 ∨ j = 25))) M M22_89 := (F21).tr (f88.mono (mo_145))
        exact hQ _ _ F88 h88
    · intro g90
      have h91 := h18 g90
      refine fmX12_number h91 ?_
      intro x23_93 M23_94 f92 h92
      have F92 : Ks (fun k j => k = 12 ∨ (k = 1 ∧ (j = 15 ∨ j = 17 ∨ j = 25))) M M23_94 := (F11).tr (f92.mono (mo_144))
      intro g95
      have h96 := h92 g95
      refine fmX12_codes h96 ?_
      intro M24_98 f97 h97
      have F97 : Ks (fun k j => k = 12 ∨ (k = 1 ∧ (j = 15 ∨ j = 17 ∨ j = 25))) M M24_98 := (F92).tr (f97.mono (mo_145))
      exact hQ _ _ F97 h97
  · intro g99
    have h100 := h8 g99
    refine hrc _ _ _ _ _ ?_ h100
    intro x25_102 M25_103 f101 h101
    have F101 : Ks (fun k j => k = 12 ∨ (k = 1 ∧ (j = 15 ∨ j = 17 ∨ j = 25))) M M25_103 := (F1).tr (f101.mono (by intro k j h; first | exact False.elim h | omega))
    intro g104 g105
    have h106 := h101 g104 g105
    refine fmX12_codes h106 ?_
    intro M26_108 f107 h107
    have F107 : Ks (fun k j => k = 12 ∨ (k = 1 ∧ (j = 15 ∨ j = 17 ∨ j = 25))) M M26_108 := (F101).tr (f107.mono (mo_145))
    obtain ⟨v109, h109⟩ := h107
    refine ⟨v109, ?_⟩
    exact hQ _ _ F107 h109
theorem fmX12_readsRank_L24 {p1 : Int} {Q Q' : Int → Mem → Prop} {rc : Nat → Int → Mem → (Int → Mem → Prop) → Prop} (hrc : ∀ (a0 : Nat) (a1 : Int) (M : Mem) (Q Q' : Int → Mem → Prop), (∀ z M', Ks (fun k j => k = 12 ∨ (k = 1 ∧ (j = 15 ∨ j = 17 ∨ j = 25))) M M' → Q z M' → Q' z M') → rc a0 a1 M Q → rc a0 a1 M Q') {M0 : Mem} (hQ : ∀ (w0 : Int) (M' : Mem), Ks (fun k j => k = 12 ∨ (k = 1 ∧ (j = 15 ∨ j = 17 ∨ j = 25))) M0 M' → Q w0 M' → Q' w0 M') : ∀ (n : Nat) (v2 : Int) (M : Mem), Ks (fun k j => k = 12 ∨ (k = 1 ∧ (j = 15 ∨ j = 17 ∨ j = 25))) M0 M → qX12_readsRank_L24 rc p1 Q n v2 M → qX12_readsRank_L24 rc p1 Q' n v2 M := by
  intro n
  induction n with
  | zero => intro v2 M _ h; exact h.elim
  | succ n ih =>
    intro v2 M hF h
    rw [qX12_readsRank_L24] at h
    rw [qX12_readsRank_L24]
    obtain ⟨v1, h1⟩ := h
    refine ⟨v1, ?_⟩
    obtain ⟨h2, h3⟩ := h1
    refine ⟨?_, ?_⟩
    · intro g4
      have h5 := h2 g4
      exact hQ _ _ hF h5
    · intro g6
      have h7 := h3 g6
      obtain ⟨h8, h9⟩ := h7
      refine ⟨?_, ?_⟩
      · intro g10
        have h11 := h8 g10
        obtain ⟨h12, h13⟩ := h11
        refine ⟨?_, ?_⟩
        · intro g14
          have h15 := h12 g14
          unfold qX12_readsRank_J50 at h15 ⊢
          obtain ⟨v16, h16⟩ := h15
          refine ⟨v16, ?_⟩
          refine fmX12_takesOf h16 ?_
          intro x9_18 M9_19 f17 h17
          have F17 : Ks (fun k j => k = 12 ∨ (k = 1 ∧ (j = 15 ∨ j = 17 ∨ j = 25))) M0 M9_19 := (hF).tr (f17.mono (mo_144))
          intro g20
          have h21 := h17 g20
          obtain ⟨h22, h23⟩ := h21
          refine ⟨?_, ?_⟩
          · intro g24
            have h25 := h22 g24
            obtain ⟨v26, h26⟩ := h25
            refine ⟨v26, ?_⟩
            refine hrc _ _ _ _ _ ?_ h26
            intro x13_28 M13_29 f27 h27
            have F27 : Ks (fun k j => k = 12 ∨ (k = 1 ∧ (j = 15 ∨ j = 17 ∨ j = 25))) M0 M13_29 := (F17).tr (f27.mono (by intro k j h; first | exact False.elim h | omega))
            intro g30 g31
            have h32 := h27 g30 g31
            obtain ⟨h33, h34⟩ := h32
            refine ⟨?_, ?_⟩
            · intro g35
              have h36 := h33 g35
              obtain ⟨h37, h38⟩ := h36
              refine ⟨?_, ?_⟩
              · intro g39
                have h40 := h37 g39
                obtain ⟨h41, h42⟩ := h40
                refine ⟨?_, ?_⟩
                · intro g43
                  have h44 := h41 g43
                  unfold qX12_readsRank_J96 at h44 ⊢
                  obtain ⟨v45, h45⟩ := h44
                  refine ⟨v45, ?_⟩
                  refine fmX12_codes h45 ?_
                  intro M18_47 f46 h46
                  have F46 : Ks (fun k j => k = 12 ∨ (k = 1 ∧ (j = 15 ∨ j = 17 ∨ j = 25))) M0 M18_47 := (F27).tr (f46.mono (mo_145))
                  obtain ⟨h48, h49⟩ := h46
                  refine ⟨?_, ?_⟩
                  · intro g50
                    have h51 := h48 g50
                    exact ih _ _ F46 h51
                  · intro g52
                    have h53 := h49 g52
                    exact ih _ _ F46 h53
                · intro g54
                  have h55 := h42 g54
                  unfold qX12_readsRank_J96 at h55 ⊢
                  obtain ⟨v56, h56⟩ := h55
                  refine ⟨v56, ?_⟩
                  refine fmX12_codes h56 ?_
                  intro M18_58 f57 h57
                  have F57 : Ks (fun k j => k = 12 ∨ (k = 1 ∧ (j = 15 ∨ j = 17 ∨ j = 25))) M0 M18_58 := (F27).tr (f57.mono (mo_145))
                  obtain ⟨h59, h60⟩ := h57
                  refine ⟨?_, ?_⟩
                  · intro g61
                    have h62 := h59 g61
                    exact ih _ _ F57 h62
                  · intro g63
                    have h64 := h60 g63
                    exact ih _ _ F57 h64
              · intro g65
                have h66 := h38 g65
                unfold qX12_readsRank_J96 at h66 ⊢
                obtain ⟨v67, h67⟩ := h66
                refine ⟨v67, ?_⟩
                refine fmX12_codes h67 ?_
                intro M18_69 f68 h68
                have F68 : Ks (fun k j => k = 12 ∨ (k = 1 ∧ (j = 15 ∨ j = 17 ∨ j = 25))) M0 M18_69 := (F27).tr (f68.mono (mo_145))
                obtain ⟨h70, h71⟩ := h68
                refine ⟨?_, ?_⟩
                · intro g72
                  have h73 := h70 g72
                  exact ih _ _ F68 h73
                · intro g74
                  have h75 := h71 g74
                  exact ih _ _ F68 h75
            · intro g76
              have h77 := h34 g76
              exact hQ _ _ F27 h77
          · intro g78
            have h79 := h23 g78
            exact hQ _ _ F17 h79
        · intro g80
          have h81 := h13 g80
          unfold qX12_readsRank_J50 at h81 ⊢
          obtain ⟨v82, h82⟩ := h81
          refine ⟨v82, ?_⟩
          refine fmX12_takesOf h82 ?_
          intro x9_84 M9_85 f83 h83
          have F83 : Ks (fun k j => k = 12 ∨ (k = 1 ∧ (j = 15 ∨ j = 17 ∨ j = 25))) M0 M9_85 := (hF).tr (f83.mono (mo_144))
          intro g86
          have h87 := h83 g86
          obtain ⟨h88, h89⟩ := h87
          refine ⟨?_, ?_⟩
          · intro g90
            have h91 := h88 g90
            obtain ⟨v92, h92⟩ := h91
            refine ⟨v92, ?_⟩
            refine hrc _ _ _ _ _ ?_ h92
            intro x13_94 M13_95 f93 h93
            have F93 : Ks (fun k j => k = 12 ∨ (k = 1 ∧ (j = 15 ∨ j = 17 ∨ j = 25))) M0 M13_95 := (F83).tr (f93.mono (by intro k j h; first | exact False.elim h | omega))
            intro g96 g97
            have h98 := h93 g96 g97
            obtain ⟨h99, h100⟩ := h98
            refine ⟨?_, ?_⟩
            · intro g101
              have h102 := h99 g101
              obtain ⟨h103, h104⟩ := h102
              refine ⟨?_, ?_⟩
              · intro g105
                have h106 := h103 g105
                obtain ⟨h107, h108⟩ := h106
                refine ⟨?_, ?_⟩
                · intro g109
                  have h110 := h107 g109
                  unfold qX12_readsRank_J96 at h110 ⊢
                  obtain ⟨v111, h111⟩ := h110
                  refine ⟨v111, ?_⟩
                  refine fmX12_codes h111 ?_
                  intro M18_113 f112 h112
                  have F112 : Ks (fun k j => k = 12 ∨ (k = 1 ∧ (j = 15 ∨ j = 17 ∨ j = 25))) M0 M18_113 := (F93).tr (f112.mono (mo_145))
                  obtain ⟨h114, h115⟩ := h112
                  refine ⟨?_, ?_⟩
                  · intro g116
                    have h117 := h114 g116
                    exact ih _ _ F112 h117
                  · intro g118
                    have h119 := h115 g118
                    exact ih _ _ F112 h119
                · intro g120
                  have h121 := h108 g120
                  unfold qX12_readsRank_J96 at h121 ⊢
                  obtain ⟨v122, h122⟩ := h121
                  refine ⟨v122, ?_⟩
                  refine fmX12_codes h122 ?_
                  intro M18_124 f123 h123
                  have F123 : Ks (fun k j => k = 12 ∨ (k = 1 ∧ (j = 15 ∨ j = 17 ∨ j = 25))) M0 M18_124 := (F93).tr (f123.mono (mo_145))
                  obtain ⟨h125, h126⟩ := h123
                  refine ⟨?_, ?_⟩
                  · intro g127
                    have h128 := h125 g127
                    exact ih _ _ F123 h128
                  · intro g129
                    have h130 := h126 g129
                    exact ih _ _ F123 h130
              · intro g131
                have h132 := h104 g131
                unfold qX12_readsRank_J96 at h132 ⊢
                obtain ⟨v133, h133⟩ := h132
                refine ⟨v133, ?_⟩
                refine fmX12_codes h133 ?_
                intro M18_135 f134 h134
                have F134 : Ks (fun k j => k = 12 ∨ (k = 1 ∧ (j = 15 ∨ j = 17 ∨ j = 25))) M0 M18_135 := (F93).tr (f134.mono (mo_145))
                obtain ⟨h136, h137⟩ := h134
                refine ⟨?_, ?_⟩
                · intro g138
                  have h139 := h136 g138
                  exact ih _ _ F134 h139
                · intro g140
                  have h141 := h137 g140
                  exact ih _ _ F134 h141
            · intro g142
              have h143 := h100 g142
              exact hQ _ _ F93 h143
          · intro g144
            have h145 := h89 g144
            exact hQ _ _ F83 h145
      · intro g146
        have h147 := h9 g146
        unfold qX12_readsRank_J50 at h147 ⊢
        obtain ⟨v148, h148⟩ := h147
        refine ⟨v148, ?_⟩
        refine fmX12_takesOf h148 ?_
        intro x9_150 M9_151 f149 h149
        have F149 : Ks (fun k j => k = 12 ∨ (k = 1 ∧ (j = 15 ∨ j = 17 ∨ j = 25))) M0 M9_151 := (hF).tr (f149.mono (mo_144))
        intro g152
        have h153 := h149 g152
        obtain ⟨h154, h155⟩ := h153
        refine ⟨?_, ?_⟩
        · intro g156
          have h157 := h154 g156
          obtain ⟨v158, h158⟩ := h157
          refine ⟨v158, ?_⟩
          refine hrc _ _ _ _ _ ?_ h158
          intro x13_160 M13_161 f159 h159
          have F159 : Ks (fun k j => k = 12 ∨ (k = 1 ∧ (j = 15 ∨ j = 17 ∨ j = 25))) M0 M13_161 := (F149).tr (f159.mono (by intro k j h; first | exact False.elim h | omega))
          intro g162 g163
          have h164 := h159 g162 g163
          obtain ⟨h165, h166⟩ := h164
          refine ⟨?_, ?_⟩
          · intro g167
            have h168 := h165 g167
            obtain ⟨h169, h170⟩ := h168
            refine ⟨?_, ?_⟩
            · intro g171
              have h172 := h169 g171
              obtain ⟨h173, h174⟩ := h172
              refine ⟨?_, ?_⟩
              · intro g175
                have h176 := h173 g175
                unfold qX12_readsRank_J96 at h176 ⊢
                obtain ⟨v177, h177⟩ := h176
                refine ⟨v177, ?_⟩
                refine fmX12_codes h177 ?_
                intro M18_179 f178 h178
                have F178 : Ks (fun k j => k = 12 ∨ (k = 1 ∧ (j = 15 ∨ j = 17 ∨ j = 25))) M0 M18_179 := (F159).tr (f178.mono (mo_145))
                obtain ⟨h180, h181⟩ := h178
                refine ⟨?_, ?_⟩
                · intro g182
                  have h183 := h180 g182
                  exact ih _ _ F178 h183
                · intro g184
                  have h185 := h181 g184
                  exact ih _ _ F178 h185
              · intro g186
                have h187 := h174 g186
                unfold qX12_readsRank_J96 at h187 ⊢
                obtain ⟨v188, h188⟩ := h187
                refine ⟨v188, ?_⟩
                refine fmX12_codes h188 ?_
                intro M18_190 f189 h189
                have F189 : Ks (fun k j => k = 12 ∨ (k = 1 ∧ (j = 15 ∨ j = 17 ∨ j = 25))) M0 M18_190 := (F159).tr (f189.mono (mo_145))
                obtain ⟨h191, h192⟩ := h189
                refine ⟨?_, ?_⟩
                · intro g193
                  have h194 := h191 g193
                  exact ih _ _ F189 h194
                · intro g195
                  have h196 := h192 g195
                  exact ih _ _ F189 h196
            · intro g197
              have h198 := h170 g197
              unfold qX12_readsRank_J96 at h198 ⊢
              obtain ⟨v199, h199⟩ := h198
              refine ⟨v199, ?_⟩
              refine fmX12_codes h199 ?_
              intro M18_201 f200 h200
              have F200 : Ks (fun k j => k = 12 ∨ (k = 1 ∧ (j = 15 ∨ j = 17 ∨ j = 25))) M0 M18_201 := (F159).tr (f200.mono (mo_145))
              obtain ⟨h202, h203⟩ := h200
              refine ⟨?_, ?_⟩
              · intro g204
                have h205 := h202 g204
                exact ih _ _ F200 h205
              · intro g206
                have h207 := h203 g206
                exact ih _ _ F200 h207
          · intro g208
            have h209 := h166 g208
            exact hQ _ _ F159 h209
        · intro g210
          have h211 := h155 g210
          exact hQ _ _ F149 h211
theorem fmbX12_readsRank {p1 : Int} {M : Mem} {Q Q' : Int → Mem → Prop} {rc : Nat → Int → Mem → (Int → Mem → Prop) → Prop} (hrc : ∀ (a0 : Nat) (a1 : Int) (M : Mem) (Q Q' : Int → Mem → Prop), (∀ z M', Ks (fun k j => k = 12 ∨ (k = 1 ∧ (j = 15 ∨ j = 17 ∨ j = 25))) M M' → Q z M' → Q' z M') → rc a0 a1 M Q → rc a0 a1 M Q') (h : bX12_readsRank rc p1 M Q) (hQ : ∀ (w0 : Int) (M' : Mem), Ks (fun k j => k = 12 ∨ (k = 1 ∧ (j = 15 ∨ j = 17 ∨ j = 25))) M M' → Q w0 M' → Q' w0 M') : bX12_readsRank rc p1 M Q' := by
  unfold bX12_readsRank at h ⊢
  obtain ⟨h1, h2⟩ := h
  refine ⟨?_, ?_⟩
  · intro g3
    have h4 := h1 g3
    obtain ⟨v5, h5⟩ := h4
    refine ⟨v5, ?_⟩
    refine hrc _ _ _ _ _ ?_ h5
    intro x3_7 M3_8 f6 h6
    have F6 : Ks (fun k j => k = 12 ∨ (k = 1 ∧ (j = 15 ∨ j = 17 ∨ j = 25))) M M3_8 := (Ks.rf).tr (f6.mono (by intro k j h; first | exact False.elim h | omega))
    intro g9 g10
    have h11 := h6 g9 g10
    obtain ⟨h12, h13⟩ := h11
    refine ⟨?_, ?_⟩
    · intro g14
      have h15 := h12 g14
      obtain ⟨n16, h16⟩ := h15
      refine ⟨n16, ?_⟩
      refine fmX12_readsRank_L24 hrc hQ _ _ _ F6 h16
    · intro g17
      have h18 := h13 g17
      exact hQ _ _ F6 h18
  · intro g19
    have h20 := h2 g19
    refine hrc _ _ _ _ _ ?_ h20
    intro x21_22 M21_23 f21 h21
    have F21 : Ks (fun k j => k = 12 ∨ (k = 1 ∧ (j = 15 ∨ j = 17 ∨ j = 25))) M M21_23 := (Ks.rf).tr (f21.mono (by intro k j h; first | exact False.elim h | omega))
    intro g24 g25
    have h26 := h21 g24 g25
    obtain ⟨v27, h27⟩ := h26
    refine ⟨v27, ?_⟩
    exact hQ _ _ F21 h27
theorem fmX12_readsA : ∀ (d t : Nat) (p1 : Int) (M : Mem) (Q Q' : Int → Mem → Prop), (∀ z M', Ks (fun k j => k = 12 ∨ (k = 1 ∧ (j = 15 ∨ j = 17 ∨ j = 25))) M M' → Q z M' → Q' z M') → qX12_reads d t p1 M Q → qX12_reads d t p1 M Q' := by
  intro d
  induction d with
  | zero => intro t p1 M Q Q' _ h; exact h.elim
  | succ d ih =>
    intro t p1 M Q Q' hQ h
    cases t with
    | zero => exact fmbX12_readsThing ih h hQ
    | succ t => exact fmbX12_readsRank ih h hQ
theorem fmX12_reads {d t : Nat} {p1 : Int} {M : Mem} {Q Q' : Int → Mem → Prop} (h : qX12_reads d t p1 M Q) (hQ : ∀ z M', Ks (fun k j => k = 12 ∨ (k = 1 ∧ (j = 15 ∨ j = 17 ∨ j = 25))) M M' → Q z M' → Q' z M') : qX12_reads d t p1 M Q' := fmX12_readsA d t p1 M Q Q' hQ h
theorem fmX12_readsRank {d : Nat} {p1 : Int} {M : Mem} {Q Q' : Int → Mem → Prop} (h : qX12_readsRank d p1 M Q) (hQ : ∀ (w0 : Int) (M' : Mem), Ks (fun k j => k = 12 ∨ (k = 1 ∧ (j = 15 ∨ j = 17 ∨ j = 25))) M M' → Q w0 M' → Q' w0 M') : qX12_readsRank d p1 M Q' := by
  unfold qX12_readsRank at h ⊢
  refine fmX12_reads h ?_
  intro z1_0 M_1 f1 h1
  exact hQ _ _ ((Ks.rf).tr (f1.mono (fun _ _ h => h))) h1
theorem fmX12_readsRule  {M : Mem} {Q Q' : Int → Mem → Prop} (h : qX12_readsRule M Q) (hQ : ∀ (w0 : Int) (M' : Mem), Ks (fun k j => k = 12 ∨ (k = 1 ∧ (j = 14 ∨ j = 15 ∨ j = 16 ∨ j = 17 ∨ j = 25))) M M' → Q w0 M' → Q' w0 M') : qX12_readsRule M Q' := by
  unfold qX12_readsRule at h ⊢
  refine fmX12_begins h ?_
  intro x1_2 M1_3 f1 h1
  have F1 : Ks (fun k j => k = 12 ∨ (k = 1 ∧ (j = 14 ∨ j = 15 ∨ j = 16 ∨ j = 17 ∨ j = 25))) M M1_3 := (Ks.rf).tr (f1.mono (mo_146))
  intro g4
  have h5 := h1 g4
  intro M2_6 eM2_6
  have h6 := h5 M2_6 eM2_6
  have F6 : Ks (fun k j => k = 12 ∨ (k = 1 ∧ (j = 14 ∨ j = 15 ∨ j = 16 ∨ j = 17 ∨ j = 25))) M M2_6 := by rw [eM2_6]; exact (F1).wr (mw_142)
  obtain ⟨h7, h8⟩ := h6
  refine ⟨?_, ?_⟩
  · intro g9
    have h10 := h7 g9
    unfold qX12_readsRule_J24 at h10 ⊢
    unfold qX12_readsRule_J29 at h10 ⊢
    obtain ⟨v11, h11⟩ := h10
    refine ⟨v11, ?_⟩
    obtain ⟨v12, h12⟩ := h11
    refine ⟨v12, ?_⟩
    refine fmX12_faultOf h12 ?_
    intro x6_14 M6_15 f13 h13
    have F13 : Ks (fun k j => k = 12 ∨ (k = 1 ∧ (j = 14 ∨ j = 15 ∨ j = 16 ∨ j = 17 ∨ j = 25))) M M6_15 := (F6).tr (f13.mono (fun _ _ h => False.elim h))
    intro g16
    have h17 := h13 g16
    exact hQ _ _ F13 h17
  · intro g18
    have h19 := h8 g18
    obtain ⟨n20, h20⟩ := h19
    refine ⟨n20, ?_⟩
    obtain ⟨v21, h21⟩ := h20
    refine ⟨v21, ?_⟩
    refine fmX12_readsRank h21 ?_
    intro x7_23 M7_24 f22 h22
    have F22 : Ks (fun k j => k = 12 ∨ (k = 1 ∧ (j = 14 ∨ j = 15 ∨ j = 16 ∨ j = 17 ∨ j = 25))) M M7_24 := (F6).tr (f22.mono (mo_147))
    intro g25 g26
    have h27 := h22 g25 g26
    obtain ⟨h28, h29⟩ := h27
    refine ⟨?_, ?_⟩
    · intro g30
      have h31 := h28 g30
      unfold qX12_readsRule_J29 at h31 ⊢
      obtain ⟨v32, h32⟩ := h31
      refine ⟨v32, ?_⟩
      obtain ⟨v33, h33⟩ := h32
      refine ⟨v33, ?_⟩
      refine fmX12_faultOf h33 ?_
      intro x6_35 M6_36 f34 h34
      have F34 : Ks (fun k j => k = 12 ∨ (k = 1 ∧ (j = 14 ∨ j = 15 ∨ j = 16 ∨ j = 17 ∨ j = 25))) M M6_36 := (F22).tr (f34.mono (fun _ _ h => False.elim h))
      intro g37
      have h38 := h34 g37
      exact hQ _ _ F34 h38
    · intro g39
      have h40 := h29 g39
      unfold qX12_readsRule_J24 at h40 ⊢
      unfold qX12_readsRule_J29 at h40 ⊢
      obtain ⟨v41, h41⟩ := h40
      refine ⟨v41, ?_⟩
      obtain ⟨v42, h42⟩ := h41
      refine ⟨v42, ?_⟩
      refine fmX12_faultOf h42 ?_
      intro x6_44 M6_45 f43 h43
      have F43 : Ks (fun k j => k = 12 ∨ (k = 1 ∧ (j = 14 ∨ j = 15 ∨ j = 16 ∨ j = 17 ∨ j = 25))) M M6_45 := (F22).tr (f43.mono (fun _ _ h => False.elim h))
      intro g46
      have h47 := h43 g46
      exact hQ _ _ F43 h47
theorem fmX12_rule  {M : Mem} {Q Q' : Int → Mem → Prop} (h : qX12_rule M Q) (hQ : ∀ (w0 : Int) (M' : Mem), Ks (fun k j => (11 ≤ k ∧ k ≤ 12) ∨ (k = 1 ∧ (j = 0 ∨ j = 14 ∨ j = 15 ∨ j = 16 ∨ j = 17 ∨ j = 24 ∨ j = 25))) M M' → Q w0 M' → Q' w0 M') : qX12_rule M Q' := by
  unfold qX12_rule at h ⊢
  intro M1_1 eM1_1
  have h1 := h M1_1 eM1_1
  have F1 : Ks (fun k j => (11 ≤ k ∧ k ≤ 12) ∨ (k = 1 ∧ (j = 0 ∨ j = 14 ∨ j = 15 ∨ j = 16 ∨ j = 17 ∨ j = 24 ∨ j = 25))) M M1_1 := by rw [eM1_1]; exact (Ks.rf).wr (mw_143)
  refine fmX12_readsRule h1 ?_
  intro x2_3 M2_4 f2 h2
  have F2 : Ks (fun k j => (11 ≤ k ∧ k ≤ 12) ∨ (k = 1 ∧ (j = 0 ∨ j = 14 ∨ j = 15 ∨ j = 16 ∨ j = 17 ∨ j = 24 ∨ j = 25))) M M2_4 := (F1).tr (f2.mono (mo_148))
  intro g5
  have h6 := h2 g5
  obtain ⟨h7, h8⟩ := h6
  refine ⟨?_, ?_⟩
  · intro g9
    have h10 := h7 g9
    exact hQ _ _ F2 h10
  · intro g11
    have h12 := h8 g11
    intro x4_13 g14 g15
    have h13 := h12 x4_13 g14 g15
    refine fmX12_laysCode h13 ?_
    intro M5_17 f16 h16
    have F16 : Ks (fun k j => (11 ≤ k ∧ k ≤ 12) ∨ (k = 1 ∧ (j = 0 ∨ j = 14 ∨ j = 15 ∨ j = 16 ∨ j = 17 ∨ j = 24 ∨ j = 25))) M M5_17 := (F2).tr (f16.mono (mo_149))
    exact hQ _ _ F16 h16
theorem fmX12_bitsBy_L6 {k1 : Nat} {p2 : Int} {p3 : Int} {Q Q' : Int → Mem → Prop} {M0 : Mem} (hQ : ∀ (w0 : Int) (M' : Mem), Ks (fun _ _ => False) M0 M' → Q w0 M' → Q' w0 M') : ∀ (n : Nat) (v4 v5 : Int) (M : Mem), Ks (fun _ _ => False) M0 M → qX12_bitsBy_L6 k1 p2 p3 Q n v4 v5 M → qX12_bitsBy_L6 k1 p2 p3 Q' n v4 v5 M := by
  intro n
  induction n with
  | zero => intro v4 v5 M _ h; exact h.elim
  | succ n ih =>
    intro v4 v5 M hF h
    rw [qX12_bitsBy_L6] at h
    rw [qX12_bitsBy_L6]
    intro x1_1 g2 g3
    have h1 := h x1_1 g2 g3
    obtain ⟨v4, h4⟩ := h1
    refine ⟨v4, ?_⟩
    obtain ⟨h5, h6⟩ := h4
    refine ⟨?_, ?_⟩
    · intro g7
      have h8 := h5 g7
      obtain ⟨v9, h9⟩ := h8
      refine ⟨v9, ?_⟩
      exact hQ _ _ hF h9
    · intro g10
      have h11 := h6 g10
      obtain ⟨v12, h12⟩ := h11
      refine ⟨v12, ?_⟩
      obtain ⟨v13, h13⟩ := h12
      refine ⟨v13, ?_⟩
      intro x7_14 g15 g16
      have h14 := h13 x7_14 g15 g16
      obtain ⟨h17, h18⟩ := h14
      refine ⟨?_, ?_⟩
      · intro g19
        have h20 := h17 g19
        intro x9_21 g22 g23
        have h21 := h20 x9_21 g22 g23
        exact ih _ _ _ hF h21
      · intro g24
        have h25 := h18 g24
        intro x10_26 g27 g28
        have h26 := h25 x10_26 g27 g28
        intro x11_29 g30 g31
        have h29 := h26 x11_29 g30 g31
        exact ih _ _ _ hF h29
theorem fmX12_bitsBy {k1 : Nat} {p2 : Int} {p3 : Int} {M : Mem} {Q Q' : Int → Mem → Prop} (h : qX12_bitsBy k1 p2 p3 M Q) (hQ : ∀ (w0 : Int) (M' : Mem), Ks (fun _ _ => False) M M' → Q w0 M' → Q' w0 M') : qX12_bitsBy k1 p2 p3 M Q' := by
  unfold qX12_bitsBy at h ⊢
  obtain ⟨n1, h1⟩ := h
  refine ⟨n1, ?_⟩
  refine fmX12_bitsBy_L6 hQ _ _ _ _ Ks.rf h1
theorem fmX12_isHearse {p1 : Int} {M : Mem} {Q Q' : Int → Mem → Prop} (h : qX12_isHearse p1 M Q) (hQ : ∀ (w0 : Int) (M' : Mem), Ks (fun _ _ => False) M M' → Q w0 M' → Q' w0 M') : qX12_isHearse p1 M Q' := by
  unfold qX12_isHearse at h ⊢
  intro x1_1 g2 g3
  have h1 := h x1_1 g2 g3
  obtain ⟨v4, h4⟩ := h1
  refine ⟨v4, ?_⟩
  refine fmX12_in h4 ?_
  intro x3_6 M3_7 f5 h5
  have F5 : Ks (fun _ _ => False) M M3_7 := (Ks.rf).tr (f5.mono (fun _ _ h => False.elim h))
  intro g8 g9
  have h10 := h5 g8 g9
  obtain ⟨v11, h11⟩ := h10
  refine ⟨v11, ?_⟩
  exact hQ _ _ F5 h11
theorem fmX12_owners_L4 {p1 : Int} {Q Q' : Int → Mem → Prop} {M0 : Mem} (hQ : ∀ (w0 : Int) (M' : Mem), Ks (fun _ _ => False) M0 M' → Q w0 M' → Q' w0 M') : ∀ (n : Nat) (v2 v3 : Int) (M : Mem), Ks (fun _ _ => False) M0 M → qX12_owners_L4 p1 Q n v2 v3 M → qX12_owners_L4 p1 Q' n v2 v3 M := by
  intro n
  induction n with
  | zero => intro v2 v3 M _ h; exact h.elim
  | succ n ih =>
    intro v2 v3 M hF h
    rw [qX12_owners_L4] at h
    rw [qX12_owners_L4]
    intro x1_1 g2 g3
    have h1 := h x1_1 g2 g3
    obtain ⟨v4, h4⟩ := h1
    refine ⟨v4, ?_⟩
    obtain ⟨h5, h6⟩ := h4
    refine ⟨?_, ?_⟩
    · intro g7
      have h8 := h5 g7
      obtain ⟨v9, h9⟩ := h8
      refine ⟨v9, ?_⟩
      exact hQ _ _ hF h9
    · intro g10
      have h11 := h6 g10
      obtain ⟨v12, h12⟩ := h11
      refine ⟨v12, ?_⟩
      obtain ⟨v13, h13⟩ := h12
      refine ⟨v13, ?_⟩
      intro x7_14 g15 g16
      have h14 := h13 x7_14 g15 g16
      obtain ⟨h17, h18⟩ := h14
      refine ⟨?_, ?_⟩
      · intro g19
        have h20 := h17 g19
        intro x9_21 g22 g23
        have h21 := h20 x9_21 g22 g23
        exact ih _ _ _ hF h21
      · intro g24
        have h25 := h18 g24
        intro x10_26 g27 g28
        have h26 := h25 x10_26 g27 g28
        intro x11_29 g30 g31
        have h29 := h26 x11_29 g30 g31
        exact ih _ _ _ hF h29
theorem fmX12_owners {p1 : Int} {M : Mem} {Q Q' : Int → Mem → Prop} (h : qX12_owners p1 M Q) (hQ : ∀ (w0 : Int) (M' : Mem), Ks (fun _ _ => False) M M' → Q w0 M' → Q' w0 M') : qX12_owners p1 M Q' := by
  unfold qX12_owners at h ⊢
  obtain ⟨n1, h1⟩ := h
  refine ⟨n1, ?_⟩
  refine fmX12_owners_L4 hQ _ _ _ _ Ks.rf h1
theorem fmX12_freeAhead_L2 {k1 : Nat} {p2 : Int} {Q Q' : Int → Mem → Prop} {M0 : Mem} (hQ : ∀ (w0 : Int) (M' : Mem), Ks (fun _ _ => False) M0 M' → Q w0 M' → Q' w0 M') : ∀ (n : Nat) (v3 : Int) (M : Mem), Ks (fun _ _ => False) M0 M → qX12_freeAhead_L2 k1 p2 Q n v3 M → qX12_freeAhead_L2 k1 p2 Q' n v3 M := by
  intro n
  induction n with
  | zero => intro v3 M _ h; exact h.elim
  | succ n ih =>
    intro v3 M hF h
    rw [qX12_freeAhead_L2] at h
    rw [qX12_freeAhead_L2]
    refine fmX12_gate h ?_
    intro x1_2 M1_3 f1 h1
    have F1 : Ks (fun _ _ => False) M0 M1_3 := (hF).tr (f1.mono (fun _ _ h => False.elim h))
    intro g4
    have h5 := h1 g4
    obtain ⟨v6, h6⟩ := h5
    refine ⟨v6, ?_⟩
    obtain ⟨h7, h8⟩ := h6
    refine ⟨?_, ?_⟩
    · intro g9
      have h10 := h7 g9
      obtain ⟨v11, h11⟩ := h10
      refine ⟨v11, ?_⟩
      exact hQ _ _ F1 h11
    · intro g12
      have h13 := h8 g12
      refine fmX12_gate h13 ?_
      intro x5_15 M5_16 f14 h14
      have F14 : Ks (fun _ _ => False) M0 M5_16 := (F1).tr (f14.mono (fun _ _ h => False.elim h))
      intro g17
      have h18 := h14 g17
      obtain ⟨v19, h19⟩ := h18
      refine ⟨v19, ?_⟩
      obtain ⟨h20, h21⟩ := h19
      refine ⟨?_, ?_⟩
      · intro g22
        have h23 := h20 g22
        exact ih _ _ F14 h23
      · intro g24
        have h25 := h21 g24
        refine fmX12_onCell h25 ?_
        intro x8_27 M8_28 f26 h26
        have F26 : Ks (fun _ _ => False) M0 M8_28 := (F14).tr (f26.mono (fun _ _ h => False.elim h))
        intro g29
        have h30 := h26 g29
        obtain ⟨h31, h32⟩ := h30
        refine ⟨?_, ?_⟩
        · intro g33
          have h34 := h31 g33
          obtain ⟨v35, h35⟩ := h34
          refine ⟨v35, ?_⟩
          exact hQ _ _ F26 h35
        · intro g36
          have h37 := h32 g36
          exact ih _ _ F26 h37
theorem fmX12_freeAhead {k1 : Nat} {p2 : Int} {M : Mem} {Q Q' : Int → Mem → Prop} (h : qX12_freeAhead k1 p2 M Q) (hQ : ∀ (w0 : Int) (M' : Mem), Ks (fun _ _ => False) M M' → Q w0 M' → Q' w0 M') : qX12_freeAhead k1 p2 M Q' := by
  unfold qX12_freeAhead at h ⊢
  obtain ⟨n1, h1⟩ := h
  refine ⟨n1, ?_⟩
  refine fmX12_freeAhead_L2 hQ _ _ _ Ks.rf h1
theorem fmX12_isOn {k0 : Nat} {p1 : Int} {M : Mem} {Q Q' : Int → Mem → Prop} (h : qX12_isOn k0 p1 M Q) (hQ : ∀ (w0 : Int) (M' : Mem), Ks (fun _ _ => False) M M' → Q w0 M' → Q' w0 M') : qX12_isOn k0 p1 M Q' := by
  unfold qX12_isOn at h ⊢
  obtain ⟨v1, h1⟩ := h
  refine ⟨v1, ?_⟩
  obtain ⟨v2, h2⟩ := h1
  refine ⟨v2, ?_⟩
  intro x3_3 g4 g5
  have h3 := h2 x3_3 g4 g5
  obtain ⟨h6, h7⟩ := h3
  refine ⟨?_, ?_⟩
  · intro g8
    have h9 := h6 g8
    exact hQ _ _ Ks.rf h9
  · intro g10
    have h11 := h7 g10
    exact hQ _ _ Ks.rf h11
theorem fmX12_worked {p0 : Int} {p1 : Int} {p2 : Int} {M : Mem} {Q Q' : Int → Mem → Prop} (h : qX12_worked p0 p1 p2 M Q) (hQ : ∀ (w0 : Int) (M' : Mem), Ks (fun _ _ => False) M M' → Q w0 M' → Q' w0 M') : qX12_worked p0 p1 p2 M Q' := by
  unfold qX12_worked at h ⊢
  obtain ⟨h1, h2, h3, h4, h5, h6, h7⟩ := h
  refine ⟨?_, ?_, ?_, ?_, ?_, ?_, ?_⟩
  · intro g8
    have h9 := h1 g8
    obtain ⟨h10, h11⟩ := h9
    refine ⟨?_, ?_⟩
    · intro g12
      have h13 := h10 g12
      unfold qX12_worked_J50 at h13 ⊢
      obtain ⟨v14, h14⟩ := h13
      refine ⟨v14, ?_⟩
      refine fmX12_flag h14 ?_
      intro x4_16 M4_17 f15 h15
      have F15 : Ks (fun _ _ => False) M M4_17 := (Ks.rf).tr (f15.mono (fun _ _ h => False.elim h))
      intro g18
      have h19 := h15 g18
      exact hQ _ _ F15 h19
    · intro g20
      have h21 := h11 g20
      unfold qX12_worked_J50 at h21 ⊢
      obtain ⟨v22, h22⟩ := h21
      refine ⟨v22, ?_⟩
      refine fmX12_flag h22 ?_
      intro x4_24 M4_25 f23 h23
      have F23 : Ks (fun _ _ => False) M M4_25 := (Ks.rf).tr (f23.mono (fun _ _ h => False.elim h))
      intro g26
      have h27 := h23 g26
      exact hQ _ _ F23 h27
  · intro g28
    have h29 := h2 g28
    obtain ⟨h30, h31⟩ := h29
    refine ⟨?_, ?_⟩
    · intro g32
      have h33 := h30 g32
      unfold qX12_worked_J64 at h33 ⊢
      obtain ⟨v34, h34⟩ := h33
      refine ⟨v34, ?_⟩
      refine fmX12_flag h34 ?_
      intro x7_36 M7_37 f35 h35
      have F35 : Ks (fun _ _ => False) M M7_37 := (Ks.rf).tr (f35.mono (fun _ _ h => False.elim h))
      intro g38
      have h39 := h35 g38
      exact hQ _ _ F35 h39
    · intro g40
      have h41 := h31 g40
      unfold qX12_worked_J64 at h41 ⊢
      obtain ⟨v42, h42⟩ := h41
      refine ⟨v42, ?_⟩
      refine fmX12_flag h42 ?_
      intro x7_44 M7_45 f43 h43
      have F43 : Ks (fun _ _ => False) M M7_45 := (Ks.rf).tr (f43.mono (fun _ _ h => False.elim h))
      intro g46
      have h47 := h43 g46
      exact hQ _ _ F43 h47
  · intro g48
    have h49 := h3 g48
    obtain ⟨h50, h51⟩ := h49
    refine ⟨?_, ?_⟩
    · intro g52
      have h53 := h50 g52
      unfold qX12_worked_J78 at h53 ⊢
      obtain ⟨v54, h54⟩ := h53
      refine ⟨v54, ?_⟩
      refine fmX12_flag h54 ?_
      intro x10_56 M10_57 f55 h55
      have F55 : Ks (fun _ _ => False) M M10_57 := (Ks.rf).tr (f55.mono (fun _ _ h => False.elim h))
      intro g58
      have h59 := h55 g58
      exact hQ _ _ F55 h59
    · intro g60
      have h61 := h51 g60
      unfold qX12_worked_J78 at h61 ⊢
      obtain ⟨v62, h62⟩ := h61
      refine ⟨v62, ?_⟩
      refine fmX12_flag h62 ?_
      intro x10_64 M10_65 f63 h63
      have F63 : Ks (fun _ _ => False) M M10_65 := (Ks.rf).tr (f63.mono (fun _ _ h => False.elim h))
      intro g66
      have h67 := h63 g66
      exact hQ _ _ F63 h67
  · intro g68
    have h69 := h4 g68
    intro x11_70 g71 g72
    have h70 := h69 x11_70 g71 g72
    exact hQ _ _ Ks.rf h70
  · intro g73
    have h74 := h5 g73
    intro x12_75 g76 g77
    have h75 := h74 x12_75 g76 g77
    exact hQ _ _ Ks.rf h75
  · intro g78
    have h79 := h6 g78
    intro x13_80 g81 g82
    have h80 := h79 x13_80 g81 g82
    exact hQ _ _ Ks.rf h80
  · intro g83
    have h84 := h7 g83
    obtain ⟨h85, h86⟩ := h84
    refine ⟨?_, ?_⟩
    · intro g87
      have h88 := h85 g87
      obtain ⟨v89, h89⟩ := h88
      refine ⟨v89, ?_⟩
      intro x16_90 g91 g92
      have h90 := h89 x16_90 g91 g92
      exact hQ _ _ Ks.rf h90
    · intro g93
      have h94 := h86 g93
      exact hQ _ _ Ks.rf h94
theorem fmX12_ruled_L4  {X125 X125' : Mem → Prop} {Q Q' : Int → Mem → Prop} {M0 : Mem} (hQ : ∀ (w0 : Int) (M' : Mem), Ks (fun k j => k = 13) M0 M' → Q w0 M' → Q' w0 M') (hX125 : ∀ (M' : Mem), Ks (fun k j => k = 13) M0 M' → X125 M' → X125' M') : ∀ (n : Nat) (v1 v2 : Int) (M : Mem), Ks (fun k j => k = 13) M0 M → qX12_ruled_L4 X125 Q n v1 v2 M → qX12_ruled_L4 X125' Q' n v1 v2 M := by
  intro n
  induction n with
  | zero => intro v1 v2 M _ h; exact h.elim
  | succ n ih =>
    intro v1 v2 M hF h
    rw [qX12_ruled_L4] at h
    rw [qX12_ruled_L4]
    intro x1_1 g2 g3
    have h1 := h x1_1 g2 g3
    obtain ⟨v4, h4⟩ := h1
    refine ⟨v4, ?_⟩
    obtain ⟨h5, h6⟩ := h4
    refine ⟨?_, ?_⟩
    · intro g7
      have h8 := h5 g7
      exact hX125 _ hF h8
    · intro g9
      have h10 := h6 g9
      obtain ⟨v11, h11⟩ := h10
      refine ⟨v11, ?_⟩
      obtain ⟨v12, h12⟩ := h11
      refine ⟨v12, ?_⟩
      intro x6_13 g14 g15
      have h13 := h12 x6_13 g14 g15
      obtain ⟨h16, h17⟩ := h13
      refine ⟨?_, ?_⟩
      · intro g18
        have h19 := h16 g18
        obtain ⟨h20, h21⟩ := h19
        refine ⟨?_, ?_⟩
        · intro g22
          have h23 := h20 g22
          obtain ⟨h24, h25⟩ := h23
          refine ⟨?_, ?_⟩
          · intro g26
            have h27 := h24 g26
            unfold qX12_ruled_J115 at h27 ⊢
            obtain ⟨v28, h28⟩ := h27
            refine ⟨v28, ?_⟩
            obtain ⟨v29, h29⟩ := h28
            refine ⟨v29, ?_⟩
            obtain ⟨v30, h30⟩ := h29
            refine ⟨v30, ?_⟩
            intro M13_31 eM13_31
            have h31 := h30 M13_31 eM13_31
            have F31 : Ks (fun k j => k = 13) M0 M13_31 := by rw [eM13_31]; exact (hF).wr (mw_144)
            exact ih _ _ _ F31 h31
          · intro g32
            have h33 := h25 g32
            intro x14_34 g35 g36
            have h34 := h33 x14_34 g35 g36
            obtain ⟨v37, h37⟩ := h34
            refine ⟨v37, ?_⟩
            obtain ⟨v38, h38⟩ := h37
            refine ⟨v38, ?_⟩
            intro x17_39 g40 g41
            have h39 := h38 x17_39 g40 g41
            unfold qX12_ruled_J115 at h39 ⊢
            obtain ⟨v42, h42⟩ := h39
            refine ⟨v42, ?_⟩
            obtain ⟨v43, h43⟩ := h42
            refine ⟨v43, ?_⟩
            obtain ⟨v44, h44⟩ := h43
            refine ⟨v44, ?_⟩
            intro M13_45 eM13_45
            have h45 := h44 M13_45 eM13_45
            have F45 : Ks (fun k j => k = 13) M0 M13_45 := by rw [eM13_45]; exact (hF).wr (mw_144)
            exact ih _ _ _ F45 h45
        · intro g46
          have h47 := h21 g46
          intro x18_48 g49 g50
          have h48 := h47 x18_48 g49 g50
          intro x19_51 g52 g53
          have h51 := h48 x19_51 g52 g53
          intro x20_54 g55 g56
          have h54 := h51 x20_54 g55 g56
          obtain ⟨v57, h57⟩ := h54
          refine ⟨v57, ?_⟩
          obtain ⟨v58, h58⟩ := h57
          refine ⟨v58, ?_⟩
          intro x23_59 g60 g61
          have h59 := h58 x23_59 g60 g61
          obtain ⟨v62, h62⟩ := h59
          refine ⟨v62, ?_⟩
          obtain ⟨v63, h63⟩ := h62
          refine ⟨v63, ?_⟩
          intro x26_64 g65 g66
          have h64 := h63 x26_64 g65 g66
          refine fmX12_worked h64 ?_
          intro x27_68 M27_69 f67 h67
          have F67 : Ks (fun k j => k = 13) M0 M27_69 := (hF).tr (f67.mono (fun _ _ h => False.elim h))
          intro g70
          have h71 := h67 g70
          obtain ⟨v72, h72⟩ := h71
          refine ⟨v72, ?_⟩
          obtain ⟨v73, h73⟩ := h72
          refine ⟨v73, ?_⟩
          intro M30_74 eM30_74
          have h74 := h73 M30_74 eM30_74
          have F74 : Ks (fun k j => k = 13) M0 M30_74 := by rw [eM30_74]; exact (F67).wr (mw_144)
          exact ih _ _ _ F74 h74
      · intro g75
        have h76 := h17 g75
        intro x31_77 g78 g79
        have h77 := h76 x31_77 g78 g79
        intro x32_80 g81 g82
        have h80 := h77 x32_80 g81 g82
        obtain ⟨v83, h83⟩ := h80
        refine ⟨v83, ?_⟩
        obtain ⟨v84, h84⟩ := h83
        refine ⟨v84, ?_⟩
        intro x35_85 g86 g87
        have h85 := h84 x35_85 g86 g87
        intro x36_88 g89 g90
        have h88 := h85 x36_88 g89 g90
        obtain ⟨v91, h91⟩ := h88
        refine ⟨v91, ?_⟩
        obtain ⟨v92, h92⟩ := h91
        refine ⟨v92, ?_⟩
        intro M39_93 eM39_93
        have h93 := h92 M39_93 eM39_93
        have F93 : Ks (fun k j => k = 13) M0 M39_93 := by rw [eM39_93]; exact (hF).wr (mw_144)
        exact ih _ _ _ F93 h93
theorem fmX12_ruled  {M : Mem} {Q Q' : Int → Mem → Prop} (h : qX12_ruled M Q) (hQ : ∀ (w0 : Int) (M' : Mem), Ks (fun k j => k = 13) M M' → Q w0 M' → Q' w0 M') : qX12_ruled M Q' := by
  unfold qX12_ruled at h ⊢
  obtain ⟨n1, h1⟩ := h
  refine ⟨n1, ?_⟩
  refine fmX12_ruled_L4 hQ ?_ _ _ _ _ Ks.rf h1
  · intro M_3 F2 h2
    intro x41_4 g5 g6
    have h4 := h2 x41_4 g5 g6
    obtain ⟨h7, h8⟩ := h4
    refine ⟨?_, ?_⟩
    · intro g9
      have h10 := h7 g9
      intro x43_11 g12 g13
      have h11 := h10 x43_11 g12 g13
      exact hQ _ _ F2 h11
    · intro g14
      have h15 := h8 g14
      intro x44_16 g17 g18
      have h16 := h15 x44_16 g17 g18
      obtain ⟨h19, h20⟩ := h16
      refine ⟨?_, ?_⟩
      · intro g21
        have h22 := h19 g21
        unfold qX12_ruled_J148 at h22 ⊢
        obtain ⟨v23, h23⟩ := h22
        refine ⟨v23, ?_⟩
        refine fmX12_flag h23 ?_
        intro x47_25 M47_26 f24 h24
        have F24 : Ks (fun k j => k = 13) M M47_26 := (F2).tr (f24.mono (fun _ _ h => False.elim h))
        intro g27
        have h28 := h24 g27
        intro x48_29 g30 g31
        have h29 := h28 x48_29 g30 g31
        exact hQ _ _ F24 h29
      · intro g32
        have h33 := h20 g32
        unfold qX12_ruled_J148 at h33 ⊢
        obtain ⟨v34, h34⟩ := h33
        refine ⟨v34, ?_⟩
        refine fmX12_flag h34 ?_
        intro x47_36 M47_37 f35 h35
        have F35 : Ks (fun k j => k = 13) M M47_37 := (F2).tr (f35.mono (fun _ _ h => False.elim h))
        intro g38
        have h39 := h35 g38
        intro x48_40 g41 g42
        have h40 := h39 x48_40 g41 g42
        exact hQ _ _ F35 h40
theorem fmX12_weatherOn {p1 : Int} {M : Mem} {Q Q' : Int → Mem → Prop} (h : qX12_weatherOn p1 M Q) (hQ : ∀ (w0 : Int) (M' : Mem), Ks (fun _ _ => False) M M' → Q w0 M' → Q' w0 M') : qX12_weatherOn p1 M Q' := by
  unfold qX12_weatherOn at h ⊢
  intro x1_1 g2 g3
  have h1 := h x1_1 g2 g3
  obtain ⟨v4, h4⟩ := h1
  refine ⟨v4, ?_⟩
  intro x3_5 g6 g7
  have h5 := h4 x3_5 g6 g7
  obtain ⟨v8, h8⟩ := h5
  refine ⟨v8, ?_⟩
  obtain ⟨v9, h9⟩ := h8
  refine ⟨v9, ?_⟩
  intro x6_10 g11 g12
  have h10 := h9 x6_10 g11 g12
  exact hQ _ _ Ks.rf h10
theorem fmX12_paceOf {k1 : Nat} {p2 : Int} {M : Mem} {Q Q' : Int → Mem → Prop} (h : qX12_paceOf k1 p2 M Q) (hQ : ∀ (w0 : Int) (M' : Mem), Ks (fun k j => (13 ≤ k ∧ k ≤ 14)) M M' → Q w0 M' → Q' w0 M') : qX12_paceOf k1 p2 M Q' := by
  unfold qX12_paceOf at h ⊢
  refine fmX12_isOn h ?_
  intro x1_2 M1_3 f1 h1
  have F1 : Ks (fun k j => (13 ≤ k ∧ k ≤ 14)) M M1_3 := (Ks.rf).tr (f1.mono (fun _ _ h => False.elim h))
  intro g4 g5
  have h6 := h1 g4 g5
  obtain ⟨h7, h8⟩ := h6
  refine ⟨?_, ?_⟩
  · intro g9
    have h10 := h7 g9
    obtain ⟨v11, h11⟩ := h10
    refine ⟨v11, ?_⟩
    obtain ⟨v12, h12⟩ := h11
    refine ⟨v12, ?_⟩
    intro x5_13 g14 g15
    have h13 := h12 x5_13 g14 g15
    intro M6_16 eM6_16
    have h16 := h13 M6_16 eM6_16
    have F16 : Ks (fun k j => (13 ≤ k ∧ k ≤ 14)) M M6_16 := by rw [eM6_16]; exact (F1).wr (mw_145)
    intro x7_17 g18 g19
    have h17 := h16 x7_17 g18 g19
    refine fmX12_freeAhead h17 ?_
    intro x8_21 M8_22 f20 h20
    have F20 : Ks (fun k j => (13 ≤ k ∧ k ≤ 14)) M M8_22 := (F16).tr (f20.mono (fun _ _ h => False.elim h))
    intro g23
    have h24 := h20 g23
    intro M9_25 eM9_25
    have h25 := h24 M9_25 eM9_25
    have F25 : Ks (fun k j => (13 ≤ k ∧ k ≤ 14)) M M9_25 := by rw [eM9_25]; exact (F20).wr (mw_145)
    intro x10_26 g27 g28
    have h26 := h25 x10_26 g27 g28
    obtain ⟨v29, h29⟩ := h26
    refine ⟨v29, ?_⟩
    obtain ⟨v30, h30⟩ := h29
    refine ⟨v30, ?_⟩
    intro x13_31 g32 g33
    have h31 := h30 x13_31 g32 g33
    refine fmX12_flag h31 ?_
    intro x14_35 M14_36 f34 h34
    have F34 : Ks (fun k j => (13 ≤ k ∧ k ≤ 14)) M M14_36 := (F25).tr (f34.mono (fun _ _ h => False.elim h))
    intro g37
    have h38 := h34 g37
    intro M15_39 eM15_39
    have h39 := h38 M15_39 eM15_39
    have F39 : Ks (fun k j => (13 ≤ k ∧ k ≤ 14)) M M15_39 := by rw [eM15_39]; exact (F34).wr (mw_145)
    intro x16_40 g41 g42
    have h40 := h39 x16_40 g41 g42
    refine fmX12_weatherOn h40 ?_
    intro x17_44 M17_45 f43 h43
    have F43 : Ks (fun k j => (13 ≤ k ∧ k ≤ 14)) M M17_45 := (F39).tr (f43.mono (fun _ _ h => False.elim h))
    intro g46
    have h47 := h43 g46
    intro M18_48 eM18_48
    have h48 := h47 M18_48 eM18_48
    have F48 : Ks (fun k j => (13 ≤ k ∧ k ≤ 14)) M M18_48 := by rw [eM18_48]; exact (F43).wr (mw_145)
    intro x19_49 g50 g51
    have h49 := h48 x19_49 g50 g51
    intro x20_52 g53 g54
    have h52 := h49 x20_52 g53 g54
    intro M21_55 eM21_55
    have h55 := h52 M21_55 eM21_55
    have F55 : Ks (fun k j => (13 ≤ k ∧ k ≤ 14)) M M21_55 := by rw [eM21_55]; exact (F48).wr (mw_145)
    intro M22_56 eM22_56
    have h56 := h55 M22_56 eM22_56
    have F56 : Ks (fun k j => (13 ≤ k ∧ k ≤ 14)) M M22_56 := by rw [eM22_56]; exact (F55).wr (mw_145)
    refine fmX12_bitsBy h56 ?_
    intro x23_58 M23_59 f57 h57
    have F57 : Ks (fun k j => (13 ≤ k ∧ k ≤ 14)) M M23_59 := (F56).tr (f57.mono (fun _ _ h => False.elim h))
    intro g60
    have h61 := h57 g60
    refine fmJ6_bitCount_0f7a4 h61 ?_
    intro x24_63 M24_64 f62 h62
    have F62 : Ks (fun k j => (13 ≤ k ∧ k ≤ 14)) M M24_64 := (F57).tr (f62.mono (fun _ _ h => False.elim h))
    intro g65
    have h66 := h62 g65
    intro M25_67 eM25_67
    have h67 := h66 M25_67 eM25_67
    have F67 : Ks (fun k j => (13 ≤ k ∧ k ≤ 14)) M M25_67 := by rw [eM25_67]; exact (F62).wr (mw_145)
    refine fmX12_ruled h67 ?_
    intro x26_69 M26_70 f68 h68
    have F68 : Ks (fun k j => (13 ≤ k ∧ k ≤ 14)) M M26_70 := (F67).tr (f68.mono (mo_150))
    intro g71
    have h72 := h68 g71
    intro x27_73 g74 g75
    have h73 := h72 x27_73 g74 g75
    intro x28_76 g77 g78
    have h76 := h73 x28_76 g77 g78
    exact hQ _ _ F68 h76
  · intro g79
    have h80 := h8 g79
    exact hQ _ _ F1 h80
theorem fmX12_refuse  {M : Mem} {Q Q' : Int → Mem → Prop} (h : qX12_refuse M Q) (hQ : ∀ (w0 : Int) (M' : Mem), Ks (fun k j => (k = 1 ∧ (j = 0))) M M' → Q w0 M' → Q' w0 M') : qX12_refuse M Q' := by
  unfold qX12_refuse at h ⊢
  intro M1_1 eM1_1
  have h1 := h M1_1 eM1_1
  have F1 : Ks (fun k j => (k = 1 ∧ (j = 0))) M M1_1 := by rw [eM1_1]; exact (Ks.rf).wr (mw_146)
  exact hQ _ _ F1 h1
theorem fmX12_hearse {p1 : Int} {p2 : Int} {M : Mem} {Q Q' : Int → Mem → Prop} (h : qX12_hearse p1 p2 M Q) (hQ : ∀ (w0 : Int) (M' : Mem), Ks (fun k j => (13 ≤ k ∧ k ≤ 14) ∨ (k = 1 ∧ (j = 0))) M M' → Q w0 M' → Q' w0 M') : qX12_hearse p1 p2 M Q' := by
  unfold qX12_hearse at h ⊢
  intro M1_1 eM1_1
  have h1 := h M1_1 eM1_1
  have F1 : Ks (fun k j => (13 ≤ k ∧ k ≤ 14) ∨ (k = 1 ∧ (j = 0))) M M1_1 := by rw [eM1_1]; exact (Ks.rf).wr (mw_147)
  refine fmX12_isHearse h1 ?_
  intro x2_3 M2_4 f2 h2
  have F2 : Ks (fun k j => (13 ≤ k ∧ k ≤ 14) ∨ (k = 1 ∧ (j = 0))) M M2_4 := (F1).tr (f2.mono (fun _ _ h => False.elim h))
  intro g5 g6
  have h7 := h2 g5 g6
  obtain ⟨h8, h9⟩ := h7
  refine ⟨?_, ?_⟩
  · intro g10
    have h11 := h8 g10
    unfold qX12_hearse_J25 at h11 ⊢
    refine fmX12_refuse h11 ?_
    intro x4_13 M4_14 f12 h12
    have F12 : Ks (fun k j => (13 ≤ k ∧ k ≤ 14) ∨ (k = 1 ∧ (j = 0))) M M4_14 := (F2).tr (f12.mono (mo_151))
    intro g15
    have h16 := h12 g15
    exact hQ _ _ F12 h16
  · intro g17
    have h18 := h9 g17
    refine fmX12_in h18 ?_
    intro x5_20 M5_21 f19 h19
    have F19 : Ks (fun k j => (13 ≤ k ∧ k ≤ 14) ∨ (k = 1 ∧ (j = 0))) M M5_21 := (F2).tr (f19.mono (fun _ _ h => False.elim h))
    intro g22 g23
    have h24 := h19 g22 g23
    obtain ⟨h25, h26⟩ := h24
    refine ⟨?_, ?_⟩
    · intro g27
      have h28 := h25 g27
      obtain ⟨h29, h30, h31, h32, h33, h34⟩ := h28
      refine ⟨?_, ?_, ?_, ?_, ?_, ?_⟩
      · intro g35
        have h36 := h29 g35
        obtain ⟨v37, h37⟩ := h36
        refine ⟨v37, ?_⟩
        obtain ⟨v38, h38⟩ := h37
        refine ⟨v38, ?_⟩
        intro x10_39 g40 g41
        have h39 := h38 x10_39 g40 g41
        exact hQ _ _ F19 h39
      · intro g42
        have h43 := h30 g42
        obtain ⟨v44, h44⟩ := h43
        refine ⟨v44, ?_⟩
        obtain ⟨v45, h45⟩ := h44
        refine ⟨v45, ?_⟩
        intro x13_46 g47 g48
        have h46 := h45 x13_46 g47 g48
        exact hQ _ _ F19 h46
      · intro g49
        have h50 := h31 g49
        refine fmX12_paceOf h50 ?_
        intro x14_52 M14_53 f51 h51
        have F51 : Ks (fun k j => (13 ≤ k ∧ k ≤ 14) ∨ (k = 1 ∧ (j = 0))) M M14_53 := (F19).tr (f51.mono (mo_152))
        intro g54
        have h55 := h51 g54
        exact hQ _ _ F51 h55
      · intro g56
        have h57 := h32 g56
        refine fmX12_bitsBy h57 ?_
        intro x15_59 M15_60 f58 h58
        have F58 : Ks (fun k j => (13 ≤ k ∧ k ≤ 14) ∨ (k = 1 ∧ (j = 0))) M M15_60 := (F19).tr (f58.mono (fun _ _ h => False.elim h))
        intro g61
        have h62 := h58 g61
        exact hQ _ _ F58 h62
      · intro g63
        have h64 := h33 g63
        refine fmX12_bitsBy h64 ?_
        intro x16_66 M16_67 f65 h65
        have F65 : Ks (fun k j => (13 ≤ k ∧ k ≤ 14) ∨ (k = 1 ∧ (j = 0))) M M16_67 := (F19).tr (f65.mono (fun _ _ h => False.elim h))
        intro g68
        have h69 := h65 g68
        exact hQ _ _ F65 h69
      · intro g70
        have h71 := h34 g70
        refine fmX12_owners h71 ?_
        intro x17_73 M17_74 f72 h72
        have F72 : Ks (fun k j => (13 ≤ k ∧ k ≤ 14) ∨ (k = 1 ∧ (j = 0))) M M17_74 := (F19).tr (f72.mono (fun _ _ h => False.elim h))
        intro g75
        have h76 := h72 g75
        exact hQ _ _ F72 h76
    · intro g77
      have h78 := h26 g77
      unfold qX12_hearse_J25 at h78 ⊢
      refine fmX12_refuse h78 ?_
      intro x4_80 M4_81 f79 h79
      have F79 : Ks (fun k j => (13 ≤ k ∧ k ≤ 14) ∨ (k = 1 ∧ (j = 0))) M M4_81 := (F19).tr (f79.mono (mo_151))
      intro g82
      have h83 := h79 g82
      exact hQ _ _ F79 h83
theorem fmX12_isMourner {p1 : Int} {M : Mem} {Q Q' : Int → Mem → Prop} (h : qX12_isMourner p1 M Q) (hQ : ∀ (w0 : Int) (M' : Mem), Ks (fun _ _ => False) M M' → Q w0 M' → Q' w0 M') : qX12_isMourner p1 M Q' := by
  unfold qX12_isMourner at h ⊢
  intro x1_1 g2 g3
  have h1 := h x1_1 g2 g3
  obtain ⟨v4, h4⟩ := h1
  refine ⟨v4, ?_⟩
  refine fmX12_in h4 ?_
  intro x3_6 M3_7 f5 h5
  have F5 : Ks (fun _ _ => False) M M3_7 := (Ks.rf).tr (f5.mono (fun _ _ h => False.elim h))
  intro g8 g9
  have h10 := h5 g8 g9
  obtain ⟨v11, h11⟩ := h10
  refine ⟨v11, ?_⟩
  exact hQ _ _ F5 h11
theorem fmX12_nearest_L5 {k1 : Nat} {p2 : Int} {Q Q' : Int → Mem → Prop} {M0 : Mem} (hQ : ∀ (w0 : Int) (M' : Mem), Ks (fun _ _ => False) M0 M' → Q w0 M' → Q' w0 M') : ∀ (n : Nat) (v3 v4 : Int) (M : Mem), Ks (fun _ _ => False) M0 M → qX12_nearest_L5 k1 p2 Q n v3 v4 M → qX12_nearest_L5 k1 p2 Q' n v3 v4 M := by
  intro n
  induction n with
  | zero => intro v3 v4 M _ h; exact h.elim
  | succ n ih =>
    intro v3 v4 M hF h
    rw [qX12_nearest_L5] at h
    rw [qX12_nearest_L5]
    intro x1_1 g2 g3
    have h1 := h x1_1 g2 g3
    obtain ⟨v4, h4⟩ := h1
    refine ⟨v4, ?_⟩
    obtain ⟨h5, h6⟩ := h4
    refine ⟨?_, ?_⟩
    · intro g7
      have h8 := h5 g7
      obtain ⟨v9, h9⟩ := h8
      refine ⟨v9, ?_⟩
      exact hQ _ _ hF h9
    · intro g10
      have h11 := h6 g10
      refine fmX12_isOn h11 ?_
      intro x5_13 M5_14 f12 h12
      have F12 : Ks (fun _ _ => False) M0 M5_14 := (hF).tr (f12.mono (fun _ _ h => False.elim h))
      intro g15 g16
      have h17 := h12 g15 g16
      obtain ⟨h18, h19⟩ := h17
      refine ⟨?_, ?_⟩
      · intro g20
        have h21 := h18 g20
        exact ih _ _ _ F12 h21
      · intro g22
        have h23 := h19 g22
        obtain ⟨v24, h24⟩ := h23
        refine ⟨v24, ?_⟩
        obtain ⟨v25, h25⟩ := h24
        refine ⟨v25, ?_⟩
        intro x9_26 g27 g28
        have h26 := h25 x9_26 g27 g28
        obtain ⟨v29, h29⟩ := h26
        refine ⟨v29, ?_⟩
        intro x11_30 g31 g32
        have h30 := h29 x11_30 g31 g32
        obtain ⟨v33, h33⟩ := h30
        refine ⟨v33, ?_⟩
        obtain ⟨h34, h35⟩ := h33
        refine ⟨?_, ?_⟩
        · intro g36
          have h37 := h34 g36
          obtain ⟨v38, h38⟩ := h37
          refine ⟨v38, ?_⟩
          obtain ⟨v39, h39⟩ := h38
          refine ⟨v39, ?_⟩
          intro x16_40 g41 g42
          have h40 := h39 x16_40 g41 g42
          obtain ⟨v43, h43⟩ := h40
          refine ⟨v43, ?_⟩
          intro x18_44 g45 g46
          have h44 := h43 x18_44 g45 g46
          unfold qX12_nearest_J52 at h44 ⊢
          obtain ⟨v47, h47⟩ := h44
          refine ⟨v47, ?_⟩
          obtain ⟨v48, h48⟩ := h47
          refine ⟨v48, ?_⟩
          obtain ⟨h49, h50⟩ := h48
          refine ⟨?_, ?_⟩
          · intro g51
            have h52 := h49 g51
            exact ih _ _ _ F12 h52
          · intro g53
            have h54 := h50 g53
            obtain ⟨h55, h56⟩ := h54
            refine ⟨?_, ?_⟩
            · intro g57
              have h58 := h55 g57
              exact ih _ _ _ F12 h58
            · intro g59
              have h60 := h56 g59
              obtain ⟨v61, h61⟩ := h60
              refine ⟨v61, ?_⟩
              obtain ⟨v62, h62⟩ := h61
              refine ⟨v62, ?_⟩
              intro x25_63 g64 g65
              have h63 := h62 x25_63 g64 g65
              obtain ⟨v66, h66⟩ := h63
              refine ⟨v66, ?_⟩
              obtain ⟨v67, h67⟩ := h66
              refine ⟨v67, ?_⟩
              intro x28_68 g69 g70
              have h68 := h67 x28_68 g69 g70
              obtain ⟨h71, h72⟩ := h68
              refine ⟨?_, ?_⟩
              · intro g73
                have h74 := h71 g73
                exact ih _ _ _ F12 h74
              · intro g75
                have h76 := h72 g75
                exact ih _ _ _ F12 h76
        · intro g77
          have h78 := h35 g77
          unfold qX12_nearest_J52 at h78 ⊢
          obtain ⟨v79, h79⟩ := h78
          refine ⟨v79, ?_⟩
          obtain ⟨v80, h80⟩ := h79
          refine ⟨v80, ?_⟩
          obtain ⟨h81, h82⟩ := h80
          refine ⟨?_, ?_⟩
          · intro g83
            have h84 := h81 g83
            exact ih _ _ _ F12 h84
          · intro g85
            have h86 := h82 g85
            obtain ⟨h87, h88⟩ := h86
            refine ⟨?_, ?_⟩
            · intro g89
              have h90 := h87 g89
              exact ih _ _ _ F12 h90
            · intro g91
              have h92 := h88 g91
              obtain ⟨v93, h93⟩ := h92
              refine ⟨v93, ?_⟩
              obtain ⟨v94, h94⟩ := h93
              refine ⟨v94, ?_⟩
              intro x25_95 g96 g97
              have h95 := h94 x25_95 g96 g97
              obtain ⟨v98, h98⟩ := h95
              refine ⟨v98, ?_⟩
              obtain ⟨v99, h99⟩ := h98
              refine ⟨v99, ?_⟩
              intro x28_100 g101 g102
              have h100 := h99 x28_100 g101 g102
              obtain ⟨h103, h104⟩ := h100
              refine ⟨?_, ?_⟩
              · intro g105
                have h106 := h103 g105
                exact ih _ _ _ F12 h106
              · intro g107
                have h108 := h104 g107
                exact ih _ _ _ F12 h108
theorem fmX12_nearest {k1 : Nat} {p2 : Int} {M : Mem} {Q Q' : Int → Mem → Prop} (h : qX12_nearest k1 p2 M Q) (hQ : ∀ (w0 : Int) (M' : Mem), Ks (fun _ _ => False) M M' → Q w0 M' → Q' w0 M') : qX12_nearest k1 p2 M Q' := by
  unfold qX12_nearest at h ⊢
  obtain ⟨n1, h1⟩ := h
  refine ⟨n1, ?_⟩
  refine fmX12_nearest_L5 hQ _ _ _ _ Ks.rf h1
theorem fmX12_mourner {p1 : Int} {p2 : Int} {M : Mem} {Q Q' : Int → Mem → Prop} (h : qX12_mourner p1 p2 M Q) (hQ : ∀ (w0 : Int) (M' : Mem), Ks (fun k j => (k = 1 ∧ (j = 0))) M M' → Q w0 M' → Q' w0 M') : qX12_mourner p1 p2 M Q' := by
  unfold qX12_mourner at h ⊢
  intro M1_1 eM1_1
  have h1 := h M1_1 eM1_1
  have F1 : Ks (fun k j => (k = 1 ∧ (j = 0))) M M1_1 := by rw [eM1_1]; exact (Ks.rf).wr (mw_146)
  refine fmX12_isMourner h1 ?_
  intro x2_3 M2_4 f2 h2
  have F2 : Ks (fun k j => (k = 1 ∧ (j = 0))) M M2_4 := (F1).tr (f2.mono (fun _ _ h => False.elim h))
  intro g5 g6
  have h7 := h2 g5 g6
  obtain ⟨h8, h9⟩ := h7
  refine ⟨?_, ?_⟩
  · intro g10
    have h11 := h8 g10
    unfold qX12_mourner_J25 at h11 ⊢
    refine fmX12_refuse h11 ?_
    intro x4_13 M4_14 f12 h12
    have F12 : Ks (fun k j => (k = 1 ∧ (j = 0))) M M4_14 := (F2).tr (f12.mono (fun _ _ h => h))
    intro g15
    have h16 := h12 g15
    exact hQ _ _ F12 h16
  · intro g17
    have h18 := h9 g17
    refine fmX12_in h18 ?_
    intro x5_20 M5_21 f19 h19
    have F19 : Ks (fun k j => (k = 1 ∧ (j = 0))) M M5_21 := (F2).tr (f19.mono (fun _ _ h => False.elim h))
    intro g22 g23
    have h24 := h19 g22 g23
    obtain ⟨h25, h26⟩ := h24
    refine ⟨?_, ?_⟩
    · intro g27
      have h28 := h25 g27
      obtain ⟨h29, h30, h31, h32, h33⟩ := h28
      refine ⟨?_, ?_, ?_, ?_, ?_⟩
      · intro g34
        have h35 := h29 g34
        obtain ⟨v36, h36⟩ := h35
        refine ⟨v36, ?_⟩
        obtain ⟨v37, h37⟩ := h36
        refine ⟨v37, ?_⟩
        intro x10_38 g39 g40
        have h38 := h37 x10_38 g39 g40
        exact hQ _ _ F19 h38
      · intro g41
        have h42 := h30 g41
        obtain ⟨v43, h43⟩ := h42
        refine ⟨v43, ?_⟩
        obtain ⟨v44, h44⟩ := h43
        refine ⟨v44, ?_⟩
        intro x13_45 g46 g47
        have h45 := h44 x13_45 g46 g47
        exact hQ _ _ F19 h45
      · intro g48
        have h49 := h31 g48
        obtain ⟨v50, h50⟩ := h49
        refine ⟨v50, ?_⟩
        obtain ⟨v51, h51⟩ := h50
        refine ⟨v51, ?_⟩
        intro x16_52 g53 g54
        have h52 := h51 x16_52 g53 g54
        exact hQ _ _ F19 h52
      · intro g55
        have h56 := h32 g55
        obtain ⟨v57, h57⟩ := h56
        refine ⟨v57, ?_⟩
        obtain ⟨v58, h58⟩ := h57
        refine ⟨v58, ?_⟩
        intro x19_59 g60 g61
        have h59 := h58 x19_59 g60 g61
        exact hQ _ _ F19 h59
      · intro g62
        have h63 := h33 g62
        obtain ⟨v64, h64⟩ := h63
        refine ⟨v64, ?_⟩
        obtain ⟨v65, h65⟩ := h64
        refine ⟨v65, ?_⟩
        intro x22_66 g67 g68
        have h66 := h65 x22_66 g67 g68
        refine fmX12_nearest h66 ?_
        intro x23_70 M23_71 f69 h69
        have F69 : Ks (fun k j => (k = 1 ∧ (j = 0))) M M23_71 := (F19).tr (f69.mono (fun _ _ h => False.elim h))
        intro g72
        have h73 := h69 g72
        exact hQ _ _ F69 h73
    · intro g74
      have h75 := h26 g74
      unfold qX12_mourner_J25 at h75 ⊢
      refine fmX12_refuse h75 ?_
      intro x4_77 M4_78 f76 h76
      have F76 : Ks (fun k j => (k = 1 ∧ (j = 0))) M M4_78 := (F19).tr (f76.mono (fun _ _ h => h))
      intro g79
      have h80 := h76 g79
      exact hQ _ _ F76 h80
theorem fmX12_isEnded {k0 : Nat} {p1 : Int} {M : Mem} {Q Q' : Int → Mem → Prop} (h : qX12_isEnded k0 p1 M Q) (hQ : ∀ (w0 : Int) (M' : Mem), Ks (fun _ _ => False) M M' → Q w0 M' → Q' w0 M') : qX12_isEnded k0 p1 M Q' := by
  unfold qX12_isEnded at h ⊢
  obtain ⟨v1, h1⟩ := h
  refine ⟨v1, ?_⟩
  obtain ⟨v2, h2⟩ := h1
  refine ⟨v2, ?_⟩
  intro x3_3 g4 g5
  have h3 := h2 x3_3 g4 g5
  obtain ⟨h6, h7⟩ := h3
  refine ⟨?_, ?_⟩
  · intro g8
    have h9 := h6 g8
    exact hQ _ _ Ks.rf h9
  · intro g10
    have h11 := h7 g10
    exact hQ _ _ Ks.rf h11
theorem fmX12_sheet_L46 {p1 : Int} {p2 : Int} {p3 : Int} {p4 : Int} {X177 X177' : Int → Mem → Prop} {Q Q' : Int → Mem → Prop} {M0 : Mem} (hQ : ∀ (w0 : Int) (M' : Mem), Ks (fun k j => k = 5 ∨ (k = 1 ∧ (j = 0))) M0 M' → Q w0 M' → Q' w0 M') (hX177 : ∀ (w0 : Int) (M' : Mem), Ks (fun k j => k = 5 ∨ (k = 1 ∧ (j = 0))) M0 M' → X177 w0 M' → X177' w0 M') : ∀ (n : Nat) (v5 v6 v7 : Int) (M : Mem), Ks (fun k j => k = 5 ∨ (k = 1 ∧ (j = 0))) M0 M → qX12_sheet_L46 p1 p2 p3 p4 X177 Q n v5 v6 v7 M → qX12_sheet_L46 p1 p2 p3 p4 X177' Q' n v5 v6 v7 M := by
  intro n
  induction n with
  | zero => intro v5 v6 v7 M _ h; exact h.elim
  | succ n ih =>
    intro v5 v6 v7 M hF h
    rw [qX12_sheet_L46] at h
    rw [qX12_sheet_L46]
    intro x6_1 g2 g3
    have h1 := h x6_1 g2 g3
    obtain ⟨v4, h4⟩ := h1
    refine ⟨v4, ?_⟩
    obtain ⟨h5, h6⟩ := h4
    refine ⟨?_, ?_⟩
    · intro g7
      have h8 := h5 g7
      exact hX177 _ _ hF h8
    · intro g9
      have h10 := h6 g9
      obtain ⟨h11, h12⟩ := h10
      refine ⟨?_, ?_⟩
      · intro g13
        have h14 := h11 g13
        obtain ⟨h15, h16⟩ := h14
        refine ⟨?_, ?_⟩
        · intro g17
          have h18 := h15 g17
          unfold qX12_sheet_J78 at h18 ⊢
          obtain ⟨h19, h20⟩ := h18
          refine ⟨?_, ?_⟩
          · intro g21
            have h22 := h19 g21
            unfold qX12_sheet_J91 at h22 ⊢
            unfold qX12_sheet_J110 at h22 ⊢
            intro x12_23 g24 g25
            have h23 := h22 x12_23 g24 g25
            obtain ⟨v26, h26⟩ := h23
            refine ⟨v26, ?_⟩
            refine fmX12_isEnded h26 ?_
            intro x14_28 M14_29 f27 h27
            have F27 : Ks (fun k j => k = 5 ∨ (k = 1 ∧ (j = 0))) M0 M14_29 := (hF).tr (f27.mono (fun _ _ h => False.elim h))
            intro g30 g31
            have h32 := h27 g30 g31
            obtain ⟨h33, h34⟩ := h32
            refine ⟨?_, ?_⟩
            · intro g35
              have h36 := h33 g35
              unfold qX12_sheet_J148 at h36 ⊢
              obtain ⟨v37, h37⟩ := h36
              refine ⟨v37, ?_⟩
              obtain ⟨v38, h38⟩ := h37
              refine ⟨v38, ?_⟩
              obtain ⟨v39, h39⟩ := h38
              refine ⟨v39, ?_⟩
              intro M19_40 eM19_40
              have h40 := h39 M19_40 eM19_40
              have F40 : Ks (fun k j => k = 5 ∨ (k = 1 ∧ (j = 0))) M0 M19_40 := by rw [eM19_40]; exact (F27).wr (mw_148 _)
              intro x20_41 g42 g43
              have h41 := h40 x20_41 g42 g43
              obtain ⟨v44, h44⟩ := h41
              refine ⟨v44, ?_⟩
              obtain ⟨v45, h45⟩ := h44
              refine ⟨v45, ?_⟩
              intro x23_46 g47 g48
              have h46 := h45 x23_46 g47 g48
              intro x24_49 g50 g51
              have h49 := h46 x24_49 g50 g51
              intro x25_52 g53 g54
              have h52 := h49 x25_52 g53 g54
              exact ih _ _ _ _ F40 h52
            · intro g55
              have h56 := h34 g55
              intro x26_57 g58 g59
              have h57 := h56 x26_57 g58 g59
              obtain ⟨v60, h60⟩ := h57
              refine ⟨v60, ?_⟩
              obtain ⟨v61, h61⟩ := h60
              refine ⟨v61, ?_⟩
              intro x29_62 g63 g64
              have h62 := h61 x29_62 g63 g64
              unfold qX12_sheet_J148 at h62 ⊢
              obtain ⟨v65, h65⟩ := h62
              refine ⟨v65, ?_⟩
              obtain ⟨v66, h66⟩ := h65
              refine ⟨v66, ?_⟩
              obtain ⟨v67, h67⟩ := h66
              refine ⟨v67, ?_⟩
              intro M19_68 eM19_68
              have h68 := h67 M19_68 eM19_68
              have F68 : Ks (fun k j => k = 5 ∨ (k = 1 ∧ (j = 0))) M0 M19_68 := by rw [eM19_68]; exact (F27).wr (mw_148 _)
              intro x20_69 g70 g71
              have h69 := h68 x20_69 g70 g71
              obtain ⟨v72, h72⟩ := h69
              refine ⟨v72, ?_⟩
              obtain ⟨v73, h73⟩ := h72
              refine ⟨v73, ?_⟩
              intro x23_74 g75 g76
              have h74 := h73 x23_74 g75 g76
              intro x24_77 g78 g79
              have h77 := h74 x24_77 g78 g79
              intro x25_80 g81 g82
              have h80 := h77 x25_80 g81 g82
              exact ih _ _ _ _ F68 h80
          · intro g83
            have h84 := h20 g83
            obtain ⟨v85, h85⟩ := h84
            refine ⟨v85, ?_⟩
            obtain ⟨h86, h87⟩ := h85
            refine ⟨?_, ?_⟩
            · intro g88
              have h89 := h86 g88
              refine fmX12_gate h89 ?_
              intro x32_91 M32_92 f90 h90
              have F90 : Ks (fun k j => k = 5 ∨ (k = 1 ∧ (j = 0))) M0 M32_92 := (hF).tr (f90.mono (fun _ _ h => False.elim h))
              intro g93
              have h94 := h90 g93
              intro x33_95 g96 g97
              have h95 := h94 x33_95 g96 g97
              obtain ⟨v98, h98⟩ := h95
              refine ⟨v98, ?_⟩
              intro x35_99 g100 g101
              have h99 := h98 x35_99 g100 g101
              intro x36_102 g103 g104
              have h102 := h99 x36_102 g103 g104
              unfold qX12_sheet_J110 at h102 ⊢
              intro x12_105 g106 g107
              have h105 := h102 x12_105 g106 g107
              obtain ⟨v108, h108⟩ := h105
              refine ⟨v108, ?_⟩
              refine fmX12_isEnded h108 ?_
              intro x14_110 M14_111 f109 h109
              have F109 : Ks (fun k j => k = 5 ∨ (k = 1 ∧ (j = 0))) M0 M14_111 := (F90).tr (f109.mono (fun _ _ h => False.elim h))
              intro g112 g113
              have h114 := h109 g112 g113
              obtain ⟨h115, h116⟩ := h114
              refine ⟨?_, ?_⟩
              · intro g117
                have h118 := h115 g117
                unfold qX12_sheet_J148 at h118 ⊢
                obtain ⟨v119, h119⟩ := h118
                refine ⟨v119, ?_⟩
                obtain ⟨v120, h120⟩ := h119
                refine ⟨v120, ?_⟩
                obtain ⟨v121, h121⟩ := h120
                refine ⟨v121, ?_⟩
                intro M19_122 eM19_122
                have h122 := h121 M19_122 eM19_122
                have F122 : Ks (fun k j => k = 5 ∨ (k = 1 ∧ (j = 0))) M0 M19_122 := by rw [eM19_122]; exact (F109).wr (mw_148 _)
                intro x20_123 g124 g125
                have h123 := h122 x20_123 g124 g125
                obtain ⟨v126, h126⟩ := h123
                refine ⟨v126, ?_⟩
                obtain ⟨v127, h127⟩ := h126
                refine ⟨v127, ?_⟩
                intro x23_128 g129 g130
                have h128 := h127 x23_128 g129 g130
                intro x24_131 g132 g133
                have h131 := h128 x24_131 g132 g133
                intro x25_134 g135 g136
                have h134 := h131 x25_134 g135 g136
                exact ih _ _ _ _ F122 h134
              · intro g137
                have h138 := h116 g137
                intro x26_139 g140 g141
                have h139 := h138 x26_139 g140 g141
                obtain ⟨v142, h142⟩ := h139
                refine ⟨v142, ?_⟩
                obtain ⟨v143, h143⟩ := h142
                refine ⟨v143, ?_⟩
                intro x29_144 g145 g146
                have h144 := h143 x29_144 g145 g146
                unfold qX12_sheet_J148 at h144 ⊢
                obtain ⟨v147, h147⟩ := h144
                refine ⟨v147, ?_⟩
                obtain ⟨v148, h148⟩ := h147
                refine ⟨v148, ?_⟩
                obtain ⟨v149, h149⟩ := h148
                refine ⟨v149, ?_⟩
                intro M19_150 eM19_150
                have h150 := h149 M19_150 eM19_150
                have F150 : Ks (fun k j => k = 5 ∨ (k = 1 ∧ (j = 0))) M0 M19_150 := by rw [eM19_150]; exact (F109).wr (mw_148 _)
                intro x20_151 g152 g153
                have h151 := h150 x20_151 g152 g153
                obtain ⟨v154, h154⟩ := h151
                refine ⟨v154, ?_⟩
                obtain ⟨v155, h155⟩ := h154
                refine ⟨v155, ?_⟩
                intro x23_156 g157 g158
                have h156 := h155 x23_156 g157 g158
                intro x24_159 g160 g161
                have h159 := h156 x24_159 g160 g161
                intro x25_162 g163 g164
                have h162 := h159 x25_162 g163 g164
                exact ih _ _ _ _ F150 h162
            · intro g165
              have h166 := h87 g165
              unfold qX12_sheet_J91 at h166 ⊢
              unfold qX12_sheet_J110 at h166 ⊢
              intro x12_167 g168 g169
              have h167 := h166 x12_167 g168 g169
              obtain ⟨v170, h170⟩ := h167
              refine ⟨v170, ?_⟩
              refine fmX12_isEnded h170 ?_
              intro x14_172 M14_173 f171 h171
              have F171 : Ks (fun k j => k = 5 ∨ (k = 1 ∧ (j = 0))) M0 M14_173 := (hF).tr (f171.mono (fun _ _ h => False.elim h))
              intro g174 g175
              have h176 := h171 g174 g175
              obtain ⟨h177, h178⟩ := h176
              refine ⟨?_, ?_⟩
              · intro g179
                have h180 := h177 g179
                unfold qX12_sheet_J148 at h180 ⊢
                obtain ⟨v181, h181⟩ := h180
                refine ⟨v181, ?_⟩
                obtain ⟨v182, h182⟩ := h181
                refine ⟨v182, ?_⟩
                obtain ⟨v183, h183⟩ := h182
                refine ⟨v183, ?_⟩
                intro M19_184 eM19_184
                have h184 := h183 M19_184 eM19_184
                have F184 : Ks (fun k j => k = 5 ∨ (k = 1 ∧ (j = 0))) M0 M19_184 := by rw [eM19_184]; exact (F171).wr (mw_148 _)
                intro x20_185 g186 g187
                have h185 := h184 x20_185 g186 g187
                obtain ⟨v188, h188⟩ := h185
                refine ⟨v188, ?_⟩
                obtain ⟨v189, h189⟩ := h188
                refine ⟨v189, ?_⟩
                intro x23_190 g191 g192
                have h190 := h189 x23_190 g191 g192
                intro x24_193 g194 g195
                have h193 := h190 x24_193 g194 g195
                intro x25_196 g197 g198
                have h196 := h193 x25_196 g197 g198
                exact ih _ _ _ _ F184 h196
              · intro g199
                have h200 := h178 g199
                intro x26_201 g202 g203
                have h201 := h200 x26_201 g202 g203
                obtain ⟨v204, h204⟩ := h201
                refine ⟨v204, ?_⟩
                obtain ⟨v205, h205⟩ := h204
                refine ⟨v205, ?_⟩
                intro x29_206 g207 g208
                have h206 := h205 x29_206 g207 g208
                unfold qX12_sheet_J148 at h206 ⊢
                obtain ⟨v209, h209⟩ := h206
                refine ⟨v209, ?_⟩
                obtain ⟨v210, h210⟩ := h209
                refine ⟨v210, ?_⟩
                obtain ⟨v211, h211⟩ := h210
                refine ⟨v211, ?_⟩
                intro M19_212 eM19_212
                have h212 := h211 M19_212 eM19_212
                have F212 : Ks (fun k j => k = 5 ∨ (k = 1 ∧ (j = 0))) M0 M19_212 := by rw [eM19_212]; exact (F171).wr (mw_148 _)
                intro x20_213 g214 g215
                have h213 := h212 x20_213 g214 g215
                obtain ⟨v216, h216⟩ := h213
                refine ⟨v216, ?_⟩
                obtain ⟨v217, h217⟩ := h216
                refine ⟨v217, ?_⟩
                intro x23_218 g219 g220
                have h218 := h217 x23_218 g219 g220
                intro x24_221 g222 g223
                have h221 := h218 x24_221 g222 g223
                intro x25_224 g225 g226
                have h224 := h221 x25_224 g225 g226
                exact ih _ _ _ _ F212 h224
        · intro g227
          have h228 := h16 g227
          intro x37_229 g230 g231
          have h229 := h228 x37_229 g230 g231
          unfold qX12_sheet_J78 at h229 ⊢
          obtain ⟨h232, h233⟩ := h229
          refine ⟨?_, ?_⟩
          · intro g234
            have h235 := h232 g234
            unfold qX12_sheet_J91 at h235 ⊢
            unfold qX12_sheet_J110 at h235 ⊢
            intro x12_236 g237 g238
            have h236 := h235 x12_236 g237 g238
            obtain ⟨v239, h239⟩ := h236
            refine ⟨v239, ?_⟩
            refine fmX12_isEnded h239 ?_
            intro x14_241 M14_242 f240 h240
            have F240 : Ks (fun k j => k = 5 ∨ (k = 1 ∧ (j = 0))) M0 M14_242 := (hF).tr (f240.mono (fun _ _ h => False.elim h))
            intro g243 g244
            have h245 := h240 g243 g244
            obtain ⟨h246, h247⟩ := h245
            refine ⟨?_, ?_⟩
            · intro g248
              have h249 := h246 g248
              unfold qX12_sheet_J148 at h249 ⊢
              obtain ⟨v250, h250⟩ := h249
              refine ⟨v250, ?_⟩
              obtain ⟨v251, h251⟩ := h250
              refine ⟨v251, ?_⟩
              obtain ⟨v252, h252⟩ := h251
              refine ⟨v252, ?_⟩
              intro M19_253 eM19_253
              have h253 := h252 M19_253 eM19_253
              have F253 : Ks (fun k j => k = 5 ∨ (k = 1 ∧ (j = 0))) M0 M19_253 := by rw [eM19_253]; exact (F240).wr (mw_148 _)
              intro x20_254 g255 g256
              have h254 := h253 x20_254 g255 g256
              obtain ⟨v257, h257⟩ := h254
              refine ⟨v257, ?_⟩
              obtain ⟨v258, h258⟩ := h257
              refine ⟨v258, ?_⟩
              intro x23_259 g260 g261
              have h259 := h258 x23_259 g260 g261
              intro x24_262 g263 g264
              have h262 := h259 x24_262 g263 g264
              intro x25_265 g266 g267
              have h265 := h262 x25_265 g266 g267
              exact ih _ _ _ _ F253 h265
            · intro g268
              have h269 := h247 g268
              intro x26_270 g271 g272
              have h270 := h269 x26_270 g271 g272
              obtain ⟨v273, h273⟩ := h270
              refine ⟨v273, ?_⟩
              obtain ⟨v274, h274⟩ := h273
              refine ⟨v274, ?_⟩
              intro x29_275 g276 g277
              have h275 := h274 x29_275 g276 g277
              unfold qX12_sheet_J148 at h275 ⊢
              obtain ⟨v278, h278⟩ := h275
              refine ⟨v278, ?_⟩
              obtain ⟨v279, h279⟩ := h278
              refine ⟨v279, ?_⟩
              obtain ⟨v280, h280⟩ := h279
              refine ⟨v280, ?_⟩
              intro M19_281 eM19_281
              have h281 := h280 M19_281 eM19_281
              have F281 : Ks (fun k j => k = 5 ∨ (k = 1 ∧ (j = 0))) M0 M19_281 := by rw [eM19_281]; exact (F240).wr (mw_148 _)
              intro x20_282 g283 g284
              have h282 := h281 x20_282 g283 g284
              obtain ⟨v285, h285⟩ := h282
              refine ⟨v285, ?_⟩
              obtain ⟨v286, h286⟩ := h285
              refine ⟨v286, ?_⟩
              intro x23_287 g288 g289
              have h287 := h286 x23_287 g288 g289
              intro x24_290 g291 g292
              have h290 := h287 x24_290 g291 g292
              intro x25_293 g294 g295
              have h293 := h290 x25_293 g294 g295
              exact ih _ _ _ _ F281 h293
          · intro g296
            have h297 := h233 g296
            obtain ⟨v298, h298⟩ := h297
            refine ⟨v298, ?_⟩
            obtain ⟨h299, h300⟩ := h298
            refine ⟨?_, ?_⟩
            · intro g301
              have h302 := h299 g301
              refine fmX12_gate h302 ?_
              intro x32_304 M32_305 f303 h303
              have F303 : Ks (fun k j => k = 5 ∨ (k = 1 ∧ (j = 0))) M0 M32_305 := (hF).tr (f303.mono (fun _ _ h => False.elim h))
              intro g306
              have h307 := h303 g306
              intro x33_308 g309 g310
              have h308 := h307 x33_308 g309 g310
              obtain ⟨v311, h311⟩ := h308
              refine ⟨v311, ?_⟩
              intro x35_312 g313 g314
              have h312 := h311 x35_312 g313 g314
              intro x36_315 g316 g317
              have h315 := h312 x36_315 g316 g317
              unfold qX12_sheet_J110 at h315 ⊢
              intro x12_318 g319 g320
              have h318 := h315 x12_318 g319 g320
              obtain ⟨v321, h321⟩ := h318
              refine ⟨v321, ?_⟩
              refine fmX12_isEnded h321 ?_
              intro x14_323 M14_324 f322 h322
              have F322 : Ks (fun k j => k = 5 ∨ (k = 1 ∧ (j = 0))) M0 M14_324 := (F303).tr (f322.mono (fun _ _ h => False.elim h))
              intro g325 g326
              have h327 := h322 g325 g326
              obtain ⟨h328, h329⟩ := h327
              refine ⟨?_, ?_⟩
              · intro g330
                have h331 := h328 g330
                unfold qX12_sheet_J148 at h331 ⊢
                obtain ⟨v332, h332⟩ := h331
                refine ⟨v332, ?_⟩
                obtain ⟨v333, h333⟩ := h332
                refine ⟨v333, ?_⟩
                obtain ⟨v334, h334⟩ := h333
                refine ⟨v334, ?_⟩
                intro M19_335 eM19_335
                have h335 := h334 M19_335 eM19_335
                have F335 : Ks (fun k j => k = 5 ∨ (k = 1 ∧ (j = 0))) M0 M19_335 := by rw [eM19_335]; exact (F322).wr (mw_148 _)
                intro x20_336 g337 g338
                have h336 := h335 x20_336 g337 g338
                obtain ⟨v339, h339⟩ := h336
                refine ⟨v339, ?_⟩
                obtain ⟨v340, h340⟩ := h339
                refine ⟨v340, ?_⟩
                intro x23_341 g342 g343
                have h341 := h340 x23_341 g342 g343
                intro x24_344 g345 g346
                have h344 := h341 x24_344 g345 g346
                intro x25_347 g348 g349
                have h347 := h344 x25_347 g348 g349
                exact ih _ _ _ _ F335 h347
              · intro g350
                have h351 := h329 g350
                intro x26_352 g353 g354
                have h352 := h351 x26_352 g353 g354
                obtain ⟨v355, h355⟩ := h352
                refine ⟨v355, ?_⟩
                obtain ⟨v356, h356⟩ := h355
                refine ⟨v356, ?_⟩
                intro x29_357 g358 g359
                have h357 := h356 x29_357 g358 g359
                unfold qX12_sheet_J148 at h357 ⊢
                obtain ⟨v360, h360⟩ := h357
                refine ⟨v360, ?_⟩
                obtain ⟨v361, h361⟩ := h360
                refine ⟨v361, ?_⟩
                obtain ⟨v362, h362⟩ := h361
                refine ⟨v362, ?_⟩
                intro M19_363 eM19_363
                have h363 := h362 M19_363 eM19_363
                have F363 : Ks (fun k j => k = 5 ∨ (k = 1 ∧ (j = 0))) M0 M19_363 := by rw [eM19_363]; exact (F322).wr (mw_148 _)
                intro x20_364 g365 g366
                have h364 := h363 x20_364 g365 g366
                obtain ⟨v367, h367⟩ := h364
                refine ⟨v367, ?_⟩
                obtain ⟨v368, h368⟩ := h367
                refine ⟨v368, ?_⟩
                intro x23_369 g370 g371
                have h369 := h368 x23_369 g370 g371
                intro x24_372 g373 g374
                have h372 := h369 x24_372 g373 g374
                intro x25_375 g376 g377
                have h375 := h372 x25_375 g376 g377
                exact ih _ _ _ _ F363 h375
            · intro g378
              have h379 := h300 g378
              unfold qX12_sheet_J91 at h379 ⊢
              unfold qX12_sheet_J110 at h379 ⊢
              intro x12_380 g381 g382
              have h380 := h379 x12_380 g381 g382
              obtain ⟨v383, h383⟩ := h380
              refine ⟨v383, ?_⟩
              refine fmX12_isEnded h383 ?_
              intro x14_385 M14_386 f384 h384
              have F384 : Ks (fun k j => k = 5 ∨ (k = 1 ∧ (j = 0))) M0 M14_386 := (hF).tr (f384.mono (fun _ _ h => False.elim h))
              intro g387 g388
              have h389 := h384 g387 g388
              obtain ⟨h390, h391⟩ := h389
              refine ⟨?_, ?_⟩
              · intro g392
                have h393 := h390 g392
                unfold qX12_sheet_J148 at h393 ⊢
                obtain ⟨v394, h394⟩ := h393
                refine ⟨v394, ?_⟩
                obtain ⟨v395, h395⟩ := h394
                refine ⟨v395, ?_⟩
                obtain ⟨v396, h396⟩ := h395
                refine ⟨v396, ?_⟩
                intro M19_397 eM19_397
                have h397 := h396 M19_397 eM19_397
                have F397 : Ks (fun k j => k = 5 ∨ (k = 1 ∧ (j = 0))) M0 M19_397 := by rw [eM19_397]; exact (F384).wr (mw_148 _)
                intro x20_398 g399 g400
                have h398 := h397 x20_398 g399 g400
                obtain ⟨v401, h401⟩ := h398
                refine ⟨v401, ?_⟩
                obtain ⟨v402, h402⟩ := h401
                refine ⟨v402, ?_⟩
                intro x23_403 g404 g405
                have h403 := h402 x23_403 g404 g405
                intro x24_406 g407 g408
                have h406 := h403 x24_406 g407 g408
                intro x25_409 g410 g411
                have h409 := h406 x25_409 g410 g411
                exact ih _ _ _ _ F397 h409
              · intro g412
                have h413 := h391 g412
                intro x26_414 g415 g416
                have h414 := h413 x26_414 g415 g416
                obtain ⟨v417, h417⟩ := h414
                refine ⟨v417, ?_⟩
                obtain ⟨v418, h418⟩ := h417
                refine ⟨v418, ?_⟩
                intro x29_419 g420 g421
                have h419 := h418 x29_419 g420 g421
                unfold qX12_sheet_J148 at h419 ⊢
                obtain ⟨v422, h422⟩ := h419
                refine ⟨v422, ?_⟩
                obtain ⟨v423, h423⟩ := h422
                refine ⟨v423, ?_⟩
                obtain ⟨v424, h424⟩ := h423
                refine ⟨v424, ?_⟩
                intro M19_425 eM19_425
                have h425 := h424 M19_425 eM19_425
                have F425 : Ks (fun k j => k = 5 ∨ (k = 1 ∧ (j = 0))) M0 M19_425 := by rw [eM19_425]; exact (F384).wr (mw_148 _)
                intro x20_426 g427 g428
                have h426 := h425 x20_426 g427 g428
                obtain ⟨v429, h429⟩ := h426
                refine ⟨v429, ?_⟩
                obtain ⟨v430, h430⟩ := h429
                refine ⟨v430, ?_⟩
                intro x23_431 g432 g433
                have h431 := h430 x23_431 g432 g433
                intro x24_434 g435 g436
                have h434 := h431 x24_434 g435 g436
                intro x25_437 g438 g439
                have h437 := h434 x25_437 g438 g439
                exact ih _ _ _ _ F425 h437
      · intro g440
        have h441 := h12 g440
        intro x38_442 g443 g444
        have h442 := h441 x38_442 g443 g444
        unfold qX12_sheet_J78 at h442 ⊢
        obtain ⟨h445, h446⟩ := h442
        refine ⟨?_, ?_⟩
        · intro g447
          have h448 := h445 g447
          unfold qX12_sheet_J91 at h448 ⊢
          unfold qX12_sheet_J110 at h448 ⊢
          intro x12_449 g450 g451
          have h449 := h448 x12_449 g450 g451
          obtain ⟨v452, h452⟩ := h449
          refine ⟨v452, ?_⟩
          refine fmX12_isEnded h452 ?_
          intro x14_454 M14_455 f453 h453
          have F453 : Ks (fun k j => k = 5 ∨ (k = 1 ∧ (j = 0))) M0 M14_455 := (hF).tr (f453.mono (fun _ _ h => False.elim h))
          intro g456 g457
          have h458 := h453 g456 g457
          obtain ⟨h459, h460⟩ := h458
          refine ⟨?_, ?_⟩
          · intro g461
            have h462 := h459 g461
            unfold qX12_sheet_J148 at h462 ⊢
            obtain ⟨v463, h463⟩ := h462
            refine ⟨v463, ?_⟩
            obtain ⟨v464, h464⟩ := h463
            refine ⟨v464, ?_⟩
            obtain ⟨v465, h465⟩ := h464
            refine ⟨v465, ?_⟩
            intro M19_466 eM19_466
            have h466 := h465 M19_466 eM19_466
            have F466 : Ks (fun k j => k = 5 ∨ (k = 1 ∧ (j = 0))) M0 M19_466 := by rw [eM19_466]; exact (F453).wr (mw_148 _)
            intro x20_467 g468 g469
            have h467 := h466 x20_467 g468 g469
            obtain ⟨v470, h470⟩ := h467
            refine ⟨v470, ?_⟩
            obtain ⟨v471, h471⟩ := h470
            refine ⟨v471, ?_⟩
            intro x23_472 g473 g474
            have h472 := h471 x23_472 g473 g474
            intro x24_475 g476 g477
            have h475 := h472 x24_475 g476 g477
            intro x25_478 g479 g480
            have h478 := h475 x25_478 g479 g480
            exact ih _ _ _ _ F466 h478
          · intro g481
            have h482 := h460 g481
            intro x26_483 g484 g485
            have h483 := h482 x26_483 g484 g485
            obtain ⟨v486, h486⟩ := h483
            refine ⟨v486, ?_⟩
            obtain ⟨v487, h487⟩ := h486
            refine ⟨v487, ?_⟩
            intro x29_488 g489 g490
            have h488 := h487 x29_488 g489 g490
            unfold qX12_sheet_J148 at h488 ⊢
            obtain ⟨v491, h491⟩ := h488
            refine ⟨v491, ?_⟩
            obtain ⟨v492, h492⟩ := h491
            refine ⟨v492, ?_⟩
            obtain ⟨v493, h493⟩ := h492
            refine ⟨v493, ?_⟩
            intro M19_494 eM19_494
            have h494 := h493 M19_494 eM19_494
            have F494 : Ks (fun k j => k = 5 ∨ (k = 1 ∧ (j = 0))) M0 M19_494 := by rw [eM19_494]; exact (F453).wr (mw_148 _)
            intro x20_495 g496 g497
            have h495 := h494 x20_495 g496 g497
            obtain ⟨v498, h498⟩ := h495
            refine ⟨v498, ?_⟩
            obtain ⟨v499, h499⟩ := h498
            refine ⟨v499, ?_⟩
            intro x23_500 g501 g502
            have h500 := h499 x23_500 g501 g502
            intro x24_503 g504 g505
            have h503 := h500 x24_503 g504 g505
            intro x25_506 g507 g508
            have h506 := h503 x25_506 g507 g508
            exact ih _ _ _ _ F494 h506
        · intro g509
          have h510 := h446 g509
          obtain ⟨v511, h511⟩ := h510
          refine ⟨v511, ?_⟩
          obtain ⟨h512, h513⟩ := h511
          refine ⟨?_, ?_⟩
          · intro g514
            have h515 := h512 g514
            refine fmX12_gate h515 ?_
            intro x32_517 M32_518 f516 h516
            have F516 : Ks (fun k j => k = 5 ∨ (k = 1 ∧ (j = 0))) M0 M32_518 := (hF).tr (f516.mono (fun _ _ h => False.elim h))
            intro g519
            have h520 := h516 g519
            intro x33_521 g522 g523
            have h521 := h520 x33_521 g522 g523
            obtain ⟨v524, h524⟩ := h521
            refine ⟨v524, ?_⟩
            intro x35_525 g526 g527
            have h525 := h524 x35_525 g526 g527
            intro x36_528 g529 g530
            have h528 := h525 x36_528 g529 g530
            unfold qX12_sheet_J110 at h528 ⊢
            intro x12_531 g532 g533
            have h531 := h528 x12_531 g532 g533
            obtain ⟨v534, h534⟩ := h531
            refine ⟨v534, ?_⟩
            refine fmX12_isEnded h534 ?_
            intro x14_536 M14_537 f535 h535
            have F535 : Ks (fun k j => k = 5 ∨ (k = 1 ∧ (j = 0))) M0 M14_537 := (F516).tr (f535.mono (fun _ _ h => False.elim h))
            intro g538 g539
            have h540 := h535 g538 g539
            obtain ⟨h541, h542⟩ := h540
            refine ⟨?_, ?_⟩
            · intro g543
              have h544 := h541 g543
              unfold qX12_sheet_J148 at h544 ⊢
              obtain ⟨v545, h545⟩ := h544
              refine ⟨v545, ?_⟩
              obtain ⟨v546, h546⟩ := h545
              refine ⟨v546, ?_⟩
              obtain ⟨v547, h547⟩ := h546
              refine ⟨v547, ?_⟩
              intro M19_548 eM19_548
              have h548 := h547 M19_548 eM19_548
              have F548 : Ks (fun k j => k = 5 ∨ (k = 1 ∧ (j = 0))) M0 M19_548 := by rw [eM19_548]; exact (F535).wr (mw_148 _)
              intro x20_549 g550 g551
              have h549 := h548 x20_549 g550 g551
              obtain ⟨v552, h552⟩ := h549
              refine ⟨v552, ?_⟩
              obtain ⟨v553, h553⟩ := h552
              refine ⟨v553, ?_⟩
              intro x23_554 g555 g556
              have h554 := h553 x23_554 g555 g556
              intro x24_557 g558 g559
              have h557 := h554 x24_557 g558 g559
              intro x25_560 g561 g562
              have h560 := h557 x25_560 g561 g562
              exact ih _ _ _ _ F548 h560
            · intro g563
              have h564 := h542 g563
              intro x26_565 g566 g567
              have h565 := h564 x26_565 g566 g567
              obtain ⟨v568, h568⟩ := h565
              refine ⟨v568, ?_⟩
              obtain ⟨v569, h569⟩ := h568
              refine ⟨v569, ?_⟩
              intro x29_570 g571 g572
              have h570 := h569 x29_570 g571 g572
              unfold qX12_sheet_J148 at h570 ⊢
              obtain ⟨v573, h573⟩ := h570
              refine ⟨v573, ?_⟩
              obtain ⟨v574, h574⟩ := h573
              refine ⟨v574, ?_⟩
              obtain ⟨v575, h575⟩ := h574
              refine ⟨v575, ?_⟩
              intro M19_576 eM19_576
              have h576 := h575 M19_576 eM19_576
              have F576 : Ks (fun k j => k = 5 ∨ (k = 1 ∧ (j = 0))) M0 M19_576 := by rw [eM19_576]; exact (F535).wr (mw_148 _)
              intro x20_577 g578 g579
              have h577 := h576 x20_577 g578 g579
              obtain ⟨v580, h580⟩ := h577
              refine ⟨v580, ?_⟩
              obtain ⟨v581, h581⟩ := h580
              refine ⟨v581, ?_⟩
              intro x23_582 g583 g584
              have h582 := h581 x23_582 g583 g584
              intro x24_585 g586 g587
              have h585 := h582 x24_585 g586 g587
              intro x25_588 g589 g590
              have h588 := h585 x25_588 g589 g590
              exact ih _ _ _ _ F576 h588
          · intro g591
            have h592 := h513 g591
            unfold qX12_sheet_J91 at h592 ⊢
            unfold qX12_sheet_J110 at h592 ⊢
            intro x12_593 g594 g595
            have h593 := h592 x12_593 g594 g595
            obtain ⟨v596, h596⟩ := h593
            refine ⟨v596, ?_⟩
            refine fmX12_isEnded h596 ?_
            intro x14_598 M14_599 f597 h597
            have F597 : Ks (fun k j => k = 5 ∨ (k = 1 ∧ (j = 0))) M0 M14_599 := (hF).tr (f597.mono (fun _ _ h => False.elim h))
            intro g600 g601
            have h602 := h597 g600 g601
            obtain ⟨h603, h604⟩ := h602
            refine ⟨?_, ?_⟩
            · intro g605
              have h606 := h603 g605
              unfold qX12_sheet_J148 at h606 ⊢
              obtain ⟨v607, h607⟩ := h606
              refine ⟨v607, ?_⟩
              obtain ⟨v608, h608⟩ := h607
              refine ⟨v608, ?_⟩
              obtain ⟨v609, h609⟩ := h608
              refine ⟨v609, ?_⟩
              intro M19_610 eM19_610
              have h610 := h609 M19_610 eM19_610
              have F610 : Ks (fun k j => k = 5 ∨ (k = 1 ∧ (j = 0))) M0 M19_610 := by rw [eM19_610]; exact (F597).wr (mw_148 _)
              intro x20_611 g612 g613
              have h611 := h610 x20_611 g612 g613
              obtain ⟨v614, h614⟩ := h611
              refine ⟨v614, ?_⟩
              obtain ⟨v615, h615⟩ := h614
              refine ⟨v615, ?_⟩
              intro x23_616 g617 g618
              have h616 := h615 x23_616 g617 g618
              intro x24_619 g620 g621
              have h619 := h616 x24_619 g620 g621
              intro x25_622 g623 g624
              have h622 := h619 x25_622 g623 g624
              exact ih _ _ _ _ F610 h622
            · intro g625
              have h626 := h604 g625
              intro x26_627 g628 g629
              have h627 := h626 x26_627 g628 g629
              obtain ⟨v630, h630⟩ := h627
              refine ⟨v630, ?_⟩
              obtain ⟨v631, h631⟩ := h630
              refine ⟨v631, ?_⟩
              intro x29_632 g633 g634
              have h632 := h631 x29_632 g633 g634
              unfold qX12_sheet_J148 at h632 ⊢
              obtain ⟨v635, h635⟩ := h632
              refine ⟨v635, ?_⟩
              obtain ⟨v636, h636⟩ := h635
              refine ⟨v636, ?_⟩
              obtain ⟨v637, h637⟩ := h636
              refine ⟨v637, ?_⟩
              intro M19_638 eM19_638
              have h638 := h637 M19_638 eM19_638
              have F638 : Ks (fun k j => k = 5 ∨ (k = 1 ∧ (j = 0))) M0 M19_638 := by rw [eM19_638]; exact (F597).wr (mw_148 _)
              intro x20_639 g640 g641
              have h639 := h638 x20_639 g640 g641
              obtain ⟨v642, h642⟩ := h639
              refine ⟨v642, ?_⟩
              obtain ⟨v643, h643⟩ := h642
              refine ⟨v643, ?_⟩
              intro x23_644 g645 g646
              have h644 := h643 x23_644 g645 g646
              intro x24_647 g648 g649
              have h647 := h644 x24_647 g648 g649
              intro x25_650 g651 g652
              have h650 := h647 x25_650 g651 g652
              exact ih _ _ _ _ F638 h650
theorem fmX12_sheet {p1 : Int} {p2 : Int} {p3 : Int} {p4 : Int} {M : Mem} {Q Q' : Int → Mem → Prop} (h : qX12_sheet p1 p2 p3 p4 M Q) (hQ : ∀ (w0 : Int) (M' : Mem), Ks (fun k j => k = 5 ∨ (k = 1 ∧ (j = 0))) M M' → Q w0 M' → Q' w0 M') : qX12_sheet p1 p2 p3 p4 M Q' := by
  unfold qX12_sheet at h ⊢
  intro M1_1 eM1_1
  have h1 := h M1_1 eM1_1
  have F1 : Ks (fun k j => k = 5 ∨ (k = 1 ∧ (j = 0))) M M1_1 := by rw [eM1_1]; exact (Ks.rf).wr (mw_149)
  refine fmX12_in h1 ?_
  intro x2_3 M2_4 f2 h2
  have F2 : Ks (fun k j => k = 5 ∨ (k = 1 ∧ (j = 0))) M M2_4 := (F1).tr (f2.mono (fun _ _ h => False.elim h))
  intro g5 g6
  have h7 := h2 g5 g6
  obtain ⟨h8, h9⟩ := h7
  refine ⟨?_, ?_⟩
  · intro g10
    have h11 := h8 g10
    exact hQ _ _ F2 h11
  · intro g12
    have h13 := h9 g12
    obtain ⟨h14, h15⟩ := h13
    refine ⟨?_, ?_⟩
    · intro g16
      have h17 := h14 g16
      obtain ⟨h18, h19⟩ := h17
      refine ⟨?_, ?_⟩
      · intro g20
        have h21 := h18 g20
        unfold qX12_sheet_J37 at h21 ⊢
        obtain ⟨n22, h22⟩ := h21
        refine ⟨n22, ?_⟩
        refine fmX12_sheet_L46 hQ ?_ _ _ _ _ _ F2 h22
        · intro v5_24 M_25 F23 h23
          obtain ⟨h26, h27⟩ := h23
          refine ⟨?_, ?_⟩
          · intro g28
            have h29 := h26 g28
            obtain ⟨v30, h30⟩ := h29
            refine ⟨v30, ?_⟩
            exact hQ _ _ F23 h30
          · intro g31
            have h32 := h27 g31
            exact hQ _ _ F23 h32
      · intro g33
        have h34 := h19 g33
        obtain ⟨h35, h36⟩ := h34
        refine ⟨?_, ?_⟩
        · intro g37
          have h38 := h35 g37
          unfold qX12_sheet_J37 at h38 ⊢
          obtain ⟨n39, h39⟩ := h38
          refine ⟨n39, ?_⟩
          refine fmX12_sheet_L46 hQ ?_ _ _ _ _ _ F2 h39
          · intro v5_41 M_42 F40 h40
            obtain ⟨h43, h44⟩ := h40
            refine ⟨?_, ?_⟩
            · intro g45
              have h46 := h43 g45
              obtain ⟨v47, h47⟩ := h46
              refine ⟨v47, ?_⟩
              exact hQ _ _ F40 h47
            · intro g48
              have h49 := h44 g48
              exact hQ _ _ F40 h49
        · intro g50
          have h51 := h36 g50
          exact hQ _ _ F2 h51
    · intro g52
      have h53 := h15 g52
      exact hQ _ _ F2 h53
theorem fmX12_undo_L26  {Q Q' : Int → Mem → Prop} {M0 : Mem} (hQ : ∀ (w0 : Int) (M' : Mem), Ks (fun k j => k = 5 ∨ (k = 1 ∧ (j = 0 ∨ j = 28))) M0 M' → Q w0 M' → Q' w0 M') : ∀ (n : Nat) (v1 : Int) (M : Mem), Ks (fun k j => k = 5 ∨ (k = 1 ∧ (j = 0 ∨ j = 28))) M0 M → qX12_undo_L26 Q n v1 M → qX12_undo_L26 Q' n v1 M := by
  intro n
  induction n with
  | zero => intro v1 M _ h; exact h.elim
  | succ n ih =>
    intro v1 M hF h
    rw [qX12_undo_L26] at h
    rw [qX12_undo_L26]
    obtain ⟨v1, h1⟩ := h
    refine ⟨v1, ?_⟩
    obtain ⟨h2, h3⟩ := h1
    refine ⟨?_, ?_⟩
    · intro g4
      have h5 := h2 g4
      intro x9_6 g7 g8
      have h6 := h5 x9_6 g7 g8
      exact hQ _ _ hF h6
    · intro g9
      have h10 := h3 g9
      intro x10_11 g12 g13
      have h11 := h10 x10_11 g12 g13
      obtain ⟨v14, h14⟩ := h11
      refine ⟨v14, ?_⟩
      obtain ⟨v15, h15⟩ := h14
      refine ⟨v15, ?_⟩
      intro x13_16 g17 g18
      have h16 := h15 x13_16 g17 g18
      obtain ⟨v19, h19⟩ := h16
      refine ⟨v19, ?_⟩
      obtain ⟨v20, h20⟩ := h19
      refine ⟨v20, ?_⟩
      intro M16_21 eM16_21
      have h21 := h20 M16_21 eM16_21
      have F21 : Ks (fun k j => k = 5 ∨ (k = 1 ∧ (j = 0 ∨ j = 28))) M0 M16_21 := by rw [eM16_21]; exact (hF).wr (mw_150 _)
      exact ih _ _ F21 h21
theorem fmX12_undo  {M : Mem} {Q Q' : Int → Mem → Prop} (h : qX12_undo M Q) (hQ : ∀ (w0 : Int) (M' : Mem), Ks (fun k j => k = 5 ∨ (k = 1 ∧ (j = 0 ∨ j = 28))) M M' → Q w0 M' → Q' w0 M') : qX12_undo M Q' := by
  unfold qX12_undo at h ⊢
  intro M1_1 eM1_1
  have h1 := h M1_1 eM1_1
  have F1 : Ks (fun k j => k = 5 ∨ (k = 1 ∧ (j = 0 ∨ j = 28))) M M1_1 := by rw [eM1_1]; exact (Ks.rf).wr (mw_151)
  intro x2_2 g3 g4
  have h2 := h1 x2_2 g3 g4
  obtain ⟨h5, h6⟩ := h2
  refine ⟨?_, ?_⟩
  · intro g7
    have h8 := h5 g7
    intro x4_9 g10 g11
    have h9 := h8 x4_9 g10 g11
    obtain ⟨v12, h12⟩ := h9
    refine ⟨v12, ?_⟩
    intro M6_13 eM6_13
    have h13 := h12 M6_13 eM6_13
    have F13 : Ks (fun k j => k = 5 ∨ (k = 1 ∧ (j = 0 ∨ j = 28))) M M6_13 := by rw [eM6_13]; exact (F1).wr (mw_152)
    obtain ⟨n14, h14⟩ := h13
    refine ⟨n14, ?_⟩
    refine fmX12_undo_L26 hQ _ _ _ F13 h14
  · intro g15
    have h16 := h6 g15
    exact hQ _ _ F1 h16
theorem fmX12_adds_L21 {p1 : Int} {X49 X49' : Mem → Prop} {Q Q' : Int → Mem → Prop} {M0 : Mem} (hQ : ∀ (w0 : Int) (M' : Mem), Ks (fun k j => k = 15 ∨ (k = 1 ∧ (j = 28))) M0 M' → Q w0 M' → Q' w0 M') (hX49 : ∀ (M' : Mem), Ks (fun k j => k = 15 ∨ (k = 1 ∧ (j = 28))) M0 M' → X49 M' → X49' M') : ∀ (n : Nat) (v2 : Int) (M : Mem), Ks (fun k j => k = 15 ∨ (k = 1 ∧ (j = 28))) M0 M → qX12_adds_L21 p1 X49 Q n v2 M → qX12_adds_L21 p1 X49' Q' n v2 M := by
  intro n
  induction n with
  | zero => intro v2 M _ h; exact h.elim
  | succ n ih =>
    intro v2 M hF h
    rw [qX12_adds_L21] at h
    rw [qX12_adds_L21]
    obtain ⟨v1, h1⟩ := h
    refine ⟨v1, ?_⟩
    obtain ⟨h2, h3⟩ := h1
    refine ⟨?_, ?_⟩
    · intro g4
      have h5 := h2 g4
      exact hX49 _ hF h5
    · intro g6
      have h7 := h3 g6
      obtain ⟨v8, h8⟩ := h7
      refine ⟨v8, ?_⟩
      obtain ⟨v9, h9⟩ := h8
      refine ⟨v9, ?_⟩
      intro x10_10 g11 g12
      have h10 := h9 x10_10 g11 g12
      obtain ⟨v13, h13⟩ := h10
      refine ⟨v13, ?_⟩
      obtain ⟨v14, h14⟩ := h13
      refine ⟨v14, ?_⟩
      intro M13_15 eM13_15
      have h15 := h14 M13_15 eM13_15
      have F15 : Ks (fun k j => k = 15 ∨ (k = 1 ∧ (j = 28))) M0 M13_15 := by rw [eM13_15]; exact (hF).wr (mw_153 _)
      exact ih _ _ F15 h15
