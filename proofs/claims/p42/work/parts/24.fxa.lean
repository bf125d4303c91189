theorem fmX2_add {k0 : Nat} {p1 : Int} {p2 : Int} {M : Mem} {Q Q' : Mem → Prop} (h : qX2_add k0 p1 p2 M Q) (hQ : ∀ (M' : Mem), Ks (fun k j => (k = k0 ∧ (j = 4)) ∨ k = k0 + 1 ∨ k = k0 + 2) M M' → Q M' → Q' M') : qX2_add k0 p1 p2 M Q' := by
  unfold qX2_add at h ⊢
  intro x1_1 g2 g3
  have h1 := h x1_1 g2 g3
  obtain ⟨h4, h5⟩ := h1
  refine ⟨?_, ?_⟩
  · intro g6
    have h7 := h4 g6
    exact hQ _ Ks.rf h7
  · intro g8
    have h9 := h5 g8
    intro x3_10 g11 g12
    have h10 := h9 x3_10 g11 g12
    obtain ⟨v13, h13⟩ := h10
    refine ⟨v13, ?_⟩
    obtain ⟨v14, h14⟩ := h13
    refine ⟨v14, ?_⟩
    intro M6_15 eM6_15
    have h15 := h14 M6_15 eM6_15
    have F15 : Ks (fun k j => (k = k0 ∧ (j = 4)) ∨ k = k0 + 1 ∨ k = k0 + 2) M M6_15 := by rw [eM6_15]; exact (Ks.rf).wr (mw_0 _)
    intro x7_16 g17 g18
    have h16 := h15 x7_16 g17 g18
    obtain ⟨v19, h19⟩ := h16
    refine ⟨v19, ?_⟩
    obtain ⟨v20, h20⟩ := h19
    refine ⟨v20, ?_⟩
    intro M10_21 eM10_21
    have h21 := h20 M10_21 eM10_21
    have F21 : Ks (fun k j => (k = k0 ∧ (j = 4)) ∨ k = k0 + 1 ∨ k = k0 + 2) M M10_21 := by rw [eM10_21]; exact (F15).wr (mw_1 _)
    intro x11_22 g23 g24
    have h22 := h21 x11_22 g23 g24
    obtain ⟨v25, h25⟩ := h22
    refine ⟨v25, ?_⟩
    intro M13_26 eM13_26
    have h26 := h25 M13_26 eM13_26
    have F26 : Ks (fun k j => (k = k0 ∧ (j = 4)) ∨ k = k0 + 1 ∨ k = k0 + 2) M M13_26 := by rw [eM13_26]; exact (F21).wr (mw_2)
    exact hQ _ F26 h26
theorem fmX2_addLetter {k0 : Nat} {p1 : Int} {M : Mem} {Q Q' : Mem → Prop} (h : qX2_addLetter k0 p1 M Q) (hQ : ∀ (M' : Mem), Ks (fun k j => (k = k0 ∧ (j = 4 ∨ j = 5)) ∨ k = k0 + 1 ∨ k = k0 + 2) M M' → Q M' → Q' M') : qX2_addLetter k0 p1 M Q' := by
  unfold qX2_addLetter at h ⊢
  refine fmX2_add h ?_
  intro M1_2 f1 h1
  have F1 : Ks (fun k j => (k = k0 ∧ (j = 4 ∨ j = 5)) ∨ k = k0 + 1 ∨ k = k0 + 2) M M1_2 := (Ks.rf).tr (f1.mono (mo_0))
  intro x2_3 g4 g5
  have h3 := h1 x2_3 g4 g5
  intro x3_6 g7 g8
  have h6 := h3 x3_6 g7 g8
  intro x4_9 g10 g11
  have h9 := h6 x4_9 g10 g11
  intro M5_12 eM5_12
  have h12 := h9 M5_12 eM5_12
  have F12 : Ks (fun k j => (k = k0 ∧ (j = 4 ∨ j = 5)) ∨ k = k0 + 1 ∨ k = k0 + 2) M M5_12 := by rw [eM5_12]; exact (F1).wr (mw_3)
  exact hQ _ F12 h12
theorem fmX2_clear {k0 : Nat} {M : Mem} {Q Q' : Mem → Prop} (h : qX2_clear k0 M Q) (hQ : ∀ (M' : Mem), Ks (fun k j => (k = k0 ∧ (j = 4 ∨ j = 5))) M M' → Q M' → Q' M') : qX2_clear k0 M Q' := by
  unfold qX2_clear at h ⊢
  intro M1_1 eM1_1
  have h1 := h M1_1 eM1_1
  have F1 : Ks (fun k j => (k = k0 ∧ (j = 4 ∨ j = 5))) M M1_1 := by rw [eM1_1]; exact (Ks.rf).wr (mw_4)
  intro M2_2 eM2_2
  have h2 := h1 M2_2 eM2_2
  have F2 : Ks (fun k j => (k = k0 ∧ (j = 4 ∨ j = 5))) M M2_2 := by rw [eM2_2]; exact (F1).wr (mw_5)
  exact hQ _ F2 h2
theorem fmX2_becomePlain {k0 : Nat} {M : Mem} {Q Q' : Mem → Prop} (h : qX2_becomePlain k0 M Q) (hQ : ∀ (M' : Mem), Ks (fun k j => (k = k0 ∧ (j = 4 ∨ j = 5)) ∨ k = k0 + 1 ∨ k = k0 + 2) M M' → Q M' → Q' M') : qX2_becomePlain k0 M Q' := by
  unfold qX2_becomePlain at h ⊢
  refine fmX2_clear h ?_
  intro M1_2 f1 h1
  have F1 : Ks (fun k j => (k = k0 ∧ (j = 4 ∨ j = 5)) ∨ k = k0 + 1 ∨ k = k0 + 2) M M1_2 := (Ks.rf).tr (f1.mono (mo_1))
  refine fmX2_add h1 ?_
  intro M2_4 f3 h3
  have F3 : Ks (fun k j => (k = k0 ∧ (j = 4 ∨ j = 5)) ∨ k = k0 + 1 ∨ k = k0 + 2) M M2_4 := (F1).tr (f3.mono (mo_0))
  refine fmX2_addLetter h3 ?_
  intro M3_6 f5 h5
  have F5 : Ks (fun k j => (k = k0 ∧ (j = 4 ∨ j = 5)) ∨ k = k0 + 1 ∨ k = k0 + 2) M M3_6 := (F3).tr (f5.mono (fun _ _ h => h))
  refine fmX2_add h5 ?_
  intro M4_8 f7 h7
  have F7 : Ks (fun k j => (k = k0 ∧ (j = 4 ∨ j = 5)) ∨ k = k0 + 1 ∨ k = k0 + 2) M M4_8 := (F5).tr (f7.mono (mo_0))
  refine fmX2_add h7 ?_
  intro M5_10 f9 h9
  have F9 : Ks (fun k j => (k = k0 ∧ (j = 4 ∨ j = 5)) ∨ k = k0 + 1 ∨ k = k0 + 2) M M5_10 := (F7).tr (f9.mono (mo_0))
  refine fmX2_add h9 ?_
  intro M6_12 f11 h11
  have F11 : Ks (fun k j => (k = k0 ∧ (j = 4 ∨ j = 5)) ∨ k = k0 + 1 ∨ k = k0 + 2) M M6_12 := (F9).tr (f11.mono (mo_0))
  exact hQ _ F11 h11
theorem fmX9_addFour_L16 {p1 : Int} {Q Q' : Int → Mem → Prop} {M0 : Mem} (hQ : ∀ (w0 : Int) (M' : Mem), Ks (fun k j => k = 157 ∨ (k = 156 ∧ (j = 1))) M0 M' → Q w0 M' → Q' w0 M') : ∀ (n : Nat) (v2 : Int) (M : Mem), Ks (fun k j => k = 157 ∨ (k = 156 ∧ (j = 1))) M0 M → qX9_addFour_L16 p1 Q n v2 M → qX9_addFour_L16 p1 Q' n v2 M := by
  intro n
  induction n with
  | zero => intro v2 M _ h; exact h.elim
  | succ n ih =>
    intro v2 M hF h
    rw [qX9_addFour_L16] at h
    rw [qX9_addFour_L16]
    obtain ⟨v1, h1⟩ := h
    refine ⟨v1, ?_⟩
    obtain ⟨h2, h3⟩ := h1
    refine ⟨?_, ?_⟩
    · intro g4
      have h5 := h2 g4
      exact hQ _ _ hF h5
    · intro g6
      have h7 := h3 g6
      intro x6_8 g9 g10
      have h8 := h7 x6_8 g9 g10
      intro x7_11 g12 g13
      have h11 := h8 x7_11 g12 g13
      intro x8_14 g15 g16
      have h14 := h11 x8_14 g15 g16
      obtain ⟨v17, h17⟩ := h14
      refine ⟨v17, ?_⟩
      obtain ⟨v18, h18⟩ := h17
      refine ⟨v18, ?_⟩
      intro M11_19 eM11_19
      have h19 := h18 M11_19 eM11_19
      have F19 : Ks (fun k j => k = 157 ∨ (k = 156 ∧ (j = 1))) M0 M11_19 := by rw [eM11_19]; exact (hF).wr (mw_6 _)
      intro x12_20 g21 g22
      have h20 := h19 x12_20 g21 g22
      obtain ⟨v23, h23⟩ := h20
      refine ⟨v23, ?_⟩
      intro M14_24 eM14_24
      have h24 := h23 M14_24 eM14_24
      have F24 : Ks (fun k j => k = 157 ∨ (k = 156 ∧ (j = 1))) M0 M14_24 := by rw [eM14_24]; exact (F19).wr (mw_7)
      exact ih _ _ F24 h24
theorem fmX9_addFour {p1 : Int} {M : Mem} {Q Q' : Int → Mem → Prop} (h : qX9_addFour p1 M Q) (hQ : ∀ (w0 : Int) (M' : Mem), Ks (fun k j => k = 157 ∨ (k = 156 ∧ (j = 1))) M M' → Q w0 M' → Q' w0 M') : qX9_addFour p1 M Q' := by
  unfold qX9_addFour at h ⊢
  intro x1_1 g2 g3
  have h1 := h x1_1 g2 g3
  obtain ⟨v4, h4⟩ := h1
  refine ⟨v4, ?_⟩
  obtain ⟨h5, h6⟩ := h4
  refine ⟨?_, ?_⟩
  · intro g7
    have h8 := h5 g7
    obtain ⟨n9, h9⟩ := h8
    refine ⟨n9, ?_⟩
    refine fmX9_addFour_L16 hQ _ _ _ Ks.rf h9
  · intro g10
    have h11 := h6 g10
    exact hQ _ _ Ks.rf h11
theorem fmX11_sign {p1 : Int} {M : Mem} {Q Q' : Int → Mem → Prop} (h : qX11_sign p1 M Q) (hQ : ∀ (w0 : Int) (M' : Mem), Ks (fun k j => k = 157 ∨ (k = 156 ∧ (j = 1))) M M' → Q w0 M' → Q' w0 M') : qX11_sign p1 M Q' := by
  unfold qX11_sign at h ⊢
  refine fmX9_addFour h ?_
  intro x1_2 M1_3 f1 h1
  have F1 : Ks (fun k j => k = 157 ∨ (k = 156 ∧ (j = 1))) M M1_3 := (Ks.rf).tr (f1.mono (fun _ _ h => h))
  intro g4 g5
  have h6 := h1 g4 g5
  obtain ⟨h7, h8⟩ := h6
  refine ⟨?_, ?_⟩
  · intro g9
    have h10 := h7 g9
    exact hQ _ _ F1 h10
  · intro g11
    have h12 := h8 g11
    intro x3_13 g14 g15
    have h13 := h12 x3_13 g14 g15
    exact hQ _ _ F1 h13
theorem fmX9_cutTo {p1 : Int} {M : Mem} {Q Q' : Int → Mem → Prop} (h : qX9_cutTo p1 M Q) (hQ : ∀ (w0 : Int) (M' : Mem), Ks (fun k j => (k = 156 ∧ (j = 1))) M M' → Q w0 M' → Q' w0 M') : qX9_cutTo p1 M Q' := by
  unfold qX9_cutTo at h ⊢
  obtain ⟨h1, h2⟩ := h
  refine ⟨?_, ?_⟩
  · intro g3
    have h4 := h1 g3
    exact hQ _ _ Ks.rf h4
  · intro g5
    have h6 := h2 g5
    intro x2_7 g8 g9
    have h7 := h6 x2_7 g8 g9
    obtain ⟨h10, h11⟩ := h7
    refine ⟨?_, ?_⟩
    · intro g12
      have h13 := h10 g12
      intro M4_14 eM4_14
      have h14 := h13 M4_14 eM4_14
      have F14 : Ks (fun k j => (k = 156 ∧ (j = 1))) M M4_14 := by rw [eM4_14]; exact (Ks.rf).wr (mw_8)
      exact hQ _ _ F14 h14
    · intro g15
      have h16 := h11 g15
      exact hQ _ _ Ks.rf h16
theorem fmX11_end {p1 : Int} {M : Mem} {Q Q' : Int → Mem → Prop} (h : qX11_end p1 M Q) (hQ : ∀ (w0 : Int) (M' : Mem), Ks (fun k j => (k = 156 ∧ (j = 1))) M M' → Q w0 M' → Q' w0 M') : qX11_end p1 M Q' := by
  unfold qX11_end at h ⊢
  refine fmX9_cutTo h ?_
  intro x1_2 M1_3 f1 h1
  have F1 : Ks (fun k j => (k = 156 ∧ (j = 1))) M M1_3 := (Ks.rf).tr (f1.mono (fun _ _ h => h))
  intro g4 g5
  have h6 := h1 g4 g5
  obtain ⟨v7, h7⟩ := h6
  refine ⟨v7, ?_⟩
  exact hQ _ _ F1 h7
theorem fmX9_signAt {p1 : Int} {M : Mem} {Q Q' : Int → Mem → Prop} (h : qX9_signAt p1 M Q) (hQ : ∀ (w0 : Int) (M' : Mem), Ks (fun _ _ => False) M M' → Q w0 M' → Q' w0 M') : qX9_signAt p1 M Q' := by
  unfold qX9_signAt at h ⊢
  obtain ⟨h1, h2⟩ := h
  refine ⟨?_, ?_⟩
  · intro g3
    have h4 := h1 g3
    exact hQ _ _ Ks.rf h4
  · intro g5
    have h6 := h2 g5
    intro x2_7 g8 g9
    have h7 := h6 x2_7 g8 g9
    obtain ⟨h10, h11⟩ := h7
    refine ⟨?_, ?_⟩
    · intro g12
      have h13 := h10 g12
      exact hQ _ _ Ks.rf h13
    · intro g14
      have h15 := h11 g14
      obtain ⟨v16, h16⟩ := h15
      refine ⟨v16, ?_⟩
      obtain ⟨v17, h17⟩ := h16
      refine ⟨v17, ?_⟩
      intro x6_18 g19 g20
      have h18 := h17 x6_18 g19 g20
      exact hQ _ _ Ks.rf h18
theorem fmX11_avenueFault_L2  {X48 X48' : Mem → Prop} {Q Q' : Int → Mem → Prop} {M0 : Mem} (hQ : ∀ (w0 : Int) (M' : Mem), Ks (fun _ _ => False) M0 M' → Q w0 M' → Q' w0 M') (hX48 : ∀ (M' : Mem), Ks (fun _ _ => False) M0 M' → X48 M' → X48' M') : ∀ (n : Nat) (v1 : Int) (M : Mem), Ks (fun _ _ => False) M0 M → qX11_avenueFault_L2 X48 Q n v1 M → qX11_avenueFault_L2 X48' Q' n v1 M := by
  intro n
  induction n with
  | zero => intro v1 M _ h; exact h.elim
  | succ n ih =>
    intro v1 M hF h
    rw [qX11_avenueFault_L2] at h
    rw [qX11_avenueFault_L2]
    intro x1_1 g2 g3
    have h1 := h x1_1 g2 g3
    obtain ⟨v4, h4⟩ := h1
    refine ⟨v4, ?_⟩
    obtain ⟨h5, h6⟩ := h4
    refine ⟨?_, ?_⟩
    · intro g7
      have h8 := h5 g7
      exact hX48 _ hF h8
    · intro g9
      have h10 := h6 g9
      refine fmX9_signAt h10 ?_
      intro x4_12 M4_13 f11 h11
      have F11 : Ks (fun _ _ => False) M0 M4_13 := (hF).tr (f11.mono (fun _ _ h => False.elim h))
      intro g14
      have h15 := h11 g14
      obtain ⟨h16, h17⟩ := h15
      refine ⟨?_, ?_⟩
      · intro g18
        have h19 := h16 g18
        exact hQ _ _ F11 h19
      · intro g20
        have h21 := h17 g20
        obtain ⟨h22, h23⟩ := h21
        refine ⟨?_, ?_⟩
        · intro g24
          have h25 := h22 g24
          exact ih _ _ F11 h25
        · intro g26
          have h27 := h23 g26
          obtain ⟨h28, h29⟩ := h27
          refine ⟨?_, ?_⟩
          · intro g30
            have h31 := h28 g30
            exact ih _ _ F11 h31
          · intro g32
            have h33 := h29 g32
            exact hQ _ _ F11 h33
theorem fmX11_avenueFault  {M : Mem} {Q Q' : Int → Mem → Prop} (h : qX11_avenueFault M Q) (hQ : ∀ (w0 : Int) (M' : Mem), Ks (fun _ _ => False) M M' → Q w0 M' → Q' w0 M') : qX11_avenueFault M Q' := by
  unfold qX11_avenueFault at h ⊢
  obtain ⟨n1, h1⟩ := h
  refine ⟨n1, ?_⟩
  refine fmX11_avenueFault_L2 hQ ?_ _ _ _ Ks.rf h1
  · intro M_3 F2 h2
    intro x9_4 g5 g6
    have h4 := h2 x9_4 g5 g6
    obtain ⟨h7, h8⟩ := h4
    refine ⟨?_, ?_⟩
    · intro g9
      have h10 := h7 g9
      exact hQ _ _ F2 h10
    · intro g11
      have h12 := h8 g11
      intro x11_13 g14 g15
      have h13 := h12 x11_13 g14 g15
      exact hQ _ _ F2 h13
theorem fmX11_forgetKept_L2  {Q Q' : Mem → Prop} {M0 : Mem} (hQ : ∀ (M' : Mem), Ks (fun k j => k = 166) M0 M' → Q M' → Q' M') : ∀ (n : Nat) (v1 : Int) (M : Mem), Ks (fun k j => k = 166) M0 M → qX11_forgetKept_L2 Q n v1 M → qX11_forgetKept_L2 Q' n v1 M := by
  intro n
  induction n with
  | zero => intro v1 M _ h; exact h.elim
  | succ n ih =>
    intro v1 M hF h
    rw [qX11_forgetKept_L2] at h
    rw [qX11_forgetKept_L2]
    obtain ⟨v1, h1⟩ := h
    refine ⟨v1, ?_⟩
    obtain ⟨h2, h3⟩ := h1
    refine ⟨?_, ?_⟩
    · intro g4
      have h5 := h2 g4
      exact hQ _ hF h5
    · intro g6
      have h7 := h3 g6
      obtain ⟨v8, h8⟩ := h7
      refine ⟨v8, ?_⟩
      obtain ⟨v9, h9⟩ := h8
      refine ⟨v9, ?_⟩
      intro M5_10 eM5_10
      have h10 := h9 M5_10 eM5_10
      have F10 : Ks (fun k j => k = 166) M0 M5_10 := by rw [eM5_10]; exact (hF).wr (mw_9)
      exact ih _ _ F10 h10
theorem fmX11_forgetKept  {M : Mem} {Q Q' : Mem → Prop} (h : qX11_forgetKept M Q) (hQ : ∀ (M' : Mem), Ks (fun k j => k = 166) M M' → Q M' → Q' M') : qX11_forgetKept M Q' := by
  unfold qX11_forgetKept at h ⊢
  obtain ⟨n1, h1⟩ := h
  refine ⟨n1, ?_⟩
  refine fmX11_forgetKept_L2 hQ _ _ _ Ks.rf h1
theorem fmX1_clear  {M : Mem} {Q Q' : Mem → Prop} (h : qX1_clear M Q) (hQ : ∀ (M' : Mem), Ks (fun k j => (k = 163 ∧ (j = 2))) M M' → Q M' → Q' M') : qX1_clear M Q' := by
  unfold qX1_clear at h ⊢
  intro M1_1 eM1_1
  have h1 := h M1_1 eM1_1
  have F1 : Ks (fun k j => (k = 163 ∧ (j = 2))) M M1_1 := by rw [eM1_1]; exact (Ks.rf).wr (mw_10)
  exact hQ _ F1 h1
theorem fmX6_clear {k0 : Nat} {M : Mem} {Q Q' : Mem → Prop} (h : qX6_clear k0 M Q) (hQ : ∀ (M' : Mem), Ks (fun k j => (k = k0 ∧ (j = 6 ∨ j = 7 ∨ j = 8 ∨ j = 9 ∨ j = 10))) M M' → Q M' → Q' M') : qX6_clear k0 M Q' := by
  unfold qX6_clear at h ⊢
  intro M1_1 eM1_1
  have h1 := h M1_1 eM1_1
  have F1 : Ks (fun k j => (k = k0 ∧ (j = 6 ∨ j = 7 ∨ j = 8 ∨ j = 9 ∨ j = 10))) M M1_1 := by rw [eM1_1]; exact (Ks.rf).wr (mw_11)
  intro M2_2 eM2_2
  have h2 := h1 M2_2 eM2_2
  have F2 : Ks (fun k j => (k = k0 ∧ (j = 6 ∨ j = 7 ∨ j = 8 ∨ j = 9 ∨ j = 10))) M M2_2 := by rw [eM2_2]; exact (F1).wr (mw_12)
  intro M3_3 eM3_3
  have h3 := h2 M3_3 eM3_3
  have F3 : Ks (fun k j => (k = k0 ∧ (j = 6 ∨ j = 7 ∨ j = 8 ∨ j = 9 ∨ j = 10))) M M3_3 := by rw [eM3_3]; exact (F2).wr (mw_13)
  intro M4_4 eM4_4
  have h4 := h3 M4_4 eM4_4
  have F4 : Ks (fun k j => (k = k0 ∧ (j = 6 ∨ j = 7 ∨ j = 8 ∨ j = 9 ∨ j = 10))) M M4_4 := by rw [eM4_4]; exact (F3).wr (mw_14)
  intro M5_5 eM5_5
  have h5 := h4 M5_5 eM5_5
  have F5 : Ks (fun k j => (k = k0 ∧ (j = 6 ∨ j = 7 ∨ j = 8 ∨ j = 9 ∨ j = 10))) M M5_5 := by rw [eM5_5]; exact (F4).wr (mw_15)
  exact hQ _ F5 h5
theorem fmX8_become_L15  {Q Q' : Mem → Prop} {M0 : Mem} (hQ : ∀ (M' : Mem), Ks (fun k j => (k = 158 ∧ (j = 1 ∨ j = 2))) M0 M' → Q M' → Q' M') : ∀ (n : Nat) (v2 : Int) (M : Mem), Ks (fun k j => (k = 158 ∧ (j = 1 ∨ j = 2))) M0 M → qX8_become_L15 Q n v2 M → qX8_become_L15 Q' n v2 M := by
  intro n
  induction n with
  | zero => intro v2 M _ h; exact h.elim
  | succ n ih =>
    intro v2 M hF h
    rw [qX8_become_L15] at h
    rw [qX8_become_L15]
    intro x4_1 g2 g3
    have h1 := h x4_1 g2 g3
    obtain ⟨v4, h4⟩ := h1
    refine ⟨v4, ?_⟩
    obtain ⟨h5, h6⟩ := h4
    refine ⟨?_, ?_⟩
    · intro g7
      have h8 := h5 g7
      exact hQ _ hF h8
    · intro g9
      have h10 := h6 g9
      intro x7_11 g12 g13
      have h11 := h10 x7_11 g12 g13
      refine fmX9_signAt h11 ?_
      intro x8_15 M8_16 f14 h14
      have F14 : Ks (fun k j => (k = 158 ∧ (j = 1 ∨ j = 2))) M0 M8_16 := (hF).tr (f14.mono (fun _ _ h => False.elim h))
      intro g17
      have h18 := h14 g17
      obtain ⟨h19, h20⟩ := h18
      refine ⟨?_, ?_⟩
      · intro g21
        have h22 := h19 g21
        unfold qX8_become_J45 at h22 ⊢
        intro x10_23 g24 g25
        have h23 := h22 x10_23 g24 g25
        intro M11_26 eM11_26
        have h26 := h23 M11_26 eM11_26
        have F26 : Ks (fun k j => (k = 158 ∧ (j = 1 ∨ j = 2))) M0 M11_26 := by rw [eM11_26]; exact (F14).wr (mw_16)
        exact ih _ _ F26 h26
      · intro g27
        have h28 := h20 g27
        intro x12_29 g30 g31
        have h29 := h28 x12_29 g30 g31
        unfold qX8_become_J45 at h29 ⊢
        intro x10_32 g33 g34
        have h32 := h29 x10_32 g33 g34
        intro M11_35 eM11_35
        have h35 := h32 M11_35 eM11_35
        have F35 : Ks (fun k j => (k = 158 ∧ (j = 1 ∨ j = 2))) M0 M11_35 := by rw [eM11_35]; exact (F14).wr (mw_16)
        exact ih _ _ F35 h35
theorem fmX8_become  {M : Mem} {Q Q' : Mem → Prop} (h : qX8_become M Q) (hQ : ∀ (M' : Mem), Ks (fun k j => (k = 158 ∧ (j = 1 ∨ j = 2))) M M' → Q M' → Q' M') : qX8_become M Q' := by
  unfold qX8_become at h ⊢
  intro x1_1 g2 g3
  have h1 := h x1_1 g2 g3
  intro M2_4 eM2_4
  have h4 := h1 M2_4 eM2_4
  have F4 : Ks (fun k j => (k = 158 ∧ (j = 1 ∨ j = 2))) M M2_4 := by rw [eM2_4]; exact (Ks.rf).wr (mw_17)
  intro M3_5 eM3_5
  have h5 := h4 M3_5 eM3_5
  have F5 : Ks (fun k j => (k = 158 ∧ (j = 1 ∨ j = 2))) M M3_5 := by rw [eM3_5]; exact (F4).wr (mw_16)
  obtain ⟨n6, h6⟩ := h5
  refine ⟨n6, ?_⟩
  refine fmX8_become_L15 hQ _ _ _ F5 h6
theorem fmX9_clear  {M : Mem} {Q Q' : Mem → Prop} (h : qX9_clear M Q) (hQ : ∀ (M' : Mem), Ks (fun k j => (k = 156 ∧ (j = 1))) M M' → Q M' → Q' M') : qX9_clear M Q' := by
  unfold qX9_clear at h ⊢
  intro M1_1 eM1_1
  have h1 := h M1_1 eM1_1
  have F1 : Ks (fun k j => (k = 156 ∧ (j = 1))) M M1_1 := by rw [eM1_1]; exact (Ks.rf).wr (mw_8)
  exact hQ _ F1 h1
theorem fmX11_avenue  {M : Mem} {Q Q' : Int → Mem → Prop} (h : qX11_avenue M Q) (hQ : ∀ (w0 : Int) (M' : Mem), Ks (fun k j => k = 166 ∨ (k = 1 ∧ (j = 6 ∨ j = 7 ∨ j = 8 ∨ j = 9 ∨ j = 10)) ∨ (k = 156 ∧ (j = 1)) ∨ (k = 158 ∧ (j = 1 ∨ j = 2)) ∨ (k = 163 ∧ (j = 2))) M M' → Q w0 M' → Q' w0 M') : qX11_avenue M Q' := by
  unfold qX11_avenue at h ⊢
  refine fmX11_avenueFault h ?_
  intro x1_2 M1_3 f1 h1
  have F1 : Ks (fun k j => k = 166 ∨ (k = 1 ∧ (j = 6 ∨ j = 7 ∨ j = 8 ∨ j = 9 ∨ j = 10)) ∨ (k = 156 ∧ (j = 1)) ∨ (k = 158 ∧ (j = 1 ∨ j = 2)) ∨ (k = 163 ∧ (j = 2))) M M1_3 := (Ks.rf).tr (f1.mono (fun _ _ h => False.elim h))
  intro g4
  have h5 := h1 g4
  intro x2_6 g7 g8
  have h6 := h5 x2_6 g7 g8
  obtain ⟨h9, h10⟩ := h6
  refine ⟨?_, ?_⟩
  · intro g11
    have h12 := h9 g11
    unfold qX11_avenue_J47 at h12 ⊢
    refine fmX9_clear h12 ?_
    intro M4_14 f13 h13
    have F13 : Ks (fun k j => k = 166 ∨ (k = 1 ∧ (j = 6 ∨ j = 7 ∨ j = 8 ∨ j = 9 ∨ j = 10)) ∨ (k = 156 ∧ (j = 1)) ∨ (k = 158 ∧ (j = 1 ∨ j = 2)) ∨ (k = 163 ∧ (j = 2))) M M4_14 := (F1).tr (f13.mono (mo_2))
    obtain ⟨v15, h15⟩ := h13
    refine ⟨v15, ?_⟩
    obtain ⟨h16, h17⟩ := h15
    refine ⟨?_, ?_⟩
    · intro g18
      have h19 := h16 g18
      obtain ⟨v20, h20⟩ := h19
      refine ⟨v20, ?_⟩
      exact hQ _ _ F13 h20
    · intro g21
      have h22 := h17 g21
      obtain ⟨v23, h23⟩ := h22
      refine ⟨v23, ?_⟩
      exact hQ _ _ F13 h23
  · intro g24
    have h25 := h10 g24
    refine fmX8_become h25 ?_
    intro M9_27 f26 h26
    have F26 : Ks (fun k j => k = 166 ∨ (k = 1 ∧ (j = 6 ∨ j = 7 ∨ j = 8 ∨ j = 9 ∨ j = 10)) ∨ (k = 156 ∧ (j = 1)) ∨ (k = 158 ∧ (j = 1 ∨ j = 2)) ∨ (k = 163 ∧ (j = 2))) M M9_27 := (F1).tr (f26.mono (mo_3))
    refine fmX6_clear h26 ?_
    intro M10_29 f28 h28
    have F28 : Ks (fun k j => k = 166 ∨ (k = 1 ∧ (j = 6 ∨ j = 7 ∨ j = 8 ∨ j = 9 ∨ j = 10)) ∨ (k = 156 ∧ (j = 1)) ∨ (k = 158 ∧ (j = 1 ∨ j = 2)) ∨ (k = 163 ∧ (j = 2))) M M10_29 := (F26).tr (f28.mono (mo_4))
    refine fmX1_clear h28 ?_
    intro M11_31 f30 h30
    have F30 : Ks (fun k j => k = 166 ∨ (k = 1 ∧ (j = 6 ∨ j = 7 ∨ j = 8 ∨ j = 9 ∨ j = 10)) ∨ (k = 156 ∧ (j = 1)) ∨ (k = 158 ∧ (j = 1 ∨ j = 2)) ∨ (k = 163 ∧ (j = 2))) M M11_31 := (F28).tr (f30.mono (mo_5))
    refine fmX11_forgetKept h30 ?_
    intro M12_33 f32 h32
    have F32 : Ks (fun k j => k = 166 ∨ (k = 1 ∧ (j = 6 ∨ j = 7 ∨ j = 8 ∨ j = 9 ∨ j = 10)) ∨ (k = 156 ∧ (j = 1)) ∨ (k = 158 ∧ (j = 1 ∨ j = 2)) ∨ (k = 163 ∧ (j = 2))) M M12_33 := (F30).tr (f32.mono (mo_6))
    unfold qX11_avenue_J47 at h32 ⊢
    refine fmX9_clear h32 ?_
    intro M4_35 f34 h34
    have F34 : Ks (fun k j => k = 166 ∨ (k = 1 ∧ (j = 6 ∨ j = 7 ∨ j = 8 ∨ j = 9 ∨ j = 10)) ∨ (k = 156 ∧ (j = 1)) ∨ (k = 158 ∧ (j = 1 ∨ j = 2)) ∨ (k = 163 ∧ (j = 2))) M M4_35 := (F32).tr (f34.mono (mo_2))
    obtain ⟨v36, h36⟩ := h34
    refine ⟨v36, ?_⟩
    obtain ⟨h37, h38⟩ := h36
    refine ⟨?_, ?_⟩
    · intro g39
      have h40 := h37 g39
      obtain ⟨v41, h41⟩ := h40
      refine ⟨v41, ?_⟩
      exact hQ _ _ F34 h41
    · intro g42
      have h43 := h38 g42
      obtain ⟨v44, h44⟩ := h43
      refine ⟨v44, ?_⟩
      exact hQ _ _ F34 h44
theorem fmX8_gate  {M : Mem} {Q Q' : Int → Mem → Prop} (h : qX8_gate M Q) (hQ : ∀ (w0 : Int) (M' : Mem), Ks (fun _ _ => False) M M' → Q w0 M' → Q' w0 M') : qX8_gate M Q' := by
  unfold qX8_gate at h ⊢
  intro x1_1 g2 g3
  have h1 := h x1_1 g2 g3
  obtain ⟨v4, h4⟩ := h1
  refine ⟨v4, ?_⟩
  exact hQ _ _ Ks.rf h4
theorem fmX9_back  {M : Mem} {Q Q' : Mem → Prop} (h : qX9_back M Q) (hQ : ∀ (M' : Mem), Ks (fun k j => (k = 156 ∧ (j = 2))) M M' → Q M' → Q' M') : qX9_back M Q' := by
  unfold qX9_back at h ⊢
  intro x1_1 g2 g3
  have h1 := h x1_1 g2 g3
  obtain ⟨h4, h5⟩ := h1
  refine ⟨?_, ?_⟩
  · intro g6
    have h7 := h4 g6
    exact hQ _ Ks.rf h7
  · intro g8
    have h9 := h5 g8
    intro x3_10 g11 g12
    have h10 := h9 x3_10 g11 g12
    obtain ⟨v13, h13⟩ := h10
    refine ⟨v13, ?_⟩
    intro M5_14 eM5_14
    have h14 := h13 M5_14 eM5_14
    have F14 : Ks (fun k j => (k = 156 ∧ (j = 2))) M M5_14 := by rw [eM5_14]; exact (Ks.rf).wr (mw_18)
    exact hQ _ F14 h14
theorem fmX9_look  {M : Mem} {Q Q' : Int → Mem → Prop} (h : qX9_look M Q) (hQ : ∀ (w0 : Int) (M' : Mem), Ks (fun _ _ => False) M M' → Q w0 M' → Q' w0 M') : qX9_look M Q' := by
  unfold qX9_look at h ⊢
  intro x1_1 g2 g3
  have h1 := h x1_1 g2 g3
  intro x2_4 g5 g6
  have h4 := h1 x2_4 g5 g6
  obtain ⟨h7, h8⟩ := h4
  refine ⟨?_, ?_⟩
  · intro g9
    have h10 := h7 g9
    exact hQ _ _ Ks.rf h10
  · intro g11
    have h12 := h8 g11
    intro x4_13 g14 g15
    have h13 := h12 x4_13 g14 g15
    obtain ⟨v16, h16⟩ := h13
    refine ⟨v16, ?_⟩
    obtain ⟨v17, h17⟩ := h16
    refine ⟨v17, ?_⟩
    intro x7_18 g19 g20
    have h18 := h17 x7_18 g19 g20
    exact hQ _ _ Ks.rf h18
theorem fmX9_pass  {M : Mem} {Q Q' : Mem → Prop} (h : qX9_pass M Q) (hQ : ∀ (M' : Mem), Ks (fun k j => (k = 156 ∧ (j = 2))) M M' → Q M' → Q' M') : qX9_pass M Q' := by
  unfold qX9_pass at h ⊢
  intro x1_1 g2 g3
  have h1 := h x1_1 g2 g3
  intro x2_4 g5 g6
  have h4 := h1 x2_4 g5 g6
  obtain ⟨h7, h8⟩ := h4
  refine ⟨?_, ?_⟩
  · intro g9
    have h10 := h7 g9
    exact hQ _ Ks.rf h10
  · intro g11
    have h12 := h8 g11
    intro x4_13 g14 g15
    have h13 := h12 x4_13 g14 g15
    obtain ⟨v16, h16⟩ := h13
    refine ⟨v16, ?_⟩
    intro M6_17 eM6_17
    have h17 := h16 M6_17 eM6_17
    have F17 : Ks (fun k j => (k = 156 ∧ (j = 2))) M M6_17 := by rw [eM6_17]; exact (Ks.rf).wr (mw_18)
    exact hQ _ F17 h17
theorem fmX9_digit  {M : Mem} {Q Q' : Int → Mem → Prop} (h : qX9_digit M Q) (hQ : ∀ (w0 : Int) (M' : Mem), Ks (fun k j => (k = 156 ∧ (j = 2))) M M' → Q w0 M' → Q' w0 M') : qX9_digit M Q' := by
  unfold qX9_digit at h ⊢
  refine fmX9_look h ?_
  intro x1_2 M1_3 f1 h1
  have F1 : Ks (fun k j => (k = 156 ∧ (j = 2))) M M1_3 := (Ks.rf).tr (f1.mono (fun _ _ h => False.elim h))
  intro g4
  have h5 := h1 g4
  obtain ⟨h6, h7⟩ := h5
  refine ⟨?_, ?_⟩
  · intro g8
    have h9 := h6 g8
    exact hQ _ _ F1 h9
  · intro g10
    have h11 := h7 g10
    obtain ⟨h12, h13⟩ := h11
    refine ⟨?_, ?_⟩
    · intro g14
      have h15 := h12 g14
      refine fmX9_pass h15 ?_
      intro M4_17 f16 h16
      have F16 : Ks (fun k j => (k = 156 ∧ (j = 2))) M M4_17 := (F1).tr (f16.mono (fun _ _ h => h))
      obtain ⟨v18, h18⟩ := h16
      refine ⟨v18, ?_⟩
      exact hQ _ _ F16 h18
    · intro g19
      have h20 := h13 g19
      exact hQ _ _ F1 h20
theorem fmX9_number_L10 {p1 : Int} {Q Q' : Int → Mem → Prop} {M0 : Mem} (hQ : ∀ (w0 : Int) (M' : Mem), Ks (fun k j => (k = 156 ∧ (j = 2))) M0 M' → Q w0 M' → Q' w0 M') : ∀ (n : Nat) (v2 v3 v4 : Int) (M : Mem), Ks (fun k j => (k = 156 ∧ (j = 2))) M0 M → qX9_number_L10 p1 Q n v2 v3 v4 M → qX9_number_L10 p1 Q' n v2 v3 v4 M := by
  intro n
  induction n with
  | zero => intro v2 v3 v4 M _ h; exact h.elim
  | succ n ih =>
    intro v2 v3 v4 M hF h
    rw [qX9_number_L10] at h
    rw [qX9_number_L10]
    obtain ⟨v1, h1⟩ := h
    refine ⟨v1, ?_⟩
    obtain ⟨h2, h3⟩ := h1
    refine ⟨?_, ?_⟩
    · intro g4
      have h5 := h2 g4
      obtain ⟨v6, h6⟩ := h5
      refine ⟨v6, ?_⟩
      exact hQ _ _ hF h6
    · intro g7
      have h8 := h3 g7
      obtain ⟨v9, h9⟩ := h8
      refine ⟨v9, ?_⟩
      obtain ⟨h10, h11⟩ := h9
      refine ⟨?_, ?_⟩
      · intro g12
        have h13 := h10 g12
        obtain ⟨v14, h14⟩ := h13
        refine ⟨v14, ?_⟩
        exact hQ _ _ hF h14
      · intro g15
        have h16 := h11 g15
        refine fmX9_digit h16 ?_
        intro x8_18 M8_19 f17 h17
        have F17 : Ks (fun k j => (k = 156 ∧ (j = 2))) M0 M8_19 := (hF).tr (f17.mono (fun _ _ h => h))
        intro g20
        have h21 := h17 g20
        obtain ⟨h22, h23⟩ := h21
        refine ⟨?_, ?_⟩
        · intro g24
          have h25 := h22 g24
          exact ih _ _ _ _ F17 h25
        · intro g26
          have h27 := h23 g26
          exact ih _ _ _ _ F17 h27
theorem fmX9_number {p1 : Int} {M : Mem} {Q Q' : Int → Mem → Prop} (h : qX9_number p1 M Q) (hQ : ∀ (w0 : Int) (M' : Mem), Ks (fun k j => (k = 156 ∧ (j = 2))) M M' → Q w0 M' → Q' w0 M') : qX9_number p1 M Q' := by
  unfold qX9_number at h ⊢
  refine fmX9_digit h ?_
  intro x1_2 M1_3 f1 h1
  have F1 : Ks (fun k j => (k = 156 ∧ (j = 2))) M M1_3 := (Ks.rf).tr (f1.mono (fun _ _ h => h))
  intro g4
  have h5 := h1 g4
  obtain ⟨n6, h6⟩ := h5
  refine ⟨n6, ?_⟩
  refine fmX9_number_L10 hQ _ _ _ _ _ F1 h6
theorem fmX11_readCell  {M : Mem} {Q Q' : Int → Mem → Prop} (h : qX11_readCell M Q) (hQ : ∀ (w0 : Int) (M' : Mem), Ks (fun k j => (k = 156 ∧ (j = 2))) M M' → Q w0 M' → Q' w0 M') : qX11_readCell M Q' := by
  unfold qX11_readCell at h ⊢
  refine fmX9_number h ?_
  intro x1_2 M1_3 f1 h1
  have F1 : Ks (fun k j => (k = 156 ∧ (j = 2))) M M1_3 := (Ks.rf).tr (f1.mono (fun _ _ h => h))
  intro g4
  have h5 := h1 g4
  refine fmX8_gate h5 ?_
  intro x2_7 M2_8 f6 h6
  have F6 : Ks (fun k j => (k = 156 ∧ (j = 2))) M M2_8 := (F1).tr (f6.mono (fun _ _ h => False.elim h))
  intro g9
  have h10 := h6 g9
  obtain ⟨h11, h12⟩ := h10
  refine ⟨?_, ?_⟩
  · intro g13
    have h14 := h11 g13
    exact hQ _ _ F6 h14
  · intro g15
    have h16 := h12 g15
    refine fmX9_back h16 ?_
    intro M4_18 f17 h17
    have F17 : Ks (fun k j => (k = 156 ∧ (j = 2))) M M4_18 := (F6).tr (f17.mono (fun _ _ h => h))
    exact hQ _ _ F17 h17
theorem fmX6_addHearse {k0 : Nat} {p1 : Int} {M : Mem} {Q Q' : Mem → Prop} (h : qX6_addHearse k0 p1 M Q) (hQ : ∀ (M' : Mem), Ks (fun k j => (k = k0 ∧ (j = 6)) ∨ k = k0 + 1 ∨ k = k0 + 2) M M' → Q M' → Q' M') : qX6_addHearse k0 p1 M Q' := by
  unfold qX6_addHearse at h ⊢
  intro x1_1 g2 g3
  have h1 := h x1_1 g2 g3
  obtain ⟨v4, h4⟩ := h1
  refine ⟨v4, ?_⟩
  obtain ⟨v5, h5⟩ := h4
  refine ⟨v5, ?_⟩
  intro M4_6 eM4_6
  have h6 := h5 M4_6 eM4_6
  have F6 : Ks (fun k j => (k = k0 ∧ (j = 6)) ∨ k = k0 + 1 ∨ k = k0 + 2) M M4_6 := by rw [eM4_6]; exact (Ks.rf).wr (mw_19 _)
  intro x5_7 g8 g9
  have h7 := h6 x5_7 g8 g9
  obtain ⟨v10, h10⟩ := h7
  refine ⟨v10, ?_⟩
  obtain ⟨v11, h11⟩ := h10
  refine ⟨v11, ?_⟩
  intro M8_12 eM8_12
  have h12 := h11 M8_12 eM8_12
  have F12 : Ks (fun k j => (k = k0 ∧ (j = 6)) ∨ k = k0 + 1 ∨ k = k0 + 2) M M8_12 := by rw [eM8_12]; exact (F6).wr (mw_20 _)
  intro x9_13 g14 g15
  have h13 := h12 x9_13 g14 g15
  obtain ⟨v16, h16⟩ := h13
  refine ⟨v16, ?_⟩
  intro M11_17 eM11_17
  have h17 := h16 M11_17 eM11_17
  have F17 : Ks (fun k j => (k = k0 ∧ (j = 6)) ∨ k = k0 + 1 ∨ k = k0 + 2) M M11_17 := by rw [eM11_17]; exact (F12).wr (mw_21)
  exact hQ _ F17 h17
theorem fmX6_hearseOn_L2 {k0 : Nat} {p1 : Int} {Q Q' : Int → Mem → Prop} {M0 : Mem} (hQ : ∀ (w0 : Int) (M' : Mem), Ks (fun _ _ => False) M0 M' → Q w0 M' → Q' w0 M') : ∀ (n : Nat) (v2 : Int) (M : Mem), Ks (fun _ _ => False) M0 M → qX6_hearseOn_L2 k0 p1 Q n v2 M → qX6_hearseOn_L2 k0 p1 Q' n v2 M := by
  intro n
  induction n with
  | zero => intro v2 M _ h; exact h.elim
  | succ n ih =>
    intro v2 M hF h
    rw [qX6_hearseOn_L2] at h
    rw [qX6_hearseOn_L2]
    intro x1_1 g2 g3
    have h1 := h x1_1 g2 g3
    obtain ⟨v4, h4⟩ := h1
    refine ⟨v4, ?_⟩
    obtain ⟨h5, h6⟩ := h4
    refine ⟨?_, ?_⟩
    · intro g7
      have h8 := h5 g7
      exact hQ _ _ hF h8
    · intro g9
      have h10 := h6 g9
      obtain ⟨v11, h11⟩ := h10
      refine ⟨v11, ?_⟩
      obtain ⟨v12, h12⟩ := h11
      refine ⟨v12, ?_⟩
      intro x6_13 g14 g15
      have h13 := h12 x6_13 g14 g15
      obtain ⟨h16, h17⟩ := h13
      refine ⟨?_, ?_⟩
      · intro g18
        have h19 := h16 g18
        exact ih _ _ hF h19
      · intro g20
        have h21 := h17 g20
        exact hQ _ _ hF h21
theorem fmX6_hearseOn {k0 : Nat} {p1 : Int} {M : Mem} {Q Q' : Int → Mem → Prop} (h : qX6_hearseOn k0 p1 M Q) (hQ : ∀ (w0 : Int) (M' : Mem), Ks (fun _ _ => False) M M' → Q w0 M' → Q' w0 M') : qX6_hearseOn k0 p1 M Q' := by
  unfold qX6_hearseOn at h ⊢
  obtain ⟨n1, h1⟩ := h
  refine ⟨n1, ?_⟩
  refine fmX6_hearseOn_L2 hQ _ _ _ Ks.rf h1
theorem fmX11_readHearse  {M : Mem} {Q Q' : Int → Mem → Prop} (h : qX11_readHearse M Q) (hQ : ∀ (w0 : Int) (M' : Mem), Ks (fun k j => (8 ≤ k ∧ k ≤ 10) ∨ (k = 156 ∧ (j = 2))) M M' → Q w0 M' → Q' w0 M') : qX11_readHearse M Q' := by
  unfold qX11_readHearse at h ⊢
  intro x1_1 g2 g3
  have h1 := h x1_1 g2 g3
  obtain ⟨h4, h5⟩ := h1
  refine ⟨?_, ?_⟩
  · intro g6
    have h7 := h4 g6
    refine fmX11_readCell h7 ?_
    intro x3_9 M3_10 f8 h8
    have F8 : Ks (fun k j => (8 ≤ k ∧ k ≤ 10) ∨ (k = 156 ∧ (j = 2))) M M3_10 := (Ks.rf).tr (f8.mono (mo_7))
    intro g11
    have h12 := h8 g11
    obtain ⟨h13, h14⟩ := h12
    refine ⟨?_, ?_⟩
    · intro g15
      have h16 := h13 g15
      refine fmX6_hearseOn h16 ?_
      intro x5_18 M5_19 f17 h17
      have F17 : Ks (fun k j => (8 ≤ k ∧ k ≤ 10) ∨ (k = 156 ∧ (j = 2))) M M5_19 := (F8).tr (f17.mono (fun _ _ h => False.elim h))
      intro g20
      have h21 := h17 g20
      obtain ⟨h22, h23⟩ := h21
      refine ⟨?_, ?_⟩
      · intro g24
        have h25 := h22 g24
        refine fmX6_addHearse h25 ?_
        intro M7_27 f26 h26
        have F26 : Ks (fun k j => (8 ≤ k ∧ k ≤ 10) ∨ (k = 156 ∧ (j = 2))) M M7_27 := (F17).tr (f26.mono (mo_8))
        exact hQ _ _ F26 h26
      · intro g28
        have h29 := h23 g28
        refine fmX9_back h29 ?_
        intro M8_31 f30 h30
        have F30 : Ks (fun k j => (8 ≤ k ∧ k ≤ 10) ∨ (k = 156 ∧ (j = 2))) M M8_31 := (F17).tr (f30.mono (mo_7))
        exact hQ _ _ F30 h30
    · intro g32
      have h33 := h14 g32
      exact hQ _ _ F8 h33
  · intro g34
    have h35 := h5 g34
    exact hQ _ _ Ks.rf h35
theorem fmX6_addMourner {k0 : Nat} {p1 : Int} {p2 : Int} {M : Mem} {Q Q' : Mem → Prop} (h : qX6_addMourner k0 p1 p2 M Q) (hQ : ∀ (M' : Mem), Ks (fun k j => (k = k0 ∧ (j = 7)) ∨ k = k0 + 3 ∨ k = k0 + 4 ∨ k = k0 + 5 ∨ k = k0 + 6) M M' → Q M' → Q' M') : qX6_addMourner k0 p1 p2 M Q' := by
  unfold qX6_addMourner at h ⊢
  intro x1_1 g2 g3
  have h1 := h x1_1 g2 g3
  obtain ⟨v4, h4⟩ := h1
  refine ⟨v4, ?_⟩
  obtain ⟨v5, h5⟩ := h4
  refine ⟨v5, ?_⟩
  intro M4_6 eM4_6
  have h6 := h5 M4_6 eM4_6
  have F6 : Ks (fun k j => (k = k0 ∧ (j = 7)) ∨ k = k0 + 3 ∨ k = k0 + 4 ∨ k = k0 + 5 ∨ k = k0 + 6) M M4_6 := by rw [eM4_6]; exact (Ks.rf).wr (mw_22 _)
  intro x5_7 g8 g9
  have h7 := h6 x5_7 g8 g9
  obtain ⟨v10, h10⟩ := h7
  refine ⟨v10, ?_⟩
  obtain ⟨v11, h11⟩ := h10
  refine ⟨v11, ?_⟩
  intro M8_12 eM8_12
  have h12 := h11 M8_12 eM8_12
  have F12 : Ks (fun k j => (k = k0 ∧ (j = 7)) ∨ k = k0 + 3 ∨ k = k0 + 4 ∨ k = k0 + 5 ∨ k = k0 + 6) M M8_12 := by rw [eM8_12]; exact (F6).wr (mw_23 _)
  intro x9_13 g14 g15
  have h13 := h12 x9_13 g14 g15
  obtain ⟨v16, h16⟩ := h13
  refine ⟨v16, ?_⟩
  obtain ⟨v17, h17⟩ := h16
  refine ⟨v17, ?_⟩
  intro M12_18 eM12_18
  have h18 := h17 M12_18 eM12_18
  have F18 : Ks (fun k j => (k = k0 ∧ (j = 7)) ∨ k = k0 + 3 ∨ k = k0 + 4 ∨ k = k0 + 5 ∨ k = k0 + 6) M M12_18 := by rw [eM12_18]; exact (F12).wr (mw_24 _)
  intro x13_19 g20 g21
  have h19 := h18 x13_19 g20 g21
  obtain ⟨v22, h22⟩ := h19
  refine ⟨v22, ?_⟩
  obtain ⟨v23, h23⟩ := h22
  refine ⟨v23, ?_⟩
  intro M16_24 eM16_24
  have h24 := h23 M16_24 eM16_24
  have F24 : Ks (fun k j => (k = k0 ∧ (j = 7)) ∨ k = k0 + 3 ∨ k = k0 + 4 ∨ k = k0 + 5 ∨ k = k0 + 6) M M16_24 := by rw [eM16_24]; exact (F18).wr (mw_25 _)
  intro x17_25 g26 g27
  have h25 := h24 x17_25 g26 g27
  obtain ⟨v28, h28⟩ := h25
  refine ⟨v28, ?_⟩
  intro M19_29 eM19_29
  have h29 := h28 M19_29 eM19_29
  have F29 : Ks (fun k j => (k = k0 ∧ (j = 7)) ∨ k = k0 + 3 ∨ k = k0 + 4 ∨ k = k0 + 5 ∨ k = k0 + 6) M M19_29 := by rw [eM19_29]; exact (F24).wr (mw_26)
  exact hQ _ F29 h29
theorem fmX11_readMourner  {M : Mem} {Q Q' : Int → Mem → Prop} (h : qX11_readMourner M Q) (hQ : ∀ (w0 : Int) (M' : Mem), Ks (fun k j => k = 8 ∨ (11 ≤ k ∧ k ≤ 14) ∨ (k = 156 ∧ (j = 2))) M M' → Q w0 M' → Q' w0 M') : qX11_readMourner M Q' := by
  unfold qX11_readMourner at h ⊢
  intro x1_1 g2 g3
  have h1 := h x1_1 g2 g3
  obtain ⟨h4, h5⟩ := h1
  refine ⟨?_, ?_⟩
  · intro g6
    have h7 := h4 g6
    refine fmX11_readCell h7 ?_
    intro x3_9 M3_10 f8 h8
    have F8 : Ks (fun k j => k = 8 ∨ (11 ≤ k ∧ k ≤ 14) ∨ (k = 156 ∧ (j = 2))) M M3_10 := (Ks.rf).tr (f8.mono (mo_9))
    intro g11
    have h12 := h8 g11
    refine fmX9_look h12 ?_
    intro x4_14 M4_15 f13 h13
    have F13 : Ks (fun k j => k = 8 ∨ (11 ≤ k ∧ k ≤ 14) ∨ (k = 156 ∧ (j = 2))) M M4_15 := (F8).tr (f13.mono (fun _ _ h => False.elim h))
    intro g16
    have h17 := h13 g16
    obtain ⟨h18, h19⟩ := h17
    refine ⟨?_, ?_⟩
    · intro g20
      have h21 := h18 g20
      exact hQ _ _ F13 h21
    · intro g22
      have h23 := h19 g22
      obtain ⟨v24, h24⟩ := h23
      refine ⟨v24, ?_⟩
      obtain ⟨h25, h26⟩ := h24
      refine ⟨?_, ?_⟩
      · intro g27
        have h28 := h25 g27
        exact hQ _ _ F13 h28
      · intro g29
        have h30 := h26 g29
        intro x8_31 g32 g33
        have h31 := h30 x8_31 g32 g33
        obtain ⟨h34, h35⟩ := h31
        refine ⟨?_, ?_⟩
        · intro g36
          have h37 := h34 g36
          refine fmX9_pass h37 ?_
          intro M10_39 f38 h38
          have F38 : Ks (fun k j => k = 8 ∨ (11 ≤ k ∧ k ≤ 14) ∨ (k = 156 ∧ (j = 2))) M M10_39 := (F13).tr (f38.mono (mo_9))
          refine fmX6_addMourner h38 ?_
          intro M11_41 f40 h40
          have F40 : Ks (fun k j => k = 8 ∨ (11 ≤ k ∧ k ≤ 14) ∨ (k = 156 ∧ (j = 2))) M M11_41 := (F38).tr (f40.mono (mo_10))
          exact hQ _ _ F40 h40
        · intro g42
          have h43 := h35 g42
          exact hQ _ _ F13 h43
  · intro g44
    have h45 := h5 g44
    exact hQ _ _ Ks.rf h45
theorem fmX6_copyFrom {k0 : Nat} {k1 : Nat} {M : Mem} {Q Q' : Mem → Prop} (h : qX6_copyFrom k0 k1 M Q) (hQ : ∀ (M' : Mem), Ks (fun k j => (k = k0 ∧ (j = 6 ∨ j = 7 ∨ j = 8 ∨ j = 9 ∨ j = 10)) ∨ k = k0 + 1 ∨ k = k0 + 2 ∨ k = k0 + 3 ∨ k = k0 + 4 ∨ k = k0 + 5 ∨ k = k0 + 6) M M' → Q M' → Q' M') : qX6_copyFrom k0 k1 M Q' := by
  unfold qX6_copyFrom at h ⊢
  intro M1_1 eM1_1
  have h1 := h M1_1 eM1_1
  have F1 : Ks (fun k j => (k = k0 ∧ (j = 6 ∨ j = 7 ∨ j = 8 ∨ j = 9 ∨ j = 10)) ∨ k = k0 + 1 ∨ k = k0 + 2 ∨ k = k0 + 3 ∨ k = k0 + 4 ∨ k = k0 + 5 ∨ k = k0 + 6) M M1_1 := by rw [eM1_1]; exact (Ks.rf).cp (mw_27)
  intro M2_2 eM2_2
  have h2 := h1 M2_2 eM2_2
  have F2 : Ks (fun k j => (k = k0 ∧ (j = 6 ∨ j = 7 ∨ j = 8 ∨ j = 9 ∨ j = 10)) ∨ k = k0 + 1 ∨ k = k0 + 2 ∨ k = k0 + 3 ∨ k = k0 + 4 ∨ k = k0 + 5 ∨ k = k0 + 6) M M2_2 := by rw [eM2_2]; exact (F1).cp (mw_28)
  intro M3_3 eM3_3
  have h3 := h2 M3_3 eM3_3
  have F3 : Ks (fun k j => (k = k0 ∧ (j = 6 ∨ j = 7 ∨ j = 8 ∨ j = 9 ∨ j = 10)) ∨ k = k0 + 1 ∨ k = k0 + 2 ∨ k = k0 + 3 ∨ k = k0 + 4 ∨ k = k0 + 5 ∨ k = k0 + 6) M M3_3 := by rw [eM3_3]; exact (F2).cp (mw_29)
  intro M4_4 eM4_4
  have h4 := h3 M4_4 eM4_4
  have F4 : Ks (fun k j => (k = k0 ∧ (j = 6 ∨ j = 7 ∨ j = 8 ∨ j = 9 ∨ j = 10)) ∨ k = k0 + 1 ∨ k = k0 + 2 ∨ k = k0 + 3 ∨ k = k0 + 4 ∨ k = k0 + 5 ∨ k = k0 + 6) M M4_4 := by rw [eM4_4]; exact (F3).cp (mw_30)
  intro M5_5 eM5_5
  have h5 := h4 M5_5 eM5_5
  have F5 : Ks (fun k j => (k = k0 ∧ (j = 6 ∨ j = 7 ∨ j = 8 ∨ j = 9 ∨ j = 10)) ∨ k = k0 + 1 ∨ k = k0 + 2 ∨ k = k0 + 3 ∨ k = k0 + 4 ∨ k = k0 + 5 ∨ k = k0 + 6) M M5_5 := by rw [eM5_5]; exact (F4).cp (mw_31)
  intro M6_6 eM6_6
  have h6 := h5 M6_6 eM6_6
  have F6 : Ks (fun k j => (k = k0 ∧ (j = 6 ∨ j = 7 ∨ j = 8 ∨ j = 9 ∨ j = 10)) ∨ k = k0 + 1 ∨ k = k0 + 2 ∨ k = k0 + 3 ∨ k = k0 + 4 ∨ k = k0 + 5 ∨ k = k0 + 6) M M6_6 := by rw [eM6_6]; exact (F5).cp (mw_32)
  intro x7_7 g8 g9
  have h7 := h6 x7_7 g8 g9
  intro M8_10 eM8_10
  have h10 := h7 M8_10 eM8_10
  have F10 : Ks (fun k j => (k = k0 ∧ (j = 6 ∨ j = 7 ∨ j = 8 ∨ j = 9 ∨ j = 10)) ∨ k = k0 + 1 ∨ k = k0 + 2 ∨ k = k0 + 3 ∨ k = k0 + 4 ∨ k = k0 + 5 ∨ k = k0 + 6) M M8_10 := by rw [eM8_10]; exact (F6).wr (mw_33)
  intro x9_11 g12 g13
  have h11 := h10 x9_11 g12 g13
  intro M10_14 eM10_14
  have h14 := h11 M10_14 eM10_14
  have F14 : Ks (fun k j => (k = k0 ∧ (j = 6 ∨ j = 7 ∨ j = 8 ∨ j = 9 ∨ j = 10)) ∨ k = k0 + 1 ∨ k = k0 + 2 ∨ k = k0 + 3 ∨ k = k0 + 4 ∨ k = k0 + 5 ∨ k = k0 + 6) M M10_14 := by rw [eM10_14]; exact (F10).wr (mw_34)
  intro x11_15 g16 g17
  have h15 := h14 x11_15 g16 g17
  intro M12_18 eM12_18
  have h18 := h15 M12_18 eM12_18
  have F18 : Ks (fun k j => (k = k0 ∧ (j = 6 ∨ j = 7 ∨ j = 8 ∨ j = 9 ∨ j = 10)) ∨ k = k0 + 1 ∨ k = k0 + 2 ∨ k = k0 + 3 ∨ k = k0 + 4 ∨ k = k0 + 5 ∨ k = k0 + 6) M M12_18 := by rw [eM12_18]; exact (F14).wr (mw_35)
  intro x13_19 g20 g21
  have h19 := h18 x13_19 g20 g21
  intro M14_22 eM14_22
  have h22 := h19 M14_22 eM14_22
  have F22 : Ks (fun k j => (k = k0 ∧ (j = 6 ∨ j = 7 ∨ j = 8 ∨ j = 9 ∨ j = 10)) ∨ k = k0 + 1 ∨ k = k0 + 2 ∨ k = k0 + 3 ∨ k = k0 + 4 ∨ k = k0 + 5 ∨ k = k0 + 6) M M14_22 := by rw [eM14_22]; exact (F18).wr (mw_36)
  intro x15_23 g24 g25
  have h23 := h22 x15_23 g24 g25
  intro M16_26 eM16_26
  have h26 := h23 M16_26 eM16_26
  have F26 : Ks (fun k j => (k = k0 ∧ (j = 6 ∨ j = 7 ∨ j = 8 ∨ j = 9 ∨ j = 10)) ∨ k = k0 + 1 ∨ k = k0 + 2 ∨ k = k0 + 3 ∨ k = k0 + 4 ∨ k = k0 + 5 ∨ k = k0 + 6) M M16_26 := by rw [eM16_26]; exact (F22).wr (mw_37)
  exact hQ _ F26 h26
theorem fmX9_isWhole  {M : Mem} {Q Q' : Int → Mem → Prop} (h : qX9_isWhole M Q) (hQ : ∀ (w0 : Int) (M' : Mem), Ks (fun _ _ => False) M M' → Q w0 M' → Q' w0 M') : qX9_isWhole M Q' := by
  unfold qX9_isWhole at h ⊢
  intro x1_1 g2 g3
  have h1 := h x1_1 g2 g3
  intro x2_4 g5 g6
  have h4 := h1 x2_4 g5 g6
  obtain ⟨h7, h8⟩ := h4
  refine ⟨?_, ?_⟩
  · intro g9
    have h10 := h7 g9
    exact hQ _ _ Ks.rf h10
  · intro g11
    have h12 := h8 g11
    exact hQ _ _ Ks.rf h12
theorem fmX9_open {p1 : Int} {M : Mem} {Q Q' : Mem → Prop} (h : qX9_open p1 M Q) (hQ : ∀ (M' : Mem), Ks (fun k j => (k = 156 ∧ (j = 2 ∨ j = 3))) M M' → Q M' → Q' M') : qX9_open p1 M Q' := by
  unfold qX9_open at h ⊢
  intro M1_1 eM1_1
  have h1 := h M1_1 eM1_1
  have F1 : Ks (fun k j => (k = 156 ∧ (j = 2 ∨ j = 3))) M M1_1 := by rw [eM1_1]; exact (Ks.rf).wr (mw_38)
  intro x2_2 g3 g4
  have h2 := h1 x2_2 g3 g4
  intro x3_5 g6 g7
  have h5 := h2 x3_5 g6 g7
  intro M4_8 eM4_8
  have h8 := h5 M4_8 eM4_8
  have F8 : Ks (fun k j => (k = 156 ∧ (j = 2 ∨ j = 3))) M M4_8 := by rw [eM4_8]; exact (F1).wr (mw_39)
  exact hQ _ F8 h8
theorem fmX9_skip {p1 : Int} {M : Mem} {Q Q' : Int → Mem → Prop} (h : qX9_skip p1 M Q) (hQ : ∀ (w0 : Int) (M' : Mem), Ks (fun k j => (k = 156 ∧ (j = 2))) M M' → Q w0 M' → Q' w0 M') : qX9_skip p1 M Q' := by
  unfold qX9_skip at h ⊢
  refine fmX9_look h ?_
  intro x1_2 M1_3 f1 h1
  have F1 : Ks (fun k j => (k = 156 ∧ (j = 2))) M M1_3 := (Ks.rf).tr (f1.mono (fun _ _ h => False.elim h))
  intro g4
  have h5 := h1 g4
  obtain ⟨h6, h7⟩ := h5
  refine ⟨?_, ?_⟩
  · intro g8
    have h9 := h6 g8
    refine fmX9_pass h9 ?_
    intro M3_11 f10 h10
    have F10 : Ks (fun k j => (k = 156 ∧ (j = 2))) M M3_11 := (F1).tr (f10.mono (fun _ _ h => h))
    exact hQ _ _ F10 h10
  · intro g12
    have h13 := h7 g12
    exact hQ _ _ F1 h13
theorem fmX11_readLines_L33 {p1 : Int} {X90 X90' : Int → Mem → Prop} {Q Q' : Int → Mem → Prop} {M0 : Mem} (hQ : ∀ (w0 : Int) (M' : Mem), Ks (fun k j => (2 ≤ k ∧ k ≤ 14) ∨ (k = 1 ∧ (j = 6 ∨ j = 7 ∨ j = 8 ∨ j = 9 ∨ j = 10)) ∨ (k = 156 ∧ (j = 2 ∨ j = 3)) ∨ (k = 163 ∧ (j = 2))) M0 M' → Q w0 M' → Q' w0 M') (hX90 : ∀ (w0 : Int) (M' : Mem), Ks (fun k j => (2 ≤ k ∧ k ≤ 14) ∨ (k = 1 ∧ (j = 6 ∨ j = 7 ∨ j = 8 ∨ j = 9 ∨ j = 10)) ∨ (k = 156 ∧ (j = 2 ∨ j = 3)) ∨ (k = 163 ∧ (j = 2))) M0 M' → X90 w0 M' → X90' w0 M') : ∀ (n : Nat) (v2 v3 : Int) (M : Mem), Ks (fun k j => (2 ≤ k ∧ k ≤ 14) ∨ (k = 1 ∧ (j = 6 ∨ j = 7 ∨ j = 8 ∨ j = 9 ∨ j = 10)) ∨ (k = 156 ∧ (j = 2 ∨ j = 3)) ∨ (k = 163 ∧ (j = 2))) M0 M → qX11_readLines_L33 p1 X90 Q n v2 v3 M → qX11_readLines_L33 p1 X90' Q' n v2 v3 M := by
  intro n
  induction n with
  | zero => intro v2 v3 M _ h; exact h.elim
  | succ n ih =>
    intro v2 v3 M hF h
    rw [qX11_readLines_L33] at h
    rw [qX11_readLines_L33]
    obtain ⟨v1, h1⟩ := h
    refine ⟨v1, ?_⟩
    obtain ⟨h2, h3⟩ := h1
    refine ⟨?_, ?_⟩
    · intro g4
      have h5 := h2 g4
      exact hX90 _ _ hF h5
    · intro g6
      have h7 := h3 g6
      obtain ⟨v8, h8⟩ := h7
      refine ⟨v8, ?_⟩
      obtain ⟨h9, h10⟩ := h8
      refine ⟨?_, ?_⟩
      · intro g11
        have h12 := h9 g11
        exact hX90 _ _ hF h12
      · intro g13
        have h14 := h10 g13
        obtain ⟨h15, h16⟩ := h14
        refine ⟨?_, ?_⟩
        · intro g17
          have h18 := h15 g17
          refine fmX11_readMourner h18 ?_
          intro x10_20 M10_21 f19 h19
          have F19 : Ks (fun k j => (2 ≤ k ∧ k ≤ 14) ∨ (k = 1 ∧ (j = 6 ∨ j = 7 ∨ j = 8 ∨ j = 9 ∨ j = 10)) ∨ (k = 156 ∧ (j = 2 ∨ j = 3)) ∨ (k = 163 ∧ (j = 2))) M0 M10_21 := (hF).tr (f19.mono (mo_11))
          intro g22 g23
          have h24 := h19 g22 g23
          obtain ⟨h25, h26⟩ := h24
          refine ⟨?_, ?_⟩
          · intro g27
            have h28 := h25 g27
            unfold qX11_readLines_J74 at h28 ⊢
            refine fmX9_skip h28 ?_
            intro x12_30 M12_31 f29 h29
            have F29 : Ks (fun k j => (2 ≤ k ∧ k ≤ 14) ∨ (k = 1 ∧ (j = 6 ∨ j = 7 ∨ j = 8 ∨ j = 9 ∨ j = 10)) ∨ (k = 156 ∧ (j = 2 ∨ j = 3)) ∨ (k = 163 ∧ (j = 2))) M0 M12_31 := (F19).tr (f29.mono (mo_12))
            intro g32 g33
            have h34 := h29 g32 g33
            exact ih _ _ _ F29 h34
          · intro g35
            have h36 := h26 g35
            intro x13_37 g38 g39
            have h37 := h36 x13_37 g38 g39
            obtain ⟨v40, h40⟩ := h37
            refine ⟨v40, ?_⟩
            exact hQ _ _ F19 h40
        · intro g41
          have h42 := h16 g41
          refine fmX11_readHearse h42 ?_
          intro x15_44 M15_45 f43 h43
          have F43 : Ks (fun k j => (2 ≤ k ∧ k ≤ 14) ∨ (k = 1 ∧ (j = 6 ∨ j = 7 ∨ j = 8 ∨ j = 9 ∨ j = 10)) ∨ (k = 156 ∧ (j = 2 ∨ j = 3)) ∨ (k = 163 ∧ (j = 2))) M0 M15_45 := (hF).tr (f43.mono (mo_13))
          intro g46 g47
          have h48 := h43 g46 g47
          obtain ⟨h49, h50⟩ := h48
          refine ⟨?_, ?_⟩
          · intro g51
            have h52 := h49 g51
            intro x17_53 g54 g55
            have h53 := h52 x17_53 g54 g55
            obtain ⟨v56, h56⟩ := h53
            refine ⟨v56, ?_⟩
            exact hQ _ _ F43 h56
          · intro g57
            have h58 := h50 g57
            unfold qX11_readLines_J74 at h58 ⊢
            refine fmX9_skip h58 ?_
            intro x12_60 M12_61 f59 h59
            have F59 : Ks (fun k j => (2 ≤ k ∧ k ≤ 14) ∨ (k = 1 ∧ (j = 6 ∨ j = 7 ∨ j = 8 ∨ j = 9 ∨ j = 10)) ∨ (k = 156 ∧ (j = 2 ∨ j = 3)) ∨ (k = 163 ∧ (j = 2))) M0 M12_61 := (F43).tr (f59.mono (mo_12))
            intro g62 g63
            have h64 := h59 g62 g63
            exact ih _ _ _ F59 h64
theorem fmX11_readLines {p1 : Int} {M : Mem} {Q Q' : Int → Mem → Prop} (h : qX11_readLines p1 M Q) (hQ : ∀ (w0 : Int) (M' : Mem), Ks (fun k j => (2 ≤ k ∧ k ≤ 14) ∨ (k = 1 ∧ (j = 6 ∨ j = 7 ∨ j = 8 ∨ j = 9 ∨ j = 10)) ∨ (k = 156 ∧ (j = 2 ∨ j = 3)) ∨ (k = 163 ∧ (j = 2))) M M' → Q w0 M' → Q' w0 M') : qX11_readLines p1 M Q' := by
  unfold qX11_readLines at h ⊢
  refine fmX6_copyFrom h ?_
  intro M1_2 f1 h1
  have F1 : Ks (fun k j => (2 ≤ k ∧ k ≤ 14) ∨ (k = 1 ∧ (j = 6 ∨ j = 7 ∨ j = 8 ∨ j = 9 ∨ j = 10)) ∨ (k = 156 ∧ (j = 2 ∨ j = 3)) ∨ (k = 163 ∧ (j = 2))) M M1_2 := (Ks.rf).tr (f1.mono (mo_14))
  obtain ⟨h3, h4⟩ := h1
  refine ⟨?_, ?_⟩
  · intro g5
    have h6 := h3 g5
    unfold qX11_readLines_J26 at h6 ⊢
    obtain ⟨v7, h7⟩ := h6
    refine ⟨v7, ?_⟩
    refine fmX9_open h7 ?_
    intro M4_9 f8 h8
    have F8 : Ks (fun k j => (2 ≤ k ∧ k ≤ 14) ∨ (k = 1 ∧ (j = 6 ∨ j = 7 ∨ j = 8 ∨ j = 9 ∨ j = 10)) ∨ (k = 156 ∧ (j = 2 ∨ j = 3)) ∨ (k = 163 ∧ (j = 2))) M M4_9 := (F1).tr (f8.mono (mo_15))
    obtain ⟨n10, h10⟩ := h8
    refine ⟨n10, ?_⟩
    refine fmX11_readLines_L33 hQ ?_ _ _ _ _ F8 h10
    · intro v2_12 M_13 F11 h11
      unfold qX11_readLines_J90 at h11 ⊢
      refine fmX9_isWhole h11 ?_
      intro x20_15 M20_16 f14 h14
      have F14 : Ks (fun k j => (2 ≤ k ∧ k ≤ 14) ∨ (k = 1 ∧ (j = 6 ∨ j = 7 ∨ j = 8 ∨ j = 9 ∨ j = 10)) ∨ (k = 156 ∧ (j = 2 ∨ j = 3)) ∨ (k = 163 ∧ (j = 2))) M M20_16 := (F11).tr (f14.mono (fun _ _ h => False.elim h))
      intro g17 g18
      have h19 := h14 g17 g18
      obtain ⟨h20, h21⟩ := h19
      refine ⟨?_, ?_⟩
      · intro g22
        have h23 := h20 g22
        refine fmX6_copyFrom h23 ?_
        intro M22_25 f24 h24
        have F24 : Ks (fun k j => (2 ≤ k ∧ k ≤ 14) ∨ (k = 1 ∧ (j = 6 ∨ j = 7 ∨ j = 8 ∨ j = 9 ∨ j = 10)) ∨ (k = 156 ∧ (j = 2 ∨ j = 3)) ∨ (k = 163 ∧ (j = 2))) M M22_25 := (F14).tr (f24.mono (mo_16))
        refine fmX1_clear h24 ?_
        intro M23_27 f26 h26
        have F26 : Ks (fun k j => (2 ≤ k ∧ k ≤ 14) ∨ (k = 1 ∧ (j = 6 ∨ j = 7 ∨ j = 8 ∨ j = 9 ∨ j = 10)) ∨ (k = 156 ∧ (j = 2 ∨ j = 3)) ∨ (k = 163 ∧ (j = 2))) M M23_27 := (F24).tr (f26.mono (mo_17))
        obtain ⟨v28, h28⟩ := h26
        refine ⟨v28, ?_⟩
        exact hQ _ _ F26 h28
      · intro g29
        have h30 := h21 g29
        intro x25_31 g32 g33
        have h31 := h30 x25_31 g32 g33
        obtain ⟨v34, h34⟩ := h31
        refine ⟨v34, ?_⟩
        exact hQ _ _ F14 h34
  · intro g35
    have h36 := h4 g35
    unfold qX11_readLines_J26 at h36 ⊢
    obtain ⟨v37, h37⟩ := h36
    refine ⟨v37, ?_⟩
    refine fmX9_open h37 ?_
    intro M4_39 f38 h38
    have F38 : Ks (fun k j => (2 ≤ k ∧ k ≤ 14) ∨ (k = 1 ∧ (j = 6 ∨ j = 7 ∨ j = 8 ∨ j = 9 ∨ j = 10)) ∨ (k = 156 ∧ (j = 2 ∨ j = 3)) ∨ (k = 163 ∧ (j = 2))) M M4_39 := (F1).tr (f38.mono (mo_15))
    obtain ⟨n40, h40⟩ := h38
    refine ⟨n40, ?_⟩
    refine fmX11_readLines_L33 hQ ?_ _ _ _ _ F38 h40
    · intro v2_42 M_43 F41 h41
      unfold qX11_readLines_J90 at h41 ⊢
      refine fmX9_isWhole h41 ?_
      intro x20_45 M20_46 f44 h44
      have F44 : Ks (fun k j => (2 ≤ k ∧ k ≤ 14) ∨ (k = 1 ∧ (j = 6 ∨ j = 7 ∨ j = 8 ∨ j = 9 ∨ j = 10)) ∨ (k = 156 ∧ (j = 2 ∨ j = 3)) ∨ (k = 163 ∧ (j = 2))) M M20_46 := (F41).tr (f44.mono (fun _ _ h => False.elim h))
      intro g47 g48
      have h49 := h44 g47 g48
      obtain ⟨h50, h51⟩ := h49
      refine ⟨?_, ?_⟩
      · intro g52
        have h53 := h50 g52
        refine fmX6_copyFrom h53 ?_
        intro M22_55 f54 h54
        have F54 : Ks (fun k j => (2 ≤ k ∧ k ≤ 14) ∨ (k = 1 ∧ (j = 6 ∨ j = 7 ∨ j = 8 ∨ j = 9 ∨ j = 10)) ∨ (k = 156 ∧ (j = 2 ∨ j = 3)) ∨ (k = 163 ∧ (j = 2))) M M22_55 := (F44).tr (f54.mono (mo_16))
        refine fmX1_clear h54 ?_
        intro M23_57 f56 h56
        have F56 : Ks (fun k j => (2 ≤ k ∧ k ≤ 14) ∨ (k = 1 ∧ (j = 6 ∨ j = 7 ∨ j = 8 ∨ j = 9 ∨ j = 10)) ∨ (k = 156 ∧ (j = 2 ∨ j = 3)) ∨ (k = 163 ∧ (j = 2))) M M23_57 := (F54).tr (f56.mono (mo_17))
        obtain ⟨v58, h58⟩ := h56
        refine ⟨v58, ?_⟩
        exact hQ _ _ F56 h58
      · intro g59
        have h60 := h51 g59
        intro x25_61 g62 g63
        have h61 := h60 x25_61 g62 g63
        obtain ⟨v64, h64⟩ := h61
        refine ⟨v64, ?_⟩
        exact hQ _ _ F44 h64
theorem fmX9_isEmpty  {M : Mem} {Q Q' : Int → Mem → Prop} (h : qX9_isEmpty M Q) (hQ : ∀ (w0 : Int) (M' : Mem), Ks (fun _ _ => False) M M' → Q w0 M' → Q' w0 M') : qX9_isEmpty M Q' := by
  unfold qX9_isEmpty at h ⊢
  intro x1_1 g2 g3
  have h1 := h x1_1 g2 g3
  obtain ⟨h4, h5⟩ := h1
  refine ⟨?_, ?_⟩
  · intro g6
    have h7 := h4 g6
    exact hQ _ _ Ks.rf h7
  · intro g8
    have h9 := h5 g8
    exact hQ _ _ Ks.rf h9
theorem fmX11_hearses  {M : Mem} {Q Q' : Int → Mem → Prop} (h : qX11_hearses M Q) (hQ : ∀ (w0 : Int) (M' : Mem), Ks (fun k j => (2 ≤ k ∧ k ≤ 14) ∨ (k = 1 ∧ (j = 6 ∨ j = 7 ∨ j = 8 ∨ j = 9 ∨ j = 10)) ∨ (k = 156 ∧ (j = 1 ∨ j = 2 ∨ j = 3)) ∨ (k = 163 ∧ (j = 2))) M M' → Q w0 M' → Q' w0 M') : qX11_hearses M Q' := by
  unfold qX11_hearses at h ⊢
  refine fmX9_isEmpty h ?_
  intro x1_2 M1_3 f1 h1
  have F1 : Ks (fun k j => (2 ≤ k ∧ k ≤ 14) ∨ (k = 1 ∧ (j = 6 ∨ j = 7 ∨ j = 8 ∨ j = 9 ∨ j = 10)) ∨ (k = 156 ∧ (j = 1 ∨ j = 2 ∨ j = 3)) ∨ (k = 163 ∧ (j = 2))) M M1_3 := (Ks.rf).tr (f1.mono (fun _ _ h => False.elim h))
  intro g4 g5
  have h6 := h1 g4 g5
  obtain ⟨h7, h8⟩ := h6
  refine ⟨?_, ?_⟩
  · intro g9
    have h10 := h7 g9
    refine fmX11_readLines h10 ?_
    intro x3_12 M3_13 f11 h11
    have F11 : Ks (fun k j => (2 ≤ k ∧ k ≤ 14) ∨ (k = 1 ∧ (j = 6 ∨ j = 7 ∨ j = 8 ∨ j = 9 ∨ j = 10)) ∨ (k = 156 ∧ (j = 1 ∨ j = 2 ∨ j = 3)) ∨ (k = 163 ∧ (j = 2))) M M3_13 := (F1).tr (f11.mono (mo_18))
    intro g14
    have h15 := h11 g14
    unfold qX11_hearses_J19 at h15 ⊢
    refine fmX9_clear h15 ?_
    intro M4_17 f16 h16
    have F16 : Ks (fun k j => (2 ≤ k ∧ k ≤ 14) ∨ (k = 1 ∧ (j = 6 ∨ j = 7 ∨ j = 8 ∨ j = 9 ∨ j = 10)) ∨ (k = 156 ∧ (j = 1 ∨ j = 2 ∨ j = 3)) ∨ (k = 163 ∧ (j = 2))) M M4_17 := (F11).tr (f16.mono (mo_19))
    obtain ⟨v18, h18⟩ := h16
    refine ⟨v18, ?_⟩
    exact hQ _ _ F16 h18
  · intro g19
    have h20 := h8 g19
    unfold qX11_hearses_J19 at h20 ⊢
    refine fmX9_clear h20 ?_
    intro M4_22 f21 h21
    have F21 : Ks (fun k j => (2 ≤ k ∧ k ≤ 14) ∨ (k = 1 ∧ (j = 6 ∨ j = 7 ∨ j = 8 ∨ j = 9 ∨ j = 10)) ∨ (k = 156 ∧ (j = 1 ∨ j = 2 ∨ j = 3)) ∨ (k = 163 ∧ (j = 2))) M M4_22 := (F1).tr (f21.mono (mo_19))
    obtain ⟨v23, h23⟩ := h21
    refine ⟨v23, ?_⟩
    exact hQ _ _ F21 h23
theorem fmX11_mourners  {M : Mem} {Q Q' : Int → Mem → Prop} (h : qX11_mourners M Q) (hQ : ∀ (w0 : Int) (M' : Mem), Ks (fun k j => (2 ≤ k ∧ k ≤ 14) ∨ (k = 1 ∧ (j = 6 ∨ j = 7 ∨ j = 8 ∨ j = 9 ∨ j = 10)) ∨ (k = 156 ∧ (j = 1 ∨ j = 2 ∨ j = 3)) ∨ (k = 163 ∧ (j = 2))) M M' → Q w0 M' → Q' w0 M') : qX11_mourners M Q' := by
  unfold qX11_mourners at h ⊢
  refine fmX9_isEmpty h ?_
  intro x1_2 M1_3 f1 h1
  have F1 : Ks (fun k j => (2 ≤ k ∧ k ≤ 14) ∨ (k = 1 ∧ (j = 6 ∨ j = 7 ∨ j = 8 ∨ j = 9 ∨ j = 10)) ∨ (k = 156 ∧ (j = 1 ∨ j = 2 ∨ j = 3)) ∨ (k = 163 ∧ (j = 2))) M M1_3 := (Ks.rf).tr (f1.mono (fun _ _ h => False.elim h))
  intro g4 g5
  have h6 := h1 g4 g5
  obtain ⟨h7, h8⟩ := h6
  refine ⟨?_, ?_⟩
  · intro g9
    have h10 := h7 g9
    refine fmX11_readLines h10 ?_
    intro x3_12 M3_13 f11 h11
    have F11 : Ks (fun k j => (2 ≤ k ∧ k ≤ 14) ∨ (k = 1 ∧ (j = 6 ∨ j = 7 ∨ j = 8 ∨ j = 9 ∨ j = 10)) ∨ (k = 156 ∧ (j = 1 ∨ j = 2 ∨ j = 3)) ∨ (k = 163 ∧ (j = 2))) M M3_13 := (F1).tr (f11.mono (mo_18))
    intro g14
    have h15 := h11 g14
    unfold qX11_mourners_J19 at h15 ⊢
    refine fmX9_clear h15 ?_
    intro M4_17 f16 h16
    have F16 : Ks (fun k j => (2 ≤ k ∧ k ≤ 14) ∨ (k = 1 ∧ (j = 6 ∨ j = 7 ∨ j = 8 ∨ j = 9 ∨ j = 10)) ∨ (k = 156 ∧ (j = 1 ∨ j = 2 ∨ j = 3)) ∨ (k = 163 ∧ (j = 2))) M M4_17 := (F11).tr (f16.mono (mo_19))
    obtain ⟨v18, h18⟩ := h16
    refine ⟨v18, ?_⟩
    exact hQ _ _ F16 h18
  · intro g19
    have h20 := h8 g19
    unfold qX11_mourners_J19 at h20 ⊢
    refine fmX9_clear h20 ?_
    intro M4_22 f21 h21
    have F21 : Ks (fun k j => (2 ≤ k ∧ k ≤ 14) ∨ (k = 1 ∧ (j = 6 ∨ j = 7 ∨ j = 8 ∨ j = 9 ∨ j = 10)) ∨ (k = 156 ∧ (j = 1 ∨ j = 2 ∨ j = 3)) ∨ (k = 163 ∧ (j = 2))) M M4_22 := (F1).tr (f21.mono (mo_19))
    obtain ⟨v23, h23⟩ := h21
    refine ⟨v23, ?_⟩
    exact hQ _ _ F21 h23
theorem fmX11_weatherFault_L2  {X48 X48' : Mem → Prop} {Q Q' : Int → Mem → Prop} {M0 : Mem} (hQ : ∀ (w0 : Int) (M' : Mem), Ks (fun _ _ => False) M0 M' → Q w0 M' → Q' w0 M') (hX48 : ∀ (M' : Mem), Ks (fun _ _ => False) M0 M' → X48 M' → X48' M') : ∀ (n : Nat) (v1 : Int) (M : Mem), Ks (fun _ _ => False) M0 M → qX11_weatherFault_L2 X48 Q n v1 M → qX11_weatherFault_L2 X48' Q' n v1 M := by
  intro n
  induction n with
  | zero => intro v1 M _ h; exact h.elim
  | succ n ih =>
    intro v1 M hF h
    rw [qX11_weatherFault_L2] at h
    rw [qX11_weatherFault_L2]
    intro x1_1 g2 g3
    have h1 := h x1_1 g2 g3
    obtain ⟨v4, h4⟩ := h1
    refine ⟨v4, ?_⟩
    obtain ⟨h5, h6⟩ := h4
    refine ⟨?_, ?_⟩
    · intro g7
      have h8 := h5 g7
      exact hX48 _ hF h8
    · intro g9
      have h10 := h6 g9
      refine fmX9_signAt h10 ?_
      intro x4_12 M4_13 f11 h11
      have F11 : Ks (fun _ _ => False) M0 M4_13 := (hF).tr (f11.mono (fun _ _ h => False.elim h))
      intro g14
      have h15 := h11 g14
      obtain ⟨h16, h17⟩ := h15
      refine ⟨?_, ?_⟩
      · intro g18
        have h19 := h16 g18
        exact hQ _ _ F11 h19
      · intro g20
        have h21 := h17 g20
        obtain ⟨h22, h23⟩ := h21
        refine ⟨?_, ?_⟩
        · intro g24
          have h25 := h22 g24
          exact hQ _ _ F11 h25
        · intro g26
          have h27 := h23 g26
          obtain ⟨h28, h29⟩ := h27
          refine ⟨?_, ?_⟩
          · intro g30
            have h31 := h28 g30
            exact ih _ _ F11 h31
          · intro g32
            have h33 := h29 g32
            exact hQ _ _ F11 h33
theorem fmX11_weatherFault  {M : Mem} {Q Q' : Int → Mem → Prop} (h : qX11_weatherFault M Q) (hQ : ∀ (w0 : Int) (M' : Mem), Ks (fun _ _ => False) M M' → Q w0 M' → Q' w0 M') : qX11_weatherFault M Q' := by
  unfold qX11_weatherFault at h ⊢
  obtain ⟨n1, h1⟩ := h
  refine ⟨n1, ?_⟩
  refine fmX11_weatherFault_L2 hQ ?_ _ _ _ Ks.rf h1
  · intro M_3 F2 h2
    refine fmX9_isEmpty h2 ?_
    intro x9_5 M9_6 f4 h4
    have F4 : Ks (fun _ _ => False) M M9_6 := (F2).tr (f4.mono (fun _ _ h => False.elim h))
    intro g7 g8
    have h9 := h4 g7 g8
    obtain ⟨h10, h11⟩ := h9
    refine ⟨?_, ?_⟩
    · intro g12
      have h13 := h10 g12
      exact hQ _ _ F4 h13
    · intro g14
      have h15 := h11 g14
      exact hQ _ _ F4 h15
theorem fmX8_takeWeather_L10  {Q Q' : Mem → Prop} {M0 : Mem} (hQ : ∀ (M' : Mem), Ks (fun k j => k = 159 ∨ (k = 158 ∧ (j = 3))) M0 M' → Q M' → Q' M') : ∀ (n : Nat) (v2 : Int) (M : Mem), Ks (fun k j => k = 159 ∨ (k = 158 ∧ (j = 3))) M0 M → qX8_takeWeather_L10 Q n v2 M → qX8_takeWeather_L10 Q' n v2 M := by
  intro n
  induction n with
  | zero => intro v2 M _ h; exact h.elim
  | succ n ih =>
    intro v2 M hF h
    rw [qX8_takeWeather_L10] at h
    rw [qX8_takeWeather_L10]
    intro x3_1 g2 g3
    have h1 := h x3_1 g2 g3
    obtain ⟨v4, h4⟩ := h1
    refine ⟨v4, ?_⟩
    obtain ⟨h5, h6⟩ := h4
    refine ⟨?_, ?_⟩
    · intro g7
      have h8 := h5 g7
      exact hQ _ hF h8
    · intro g9
      have h10 := h6 g9
      refine fmX9_signAt h10 ?_
      intro x6_12 M6_13 f11 h11
      have F11 : Ks (fun k j => k = 159 ∨ (k = 158 ∧ (j = 3))) M0 M6_13 := (hF).tr (f11.mono (fun _ _ h => False.elim h))
      intro g14
      have h15 := h11 g14
      obtain ⟨v16, h16⟩ := h15
      refine ⟨v16, ?_⟩
      obtain ⟨v17, h17⟩ := h16
      refine ⟨v17, ?_⟩
      obtain ⟨v18, h18⟩ := h17
      refine ⟨v18, ?_⟩
      intro M10_19 eM10_19
      have h19 := h18 M10_19 eM10_19
      have F19 : Ks (fun k j => k = 159 ∨ (k = 158 ∧ (j = 3))) M0 M10_19 := by rw [eM10_19]; exact (F11).wr (mw_40 _)
      exact ih _ _ F19 h19
theorem fmX8_takeWeather  {M : Mem} {Q Q' : Mem → Prop} (h : qX8_takeWeather M Q) (hQ : ∀ (M' : Mem), Ks (fun k j => k = 159 ∨ (k = 158 ∧ (j = 3))) M M' → Q M' → Q' M') : qX8_takeWeather M Q' := by
  unfold qX8_takeWeather at h ⊢
  intro x1_1 g2 g3
  have h1 := h x1_1 g2 g3
  intro M2_4 eM2_4
  have h4 := h1 M2_4 eM2_4
  have F4 : Ks (fun k j => k = 159 ∨ (k = 158 ∧ (j = 3))) M M2_4 := by rw [eM2_4]; exact (Ks.rf).wr (mw_41)
  obtain ⟨n5, h5⟩ := h4
  refine ⟨n5, ?_⟩
  refine fmX8_takeWeather_L10 hQ _ _ _ F4 h5
theorem fmX11_weather  {M : Mem} {Q Q' : Int → Mem → Prop} (h : qX11_weather M Q) (hQ : ∀ (w0 : Int) (M' : Mem), Ks (fun k j => k = 159 ∨ (k = 156 ∧ (j = 1)) ∨ (k = 158 ∧ (j = 3))) M M' → Q w0 M' → Q' w0 M') : qX11_weather M Q' := by
  unfold qX11_weather at h ⊢
  refine fmX11_weatherFault h ?_
  intro x1_2 M1_3 f1 h1
  have F1 : Ks (fun k j => k = 159 ∨ (k = 156 ∧ (j = 1)) ∨ (k = 158 ∧ (j = 3))) M M1_3 := (Ks.rf).tr (f1.mono (fun _ _ h => False.elim h))
  intro g4
  have h5 := h1 g4
  intro x2_6 g7 g8
  have h6 := h5 x2_6 g7 g8
  obtain ⟨h9, h10⟩ := h6
  refine ⟨?_, ?_⟩
  · intro g11
    have h12 := h9 g11
    unfold qX11_weather_J29 at h12 ⊢
    refine fmX9_clear h12 ?_
    intro M4_14 f13 h13
    have F13 : Ks (fun k j => k = 159 ∨ (k = 156 ∧ (j = 1)) ∨ (k = 158 ∧ (j = 3))) M M4_14 := (F1).tr (f13.mono (mo_20))
    obtain ⟨v15, h15⟩ := h13
    refine ⟨v15, ?_⟩
    obtain ⟨h16, h17⟩ := h15
    refine ⟨?_, ?_⟩
    · intro g18
      have h19 := h16 g18
      obtain ⟨v20, h20⟩ := h19
      refine ⟨v20, ?_⟩
      exact hQ _ _ F13 h20
    · intro g21
      have h22 := h17 g21
      obtain ⟨v23, h23⟩ := h22
      refine ⟨v23, ?_⟩
      exact hQ _ _ F13 h23
  · intro g24
    have h25 := h10 g24
    refine fmX8_takeWeather h25 ?_
    intro M9_27 f26 h26
    have F26 : Ks (fun k j => k = 159 ∨ (k = 156 ∧ (j = 1)) ∨ (k = 158 ∧ (j = 3))) M M9_27 := (F1).tr (f26.mono (mo_21))
    unfold qX11_weather_J29 at h26 ⊢
    refine fmX9_clear h26 ?_
    intro M4_29 f28 h28
    have F28 : Ks (fun k j => k = 159 ∨ (k = 156 ∧ (j = 1)) ∨ (k = 158 ∧ (j = 3))) M M4_29 := (F26).tr (f28.mono (mo_20))
    obtain ⟨v30, h30⟩ := h28
    refine ⟨v30, ?_⟩
    obtain ⟨h31, h32⟩ := h30
    refine ⟨?_, ?_⟩
    · intro g33
      have h34 := h31 g33
      obtain ⟨v35, h35⟩ := h34
      refine ⟨v35, ?_⟩
      exact hQ _ _ F28 h35
    · intro g36
      have h37 := h32 g36
      obtain ⟨v38, h38⟩ := h37
      refine ⟨v38, ?_⟩
      exact hQ _ _ F28 h38
theorem fmX5_bindingOf {p0 : Int} {M : Mem} {Q Q' : Int → Mem → Prop} (h : qX5_bindingOf p0 M Q) (hQ : ∀ (w0 : Int) (M' : Mem), Ks (fun _ _ => False) M M' → Q w0 M' → Q' w0 M') : qX5_bindingOf p0 M Q' := by
  unfold qX5_bindingOf at h ⊢
  obtain ⟨h1, h2, h3, h4, h5, h6, h7, h8, h9⟩ := h
  refine ⟨?_, ?_, ?_, ?_, ?_, ?_, ?_, ?_, ?_⟩
  · intro g10
    have h11 := h1 g10
    exact hQ _ _ Ks.rf h11
  · intro g12
    have h13 := h2 g12
    exact hQ _ _ Ks.rf h13
  · intro g14
    have h15 := h3 g14
    exact hQ _ _ Ks.rf h15
  · intro g16
    have h17 := h4 g16
    exact hQ _ _ Ks.rf h17
  · intro g18
    have h19 := h5 g18
    exact hQ _ _ Ks.rf h19
  · intro g20
    have h21 := h6 g20
    exact hQ _ _ Ks.rf h21
  · intro g22
    have h23 := h7 g22
    exact hQ _ _ Ks.rf h23
  · intro g24
    have h25 := h8 g24
    exact hQ _ _ Ks.rf h25
  · intro g26
    have h27 := h9 g26
    exact hQ _ _ Ks.rf h27
theorem fmX5_latestBinding  {M : Mem} {Q Q' : Int → Mem → Prop} (h : qX5_latestBinding M Q) (hQ : ∀ (w0 : Int) (M' : Mem), Ks (fun _ _ => False) M M' → Q w0 M' → Q' w0 M') : qX5_latestBinding M Q' := by
  unfold qX5_latestBinding at h ⊢
  intro x1_1 g2 g3
  have h1 := h x1_1 g2 g3
  obtain ⟨h4, h5⟩ := h1
  refine ⟨?_, ?_⟩
  · intro g6
    have h7 := h4 g6
    exact hQ _ _ Ks.rf h7
  · intro g8
    have h9 := h5 g8
    intro x3_10 g11 g12
    have h10 := h9 x3_10 g11 g12
    obtain ⟨v13, h13⟩ := h10
    refine ⟨v13, ?_⟩
    obtain ⟨v14, h14⟩ := h13
    refine ⟨v14, ?_⟩
    intro x6_15 g16 g17
    have h15 := h14 x6_15 g16 g17
    refine fmX5_bindingOf h15 ?_
    intro x7_19 M7_20 f18 h18
    have F18 : Ks (fun _ _ => False) M M7_20 := (Ks.rf).tr (f18.mono (fun _ _ h => False.elim h))
    intro g21
    have h22 := h18 g21
    exact hQ _ _ F18 h22
theorem fmX5_release_L0 {k1 : Nat} {p2 : Int} {Q Q' : Mem → Prop} {M0 : Mem} (hQ : ∀ (M' : Mem), Ks (fun k j => (k = 185 ∧ (j = 1)) ∨ (k = k1 ∧ (j = 4)) ∨ k = k1 + 1 ∨ k = k1 + 2) M0 M' → Q M' → Q' M') : ∀ (n : Nat) (M : Mem), Ks (fun k j => (k = 185 ∧ (j = 1)) ∨ (k = k1 ∧ (j = 4)) ∨ k = k1 + 1 ∨ k = k1 + 2) M0 M → qX5_release_L0 k1 p2 Q n M → qX5_release_L0 k1 p2 Q' n M := by
  intro n
  induction n with
  | zero => intro M _ h; exact h.elim
  | succ n ih =>
    intro M hF h
    rw [qX5_release_L0] at h
    rw [qX5_release_L0]
    intro x13_1 g2 g3
    have h1 := h x13_1 g2 g3
    obtain ⟨h4, h5⟩ := h1
    refine ⟨?_, ?_⟩
    · intro g6
      have h7 := h4 g6
      exact hQ _ hF h7
    · intro g8
      have h9 := h5 g8
      refine fmX5_latestBinding h9 ?_
      intro x15_11 M15_12 f10 h10
      have F10 : Ks (fun k j => (k = 185 ∧ (j = 1)) ∨ (k = k1 ∧ (j = 4)) ∨ k = k1 + 1 ∨ k = k1 + 2) M0 M15_12 := (hF).tr (f10.mono (fun _ _ h => False.elim h))
      intro g13
      have h14 := h10 g13
      obtain ⟨h15, h16⟩ := h14
      refine ⟨?_, ?_⟩
      · intro g17
        have h18 := h15 g17
        exact hQ _ F10 h18
      · intro g19
        have h20 := h16 g19
        intro x17_21 g22 g23
        have h21 := h20 x17_21 g22 g23
        obtain ⟨v24, h24⟩ := h21
        refine ⟨v24, ?_⟩
        intro M19_25 eM19_25
        have h25 := h24 M19_25 eM19_25
        have F25 : Ks (fun k j => (k = 185 ∧ (j = 1)) ∨ (k = k1 ∧ (j = 4)) ∨ k = k1 + 1 ∨ k = k1 + 2) M0 M19_25 := by rw [eM19_25]; exact (F10).wr (mw_42)
        intro x20_26 g27 g28
        have h26 := h25 x20_26 g27 g28
        obtain ⟨v29, h29⟩ := h26
        refine ⟨v29, ?_⟩
        obtain ⟨v30, h30⟩ := h29
        refine ⟨v30, ?_⟩
        intro x23_31 g32 g33
        have h31 := h30 x23_31 g32 g33
        refine fmX2_add h31 ?_
        intro M24_35 f34 h34
        have F34 : Ks (fun k j => (k = 185 ∧ (j = 1)) ∨ (k = k1 ∧ (j = 4)) ∨ k = k1 + 1 ∨ k = k1 + 2) M0 M24_35 := (F25).tr (f34.mono (mo_22))
        exact ih _ F34 h34
theorem fmX5_release {k1 : Nat} {p2 : Int} {M : Mem} {Q Q' : Mem → Prop} (h : qX5_release k1 p2 M Q) (hQ : ∀ (M' : Mem), Ks (fun k j => (k = 185 ∧ (j = 1)) ∨ (k = k1 ∧ (j = 4)) ∨ k = k1 + 1 ∨ k = k1 + 2) M M' → Q M' → Q' M') : qX5_release k1 p2 M Q' := by
  unfold qX5_release at h ⊢
  intro x1_1 g2 g3
  have h1 := h x1_1 g2 g3
  obtain ⟨h4, h5⟩ := h1
  refine ⟨?_, ?_⟩
  · intro g6
    have h7 := h4 g6
    exact hQ _ Ks.rf h7
  · intro g8
    have h9 := h5 g8
    refine fmX5_latestBinding h9 ?_
    intro x3_11 M3_12 f10 h10
    have F10 : Ks (fun k j => (k = 185 ∧ (j = 1)) ∨ (k = k1 ∧ (j = 4)) ∨ k = k1 + 1 ∨ k = k1 + 2) M M3_12 := (Ks.rf).tr (f10.mono (fun _ _ h => False.elim h))
    intro g13
    have h14 := h10 g13
    obtain ⟨h15, h16⟩ := h14
    refine ⟨?_, ?_⟩
    · intro g17
      have h18 := h15 g17
      exact hQ _ F10 h18
    · intro g19
      have h20 := h16 g19
      intro x5_21 g22 g23
      have h21 := h20 x5_21 g22 g23
      obtain ⟨v24, h24⟩ := h21
      refine ⟨v24, ?_⟩
      intro M7_25 eM7_25
      have h25 := h24 M7_25 eM7_25
      have F25 : Ks (fun k j => (k = 185 ∧ (j = 1)) ∨ (k = k1 ∧ (j = 4)) ∨ k = k1 + 1 ∨ k = k1 + 2) M M7_25 := by rw [eM7_25]; exact (F10).wr (mw_42)
      intro x8_26 g27 g28
      have h26 := h25 x8_26 g27 g28
      obtain ⟨v29, h29⟩ := h26
      refine ⟨v29, ?_⟩
      obtain ⟨v30, h30⟩ := h29
      refine ⟨v30, ?_⟩
      intro x11_31 g32 g33
      have h31 := h30 x11_31 g32 g33
      refine fmX2_add h31 ?_
      intro M12_35 f34 h34
      have F34 : Ks (fun k j => (k = 185 ∧ (j = 1)) ∨ (k = k1 ∧ (j = 4)) ∨ k = k1 + 1 ∨ k = k1 + 2) M M12_35 := (F25).tr (f34.mono (mo_22))
      obtain ⟨n36, h36⟩ := h34
      refine ⟨n36, ?_⟩
      refine fmX5_release_L0 hQ _ _ F34 h36
theorem fmX5_hold {p1 : Int} {M : Mem} {Q Q' : Mem → Prop} (h : qX5_hold p1 M Q) (hQ : ∀ (M' : Mem), Ks (fun k j => k = 186 ∨ (k = 185 ∧ (j = 1))) M M' → Q M' → Q' M') : qX5_hold p1 M Q' := by
  unfold qX5_hold at h ⊢
  intro x1_1 g2 g3
  have h1 := h x1_1 g2 g3
  obtain ⟨h4, h5⟩ := h1
  refine ⟨?_, ?_⟩
  · intro g6
    have h7 := h4 g6
    exact hQ _ Ks.rf h7
  · intro g8
    have h9 := h5 g8
    intro x3_10 g11 g12
    have h10 := h9 x3_10 g11 g12
    obtain ⟨v13, h13⟩ := h10
    refine ⟨v13, ?_⟩
    obtain ⟨v14, h14⟩ := h13
    refine ⟨v14, ?_⟩
    intro M6_15 eM6_15
    have h15 := h14 M6_15 eM6_15
    have F15 : Ks (fun k j => k = 186 ∨ (k = 185 ∧ (j = 1))) M M6_15 := by rw [eM6_15]; exact (Ks.rf).wr (mw_43 _)
    intro x7_16 g17 g18
    have h16 := h15 x7_16 g17 g18
    obtain ⟨v19, h19⟩ := h16
    refine ⟨v19, ?_⟩
    intro M9_20 eM9_20
    have h20 := h19 M9_20 eM9_20
    have F20 : Ks (fun k j => k = 186 ∨ (k = 185 ∧ (j = 1))) M M9_20 := by rw [eM9_20]; exact (F15).wr (mw_44)
    exact hQ _ F20 h20
theorem fmX5_takeSign {k2 : Nat} {M : Mem} {Q Q' : Int → Mem → Prop} (h : qX5_takeSign k2 M Q) (hQ : ∀ (w0 : Int) (M' : Mem), Ks (fun k j => k = 186 ∨ (k = 156 ∧ (j = 2)) ∨ (k = 185 ∧ (j = 1 ∨ j = 2 ∨ j = 3)) ∨ (k = k2 ∧ (j = 4)) ∨ k = k2 + 1 ∨ k = k2 + 2) M M' → Q w0 M' → Q' w0 M') : qX5_takeSign k2 M Q' := by
  unfold qX5_takeSign at h ⊢
  refine fmX9_look h ?_
  intro x1_2 M1_3 f1 h1
  have F1 : Ks (fun k j => k = 186 ∨ (k = 156 ∧ (j = 2)) ∨ (k = 185 ∧ (j = 1 ∨ j = 2 ∨ j = 3)) ∨ (k = k2 ∧ (j = 4)) ∨ k = k2 + 1 ∨ k = k2 + 2) M M1_3 := (Ks.rf).tr (f1.mono (fun _ _ h => False.elim h))
  intro g4
  have h5 := h1 g4
  refine fmX5_bindingOf h5 ?_
  intro x2_7 M2_8 f6 h6
  have F6 : Ks (fun k j => k = 186 ∨ (k = 156 ∧ (j = 2)) ∨ (k = 185 ∧ (j = 1 ∨ j = 2 ∨ j = 3)) ∨ (k = k2 ∧ (j = 4)) ∨ k = k2 + 1 ∨ k = k2 + 2) M M2_8 := (F1).tr (f6.mono (fun _ _ h => False.elim h))
  intro g9
  have h10 := h6 g9
  obtain ⟨h11, h12⟩ := h10
  refine ⟨?_, ?_⟩
  · intro g13
    have h14 := h11 g13
    unfold qX5_takeSign_J53 at h14 ⊢
    obtain ⟨v15, h15⟩ := h14
    refine ⟨v15, ?_⟩
    obtain ⟨h16, h17⟩ := h15
    refine ⟨?_, ?_⟩
    · intro g18
      have h19 := h16 g18
      obtain ⟨h20, h21⟩ := h19
      refine ⟨?_, ?_⟩
      · intro g22
        have h23 := h20 g22
        exact hQ _ _ F6 h23
      · intro g24
        have h25 := h21 g24
        refine fmX5_release h25 ?_
        intro M7_27 f26 h26
        have F26 : Ks (fun k j => k = 186 ∨ (k = 156 ∧ (j = 2)) ∨ (k = 185 ∧ (j = 1 ∨ j = 2 ∨ j = 3)) ∨ (k = k2 ∧ (j = 4)) ∨ k = k2 + 1 ∨ k = k2 + 2) M M7_27 := (F6).tr (f26.mono (mo_23))
        obtain ⟨v28, h28⟩ := h26
        refine ⟨v28, ?_⟩
        refine fmX5_hold h28 ?_
        intro M9_30 f29 h29
        have F29 : Ks (fun k j => k = 186 ∨ (k = 156 ∧ (j = 2)) ∨ (k = 185 ∧ (j = 1 ∨ j = 2 ∨ j = 3)) ∨ (k = k2 ∧ (j = 4)) ∨ k = k2 + 1 ∨ k = k2 + 2) M M9_30 := (F26).tr (f29.mono (mo_24))
        intro M10_31 eM10_31
        have h31 := h29 M10_31 eM10_31
        have F31 : Ks (fun k j => k = 186 ∨ (k = 156 ∧ (j = 2)) ∨ (k = 185 ∧ (j = 1 ∨ j = 2 ∨ j = 3)) ∨ (k = k2 ∧ (j = 4)) ∨ k = k2 + 1 ∨ k = k2 + 2) M M10_31 := by rw [eM10_31]; exact (F29).wr (mw_45)
        unfold qX5_takeSign_J116 at h31 ⊢
        refine fmX9_pass h31 ?_
        intro M11_33 f32 h32
        have F32 : Ks (fun k j => k = 186 ∨ (k = 156 ∧ (j = 2)) ∨ (k = 185 ∧ (j = 1 ∨ j = 2 ∨ j = 3)) ∨ (k = k2 ∧ (j = 4)) ∨ k = k2 + 1 ∨ k = k2 + 2) M M11_33 := (F31).tr (f32.mono (mo_25))
        exact hQ _ _ F32 h32
    · intro g34
      have h35 := h17 g34
      refine fmX5_release h35 ?_
      intro M12_37 f36 h36
      have F36 : Ks (fun k j => k = 186 ∨ (k = 156 ∧ (j = 2)) ∨ (k = 185 ∧ (j = 1 ∨ j = 2 ∨ j = 3)) ∨ (k = k2 ∧ (j = 4)) ∨ k = k2 + 1 ∨ k = k2 + 2) M M12_37 := (F6).tr (f36.mono (mo_23))
      refine fmX5_latestBinding h36 ?_
      intro x13_39 M13_40 f38 h38
      have F38 : Ks (fun k j => k = 186 ∨ (k = 156 ∧ (j = 2)) ∨ (k = 185 ∧ (j = 1 ∨ j = 2 ∨ j = 3)) ∨ (k = k2 ∧ (j = 4)) ∨ k = k2 + 1 ∨ k = k2 + 2) M M13_40 := (F36).tr (f38.mono (fun _ _ h => False.elim h))
      intro g41
      have h42 := h38 g41
      obtain ⟨h43, h44⟩ := h42
      refine ⟨?_, ?_⟩
      · intro g45
        have h46 := h43 g45
        obtain ⟨v47, h47⟩ := h46
        refine ⟨v47, ?_⟩
        refine fmX5_hold h47 ?_
        intro M16_49 f48 h48
        have F48 : Ks (fun k j => k = 186 ∨ (k = 156 ∧ (j = 2)) ∨ (k = 185 ∧ (j = 1 ∨ j = 2 ∨ j = 3)) ∨ (k = k2 ∧ (j = 4)) ∨ k = k2 + 1 ∨ k = k2 + 2) M M16_49 := (F38).tr (f48.mono (mo_24))
        intro M17_50 eM17_50
        have h50 := h48 M17_50 eM17_50
        have F50 : Ks (fun k j => k = 186 ∨ (k = 156 ∧ (j = 2)) ∨ (k = 185 ∧ (j = 1 ∨ j = 2 ∨ j = 3)) ∨ (k = k2 ∧ (j = 4)) ∨ k = k2 + 1 ∨ k = k2 + 2) M M17_50 := by rw [eM17_50]; exact (F48).wr (mw_45)
        unfold qX5_takeSign_J116 at h50 ⊢
        refine fmX9_pass h50 ?_
        intro M11_52 f51 h51
        have F51 : Ks (fun k j => k = 186 ∨ (k = 156 ∧ (j = 2)) ∨ (k = 185 ∧ (j = 1 ∨ j = 2 ∨ j = 3)) ∨ (k = k2 ∧ (j = 4)) ∨ k = k2 + 1 ∨ k = k2 + 2) M M11_52 := (F50).tr (f51.mono (mo_25))
        exact hQ _ _ F51 h51
      · intro g53
        have h54 := h44 g53
        exact hQ _ _ F38 h54
  · intro g55
    have h56 := h12 g55
    intro x18_57 g58 g59
    have h57 := h56 x18_57 g58 g59
    obtain ⟨h60, h61⟩ := h57
    refine ⟨?_, ?_⟩
    · intro g62
      have h63 := h60 g62
      unfold qX5_takeSign_J53 at h63 ⊢
      obtain ⟨v64, h64⟩ := h63
      refine ⟨v64, ?_⟩
      obtain ⟨h65, h66⟩ := h64
      refine ⟨?_, ?_⟩
      · intro g67
        have h68 := h65 g67
        obtain ⟨h69, h70⟩ := h68
        refine ⟨?_, ?_⟩
        · intro g71
          have h72 := h69 g71
          exact hQ _ _ F6 h72
        · intro g73
          have h74 := h70 g73
          refine fmX5_release h74 ?_
          intro M7_76 f75 h75
          have F75 : Ks (fun k j => k = 186 ∨ (k = 156 ∧ (j = 2)) ∨ (k = 185 ∧ (j = 1 ∨ j = 2 ∨ j = 3)) ∨ (k = k2 ∧ (j = 4)) ∨ k = k2 + 1 ∨ k = k2 + 2) M M7_76 := (F6).tr (f75.mono (mo_23))
          obtain ⟨v77, h77⟩ := h75
          refine ⟨v77, ?_⟩
          refine fmX5_hold h77 ?_
          intro M9_79 f78 h78
          have F78 : Ks (fun k j => k = 186 ∨ (k = 156 ∧ (j = 2)) ∨ (k = 185 ∧ (j = 1 ∨ j = 2 ∨ j = 3)) ∨ (k = k2 ∧ (j = 4)) ∨ k = k2 + 1 ∨ k = k2 + 2) M M9_79 := (F75).tr (f78.mono (mo_24))
          intro M10_80 eM10_80
          have h80 := h78 M10_80 eM10_80
          have F80 : Ks (fun k j => k = 186 ∨ (k = 156 ∧ (j = 2)) ∨ (k = 185 ∧ (j = 1 ∨ j = 2 ∨ j = 3)) ∨ (k = k2 ∧ (j = 4)) ∨ k = k2 + 1 ∨ k = k2 + 2) M M10_80 := by rw [eM10_80]; exact (F78).wr (mw_45)
          unfold qX5_takeSign_J116 at h80 ⊢
          refine fmX9_pass h80 ?_
          intro M11_82 f81 h81
          have F81 : Ks (fun k j => k = 186 ∨ (k = 156 ∧ (j = 2)) ∨ (k = 185 ∧ (j = 1 ∨ j = 2 ∨ j = 3)) ∨ (k = k2 ∧ (j = 4)) ∨ k = k2 + 1 ∨ k = k2 + 2) M M11_82 := (F80).tr (f81.mono (mo_25))
          exact hQ _ _ F81 h81
      · intro g83
        have h84 := h66 g83
        refine fmX5_release h84 ?_
        intro M12_86 f85 h85
        have F85 : Ks (fun k j => k = 186 ∨ (k = 156 ∧ (j = 2)) ∨ (k = 185 ∧ (j = 1 ∨ j = 2 ∨ j = 3)) ∨ (k = k2 ∧ (j = 4)) ∨ k = k2 + 1 ∨ k = k2 + 2) M M12_86 := (F6).tr (f85.mono (mo_23))
        refine fmX5_latestBinding h85 ?_
        intro x13_88 M13_89 f87 h87
        have F87 : Ks (fun k j => k = 186 ∨ (k = 156 ∧ (j = 2)) ∨ (k = 185 ∧ (j = 1 ∨ j = 2 ∨ j = 3)) ∨ (k = k2 ∧ (j = 4)) ∨ k = k2 + 1 ∨ k = k2 + 2) M M13_89 := (F85).tr (f87.mono (fun _ _ h => False.elim h))
        intro g90
        have h91 := h87 g90
        obtain ⟨h92, h93⟩ := h91
        refine ⟨?_, ?_⟩
        · intro g94
          have h95 := h92 g94
          obtain ⟨v96, h96⟩ := h95
          refine ⟨v96, ?_⟩
          refine fmX5_hold h96 ?_
          intro M16_98 f97 h97
          have F97 : Ks (fun k j => k = 186 ∨ (k = 156 ∧ (j = 2)) ∨ (k = 185 ∧ (j = 1 ∨ j = 2 ∨ j = 3)) ∨ (k = k2 ∧ (j = 4)) ∨ k = k2 + 1 ∨ k = k2 + 2) M M16_98 := (F87).tr (f97.mono (mo_24))
          intro M17_99 eM17_99
          have h99 := h97 M17_99 eM17_99
          have F99 : Ks (fun k j => k = 186 ∨ (k = 156 ∧ (j = 2)) ∨ (k = 185 ∧ (j = 1 ∨ j = 2 ∨ j = 3)) ∨ (k = k2 ∧ (j = 4)) ∨ k = k2 + 1 ∨ k = k2 + 2) M M17_99 := by rw [eM17_99]; exact (F97).wr (mw_45)
          unfold qX5_takeSign_J116 at h99 ⊢
          refine fmX9_pass h99 ?_
          intro M11_101 f100 h100
          have F100 : Ks (fun k j => k = 186 ∨ (k = 156 ∧ (j = 2)) ∨ (k = 185 ∧ (j = 1 ∨ j = 2 ∨ j = 3)) ∨ (k = k2 ∧ (j = 4)) ∨ k = k2 + 1 ∨ k = k2 + 2) M M11_101 := (F99).tr (f100.mono (mo_25))
          exact hQ _ _ F100 h100
        · intro g102
          have h103 := h93 g102
          exact hQ _ _ F87 h103
    · intro g104
      have h105 := h61 g104
      refine fmX5_release h105 ?_
      intro M20_107 f106 h106
      have F106 : Ks (fun k j => k = 186 ∨ (k = 156 ∧ (j = 2)) ∨ (k = 185 ∧ (j = 1 ∨ j = 2 ∨ j = 3)) ∨ (k = k2 ∧ (j = 4)) ∨ k = k2 + 1 ∨ k = k2 + 2) M M20_107 := (F6).tr (f106.mono (mo_23))
      intro x21_108 g109 g110
      have h108 := h106 x21_108 g109 g110
      obtain ⟨v111, h111⟩ := h108
      refine ⟨v111, ?_⟩
      intro M23_112 eM23_112
      have h112 := h111 M23_112 eM23_112
      have F112 : Ks (fun k j => k = 186 ∨ (k = 156 ∧ (j = 2)) ∨ (k = 185 ∧ (j = 1 ∨ j = 2 ∨ j = 3)) ∨ (k = k2 ∧ (j = 4)) ∨ k = k2 + 1 ∨ k = k2 + 2) M M23_112 := by rw [eM23_112]; exact (F106).wr (mw_46)
      intro x24_113 g114 g115
      have h113 := h112 x24_113 g114 g115
      obtain ⟨v116, h116⟩ := h113
      refine ⟨v116, ?_⟩
      intro M26_117 eM26_117
      have h117 := h116 M26_117 eM26_117
      have F117 : Ks (fun k j => k = 186 ∨ (k = 156 ∧ (j = 2)) ∨ (k = 185 ∧ (j = 1 ∨ j = 2 ∨ j = 3)) ∨ (k = k2 ∧ (j = 4)) ∨ k = k2 + 1 ∨ k = k2 + 2) M M26_117 := by rw [eM26_117]; exact (F112).wr (mw_47)
      unfold qX5_takeSign_J116 at h117 ⊢
      refine fmX9_pass h117 ?_
      intro M11_119 f118 h118
      have F118 : Ks (fun k j => k = 186 ∨ (k = 156 ∧ (j = 2)) ∨ (k = 185 ∧ (j = 1 ∨ j = 2 ∨ j = 3)) ∨ (k = k2 ∧ (j = 4)) ∨ k = k2 + 1 ∨ k = k2 + 2) M M11_119 := (F117).tr (f118.mono (mo_25))
      exact hQ _ _ F118 h118
theorem fmX5_takeThing {k2 : Nat} {M : Mem} {Q Q' : Int → Mem → Prop} (h : qX5_takeThing k2 M Q) (hQ : ∀ (w0 : Int) (M' : Mem), Ks (fun k j => k = 186 ∨ (k = 156 ∧ (j = 2)) ∨ (k = 185 ∧ (j = 1 ∨ j = 2 ∨ j = 3)) ∨ (k = k2 ∧ (j = 4 ∨ j = 5)) ∨ k = k2 + 1 ∨ k = k2 + 2) M M' → Q w0 M' → Q' w0 M') : qX5_takeThing k2 M Q' := by
  unfold qX5_takeThing at h ⊢
  refine fmX9_number h ?_
  intro x1_2 M1_3 f1 h1
  have F1 : Ks (fun k j => k = 186 ∨ (k = 156 ∧ (j = 2)) ∨ (k = 185 ∧ (j = 1 ∨ j = 2 ∨ j = 3)) ∨ (k = k2 ∧ (j = 4 ∨ j = 5)) ∨ k = k2 + 1 ∨ k = k2 + 2) M M1_3 := (Ks.rf).tr (f1.mono (mo_26))
  intro g4
  have h5 := h1 g4
  obtain ⟨h6, h7⟩ := h5
  refine ⟨?_, ?_⟩
  · intro g8
    have h9 := h6 g8
    refine fmX9_look h9 ?_
    intro x3_11 M3_12 f10 h10
    have F10 : Ks (fun k j => k = 186 ∨ (k = 156 ∧ (j = 2)) ∨ (k = 185 ∧ (j = 1 ∨ j = 2 ∨ j = 3)) ∨ (k = k2 ∧ (j = 4 ∨ j = 5)) ∨ k = k2 + 1 ∨ k = k2 + 2) M M3_12 := (F1).tr (f10.mono (fun _ _ h => False.elim h))
    intro g13
    have h14 := h10 g13
    obtain ⟨h15, h16⟩ := h14
    refine ⟨?_, ?_⟩
    · intro g17
      have h18 := h15 g17
      obtain ⟨h19, h20⟩ := h18
      refine ⟨?_, ?_⟩
      · intro g21
        have h22 := h19 g21
        unfold qX5_takeThing_J83 at h22 ⊢
        obtain ⟨v23, h23⟩ := h22
        refine ⟨v23, ?_⟩
        obtain ⟨h24, h25⟩ := h23
        refine ⟨?_, ?_⟩
        · intro g26
          have h27 := h24 g26
          obtain ⟨v28, h28⟩ := h27
          refine ⟨v28, ?_⟩
          obtain ⟨v29, h29⟩ := h28
          refine ⟨v29, ?_⟩
          intro x10_30 g31 g32
          have h30 := h29 x10_30 g31 g32
          unfold qX5_takeThing_J101 at h30 ⊢
          obtain ⟨v33, h33⟩ := h30
          refine ⟨v33, ?_⟩
          obtain ⟨h34, h35⟩ := h33
          refine ⟨?_, ?_⟩
          · intro g36
            have h37 := h34 g36
            refine fmX2_addLetter h37 ?_
            intro M13_39 f38 h38
            have F38 : Ks (fun k j => k = 186 ∨ (k = 156 ∧ (j = 2)) ∨ (k = 185 ∧ (j = 1 ∨ j = 2 ∨ j = 3)) ∨ (k = k2 ∧ (j = 4 ∨ j = 5)) ∨ k = k2 + 1 ∨ k = k2 + 2) M M13_39 := (F10).tr (f38.mono (mo_27))
            intro M14_40 eM14_40
            have h40 := h38 M14_40 eM14_40
            have F40 : Ks (fun k j => k = 186 ∨ (k = 156 ∧ (j = 2)) ∨ (k = 185 ∧ (j = 1 ∨ j = 2 ∨ j = 3)) ∨ (k = k2 ∧ (j = 4 ∨ j = 5)) ∨ k = k2 + 1 ∨ k = k2 + 2) M M14_40 := by rw [eM14_40]; exact (F38).wr (mw_48)
            unfold qX5_takeThing_J121 at h40 ⊢
            refine fmX9_pass h40 ?_
            intro M15_42 f41 h41
            have F41 : Ks (fun k j => k = 186 ∨ (k = 156 ∧ (j = 2)) ∨ (k = 185 ∧ (j = 1 ∨ j = 2 ∨ j = 3)) ∨ (k = k2 ∧ (j = 4 ∨ j = 5)) ∨ k = k2 + 1 ∨ k = k2 + 2) M M15_42 := (F40).tr (f41.mono (mo_26))
            exact hQ _ _ F41 h41
          · intro g43
            have h44 := h35 g43
            exact hQ _ _ F10 h44
        · intro g45
          have h46 := h25 g45
          unfold qX5_takeThing_J101 at h46 ⊢
          obtain ⟨v47, h47⟩ := h46
          refine ⟨v47, ?_⟩
          obtain ⟨h48, h49⟩ := h47
          refine ⟨?_, ?_⟩
          · intro g50
            have h51 := h48 g50
            refine fmX2_addLetter h51 ?_
            intro M13_53 f52 h52
            have F52 : Ks (fun k j => k = 186 ∨ (k = 156 ∧ (j = 2)) ∨ (k = 185 ∧ (j = 1 ∨ j = 2 ∨ j = 3)) ∨ (k = k2 ∧ (j = 4 ∨ j = 5)) ∨ k = k2 + 1 ∨ k = k2 + 2) M M13_53 := (F10).tr (f52.mono (mo_27))
            intro M14_54 eM14_54
            have h54 := h52 M14_54 eM14_54
            have F54 : Ks (fun k j => k = 186 ∨ (k = 156 ∧ (j = 2)) ∨ (k = 185 ∧ (j = 1 ∨ j = 2 ∨ j = 3)) ∨ (k = k2 ∧ (j = 4 ∨ j = 5)) ∨ k = k2 + 1 ∨ k = k2 + 2) M M14_54 := by rw [eM14_54]; exact (F52).wr (mw_48)
            unfold qX5_takeThing_J121 at h54 ⊢
            refine fmX9_pass h54 ?_
            intro M15_56 f55 h55
            have F55 : Ks (fun k j => k = 186 ∨ (k = 156 ∧ (j = 2)) ∨ (k = 185 ∧ (j = 1 ∨ j = 2 ∨ j = 3)) ∨ (k = k2 ∧ (j = 4 ∨ j = 5)) ∨ k = k2 + 1 ∨ k = k2 + 2) M M15_56 := (F54).tr (f55.mono (mo_26))
            exact hQ _ _ F55 h55
          · intro g57
            have h58 := h49 g57
            exact hQ _ _ F10 h58
      · intro g59
        have h60 := h20 g59
        intro x16_61 g62 g63
        have h61 := h60 x16_61 g62 g63
        obtain ⟨h64, h65⟩ := h61
        refine ⟨?_, ?_⟩
        · intro g66
          have h67 := h64 g66
          unfold qX5_takeThing_J83 at h67 ⊢
          obtain ⟨v68, h68⟩ := h67
          refine ⟨v68, ?_⟩
          obtain ⟨h69, h70⟩ := h68
          refine ⟨?_, ?_⟩
          · intro g71
            have h72 := h69 g71
            obtain ⟨v73, h73⟩ := h72
            refine ⟨v73, ?_⟩
            obtain ⟨v74, h74⟩ := h73
            refine ⟨v74, ?_⟩
            intro x10_75 g76 g77
            have h75 := h74 x10_75 g76 g77
            unfold qX5_takeThing_J101 at h75 ⊢
            obtain ⟨v78, h78⟩ := h75
            refine ⟨v78, ?_⟩
            obtain ⟨h79, h80⟩ := h78
            refine ⟨?_, ?_⟩
            · intro g81
              have h82 := h79 g81
              refine fmX2_addLetter h82 ?_
              intro M13_84 f83 h83
              have F83 : Ks (fun k j => k = 186 ∨ (k = 156 ∧ (j = 2)) ∨ (k = 185 ∧ (j = 1 ∨ j = 2 ∨ j = 3)) ∨ (k = k2 ∧ (j = 4 ∨ j = 5)) ∨ k = k2 + 1 ∨ k = k2 + 2) M M13_84 := (F10).tr (f83.mono (mo_27))
              intro M14_85 eM14_85
              have h85 := h83 M14_85 eM14_85
              have F85 : Ks (fun k j => k = 186 ∨ (k = 156 ∧ (j = 2)) ∨ (k = 185 ∧ (j = 1 ∨ j = 2 ∨ j = 3)) ∨ (k = k2 ∧ (j = 4 ∨ j = 5)) ∨ k = k2 + 1 ∨ k = k2 + 2) M M14_85 := by rw [eM14_85]; exact (F83).wr (mw_48)
              unfold qX5_takeThing_J121 at h85 ⊢
              refine fmX9_pass h85 ?_
              intro M15_87 f86 h86
              have F86 : Ks (fun k j => k = 186 ∨ (k = 156 ∧ (j = 2)) ∨ (k = 185 ∧ (j = 1 ∨ j = 2 ∨ j = 3)) ∨ (k = k2 ∧ (j = 4 ∨ j = 5)) ∨ k = k2 + 1 ∨ k = k2 + 2) M M15_87 := (F85).tr (f86.mono (mo_26))
              exact hQ _ _ F86 h86
            · intro g88
              have h89 := h80 g88
              exact hQ _ _ F10 h89
          · intro g90
            have h91 := h70 g90
            unfold qX5_takeThing_J101 at h91 ⊢
            obtain ⟨v92, h92⟩ := h91
            refine ⟨v92, ?_⟩
            obtain ⟨h93, h94⟩ := h92
            refine ⟨?_, ?_⟩
            · intro g95
              have h96 := h93 g95
              refine fmX2_addLetter h96 ?_
              intro M13_98 f97 h97
              have F97 : Ks (fun k j => k = 186 ∨ (k = 156 ∧ (j = 2)) ∨ (k = 185 ∧ (j = 1 ∨ j = 2 ∨ j = 3)) ∨ (k = k2 ∧ (j = 4 ∨ j = 5)) ∨ k = k2 + 1 ∨ k = k2 + 2) M M13_98 := (F10).tr (f97.mono (mo_27))
              intro M14_99 eM14_99
              have h99 := h97 M14_99 eM14_99
              have F99 : Ks (fun k j => k = 186 ∨ (k = 156 ∧ (j = 2)) ∨ (k = 185 ∧ (j = 1 ∨ j = 2 ∨ j = 3)) ∨ (k = k2 ∧ (j = 4 ∨ j = 5)) ∨ k = k2 + 1 ∨ k = k2 + 2) M M14_99 := by rw [eM14_99]; exact (F97).wr (mw_48)
              unfold qX5_takeThing_J121 at h99 ⊢
              refine fmX9_pass h99 ?_
              intro M15_101 f100 h100
              have F100 : Ks (fun k j => k = 186 ∨ (k = 156 ∧ (j = 2)) ∨ (k = 185 ∧ (j = 1 ∨ j = 2 ∨ j = 3)) ∨ (k = k2 ∧ (j = 4 ∨ j = 5)) ∨ k = k2 + 1 ∨ k = k2 + 2) M M15_101 := (F99).tr (f100.mono (mo_26))
              exact hQ _ _ F100 h100
            · intro g102
              have h103 := h94 g102
              exact hQ _ _ F10 h103
        · intro g104
          have h105 := h65 g104
          intro x18_106 g107 g108
          have h106 := h105 x18_106 g107 g108
          obtain ⟨v109, h109⟩ := h106
          refine ⟨v109, ?_⟩
          intro M20_110 eM20_110
          have h110 := h109 M20_110 eM20_110
          have F110 : Ks (fun k j => k = 186 ∨ (k = 156 ∧ (j = 2)) ∨ (k = 185 ∧ (j = 1 ∨ j = 2 ∨ j = 3)) ∨ (k = k2 ∧ (j = 4 ∨ j = 5)) ∨ k = k2 + 1 ∨ k = k2 + 2) M M20_110 := by rw [eM20_110]; exact (F10).wr (mw_49)
          refine fmX5_hold h110 ?_
          intro M21_112 f111 h111
          have F111 : Ks (fun k j => k = 186 ∨ (k = 156 ∧ (j = 2)) ∨ (k = 185 ∧ (j = 1 ∨ j = 2 ∨ j = 3)) ∨ (k = k2 ∧ (j = 4 ∨ j = 5)) ∨ k = k2 + 1 ∨ k = k2 + 2) M M21_112 := (F110).tr (f111.mono (mo_28))
          unfold qX5_takeThing_J121 at h111 ⊢
          refine fmX9_pass h111 ?_
          intro M15_114 f113 h113
          have F113 : Ks (fun k j => k = 186 ∨ (k = 156 ∧ (j = 2)) ∨ (k = 185 ∧ (j = 1 ∨ j = 2 ∨ j = 3)) ∨ (k = k2 ∧ (j = 4 ∨ j = 5)) ∨ k = k2 + 1 ∨ k = k2 + 2) M M15_114 := (F111).tr (f113.mono (mo_26))
          exact hQ _ _ F113 h113
    · intro g115
      have h116 := h16 g115
      refine fmX5_hold h116 ?_
      intro M22_118 f117 h117
      have F117 : Ks (fun k j => k = 186 ∨ (k = 156 ∧ (j = 2)) ∨ (k = 185 ∧ (j = 1 ∨ j = 2 ∨ j = 3)) ∨ (k = k2 ∧ (j = 4 ∨ j = 5)) ∨ k = k2 + 1 ∨ k = k2 + 2) M M22_118 := (F10).tr (f117.mono (mo_28))
      unfold qX5_takeThing_J121 at h117 ⊢
      refine fmX9_pass h117 ?_
      intro M15_120 f119 h119
      have F119 : Ks (fun k j => k = 186 ∨ (k = 156 ∧ (j = 2)) ∨ (k = 185 ∧ (j = 1 ∨ j = 2 ∨ j = 3)) ∨ (k = k2 ∧ (j = 4 ∨ j = 5)) ∨ k = k2 + 1 ∨ k = k2 + 2) M M15_120 := (F117).tr (f119.mono (mo_26))
      exact hQ _ _ F119 h119
  · intro g121
    have h122 := h7 g121
    refine fmX2_add h122 ?_
    intro M23_124 f123 h123
    have F123 : Ks (fun k j => k = 186 ∨ (k = 156 ∧ (j = 2)) ∨ (k = 185 ∧ (j = 1 ∨ j = 2 ∨ j = 3)) ∨ (k = k2 ∧ (j = 4 ∨ j = 5)) ∨ k = k2 + 1 ∨ k = k2 + 2) M M23_124 := (F1).tr (f123.mono (mo_29))
    intro M24_125 eM24_125
    have h125 := h123 M24_125 eM24_125
    have F125 : Ks (fun k j => k = 186 ∨ (k = 156 ∧ (j = 2)) ∨ (k = 185 ∧ (j = 1 ∨ j = 2 ∨ j = 3)) ∨ (k = k2 ∧ (j = 4 ∨ j = 5)) ∨ k = k2 + 1 ∨ k = k2 + 2) M M24_125 := by rw [eM24_125]; exact (F123).wr (mw_48)
    exact hQ _ _ F125 h125
theorem fmX9_isRead  {M : Mem} {Q Q' : Int → Mem → Prop} (h : qX9_isRead M Q) (hQ : ∀ (w0 : Int) (M' : Mem), Ks (fun _ _ => False) M M' → Q w0 M' → Q' w0 M') : qX9_isRead M Q' := by
  unfold qX9_isRead at h ⊢
  intro x1_1 g2 g3
  have h1 := h x1_1 g2 g3
  intro x2_4 g5 g6
  have h4 := h1 x2_4 g5 g6
  obtain ⟨h7, h8⟩ := h4
  refine ⟨?_, ?_⟩
  · intro g9
    have h10 := h7 g9
    exact hQ _ _ Ks.rf h10
  · intro g11
    have h12 := h8 g11
    exact hQ _ _ Ks.rf h12
theorem fmX5_read_L40 {k2 : Nat} {X92 X92' : Mem → Prop} {Q Q' : Int → Mem → Prop} {M0 : Mem} (hQ : ∀ (w0 : Int) (M' : Mem), Ks (fun k j => k = 186 ∨ (k = 156 ∧ (j = 2 ∨ j = 3)) ∨ (k = 185 ∧ (j = 1 ∨ j = 2 ∨ j = 3)) ∨ (k = k2 ∧ (j = 4 ∨ j = 5)) ∨ k = k2 + 1 ∨ k = k2 + 2) M0 M' → Q w0 M' → Q' w0 M') (hX92 : ∀ (M' : Mem), Ks (fun k j => k = 186 ∨ (k = 156 ∧ (j = 2 ∨ j = 3)) ∨ (k = 185 ∧ (j = 1 ∨ j = 2 ∨ j = 3)) ∨ (k = k2 ∧ (j = 4 ∨ j = 5)) ∨ k = k2 + 1 ∨ k = k2 + 2) M0 M' → X92 M' → X92' M') : ∀ (n : Nat) (v3 : Int) (M : Mem), Ks (fun k j => k = 186 ∨ (k = 156 ∧ (j = 2 ∨ j = 3)) ∨ (k = 185 ∧ (j = 1 ∨ j = 2 ∨ j = 3)) ∨ (k = k2 ∧ (j = 4 ∨ j = 5)) ∨ k = k2 + 1 ∨ k = k2 + 2) M0 M → qX5_read_L40 k2 X92 Q n v3 M → qX5_read_L40 k2 X92' Q' n v3 M := by
  intro n
  induction n with
  | zero => intro v3 M _ h; exact h.elim
  | succ n ih =>
    intro v3 M hF h
    rw [qX5_read_L40] at h
    rw [qX5_read_L40]
    obtain ⟨v1, h1⟩ := h
    refine ⟨v1, ?_⟩
    obtain ⟨h2, h3⟩ := h1
    refine ⟨?_, ?_⟩
    · intro g4
      have h5 := h2 g4
      exact hX92 _ hF h5
    · intro g6
      have h7 := h3 g6
      refine fmX9_isRead h7 ?_
      intro x10_9 M10_10 f8 h8
      have F8 : Ks (fun k j => k = 186 ∨ (k = 156 ∧ (j = 2 ∨ j = 3)) ∨ (k = 185 ∧ (j = 1 ∨ j = 2 ∨ j = 3)) ∨ (k = k2 ∧ (j = 4 ∨ j = 5)) ∨ k = k2 + 1 ∨ k = k2 + 2) M0 M10_10 := (hF).tr (f8.mono (fun _ _ h => False.elim h))
      intro g11 g12
      have h13 := h8 g11 g12
      obtain ⟨h14, h15⟩ := h13
      refine ⟨?_, ?_⟩
      · intro g16
        have h17 := h14 g16
        exact hX92 _ F8 h17
      · intro g18
        have h19 := h15 g18
        intro x12_20 g21 g22
        have h20 := h19 x12_20 g21 g22
        obtain ⟨h23, h24⟩ := h20
        refine ⟨?_, ?_⟩
        · intro g25
          have h26 := h23 g25
          refine fmX5_takeSign h26 ?_
          intro x14_28 M14_29 f27 h27
          have F27 : Ks (fun k j => k = 186 ∨ (k = 156 ∧ (j = 2 ∨ j = 3)) ∨ (k = 185 ∧ (j = 1 ∨ j = 2 ∨ j = 3)) ∨ (k = k2 ∧ (j = 4 ∨ j = 5)) ∨ k = k2 + 1 ∨ k = k2 + 2) M0 M14_29 := (F8).tr (f27.mono (mo_30))
          intro g30 g31
          have h32 := h27 g30 g31
          obtain ⟨h33, h34⟩ := h32
          refine ⟨?_, ?_⟩
          · intro g35
            have h36 := h33 g35
            exact ih _ _ F27 h36
          · intro g37
            have h38 := h34 g37
            intro x16_39 g40 g41
            have h39 := h38 x16_39 g40 g41
            exact hQ _ _ F27 h39
        · intro g42
          have h43 := h24 g42
          refine fmX5_takeThing h43 ?_
          intro x17_45 M17_46 f44 h44
          have F44 : Ks (fun k j => k = 186 ∨ (k = 156 ∧ (j = 2 ∨ j = 3)) ∨ (k = 185 ∧ (j = 1 ∨ j = 2 ∨ j = 3)) ∨ (k = k2 ∧ (j = 4 ∨ j = 5)) ∨ k = k2 + 1 ∨ k = k2 + 2) M0 M17_46 := (F8).tr (f44.mono (mo_31))
          intro g47 g48
          have h49 := h44 g47 g48
          obtain ⟨h50, h51⟩ := h49
          refine ⟨?_, ?_⟩
          · intro g52
            have h53 := h50 g52
            intro x19_54 g55 g56
            have h54 := h53 x19_54 g55 g56
            exact hQ _ _ F44 h54
          · intro g57
            have h58 := h51 g57
            exact ih _ _ F44 h58
theorem fmX5_read {k2 : Nat} {M : Mem} {Q Q' : Int → Mem → Prop} (h : qX5_read k2 M Q) (hQ : ∀ (w0 : Int) (M' : Mem), Ks (fun k j => k = 186 ∨ (k = 156 ∧ (j = 2 ∨ j = 3)) ∨ (k = 185 ∧ (j = 1 ∨ j = 2 ∨ j = 3)) ∨ (k = k2 ∧ (j = 4 ∨ j = 5)) ∨ k = k2 + 1 ∨ k = k2 + 2) M M' → Q w0 M' → Q' w0 M') : qX5_read k2 M Q' := by
  unfold qX5_read at h ⊢
  refine fmX9_isEmpty h ?_
  intro x1_2 M1_3 f1 h1
  have F1 : Ks (fun k j => k = 186 ∨ (k = 156 ∧ (j = 2 ∨ j = 3)) ∨ (k = 185 ∧ (j = 1 ∨ j = 2 ∨ j = 3)) ∨ (k = k2 ∧ (j = 4 ∨ j = 5)) ∨ k = k2 + 1 ∨ k = k2 + 2) M M1_3 := (Ks.rf).tr (f1.mono (fun _ _ h => False.elim h))
  intro g4 g5
  have h6 := h1 g4 g5
  obtain ⟨h7, h8⟩ := h6
  refine ⟨?_, ?_⟩
  · intro g9
    have h10 := h7 g9
    refine fmX2_clear h10 ?_
    intro M3_12 f11 h11
    have F11 : Ks (fun k j => k = 186 ∨ (k = 156 ∧ (j = 2 ∨ j = 3)) ∨ (k = 185 ∧ (j = 1 ∨ j = 2 ∨ j = 3)) ∨ (k = k2 ∧ (j = 4 ∨ j = 5)) ∨ k = k2 + 1 ∨ k = k2 + 2) M M3_12 := (F1).tr (f11.mono (mo_32))
    intro M4_13 eM4_13
    have h13 := h11 M4_13 eM4_13
    have F13 : Ks (fun k j => k = 186 ∨ (k = 156 ∧ (j = 2 ∨ j = 3)) ∨ (k = 185 ∧ (j = 1 ∨ j = 2 ∨ j = 3)) ∨ (k = k2 ∧ (j = 4 ∨ j = 5)) ∨ k = k2 + 1 ∨ k = k2 + 2) M M4_13 := by rw [eM4_13]; exact (F11).wr (mw_50)
    intro M5_14 eM5_14
    have h14 := h13 M5_14 eM5_14
    have F14 : Ks (fun k j => k = 186 ∨ (k = 156 ∧ (j = 2 ∨ j = 3)) ∨ (k = 185 ∧ (j = 1 ∨ j = 2 ∨ j = 3)) ∨ (k = k2 ∧ (j = 4 ∨ j = 5)) ∨ k = k2 + 1 ∨ k = k2 + 2) M M5_14 := by rw [eM5_14]; exact (F13).wr (mw_51)
    intro M6_15 eM6_15
    have h15 := h14 M6_15 eM6_15
    have F15 : Ks (fun k j => k = 186 ∨ (k = 156 ∧ (j = 2 ∨ j = 3)) ∨ (k = 185 ∧ (j = 1 ∨ j = 2 ∨ j = 3)) ∨ (k = k2 ∧ (j = 4 ∨ j = 5)) ∨ k = k2 + 1 ∨ k = k2 + 2) M M6_15 := by rw [eM6_15]; exact (F14).wr (mw_52)
    refine fmX9_open h15 ?_
    intro M7_17 f16 h16
    have F16 : Ks (fun k j => k = 186 ∨ (k = 156 ∧ (j = 2 ∨ j = 3)) ∨ (k = 185 ∧ (j = 1 ∨ j = 2 ∨ j = 3)) ∨ (k = k2 ∧ (j = 4 ∨ j = 5)) ∨ k = k2 + 1 ∨ k = k2 + 2) M M7_17 := (F15).tr (f16.mono (mo_33))
    obtain ⟨n18, h18⟩ := h16
    refine ⟨n18, ?_⟩
    refine fmX5_read_L40 hQ ?_ _ _ _ F16 h18
    · intro M_20 F19 h19
      unfold qX5_read_J92 at h19 ⊢
      intro x21_21 g22 g23
      have h21 := h19 x21_21 g22 g23
      obtain ⟨h24, h25⟩ := h21
      refine ⟨?_, ?_⟩
      · intro g26
        have h27 := h24 g26
        intro x23_28 g29 g30
        have h28 := h27 x23_28 g29 g30
        exact hQ _ _ F19 h28
      · intro g31
        have h32 := h25 g31
        intro x24_33 g34 g35
        have h33 := h32 x24_33 g34 g35
        obtain ⟨h36, h37⟩ := h33
        refine ⟨?_, ?_⟩
        · intro g38
          have h39 := h36 g38
          intro x26_40 g41 g42
          have h40 := h39 x26_40 g41 g42
          exact hQ _ _ F19 h40
        · intro g43
          have h44 := h37 g43
          refine fmX9_isWhole h44 ?_
          intro x27_46 M27_47 f45 h45
          have F45 : Ks (fun k j => k = 186 ∨ (k = 156 ∧ (j = 2 ∨ j = 3)) ∨ (k = 185 ∧ (j = 1 ∨ j = 2 ∨ j = 3)) ∨ (k = k2 ∧ (j = 4 ∨ j = 5)) ∨ k = k2 + 1 ∨ k = k2 + 2) M M27_47 := (F19).tr (f45.mono (fun _ _ h => False.elim h))
          intro g48 g49
          have h50 := h45 g48 g49
          obtain ⟨h51, h52⟩ := h50
          refine ⟨?_, ?_⟩
          · intro g53
            have h54 := h51 g53
            refine fmX5_release h54 ?_
            intro M29_56 f55 h55
            have F55 : Ks (fun k j => k = 186 ∨ (k = 156 ∧ (j = 2 ∨ j = 3)) ∨ (k = 185 ∧ (j = 1 ∨ j = 2 ∨ j = 3)) ∨ (k = k2 ∧ (j = 4 ∨ j = 5)) ∨ k = k2 + 1 ∨ k = k2 + 2) M M29_56 := (F45).tr (f55.mono (mo_34))
            exact hQ _ _ F55 h55
          · intro g57
            have h58 := h52 g57
            intro x30_59 g60 g61
            have h59 := h58 x30_59 g60 g61
            exact hQ _ _ F45 h59
  · intro g62
    have h63 := h8 g62
    refine fmX2_becomePlain h63 ?_
    intro M31_65 f64 h64
    have F64 : Ks (fun k j => k = 186 ∨ (k = 156 ∧ (j = 2 ∨ j = 3)) ∨ (k = 185 ∧ (j = 1 ∨ j = 2 ∨ j = 3)) ∨ (k = k2 ∧ (j = 4 ∨ j = 5)) ∨ k = k2 + 1 ∨ k = k2 + 2) M M31_65 := (F1).tr (f64.mono (mo_35))
    exact hQ _ _ F64 h64
theorem fmX11_rule  {M : Mem} {Q Q' : Int → Mem → Prop} (h : qX11_rule M Q) (hQ : ∀ (w0 : Int) (M' : Mem), Ks (fun k j => (186 ≤ k ∧ k ≤ 189) ∨ (192 ≤ k ∧ k ≤ 194) ∨ (k = 155 ∧ (j = 16 ∨ j = 17)) ∨ (k = 156 ∧ (j = 1 ∨ j = 2 ∨ j = 3)) ∨ (k = 185 ∧ (j = 1 ∨ j = 2 ∨ j = 3))) M M' → Q w0 M' → Q' w0 M') : qX11_rule M Q' := by
  unfold qX11_rule at h ⊢
  obtain ⟨v1, h1⟩ := h
  refine ⟨v1, ?_⟩
  have w1 : (M 155 17).toNat = 187 ∨ (M 155 17).toNat = 192 := v1
  refine fmX5_read h1 ?_
  intro x2_3 M2_4 f2 h2
  have F2 : Ks (fun k j => (186 ≤ k ∧ k ≤ 189) ∨ (192 ≤ k ∧ k ≤ 194) ∨ (k = 155 ∧ (j = 16 ∨ j = 17)) ∨ (k = 156 ∧ (j = 1 ∨ j = 2 ∨ j = 3)) ∨ (k = 185 ∧ (j = 1 ∨ j = 2 ∨ j = 3))) M M2_4 := (Ks.rf).tr (f2.mono (fun k j h => w1.elim (fun e => mo_36 k j (by rw [e] at h; exact h)) (fun e => mo_37 k j (by rw [e] at h; exact h))))
  intro g5
  have h6 := h2 g5
  refine fmX9_clear h6 ?_
  intro M3_8 f7 h7
  have F7 : Ks (fun k j => (186 ≤ k ∧ k ≤ 189) ∨ (192 ≤ k ∧ k ≤ 194) ∨ (k = 155 ∧ (j = 16 ∨ j = 17)) ∨ (k = 156 ∧ (j = 1 ∨ j = 2 ∨ j = 3)) ∨ (k = 185 ∧ (j = 1 ∨ j = 2 ∨ j = 3))) M M3_8 := (F2).tr (f7.mono (mo_38))
  obtain ⟨h9, h10⟩ := h7
  refine ⟨?_, ?_⟩
  · intro g11
    have h12 := h9 g11
    obtain ⟨v13, h13⟩ := h12
    refine ⟨v13, ?_⟩
    have w13 : (M3_8 155 16).toNat = 187 ∨ (M3_8 155 16).toNat = 192 := v13
    obtain ⟨v14, h14⟩ := h13
    refine ⟨v14, ?_⟩
    have w14 : (M3_8 155 17).toNat = 187 ∨ (M3_8 155 17).toNat = 192 := v14
    intro M7_15 eM7_15
    have h15 := h14 M7_15 eM7_15
    have F15 : Ks (fun k j => (186 ≤ k ∧ k ≤ 189) ∨ (192 ≤ k ∧ k ≤ 194) ∨ (k = 155 ∧ (j = 16 ∨ j = 17)) ∨ (k = 156 ∧ (j = 1 ∨ j = 2 ∨ j = 3)) ∨ (k = 185 ∧ (j = 1 ∨ j = 2 ∨ j = 3))) M M7_15 := by rw [eM7_15]; exact (F7).wr (mw_53)
    intro M8_16 eM8_16
    have h16 := h15 M8_16 eM8_16
    have F16 : Ks (fun k j => (186 ≤ k ∧ k ≤ 189) ∨ (192 ≤ k ∧ k ≤ 194) ∨ (k = 155 ∧ (j = 16 ∨ j = 17)) ∨ (k = 156 ∧ (j = 1 ∨ j = 2 ∨ j = 3)) ∨ (k = 185 ∧ (j = 1 ∨ j = 2 ∨ j = 3))) M M8_16 := by rw [eM8_16]; exact (F15).wr (mw_54)
    exact hQ _ _ F16 h16
  · intro g17
    have h18 := h10 g17
    obtain ⟨v19, h19⟩ := h18
    refine ⟨v19, ?_⟩
    exact hQ _ _ F7 h19
theorem fmX8_putOnStreet {p1 : Int} {M : Mem} {Q Q' : Int → Mem → Prop} (h : qX8_putOnStreet p1 M Q) (hQ : ∀ (w0 : Int) (M' : Mem), Ks (fun _ _ => False) M M' → Q w0 M' → Q' w0 M') : qX8_putOnStreet p1 M Q' := by
  unfold qX8_putOnStreet at h ⊢
  refine fmX8_gate h ?_
  intro x1_2 M1_3 f1 h1
  have F1 : Ks (fun _ _ => False) M M1_3 := (Ks.rf).tr (f1.mono (fun _ _ h => False.elim h))
  intro g4
  have h5 := h1 g4
  obtain ⟨v6, h6⟩ := h5
  refine ⟨v6, ?_⟩
  intro x3_7 g8 g9
  have h7 := h6 x3_7 g8 g9
  intro x4_10 g11 g12
  have h10 := h7 x4_10 g11 g12
  exact hQ _ _ F1 h10
theorem fmX11_cellOfEntry {p1 : Int} {p2 : Int} {M : Mem} {Q Q' : Int → Mem → Prop} (h : qX11_cellOfEntry p1 p2 M Q) (hQ : ∀ (w0 : Int) (M' : Mem), Ks (fun _ _ => False) M M' → Q w0 M' → Q' w0 M') : qX11_cellOfEntry p1 p2 M Q' := by
  unfold qX11_cellOfEntry at h ⊢
  obtain ⟨h1, h2⟩ := h
  refine ⟨?_, ?_⟩
  · intro g3
    have h4 := h1 g3
    obtain ⟨h5, h6⟩ := h4
    refine ⟨?_, ?_⟩
    · intro g7
      have h8 := h5 g7
      unfold qX11_cellOfEntry_J20 at h8 ⊢
      obtain ⟨v9, h9⟩ := h8
      refine ⟨v9, ?_⟩
      refine fmX8_putOnStreet h9 ?_
      intro x4_11 M4_12 f10 h10
      have F10 : Ks (fun _ _ => False) M M4_12 := (Ks.rf).tr (f10.mono (fun _ _ h => False.elim h))
      intro g13
      have h14 := h10 g13
      exact hQ _ _ F10 h14
    · intro g15
      have h16 := h6 g15
      intro x5_17 g18 g19
      have h17 := h16 x5_17 g18 g19
      unfold qX11_cellOfEntry_J20 at h17 ⊢
      obtain ⟨v20, h20⟩ := h17
      refine ⟨v20, ?_⟩
      refine fmX8_putOnStreet h20 ?_
      intro x4_22 M4_23 f21 h21
      have F21 : Ks (fun _ _ => False) M M4_23 := (Ks.rf).tr (f21.mono (fun _ _ h => False.elim h))
      intro g24
      have h25 := h21 g24
      exact hQ _ _ F21 h25
  · intro g26
    have h27 := h2 g26
    intro x6_28 g29 g30
    have h28 := h27 x6_28 g29 g30
    unfold qX11_cellOfEntry_J20 at h28 ⊢
    obtain ⟨v31, h31⟩ := h28
    refine ⟨v31, ?_⟩
    refine fmX8_putOnStreet h31 ?_
    intro x4_33 M4_34 f32 h32
    have F32 : Ks (fun _ _ => False) M M4_34 := (Ks.rf).tr (f32.mono (fun _ _ h => False.elim h))
    intro g35
    have h36 := h32 g35
    exact hQ _ _ F32 h36
theorem fmX6_hasEnded {k0 : Nat} {p1 : Int} {M : Mem} {Q Q' : Int → Mem → Prop} (h : qX6_hasEnded k0 p1 M Q) (hQ : ∀ (w0 : Int) (M' : Mem), Ks (fun _ _ => False) M M' → Q w0 M' → Q' w0 M') : qX6_hasEnded k0 p1 M Q' := by
  unfold qX6_hasEnded at h ⊢
  obtain ⟨v1, h1⟩ := h
  refine ⟨v1, ?_⟩
  obtain ⟨v2, h2⟩ := h1
  refine ⟨v2, ?_⟩
  intro x3_3 g4 g5
  have h3 := h2 x3_3 g4 g5
  obtain ⟨h6, h7⟩ := h3
  refine ⟨?_, ?_⟩
  · intro g8
    have h9 := h6 g8
    exact hQ _ _ Ks.rf h9
  · intro g10
    have h11 := h7 g10
    exact hQ _ _ Ks.rf h11
theorem fmX11_sheet_L47 {p1 : Int} {p2 : Int} {p3 : Int} {p4 : Int} {X125 X125' : Int → Mem → Prop} {Q Q' : Int → Mem → Prop} {M0 : Mem} (hQ : ∀ (w0 : Int) (M' : Mem), Ks (fun k j => k = 4) M0 M' → Q w0 M' → Q' w0 M') (hX125 : ∀ (w0 : Int) (M' : Mem), Ks (fun k j => k = 4) M0 M' → X125 w0 M' → X125' w0 M') : ∀ (n : Nat) (v5 v6 v7 : Int) (M : Mem), Ks (fun k j => k = 4) M0 M → qX11_sheet_L47 p1 p2 p3 p4 X125 Q n v5 v6 v7 M → qX11_sheet_L47 p1 p2 p3 p4 X125' Q' n v5 v6 v7 M := by
  intro n
  induction n with
  | zero => intro v5 v6 v7 M _ h; exact h.elim
  | succ n ih =>
    intro v5 v6 v7 M hF h
    rw [qX11_sheet_L47] at h
    rw [qX11_sheet_L47]
    intro x6_1 g2 g3
    have h1 := h x6_1 g2 g3
    obtain ⟨v4, h4⟩ := h1
    refine ⟨v4, ?_⟩
    obtain ⟨h5, h6⟩ := h4
    refine ⟨?_, ?_⟩
    · intro g7
      have h8 := h5 g7
      exact hX125 _ _ hF h8
    · intro g9
      have h10 := h6 g9
      refine fmX6_hasEnded h10 ?_
      intro x9_12 M9_13 f11 h11
      have F11 : Ks (fun k j => k = 4) M0 M9_13 := (hF).tr (f11.mono (fun _ _ h => False.elim h))
      intro g14 g15
      have h16 := h11 g14 g15
      obtain ⟨h17, h18⟩ := h16
      refine ⟨?_, ?_⟩
      · intro g19
        have h20 := h17 g19
        unfold qX11_sheet_J104 at h20 ⊢
        obtain ⟨v21, h21⟩ := h20
        refine ⟨v21, ?_⟩
        obtain ⟨v22, h22⟩ := h21
        refine ⟨v22, ?_⟩
        intro x13_23 g24 g25
        have h23 := h22 x13_23 g24 g25
        intro x14_26 g27 g28
        have h26 := h23 x14_26 g27 g28
        exact ih _ _ _ _ F11 h26
      · intro g29
        have h30 := h18 g29
        obtain ⟨v31, h31⟩ := h30
        refine ⟨v31, ?_⟩
        obtain ⟨h32, h33⟩ := h31
        refine ⟨?_, ?_⟩
        · intro g34
          have h35 := h32 g34
          unfold qX11_sheet_J103 at h35 ⊢
          obtain ⟨v36, h36⟩ := h35
          refine ⟨v36, ?_⟩
          obtain ⟨v37, h37⟩ := h36
          refine ⟨v37, ?_⟩
          obtain ⟨v38, h38⟩ := h37
          refine ⟨v38, ?_⟩
          intro M20_39 eM20_39
          have h39 := h38 M20_39 eM20_39
          have F39 : Ks (fun k j => k = 4) M0 M20_39 := by rw [eM20_39]; exact (F11).wr (mw_55)
          unfold qX11_sheet_J104 at h39 ⊢
          obtain ⟨v40, h40⟩ := h39
          refine ⟨v40, ?_⟩
          obtain ⟨v41, h41⟩ := h40
          refine ⟨v41, ?_⟩
          intro x13_42 g43 g44
          have h42 := h41 x13_42 g43 g44
          intro x14_45 g46 g47
          have h45 := h42 x14_45 g46 g47
          exact ih _ _ _ _ F39 h45
        · intro g48
          have h49 := h33 g48
          intro x21_50 g51 g52
          have h50 := h49 x21_50 g51 g52
          intro x22_53 g54 g55
          have h53 := h50 x22_53 g54 g55
          refine fmX11_cellOfEntry h53 ?_
          intro x23_57 M23_58 f56 h56
          have F56 : Ks (fun k j => k = 4) M0 M23_58 := (F11).tr (f56.mono (fun _ _ h => False.elim h))
          intro g59
          have h60 := h56 g59
          unfold qX11_sheet_J103 at h60 ⊢
          obtain ⟨v61, h61⟩ := h60
          refine ⟨v61, ?_⟩
          obtain ⟨v62, h62⟩ := h61
          refine ⟨v62, ?_⟩
          obtain ⟨v63, h63⟩ := h62
          refine ⟨v63, ?_⟩
          intro M20_64 eM20_64
          have h64 := h63 M20_64 eM20_64
          have F64 : Ks (fun k j => k = 4) M0 M20_64 := by rw [eM20_64]; exact (F56).wr (mw_55)
          unfold qX11_sheet_J104 at h64 ⊢
          obtain ⟨v65, h65⟩ := h64
          refine ⟨v65, ?_⟩
          obtain ⟨v66, h66⟩ := h65
          refine ⟨v66, ?_⟩
          intro x13_67 g68 g69
          have h67 := h66 x13_67 g68 g69
          intro x14_70 g71 g72
          have h70 := h67 x14_70 g71 g72
          exact ih _ _ _ _ F64 h70
theorem fmX11_sheet {p1 : Int} {p2 : Int} {p3 : Int} {p4 : Int} {M : Mem} {Q Q' : Int → Mem → Prop} (h : qX11_sheet p1 p2 p3 p4 M Q) (hQ : ∀ (w0 : Int) (M' : Mem), Ks (fun k j => k = 4) M M' → Q w0 M' → Q' w0 M') : qX11_sheet p1 p2 p3 p4 M Q' := by
  unfold qX11_sheet at h ⊢
  obtain ⟨h1, h2⟩ := h
  refine ⟨?_, ?_⟩
  · intro g3
    have h4 := h1 g3
    exact hQ _ _ Ks.rf h4
  · intro g5
    have h6 := h2 g5
    obtain ⟨h7, h8⟩ := h6
    refine ⟨?_, ?_⟩
    · intro g9
      have h10 := h7 g9
      exact hQ _ _ Ks.rf h10
    · intro g11
      have h12 := h8 g11
      obtain ⟨h13, h14⟩ := h12
      refine ⟨?_, ?_⟩
      · intro g15
        have h16 := h13 g15
        obtain ⟨h17, h18⟩ := h16
        refine ⟨?_, ?_⟩
        · intro g19
          have h20 := h17 g19
          unfold qX11_sheet_J29 at h20 ⊢
          obtain ⟨h21, h22⟩ := h20
          refine ⟨?_, ?_⟩
          · intro g23
            have h24 := h21 g23
            obtain ⟨n25, h25⟩ := h24
            refine ⟨n25, ?_⟩
            refine fmX11_sheet_L47 hQ ?_ _ _ _ _ _ Ks.rf h25
            · intro v6_27 M_28 F26 h26
              obtain ⟨h29, h30⟩ := h26
              refine ⟨?_, ?_⟩
              · intro g31
                have h32 := h29 g31
                obtain ⟨v33, h33⟩ := h32
                refine ⟨v33, ?_⟩
                exact hQ _ _ F26 h33
              · intro g34
                have h35 := h30 g34
                exact hQ _ _ F26 h35
          · intro g36
            have h37 := h22 g36
            obtain ⟨n38, h38⟩ := h37
            refine ⟨n38, ?_⟩
            refine fmX11_sheet_L47 hQ ?_ _ _ _ _ _ Ks.rf h38
            · intro v6_40 M_41 F39 h39
              obtain ⟨h42, h43⟩ := h39
              refine ⟨?_, ?_⟩
              · intro g44
                have h45 := h42 g44
                obtain ⟨v46, h46⟩ := h45
                refine ⟨v46, ?_⟩
                exact hQ _ _ F39 h46
              · intro g47
                have h48 := h43 g47
                exact hQ _ _ F39 h48
        · intro g49
          have h50 := h18 g49
          obtain ⟨h51, h52⟩ := h50
          refine ⟨?_, ?_⟩
          · intro g53
            have h54 := h51 g53
            unfold qX11_sheet_J29 at h54 ⊢
            obtain ⟨h55, h56⟩ := h54
            refine ⟨?_, ?_⟩
            · intro g57
              have h58 := h55 g57
              obtain ⟨n59, h59⟩ := h58
              refine ⟨n59, ?_⟩
              refine fmX11_sheet_L47 hQ ?_ _ _ _ _ _ Ks.rf h59
              · intro v6_61 M_62 F60 h60
                obtain ⟨h63, h64⟩ := h60
                refine ⟨?_, ?_⟩
                · intro g65
                  have h66 := h63 g65
                  obtain ⟨v67, h67⟩ := h66
                  refine ⟨v67, ?_⟩
                  exact hQ _ _ F60 h67
                · intro g68
                  have h69 := h64 g68
                  exact hQ _ _ F60 h69
            · intro g70
              have h71 := h56 g70
              obtain ⟨n72, h72⟩ := h71
              refine ⟨n72, ?_⟩
              refine fmX11_sheet_L47 hQ ?_ _ _ _ _ _ Ks.rf h72
              · intro v6_74 M_75 F73 h73
                obtain ⟨h76, h77⟩ := h73
                refine ⟨?_, ?_⟩
                · intro g78
                  have h79 := h76 g78
                  obtain ⟨v80, h80⟩ := h79
                  refine ⟨v80, ?_⟩
                  exact hQ _ _ F73 h80
                · intro g81
                  have h82 := h77 g81
                  exact hQ _ _ F73 h82
          · intro g83
            have h84 := h52 g83
            exact hQ _ _ Ks.rf h84
      · intro g85
        have h86 := h14 g85
        exact hQ _ _ Ks.rf h86
theorem fmX10_goal_L15 {p1 : Int} {p2 : Int} {p3 : Int} {Q Q' : Int → Mem → Prop} {M0 : Mem} (hQ : ∀ (w0 : Int) (M' : Mem), Ks (fun _ _ => False) M0 M' → Q w0 M' → Q' w0 M') : ∀ (n : Nat) (v4 : Int) (M : Mem), Ks (fun _ _ => False) M0 M → qX10_goal_L15 p1 p2 p3 Q n v4 M → qX10_goal_L15 p1 p2 p3 Q' n v4 M := by
  intro n
  induction n with
  | zero => intro v4 M _ h; exact h.elim
  | succ n ih =>
    intro v4 M hF h
    rw [qX10_goal_L15] at h
    rw [qX10_goal_L15]
    obtain ⟨v1, h1⟩ := h
    refine ⟨v1, ?_⟩
    obtain ⟨h2, h3⟩ := h1
    refine ⟨?_, ?_⟩
    · intro g4
      have h5 := h2 g4
      exact hQ _ _ hF h5
    · intro g6
      have h7 := h3 g6
      intro x6_8 g9 g10
      have h8 := h7 x6_8 g9 g10
      intro x7_11 g12 g13
      have h11 := h8 x7_11 g12 g13
      intro x8_14 g15 g16
      have h14 := h11 x8_14 g15 g16
      intro x9_17 g18 g19
      have h17 := h14 x9_17 g18 g19
      intro x10_20 g21 g22
      have h20 := h17 x10_20 g21 g22
      intro x11_23 g24 g25
      have h23 := h20 x11_23 g24 g25
      obtain ⟨h26, h27⟩ := h23
      refine ⟨?_, ?_⟩
      · intro g28
        have h29 := h26 g28
        unfold qX10_goal_J55 at h29 ⊢
        obtain ⟨v30, h30⟩ := h29
        refine ⟨v30, ?_⟩
        obtain ⟨h31, h32⟩ := h30
        refine ⟨?_, ?_⟩
        · intro g33
          have h34 := h31 g33
          exact ih _ _ hF h34
        · intro g35
          have h36 := h32 g35
          intro x15_37 g38 g39
          have h37 := h36 x15_37 g38 g39
          obtain ⟨h40, h41⟩ := h37
          refine ⟨?_, ?_⟩
          · intro g42
            have h43 := h40 g42
            obtain ⟨v44, h44⟩ := h43
            refine ⟨v44, ?_⟩
            exact hQ _ _ hF h44
          · intro g45
            have h46 := h41 g45
            intro x18_47 g48 g49
            have h47 := h46 x18_47 g48 g49
            intro x19_50 g51 g52
            have h50 := h47 x19_50 g51 g52
            obtain ⟨h53, h54⟩ := h50
            refine ⟨?_, ?_⟩
            · intro g55
              have h56 := h53 g55
              exact ih _ _ hF h56
            · intro g57
              have h58 := h54 g57
              obtain ⟨v59, h59⟩ := h58
              refine ⟨v59, ?_⟩
              exact hQ _ _ hF h59
      · intro g60
        have h61 := h27 g60
        unfold qX10_goal_J55 at h61 ⊢
        obtain ⟨v62, h62⟩ := h61
        refine ⟨v62, ?_⟩
        obtain ⟨h63, h64⟩ := h62
        refine ⟨?_, ?_⟩
        · intro g65
          have h66 := h63 g65
          exact ih _ _ hF h66
        · intro g67
          have h68 := h64 g67
          intro x15_69 g70 g71
          have h69 := h68 x15_69 g70 g71
          obtain ⟨h72, h73⟩ := h69
          refine ⟨?_, ?_⟩
          · intro g74
            have h75 := h72 g74
            obtain ⟨v76, h76⟩ := h75
            refine ⟨v76, ?_⟩
            exact hQ _ _ hF h76
          · intro g77
            have h78 := h73 g77
            intro x18_79 g80 g81
            have h79 := h78 x18_79 g80 g81
            intro x19_82 g83 g84
            have h82 := h79 x19_82 g83 g84
            obtain ⟨h85, h86⟩ := h82
            refine ⟨?_, ?_⟩
            · intro g87
              have h88 := h85 g87
              exact ih _ _ hF h88
            · intro g89
              have h90 := h86 g89
              obtain ⟨v91, h91⟩ := h90
              refine ⟨v91, ?_⟩
              exact hQ _ _ hF h91
theorem fmX10_goal {p1 : Int} {p2 : Int} {p3 : Int} {M : Mem} {Q Q' : Int → Mem → Prop} (h : qX10_goal p1 p2 p3 M Q) (hQ : ∀ (w0 : Int) (M' : Mem), Ks (fun _ _ => False) M M' → Q w0 M' → Q' w0 M') : qX10_goal p1 p2 p3 M Q' := by
  unfold qX10_goal at h ⊢
  refine fmX8_gate h ?_
  intro x1_2 M1_3 f1 h1
  have F1 : Ks (fun _ _ => False) M M1_3 := (Ks.rf).tr (f1.mono (fun _ _ h => False.elim h))
  intro g4
  have h5 := h1 g4
  obtain ⟨v6, h6⟩ := h5
  refine ⟨v6, ?_⟩
  intro x3_7 g8 g9
  have h7 := h6 x3_7 g8 g9
  obtain ⟨n10, h10⟩ := h7
  refine ⟨n10, ?_⟩
  refine fmX10_goal_L15 hQ _ _ _ F1 h10
theorem fmJ6_bitCount_0f7a4 {p0 : Int} {M : Mem} {Q Q' : Int → Mem → Prop} (h : qJ6_bitCount_0f7a4 p0 M Q) (hQ : ∀ (w0 : Int) (M' : Mem), Ks (fun _ _ => False) M M' → Q w0 M' → Q' w0 M') : qJ6_bitCount_0f7a4 p0 M Q' := by
  unfold qJ6_bitCount_0f7a4 at h ⊢
  intro x1_1 g2 g3
  have h1 := h x1_1 g2 g3
  intro x2_4 g5 g6
  have h4 := h1 x2_4 g5 g6
  intro x3_7 g8 g9
  have h7 := h4 x3_7 g8 g9
  intro x4_10 g11 g12
  have h10 := h7 x4_10 g11 g12
  intro x5_13 g14 g15
  have h13 := h10 x5_13 g14 g15
  intro x6_16 g17 g18
  have h16 := h13 x6_16 g17 g18
  intro x7_19 g20 g21
  have h19 := h16 x7_19 g20 g21
  intro x8_22 g23 g24
  have h22 := h19 x8_22 g23 g24
  intro x9_25 g26 g27
  have h25 := h22 x9_25 g26 g27
  intro x10_28 g29 g30
  have h28 := h25 x10_28 g29 g30
  exact hQ _ _ Ks.rf h28
theorem fmX2_uses {k0 : Nat} {p1 : Int} {M : Mem} {Q Q' : Int → Mem → Prop} (h : qX2_uses k0 p1 M Q) (hQ : ∀ (w0 : Int) (M' : Mem), Ks (fun _ _ => False) M M' → Q w0 M' → Q' w0 M') : qX2_uses k0 p1 M Q' := by
  unfold qX2_uses at h ⊢
  intro x1_1 g2 g3
  have h1 := h x1_1 g2 g3
  intro x2_4 g5 g6
  have h4 := h1 x2_4 g5 g6
  intro x3_7 g8 g9
  have h7 := h4 x3_7 g8 g9
  obtain ⟨h10, h11⟩ := h7
  refine ⟨?_, ?_⟩
  · intro g12
    have h13 := h10 g12
    exact hQ _ _ Ks.rf h13
  · intro g14
    have h15 := h11 g14
    exact hQ _ _ Ks.rf h15
theorem fmX6_bitsOf_L5 {k0 : Nat} {k1 : Nat} {p2 : Int} {Q Q' : Int → Mem → Prop} {M0 : Mem} (hQ : ∀ (w0 : Int) (M' : Mem), Ks (fun _ _ => False) M0 M' → Q w0 M' → Q' w0 M') : ∀ (n : Nat) (v3 v4 : Int) (M : Mem), Ks (fun _ _ => False) M0 M → qX6_bitsOf_L5 k0 k1 p2 Q n v3 v4 M → qX6_bitsOf_L5 k0 k1 p2 Q' n v3 v4 M := by
  intro n
  induction n with
  | zero => intro v3 v4 M _ h; exact h.elim
  | succ n ih =>
    intro v3 v4 M hF h
    rw [qX6_bitsOf_L5] at h
    rw [qX6_bitsOf_L5]
    intro x1_1 g2 g3
    have h1 := h x1_1 g2 g3
    obtain ⟨v4, h4⟩ := h1
    refine ⟨v4, ?_⟩
    obtain ⟨h5, h6⟩ := h4
    refine ⟨?_, ?_⟩
    · intro g7
      have h8 := h5 g7
      obtain ⟨v9, h9⟩ := h8
      refine ⟨v9, ?_⟩
      exact hQ _ _ hF h9
    · intro g10
      have h11 := h6 g10
      obtain ⟨v12, h12⟩ := h11
      refine ⟨v12, ?_⟩
      obtain ⟨v13, h13⟩ := h12
      refine ⟨v13, ?_⟩
      intro x7_14 g15 g16
      have h14 := h13 x7_14 g15 g16
      obtain ⟨h17, h18⟩ := h14
      refine ⟨?_, ?_⟩
      · intro g19
        have h20 := h17 g19
        intro x9_21 g22 g23
        have h21 := h20 x9_21 g22 g23
        exact ih _ _ _ hF h21
      · intro g24
        have h25 := h18 g24
        intro x10_26 g27 g28
        have h26 := h25 x10_26 g27 g28
        intro x11_29 g30 g31
        have h29 := h26 x11_29 g30 g31
        exact ih _ _ _ hF h29
theorem fmX6_bitsOf {k0 : Nat} {k1 : Nat} {p2 : Int} {M : Mem} {Q Q' : Int → Mem → Prop} (h : qX6_bitsOf k0 k1 p2 M Q) (hQ : ∀ (w0 : Int) (M' : Mem), Ks (fun _ _ => False) M M' → Q w0 M' → Q' w0 M') : qX6_bitsOf k0 k1 p2 M Q' := by
  unfold qX6_bitsOf at h ⊢
  obtain ⟨n1, h1⟩ := h
  refine ⟨n1, ?_⟩
  refine fmX6_bitsOf_L5 hQ _ _ _ _ Ks.rf h1
