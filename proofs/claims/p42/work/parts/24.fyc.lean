section
theorem fmX12_crowd_L34  {X85 X85' : Int → Mem → Prop} {Q Q' : Int → Mem → Prop} {M0 : Mem} (hQ : ∀ (w0 : Int) (M' : Mem), Ks (fun k j => k = 0 ∨ k = 6 ∨ (13 ≤ k ∧ k ≤ 14) ∨ (16 ≤ k ∧ k ≤ 18) ∨ (k = 1 ∧ (j = 0 ∨ j = 1 ∨ j = 30 ∨ j = 31 ∨ j = 35))) M0 M' → Q w0 M' → Q' w0 M') (hX85 : ∀ (w0 : Int) (M' : Mem), Ks (fun k j => k = 0 ∨ k = 6 ∨ (13 ≤ k ∧ k ≤ 14) ∨ (16 ≤ k ∧ k ≤ 18) ∨ (k = 1 ∧ (j = 0 ∨ j = 1 ∨ j = 30 ∨ j = 31 ∨ j = 35))) M0 M' → X85 w0 M' → X85' w0 M') : ∀ (n : Nat) (v1 v2 : Int) (M : Mem), Ks (fun k j => k = 0 ∨ k = 6 ∨ (13 ≤ k ∧ k ≤ 14) ∨ (16 ≤ k ∧ k ≤ 18) ∨ (k = 1 ∧ (j = 0 ∨ j = 1 ∨ j = 30 ∨ j = 31 ∨ j = 35))) M0 M → qX12_crowd_L34 X85 Q n v1 v2 M → qX12_crowd_L34 X85' Q' n v1 v2 M := by
  intro n
  induction n with
  | zero => intro v1 v2 M _ h; exact h.elim
  | succ n ih =>
    intro v1 v2 M hF h
    rw [qX12_crowd_L34] at h
    rw [qX12_crowd_L34]
    intro x6_1 g2 g3
    have h1 := h x6_1 g2 g3
    obtain ⟨v4, h4⟩ := h1
    refine ⟨v4, ?_⟩
    obtain ⟨h5, h6⟩ := h4
    refine ⟨?_, ?_⟩
    · intro g7
      have h8 := h5 g7
      exact hX85 _ _ hF h8
    · intro g9
      have h10 := h6 g9
      refine fmX12_bitsBy h10 ?_
      intro x9_12 M9_13 f11 h11
      have F11 : Ks (fun k j => k = 0 ∨ k = 6 ∨ (13 ≤ k ∧ k ≤ 14) ∨ (16 ≤ k ∧ k ≤ 18) ∨ (k = 1 ∧ (j = 0 ∨ j = 1 ∨ j = 30 ∨ j = 31 ∨ j = 35))) M0 M9_13 := (hF).tr (f11.mono (fun _ _ h => False.elim h))
      intro g14
      have h15 := h11 g14
      refine fmJ6_bitCount_0f7a4 h15 ?_
      intro x10_17 M10_18 f16 h16
      have F16 : Ks (fun k j => k = 0 ∨ k = 6 ∨ (13 ≤ k ∧ k ≤ 14) ∨ (16 ≤ k ∧ k ≤ 18) ∨ (k = 1 ∧ (j = 0 ∨ j = 1 ∨ j = 30 ∨ j = 31 ∨ j = 35))) M0 M10_18 := (F11).tr (f16.mono (fun _ _ h => False.elim h))
      intro g19
      have h20 := h16 g19
      obtain ⟨v21, h21⟩ := h20
      refine ⟨v21, ?_⟩
      refine fmX12_bitsBy h21 ?_
      intro x12_23 M12_24 f22 h22
      have F22 : Ks (fun k j => k = 0 ∨ k = 6 ∨ (13 ≤ k ∧ k ≤ 14) ∨ (16 ≤ k ∧ k ≤ 18) ∨ (k = 1 ∧ (j = 0 ∨ j = 1 ∨ j = 30 ∨ j = 31 ∨ j = 35))) M0 M12_24 := (F16).tr (f22.mono (fun _ _ h => False.elim h))
      intro g25
      have h26 := h22 g25
      refine fmJ6_bitCount_0f7a4 h26 ?_
      intro x13_28 M13_29 f27 h27
      have F27 : Ks (fun k j => k = 0 ∨ k = 6 ∨ (13 ≤ k ∧ k ≤ 14) ∨ (16 ≤ k ∧ k ≤ 18) ∨ (k = 1 ∧ (j = 0 ∨ j = 1 ∨ j = 30 ∨ j = 31 ∨ j = 35))) M0 M13_29 := (F22).tr (f27.mono (fun _ _ h => False.elim h))
      intro g30
      have h31 := h27 g30
      obtain ⟨h32, h33⟩ := h31
      refine ⟨?_, ?_⟩
      · intro g34
        have h35 := h32 g34
        exact ih _ _ _ F27 h35
      · intro g36
        have h37 := h33 g36
        exact ih _ _ _ F27 h37
theorem fmX12_crowd  {M : Mem} {Q Q' : Int → Mem → Prop} (h : qX12_crowd M Q) (hQ : ∀ (w0 : Int) (M' : Mem), Ks (fun k j => k = 0 ∨ k = 6 ∨ (13 ≤ k ∧ k ≤ 14) ∨ (16 ≤ k ∧ k ≤ 18) ∨ (k = 1 ∧ (j = 0 ∨ j = 1 ∨ j = 30 ∨ j = 31 ∨ j = 35))) M M' → Q w0 M' → Q' w0 M') : qX12_crowd M Q' := by
  unfold qX12_crowd at h ⊢
  intro M1_1 eM1_1
  have h1 := h M1_1 eM1_1
  have F1 : Ks (fun k j => k = 0 ∨ k = 6 ∨ (13 ≤ k ∧ k ≤ 14) ∨ (16 ≤ k ∧ k ≤ 18) ∨ (k = 1 ∧ (j = 0 ∨ j = 1 ∨ j = 30 ∨ j = 31 ∨ j = 35))) M M1_1 := by rw [eM1_1]; exact (Ks.rf).wr (mw_187)
  intro x2_2 g3 g4
  have h2 := h1 x2_2 g3 g4
  obtain ⟨h5, h6⟩ := h2
  refine ⟨?_, ?_⟩
  · intro g7
    have h8 := h5 g7
    refine fmX12_copies h8 ?_
    intro M4_10 f9 h9
    have F9 : Ks (fun k j => k = 0 ∨ k = 6 ∨ (13 ≤ k ∧ k ≤ 14) ∨ (16 ≤ k ∧ k ≤ 18) ∨ (k = 1 ∧ (j = 0 ∨ j = 1 ∨ j = 30 ∨ j = 31 ∨ j = 35))) M M4_10 := (F1).tr (f9.mono (mo_176))
    refine fmX12_goesOn h9 ?_
    intro M5_12 f11 h11
    have F11 : Ks (fun k j => k = 0 ∨ k = 6 ∨ (13 ≤ k ∧ k ≤ 14) ∨ (16 ≤ k ∧ k ≤ 18) ∨ (k = 1 ∧ (j = 0 ∨ j = 1 ∨ j = 30 ∨ j = 31 ∨ j = 35))) M M5_12 := (F9).tr (f11.mono (mo_177))
    obtain ⟨n13, h13⟩ := h11
    refine ⟨n13, ?_⟩
    refine fmX12_crowd_L34 hQ ?_ _ _ _ _ F11 h13
    · intro v1_15 M_16 F14 h14
      obtain ⟨v17, h17⟩ := h14
      refine ⟨v17, ?_⟩
      refine fmX12_bitsBy h17 ?_
      intro x17_19 M17_20 f18 h18
      have F18 : Ks (fun k j => k = 0 ∨ k = 6 ∨ (13 ≤ k ∧ k ≤ 14) ∨ (16 ≤ k ∧ k ≤ 18) ∨ (k = 1 ∧ (j = 0 ∨ j = 1 ∨ j = 30 ∨ j = 31 ∨ j = 35))) M M17_20 := (F14).tr (f18.mono (fun _ _ h => False.elim h))
      intro g21
      have h22 := h18 g21
      intro M18_23 eM18_23
      have h23 := h22 M18_23 eM18_23
      have F23 : Ks (fun k j => k = 0 ∨ k = 6 ∨ (13 ≤ k ∧ k ≤ 14) ∨ (16 ≤ k ∧ k ≤ 18) ∨ (k = 1 ∧ (j = 0 ∨ j = 1 ∨ j = 30 ∨ j = 31 ∨ j = 35))) M M18_23 := by rw [eM18_23]; exact (F18).wr (mw_188)
      refine fmJ6_bitCount_0f7a4 h23 ?_
      intro x19_25 M19_26 f24 h24
      have F24 : Ks (fun k j => k = 0 ∨ k = 6 ∨ (13 ≤ k ∧ k ≤ 14) ∨ (16 ≤ k ∧ k ≤ 18) ∨ (k = 1 ∧ (j = 0 ∨ j = 1 ∨ j = 30 ∨ j = 31 ∨ j = 35))) M M19_26 := (F23).tr (f24.mono (fun _ _ h => False.elim h))
      intro g27
      have h28 := h24 g27
      refine fmX12_enters h28 ?_
      intro M20_30 f29 h29
      have F29 : Ks (fun k j => k = 0 ∨ k = 6 ∨ (13 ≤ k ∧ k ≤ 14) ∨ (16 ≤ k ∧ k ≤ 18) ∨ (k = 1 ∧ (j = 0 ∨ j = 1 ∨ j = 30 ∨ j = 31 ∨ j = 35))) M M20_30 := (F24).tr (f29.mono (mo_175))
      refine fmX12_owners h29 ?_
      intro x21_32 M21_33 f31 h31
      have F31 : Ks (fun k j => k = 0 ∨ k = 6 ∨ (13 ≤ k ∧ k ≤ 14) ∨ (16 ≤ k ∧ k ≤ 18) ∨ (k = 1 ∧ (j = 0 ∨ j = 1 ∨ j = 30 ∨ j = 31 ∨ j = 35))) M M21_33 := (F29).tr (f31.mono (fun _ _ h => False.elim h))
      intro g34
      have h35 := h31 g34
      intro x22_36 g37 g38
      have h36 := h35 x22_36 g37 g38
      refine fmJ6_bitCount_0f7a4 h36 ?_
      intro x23_40 M23_41 f39 h39
      have F39 : Ks (fun k j => k = 0 ∨ k = 6 ∨ (13 ≤ k ∧ k ≤ 14) ∨ (16 ≤ k ∧ k ≤ 18) ∨ (k = 1 ∧ (j = 0 ∨ j = 1 ∨ j = 30 ∨ j = 31 ∨ j = 35))) M M23_41 := (F31).tr (f39.mono (fun _ _ h => False.elim h))
      intro g42
      have h43 := h39 g42
      refine fmX12_enters h43 ?_
      intro M24_45 f44 h44
      have F44 : Ks (fun k j => k = 0 ∨ k = 6 ∨ (13 ≤ k ∧ k ≤ 14) ∨ (16 ≤ k ∧ k ≤ 18) ∨ (k = 1 ∧ (j = 0 ∨ j = 1 ∨ j = 30 ∨ j = 31 ∨ j = 35))) M M24_45 := (F39).tr (f44.mono (mo_175))
      exact hQ _ _ F44 h44
  · intro g46
    have h47 := h6 g46
    exact hQ _ _ F1 h47
theorem fmX12_sharesFrom_L91 {p1 : Int} {p2 : Int} {p3 : Int} {p4 : Int} {Q Q' : Mem → Prop} {rc : Int → Int → Int → Int → Mem → (Mem → Prop) → Prop} (hrc : ∀ (a0 : Int) (a1 : Int) (a2 : Int) (a3 : Int) (M : Mem) (Q Q' : Mem → Prop), (∀ M', Ks (fun k j => (24 ≤ k ∧ k ≤ 25) ∨ (k = 1 ∧ (j = 42))) M M' → Q M' → Q' M') → rc a0 a1 a2 a3 M Q → rc a0 a1 a2 a3 M Q') {M0 : Mem} (hQ : ∀ (M' : Mem), Ks (fun k j => (24 ≤ k ∧ k ≤ 25) ∨ (k = 1 ∧ (j = 42))) M0 M' → Q M' → Q' M') : ∀ (n : Nat) (v5 : Int) (M : Mem), Ks (fun k j => (24 ≤ k ∧ k ≤ 25) ∨ (k = 1 ∧ (j = 42))) M0 M → qX12_sharesFrom_L91 rc p1 p2 p3 p4 Q n v5 M → qX12_sharesFrom_L91 rc p1 p2 p3 p4 Q' n v5 M := by
  intro n
  induction n with
  | zero => intro v5 M _ h; exact h.elim
  | succ n ih =>
    intro v5 M hF h
    rw [qX12_sharesFrom_L91] at h
    rw [qX12_sharesFrom_L91]
    intro x12_1 g2 g3
    have h1 := h x12_1 g2 g3
    obtain ⟨v4, h4⟩ := h1
    refine ⟨v4, ?_⟩
    obtain ⟨h5, h6⟩ := h4
    refine ⟨?_, ?_⟩
    · intro g7
      have h8 := h5 g7
      exact hQ _ hF h8
    · intro g9
      have h10 := h6 g9
      refine fmX12_isEnded h10 ?_
      intro x15_12 M15_13 f11 h11
      have F11 : Ks (fun k j => (24 ≤ k ∧ k ≤ 25) ∨ (k = 1 ∧ (j = 42))) M0 M15_13 := (hF).tr (f11.mono (fun _ _ h => False.elim h))
      intro g14 g15
      have h16 := h11 g14 g15
      obtain ⟨h17, h18⟩ := h16
      refine ⟨?_, ?_⟩
      · intro g19
        have h20 := h17 g19
        exact hQ _ F11 h20
      · intro g21
        have h22 := h18 g21
        refine fmX12_has h22 ?_
        intro x17_24 M17_25 f23 h23
        have F23 : Ks (fun k j => (24 ≤ k ∧ k ≤ 25) ∨ (k = 1 ∧ (j = 42))) M0 M17_25 := (F11).tr (f23.mono (fun _ _ h => False.elim h))
        intro g26 g27
        have h28 := h23 g26 g27
        obtain ⟨h29, h30⟩ := h28
        refine ⟨?_, ?_⟩
        · intro g31
          have h32 := h29 g31
          exact ih _ _ F23 h32
        · intro g33
          have h34 := h30 g33
          refine fmX12_isOn h34 ?_
          intro x19_36 M19_37 f35 h35
          have F35 : Ks (fun k j => (24 ≤ k ∧ k ≤ 25) ∨ (k = 1 ∧ (j = 42))) M0 M19_37 := (F23).tr (f35.mono (fun _ _ h => False.elim h))
          intro g38 g39
          have h40 := h35 g38 g39
          obtain ⟨h41, h42⟩ := h40
          refine ⟨?_, ?_⟩
          · intro g43
            have h44 := h41 g43
            exact ih _ _ F35 h44
          · intro g45
            have h46 := h42 g45
            obtain ⟨v47, h47⟩ := h46
            refine ⟨v47, ?_⟩
            obtain ⟨v48, h48⟩ := h47
            refine ⟨v48, ?_⟩
            intro x23_49 g50 g51
            have h49 := h48 x23_49 g50 g51
            obtain ⟨v52, h52⟩ := h49
            refine ⟨v52, ?_⟩
            obtain ⟨v53, h53⟩ := h52
            refine ⟨v53, ?_⟩
            intro x26_54 g55 g56
            have h54 := h53 x26_54 g55 g56
            obtain ⟨v57, h57⟩ := h54
            refine ⟨v57, ?_⟩
            intro x28_58 g59 g60
            have h58 := h57 x28_58 g59 g60
            obtain ⟨v61, h61⟩ := h58
            refine ⟨v61, ?_⟩
            obtain ⟨h62, h63⟩ := h61
            refine ⟨?_, ?_⟩
            · intro g64
              have h65 := h62 g64
              exact ih _ _ F35 h65
            · intro g66
              have h67 := h63 g66
              obtain ⟨v68, h68⟩ := h67
              refine ⟨v68, ?_⟩
              obtain ⟨v69, h69⟩ := h68
              refine ⟨v69, ?_⟩
              intro M33_70 eM33_70
              have h70 := h69 M33_70 eM33_70
              have F70 : Ks (fun k j => (24 ≤ k ∧ k ≤ 25) ∨ (k = 1 ∧ (j = 42))) M0 M33_70 := by rw [eM33_70]; exact (F35).wr (mw_197 _)
              intro x34_71 g72 g73
              have h71 := h70 x34_71 g72 g73
              intro x35_74 g75 g76
              have h74 := h71 x35_74 g75 g76
              obtain ⟨v77, h77⟩ := h74
              refine ⟨v77, ?_⟩
              obtain ⟨v78, h78⟩ := h77
              refine ⟨v78, ?_⟩
              refine hrc _ _ _ _ _ _ _ ?_ h78
              intro M38_80 f79 h79
              have F79 : Ks (fun k j => (24 ≤ k ∧ k ≤ 25) ∨ (k = 1 ∧ (j = 42))) M0 M38_80 := (F70).tr (f79.mono (by intro k j h; first | exact False.elim h | omega))
              exact ih _ _ F79 h79
theorem fmX12_sharesFrom_L24 {p1 : Int} {p2 : Int} {p3 : Int} {p4 : Int} {Q Q' : Mem → Prop} {rc : Int → Int → Int → Int → Mem → (Mem → Prop) → Prop} (hrc : ∀ (a0 : Int) (a1 : Int) (a2 : Int) (a3 : Int) (M : Mem) (Q Q' : Mem → Prop), (∀ M', Ks (fun k j => (24 ≤ k ∧ k ≤ 25) ∨ (k = 1 ∧ (j = 42))) M M' → Q M' → Q' M') → rc a0 a1 a2 a3 M Q → rc a0 a1 a2 a3 M Q') {M0 : Mem} (hQ : ∀ (M' : Mem), Ks (fun k j => (24 ≤ k ∧ k ≤ 25) ∨ (k = 1 ∧ (j = 42))) M0 M' → Q M' → Q' M') : ∀ (n : Nat) (v5 : Int) (M : Mem), Ks (fun k j => (24 ≤ k ∧ k ≤ 25) ∨ (k = 1 ∧ (j = 42))) M0 M → qX12_sharesFrom_L24 rc p1 p2 p3 p4 Q n v5 M → qX12_sharesFrom_L24 rc p1 p2 p3 p4 Q' n v5 M := by
  intro n
  induction n with
  | zero => intro v5 M _ h; exact h.elim
  | succ n ih =>
    intro v5 M hF h
    rw [qX12_sharesFrom_L24] at h
    rw [qX12_sharesFrom_L24]
    intro x43_1 g2 g3
    have h1 := h x43_1 g2 g3
    obtain ⟨v4, h4⟩ := h1
    refine ⟨v4, ?_⟩
    obtain ⟨h5, h6⟩ := h4
    refine ⟨?_, ?_⟩
    · intro g7
      have h8 := h5 g7
      exact hQ _ hF h8
    · intro g9
      have h10 := h6 g9
      obtain ⟨v11, h11⟩ := h10
      refine ⟨v11, ?_⟩
      obtain ⟨v12, h12⟩ := h11
      refine ⟨v12, ?_⟩
      intro x48_13 g14 g15
      have h13 := h12 x48_13 g14 g15
      intro M49_16 eM49_16
      have h16 := h13 M49_16 eM49_16
      have F16 : Ks (fun k j => (24 ≤ k ∧ k ≤ 25) ∨ (k = 1 ∧ (j = 42))) M0 M49_16 := by rw [eM49_16]; exact (hF).wr (mw_198 _)
      exact ih _ _ F16 h16
theorem fmbX12_sharesFrom {p1 : Int} {p2 : Int} {p3 : Int} {p4 : Int} {M : Mem} {Q Q' : Mem → Prop} {rc : Int → Int → Int → Int → Mem → (Mem → Prop) → Prop} (hrc : ∀ (a0 : Int) (a1 : Int) (a2 : Int) (a3 : Int) (M : Mem) (Q Q' : Mem → Prop), (∀ M', Ks (fun k j => (24 ≤ k ∧ k ≤ 25) ∨ (k = 1 ∧ (j = 42))) M M' → Q M' → Q' M') → rc a0 a1 a2 a3 M Q → rc a0 a1 a2 a3 M Q') (h : bX12_sharesFrom rc p1 p2 p3 p4 M Q) (hQ : ∀ (M' : Mem), Ks (fun k j => (24 ≤ k ∧ k ≤ 25) ∨ (k = 1 ∧ (j = 42))) M M' → Q M' → Q' M') : bX12_sharesFrom rc p1 p2 p3 p4 M Q' := by
  unfold bX12_sharesFrom at h ⊢
  intro x1_1 g2 g3
  have h1 := h x1_1 g2 g3
  obtain ⟨h4, h5⟩ := h1
  refine ⟨?_, ?_⟩
  · intro g6
    have h7 := h4 g6
    intro x3_8 g9 g10
    have h8 := h7 x3_8 g9 g10
    intro x4_11 g12 g13
    have h11 := h8 x4_11 g12 g13
    obtain ⟨v14, h14⟩ := h11
    refine ⟨v14, ?_⟩
    obtain ⟨h15, h16⟩ := h14
    refine ⟨?_, ?_⟩
    · intro g17
      have h18 := h15 g17
      obtain ⟨v19, h19⟩ := h18
      refine ⟨v19, ?_⟩
      obtain ⟨v20, h20⟩ := h19
      refine ⟨v20, ?_⟩
      intro M9_21 eM9_21
      have h21 := h20 M9_21 eM9_21
      have F21 : Ks (fun k j => (24 ≤ k ∧ k ≤ 25) ∨ (k = 1 ∧ (j = 42))) M M9_21 := by rw [eM9_21]; exact (Ks.rf).wr (mw_197 _)
      obtain ⟨v22, h22⟩ := h21
      refine ⟨v22, ?_⟩
      refine hrc _ _ _ _ _ _ _ ?_ h22
      intro M11_24 f23 h23
      have F23 : Ks (fun k j => (24 ≤ k ∧ k ≤ 25) ∨ (k = 1 ∧ (j = 42))) M M11_24 := (F21).tr (f23.mono (by intro k j h; first | exact False.elim h | omega))
      obtain ⟨n25, h25⟩ := h23
      refine ⟨n25, ?_⟩
      refine fmX12_sharesFrom_L91 hrc hQ _ _ _ F23 h25
    · intro g26
      have h27 := h16 g26
      exact hQ _ Ks.rf h27
  · intro g28
    have h29 := h5 g28
    intro x40_30 g31 g32
    have h30 := h29 x40_30 g31 g32
    obtain ⟨h33, h34⟩ := h30
    refine ⟨?_, ?_⟩
    · intro g35
      have h36 := h33 g35
      exact hQ _ Ks.rf h36
    · intro g37
      have h38 := h34 g37
      intro M42_39 eM42_39
      have h39 := h38 M42_39 eM42_39
      have F39 : Ks (fun k j => (24 ≤ k ∧ k ≤ 25) ∨ (k = 1 ∧ (j = 42))) M M42_39 := by rw [eM42_39]; exact (Ks.rf).wr (mw_199)
      obtain ⟨n40, h40⟩ := h39
      refine ⟨n40, ?_⟩
      refine fmX12_sharesFrom_L24 hrc hQ _ _ _ F39 h40
theorem fmX12_sharesFromA : ∀ (d : Nat) (p1 p2 p3 p4 : Int) (M : Mem) (Q Q' : Mem → Prop), (∀ M', Ks (fun k j => (24 ≤ k ∧ k ≤ 25) ∨ (k = 1 ∧ (j = 42))) M M' → Q M' → Q' M') → qX12_sharesFrom d p1 p2 p3 p4 M Q → qX12_sharesFrom d p1 p2 p3 p4 M Q' := by
  intro d
  induction d with
  | zero => intro p1 p2 p3 p4 M Q Q' _ h; exact h.elim
  | succ d ih =>
    intro p1 p2 p3 p4 M Q Q' hQ h
    exact fmbX12_sharesFrom ih h hQ
theorem fmX12_sharesFrom {d : Nat} {p1 p2 p3 p4 : Int} {M : Mem} {Q Q' : Mem → Prop} (h : qX12_sharesFrom d p1 p2 p3 p4 M Q) (hQ : ∀ M', Ks (fun k j => (24 ≤ k ∧ k ≤ 25) ∨ (k = 1 ∧ (j = 42))) M M' → Q M' → Q' M') : qX12_sharesFrom d p1 p2 p3 p4 M Q' := fmX12_sharesFromA d p1 p2 p3 p4 M Q Q' hQ h
theorem fmX12_shares_L39 {p1 : Int} {Q Q' : Int → Mem → Prop} {M0 : Mem} (hQ : ∀ (w0 : Int) (M' : Mem), Ks (fun k j => k = 0 ∨ (24 ≤ k ∧ k ≤ 25) ∨ (k = 1 ∧ (j = 0 ∨ j = 1 ∨ j = 42))) M0 M' → Q w0 M' → Q' w0 M') : ∀ (n : Nat) (v2 : Int) (M : Mem), Ks (fun k j => k = 0 ∨ (24 ≤ k ∧ k ≤ 25) ∨ (k = 1 ∧ (j = 0 ∨ j = 1 ∨ j = 42))) M0 M → qX12_shares_L39 p1 Q n v2 M → qX12_shares_L39 p1 Q' n v2 M := by
  intro n
  induction n with
  | zero => intro v2 M _ h; exact h.elim
  | succ n ih =>
    intro v2 M hF h
    rw [qX12_shares_L39] at h
    rw [qX12_shares_L39]
    intro x8_1 g2 g3
    have h1 := h x8_1 g2 g3
    obtain ⟨v4, h4⟩ := h1
    refine ⟨v4, ?_⟩
    obtain ⟨h5, h6⟩ := h4
    refine ⟨?_, ?_⟩
    · intro g7
      have h8 := h5 g7
      intro x11_9 g10 g11
      have h9 := h8 x11_9 g10 g11
      exact hQ _ _ hF h9
    · intro g12
      have h13 := h6 g12
      obtain ⟨v14, h14⟩ := h13
      refine ⟨v14, ?_⟩
      obtain ⟨v15, h15⟩ := h14
      refine ⟨v15, ?_⟩
      intro x14_16 g17 g18
      have h16 := h15 x14_16 g17 g18
      refine fmX12_enters h16 ?_
      intro M15_20 f19 h19
      have F19 : Ks (fun k j => k = 0 ∨ (24 ≤ k ∧ k ≤ 25) ∨ (k = 1 ∧ (j = 0 ∨ j = 1 ∨ j = 42))) M0 M15_20 := (hF).tr (f19.mono (mo_185))
      exact ih _ _ F19 h19
theorem fmX12_shares {p1 : Int} {M : Mem} {Q Q' : Int → Mem → Prop} (h : qX12_shares p1 M Q) (hQ : ∀ (w0 : Int) (M' : Mem), Ks (fun k j => k = 0 ∨ (24 ≤ k ∧ k ≤ 25) ∨ (k = 1 ∧ (j = 0 ∨ j = 1 ∨ j = 42))) M M' → Q w0 M' → Q' w0 M') : qX12_shares p1 M Q' := by
  unfold qX12_shares at h ⊢
  intro M1_1 eM1_1
  have h1 := h M1_1 eM1_1
  have F1 : Ks (fun k j => k = 0 ∨ (24 ≤ k ∧ k ≤ 25) ∨ (k = 1 ∧ (j = 0 ∨ j = 1 ∨ j = 42))) M M1_1 := by rw [eM1_1]; exact (Ks.rf).wr (mw_200)
  refine fmX12_in h1 ?_
  intro x2_3 M2_4 f2 h2
  have F2 : Ks (fun k j => k = 0 ∨ (24 ≤ k ∧ k ≤ 25) ∨ (k = 1 ∧ (j = 0 ∨ j = 1 ∨ j = 42))) M M2_4 := (F1).tr (f2.mono (fun _ _ h => False.elim h))
  intro g5 g6
  have h7 := h2 g5 g6
  obtain ⟨h8, h9⟩ := h7
  refine ⟨?_, ?_⟩
  · intro g10
    have h11 := h8 g10
    intro M4_12 eM4_12
    have h12 := h11 M4_12 eM4_12
    have F12 : Ks (fun k j => k = 0 ∨ (24 ≤ k ∧ k ≤ 25) ∨ (k = 1 ∧ (j = 0 ∨ j = 1 ∨ j = 42))) M M4_12 := by rw [eM4_12]; exact (F2).wr (mw_201)
    obtain ⟨n13, h13⟩ := h12
    refine ⟨n13, ?_⟩
    obtain ⟨v14, h14⟩ := h13
    refine ⟨v14, ?_⟩
    refine fmX12_sharesFrom h14 ?_
    intro M5_16 f15 h15
    have F15 : Ks (fun k j => k = 0 ∨ (24 ≤ k ∧ k ≤ 25) ∨ (k = 1 ∧ (j = 0 ∨ j = 1 ∨ j = 42))) M M5_16 := (F12).tr (f15.mono (mo_186))
    intro M7_17 eM7_17
    have h17 := h15 M7_17 eM7_17
    have F17 : Ks (fun k j => k = 0 ∨ (24 ≤ k ∧ k ≤ 25) ∨ (k = 1 ∧ (j = 0 ∨ j = 1 ∨ j = 42))) M M7_17 := by rw [eM7_17]; exact (F15).wr (mw_202)
    obtain ⟨n18, h18⟩ := h17
    refine ⟨n18, ?_⟩
    refine fmX12_shares_L39 hQ _ _ _ F17 h18
  · intro g19
    have h20 := h9 g19
    exact hQ _ _ F2 h20
theorem fmX12_strangers_L31  {X128 X128' : Int → Int → Int → Int → Mem → Prop} {Q Q' : Int → Mem → Prop} {M0 : Mem} (hQ : ∀ (w0 : Int) (M' : Mem), Ks (fun k j => k = 0 ∨ (k = 1 ∧ (j = 0 ∨ j = 1))) M0 M' → Q w0 M' → Q' w0 M') (hX128 : ∀ (w0 w1 w2 w3 : Int) (M' : Mem), Ks (fun k j => k = 0 ∨ (k = 1 ∧ (j = 0 ∨ j = 1))) M0 M' → X128 w0 w1 w2 w3 M' → X128' w0 w1 w2 w3 M') : ∀ (n : Nat) (v1 v2 v3 v4 v5 : Int) (M : Mem), Ks (fun k j => k = 0 ∨ (k = 1 ∧ (j = 0 ∨ j = 1))) M0 M → qX12_strangers_L31 X128 Q n v1 v2 v3 v4 v5 M → qX12_strangers_L31 X128' Q' n v1 v2 v3 v4 v5 M := by
  intro n
  induction n with
  | zero => intro v1 v2 v3 v4 v5 M _ h; exact h.elim
  | succ n ih =>
    intro v1 v2 v3 v4 v5 M hF h
    rw [qX12_strangers_L31] at h
    rw [qX12_strangers_L31]
    intro x5_1 g2 g3
    have h1 := h x5_1 g2 g3
    obtain ⟨v4, h4⟩ := h1
    refine ⟨v4, ?_⟩
    obtain ⟨h5, h6⟩ := h4
    refine ⟨?_, ?_⟩
    · intro g7
      have h8 := h5 g7
      exact hX128 _ _ _ _ _ hF h8
    · intro g9
      have h10 := h6 g9
      obtain ⟨v11, h11⟩ := h10
      refine ⟨v11, ?_⟩
      obtain ⟨v12, h12⟩ := h11
      refine ⟨v12, ?_⟩
      intro x10_13 g14 g15
      have h13 := h12 x10_13 g14 g15
      obtain ⟨v16, h16⟩ := h13
      refine ⟨v16, ?_⟩
      obtain ⟨v17, h17⟩ := h16
      refine ⟨v17, ?_⟩
      intro x13_18 g19 g20
      have h18 := h17 x13_18 g19 g20
      obtain ⟨v21, h21⟩ := h18
      refine ⟨v21, ?_⟩
      intro x15_22 g23 g24
      have h22 := h21 x15_22 g23 g24
      obtain ⟨v25, h25⟩ := h22
      refine ⟨v25, ?_⟩
      obtain ⟨v26, h26⟩ := h25
      refine ⟨v26, ?_⟩
      intro x18_27 g28 g29
      have h27 := h26 x18_27 g28 g29
      obtain ⟨v30, h30⟩ := h27
      refine ⟨v30, ?_⟩
      obtain ⟨v31, h31⟩ := h30
      refine ⟨v31, ?_⟩
      intro x21_32 g33 g34
      have h32 := h31 x21_32 g33 g34
      obtain ⟨h35, h36⟩ := h32
      refine ⟨?_, ?_⟩
      · intro g37
        have h38 := h35 g37
        exact ih _ _ _ _ _ _ hF h38
      · intro g39
        have h40 := h36 g39
        obtain ⟨v41, h41⟩ := h40
        refine ⟨v41, ?_⟩
        refine fmX12_isEnded h41 ?_
        intro x24_43 M24_44 f42 h42
        have F42 : Ks (fun k j => k = 0 ∨ (k = 1 ∧ (j = 0 ∨ j = 1))) M0 M24_44 := (hF).tr (f42.mono (fun _ _ h => False.elim h))
        intro g45 g46
        have h47 := h42 g45 g46
        obtain ⟨h48, h49⟩ := h47
        refine ⟨?_, ?_⟩
        · intro g50
          have h51 := h48 g50
          exact ih _ _ _ _ _ _ F42 h51
        · intro g52
          have h53 := h49 g52
          refine fmX12_isEnded h53 ?_
          intro x26_55 M26_56 f54 h54
          have F54 : Ks (fun k j => k = 0 ∨ (k = 1 ∧ (j = 0 ∨ j = 1))) M0 M26_56 := (F42).tr (f54.mono (fun _ _ h => False.elim h))
          intro g57 g58
          have h59 := h54 g57 g58
          obtain ⟨h60, h61⟩ := h59
          refine ⟨?_, ?_⟩
          · intro g62
            have h63 := h60 g62
            exact ih _ _ _ _ _ _ F54 h63
          · intro g64
            have h65 := h61 g64
            obtain ⟨v66, h66⟩ := h65
            refine ⟨v66, ?_⟩
            obtain ⟨v67, h67⟩ := h66
            refine ⟨v67, ?_⟩
            obtain ⟨h68, h69⟩ := h67
            refine ⟨?_, ?_⟩
            · intro g70
              have h71 := h68 g70
              exact ih _ _ _ _ _ _ F54 h71
            · intro g72
              have h73 := h69 g72
              exact ih _ _ _ _ _ _ F54 h73
theorem fmX12_strangers_L16  {X134 X134' : Int → Int → Int → Mem → Prop} {Q Q' : Int → Mem → Prop} {M0 : Mem} (hQ : ∀ (w0 : Int) (M' : Mem), Ks (fun k j => k = 0 ∨ (k = 1 ∧ (j = 0 ∨ j = 1))) M0 M' → Q w0 M' → Q' w0 M') (hX134 : ∀ (w0 w1 w2 : Int) (M' : Mem), Ks (fun k j => k = 0 ∨ (k = 1 ∧ (j = 0 ∨ j = 1))) M0 M' → X134 w0 w1 w2 M' → X134' w0 w1 w2 M') : ∀ (n : Nat) (v1 v2 v3 v4 : Int) (M : Mem), Ks (fun k j => k = 0 ∨ (k = 1 ∧ (j = 0 ∨ j = 1))) M0 M → qX12_strangers_L16 X134 Q n v1 v2 v3 v4 M → qX12_strangers_L16 X134' Q' n v1 v2 v3 v4 M := by
  intro n
  induction n with
  | zero => intro v1 v2 v3 v4 M _ h; exact h.elim
  | succ n ih =>
    intro v1 v2 v3 v4 M hF h
    rw [qX12_strangers_L16] at h
    rw [qX12_strangers_L16]
    intro x2_1 g2 g3
    have h1 := h x2_1 g2 g3
    obtain ⟨v4, h4⟩ := h1
    refine ⟨v4, ?_⟩
    obtain ⟨h5, h6⟩ := h4
    refine ⟨?_, ?_⟩
    · intro g7
      have h8 := h5 g7
      exact hX134 _ _ _ _ hF h8
    · intro g9
      have h10 := h6 g9
      obtain ⟨n11, h11⟩ := h10
      refine ⟨n11, ?_⟩
      refine fmX12_strangers_L31 hQ ?_ _ _ _ _ _ _ _ hF h11
      · intro v1_13 v2_14 v3_15 v4_16 M_17 F12 h12
        exact ih _ _ _ _ _ F12 h12
theorem fmX12_strangers  {M : Mem} {Q Q' : Int → Mem → Prop} (h : qX12_strangers M Q) (hQ : ∀ (w0 : Int) (M' : Mem), Ks (fun k j => k = 0 ∨ (k = 1 ∧ (j = 0 ∨ j = 1))) M M' → Q w0 M' → Q' w0 M') : qX12_strangers M Q' := by
  unfold qX12_strangers at h ⊢
  intro M1_1 eM1_1
  have h1 := h M1_1 eM1_1
  have F1 : Ks (fun k j => k = 0 ∨ (k = 1 ∧ (j = 0 ∨ j = 1))) M M1_1 := by rw [eM1_1]; exact (Ks.rf).wr (mw_203)
  obtain ⟨n2, h2⟩ := h1
  refine ⟨n2, ?_⟩
  refine fmX12_strangers_L16 hQ ?_ _ _ _ _ _ _ F1 h2
  · intro v1_4 v2_5 v3_6 M_7 F3 h3
    obtain ⟨v8, h8⟩ := h3
    refine ⟨v8, ?_⟩
    obtain ⟨h9, h10⟩ := h8
    refine ⟨?_, ?_⟩
    · intro g11
      have h12 := h9 g11
      intro M35_13 eM35_13
      have h13 := h12 M35_13 eM35_13
      have F13 : Ks (fun k j => k = 0 ∨ (k = 1 ∧ (j = 0 ∨ j = 1))) M M35_13 := by rw [eM35_13]; exact (F3).wr (mw_204)
      refine fmX12_enters h13 ?_
      intro M36_15 f14 h14
      have F14 : Ks (fun k j => k = 0 ∨ (k = 1 ∧ (j = 0 ∨ j = 1))) M M36_15 := (F13).tr (f14.mono (mo_187))
      obtain ⟨v16, h16⟩ := h14
      refine ⟨v16, ?_⟩
      refine fmX12_enters h16 ?_
      intro M38_18 f17 h17
      have F17 : Ks (fun k j => k = 0 ∨ (k = 1 ∧ (j = 0 ∨ j = 1))) M M38_18 := (F14).tr (f17.mono (mo_187))
      obtain ⟨v19, h19⟩ := h17
      refine ⟨v19, ?_⟩
      exact hQ _ _ F17 h19
    · intro g20
      have h21 := h10 g20
      exact hQ _ _ F3 h21
theorem fmX12_doubts_L41  {X127 X127' : Int → Int → Int → Mem → Prop} {Q Q' : Int → Mem → Prop} {M0 : Mem} (hQ : ∀ (w0 : Int) (M' : Mem), Ks (fun k j => k = 0 ∨ (k = 1 ∧ (j = 0 ∨ j = 1))) M0 M' → Q w0 M' → Q' w0 M') (hX127 : ∀ (w0 w1 w2 : Int) (M' : Mem), Ks (fun k j => k = 0 ∨ (k = 1 ∧ (j = 0 ∨ j = 1))) M0 M' → X127 w0 w1 w2 M' → X127' w0 w1 w2 M') : ∀ (n : Nat) (v1 v2 v3 v4 v5 : Int) (M : Mem), Ks (fun k j => k = 0 ∨ (k = 1 ∧ (j = 0 ∨ j = 1))) M0 M → qX12_doubts_L41 X127 Q n v1 v2 v3 v4 v5 M → qX12_doubts_L41 X127' Q' n v1 v2 v3 v4 v5 M := by
  intro n
  induction n with
  | zero => intro v1 v2 v3 v4 v5 M _ h; exact h.elim
  | succ n ih =>
    intro v1 v2 v3 v4 v5 M hF h
    rw [qX12_doubts_L41] at h
    rw [qX12_doubts_L41]
    intro x9_1 g2 g3
    have h1 := h x9_1 g2 g3
    obtain ⟨v4, h4⟩ := h1
    refine ⟨v4, ?_⟩
    obtain ⟨h5, h6⟩ := h4
    refine ⟨?_, ?_⟩
    · intro g7
      have h8 := h5 g7
      exact hX127 _ _ _ _ hF h8
    · intro g9
      have h10 := h6 g9
      obtain ⟨v11, h11⟩ := h10
      refine ⟨v11, ?_⟩
      obtain ⟨h12, h13⟩ := h11
      refine ⟨?_, ?_⟩
      · intro g14
        have h15 := h12 g14
        exact hX127 _ _ _ _ hF h15
      · intro g16
        have h17 := h13 g16
        refine fmX12_isOn h17 ?_
        intro x14_19 M14_20 f18 h18
        have F18 : Ks (fun k j => k = 0 ∨ (k = 1 ∧ (j = 0 ∨ j = 1))) M0 M14_20 := (hF).tr (f18.mono (fun _ _ h => False.elim h))
        intro g21 g22
        have h23 := h18 g21 g22
        obtain ⟨h24, h25⟩ := h23
        refine ⟨?_, ?_⟩
        · intro g26
          have h27 := h24 g26
          unfold qX12_doubts_J114 at h27 ⊢
          unfold qX12_doubts_J115 at h27 ⊢
          obtain ⟨v28, h28⟩ := h27
          refine ⟨v28, ?_⟩
          refine fmX12_flag h28 ?_
          intro x17_30 M17_31 f29 h29
          have F29 : Ks (fun k j => k = 0 ∨ (k = 1 ∧ (j = 0 ∨ j = 1))) M0 M17_31 := (F18).tr (f29.mono (fun _ _ h => False.elim h))
          intro g32
          have h33 := h29 g32
          exact ih _ _ _ _ _ _ F29 h33
        · intro g34
          have h35 := h25 g34
          obtain ⟨v36, h36⟩ := h35
          refine ⟨v36, ?_⟩
          obtain ⟨v37, h37⟩ := h36
          refine ⟨v37, ?_⟩
          intro x20_38 g39 g40
          have h38 := h37 x20_38 g39 g40
          obtain ⟨v41, h41⟩ := h38
          refine ⟨v41, ?_⟩
          obtain ⟨v42, h42⟩ := h41
          refine ⟨v42, ?_⟩
          intro x23_43 g44 g45
          have h43 := h42 x23_43 g44 g45
          obtain ⟨v46, h46⟩ := h43
          refine ⟨v46, ?_⟩
          intro x25_47 g48 g49
          have h47 := h46 x25_47 g48 g49
          obtain ⟨v50, h50⟩ := h47
          refine ⟨v50, ?_⟩
          obtain ⟨v51, h51⟩ := h50
          refine ⟨v51, ?_⟩
          intro x28_52 g53 g54
          have h52 := h51 x28_52 g53 g54
          intro x29_55 g56 g57
          have h55 := h52 x29_55 g56 g57
          obtain ⟨v58, h58⟩ := h55
          refine ⟨v58, ?_⟩
          intro x31_59 g60 g61
          have h59 := h58 x31_59 g60 g61
          obtain ⟨v62, h62⟩ := h59
          refine ⟨v62, ?_⟩
          obtain ⟨v63, h63⟩ := h62
          refine ⟨v63, ?_⟩
          obtain ⟨h64, h65⟩ := h63
          refine ⟨?_, ?_⟩
          · intro g66
            have h67 := h64 g66
            unfold qX12_doubts_J114 at h67 ⊢
            unfold qX12_doubts_J115 at h67 ⊢
            obtain ⟨v68, h68⟩ := h67
            refine ⟨v68, ?_⟩
            refine fmX12_flag h68 ?_
            intro x17_70 M17_71 f69 h69
            have F69 : Ks (fun k j => k = 0 ∨ (k = 1 ∧ (j = 0 ∨ j = 1))) M0 M17_71 := (F18).tr (f69.mono (fun _ _ h => False.elim h))
            intro g72
            have h73 := h69 g72
            exact ih _ _ _ _ _ _ F69 h73
          · intro g74
            have h75 := h65 g74
            unfold qX12_doubts_J115 at h75 ⊢
            obtain ⟨v76, h76⟩ := h75
            refine ⟨v76, ?_⟩
            refine fmX12_flag h76 ?_
            intro x17_78 M17_79 f77 h77
            have F77 : Ks (fun k j => k = 0 ∨ (k = 1 ∧ (j = 0 ∨ j = 1))) M0 M17_79 := (F18).tr (f77.mono (fun _ _ h => False.elim h))
            intro g80
            have h81 := h77 g80
            exact ih _ _ _ _ _ _ F77 h81
theorem fmX12_doubts_L9  {X160 X160' : Int → Mem → Prop} {Q Q' : Int → Mem → Prop} {M0 : Mem} (hQ : ∀ (w0 : Int) (M' : Mem), Ks (fun k j => k = 0 ∨ (k = 1 ∧ (j = 0 ∨ j = 1))) M0 M' → Q w0 M' → Q' w0 M') (hX160 : ∀ (w0 : Int) (M' : Mem), Ks (fun k j => k = 0 ∨ (k = 1 ∧ (j = 0 ∨ j = 1))) M0 M' → X160 w0 M' → X160' w0 M') : ∀ (n : Nat) (v1 v2 : Int) (M : Mem), Ks (fun k j => k = 0 ∨ (k = 1 ∧ (j = 0 ∨ j = 1))) M0 M → qX12_doubts_L9 X160 Q n v1 v2 M → qX12_doubts_L9 X160' Q' n v1 v2 M := by
  intro n
  induction n with
  | zero => intro v1 v2 M _ h; exact h.elim
  | succ n ih =>
    intro v1 v2 M hF h
    rw [qX12_doubts_L9] at h
    rw [qX12_doubts_L9]
    intro x2_1 g2 g3
    have h1 := h x2_1 g2 g3
    obtain ⟨v4, h4⟩ := h1
    refine ⟨v4, ?_⟩
    obtain ⟨h5, h6⟩ := h4
    refine ⟨?_, ?_⟩
    · intro g7
      have h8 := h5 g7
      exact hX160 _ _ hF h8
    · intro g9
      have h10 := h6 g9
      obtain ⟨v11, h11⟩ := h10
      refine ⟨v11, ?_⟩
      obtain ⟨v12, h12⟩ := h11
      refine ⟨v12, ?_⟩
      intro x7_13 g14 g15
      have h13 := h12 x7_13 g14 g15
      refine fmX12_nearest h13 ?_
      intro x8_17 M8_18 f16 h16
      have F16 : Ks (fun k j => k = 0 ∨ (k = 1 ∧ (j = 0 ∨ j = 1))) M0 M8_18 := (hF).tr (f16.mono (fun _ _ h => False.elim h))
      intro g19
      have h20 := h16 g19
      obtain ⟨n21, h21⟩ := h20
      refine ⟨n21, ?_⟩
      refine fmX12_doubts_L41 hQ ?_ _ _ _ _ _ _ _ F16 h21
      · intro v1_23 v2_24 v4_25 M_26 F22 h22
        unfold qX12_doubts_J127 at h22 ⊢
        obtain ⟨v27, h27⟩ := h22
        refine ⟨v27, ?_⟩
        obtain ⟨h28, h29⟩ := h27
        refine ⟨?_, ?_⟩
        · intro g30
          have h31 := h28 g30
          intro x38_32 g33 g34
          have h32 := h31 x38_32 g33 g34
          exact ih _ _ _ F22 h32
        · intro g35
          have h36 := h29 g35
          obtain ⟨v37, h37⟩ := h36
          refine ⟨v37, ?_⟩
          refine fmX12_isEnded h37 ?_
          intro x40_39 M40_40 f38 h38
          have F38 : Ks (fun k j => k = 0 ∨ (k = 1 ∧ (j = 0 ∨ j = 1))) M0 M40_40 := (F22).tr (f38.mono (fun _ _ h => False.elim h))
          intro g41 g42
          have h43 := h38 g41 g42
          obtain ⟨h44, h45⟩ := h43
          refine ⟨?_, ?_⟩
          · intro g46
            have h47 := h44 g46
            intro x42_48 g49 g50
            have h48 := h47 x42_48 g49 g50
            exact ih _ _ _ F38 h48
          · intro g51
            have h52 := h45 g51
            intro x43_53 g54 g55
            have h53 := h52 x43_53 g54 g55
            intro x44_56 g57 g58
            have h56 := h53 x44_56 g57 g58
            exact ih _ _ _ F38 h56
theorem fmX12_doubts  {M : Mem} {Q Q' : Int → Mem → Prop} (h : qX12_doubts M Q) (hQ : ∀ (w0 : Int) (M' : Mem), Ks (fun k j => k = 0 ∨ (k = 1 ∧ (j = 0 ∨ j = 1))) M M' → Q w0 M' → Q' w0 M') : qX12_doubts M Q' := by
  unfold qX12_doubts at h ⊢
  intro M1_1 eM1_1
  have h1 := h M1_1 eM1_1
  have F1 : Ks (fun k j => k = 0 ∨ (k = 1 ∧ (j = 0 ∨ j = 1))) M M1_1 := by rw [eM1_1]; exact (Ks.rf).wr (mw_203)
  obtain ⟨n2, h2⟩ := h1
  refine ⟨n2, ?_⟩
  refine fmX12_doubts_L9 hQ ?_ _ _ _ _ F1 h2
  · intro v1_4 M_5 F3 h3
    intro M46_6 eM46_6
    have h6 := h3 M46_6 eM46_6
    have F6 : Ks (fun k j => k = 0 ∨ (k = 1 ∧ (j = 0 ∨ j = 1))) M M46_6 := by rw [eM46_6]; exact (F3).wr (mw_204)
    obtain ⟨v7, h7⟩ := h6
    refine ⟨v7, ?_⟩
    refine fmJ6_bitCount_0f7a4 h7 ?_
    intro x48_9 M48_10 f8 h8
    have F8 : Ks (fun k j => k = 0 ∨ (k = 1 ∧ (j = 0 ∨ j = 1))) M M48_10 := (F6).tr (f8.mono (fun _ _ h => False.elim h))
    intro g11
    have h12 := h8 g11
    refine fmX12_enters h12 ?_
    intro M49_14 f13 h13
    have F13 : Ks (fun k j => k = 0 ∨ (k = 1 ∧ (j = 0 ∨ j = 1))) M M49_14 := (F8).tr (f13.mono (mo_187))
    exact hQ _ _ F13 h13
theorem fmX12_heard {p1 : Int} {p2 : Int} {M : Mem} {Q Q' : Int → Mem → Prop} (h : qX12_heard p1 p2 M Q) (hQ : ∀ (w0 : Int) (M' : Mem), Ks (fun k j => (26 ≤ k ∧ k ≤ 27) ∨ (k = 1 ∧ (j = 0 ∨ j = 45))) M M' → Q w0 M' → Q' w0 M') : qX12_heard p1 p2 M Q' := by
  unfold qX12_heard at h ⊢
  intro M1_1 eM1_1
  have h1 := h M1_1 eM1_1
  have F1 : Ks (fun k j => (26 ≤ k ∧ k ≤ 27) ∨ (k = 1 ∧ (j = 0 ∨ j = 45))) M M1_1 := by rw [eM1_1]; exact (Ks.rf).wr (mw_205)
  obtain ⟨h2, h3⟩ := h1
  refine ⟨?_, ?_⟩
  · intro g4
    have h5 := h2 g4
    obtain ⟨h6, h7⟩ := h5
    refine ⟨?_, ?_⟩
    · intro g8
      have h9 := h6 g8
      unfold qX12_heard_J26 at h9 ⊢
      refine fmX12_in h9 ?_
      intro x4_11 M4_12 f10 h10
      have F10 : Ks (fun k j => (26 ≤ k ∧ k ≤ 27) ∨ (k = 1 ∧ (j = 0 ∨ j = 45))) M M4_12 := (F1).tr (f10.mono (fun _ _ h => False.elim h))
      intro g13 g14
      have h15 := h10 g13 g14
      obtain ⟨h16, h17⟩ := h15
      refine ⟨?_, ?_⟩
      · intro g18
        have h19 := h16 g18
        exact hQ _ _ F10 h19
      · intro g20
        have h21 := h17 g20
        obtain ⟨h22, h23⟩ := h21
        refine ⟨?_, ?_⟩
        · intro g24
          have h25 := h22 g24
          unfold qX12_heard_J51 at h25 ⊢
          obtain ⟨v26, h26⟩ := h25
          refine ⟨v26, ?_⟩
          refine fmX12_flag h26 ?_
          intro x8_28 M8_29 f27 h27
          have F27 : Ks (fun k j => (26 ≤ k ∧ k ≤ 27) ∨ (k = 1 ∧ (j = 0 ∨ j = 45))) M M8_29 := (F10).tr (f27.mono (fun _ _ h => False.elim h))
          intro g30
          have h31 := h27 g30
          obtain ⟨v32, h32⟩ := h31
          refine ⟨v32, ?_⟩
          obtain ⟨v33, h33⟩ := h32
          refine ⟨v33, ?_⟩
          refine fmX12_in h33 ?_
          intro x11_35 M11_36 f34 h34
          have F34 : Ks (fun k j => (26 ≤ k ∧ k ≤ 27) ∨ (k = 1 ∧ (j = 0 ∨ j = 45))) M M11_36 := (F27).tr (f34.mono (fun _ _ h => False.elim h))
          intro g37 g38
          have h39 := h34 g37 g38
          obtain ⟨h40, h41⟩ := h39
          refine ⟨?_, ?_⟩
          · intro g42
            have h43 := h40 g42
            exact hQ _ _ F34 h43
          · intro g44
            have h45 := h41 g44
            intro x13_46 g47 g48
            have h46 := h45 x13_46 g47 g48
            obtain ⟨h49, h50⟩ := h46
            refine ⟨?_, ?_⟩
            · intro g51
              have h52 := h49 g51
              intro x15_53 g54 g55
              have h53 := h52 x15_53 g54 g55
              obtain ⟨v56, h56⟩ := h53
              refine ⟨v56, ?_⟩
              obtain ⟨v57, h57⟩ := h56
              refine ⟨v57, ?_⟩
              intro M18_58 eM18_58
              have h58 := h57 M18_58 eM18_58
              have F58 : Ks (fun k j => (26 ≤ k ∧ k ≤ 27) ∨ (k = 1 ∧ (j = 0 ∨ j = 45))) M M18_58 := by rw [eM18_58]; exact (F34).wr (mw_206 _)
              intro x19_59 g60 g61
              have h59 := h58 x19_59 g60 g61
              obtain ⟨v62, h62⟩ := h59
              refine ⟨v62, ?_⟩
              obtain ⟨v63, h63⟩ := h62
              refine ⟨v63, ?_⟩
              intro M22_64 eM22_64
              have h64 := h63 M22_64 eM22_64
              have F64 : Ks (fun k j => (26 ≤ k ∧ k ≤ 27) ∨ (k = 1 ∧ (j = 0 ∨ j = 45))) M M22_64 := by rw [eM22_64]; exact (F58).wr (mw_207 _)
              intro x23_65 g66 g67
              have h65 := h64 x23_65 g66 g67
              obtain ⟨v68, h68⟩ := h65
              refine ⟨v68, ?_⟩
              intro M25_69 eM25_69
              have h69 := h68 M25_69 eM25_69
              have F69 : Ks (fun k j => (26 ≤ k ∧ k ≤ 27) ∨ (k = 1 ∧ (j = 0 ∨ j = 45))) M M25_69 := by rw [eM25_69]; exact (F64).wr (mw_208)
              intro x26_70 g71 g72
              have h70 := h69 x26_70 g71 g72
              exact hQ _ _ F69 h70
            · intro g73
              have h74 := h50 g73
              exact hQ _ _ F34 h74
        · intro g75
          have h76 := h23 g75
          unfold qX12_heard_J51 at h76 ⊢
          obtain ⟨v77, h77⟩ := h76
          refine ⟨v77, ?_⟩
          refine fmX12_flag h77 ?_
          intro x8_79 M8_80 f78 h78
          have F78 : Ks (fun k j => (26 ≤ k ∧ k ≤ 27) ∨ (k = 1 ∧ (j = 0 ∨ j = 45))) M M8_80 := (F10).tr (f78.mono (fun _ _ h => False.elim h))
          intro g81
          have h82 := h78 g81
          obtain ⟨v83, h83⟩ := h82
          refine ⟨v83, ?_⟩
          obtain ⟨v84, h84⟩ := h83
          refine ⟨v84, ?_⟩
          refine fmX12_in h84 ?_
          intro x11_86 M11_87 f85 h85
          have F85 : Ks (fun k j => (26 ≤ k ∧ k ≤ 27) ∨ (k = 1 ∧ (j = 0 ∨ j = 45))) M M11_87 := (F78).tr (f85.mono (fun _ _ h => False.elim h))
          intro g88 g89
          have h90 := h85 g88 g89
          obtain ⟨h91, h92⟩ := h90
          refine ⟨?_, ?_⟩
          · intro g93
            have h94 := h91 g93
            exact hQ _ _ F85 h94
          · intro g95
            have h96 := h92 g95
            intro x13_97 g98 g99
            have h97 := h96 x13_97 g98 g99
            obtain ⟨h100, h101⟩ := h97
            refine ⟨?_, ?_⟩
            · intro g102
              have h103 := h100 g102
              intro x15_104 g105 g106
              have h104 := h103 x15_104 g105 g106
              obtain ⟨v107, h107⟩ := h104
              refine ⟨v107, ?_⟩
              obtain ⟨v108, h108⟩ := h107
              refine ⟨v108, ?_⟩
              intro M18_109 eM18_109
              have h109 := h108 M18_109 eM18_109
              have F109 : Ks (fun k j => (26 ≤ k ∧ k ≤ 27) ∨ (k = 1 ∧ (j = 0 ∨ j = 45))) M M18_109 := by rw [eM18_109]; exact (F85).wr (mw_206 _)
              intro x19_110 g111 g112
              have h110 := h109 x19_110 g111 g112
              obtain ⟨v113, h113⟩ := h110
              refine ⟨v113, ?_⟩
              obtain ⟨v114, h114⟩ := h113
              refine ⟨v114, ?_⟩
              intro M22_115 eM22_115
              have h115 := h114 M22_115 eM22_115
              have F115 : Ks (fun k j => (26 ≤ k ∧ k ≤ 27) ∨ (k = 1 ∧ (j = 0 ∨ j = 45))) M M22_115 := by rw [eM22_115]; exact (F109).wr (mw_207 _)
              intro x23_116 g117 g118
              have h116 := h115 x23_116 g117 g118
              obtain ⟨v119, h119⟩ := h116
              refine ⟨v119, ?_⟩
              intro M25_120 eM25_120
              have h120 := h119 M25_120 eM25_120
              have F120 : Ks (fun k j => (26 ≤ k ∧ k ≤ 27) ∨ (k = 1 ∧ (j = 0 ∨ j = 45))) M M25_120 := by rw [eM25_120]; exact (F115).wr (mw_208)
              intro x26_121 g122 g123
              have h121 := h120 x26_121 g122 g123
              exact hQ _ _ F120 h121
            · intro g124
              have h125 := h101 g124
              exact hQ _ _ F85 h125
    · intro g126
      have h127 := h7 g126
      unfold qX12_heard_J26 at h127 ⊢
      refine fmX12_in h127 ?_
      intro x4_129 M4_130 f128 h128
      have F128 : Ks (fun k j => (26 ≤ k ∧ k ≤ 27) ∨ (k = 1 ∧ (j = 0 ∨ j = 45))) M M4_130 := (F1).tr (f128.mono (fun _ _ h => False.elim h))
      intro g131 g132
      have h133 := h128 g131 g132
      obtain ⟨h134, h135⟩ := h133
      refine ⟨?_, ?_⟩
      · intro g136
        have h137 := h134 g136
        exact hQ _ _ F128 h137
      · intro g138
        have h139 := h135 g138
        obtain ⟨h140, h141⟩ := h139
        refine ⟨?_, ?_⟩
        · intro g142
          have h143 := h140 g142
          unfold qX12_heard_J51 at h143 ⊢
          obtain ⟨v144, h144⟩ := h143
          refine ⟨v144, ?_⟩
          refine fmX12_flag h144 ?_
          intro x8_146 M8_147 f145 h145
          have F145 : Ks (fun k j => (26 ≤ k ∧ k ≤ 27) ∨ (k = 1 ∧ (j = 0 ∨ j = 45))) M M8_147 := (F128).tr (f145.mono (fun _ _ h => False.elim h))
          intro g148
          have h149 := h145 g148
          obtain ⟨v150, h150⟩ := h149
          refine ⟨v150, ?_⟩
          obtain ⟨v151, h151⟩ := h150
          refine ⟨v151, ?_⟩
          refine fmX12_in h151 ?_
          intro x11_153 M11_154 f152 h152
          have F152 : Ks (fun k j => (26 ≤ k ∧ k ≤ 27) ∨ (k = 1 ∧ (j = 0 ∨ j = 45))) M M11_154 := (F145).tr (f152.mono (fun _ _ h => False.elim h))
          intro g155 g156
          have h157 := h152 g155 g156
          obtain ⟨h158, h159⟩ := h157
          refine ⟨?_, ?_⟩
          · intro g160
            have h161 := h158 g160
            exact hQ _ _ F152 h161
          · intro g162
            have h163 := h159 g162
            intro x13_164 g165 g166
            have h164 := h163 x13_164 g165 g166
            obtain ⟨h167, h168⟩ := h164
            refine ⟨?_, ?_⟩
            · intro g169
              have h170 := h167 g169
              intro x15_171 g172 g173
              have h171 := h170 x15_171 g172 g173
              obtain ⟨v174, h174⟩ := h171
              refine ⟨v174, ?_⟩
              obtain ⟨v175, h175⟩ := h174
              refine ⟨v175, ?_⟩
              intro M18_176 eM18_176
              have h176 := h175 M18_176 eM18_176
              have F176 : Ks (fun k j => (26 ≤ k ∧ k ≤ 27) ∨ (k = 1 ∧ (j = 0 ∨ j = 45))) M M18_176 := by rw [eM18_176]; exact (F152).wr (mw_206 _)
              intro x19_177 g178 g179
              have h177 := h176 x19_177 g178 g179
              obtain ⟨v180, h180⟩ := h177
              refine ⟨v180, ?_⟩
              obtain ⟨v181, h181⟩ := h180
              refine ⟨v181, ?_⟩
              intro M22_182 eM22_182
              have h182 := h181 M22_182 eM22_182
              have F182 : Ks (fun k j => (26 ≤ k ∧ k ≤ 27) ∨ (k = 1 ∧ (j = 0 ∨ j = 45))) M M22_182 := by rw [eM22_182]; exact (F176).wr (mw_207 _)
              intro x23_183 g184 g185
              have h183 := h182 x23_183 g184 g185
              obtain ⟨v186, h186⟩ := h183
              refine ⟨v186, ?_⟩
              intro M25_187 eM25_187
              have h187 := h186 M25_187 eM25_187
              have F187 : Ks (fun k j => (26 ≤ k ∧ k ≤ 27) ∨ (k = 1 ∧ (j = 0 ∨ j = 45))) M M25_187 := by rw [eM25_187]; exact (F182).wr (mw_208)
              intro x26_188 g189 g190
              have h188 := h187 x26_188 g189 g190
              exact hQ _ _ F187 h188
            · intro g191
              have h192 := h168 g191
              exact hQ _ _ F152 h192
        · intro g193
          have h194 := h141 g193
          unfold qX12_heard_J51 at h194 ⊢
          obtain ⟨v195, h195⟩ := h194
          refine ⟨v195, ?_⟩
          refine fmX12_flag h195 ?_
          intro x8_197 M8_198 f196 h196
          have F196 : Ks (fun k j => (26 ≤ k ∧ k ≤ 27) ∨ (k = 1 ∧ (j = 0 ∨ j = 45))) M M8_198 := (F128).tr (f196.mono (fun _ _ h => False.elim h))
          intro g199
          have h200 := h196 g199
          obtain ⟨v201, h201⟩ := h200
          refine ⟨v201, ?_⟩
          obtain ⟨v202, h202⟩ := h201
          refine ⟨v202, ?_⟩
          refine fmX12_in h202 ?_
          intro x11_204 M11_205 f203 h203
          have F203 : Ks (fun k j => (26 ≤ k ∧ k ≤ 27) ∨ (k = 1 ∧ (j = 0 ∨ j = 45))) M M11_205 := (F196).tr (f203.mono (fun _ _ h => False.elim h))
          intro g206 g207
          have h208 := h203 g206 g207
          obtain ⟨h209, h210⟩ := h208
          refine ⟨?_, ?_⟩
          · intro g211
            have h212 := h209 g211
            exact hQ _ _ F203 h212
          · intro g213
            have h214 := h210 g213
            intro x13_215 g216 g217
            have h215 := h214 x13_215 g216 g217
            obtain ⟨h218, h219⟩ := h215
            refine ⟨?_, ?_⟩
            · intro g220
              have h221 := h218 g220
              intro x15_222 g223 g224
              have h222 := h221 x15_222 g223 g224
              obtain ⟨v225, h225⟩ := h222
              refine ⟨v225, ?_⟩
              obtain ⟨v226, h226⟩ := h225
              refine ⟨v226, ?_⟩
              intro M18_227 eM18_227
              have h227 := h226 M18_227 eM18_227
              have F227 : Ks (fun k j => (26 ≤ k ∧ k ≤ 27) ∨ (k = 1 ∧ (j = 0 ∨ j = 45))) M M18_227 := by rw [eM18_227]; exact (F203).wr (mw_206 _)
              intro x19_228 g229 g230
              have h228 := h227 x19_228 g229 g230
              obtain ⟨v231, h231⟩ := h228
              refine ⟨v231, ?_⟩
              obtain ⟨v232, h232⟩ := h231
              refine ⟨v232, ?_⟩
              intro M22_233 eM22_233
              have h233 := h232 M22_233 eM22_233
              have F233 : Ks (fun k j => (26 ≤ k ∧ k ≤ 27) ∨ (k = 1 ∧ (j = 0 ∨ j = 45))) M M22_233 := by rw [eM22_233]; exact (F227).wr (mw_207 _)
              intro x23_234 g235 g236
              have h234 := h233 x23_234 g235 g236
              obtain ⟨v237, h237⟩ := h234
              refine ⟨v237, ?_⟩
              intro M25_238 eM25_238
              have h238 := h237 M25_238 eM25_238
              have F238 : Ks (fun k j => (26 ≤ k ∧ k ≤ 27) ∨ (k = 1 ∧ (j = 0 ∨ j = 45))) M M25_238 := by rw [eM25_238]; exact (F233).wr (mw_208)
              intro x26_239 g240 g241
              have h239 := h238 x26_239 g240 g241
              exact hQ _ _ F238 h239
            · intro g242
              have h243 := h219 g242
              exact hQ _ _ F203 h243
  · intro g244
    have h245 := h3 g244
    unfold qX12_heard_J26 at h245 ⊢
    refine fmX12_in h245 ?_
    intro x4_247 M4_248 f246 h246
    have F246 : Ks (fun k j => (26 ≤ k ∧ k ≤ 27) ∨ (k = 1 ∧ (j = 0 ∨ j = 45))) M M4_248 := (F1).tr (f246.mono (fun _ _ h => False.elim h))
    intro g249 g250
    have h251 := h246 g249 g250
    obtain ⟨h252, h253⟩ := h251
    refine ⟨?_, ?_⟩
    · intro g254
      have h255 := h252 g254
      exact hQ _ _ F246 h255
    · intro g256
      have h257 := h253 g256
      obtain ⟨h258, h259⟩ := h257
      refine ⟨?_, ?_⟩
      · intro g260
        have h261 := h258 g260
        unfold qX12_heard_J51 at h261 ⊢
        obtain ⟨v262, h262⟩ := h261
        refine ⟨v262, ?_⟩
        refine fmX12_flag h262 ?_
        intro x8_264 M8_265 f263 h263
        have F263 : Ks (fun k j => (26 ≤ k ∧ k ≤ 27) ∨ (k = 1 ∧ (j = 0 ∨ j = 45))) M M8_265 := (F246).tr (f263.mono (fun _ _ h => False.elim h))
        intro g266
        have h267 := h263 g266
        obtain ⟨v268, h268⟩ := h267
        refine ⟨v268, ?_⟩
        obtain ⟨v269, h269⟩ := h268
        refine ⟨v269, ?_⟩
        refine fmX12_in h269 ?_
        intro x11_271 M11_272 f270 h270
        have F270 : Ks (fun k j => (26 ≤ k ∧ k ≤ 27) ∨ (k = 1 ∧ (j = 0 ∨ j = 45))) M M11_272 := (F263).tr (f270.mono (fun _ _ h => False.elim h))
        intro g273 g274
        have h275 := h270 g273 g274
        obtain ⟨h276, h277⟩ := h275
        refine ⟨?_, ?_⟩
        · intro g278
          have h279 := h276 g278
          exact hQ _ _ F270 h279
        · intro g280
          have h281 := h277 g280
          intro x13_282 g283 g284
          have h282 := h281 x13_282 g283 g284
          obtain ⟨h285, h286⟩ := h282
          refine ⟨?_, ?_⟩
          · intro g287
            have h288 := h285 g287
            intro x15_289 g290 g291
            have h289 := h288 x15_289 g290 g291
            obtain ⟨v292, h292⟩ := h289
            refine ⟨v292, ?_⟩
            obtain ⟨v293, h293⟩ := h292
            refine ⟨v293, ?_⟩
            intro M18_294 eM18_294
            have h294 := h293 M18_294 eM18_294
            have F294 : Ks (fun k j => (26 ≤ k ∧ k ≤ 27) ∨ (k = 1 ∧ (j = 0 ∨ j = 45))) M M18_294 := by rw [eM18_294]; exact (F270).wr (mw_206 _)
            intro x19_295 g296 g297
            have h295 := h294 x19_295 g296 g297
            obtain ⟨v298, h298⟩ := h295
            refine ⟨v298, ?_⟩
            obtain ⟨v299, h299⟩ := h298
            refine ⟨v299, ?_⟩
            intro M22_300 eM22_300
            have h300 := h299 M22_300 eM22_300
            have F300 : Ks (fun k j => (26 ≤ k ∧ k ≤ 27) ∨ (k = 1 ∧ (j = 0 ∨ j = 45))) M M22_300 := by rw [eM22_300]; exact (F294).wr (mw_207 _)
            intro x23_301 g302 g303
            have h301 := h300 x23_301 g302 g303
            obtain ⟨v304, h304⟩ := h301
            refine ⟨v304, ?_⟩
            intro M25_305 eM25_305
            have h305 := h304 M25_305 eM25_305
            have F305 : Ks (fun k j => (26 ≤ k ∧ k ≤ 27) ∨ (k = 1 ∧ (j = 0 ∨ j = 45))) M M25_305 := by rw [eM25_305]; exact (F300).wr (mw_208)
            intro x26_306 g307 g308
            have h306 := h305 x26_306 g307 g308
            exact hQ _ _ F305 h306
          · intro g309
            have h310 := h286 g309
            exact hQ _ _ F270 h310
      · intro g311
        have h312 := h259 g311
        unfold qX12_heard_J51 at h312 ⊢
        obtain ⟨v313, h313⟩ := h312
        refine ⟨v313, ?_⟩
        refine fmX12_flag h313 ?_
        intro x8_315 M8_316 f314 h314
        have F314 : Ks (fun k j => (26 ≤ k ∧ k ≤ 27) ∨ (k = 1 ∧ (j = 0 ∨ j = 45))) M M8_316 := (F246).tr (f314.mono (fun _ _ h => False.elim h))
        intro g317
        have h318 := h314 g317
        obtain ⟨v319, h319⟩ := h318
        refine ⟨v319, ?_⟩
        obtain ⟨v320, h320⟩ := h319
        refine ⟨v320, ?_⟩
        refine fmX12_in h320 ?_
        intro x11_322 M11_323 f321 h321
        have F321 : Ks (fun k j => (26 ≤ k ∧ k ≤ 27) ∨ (k = 1 ∧ (j = 0 ∨ j = 45))) M M11_323 := (F314).tr (f321.mono (fun _ _ h => False.elim h))
        intro g324 g325
        have h326 := h321 g324 g325
        obtain ⟨h327, h328⟩ := h326
        refine ⟨?_, ?_⟩
        · intro g329
          have h330 := h327 g329
          exact hQ _ _ F321 h330
        · intro g331
          have h332 := h328 g331
          intro x13_333 g334 g335
          have h333 := h332 x13_333 g334 g335
          obtain ⟨h336, h337⟩ := h333
          refine ⟨?_, ?_⟩
          · intro g338
            have h339 := h336 g338
            intro x15_340 g341 g342
            have h340 := h339 x15_340 g341 g342
            obtain ⟨v343, h343⟩ := h340
            refine ⟨v343, ?_⟩
            obtain ⟨v344, h344⟩ := h343
            refine ⟨v344, ?_⟩
            intro M18_345 eM18_345
            have h345 := h344 M18_345 eM18_345
            have F345 : Ks (fun k j => (26 ≤ k ∧ k ≤ 27) ∨ (k = 1 ∧ (j = 0 ∨ j = 45))) M M18_345 := by rw [eM18_345]; exact (F321).wr (mw_206 _)
            intro x19_346 g347 g348
            have h346 := h345 x19_346 g347 g348
            obtain ⟨v349, h349⟩ := h346
            refine ⟨v349, ?_⟩
            obtain ⟨v350, h350⟩ := h349
            refine ⟨v350, ?_⟩
            intro M22_351 eM22_351
            have h351 := h350 M22_351 eM22_351
            have F351 : Ks (fun k j => (26 ≤ k ∧ k ≤ 27) ∨ (k = 1 ∧ (j = 0 ∨ j = 45))) M M22_351 := by rw [eM22_351]; exact (F345).wr (mw_207 _)
            intro x23_352 g353 g354
            have h352 := h351 x23_352 g353 g354
            obtain ⟨v355, h355⟩ := h352
            refine ⟨v355, ?_⟩
            intro M25_356 eM25_356
            have h356 := h355 M25_356 eM25_356
            have F356 : Ks (fun k j => (26 ≤ k ∧ k ≤ 27) ∨ (k = 1 ∧ (j = 0 ∨ j = 45))) M M25_356 := by rw [eM25_356]; exact (F351).wr (mw_208)
            intro x26_357 g358 g359
            have h357 := h356 x26_357 g358 g359
            exact hQ _ _ F356 h357
          · intro g360
            have h361 := h337 g360
            exact hQ _ _ F321 h361
theorem fmX12_forget  {M : Mem} {Q Q' : Int → Mem → Prop} (h : qX12_forget M Q) (hQ : ∀ (w0 : Int) (M' : Mem), Ks (fun k j => (k = 1 ∧ (j = 0 ∨ j = 45))) M M' → Q w0 M' → Q' w0 M') : qX12_forget M Q' := by
  unfold qX12_forget at h ⊢
  intro M1_1 eM1_1
  have h1 := h M1_1 eM1_1
  have F1 : Ks (fun k j => (k = 1 ∧ (j = 0 ∨ j = 45))) M M1_1 := by rw [eM1_1]; exact (Ks.rf).wr (mw_209)
  intro x2_2 g3 g4
  have h2 := h1 x2_2 g3 g4
  intro M3_5 eM3_5
  have h5 := h2 M3_5 eM3_5
  have F5 : Ks (fun k j => (k = 1 ∧ (j = 0 ∨ j = 45))) M M3_5 := by rw [eM3_5]; exact (F1).wr (mw_210)
  exact hQ _ _ F5 h5
theorem fmX12_isSo {p1 : Int} {p2 : Int} {p3 : Int} {M : Mem} {Q Q' : Int → Mem → Prop} (h : qX12_isSo p1 p2 p3 M Q) (hQ : ∀ (w0 : Int) (M' : Mem), Ks (fun _ _ => False) M M' → Q w0 M' → Q' w0 M') : qX12_isSo p1 p2 p3 M Q' := by
  unfold qX12_isSo at h ⊢
  obtain ⟨h1, h2, h3, h4⟩ := h
  refine ⟨?_, ?_, ?_, ?_⟩
  · intro g5
    have h6 := h1 g5
    refine fmX12_owners h6 ?_
    intro x2_8 M2_9 f7 h7
    have F7 : Ks (fun _ _ => False) M M2_9 := (Ks.rf).tr (f7.mono (fun _ _ h => False.elim h))
    intro g10
    have h11 := h7 g10
    refine fmJ6_bitCount_0f7a4 h11 ?_
    intro x3_13 M3_14 f12 h12
    have F12 : Ks (fun _ _ => False) M M3_14 := (F7).tr (f12.mono (fun _ _ h => False.elim h))
    intro g15
    have h16 := h12 g15
    obtain ⟨h17, h18⟩ := h16
    refine ⟨?_, ?_⟩
    · intro g19
      have h20 := h17 g19
      exact hQ _ _ F12 h20
    · intro g21
      have h22 := h18 g21
      exact hQ _ _ F12 h22
  · intro g23
    have h24 := h2 g23
    refine fmX12_isOn h24 ?_
    intro x5_26 M5_27 f25 h25
    have F25 : Ks (fun _ _ => False) M M5_27 := (Ks.rf).tr (f25.mono (fun _ _ h => False.elim h))
    intro g28 g29
    have h30 := h25 g28 g29
    obtain ⟨h31, h32⟩ := h30
    refine ⟨?_, ?_⟩
    · intro g33
      have h34 := h31 g33
      exact hQ _ _ F25 h34
    · intro g35
      have h36 := h32 g35
      obtain ⟨v37, h37⟩ := h36
      refine ⟨v37, ?_⟩
      obtain ⟨v38, h38⟩ := h37
      refine ⟨v38, ?_⟩
      intro x9_39 g40 g41
      have h39 := h38 x9_39 g40 g41
      obtain ⟨h42, h43⟩ := h39
      refine ⟨?_, ?_⟩
      · intro g44
        have h45 := h42 g44
        exact hQ _ _ F25 h45
      · intro g46
        have h47 := h43 g46
        exact hQ _ _ F25 h47
  · intro g48
    have h49 := h3 g48
    refine fmX12_bitsBy h49 ?_
    intro x11_51 M11_52 f50 h50
    have F50 : Ks (fun _ _ => False) M M11_52 := (Ks.rf).tr (f50.mono (fun _ _ h => False.elim h))
    intro g53
    have h54 := h50 g53
    refine fmJ6_bitCount_0f7a4 h54 ?_
    intro x12_56 M12_57 f55 h55
    have F55 : Ks (fun _ _ => False) M M12_57 := (F50).tr (f55.mono (fun _ _ h => False.elim h))
    intro g58
    have h59 := h55 g58
    obtain ⟨h60, h61⟩ := h59
    refine ⟨?_, ?_⟩
    · intro g62
      have h63 := h60 g62
      exact hQ _ _ F55 h63
    · intro g64
      have h65 := h61 g64
      exact hQ _ _ F55 h65
  · intro g66
    have h67 := h4 g66
    intro x14_68 g69 g70
    have h68 := h67 x14_68 g69 g70
    obtain ⟨h71, h72⟩ := h68
    refine ⟨?_, ?_⟩
    · intro g73
      have h74 := h71 g73
      exact hQ _ _ Ks.rf h74
    · intro g75
      have h76 := h72 g75
      exact hQ _ _ Ks.rf h76
theorem fmX12_fits_L37  {X84 X84' : Int → Int → Int → Mem → Prop} {Q Q' : Int → Mem → Prop} {M0 : Mem} (hQ : ∀ (w0 : Int) (M' : Mem), Ks (fun k j => k = 0 ∨ k = 6 ∨ (13 ≤ k ∧ k ≤ 14) ∨ (16 ≤ k ∧ k ≤ 18) ∨ (k = 1 ∧ (j = 0 ∨ j = 1 ∨ j = 30 ∨ j = 31 ∨ j = 35))) M0 M' → Q w0 M' → Q' w0 M') (hX84 : ∀ (w0 w1 w2 : Int) (M' : Mem), Ks (fun k j => k = 0 ∨ k = 6 ∨ (13 ≤ k ∧ k ≤ 14) ∨ (16 ≤ k ∧ k ≤ 18) ∨ (k = 1 ∧ (j = 0 ∨ j = 1 ∨ j = 30 ∨ j = 31 ∨ j = 35))) M0 M' → X84 w0 w1 w2 M' → X84' w0 w1 w2 M') : ∀ (n : Nat) (v1 v2 v3 v4 : Int) (M : Mem), Ks (fun k j => k = 0 ∨ k = 6 ∨ (13 ≤ k ∧ k ≤ 14) ∨ (16 ≤ k ∧ k ≤ 18) ∨ (k = 1 ∧ (j = 0 ∨ j = 1 ∨ j = 30 ∨ j = 31 ∨ j = 35))) M0 M → qX12_fits_L37 X84 Q n v1 v2 v3 v4 M → qX12_fits_L37 X84' Q' n v1 v2 v3 v4 M := by
  intro n
  induction n with
  | zero => intro v1 v2 v3 v4 M _ h; exact h.elim
  | succ n ih =>
    intro v1 v2 v3 v4 M hF h
    rw [qX12_fits_L37] at h
    rw [qX12_fits_L37]
    intro x7_1 g2 g3
    have h1 := h x7_1 g2 g3
    obtain ⟨v4, h4⟩ := h1
    refine ⟨v4, ?_⟩
    obtain ⟨h5, h6⟩ := h4
    refine ⟨?_, ?_⟩
    · intro g7
      have h8 := h5 g7
      exact hX84 _ _ _ _ hF h8
    · intro g9
      have h10 := h6 g9
      obtain ⟨v11, h11⟩ := h10
      refine ⟨v11, ?_⟩
      obtain ⟨h12, h13⟩ := h11
      refine ⟨?_, ?_⟩
      · intro g14
        have h15 := h12 g14
        exact ih _ _ _ _ _ hF h15
      · intro g16
        have h17 := h13 g16
        obtain ⟨v18, h18⟩ := h17
        refine ⟨v18, ?_⟩
        obtain ⟨v19, h19⟩ := h18
        refine ⟨v19, ?_⟩
        intro x14_20 g21 g22
        have h20 := h19 x14_20 g21 g22
        intro x15_23 g24 g25
        have h23 := h20 x15_23 g24 g25
        obtain ⟨v26, h26⟩ := h23
        refine ⟨v26, ?_⟩
        refine fmX12_isSo h26 ?_
        intro x17_28 M17_29 f27 h27
        have F27 : Ks (fun k j => k = 0 ∨ k = 6 ∨ (13 ≤ k ∧ k ≤ 14) ∨ (16 ≤ k ∧ k ≤ 18) ∨ (k = 1 ∧ (j = 0 ∨ j = 1 ∨ j = 30 ∨ j = 31 ∨ j = 35))) M0 M17_29 := (hF).tr (f27.mono (fun _ _ h => False.elim h))
        intro g30 g31
        have h32 := h27 g30 g31
        obtain ⟨h33, h34⟩ := h32
        refine ⟨?_, ?_⟩
        · intro g35
          have h36 := h33 g35
          exact ih _ _ _ _ _ F27 h36
        · intro g37
          have h38 := h34 g37
          exact ih _ _ _ _ _ F27 h38
theorem fmX12_fits_L24  {X104 X104' : Int → Mem → Prop} {Q Q' : Int → Mem → Prop} {M0 : Mem} (hQ : ∀ (w0 : Int) (M' : Mem), Ks (fun k j => k = 0 ∨ k = 6 ∨ (13 ≤ k ∧ k ≤ 14) ∨ (16 ≤ k ∧ k ≤ 18) ∨ (k = 1 ∧ (j = 0 ∨ j = 1 ∨ j = 30 ∨ j = 31 ∨ j = 35))) M0 M' → Q w0 M' → Q' w0 M') (hX104 : ∀ (w0 : Int) (M' : Mem), Ks (fun k j => k = 0 ∨ k = 6 ∨ (13 ≤ k ∧ k ≤ 14) ∨ (16 ≤ k ∧ k ≤ 18) ∨ (k = 1 ∧ (j = 0 ∨ j = 1 ∨ j = 30 ∨ j = 31 ∨ j = 35))) M0 M' → X104 w0 M' → X104' w0 M') : ∀ (n : Nat) (v1 v2 : Int) (M : Mem), Ks (fun k j => k = 0 ∨ k = 6 ∨ (13 ≤ k ∧ k ≤ 14) ∨ (16 ≤ k ∧ k ≤ 18) ∨ (k = 1 ∧ (j = 0 ∨ j = 1 ∨ j = 30 ∨ j = 31 ∨ j = 35))) M0 M → qX12_fits_L24 X104 Q n v1 v2 M → qX12_fits_L24 X104' Q' n v1 v2 M := by
  intro n
  induction n with
  | zero => intro v1 v2 M _ h; exact h.elim
  | succ n ih =>
    intro v1 v2 M hF h
    rw [qX12_fits_L24] at h
    rw [qX12_fits_L24]
    intro x4_1 g2 g3
    have h1 := h x4_1 g2 g3
    obtain ⟨v4, h4⟩ := h1
    refine ⟨v4, ?_⟩
    obtain ⟨h5, h6⟩ := h4
    refine ⟨?_, ?_⟩
    · intro g7
      have h8 := h5 g7
      exact hX104 _ _ hF h8
    · intro g9
      have h10 := h6 g9
      obtain ⟨n11, h11⟩ := h10
      refine ⟨n11, ?_⟩
      refine fmX12_fits_L37 hQ ?_ _ _ _ _ _ _ hF h11
      · intro v1_13 v2_14 v3_15 M_16 F12 h12
        obtain ⟨v17, h17⟩ := h12
        refine ⟨v17, ?_⟩
        obtain ⟨h18, h19⟩ := h17
        refine ⟨?_, ?_⟩
        · intro g20
          have h21 := h18 g20
          intro x22_22 g23 g24
          have h22 := h21 x22_22 g23 g24
          exact ih _ _ _ F12 h22
        · intro g25
          have h26 := h19 g25
          intro x23_27 g28 g29
          have h27 := h26 x23_27 g28 g29
          intro x24_30 g31 g32
          have h30 := h27 x24_30 g31 g32
          exact ih _ _ _ F12 h30
theorem fmX12_fits  {M : Mem} {Q Q' : Int → Mem → Prop} (h : qX12_fits M Q) (hQ : ∀ (w0 : Int) (M' : Mem), Ks (fun k j => k = 0 ∨ k = 6 ∨ (13 ≤ k ∧ k ≤ 14) ∨ (16 ≤ k ∧ k ≤ 18) ∨ (k = 1 ∧ (j = 0 ∨ j = 1 ∨ j = 30 ∨ j = 31 ∨ j = 35))) M M' → Q w0 M' → Q' w0 M') : qX12_fits M Q' := by
  unfold qX12_fits at h ⊢
  intro M1_1 eM1_1
  have h1 := h M1_1 eM1_1
  have F1 : Ks (fun k j => k = 0 ∨ k = 6 ∨ (13 ≤ k ∧ k ≤ 14) ∨ (16 ≤ k ∧ k ≤ 18) ∨ (k = 1 ∧ (j = 0 ∨ j = 1 ∨ j = 30 ∨ j = 31 ∨ j = 35))) M M1_1 := by rw [eM1_1]; exact (Ks.rf).wr (mw_187)
  refine fmX12_copies h1 ?_
  intro M2_3 f2 h2
  have F2 : Ks (fun k j => k = 0 ∨ k = 6 ∨ (13 ≤ k ∧ k ≤ 14) ∨ (16 ≤ k ∧ k ≤ 18) ∨ (k = 1 ∧ (j = 0 ∨ j = 1 ∨ j = 30 ∨ j = 31 ∨ j = 35))) M M2_3 := (F1).tr (f2.mono (mo_176))
  refine fmX12_goesOn h2 ?_
  intro M3_5 f4 h4
  have F4 : Ks (fun k j => k = 0 ∨ k = 6 ∨ (13 ≤ k ∧ k ≤ 14) ∨ (16 ≤ k ∧ k ≤ 18) ∨ (k = 1 ∧ (j = 0 ∨ j = 1 ∨ j = 30 ∨ j = 31 ∨ j = 35))) M M3_5 := (F2).tr (f4.mono (mo_177))
  obtain ⟨n6, h6⟩ := h4
  refine ⟨n6, ?_⟩
  refine fmX12_fits_L24 hQ ?_ _ _ _ _ F4 h6
  · intro v1_8 M_9 F7 h7
    intro M26_10 eM26_10
    have h10 := h7 M26_10 eM26_10
    have F10 : Ks (fun k j => k = 0 ∨ k = 6 ∨ (13 ≤ k ∧ k ≤ 14) ∨ (16 ≤ k ∧ k ≤ 18) ∨ (k = 1 ∧ (j = 0 ∨ j = 1 ∨ j = 30 ∨ j = 31 ∨ j = 35))) M M26_10 := by rw [eM26_10]; exact (F7).wr (mw_188)
    obtain ⟨v11, h11⟩ := h10
    refine ⟨v11, ?_⟩
    refine fmJ6_bitCount_0f7a4 h11 ?_
    intro x28_13 M28_14 f12 h12
    have F12 : Ks (fun k j => k = 0 ∨ k = 6 ∨ (13 ≤ k ∧ k ≤ 14) ∨ (16 ≤ k ∧ k ≤ 18) ∨ (k = 1 ∧ (j = 0 ∨ j = 1 ∨ j = 30 ∨ j = 31 ∨ j = 35))) M M28_14 := (F10).tr (f12.mono (fun _ _ h => False.elim h))
    intro g15
    have h16 := h12 g15
    refine fmX12_enters h16 ?_
    intro M29_18 f17 h17
    have F17 : Ks (fun k j => k = 0 ∨ k = 6 ∨ (13 ≤ k ∧ k ≤ 14) ∨ (16 ≤ k ∧ k ≤ 18) ∨ (k = 1 ∧ (j = 0 ∨ j = 1 ∨ j = 30 ∨ j = 31 ∨ j = 35))) M M29_18 := (F12).tr (f17.mono (mo_175))
    exact hQ _ _ F17 h17
theorem fmbX12_common {p0 : Int} {p2 : Int} {M : Mem} {Q Q' : Int → Mem → Prop} {rc : Int → Int → Mem → (Int → Mem → Prop) → Prop} (hrc : ∀ (a0 : Int) (a1 : Int) (M : Mem) (Q Q' : Int → Mem → Prop), (∀ z M', Ks (fun _ _ => False) M M' → Q z M' → Q' z M') → rc a0 a1 M Q → rc a0 a1 M Q') (h : bX12_common rc p0 p2 M Q) (hQ : ∀ (w0 : Int) (M' : Mem), Ks (fun _ _ => False) M M' → Q w0 M' → Q' w0 M') : bX12_common rc p0 p2 M Q' := by
  unfold bX12_common at h ⊢
  intro x1_1 g2 g3
  have h1 := h x1_1 g2 g3
  obtain ⟨h4, h5⟩ := h1
  refine ⟨?_, ?_⟩
  · intro g6
    have h7 := h4 g6
    obtain ⟨v8, h8⟩ := h7
    refine ⟨v8, ?_⟩
    intro x4_9 g10 g11
    have h9 := h8 x4_9 g10 g11
    refine hrc _ _ _ _ _ ?_ h9
    intro x5_13 M5_14 f12 h12
    have F12 : Ks (fun _ _ => False) M M5_14 := (Ks.rf).tr (f12.mono (by intro k j h; first | exact False.elim h | omega))
    intro g15
    have h16 := h12 g15
    exact hQ _ _ F12 h16
  · intro g17
    have h18 := h5 g17
    exact hQ _ _ Ks.rf h18
theorem fmX12_commonA : ∀ (d : Nat) (p0 p2 : Int) (M : Mem) (Q Q' : Int → Mem → Prop), (∀ z M', Ks (fun _ _ => False) M M' → Q z M' → Q' z M') → qX12_common d p0 p2 M Q → qX12_common d p0 p2 M Q' := by
  intro d
  induction d with
  | zero => intro p0 p2 M Q Q' _ h; exact h.elim
  | succ d ih =>
    intro p0 p2 M Q Q' hQ h
    exact fmbX12_common ih h hQ
theorem fmX12_common {d : Nat} {p0 p2 : Int} {M : Mem} {Q Q' : Int → Mem → Prop} (h : qX12_common d p0 p2 M Q) (hQ : ∀ z M', Ks (fun _ _ => False) M M' → Q z M' → Q' z M') : qX12_common d p0 p2 M Q' := fmX12_commonA d p0 p2 M Q Q' hQ h
theorem fmX12_rains_L52 {p1 : Int} {p2 : Int} {p3 : Int} {X72 X72' : Int → Int → Mem → Prop} {Q Q' : Int → Mem → Prop} {M0 : Mem} (hQ : ∀ (w0 : Int) (M' : Mem), Ks (fun k j => k = 0 ∨ (k = 1 ∧ (j = 0 ∨ j = 1))) M0 M' → Q w0 M' → Q' w0 M') (hX72 : ∀ (w0 w1 : Int) (M' : Mem), Ks (fun k j => k = 0 ∨ (k = 1 ∧ (j = 0 ∨ j = 1))) M0 M' → X72 w0 w1 M' → X72' w0 w1 M') : ∀ (n : Nat) (v4 v6 v8 : Int) (M : Mem), Ks (fun k j => k = 0 ∨ (k = 1 ∧ (j = 0 ∨ j = 1))) M0 M → qX12_rains_L52 p1 p2 p3 X72 Q n v4 v6 v8 M → qX12_rains_L52 p1 p2 p3 X72' Q' n v4 v6 v8 M := by
  intro n
  induction n with
  | zero => intro v4 v6 v8 M _ h; exact h.elim
  | succ n ih =>
    intro v4 v6 v8 M hF h
    rw [qX12_rains_L52] at h
    rw [qX12_rains_L52]
    obtain ⟨v1, h1⟩ := h
    refine ⟨v1, ?_⟩
    obtain ⟨h2, h3⟩ := h1
    refine ⟨?_, ?_⟩
    · intro g4
      have h5 := h2 g4
      exact hX72 _ _ _ hF h5
    · intro g6
      have h7 := h3 g6
      intro x10_8 g9 g10
      have h8 := h7 x10_8 g9 g10
      exact ih _ _ _ _ hF h8
theorem fmX12_rains_L89 {p1 : Int} {p2 : Int} {p3 : Int} {X126 X126' : Int → Int → Int → Int → Mem → Prop} {Q Q' : Int → Mem → Prop} {M0 : Mem} (hQ : ∀ (w0 : Int) (M' : Mem), Ks (fun k j => k = 0 ∨ (k = 1 ∧ (j = 0 ∨ j = 1))) M0 M' → Q w0 M' → Q' w0 M') (hX126 : ∀ (w0 w1 w2 w3 : Int) (M' : Mem), Ks (fun k j => k = 0 ∨ (k = 1 ∧ (j = 0 ∨ j = 1))) M0 M' → X126 w0 w1 w2 w3 M' → X126' w0 w1 w2 w3 M') : ∀ (n : Nat) (v4 v6 v8 v9 v11 : Int) (M : Mem), Ks (fun k j => k = 0 ∨ (k = 1 ∧ (j = 0 ∨ j = 1))) M0 M → qX12_rains_L89 p1 p2 p3 X126 Q n v4 v6 v8 v9 v11 M → qX12_rains_L89 p1 p2 p3 X126' Q' n v4 v6 v8 v9 v11 M := by
  intro n
  induction n with
  | zero => intro v4 v6 v8 v9 v11 M _ h; exact h.elim
  | succ n ih =>
    intro v4 v6 v8 v9 v11 M hF h
    rw [qX12_rains_L89] at h
    rw [qX12_rains_L89]
    obtain ⟨v1, h1⟩ := h
    refine ⟨v1, ?_⟩
    obtain ⟨h2, h3⟩ := h1
    refine ⟨?_, ?_⟩
    · intro g4
      have h5 := h2 g4
      exact hX126 _ _ _ _ _ hF h5
    · intro g6
      have h7 := h3 g6
      obtain ⟨v8, h8⟩ := h7
      refine ⟨v8, ?_⟩
      refine fmX12_has h8 ?_
      intro x18_10 M18_11 f9 h9
      have F9 : Ks (fun k j => k = 0 ∨ (k = 1 ∧ (j = 0 ∨ j = 1))) M0 M18_11 := (hF).tr (f9.mono (fun _ _ h => False.elim h))
      intro g12 g13
      have h14 := h9 g12 g13
      obtain ⟨h15, h16⟩ := h14
      refine ⟨?_, ?_⟩
      · intro g17
        have h18 := h15 g17
        intro x20_19 g20 g21
        have h19 := h18 x20_19 g20 g21
        intro x21_22 g23 g24
        have h22 := h19 x21_22 g23 g24
        exact ih _ _ _ _ _ _ F9 h22
      · intro g25
        have h26 := h16 g25
        intro x22_27 g28 g29
        have h27 := h26 x22_27 g28 g29
        exact ih _ _ _ _ _ _ F9 h27
theorem fmX12_rains_L75 {p1 : Int} {p2 : Int} {p3 : Int} {X161 X161' : Int → Int → Mem → Prop} {Q Q' : Int → Mem → Prop} {M0 : Mem} (hQ : ∀ (w0 : Int) (M' : Mem), Ks (fun k j => k = 0 ∨ (k = 1 ∧ (j = 0 ∨ j = 1))) M0 M' → Q w0 M' → Q' w0 M') (hX161 : ∀ (w0 w1 : Int) (M' : Mem), Ks (fun k j => k = 0 ∨ (k = 1 ∧ (j = 0 ∨ j = 1))) M0 M' → X161 w0 w1 M' → X161' w0 w1 M') : ∀ (n : Nat) (v4 v6 v8 : Int) (M : Mem), Ks (fun k j => k = 0 ∨ (k = 1 ∧ (j = 0 ∨ j = 1))) M0 M → qX12_rains_L75 p1 p2 p3 X161 Q n v4 v6 v8 M → qX12_rains_L75 p1 p2 p3 X161' Q' n v4 v6 v8 M := by
  intro n
  induction n with
  | zero => intro v4 v6 v8 M _ h; exact h.elim
  | succ n ih =>
    intro v4 v6 v8 M hF h
    rw [qX12_rains_L75] at h
    rw [qX12_rains_L75]
    intro x12_1 g2 g3
    have h1 := h x12_1 g2 g3
    obtain ⟨v4, h4⟩ := h1
    refine ⟨v4, ?_⟩
    obtain ⟨h5, h6⟩ := h4
    refine ⟨?_, ?_⟩
    · intro g7
      have h8 := h5 g7
      exact hX161 _ _ _ hF h8
    · intro g9
      have h10 := h6 g9
      obtain ⟨n11, h11⟩ := h10
      refine ⟨n11, ?_⟩
      refine fmX12_rains_L89 hQ ?_ _ _ _ _ _ _ _ hF h11
      · intro v4_13 v6_14 v8_15 v9_16 M_17 F12 h12
        obtain ⟨v18, h18⟩ := h12
        refine ⟨v18, ?_⟩
        refine fmX12_has h18 ?_
        intro x25_20 M25_21 f19 h19
        have F19 : Ks (fun k j => k = 0 ∨ (k = 1 ∧ (j = 0 ∨ j = 1))) M0 M25_21 := (F12).tr (f19.mono (fun _ _ h => False.elim h))
        intro g22 g23
        have h24 := h19 g22 g23
        obtain ⟨h25, h26⟩ := h24
        refine ⟨?_, ?_⟩
        · intro g27
          have h28 := h25 g27
          intro x27_29 g30 g31
          have h29 := h28 x27_29 g30 g31
          exact ih _ _ _ _ F19 h29
        · intro g32
          have h33 := h26 g32
          refine fmJ6_bitCount_0f7a4 h33 ?_
          intro x28_35 M28_36 f34 h34
          have F34 : Ks (fun k j => k = 0 ∨ (k = 1 ∧ (j = 0 ∨ j = 1))) M0 M28_36 := (F19).tr (f34.mono (fun _ _ h => False.elim h))
          intro g37
          have h38 := h34 g37
          obtain ⟨h39, h40⟩ := h38
          refine ⟨?_, ?_⟩
          · intro g41
            have h42 := h39 g41
            intro x30_43 g44 g45
            have h43 := h42 x30_43 g44 g45
            exact ih _ _ _ _ F34 h43
          · intro g46
            have h47 := h40 g46
            intro x31_48 g49 g50
            have h48 := h47 x31_48 g49 g50
            exact ih _ _ _ _ F34 h48
theorem fmX12_rains {p1 : Int} {p2 : Int} {p3 : Int} {M : Mem} {Q Q' : Int → Mem → Prop} (h : qX12_rains p1 p2 p3 M Q) (hQ : ∀ (w0 : Int) (M' : Mem), Ks (fun k j => k = 0 ∨ (k = 1 ∧ (j = 0 ∨ j = 1))) M M' → Q w0 M' → Q' w0 M') : qX12_rains p1 p2 p3 M Q' := by
  unfold qX12_rains at h ⊢
  intro M1_1 eM1_1
  have h1 := h M1_1 eM1_1
  have F1 : Ks (fun k j => k = 0 ∨ (k = 1 ∧ (j = 0 ∨ j = 1))) M M1_1 := by rw [eM1_1]; exact (Ks.rf).wr (mw_203)
  refine fmX12_in h1 ?_
  intro x2_3 M2_4 f2 h2
  have F2 : Ks (fun k j => k = 0 ∨ (k = 1 ∧ (j = 0 ∨ j = 1))) M M2_4 := (F1).tr (f2.mono (fun _ _ h => False.elim h))
  intro g5 g6
  have h7 := h2 g5 g6
  obtain ⟨h8, h9⟩ := h7
  refine ⟨?_, ?_⟩
  · intro g10
    have h11 := h8 g10
    exact hQ _ _ F2 h11
  · intro g12
    have h13 := h9 g12
    refine fmX12_in h13 ?_
    intro x4_15 M4_16 f14 h14
    have F14 : Ks (fun k j => k = 0 ∨ (k = 1 ∧ (j = 0 ∨ j = 1))) M M4_16 := (F2).tr (f14.mono (fun _ _ h => False.elim h))
    intro g17 g18
    have h19 := h14 g17 g18
    obtain ⟨h20, h21⟩ := h19
    refine ⟨?_, ?_⟩
    · intro g22
      have h23 := h20 g22
      exact hQ _ _ F14 h23
    · intro g24
      have h25 := h21 g24
      refine fmX12_in h25 ?_
      intro x6_27 M6_28 f26 h26
      have F26 : Ks (fun k j => k = 0 ∨ (k = 1 ∧ (j = 0 ∨ j = 1))) M M6_28 := (F14).tr (f26.mono (fun _ _ h => False.elim h))
      intro g29 g30
      have h31 := h26 g29 g30
      obtain ⟨h32, h33⟩ := h31
      refine ⟨?_, ?_⟩
      · intro g34
        have h35 := h32 g34
        obtain ⟨n36, h36⟩ := h35
        refine ⟨n36, ?_⟩
        refine fmX12_rains_L52 hQ ?_ _ _ _ _ _ F26 h36
        · intro v4_38 v6_39 M_40 F37 h37
          obtain ⟨n41, h41⟩ := h37
          refine ⟨n41, ?_⟩
          refine fmX12_rains_L75 hQ ?_ _ _ _ _ _ F37 h41
          · intro v4_43 v6_44 M_45 F42 h42
            obtain ⟨v46, h46⟩ := h42
            refine ⟨v46, ?_⟩
            obtain ⟨v47, h47⟩ := h46
            refine ⟨v47, ?_⟩
            obtain ⟨n48, h48⟩ := h47
            refine ⟨n48, ?_⟩
            obtain ⟨v49, h49⟩ := h48
            refine ⟨v49, ?_⟩
            refine fmX12_common h49 ?_
            intro x35_51 M35_52 f50 h50
            have F50 : Ks (fun k j => k = 0 ∨ (k = 1 ∧ (j = 0 ∨ j = 1))) M M35_52 := (F42).tr (f50.mono (fun _ _ h => False.elim h))
            intro g53
            have h54 := h50 g53
            intro M37_55 eM37_55
            have h55 := h54 M37_55 eM37_55
            have F55 : Ks (fun k j => k = 0 ∨ (k = 1 ∧ (j = 0 ∨ j = 1))) M M37_55 := by rw [eM37_55]; exact (F50).wr (mw_204)
            obtain ⟨v56, h56⟩ := h55
            refine ⟨v56, ?_⟩
            intro x39_57 g58 g59
            have h57 := h56 x39_57 g58 g59
            refine fmX12_enters h57 ?_
            intro M40_61 f60 h60
            have F60 : Ks (fun k j => k = 0 ∨ (k = 1 ∧ (j = 0 ∨ j = 1))) M M40_61 := (F55).tr (f60.mono (mo_187))
            obtain ⟨v62, h62⟩ := h60
            refine ⟨v62, ?_⟩
            intro x42_63 g64 g65
            have h63 := h62 x42_63 g64 g65
            refine fmX12_enters h63 ?_
            intro M43_67 f66 h66
            have F66 : Ks (fun k j => k = 0 ∨ (k = 1 ∧ (j = 0 ∨ j = 1))) M M43_67 := (F60).tr (f66.mono (mo_187))
            exact hQ _ _ F66 h66
      · intro g68
        have h69 := h33 g68
        exact hQ _ _ F26 h69
theorem fmX12_law_L42  {X71 X71' : Int → Int → Mem → Prop} {Q Q' : Int → Mem → Prop} {M0 : Mem} (hQ : ∀ (w0 : Int) (M' : Mem), Ks (fun k j => k = 0 ∨ k = 6 ∨ (11 ≤ k ∧ k ≤ 14) ∨ (16 ≤ k ∧ k ≤ 18) ∨ k = 28 ∨ (k = 1 ∧ (j = 0 ∨ j = 1 ∨ j = 14 ∨ j = 15 ∨ j = 16 ∨ j = 17 ∨ j = 24 ∨ j = 25 ∨ j = 30 ∨ j = 31 ∨ j = 35))) M0 M' → Q w0 M' → Q' w0 M') (hX71 : ∀ (w0 w1 : Int) (M' : Mem), Ks (fun k j => k = 0 ∨ k = 6 ∨ (11 ≤ k ∧ k ≤ 14) ∨ (16 ≤ k ∧ k ≤ 18) ∨ k = 28 ∨ (k = 1 ∧ (j = 0 ∨ j = 1 ∨ j = 14 ∨ j = 15 ∨ j = 16 ∨ j = 17 ∨ j = 24 ∨ j = 25 ∨ j = 30 ∨ j = 31 ∨ j = 35))) M0 M' → X71 w0 w1 M' → X71' w0 w1 M') : ∀ (n : Nat) (v2 v3 v4 : Int) (M : Mem), Ks (fun k j => k = 0 ∨ k = 6 ∨ (11 ≤ k ∧ k ≤ 14) ∨ (16 ≤ k ∧ k ≤ 18) ∨ k = 28 ∨ (k = 1 ∧ (j = 0 ∨ j = 1 ∨ j = 14 ∨ j = 15 ∨ j = 16 ∨ j = 17 ∨ j = 24 ∨ j = 25 ∨ j = 30 ∨ j = 31 ∨ j = 35))) M0 M → qX12_law_L42 X71 Q n v2 v3 v4 M → qX12_law_L42 X71' Q' n v2 v3 v4 M := by
  intro n
  induction n with
  | zero => intro v2 v3 v4 M _ h; exact h.elim
  | succ n ih =>
    intro v2 v3 v4 M hF h
    rw [qX12_law_L42] at h
    rw [qX12_law_L42]
    intro x8_1 g2 g3
    have h1 := h x8_1 g2 g3
    obtain ⟨v4, h4⟩ := h1
    refine ⟨v4, ?_⟩
    obtain ⟨h5, h6⟩ := h4
    refine ⟨?_, ?_⟩
    · intro g7
      have h8 := h5 g7
      exact hX71 _ _ _ hF h8
    · intro g9
      have h10 := h6 g9
      obtain ⟨v11, h11⟩ := h10
      refine ⟨v11, ?_⟩
      obtain ⟨v12, h12⟩ := h11
      refine ⟨v12, ?_⟩
      intro x13_13 g14 g15
      have h13 := h12 x13_13 g14 g15
      intro M14_16 eM14_16
      have h16 := h13 M14_16 eM14_16
      have F16 : Ks (fun k j => k = 0 ∨ k = 6 ∨ (11 ≤ k ∧ k ≤ 14) ∨ (16 ≤ k ∧ k ≤ 18) ∨ k = 28 ∨ (k = 1 ∧ (j = 0 ∨ j = 1 ∨ j = 14 ∨ j = 15 ∨ j = 16 ∨ j = 17 ∨ j = 24 ∨ j = 25 ∨ j = 30 ∨ j = 31 ∨ j = 35))) M0 M14_16 := by rw [eM14_16]; exact (hF).wr (mw_211 _)
      exact ih _ _ _ _ F16 h16
theorem fmX12_law  {M : Mem} {Q Q' : Int → Mem → Prop} (h : qX12_law M Q) (hQ : ∀ (w0 : Int) (M' : Mem), Ks (fun k j => k = 0 ∨ k = 6 ∨ (11 ≤ k ∧ k ≤ 14) ∨ (16 ≤ k ∧ k ≤ 18) ∨ k = 28 ∨ (k = 1 ∧ (j = 0 ∨ j = 1 ∨ j = 14 ∨ j = 15 ∨ j = 16 ∨ j = 17 ∨ j = 24 ∨ j = 25 ∨ j = 30 ∨ j = 31 ∨ j = 35))) M M' → Q w0 M' → Q' w0 M') : qX12_law M Q' := by
  unfold qX12_law at h ⊢
  intro M1_1 eM1_1
  have h1 := h M1_1 eM1_1
  have F1 : Ks (fun k j => k = 0 ∨ k = 6 ∨ (11 ≤ k ∧ k ≤ 14) ∨ (16 ≤ k ∧ k ≤ 18) ∨ k = 28 ∨ (k = 1 ∧ (j = 0 ∨ j = 1 ∨ j = 14 ∨ j = 15 ∨ j = 16 ∨ j = 17 ∨ j = 24 ∨ j = 25 ∨ j = 30 ∨ j = 31 ∨ j = 35))) M M1_1 := by rw [eM1_1]; exact (Ks.rf).wr (mw_212)
  refine fmX12_readsRule h1 ?_
  intro x2_3 M2_4 f2 h2
  have F2 : Ks (fun k j => k = 0 ∨ k = 6 ∨ (11 ≤ k ∧ k ≤ 14) ∨ (16 ≤ k ∧ k ≤ 18) ∨ k = 28 ∨ (k = 1 ∧ (j = 0 ∨ j = 1 ∨ j = 14 ∨ j = 15 ∨ j = 16 ∨ j = 17 ∨ j = 24 ∨ j = 25 ∨ j = 30 ∨ j = 31 ∨ j = 35))) M M2_4 := (F1).tr (f2.mono (mo_188))
  intro g5
  have h6 := h2 g5
  obtain ⟨h7, h8⟩ := h6
  refine ⟨?_, ?_⟩
  · intro g9
    have h10 := h7 g9
    refine fmX12_copies h10 ?_
    intro M4_12 f11 h11
    have F11 : Ks (fun k j => k = 0 ∨ k = 6 ∨ (11 ≤ k ∧ k ≤ 14) ∨ (16 ≤ k ∧ k ≤ 18) ∨ k = 28 ∨ (k = 1 ∧ (j = 0 ∨ j = 1 ∨ j = 14 ∨ j = 15 ∨ j = 16 ∨ j = 17 ∨ j = 24 ∨ j = 25 ∨ j = 30 ∨ j = 31 ∨ j = 35))) M M4_12 := (F2).tr (f11.mono (mo_189))
    refine fmX12_rightThen h11 ?_
    intro x5_14 M5_15 f13 h13
    have F13 : Ks (fun k j => k = 0 ∨ k = 6 ∨ (11 ≤ k ∧ k ≤ 14) ∨ (16 ≤ k ∧ k ≤ 18) ∨ k = 28 ∨ (k = 1 ∧ (j = 0 ∨ j = 1 ∨ j = 14 ∨ j = 15 ∨ j = 16 ∨ j = 17 ∨ j = 24 ∨ j = 25 ∨ j = 30 ∨ j = 31 ∨ j = 35))) M M5_15 := (F11).tr (f13.mono (mo_190))
    intro g16
    have h17 := h13 g16
    refine fmJ6_bitCount_0f7a4 h17 ?_
    intro x6_19 M6_20 f18 h18
    have F18 : Ks (fun k j => k = 0 ∨ k = 6 ∨ (11 ≤ k ∧ k ≤ 14) ∨ (16 ≤ k ∧ k ≤ 18) ∨ k = 28 ∨ (k = 1 ∧ (j = 0 ∨ j = 1 ∨ j = 14 ∨ j = 15 ∨ j = 16 ∨ j = 17 ∨ j = 24 ∨ j = 25 ∨ j = 30 ∨ j = 31 ∨ j = 35))) M M6_20 := (F13).tr (f18.mono (fun _ _ h => False.elim h))
    intro g21
    have h22 := h18 g21
    intro x7_23 g24 g25
    have h23 := h22 x7_23 g24 g25
    obtain ⟨n26, h26⟩ := h23
    refine ⟨n26, ?_⟩
    refine fmX12_law_L42 hQ ?_ _ _ _ _ _ F18 h26
    · intro v2_28 v3_29 M_30 F27 h27
      intro x16_31 g32 g33
      have h31 := h27 x16_31 g32 g33
      refine fmX12_laysCode h31 ?_
      intro M17_35 f34 h34
      have F34 : Ks (fun k j => k = 0 ∨ k = 6 ∨ (11 ≤ k ∧ k ≤ 14) ∨ (16 ≤ k ∧ k ≤ 18) ∨ k = 28 ∨ (k = 1 ∧ (j = 0 ∨ j = 1 ∨ j = 14 ∨ j = 15 ∨ j = 16 ∨ j = 17 ∨ j = 24 ∨ j = 25 ∨ j = 30 ∨ j = 31 ∨ j = 35))) M M17_35 := (F27).tr (f34.mono (mo_191))
      refine fmX12_copies h34 ?_
      intro M18_37 f36 h36
      have F36 : Ks (fun k j => k = 0 ∨ k = 6 ∨ (11 ≤ k ∧ k ≤ 14) ∨ (16 ≤ k ∧ k ≤ 18) ∨ k = 28 ∨ (k = 1 ∧ (j = 0 ∨ j = 1 ∨ j = 14 ∨ j = 15 ∨ j = 16 ∨ j = 17 ∨ j = 24 ∨ j = 25 ∨ j = 30 ∨ j = 31 ∨ j = 35))) M M18_37 := (F34).tr (f36.mono (mo_189))
      refine fmX12_rightThen h36 ?_
      intro x19_39 M19_40 f38 h38
      have F38 : Ks (fun k j => k = 0 ∨ k = 6 ∨ (11 ≤ k ∧ k ≤ 14) ∨ (16 ≤ k ∧ k ≤ 18) ∨ k = 28 ∨ (k = 1 ∧ (j = 0 ∨ j = 1 ∨ j = 14 ∨ j = 15 ∨ j = 16 ∨ j = 17 ∨ j = 24 ∨ j = 25 ∨ j = 30 ∨ j = 31 ∨ j = 35))) M M19_40 := (F36).tr (f38.mono (mo_190))
      intro g41
      have h42 := h38 g41
      refine fmJ6_bitCount_0f7a4 h42 ?_
      intro x20_44 M20_45 f43 h43
      have F43 : Ks (fun k j => k = 0 ∨ k = 6 ∨ (11 ≤ k ∧ k ≤ 14) ∨ (16 ≤ k ∧ k ≤ 18) ∨ k = 28 ∨ (k = 1 ∧ (j = 0 ∨ j = 1 ∨ j = 14 ∨ j = 15 ∨ j = 16 ∨ j = 17 ∨ j = 24 ∨ j = 25 ∨ j = 30 ∨ j = 31 ∨ j = 35))) M M20_45 := (F38).tr (f43.mono (fun _ _ h => False.elim h))
      intro g46
      have h47 := h43 g46
      obtain ⟨v48, h48⟩ := h47
      refine ⟨v48, ?_⟩
      refine fmX12_laysCode h48 ?_
      intro M22_50 f49 h49
      have F49 : Ks (fun k j => k = 0 ∨ k = 6 ∨ (11 ≤ k ∧ k ≤ 14) ∨ (16 ≤ k ∧ k ≤ 18) ∨ k = 28 ∨ (k = 1 ∧ (j = 0 ∨ j = 1 ∨ j = 14 ∨ j = 15 ∨ j = 16 ∨ j = 17 ∨ j = 24 ∨ j = 25 ∨ j = 30 ∨ j = 31 ∨ j = 35))) M M22_50 := (F43).tr (f49.mono (mo_191))
      intro M23_51 eM23_51
      have h51 := h49 M23_51 eM23_51
      have F51 : Ks (fun k j => k = 0 ∨ k = 6 ∨ (11 ≤ k ∧ k ≤ 14) ∨ (16 ≤ k ∧ k ≤ 18) ∨ k = 28 ∨ (k = 1 ∧ (j = 0 ∨ j = 1 ∨ j = 14 ∨ j = 15 ∨ j = 16 ∨ j = 17 ∨ j = 24 ∨ j = 25 ∨ j = 30 ∨ j = 31 ∨ j = 35))) M M23_51 := by rw [eM23_51]; exact (F49).wr (mw_213)
      refine fmX12_enters h51 ?_
      intro M24_53 f52 h52
      have F52 : Ks (fun k j => k = 0 ∨ k = 6 ∨ (11 ≤ k ∧ k ≤ 14) ∨ (16 ≤ k ∧ k ≤ 18) ∨ k = 28 ∨ (k = 1 ∧ (j = 0 ∨ j = 1 ∨ j = 14 ∨ j = 15 ∨ j = 16 ∨ j = 17 ∨ j = 24 ∨ j = 25 ∨ j = 30 ∨ j = 31 ∨ j = 35))) M M24_53 := (F51).tr (f52.mono (mo_192))
      obtain ⟨v54, h54⟩ := h52
      refine ⟨v54, ?_⟩
      refine fmX12_enters h54 ?_
      intro M26_56 f55 h55
      have F55 : Ks (fun k j => k = 0 ∨ k = 6 ∨ (11 ≤ k ∧ k ≤ 14) ∨ (16 ≤ k ∧ k ≤ 18) ∨ k = 28 ∨ (k = 1 ∧ (j = 0 ∨ j = 1 ∨ j = 14 ∨ j = 15 ∨ j = 16 ∨ j = 17 ∨ j = 24 ∨ j = 25 ∨ j = 30 ∨ j = 31 ∨ j = 35))) M M26_56 := (F52).tr (f55.mono (mo_192))
      obtain ⟨v57, h57⟩ := h55
      refine ⟨v57, ?_⟩
      exact hQ _ _ F55 h57
  · intro g58
    have h59 := h8 g58
    obtain ⟨v60, h60⟩ := h59
    refine ⟨v60, ?_⟩
    exact hQ _ _ F2 h60
theorem fmX12_gets {p0 : Int} {p1 : Int} {p2 : Int} {M : Mem} {Q Q' : Int → Mem → Prop} (h : qX12_gets p0 p1 p2 M Q) (hQ : ∀ (w0 : Int) (M' : Mem), Ks (fun _ _ => False) M M' → Q w0 M' → Q' w0 M') : qX12_gets p0 p1 p2 M Q' := by
  unfold qX12_gets at h ⊢
  obtain ⟨h1, h2⟩ := h
  refine ⟨?_, ?_⟩
  · intro g3
    have h4 := h1 g3
    obtain ⟨h5, h6⟩ := h4
    refine ⟨?_, ?_⟩
    · intro g7
      have h8 := h5 g7
      unfold qX12_gets_J21 at h8 ⊢
      obtain ⟨v9, h9⟩ := h8
      refine ⟨v9, ?_⟩
      obtain ⟨h10, h11⟩ := h9
      refine ⟨?_, ?_⟩
      · intro g12
        have h13 := h10 g12
        unfold qX12_gets_J36 at h13 ⊢
        obtain ⟨v14, h14⟩ := h13
        refine ⟨v14, ?_⟩
        refine fmX12_flag h14 ?_
        intro x6_16 M6_17 f15 h15
        have F15 : Ks (fun _ _ => False) M M6_17 := (Ks.rf).tr (f15.mono (fun _ _ h => False.elim h))
        intro g18
        have h19 := h15 g18
        obtain ⟨v20, h20⟩ := h19
        refine ⟨v20, ?_⟩
        exact hQ _ _ F15 h20
      · intro g21
        have h22 := h11 g21
        unfold qX12_gets_J36 at h22 ⊢
        obtain ⟨v23, h23⟩ := h22
        refine ⟨v23, ?_⟩
        refine fmX12_flag h23 ?_
        intro x6_25 M6_26 f24 h24
        have F24 : Ks (fun _ _ => False) M M6_26 := (Ks.rf).tr (f24.mono (fun _ _ h => False.elim h))
        intro g27
        have h28 := h24 g27
        obtain ⟨v29, h29⟩ := h28
        refine ⟨v29, ?_⟩
        exact hQ _ _ F24 h29
    · intro g30
      have h31 := h6 g30
      intro x8_32 g33 g34
      have h32 := h31 x8_32 g33 g34
      unfold qX12_gets_J21 at h32 ⊢
      obtain ⟨v35, h35⟩ := h32
      refine ⟨v35, ?_⟩
      obtain ⟨h36, h37⟩ := h35
      refine ⟨?_, ?_⟩
      · intro g38
        have h39 := h36 g38
        unfold qX12_gets_J36 at h39 ⊢
        obtain ⟨v40, h40⟩ := h39
        refine ⟨v40, ?_⟩
        refine fmX12_flag h40 ?_
        intro x6_42 M6_43 f41 h41
        have F41 : Ks (fun _ _ => False) M M6_43 := (Ks.rf).tr (f41.mono (fun _ _ h => False.elim h))
        intro g44
        have h45 := h41 g44
        obtain ⟨v46, h46⟩ := h45
        refine ⟨v46, ?_⟩
        exact hQ _ _ F41 h46
      · intro g47
        have h48 := h37 g47
        unfold qX12_gets_J36 at h48 ⊢
        obtain ⟨v49, h49⟩ := h48
        refine ⟨v49, ?_⟩
        refine fmX12_flag h49 ?_
        intro x6_51 M6_52 f50 h50
        have F50 : Ks (fun _ _ => False) M M6_52 := (Ks.rf).tr (f50.mono (fun _ _ h => False.elim h))
        intro g53
        have h54 := h50 g53
        obtain ⟨v55, h55⟩ := h54
        refine ⟨v55, ?_⟩
        exact hQ _ _ F50 h55
  · intro g56
    have h57 := h2 g56
    unfold qX12_gets_J21 at h57 ⊢
    obtain ⟨v58, h58⟩ := h57
    refine ⟨v58, ?_⟩
    obtain ⟨h59, h60⟩ := h58
    refine ⟨?_, ?_⟩
    · intro g61
      have h62 := h59 g61
      unfold qX12_gets_J36 at h62 ⊢
      obtain ⟨v63, h63⟩ := h62
      refine ⟨v63, ?_⟩
      refine fmX12_flag h63 ?_
      intro x6_65 M6_66 f64 h64
      have F64 : Ks (fun _ _ => False) M M6_66 := (Ks.rf).tr (f64.mono (fun _ _ h => False.elim h))
      intro g67
      have h68 := h64 g67
      obtain ⟨v69, h69⟩ := h68
      refine ⟨v69, ?_⟩
      exact hQ _ _ F64 h69
    · intro g70
      have h71 := h60 g70
      unfold qX12_gets_J36 at h71 ⊢
      obtain ⟨v72, h72⟩ := h71
      refine ⟨v72, ?_⟩
      refine fmX12_flag h72 ?_
      intro x6_74 M6_75 f73 h73
      have F73 : Ks (fun _ _ => False) M M6_75 := (Ks.rf).tr (f73.mono (fun _ _ h => False.elim h))
      intro g76
      have h77 := h73 g76
      obtain ⟨v78, h78⟩ := h77
      refine ⟨v78, ?_⟩
      exact hQ _ _ F73 h78
theorem fmX12_isRest_L5 {p0 : Int} {p1 : Int} {p2 : Int} {Q Q' : Int → Mem → Prop} {M0 : Mem} (hQ : ∀ (w0 : Int) (M' : Mem), Ks (fun _ _ => False) M0 M' → Q w0 M' → Q' w0 M') : ∀ (n : Nat) (v3 v4 : Int) (M : Mem), Ks (fun _ _ => False) M0 M → qX12_isRest_L5 p0 p1 p2 Q n v3 v4 M → qX12_isRest_L5 p0 p1 p2 Q' n v3 v4 M := by
  intro n
  induction n with
  | zero => intro v3 v4 M _ h; exact h.elim
  | succ n ih =>
    intro v3 v4 M hF h
    rw [qX12_isRest_L5] at h
    rw [qX12_isRest_L5]
    obtain ⟨v1, h1⟩ := h
    refine ⟨v1, ?_⟩
    obtain ⟨h2, h3⟩ := h1
    refine ⟨?_, ?_⟩
    · intro g4
      have h5 := h2 g4
      obtain ⟨v6, h6⟩ := h5
      refine ⟨v6, ?_⟩
      obtain ⟨v7, h7⟩ := h6
      refine ⟨v7, ?_⟩
      exact hQ _ _ hF h7
    · intro g8
      have h9 := h3 g8
      obtain ⟨v10, h10⟩ := h9
      refine ⟨v10, ?_⟩
      obtain ⟨h11, h12⟩ := h10
      refine ⟨?_, ?_⟩
      · intro g13
        have h14 := h11 g13
        exact ih _ _ _ hF h14
      · intro g15
        have h16 := h12 g15
        refine fmX12_gets h16 ?_
        intro x7_18 M7_19 f17 h17
        have F17 : Ks (fun _ _ => False) M0 M7_19 := (hF).tr (f17.mono (fun _ _ h => False.elim h))
        intro g20
        have h21 := h17 g20
        refine fmX12_gets h21 ?_
        intro x8_23 M8_24 f22 h22
        have F22 : Ks (fun _ _ => False) M0 M8_24 := (F17).tr (f22.mono (fun _ _ h => False.elim h))
        intro g25
        have h26 := h22 g25
        obtain ⟨h27, h28⟩ := h26
        refine ⟨?_, ?_⟩
        · intro g29
          have h30 := h27 g29
          exact ih _ _ _ F22 h30
        · intro g31
          have h32 := h28 g31
          exact ih _ _ _ F22 h32
theorem fmX12_isRest {p0 : Int} {p1 : Int} {p2 : Int} {M : Mem} {Q Q' : Int → Mem → Prop} (h : qX12_isRest p0 p1 p2 M Q) (hQ : ∀ (w0 : Int) (M' : Mem), Ks (fun _ _ => False) M M' → Q w0 M' → Q' w0 M') : qX12_isRest p0 p1 p2 M Q' := by
  unfold qX12_isRest at h ⊢
  obtain ⟨n1, h1⟩ := h
  refine ⟨n1, ?_⟩
  refine fmX12_isRest_L5 hQ _ _ _ _ Ks.rf h1
theorem fmX12_rests_L37 {p1 : Int} {X90 X90' : Int → Int → Mem → Prop} {Q Q' : Int → Mem → Prop} {M0 : Mem} (hQ : ∀ (w0 : Int) (M' : Mem), Ks (fun k j => k = 0 ∨ (k = 1 ∧ (j = 0 ∨ j = 1))) M0 M' → Q w0 M' → Q' w0 M') (hX90 : ∀ (w0 w1 : Int) (M' : Mem), Ks (fun k j => k = 0 ∨ (k = 1 ∧ (j = 0 ∨ j = 1))) M0 M' → X90 w0 w1 M' → X90' w0 w1 M') : ∀ (n : Nat) (v2 v3 v4 : Int) (M : Mem), Ks (fun k j => k = 0 ∨ (k = 1 ∧ (j = 0 ∨ j = 1))) M0 M → qX12_rests_L37 p1 X90 Q n v2 v3 v4 M → qX12_rests_L37 p1 X90' Q' n v2 v3 v4 M := by
  intro n
  induction n with
  | zero => intro v2 v3 v4 M _ h; exact h.elim
  | succ n ih =>
    intro v2 v3 v4 M hF h
    rw [qX12_rests_L37] at h
    rw [qX12_rests_L37]
    obtain ⟨v1, h1⟩ := h
    refine ⟨v1, ?_⟩
    obtain ⟨h2, h3⟩ := h1
    refine ⟨?_, ?_⟩
    · intro g4
      have h5 := h2 g4
      exact hX90 _ _ _ hF h5
    · intro g6
      have h7 := h3 g6
      obtain ⟨v8, h8⟩ := h7
      refine ⟨v8, ?_⟩
      refine fmX12_isRest h8 ?_
      intro x11_10 M11_11 f9 h9
      have F9 : Ks (fun k j => k = 0 ∨ (k = 1 ∧ (j = 0 ∨ j = 1))) M0 M11_11 := (hF).tr (f9.mono (fun _ _ h => False.elim h))
      intro g12 g13
      have h14 := h9 g12 g13
      obtain ⟨h15, h16⟩ := h14
      refine ⟨?_, ?_⟩
      · intro g17
        have h18 := h15 g17
        exact ih _ _ _ _ F9 h18
      · intro g19
        have h20 := h16 g19
        refine fmX12_isRest h20 ?_
        intro x13_22 M13_23 f21 h21
        have F21 : Ks (fun k j => k = 0 ∨ (k = 1 ∧ (j = 0 ∨ j = 1))) M0 M13_23 := (F9).tr (f21.mono (fun _ _ h => False.elim h))
        intro g24 g25
        have h26 := h21 g24 g25
        obtain ⟨h27, h28⟩ := h26
        refine ⟨?_, ?_⟩
        · intro g29
          have h30 := h27 g29
          exact ih _ _ _ _ F21 h30
        · intro g31
          have h32 := h28 g31
          obtain ⟨v33, h33⟩ := h32
          refine ⟨v33, ?_⟩
          obtain ⟨h34, h35⟩ := h33
          refine ⟨?_, ?_⟩
          · intro g36
            have h37 := h34 g36
            exact ih _ _ _ _ F21 h37
          · intro g38
            have h39 := h35 g38
            refine fmX12_enters h39 ?_
            intro M17_41 f40 h40
            have F40 : Ks (fun k j => k = 0 ∨ (k = 1 ∧ (j = 0 ∨ j = 1))) M0 M17_41 := (F21).tr (f40.mono (mo_187))
            refine fmX12_enters h40 ?_
            intro M18_43 f42 h42
            have F42 : Ks (fun k j => k = 0 ∨ (k = 1 ∧ (j = 0 ∨ j = 1))) M0 M18_43 := (F40).tr (f42.mono (mo_187))
            exact ih _ _ _ _ F42 h42
theorem fmX12_rests_L28 {p1 : Int} {Q Q' : Int → Mem → Prop} {M0 : Mem} (hQ : ∀ (w0 : Int) (M' : Mem), Ks (fun k j => k = 0 ∨ (k = 1 ∧ (j = 0 ∨ j = 1))) M0 M' → Q w0 M' → Q' w0 M') : ∀ (n : Nat) (v2 v3 : Int) (M : Mem), Ks (fun k j => k = 0 ∨ (k = 1 ∧ (j = 0 ∨ j = 1))) M0 M → qX12_rests_L28 p1 Q n v2 v3 M → qX12_rests_L28 p1 Q' n v2 v3 M := by
  intro n
  induction n with
  | zero => intro v2 v3 M _ h; exact h.elim
  | succ n ih =>
    intro v2 v3 M hF h
    rw [qX12_rests_L28] at h
    rw [qX12_rests_L28]
    obtain ⟨v1, h1⟩ := h
    refine ⟨v1, ?_⟩
    obtain ⟨h2, h3⟩ := h1
    refine ⟨?_, ?_⟩
    · intro g4
      have h5 := h2 g4
      obtain ⟨v6, h6⟩ := h5
      refine ⟨v6, ?_⟩
      exact hQ _ _ hF h6
    · intro g7
      have h8 := h3 g7
      obtain ⟨n9, h9⟩ := h8
      refine ⟨n9, ?_⟩
      refine fmX12_rests_L37 hQ ?_ _ _ _ _ _ hF h9
      · intro v2_11 v3_12 M_13 F10 h10
        exact ih _ _ _ F10 h10
theorem fmX12_rests {p1 : Int} {M : Mem} {Q Q' : Int → Mem → Prop} (h : qX12_rests p1 M Q) (hQ : ∀ (w0 : Int) (M' : Mem), Ks (fun k j => k = 0 ∨ (k = 1 ∧ (j = 0 ∨ j = 1))) M M' → Q w0 M' → Q' w0 M') : qX12_rests p1 M Q' := by
  unfold qX12_rests at h ⊢
  intro M1_1 eM1_1
  have h1 := h M1_1 eM1_1
  have F1 : Ks (fun k j => k = 0 ∨ (k = 1 ∧ (j = 0 ∨ j = 1))) M M1_1 := by rw [eM1_1]; exact (Ks.rf).wr (mw_203)
  refine fmX12_in h1 ?_
  intro x2_3 M2_4 f2 h2
  have F2 : Ks (fun k j => k = 0 ∨ (k = 1 ∧ (j = 0 ∨ j = 1))) M M2_4 := (F1).tr (f2.mono (fun _ _ h => False.elim h))
  intro g5 g6
  have h7 := h2 g5 g6
  obtain ⟨h8, h9⟩ := h7
  refine ⟨?_, ?_⟩
  · intro g10
    have h11 := h8 g10
    intro M4_12 eM4_12
    have h12 := h11 M4_12 eM4_12
    have F12 : Ks (fun k j => k = 0 ∨ (k = 1 ∧ (j = 0 ∨ j = 1))) M M4_12 := by rw [eM4_12]; exact (F2).wr (mw_204)
    obtain ⟨n13, h13⟩ := h12
    refine ⟨n13, ?_⟩
    refine fmX12_rests_L28 hQ _ _ _ _ F12 h13
  · intro g14
    have h15 := h9 g14
    exact hQ _ _ F2 h15
theorem fmX12_draws {p1 : Int} {M : Mem} {Q Q' : Int → Mem → Prop} (h : qX12_draws p1 M Q) (hQ : ∀ (w0 : Int) (M' : Mem), Ks (fun k j => (k = 1 ∧ (j = 49))) M M' → Q w0 M' → Q' w0 M') : qX12_draws p1 M Q' := by
  unfold qX12_draws at h ⊢
  intro x1_1 g2 g3
  have h1 := h x1_1 g2 g3
  intro x2_4 g5 g6
  have h4 := h1 x2_4 g5 g6
  intro x3_7 g8 g9
  have h7 := h4 x3_7 g8 g9
  intro M4_10 eM4_10
  have h10 := h7 M4_10 eM4_10
  have F10 : Ks (fun k j => (k = 1 ∧ (j = 49))) M M4_10 := by rw [eM4_10]; exact (Ks.rf).wr (mw_214)
  intro x5_11 g12 g13
  have h11 := h10 x5_11 g12 g13
  intro x6_14 g15 g16
  have h14 := h11 x6_14 g15 g16
  obtain ⟨v17, h17⟩ := h14
  refine ⟨v17, ?_⟩
  intro x8_18 g19 g20
  have h18 := h17 x8_18 g19 g20
  exact hQ _ _ F10 h18
theorem fmX12_years_L30 {p1 : Int} {p2 : Int} {X120 X120' : Mem → Prop} {Q Q' : Int → Mem → Prop} {M0 : Mem} (hQ : ∀ (w0 : Int) (M' : Mem), Ks (fun k j => k = 0 ∨ k = 6 ∨ (13 ≤ k ∧ k ≤ 14) ∨ (16 ≤ k ∧ k ≤ 18) ∨ (k = 1 ∧ (j = 0 ∨ j = 1 ∨ j = 30 ∨ j = 31 ∨ j = 35 ∨ j = 49))) M0 M' → Q w0 M' → Q' w0 M') (hX120 : ∀ (M' : Mem), Ks (fun k j => k = 0 ∨ k = 6 ∨ (13 ≤ k ∧ k ≤ 14) ∨ (16 ≤ k ∧ k ≤ 18) ∨ (k = 1 ∧ (j = 0 ∨ j = 1 ∨ j = 30 ∨ j = 31 ∨ j = 35 ∨ j = 49))) M0 M' → X120 M' → X120' M') : ∀ (n : Nat) (v3 : Int) (M : Mem), Ks (fun k j => k = 0 ∨ k = 6 ∨ (13 ≤ k ∧ k ≤ 14) ∨ (16 ≤ k ∧ k ≤ 18) ∨ (k = 1 ∧ (j = 0 ∨ j = 1 ∨ j = 30 ∨ j = 31 ∨ j = 35 ∨ j = 49))) M0 M → qX12_years_L30 p1 p2 X120 Q n v3 M → qX12_years_L30 p1 p2 X120' Q' n v3 M := by
  intro n
  induction n with
  | zero => intro v3 M _ h; exact h.elim
  | succ n ih =>
    intro v3 M hF h
    rw [qX12_years_L30] at h
    rw [qX12_years_L30]
    obtain ⟨v1, h1⟩ := h
    refine ⟨v1, ?_⟩
    obtain ⟨h2, h3⟩ := h1
    refine ⟨?_, ?_⟩
    · intro g4
      have h5 := h2 g4
      exact hX120 _ hF h5
    · intro g6
      have h7 := h3 g6
      refine fmX12_draws h7 ?_
      intro x8_9 M8_10 f8 h8
      have F8 : Ks (fun k j => k = 0 ∨ k = 6 ∨ (13 ≤ k ∧ k ≤ 14) ∨ (16 ≤ k ∧ k ≤ 18) ∨ (k = 1 ∧ (j = 0 ∨ j = 1 ∨ j = 30 ∨ j = 31 ∨ j = 35 ∨ j = 49))) M0 M8_10 := (hF).tr (f8.mono (mo_193))
      intro g11
      have h12 := h8 g11
      obtain ⟨h13, h14⟩ := h12
      refine ⟨?_, ?_⟩
      · intro g15
        have h16 := h13 g15
        intro x10_17 g18 g19
        have h17 := h16 x10_17 g18 g19
        obtain ⟨h20, h21⟩ := h17
        refine ⟨?_, ?_⟩
        · intro g22
          have h23 := h20 g22
          exact ih _ _ F8 h23
        · intro g24
          have h25 := h21 g24
          intro x12_26 g27 g28
          have h26 := h25 x12_26 g27 g28
          refine fmX12_draws h26 ?_
          intro x13_30 M13_31 f29 h29
          have F29 : Ks (fun k j => k = 0 ∨ k = 6 ∨ (13 ≤ k ∧ k ≤ 14) ∨ (16 ≤ k ∧ k ≤ 18) ∨ (k = 1 ∧ (j = 0 ∨ j = 1 ∨ j = 30 ∨ j = 31 ∨ j = 35 ∨ j = 49))) M0 M13_31 := (F8).tr (f29.mono (mo_193))
          intro g32
          have h33 := h29 g32
          obtain ⟨h34, h35⟩ := h33
          refine ⟨?_, ?_⟩
          · intro g36
            have h37 := h34 g36
            refine fmX12_draws h37 ?_
            intro x15_39 M15_40 f38 h38
            have F38 : Ks (fun k j => k = 0 ∨ k = 6 ∨ (13 ≤ k ∧ k ≤ 14) ∨ (16 ≤ k ∧ k ≤ 18) ∨ (k = 1 ∧ (j = 0 ∨ j = 1 ∨ j = 30 ∨ j = 31 ∨ j = 35 ∨ j = 49))) M0 M15_40 := (F29).tr (f38.mono (mo_193))
            intro g41
            have h42 := h38 g41
            obtain ⟨v43, h43⟩ := h42
            refine ⟨v43, ?_⟩
            refine fmX12_pushesOne h43 ?_
            intro x17_45 M17_46 f44 h44
            have F44 : Ks (fun k j => k = 0 ∨ k = 6 ∨ (13 ≤ k ∧ k ≤ 14) ∨ (16 ≤ k ∧ k ≤ 18) ∨ (k = 1 ∧ (j = 0 ∨ j = 1 ∨ j = 30 ∨ j = 31 ∨ j = 35 ∨ j = 49))) M0 M17_46 := (F38).tr (f44.mono (mo_194))
            intro g47
            have h48 := h44 g47
            exact ih _ _ F44 h48
          · intro g49
            have h50 := h35 g49
            refine fmX12_turnsOne h50 ?_
            intro x18_52 M18_53 f51 h51
            have F51 : Ks (fun k j => k = 0 ∨ k = 6 ∨ (13 ≤ k ∧ k ≤ 14) ∨ (16 ≤ k ∧ k ≤ 18) ∨ (k = 1 ∧ (j = 0 ∨ j = 1 ∨ j = 30 ∨ j = 31 ∨ j = 35 ∨ j = 49))) M0 M18_53 := (F29).tr (f51.mono (mo_194))
            intro g54
            have h55 := h51 g54
            exact ih _ _ F51 h55
      · intro g56
        have h57 := h14 g56
        refine fmX12_stepGoes h57 ?_
        intro M19_59 f58 h58
        have F58 : Ks (fun k j => k = 0 ∨ k = 6 ∨ (13 ≤ k ∧ k ≤ 14) ∨ (16 ≤ k ∧ k ≤ 18) ∨ (k = 1 ∧ (j = 0 ∨ j = 1 ∨ j = 30 ∨ j = 31 ∨ j = 35 ∨ j = 49))) M0 M19_59 := (F8).tr (f58.mono (mo_195))
        exact ih _ _ F58 h58
theorem fmX12_years {p1 : Int} {p2 : Int} {M : Mem} {Q Q' : Int → Mem → Prop} (h : qX12_years p1 p2 M Q) (hQ : ∀ (w0 : Int) (M' : Mem), Ks (fun k j => k = 0 ∨ k = 6 ∨ (13 ≤ k ∧ k ≤ 14) ∨ (16 ≤ k ∧ k ≤ 18) ∨ (k = 1 ∧ (j = 0 ∨ j = 1 ∨ j = 30 ∨ j = 31 ∨ j = 35 ∨ j = 49))) M M' → Q w0 M' → Q' w0 M') : qX12_years p1 p2 M Q' := by
  unfold qX12_years at h ⊢
  intro M1_1 eM1_1
  have h1 := h M1_1 eM1_1
  have F1 : Ks (fun k j => k = 0 ∨ k = 6 ∨ (13 ≤ k ∧ k ≤ 14) ∨ (16 ≤ k ∧ k ≤ 18) ∨ (k = 1 ∧ (j = 0 ∨ j = 1 ∨ j = 30 ∨ j = 31 ∨ j = 35 ∨ j = 49))) M M1_1 := by rw [eM1_1]; exact (Ks.rf).wr (mw_215)
  refine fmX12_in h1 ?_
  intro x2_3 M2_4 f2 h2
  have F2 : Ks (fun k j => k = 0 ∨ k = 6 ∨ (13 ≤ k ∧ k ≤ 14) ∨ (16 ≤ k ∧ k ≤ 18) ∨ (k = 1 ∧ (j = 0 ∨ j = 1 ∨ j = 30 ∨ j = 31 ∨ j = 35 ∨ j = 49))) M M2_4 := (F1).tr (f2.mono (fun _ _ h => False.elim h))
  intro g5 g6
  have h7 := h2 g5 g6
  obtain ⟨h8, h9⟩ := h7
  refine ⟨?_, ?_⟩
  · intro g10
    have h11 := h8 g10
    intro M4_12 eM4_12
    have h12 := h11 M4_12 eM4_12
    have F12 : Ks (fun k j => k = 0 ∨ k = 6 ∨ (13 ≤ k ∧ k ≤ 14) ∨ (16 ≤ k ∧ k ≤ 18) ∨ (k = 1 ∧ (j = 0 ∨ j = 1 ∨ j = 30 ∨ j = 31 ∨ j = 35 ∨ j = 49))) M M4_12 := by rw [eM4_12]; exact (F2).wr (mw_216)
    refine fmX12_copies h12 ?_
    intro M5_14 f13 h13
    have F13 : Ks (fun k j => k = 0 ∨ k = 6 ∨ (13 ≤ k ∧ k ≤ 14) ∨ (16 ≤ k ∧ k ≤ 18) ∨ (k = 1 ∧ (j = 0 ∨ j = 1 ∨ j = 30 ∨ j = 31 ∨ j = 35 ∨ j = 49))) M M5_14 := (F12).tr (f13.mono (mo_194))
    obtain ⟨n15, h15⟩ := h13
    refine ⟨n15, ?_⟩
    refine fmX12_years_L30 hQ ?_ _ _ _ F13 h15
    · intro M_17 F16 h16
      refine fmX12_endedBy h16 ?_
      intro x21_19 M21_20 f18 h18
      have F18 : Ks (fun k j => k = 0 ∨ k = 6 ∨ (13 ≤ k ∧ k ≤ 14) ∨ (16 ≤ k ∧ k ≤ 18) ∨ (k = 1 ∧ (j = 0 ∨ j = 1 ∨ j = 30 ∨ j = 31 ∨ j = 35 ∨ j = 49))) M M21_20 := (F16).tr (f18.mono (fun _ _ h => False.elim h))
      intro g21
      have h22 := h18 g21
      refine fmX12_endedBy h22 ?_
      intro x22_24 M22_25 f23 h23
      have F23 : Ks (fun k j => k = 0 ∨ k = 6 ∨ (13 ≤ k ∧ k ≤ 14) ∨ (16 ≤ k ∧ k ≤ 18) ∨ (k = 1 ∧ (j = 0 ∨ j = 1 ∨ j = 30 ∨ j = 31 ∨ j = 35 ∨ j = 49))) M M22_25 := (F18).tr (f23.mono (fun _ _ h => False.elim h))
      intro g26
      have h27 := h23 g26
      intro x23_28 g29 g30
      have h28 := h27 x23_28 g29 g30
      intro M24_31 eM24_31
      have h31 := h28 M24_31 eM24_31
      have F31 : Ks (fun k j => k = 0 ∨ k = 6 ∨ (13 ≤ k ∧ k ≤ 14) ∨ (16 ≤ k ∧ k ≤ 18) ∨ (k = 1 ∧ (j = 0 ∨ j = 1 ∨ j = 30 ∨ j = 31 ∨ j = 35 ∨ j = 49))) M M24_31 := by rw [eM24_31]; exact (F23).wr (mw_217)
      refine fmJ6_bitCount_0f7a4 h31 ?_
      intro x25_33 M25_34 f32 h32
      have F32 : Ks (fun k j => k = 0 ∨ k = 6 ∨ (13 ≤ k ∧ k ≤ 14) ∨ (16 ≤ k ∧ k ≤ 18) ∨ (k = 1 ∧ (j = 0 ∨ j = 1 ∨ j = 30 ∨ j = 31 ∨ j = 35 ∨ j = 49))) M M25_34 := (F31).tr (f32.mono (fun _ _ h => False.elim h))
      intro g35
      have h36 := h32 g35
      refine fmX12_enters h36 ?_
      intro M26_38 f37 h37
      have F37 : Ks (fun k j => k = 0 ∨ k = 6 ∨ (13 ≤ k ∧ k ≤ 14) ∨ (16 ≤ k ∧ k ≤ 18) ∨ (k = 1 ∧ (j = 0 ∨ j = 1 ∨ j = 30 ∨ j = 31 ∨ j = 35 ∨ j = 49))) M M26_38 := (F32).tr (f37.mono (mo_196))
      refine fmX12_endedBy h37 ?_
      intro x27_40 M27_41 f39 h39
      have F39 : Ks (fun k j => k = 0 ∨ k = 6 ∨ (13 ≤ k ∧ k ≤ 14) ∨ (16 ≤ k ∧ k ≤ 18) ∨ (k = 1 ∧ (j = 0 ∨ j = 1 ∨ j = 30 ∨ j = 31 ∨ j = 35 ∨ j = 49))) M M27_41 := (F37).tr (f39.mono (fun _ _ h => False.elim h))
      intro g42
      have h43 := h39 g42
      refine fmJ6_bitCount_0f7a4 h43 ?_
      intro x28_45 M28_46 f44 h44
      have F44 : Ks (fun k j => k = 0 ∨ k = 6 ∨ (13 ≤ k ∧ k ≤ 14) ∨ (16 ≤ k ∧ k ≤ 18) ∨ (k = 1 ∧ (j = 0 ∨ j = 1 ∨ j = 30 ∨ j = 31 ∨ j = 35 ∨ j = 49))) M M28_46 := (F39).tr (f44.mono (fun _ _ h => False.elim h))
      intro g47
      have h48 := h44 g47
      refine fmX12_enters h48 ?_
      intro M29_50 f49 h49
      have F49 : Ks (fun k j => k = 0 ∨ k = 6 ∨ (13 ≤ k ∧ k ≤ 14) ∨ (16 ≤ k ∧ k ≤ 18) ∨ (k = 1 ∧ (j = 0 ∨ j = 1 ∨ j = 30 ∨ j = 31 ∨ j = 35 ∨ j = 49))) M M29_50 := (F44).tr (f49.mono (mo_196))
      intro x30_51 g52 g53
      have h51 := h49 x30_51 g52 g53
      exact hQ _ _ F49 h51
  · intro g54
    have h55 := h9 g54
    exact hQ _ _ F2 h55
theorem fmX12_keep_L38 {p1 : Int} {Q Q' : Int → Mem → Prop} {M0 : Mem} (hQ : ∀ (w0 : Int) (M' : Mem), Ks (fun k j => (29 ≤ k ∧ k ≤ 31) ∨ (k = 1 ∧ (j = 0))) M0 M' → Q w0 M' → Q' w0 M') : ∀ (n : Nat) (v2 : Int) (M : Mem), Ks (fun k j => (29 ≤ k ∧ k ≤ 31) ∨ (k = 1 ∧ (j = 0))) M0 M → qX12_keep_L38 p1 Q n v2 M → qX12_keep_L38 p1 Q' n v2 M := by
  intro n
  induction n with
  | zero => intro v2 M _ h; exact h.elim
  | succ n ih =>
    intro v2 M hF h
    rw [qX12_keep_L38] at h
    rw [qX12_keep_L38]
    obtain ⟨v1, h1⟩ := h
    refine ⟨v1, ?_⟩
    obtain ⟨h2, h3⟩ := h1
    refine ⟨?_, ?_⟩
    · intro g4
      have h5 := h2 g4
      exact hQ _ _ hF h5
    · intro g6
      have h7 := h3 g6
      obtain ⟨v8, h8⟩ := h7
      refine ⟨v8, ?_⟩
      obtain ⟨v9, h9⟩ := h8
      refine ⟨v9, ?_⟩
      intro x13_10 g11 g12
      have h10 := h9 x13_10 g11 g12
      obtain ⟨v13, h13⟩ := h10
      refine ⟨v13, ?_⟩
      obtain ⟨v14, h14⟩ := h13
      refine ⟨v14, ?_⟩
      intro M16_15 eM16_15
      have h15 := h14 M16_15 eM16_15
      have F15 : Ks (fun k j => (29 ≤ k ∧ k ≤ 31) ∨ (k = 1 ∧ (j = 0))) M0 M16_15 := by rw [eM16_15]; exact (hF).wr (mw_218 _)
      exact ih _ _ F15 h15
theorem fmX12_keep {p1 : Int} {M : Mem} {Q Q' : Int → Mem → Prop} (h : qX12_keep p1 M Q) (hQ : ∀ (w0 : Int) (M' : Mem), Ks (fun k j => (29 ≤ k ∧ k ≤ 31) ∨ (k = 1 ∧ (j = 0))) M M' → Q w0 M' → Q' w0 M') : qX12_keep p1 M Q' := by
  unfold qX12_keep at h ⊢
  intro M1_1 eM1_1
  have h1 := h M1_1 eM1_1
  have F1 : Ks (fun k j => (29 ≤ k ∧ k ≤ 31) ∨ (k = 1 ∧ (j = 0))) M M1_1 := by rw [eM1_1]; exact (Ks.rf).wr (mw_219)
  refine fmX12_in h1 ?_
  intro x2_3 M2_4 f2 h2
  have F2 : Ks (fun k j => (29 ≤ k ∧ k ≤ 31) ∨ (k = 1 ∧ (j = 0))) M M2_4 := (F1).tr (f2.mono (fun _ _ h => False.elim h))
  intro g5 g6
  have h7 := h2 g5 g6
  obtain ⟨h8, h9⟩ := h7
  refine ⟨?_, ?_⟩
  · intro g10
    have h11 := h8 g10
    obtain ⟨v12, h12⟩ := h11
    refine ⟨v12, ?_⟩
    obtain ⟨v13, h13⟩ := h12
    refine ⟨v13, ?_⟩
    intro M6_14 eM6_14
    have h14 := h13 M6_14 eM6_14
    have F14 : Ks (fun k j => (29 ≤ k ∧ k ≤ 31) ∨ (k = 1 ∧ (j = 0))) M M6_14 := by rw [eM6_14]; exact (F2).wr (mw_220 _)
    intro x7_15 g16 g17
    have h15 := h14 x7_15 g16 g17
    intro M8_18 eM8_18
    have h18 := h15 M8_18 eM8_18
    have F18 : Ks (fun k j => (29 ≤ k ∧ k ≤ 31) ∨ (k = 1 ∧ (j = 0))) M M8_18 := by rw [eM8_18]; exact (F14).wr (mw_221 _)
    obtain ⟨n19, h19⟩ := h18
    refine ⟨n19, ?_⟩
    refine fmX12_keep_L38 hQ _ _ _ F18 h19
  · intro g20
    have h21 := h9 g20
    exact hQ _ _ F2 h21
theorem fmX12_again_L43 {p1 : Int} {Q Q' : Int → Mem → Prop} {M0 : Mem} (hQ : ∀ (w0 : Int) (M' : Mem), Ks (fun k j => k = 5 ∨ (k = 1 ∧ (j = 0 ∨ j = 28))) M0 M' → Q w0 M' → Q' w0 M') : ∀ (n : Nat) (v2 : Int) (M : Mem), Ks (fun k j => k = 5 ∨ (k = 1 ∧ (j = 0 ∨ j = 28))) M0 M → qX12_again_L43 p1 Q n v2 M → qX12_again_L43 p1 Q' n v2 M := by
  intro n
  induction n with
  | zero => intro v2 M _ h; exact h.elim
  | succ n ih =>
    intro v2 M hF h
    rw [qX12_again_L43] at h
    rw [qX12_again_L43]
    obtain ⟨v1, h1⟩ := h
    refine ⟨v1, ?_⟩
    obtain ⟨h2, h3⟩ := h1
    refine ⟨?_, ?_⟩
    · intro g4
      have h5 := h2 g4
      intro M13_6 eM13_6
      have h6 := h5 M13_6 eM13_6
      have F6 : Ks (fun k j => k = 5 ∨ (k = 1 ∧ (j = 0 ∨ j = 28))) M0 M13_6 := by rw [eM13_6]; exact (hF).wr (mw_152)
      exact hQ _ _ F6 h6
    · intro g7
      have h8 := h3 g7
      obtain ⟨v9, h9⟩ := h8
      refine ⟨v9, ?_⟩
      obtain ⟨v10, h10⟩ := h9
      refine ⟨v10, ?_⟩
      intro x16_11 g12 g13
      have h11 := h10 x16_11 g12 g13
      obtain ⟨v14, h14⟩ := h11
      refine ⟨v14, ?_⟩
      obtain ⟨v15, h15⟩ := h14
      refine ⟨v15, ?_⟩
      intro M19_16 eM19_16
      have h16 := h15 M19_16 eM19_16
      have F16 : Ks (fun k j => k = 5 ∨ (k = 1 ∧ (j = 0 ∨ j = 28))) M0 M19_16 := by rw [eM19_16]; exact (hF).wr (mw_150 _)
      exact ih _ _ F16 h16
theorem fmX12_again {p1 : Int} {M : Mem} {Q Q' : Int → Mem → Prop} (h : qX12_again p1 M Q) (hQ : ∀ (w0 : Int) (M' : Mem), Ks (fun k j => k = 5 ∨ (k = 1 ∧ (j = 0 ∨ j = 28))) M M' → Q w0 M' → Q' w0 M') : qX12_again p1 M Q' := by
  unfold qX12_again at h ⊢
  intro M1_1 eM1_1
  have h1 := h M1_1 eM1_1
  have F1 : Ks (fun k j => k = 5 ∨ (k = 1 ∧ (j = 0 ∨ j = 28))) M M1_1 := by rw [eM1_1]; exact (Ks.rf).wr (mw_151)
  refine fmX12_in h1 ?_
  intro x2_3 M2_4 f2 h2
  have F2 : Ks (fun k j => k = 5 ∨ (k = 1 ∧ (j = 0 ∨ j = 28))) M M2_4 := (F1).tr (f2.mono (fun _ _ h => False.elim h))
  intro g5 g6
  have h7 := h2 g5 g6
  obtain ⟨h8, h9⟩ := h7
  refine ⟨?_, ?_⟩
  · intro g10
    have h11 := h8 g10
    exact hQ _ _ F2 h11
  · intro g12
    have h13 := h9 g12
    obtain ⟨v14, h14⟩ := h13
    refine ⟨v14, ?_⟩
    obtain ⟨v15, h15⟩ := h14
    refine ⟨v15, ?_⟩
    intro x6_16 g17 g18
    have h16 := h15 x6_16 g17 g18
    obtain ⟨h19, h20⟩ := h16
    refine ⟨?_, ?_⟩
    · intro g21
      have h22 := h19 g21
      exact hQ _ _ F2 h22
    · intro g23
      have h24 := h20 g23
      intro x8_25 g26 g27
      have h25 := h24 x8_25 g26 g27
      intro x9_28 g29 g30
      have h28 := h25 x9_28 g29 g30
      obtain ⟨h31, h32⟩ := h28
      refine ⟨?_, ?_⟩
      · intro g33
        have h34 := h31 g33
        obtain ⟨n35, h35⟩ := h34
        refine ⟨n35, ?_⟩
        refine fmX12_again_L43 hQ _ _ _ F2 h35
      · intro g36
        have h37 := h32 g36
        exact hQ _ _ F2 h37
theorem fmX12_count_L9 {p1 : Int} {X35 X35' : Int → Mem → Prop} {Q Q' : Int → Mem → Prop} {M0 : Mem} (hQ : ∀ (w0 : Int) (M' : Mem), Ks (fun k j => (k = 1 ∧ (j = 0))) M0 M' → Q w0 M' → Q' w0 M') (hX35 : ∀ (w0 : Int) (M' : Mem), Ks (fun k j => (k = 1 ∧ (j = 0))) M0 M' → X35 w0 M' → X35' w0 M') : ∀ (n : Nat) (v2 v3 : Int) (M : Mem), Ks (fun k j => (k = 1 ∧ (j = 0))) M0 M → qX12_count_L9 p1 X35 Q n v2 v3 M → qX12_count_L9 p1 X35' Q' n v2 v3 M := by
  intro n
  induction n with
  | zero => intro v2 v3 M _ h; exact h.elim
  | succ n ih =>
    intro v2 v3 M hF h
    rw [qX12_count_L9] at h
    rw [qX12_count_L9]
    intro x2_1 g2 g3
    have h1 := h x2_1 g2 g3
    obtain ⟨v4, h4⟩ := h1
    refine ⟨v4, ?_⟩
    obtain ⟨h5, h6⟩ := h4
    refine ⟨?_, ?_⟩
    · intro g7
      have h8 := h5 g7
      exact hX35 _ _ hF h8
    · intro g9
      have h10 := h6 g9
      obtain ⟨v11, h11⟩ := h10
      refine ⟨v11, ?_⟩
      obtain ⟨v12, h12⟩ := h11
      refine ⟨v12, ?_⟩
      intro x7_13 g14 g15
      have h13 := h12 x7_13 g14 g15
      refine fmX12_flag h13 ?_
      intro x8_17 M8_18 f16 h16
      have F16 : Ks (fun k j => (k = 1 ∧ (j = 0))) M0 M8_18 := (hF).tr (f16.mono (fun _ _ h => False.elim h))
      intro g19
      have h20 := h16 g19
      exact ih _ _ _ F16 h20
theorem fmX12_count {p1 : Int} {M : Mem} {Q Q' : Int → Mem → Prop} (h : qX12_count p1 M Q) (hQ : ∀ (w0 : Int) (M' : Mem), Ks (fun k j => (k = 1 ∧ (j = 0))) M M' → Q w0 M' → Q' w0 M') : qX12_count p1 M Q' := by
  unfold qX12_count at h ⊢
  intro M1_1 eM1_1
  have h1 := h M1_1 eM1_1
  have F1 : Ks (fun k j => (k = 1 ∧ (j = 0))) M M1_1 := by rw [eM1_1]; exact (Ks.rf).wr (mw_146)
  obtain ⟨n2, h2⟩ := h1
  refine ⟨n2, ?_⟩
  refine fmX12_count_L9 hQ ?_ _ _ _ _ F1 h2
  · intro v2_4 M_5 F3 h3
    obtain ⟨h6, h7, h8, h9, h10, h11, h12, h13, h14, h15, h16, h17, h18, h19⟩ := h3
    refine ⟨?_, ?_, ?_, ?_, ?_, ?_, ?_, ?_, ?_, ?_, ?_, ?_, ?_, ?_⟩
    · intro g20
      have h21 := h6 g20
      intro x11_22 g23 g24
      have h22 := h21 x11_22 g23 g24
      exact hQ _ _ F3 h22
    · intro g25
      have h26 := h7 g25
      intro x12_27 g28 g29
      have h27 := h26 x12_27 g28 g29
      exact hQ _ _ F3 h27
    · intro g30
      have h31 := h8 g30
      intro x13_32 g33 g34
      have h32 := h31 x13_32 g33 g34
      exact hQ _ _ F3 h32
    · intro g35
      have h36 := h9 g35
      intro x14_37 g38 g39
      have h37 := h36 x14_37 g38 g39
      exact hQ _ _ F3 h37
    · intro g40
      have h41 := h10 g40
      intro x15_42 g43 g44
      have h42 := h41 x15_42 g43 g44
      exact hQ _ _ F3 h42
    · intro g45
      have h46 := h11 g45
      refine fmX12_endedBy h46 ?_
      intro x16_48 M16_49 f47 h47
      have F47 : Ks (fun k j => (k = 1 ∧ (j = 0))) M M16_49 := (F3).tr (f47.mono (fun _ _ h => False.elim h))
      intro g50
      have h51 := h47 g50
      refine fmX12_endedBy h51 ?_
      intro x17_53 M17_54 f52 h52
      have F52 : Ks (fun k j => (k = 1 ∧ (j = 0))) M M17_54 := (F47).tr (f52.mono (fun _ _ h => False.elim h))
      intro g55
      have h56 := h52 g55
      intro x18_57 g58 g59
      have h57 := h56 x18_57 g58 g59
      refine fmJ6_bitCount_0f7a4 h57 ?_
      intro x19_61 M19_62 f60 h60
      have F60 : Ks (fun k j => (k = 1 ∧ (j = 0))) M M19_62 := (F52).tr (f60.mono (fun _ _ h => False.elim h))
      intro g63
      have h64 := h60 g63
      exact hQ _ _ F60 h64
    · intro g65
      have h66 := h12 g65
      refine fmX12_endedBy h66 ?_
      intro x20_68 M20_69 f67 h67
      have F67 : Ks (fun k j => (k = 1 ∧ (j = 0))) M M20_69 := (F3).tr (f67.mono (fun _ _ h => False.elim h))
      intro g70
      have h71 := h67 g70
      refine fmJ6_bitCount_0f7a4 h71 ?_
      intro x21_73 M21_74 f72 h72
      have F72 : Ks (fun k j => (k = 1 ∧ (j = 0))) M M21_74 := (F67).tr (f72.mono (fun _ _ h => False.elim h))
      intro g75
      have h76 := h72 g75
      exact hQ _ _ F72 h76
    · intro g77
      have h78 := h13 g77
      obtain ⟨v79, h79⟩ := h78
      refine ⟨v79, ?_⟩
      exact hQ _ _ F3 h79
    · intro g80
      have h81 := h14 g80
      intro x23_82 g83 g84
      have h82 := h81 x23_82 g83 g84
      refine fmX12_weatherOn h82 ?_
      intro x24_86 M24_87 f85 h85
      have F85 : Ks (fun k j => (k = 1 ∧ (j = 0))) M M24_87 := (F3).tr (f85.mono (fun _ _ h => False.elim h))
      intro g88
      have h89 := h85 g88
      exact hQ _ _ F85 h89
    · intro g90
      have h91 := h15 g90
      intro x25_92 g93 g94
      have h92 := h91 x25_92 g93 g94
      exact hQ _ _ F3 h92
    · intro g95
      have h96 := h16 g95
      intro x26_97 g98 g99
      have h97 := h96 x26_97 g98 g99
      exact hQ _ _ F3 h97
    · intro g100
      have h101 := h17 g100
      intro x27_102 g103 g104
      have h102 := h101 x27_102 g103 g104
      exact hQ _ _ F3 h102
    · intro g105
      have h106 := h18 g105
      intro x28_107 g108 g109
      have h107 := h106 x28_107 g108 g109
      exact hQ _ _ F3 h107
    · intro g110
      have h111 := h19 g110
      exact hQ _ _ F3 h111
theorem fmX12_row {p1 : Int} {M : Mem} {Q Q' : Int → Mem → Prop} (h : qX12_row p1 M Q) (hQ : ∀ (w0 : Int) (M' : Mem), Ks (fun k j => (k = 1 ∧ (j = 0))) M M' → Q w0 M' → Q' w0 M') : qX12_row p1 M Q' := by
  unfold qX12_row at h ⊢
  intro M1_1 eM1_1
  have h1 := h M1_1 eM1_1
  have F1 : Ks (fun k j => (k = 1 ∧ (j = 0))) M M1_1 := by rw [eM1_1]; exact (Ks.rf).wr (mw_146)
  intro x2_2 g3 g4
  have h2 := h1 x2_2 g3 g4
  obtain ⟨v5, h5⟩ := h2
  refine ⟨v5, ?_⟩
  refine fmX12_in h5 ?_
  intro x4_7 M4_8 f6 h6
  have F6 : Ks (fun k j => (k = 1 ∧ (j = 0))) M M4_8 := (F1).tr (f6.mono (fun _ _ h => False.elim h))
  intro g9 g10
  have h11 := h6 g9 g10
  obtain ⟨h12, h13⟩ := h11
  refine ⟨?_, ?_⟩
  · intro g14
    have h15 := h12 g14
    obtain ⟨v16, h16⟩ := h15
    refine ⟨v16, ?_⟩
    obtain ⟨v17, h17⟩ := h16
    refine ⟨v17, ?_⟩
    intro x8_18 g19 g20
    have h18 := h17 x8_18 g19 g20
    exact hQ _ _ F6 h18
  · intro g21
    have h22 := h13 g21
    intro M9_23 eM9_23
    have h23 := h22 M9_23 eM9_23
    have F23 : Ks (fun k j => (k = 1 ∧ (j = 0))) M M9_23 := by rw [eM9_23]; exact (F6).wr (mw_146)
    exact hQ _ _ F23 h23
end
section
/-! KBASE: rows in the words of the memory; strings that are there; contracts and calls. -/
section KB
variable {p : Program} {l : Launch} {e : Env} {R : Room} {s : State} {m : MethodId} {args : Array Value} {below : List Frame} {meth : Method} {c : Code} {H : Heap} {locs : List Loc} {cells slots : Nat} {Q : State → Prop}
variable {cc : ByteArray} {pc : Nat} {ls : Array Slot} {rest st0 : List Value} {D : va_G} {A : Nat → Prop} {a : Nat} {ws wc wr : va_W} {H0 : Heap} {τ : Nat → ClassId} {own : String} {sA sV : Nat → Nat}
variable {y : MethodName} {b : ByteArray} {mL n lev mc ms index nL cells' slots' : Nat} {ret : Option FieldType} {As : List Value} {Wf : Mem → va_W} {Rf : Mem → Prop} {M0 : Mem}
theorem r_iaddW (hx : p.tables.exec = Jvm.exec) (hb : c.code = cc) {a b : Int} (hd : decode cc pc = .ok (.iadd, 1)) (k : ∀ z : Int, z = w32 (a + b) → iR z → W p l e R s m args below meth c H locs cells slots Q (F0 m (pc + 1) ls (.int (iI z) :: rest))) : W p l e R s m args below meth c H locs cells slots Q (F0 m pc ls (.int (iI b) :: .int (iI a) :: rest)) := r_iadd hx hb hd rfl (by
  have h := k _ rfl (w32_R _)
  rw [show iI (w32 (a + b)) = iI (a + b) from iI_toI _] at h
  exact h)
theorem r_isubW (hx : p.tables.exec = Jvm.exec) (hb : c.code = cc) {a b : Int} (hd : decode cc pc = .ok (.isub, 1)) (k : ∀ z : Int, z = w32 (a - b) → iR z → W p l e R s m args below meth c H locs cells slots Q (F0 m (pc + 1) ls (.int (iI z) :: rest))) : W p l e R s m args below meth c H locs cells slots Q (F0 m pc ls (.int (iI b) :: .int (iI a) :: rest)) := r_isub hx hb hd rfl (by
  have h := k _ rfl (w32_R _)
  rw [show iI (w32 (a - b)) = iI (a - b) from iI_toI _] at h
  exact h)
theorem r_imulW (hx : p.tables.exec = Jvm.exec) (hb : c.code = cc) {a b : Int} (hd : decode cc pc = .ok (.imul, 1)) (k : ∀ z : Int, z = w32 (a * b) → iR z → W p l e R s m args below meth c H locs cells slots Q (F0 m (pc + 1) ls (.int (iI z) :: rest))) : W p l e R s m args below meth c H locs cells slots Q (F0 m pc ls (.int (iI b) :: .int (iI a) :: rest)) := r_imul hx hb hd rfl (by
  have h := k _ rfl (w32_R _)
  rw [show iI (w32 (a * b)) = iI (a * b) from iI_toI _] at h
  exact h)
theorem r_laddW (hx : p.tables.exec = Jvm.exec) (hb : c.code = cc) {a b : Int} (hd : decode cc pc = .ok (.ladd, 1)) (k : ∀ z : Int, z = w64 (a + b) → lR z → W p l e R s m args below meth c H locs cells slots Q (F0 m (pc + 1) ls (.long (lI z) :: rest))) : W p l e R s m args below meth c H locs cells slots Q (F0 m pc ls (.long (lI b) :: .long (lI a) :: rest)) := r_ladd hx hb hd rfl (by
  have h := k _ rfl (w64_R _)
  rw [show lI (w64 (a + b)) = lI (a + b) from lI_toI _] at h
  exact h)
theorem r_lmulW (hx : p.tables.exec = Jvm.exec) (hb : c.code = cc) {a b : Int} (hd : decode cc pc = .ok (.lmul, 1)) (k : ∀ z : Int, z = w64 (a * b) → lR z → W p l e R s m args below meth c H locs cells slots Q (F0 m (pc + 1) ls (.long (lI z) :: rest))) : W p l e R s m args below meth c H locs cells slots Q (F0 m pc ls (.long (lI b) :: .long (lI a) :: rest)) := r_lmul hx hb hd rfl (by
  have h := k _ rfl (w64_R _)
  rw [show lI (w64 (a * b)) = lI (a * b) from lI_toI _] at h
  exact h)
theorem r_inegW (hx : p.tables.exec = Jvm.exec) (hb : c.code = cc) {a : Int} (hd : decode cc pc = .ok (.ineg, 1)) (k : ∀ z : Int, z = w32 (-a) → iR z → W p l e R s m args below meth c H locs cells slots Q (F0 m (pc + 1) ls (.int (iI z) :: rest))) : W p l e R s m args below meth c H locs cells slots Q (F0 m pc ls (.int (iI a) :: rest)) := r_ineg hx hb hd rfl (by
  have h := k _ rfl (w32_R _)
  rw [show iI (w32 (-a)) = iI (-a) from iI_toI _] at h
  exact h)
theorem r_iandF (hx : p.tables.exec = Jvm.exec) (hb : c.code = cc) {a b : Int} (hd : decode cc pc = .ok (.iand, 1)) (k : ∀ z : Int, z = aI a b → iR z → W p l e R s m args below meth c H locs cells slots Q (F0 m (pc + 1) ls (.int (iI z) :: rest))) : W p l e R s m args below meth c H locs cells slots Q (F0 m pc ls (.int (iI b) :: .int (iI a) :: rest)) := r_iand hx hb hd (fun z h1 h2 => k z (by unfold aI; rw [h2, iI_toInt h1]) h1)
theorem r_iorF (hx : p.tables.exec = Jvm.exec) (hb : c.code = cc) {a b : Int} (hd : decode cc pc = .ok (.ior, 1)) (k : ∀ z : Int, z = oI a b → iR z → W p l e R s m args below meth c H locs cells slots Q (F0 m (pc + 1) ls (.int (iI z) :: rest))) : W p l e R s m args below meth c H locs cells slots Q (F0 m pc ls (.int (iI b) :: .int (iI a) :: rest)) := r_ior hx hb hd (fun z h1 h2 => k z (by unfold oI; rw [h2, iI_toInt h1]) h1)
theorem r_ixorF (hx : p.tables.exec = Jvm.exec) (hb : c.code = cc) {a b : Int} (hd : decode cc pc = .ok (.ixor, 1)) (k : ∀ z : Int, z = xI a b → iR z → W p l e R s m args below meth c H locs cells slots Q (F0 m (pc + 1) ls (.int (iI z) :: rest))) : W p l e R s m args below meth c H locs cells slots Q (F0 m pc ls (.int (iI b) :: .int (iI a) :: rest)) := r_ixor hx hb hd (fun z h1 h2 => k z (by unfold xI; rw [h2, iI_toInt h1]) h1)
theorem r_ishlF (hx : p.tables.exec = Jvm.exec) (hb : c.code = cc) {a b : Int} (hd : decode cc pc = .ok (.ishl, 1)) (k : ∀ z : Int, z = slI a b → iR z → W p l e R s m args below meth c H locs cells slots Q (F0 m (pc + 1) ls (.int (iI z) :: rest))) : W p l e R s m args below meth c H locs cells slots Q (F0 m pc ls (.int (iI b) :: .int (iI a) :: rest)) := r_ishl hx hb hd (fun z h1 h2 => k z (by unfold slI; rw [h2, iI_toInt h1]) h1)
theorem r_ishrF (hx : p.tables.exec = Jvm.exec) (hb : c.code = cc) {a b : Int} (hd : decode cc pc = .ok (.ishr, 1)) (k : ∀ z : Int, z = srI a b → iR z → W p l e R s m args below meth c H locs cells slots Q (F0 m (pc + 1) ls (.int (iI z) :: rest))) : W p l e R s m args below meth c H locs cells slots Q (F0 m pc ls (.int (iI b) :: .int (iI a) :: rest)) := r_ishr hx hb hd (fun z h1 h2 => k z (by unfold srI; rw [h2, iI_toInt h1]) h1)
theorem r_iushrF (hx : p.tables.exec = Jvm.exec) (hb : c.code = cc) {a b : Int} (hd : decode cc pc = .ok (.iushr, 1)) (k : ∀ z : Int, z = usI a b → iR z → W p l e R s m args below meth c H locs cells slots Q (F0 m (pc + 1) ls (.int (iI z) :: rest))) : W p l e R s m args below meth c H locs cells slots Q (F0 m pc ls (.int (iI b) :: .int (iI a) :: rest)) := r_iushr hx hb hd (fun z h1 h2 => k z (by unfold usI; rw [h2, iI_toInt h1]) h1)
theorem r_idivF (hx : p.tables.exec = Jvm.exec) (hb : c.code = cc) {a b : Int} (hd : decode cc pc = .ok (.idiv, 1)) (hn : iR b) (hz : ¬ b = 0) (k : ∀ z : Int, z = dvI a b → iR z → W p l e R s m args below meth c H locs cells slots Q (F0 m (pc + 1) ls (.int (iI z) :: rest))) : W p l e R s m args below meth c H locs cells slots Q (F0 m pc ls (.int (iI b) :: .int (iI a) :: rest)) := r_idiv hx hb hd hn hz (fun z h1 h2 => k z (by unfold dvI; rw [h2, iI_toInt h1]) h1)
theorem r_iremF (hx : p.tables.exec = Jvm.exec) (hb : c.code = cc) {a b : Int} (hd : decode cc pc = .ok (.irem, 1)) (hn : iR b) (hz : ¬ b = 0) (k : ∀ z : Int, z = rmI a b → iR z → W p l e R s m args below meth c H locs cells slots Q (F0 m (pc + 1) ls (.int (iI z) :: rest))) : W p l e R s m args below meth c H locs cells slots Q (F0 m pc ls (.int (iI b) :: .int (iI a) :: rest)) := r_irem hx hb hd hn hz (fun z h1 h2 => k z (by unfold rmI; rw [h2, iI_toInt h1]) h1)
theorem r_ldivF (hx : p.tables.exec = Jvm.exec) (hb : c.code = cc) {a b : Int} (hd : decode cc pc = .ok (.ldiv, 1)) (hn : lR b) (hz : ¬ b = 0) (k : ∀ z : Int, z = dvL a b → lR z → W p l e R s m args below meth c H locs cells slots Q (F0 m (pc + 1) ls (.long (lI z) :: rest))) : W p l e R s m args below meth c H locs cells slots Q (F0 m pc ls (.long (lI b) :: .long (lI a) :: rest)) := r_ldiv hx hb hd hn hz (fun z h1 h2 => k z (by unfold dvL; rw [h2, lI_toInt h1]) h1)
theorem r_lremF (hx : p.tables.exec = Jvm.exec) (hb : c.code = cc) {a b : Int} (hd : decode cc pc = .ok (.lrem, 1)) (hn : lR b) (hz : ¬ b = 0) (k : ∀ z : Int, z = rmL a b → lR z → W p l e R s m args below meth c H locs cells slots Q (F0 m (pc + 1) ls (.long (lI z) :: rest))) : W p l e R s m args below meth c H locs cells slots Q (F0 m pc ls (.long (lI b) :: .long (lI a) :: rest)) := r_lrem hx hb hd hn hz (fun z h1 h2 => k z (by unfold rmL; rw [h2, lI_toInt h1]) h1)
theorem r_i2bF (hx : p.tables.exec = Jvm.exec) (hb : c.code = cc) {a : Int} (hd : decode cc pc = .ok (.i2b, 1)) (k : ∀ z : Int, z = b8I a → iR z → W p l e R s m args below meth c H locs cells slots Q (F0 m (pc + 1) ls (.int (iI z) :: rest))) : W p l e R s m args below meth c H locs cells slots Q (F0 m pc ls (.int (iI a) :: rest)) := r_i2b hx hb hd (fun z h1 h2 => k z (by unfold b8I; rw [h2, iI_toInt h1]) h1)
theorem r_i2sF (hx : p.tables.exec = Jvm.exec) (hb : c.code = cc) {a : Int} (hd : decode cc pc = .ok (.i2s, 1)) (k : ∀ z : Int, z = s16I a → iR z → W p l e R s m args below meth c H locs cells slots Q (F0 m (pc + 1) ls (.int (iI z) :: rest))) : W p l e R s m args below meth c H locs cells slots Q (F0 m pc ls (.int (iI a) :: rest)) := r_i2s hx hb hd (fun z h1 h2 => k z (by unfold s16I; rw [h2, iI_toInt h1]) h1)
theorem c16_id {a : Int} (h0 : 0 ≤ a) (h1 : a < 65536) : ((iI a).toUInt32 % 65536).toInt32 = iI a := by
  obtain ⟨n, rfl⟩ := Int.eq_ofNat_of_zero_le h0
  have hn : n < 65536 := by omega
  apply Int32.toBitVec_inj.mp
  simp only [iI, UInt32.toBitVec_toInt32, UInt32.toBitVec_mod, Int32.toBitVec_toUInt32]
  apply BitVec.eq_of_toNat_eq
  simp [Int32.toBitVec_ofInt]
  omega
theorem r_i2c (hx : p.tables.exec = Jvm.exec) (hb : c.code = cc) {a : Int} (hd : decode cc pc = .ok (.i2c, 1)) (h0 : 0 ≤ a) (h1 : a < 65536) (k : W p l e R s m args below meth c H locs cells slots Q (F0 m (pc + 1) ls (.int (iI a) :: rest))) : W p l e R s m args below meth c H locs cells slots Q (F0 m pc ls (.int (iI a) :: rest)) := lv_i2c hx hb hd (c16_id h0 h1) k
theorem r_lkI (hx : p.tables.exec = Jvm.exec) (hb : c.code = cc) {dflt : Int} {ps : Array (Int × Int)} {len : Nat} {z off : Int} {tgt : Nat} (hd : decode cc pc = .ok (.lookupswitch dflt ps, len)) (hz : iR z) (hp : (ps.toList.zip (ps.toList.drop 1)).all (fun (a, next) => a.1 < next.1) = true) (ho : Op.lookupswitch.offset ps.toList dflt z = off) (ht : (pc : Int) + off = (tgt : Int)) (k : W p l e R s m args below meth c H locs cells slots Q (F0 m tgt ls rest)) : W p l e R s m args below meth c H locs cells slots Q (F0 m pc ls (.int (iI z) :: rest)) := lv_lookup hx hb hd hp (by rw [iI_toInt hz]; exact ho) ht k
theorem r_mmaxF (hx : p.tables.exec = Jvm.exec) (hb : c.code = cc) (hml : c.maxLocals = nL) (hC : cx D τ s m args own) (hl : ls.size = nL) (h1 : Cond.methodLink own index Lib.Math.max.name ∈ lw_good) (h2 : Cond.static Lib.Math.max.name ∈ lw_good) (h3 : Cond.initialized "java/lang/Math" ∈ lw_good) (h4 : Cond.code Lib.Math.max.name Lib.Math.max.code 2 (some .int) ∈ lw_good) (hfr : 1 ≤ R.frames) (hlo : (rest.map fun v => v.category).sum + 13 ≤ R.locals) (hcs : cells ≤ R.cells) (hss : slots ≤ R.slots) {x y : Int} (hrx : iR x) (hry : iR y) (hd : decode cc pc = .ok (.invokestatic index, 3)) (k : ∀ z : Int, z = max x y → iR z → W p l e R s m args below meth c H locs cells slots Q (F0 m (pc + 3) ls (.int (iI z) :: rest))) : W p l e R s m args below meth c H locs cells slots Q (F0 m pc ls (.int (iI y) :: .int (iI x) :: rest)) := r_mmax hx hb hml hC hl h1 h2 h3 h4 hfr hlo hcs hss hrx hry hd (fun z hz => k z (by omega) (by omega))
theorem r_mminF (hx : p.tables.exec = Jvm.exec) (hb : c.code = cc) (hml : c.maxLocals = nL) (hC : cx D τ s m args own) (hl : ls.size = nL) (h1 : Cond.methodLink own index Lib.Math.min.name ∈ lw_good) (h2 : Cond.static Lib.Math.min.name ∈ lw_good) (h3 : Cond.initialized "java/lang/Math" ∈ lw_good) (h4 : Cond.code Lib.Math.min.name Lib.Math.min.code 2 (some .int) ∈ lw_good) (hfr : 1 ≤ R.frames) (hlo : (rest.map fun v => v.category).sum + 13 ≤ R.locals) (hcs : cells ≤ R.cells) (hss : slots ≤ R.slots) {x y : Int} (hrx : iR x) (hry : iR y) (hd : decode cc pc = .ok (.invokestatic index, 3)) (k : ∀ z : Int, z = min x y → iR z → W p l e R s m args below meth c H locs cells slots Q (F0 m (pc + 3) ls (.int (iI z) :: rest))) : W p l e R s m args below meth c H locs cells slots Q (F0 m pc ls (.int (iI y) :: .int (iI x) :: rest)) := r_mmin hx hb hml hC hl h1 h2 h3 h4 hfr hlo hcs hss hrx hry hd (fun z hz => k z (by omega) (by omega))
end KB
/-! strings that are there, in no world -/
def soS (i : Nat) : String := ([RX5, RX12, RX12, RJ1, RX12, RX12, RX12, RX12, RX12] : List String).getD i ""
def siS (i : Nat) : Nat := ([79, 180, 205, 151, 241, 246, 248, 250, 377] : List Nat).getD i 0
def stS (i : Nat) : String := (["pgcwtim", ".c", "abcdef", "", "pgcwtim", "<>=", "+-", "*/", "ntpbx"] : List String).getD i ""
def ST (A : Nat → Prop) (U : State) (H : Heap) (sa sv : Nat) (bs : List Int) : Prop := va_O RJ0 sa A U H ∧ va_OF RJ0 "coder" "B" (.int 0) sa A U H ∧ va_OF RJ0 "value" "[B" (.ref sv) sa A U H ∧ va_T .byte sv bs.length (fun j => .int (iI (bs.getD j 0))) A U H ∧ (∀ b ∈ bs, 0 ≤ b ∧ b < 128) ∧ bs.length ≤ 100
theorem ST.moved {A : Nat → Prop} {u U : State} {H : Heap} {sa sv : Nat} {bs : List Int} (hvm : u.vm.Alike U.vm) (h : ST A u H sa sv bs) : ST A U H sa sv bs := ⟨h.1.moved hvm, h.2.1.moved hvm, h.2.2.1.moved hvm, h.2.2.2.1.moved hvm, h.2.2.2.2⟩
theorem ST.kept {A : Nat → Prop} {U : State} {H H1 : Heap} {sa sv : Nat} {bs : List Int} (h : ST A U H sa sv bs) (hq : ∀ a : Nat, a < H.size → ¬ A a → H1[a]? = H[a]?) : ST A U H1 sa sv bs := ⟨h.1.kept hq, h.2.1.kept hq, h.2.2.1.kept hq, h.2.2.2.1.kept hq, h.2.2.2.2⟩
theorem ST.narrow {A B : Nat → Prop} {U : State} {H : Heap} {sa sv : Nat} {bs : List Int} (h : ST A U H sa sv bs) (hAB : ∀ q, B q → A q) : ST B U H sa sv bs := ⟨h.1.narrow hAB, h.2.1.narrow hAB, h.2.2.1.narrow hAB, h.2.2.2.1.narrow hAB, h.2.2.2.2⟩
theorem ST.recv {A : Nat → Prop} {s : State} {H : Heap} {locs : List Loc} {sa sv : Nat} {bs : List Int} (h : ST A s s.heap sa sv bs) (hS : va_S A s.heap H locs) : ∃ cell : Cell, H[sa]? = some cell ∧ cell.vm.isStatics = false ∧ s.vm.findClass RJ0 = some cell.cls := by
  obtain ⟨cell, h1, h2, h3, -⟩ := h.1.kept hS.2.1
  exact ⟨cell, h1, h2, h3⟩
def LK (A : Nat → Prop) (U : State) (H : Heap) (sA sV : Nat → Nat) : Prop := (∀ i, i < 9 → vk_R (soS i) (siS i) (stS i) (sA i) U ∧ ST A U H (sA i) (sV i) (bS i)) ∧ va_Z RJ0 "COMPACT_STRINGS" "Z" (.int 1) A U H ∧ va_Zq RJ3 "SIOOBE_FORMATTER" "Ljava/util/function/BiFunction;" A U H
theorem LK.warm {A : Nat → Prop} {s U : State} {H : Heap} {sA sV : Nat → Nat} (hW : s.WarmedH U.vm) (h : LK A s H sA sV) : LK A U H sA sV := ⟨fun i hi => ⟨vk_R.warm hW (h.1 i hi).1, (h.1 i hi).2.moved hW.alike⟩, h.2.1.moved hW.alike, h.2.2.moved hW.alike⟩
theorem LK.same {A : Nat → Prop} {u U : State} {H : Heap} {sA sV : Nat → Nat} (hv : U.vm = u.vm) (h : LK A u H sA sV) : LK A U H sA sV :=
  have hq : u.vm.Alike U.vm := by rw [hv]; exact Vm.Alike.refl _
  ⟨fun i hi => ⟨vk_R.same hv (h.1 i hi).1, (h.1 i hi).2.moved hq⟩, h.2.1.moved hq, h.2.2.moved hq⟩
theorem LK.kept {A : Nat → Prop} {U : State} {H H1 : Heap} {sA sV : Nat → Nat} (h : LK A U H sA sV) (hq : ∀ a : Nat, a < H.size → ¬ A a → H1[a]? = H[a]?) : LK A U H1 sA sV := ⟨fun i hi => ⟨(h.1 i hi).1, (h.1 i hi).2.kept hq⟩, h.2.1.kept hq, h.2.2.kept hq⟩
theorem LK.narrow {A B : Nat → Prop} {U : State} {H : Heap} {sA sV : Nat → Nat} (h : LK A U H sA sV) (hAB : ∀ q, B q → A q) : LK B U H sA sV := ⟨fun i hi => ⟨(h.1 i hi).1, (h.1 i hi).2.narrow hAB⟩, h.2.1.narrow hAB, h.2.2.narrow hAB⟩
theorem LK.str_0 {A : Nat → Prop} {U : State} {H : Heap} {sA sV : Nat → Nat} (h : LK A U H sA sV) : vk_R RX5 79 "pgcwtim" (sA 0) U := (h.1 0 (by decide)).1
theorem LK.str_1 {A : Nat → Prop} {U : State} {H : Heap} {sA sV : Nat → Nat} (h : LK A U H sA sV) : vk_R RX12 180 ".c" (sA 1) U := (h.1 1 (by decide)).1
theorem LK.str_2 {A : Nat → Prop} {U : State} {H : Heap} {sA sV : Nat → Nat} (h : LK A U H sA sV) : vk_R RX12 205 "abcdef" (sA 2) U := (h.1 2 (by decide)).1
theorem LK.str_4 {A : Nat → Prop} {U : State} {H : Heap} {sA sV : Nat → Nat} (h : LK A U H sA sV) : vk_R RX12 241 "pgcwtim" (sA 4) U := (h.1 4 (by decide)).1
theorem LK.str_5 {A : Nat → Prop} {U : State} {H : Heap} {sA sV : Nat → Nat} (h : LK A U H sA sV) : vk_R RX12 246 "<>=" (sA 5) U := (h.1 5 (by decide)).1
theorem LK.str_6 {A : Nat → Prop} {U : State} {H : Heap} {sA sV : Nat → Nat} (h : LK A U H sA sV) : vk_R RX12 248 "+-" (sA 6) U := (h.1 6 (by decide)).1
theorem LK.str_7 {A : Nat → Prop} {U : State} {H : Heap} {sA sV : Nat → Nat} (h : LK A U H sA sV) : vk_R RX12 250 "*/" (sA 7) U := (h.1 7 (by decide)).1
theorem LK.str_8 {A : Nat → Prop} {U : State} {H : Heap} {sA sV : Nat → Nat} (h : LK A U H sA sV) : vk_R RX12 377 "ntpbx" (sA 8) U := (h.1 8 (by decide)).1
def kPre (D : va_G) (τ : Nat → ClassId) (sA sV : Nat → Nat) (wc : va_W) (sz : Nat) : State → Prop := fun U => gPre D τ wc sz U ∧ LK (va_A wc sz) U U.heap sA sV
abbrev kPc (D : va_G) (τ : Nat → ClassId) (sA sV : Nat → Nat) (wc : va_W) (sz : Nat) (As : List Value) : Array Value → State → Prop := va_Pc As (kPre D τ sA sV wc sz)
theorem kPc_blind {D : va_G} {τ : Nat → ClassId} {wc : va_W} {sz : Nat} {sA sV : Nat → Nat} {As : List Value} : FrameBlind (kPc D τ sA sV wc sz As) := fun a U g mk q => by
  obtain ⟨q0, q1, q2⟩ := q
  exact ⟨q0, (gPc_blind (As := As) a U g mk ⟨q0, q1⟩).2, LK.same (u := U) (U := U.calling g mk a) rfl q2⟩
def tPre (D : va_G) (τ : Nat → ClassId) (sA sV : Nat → Nat) (wc : va_W) (sz sa sv : Nat) (bs : List Int) : State → Prop := fun U => kPre D τ sA sV wc sz U ∧ ST (va_A wc sz) U U.heap sa sv bs
abbrev tPc (D : va_G) (τ : Nat → ClassId) (sA sV : Nat → Nat) (wc : va_W) (sz sa sv : Nat) (bs : List Int) (As : List Value) : Array Value → State → Prop := va_Pc As (tPre D τ sA sV wc sz sa sv bs)
theorem tPc_blind {D : va_G} {τ : Nat → ClassId} {wc : va_W} {sz sa sv : Nat} {bs : List Int} {sA sV : Nat → Nat} {As : List Value} : FrameBlind (tPc D τ sA sV wc sz sa sv bs As) := fun a U g mk q => by
  obtain ⟨q0, q1, q2⟩ := q
  exact ⟨q0, (kPc_blind (As := As) a U g mk ⟨q0, q1⟩).2, ST.moved (u := U) (U := U.calling g mk a) (Vm.Alike.refl U.vm) q2⟩
theorem k_met {l : Launch} {y : MethodName} {b : ByteArray} {mL k mc ms sz : Nat} {ret : Option FieldType} {D : va_G} {τ : Nat → ClassId} {sA sV : Nat → Nat} {wc : va_W} {As : List Value} {Qc : (Nat → Prop) → Array Value → State → Outcome → State → Prop} (hpl : plainName y.cls = true) (hn : (lg_sl As).length ≤ mL)
    (body : ∀ (p : Program) (e : Env) (s : State) (m : MethodId) (args : Array Value) (below : List Frame) (meth : Method) (c : Code) (A : Nat → Prop) (ls : Array Slot), p.tables.exec = Jvm.exec → c.code = b → c.maxLocals = mL → meth.sig.returnType = ret → meth.locks = false → meth.name = y.name → cx D τ s m args y.cls → LK A s s.heap sA sV → (∀ q : Nat, s.heap.size ≤ q → A q) → wS D A s.heap wc s.heap [] → lv_has ls mL (lv_args 0 As) →
      W p l e (rmk k mc ms) s m args below meth c s.heap [] 0 0 (MQ below (Qc A) args s mc ms A) (F0 m 0 ls [])) :
    Met l y (lw_w y b mL ret) (rmk k mc ms) (kPc D τ sA sV wc sz As) (Qc (va_A wc sz)) mc ms (va_A wc sz) := by
  refine Met.ofW (cc := b) (maxL := mL) (ret := ret) hpl rfl ?_
  intro p e s m args below meth c s₁ B hml hv
  obtain ⟨rfl, ⟨hsz, hP, hK, hD0⟩, hLS⟩ := hv
  have hts := atoms_spec (ws := lw_w y b mL ret) B.pre
  have hown : s.vm.findClass y.cls = some m.cls := findClass_of_methodNamed B.named
  subst hsz
  have hl := lv_entry As (n := mL) hn
  rw [lg_entry_eq]
  exact body p e s m _ below meth c (va_A wc s.heap.size) _ B.exec B.bytes hml B.returns B.notSynchronized (name_of_methodNamed B.named B.method).1 ⟨fun w hw => hts w (List.mem_cons_of_mem _ hw), hown, hK.1, hK.2⟩ hLS (fun q h => Or.inr h) ⟨hP, hD0.self, va_S.rf⟩ hl
theorem k_metF {l : Launch} {y : MethodName} {b : ByteArray} {mL k mc ms sz : Nat} {ret : Option FieldType} {D : va_G} {τ : Nat → ClassId} {sA sV : Nat → Nat} {wc : va_W} {As : List Value} {Qc : (Nat → Prop) → Array Value → State → Outcome → State → Prop} (hpl : plainFor y = true) (hn : (lg_sl As).length ≤ mL)
    (body : ∀ (p : Program) (e : Env) (s : State) (m : MethodId) (args : Array Value) (below : List Frame) (meth : Method) (c : Code) (A : Nat → Prop) (ls : Array Slot), p.tables.exec = Jvm.exec → c.code = b → c.maxLocals = mL → meth.sig.returnType = ret → meth.locks = false → meth.name = y.name → cx D τ s m args y.cls → LK A s s.heap sA sV → (∀ q : Nat, s.heap.size ≤ q → A q) → wS D A s.heap wc s.heap [] → lv_has ls mL (lv_args 0 As) →
      W p l e (rmk k mc ms) s m args below meth c s.heap [] 0 0 (MQ below (Qc A) args s mc ms A) (F0 m 0 ls [])) :
    Met l y (lw_w y b mL ret) (rmk k mc ms) (kPc D τ sA sV wc sz As) (Qc (va_A wc sz)) mc ms (va_A wc sz) := by
  refine va_MetF (cc := b) (maxL := mL) (ret := ret) hpl rfl ?_
  intro p e s m args below meth c s₁ B hml hv
  obtain ⟨rfl, ⟨hsz, hP, hK, hD0⟩, hLS⟩ := hv
  have hts := atoms_spec (ws := lw_w y b mL ret) B.pre
  have hown : s.vm.findClass y.cls = some m.cls := findClass_of_methodNamed B.named
  subst hsz
  have hl := lv_entry As (n := mL) hn
  rw [lg_entry_eq]
  exact body p e s m _ below meth c (va_A wc s.heap.size) _ B.exec B.bytes hml B.returns B.notSynchronized (name_of_methodNamed B.named B.method).1 ⟨fun w hw => hts w (List.mem_cons_of_mem _ hw), hown, hK.1, hK.2⟩ hLS (fun q h => Or.inr h) ⟨hP, hD0.self, va_S.rf⟩ hl
theorem t_met {l : Launch} {y : MethodName} {b : ByteArray} {mL k mc ms sz : Nat} {sa sv : Nat} {bs : List Int} {ret : Option FieldType} {D : va_G} {τ : Nat → ClassId} {sA sV : Nat → Nat} {wc : va_W} {As : List Value} {Qc : (Nat → Prop) → Array Value → State → Outcome → State → Prop} (hpl : plainName y.cls = true) (hn : (lg_sl As).length ≤ mL)
    (body : ∀ (p : Program) (e : Env) (s : State) (m : MethodId) (args : Array Value) (below : List Frame) (meth : Method) (c : Code) (A : Nat → Prop) (ls : Array Slot), p.tables.exec = Jvm.exec → c.code = b → c.maxLocals = mL → meth.sig.returnType = ret → meth.locks = false → meth.name = y.name → cx D τ s m args y.cls → LK A s s.heap sA sV → ST A s s.heap sa sv bs → (∀ q : Nat, s.heap.size ≤ q → A q) → wS D A s.heap wc s.heap [] → lv_has ls mL (lv_args 0 As) →
      W p l e (rmk k mc ms) s m args below meth c s.heap [] 0 0 (MQ below (Qc A) args s mc ms A) (F0 m 0 ls [])) :
    Met l y (lw_w y b mL ret) (rmk k mc ms) (tPc D τ sA sV wc sz sa sv bs As) (Qc (va_A wc sz)) mc ms (va_A wc sz) := by
  refine Met.ofW (cc := b) (maxL := mL) (ret := ret) hpl rfl ?_
  intro p e s m args below meth c s₁ B hml hv
  obtain ⟨rfl, ⟨⟨hsz, hP, hK, hD0⟩, hLS⟩, hST⟩ := hv
  have hts := atoms_spec (ws := lw_w y b mL ret) B.pre
  have hown : s.vm.findClass y.cls = some m.cls := findClass_of_methodNamed B.named
  subst hsz
  have hl := lv_entry As (n := mL) hn
  rw [lg_entry_eq]
  exact body p e s m _ below meth c (va_A wc s.heap.size) _ B.exec B.bytes hml B.returns B.notSynchronized (name_of_methodNamed B.named B.method).1 ⟨fun w hw => hts w (List.mem_cons_of_mem _ hw), hown, hK.1, hK.2⟩ hLS hST (fun q h => Or.inr h) ⟨hP, hD0.self, va_S.rf⟩ hl
def EQi (Wf : Mem → va_W) (Rf : Mem → Prop) (Q : Int → Mem → Prop) : Int → va_W → Prop := fun z w => ∃ M : Mem, Rf M ∧ Q z M ∧ w = Wf M
def EQz (Wf : Mem → va_W) (Rf : Mem → Prop) (Q : Int → Mem → Prop) : Int → va_W → Prop := fun z w => (z = 0 ∨ z = 1) ∧ ∃ M : Mem, Rf M ∧ Q z M ∧ w = Wf M
def EQv (Wf : Mem → va_W) (Rf : Mem → Prop) (Q : Mem → Prop) : va_W → Prop := fun w => ∃ M : Mem, Rf M ∧ Q M ∧ w = Wf M
theorem rm_ok {lev k mL mc ms : Nat} (h : lev + 1 ≤ k) (hm : mL ≤ 45) : lev + 1 ≤ (rmk k mc ms).frames ∧ 8 + (mL + 11) + 64 * lev ≤ (rmk k mc ms).locals := ⟨h, by show _ ≤ 64 * k; omega⟩
/-- a world that is handed over whole -/
def WQ (Wf : Mem → va_W) : Prop := ∃ N : Nat, (∀ M, (Wf M).length = N) ∧ va_nd (List.range N) = true
theorem pick_all (l : va_W) : (List.range l.length).map (fun i => l[i]?) = l.map some := by
  apply List.ext_getElem?
  intro i
  simp only [List.getElem?_map]
  by_cases h : i < l.length
  · simp [h]
  · simp [Nat.le_of_not_lt h]
section KC
variable {p : Program} {l : Launch} {e : Env} {R : Room} {s : State} {m : MethodId} {args : Array Value} {below : List Frame} {meth : Method} {c : Code} {H : Heap} {locs : List Loc} {cells slots : Nat} {Q : State → Prop}
variable {cc : ByteArray} {pc : Nat} {ls : Array Slot} {rest st0 : List Value} {D : va_G} {A : Nat → Prop} {a : Nat} {ws wc wr : va_W} {H0 : Heap} {τ : Nat → ClassId} {own : String} {sA sV : Nat → Nat}
variable {y : MethodName} {b : ByteArray} {mL n lev mc ms index nL cells' slots' : Nat} {ret : Option FieldType} {As : List Value} {Wf : Mem → va_W} {Rf : Mem → Prop} {M0 : Mem}
theorem k_pre {isC : List Nat} {H0 : Heap} (hH : H0 = s.heap) (hC' : cx D τ s m args own) (hA : ∀ q, H0.size ≤ q → A q) (hLS : LK A s s.heap sA sV) (hw : wS D A H0 ws H locs) (hC : isC.map (fun i => ws[i]?) = wc.map some) (hn : va_nd isC = true) {Bs : List Value} : ∀ U : State, U.heap = H → s.WarmedH U.vm → kPc D τ sA sV wc H.size Bs Bs.toArray U := fun U hU hW => by
  subst hH
  have hF := va_free hw.2.1 hw.2.2 hA isC hC
  exact ⟨rfl, (g_pre hC' hw hC hn (Bs := Bs) U hU hW).2, by rw [hU]; exact ((hLS.kept hw.2.2.2.1).warm hW).narrow hF⟩
theorem t_pre {isC : List Nat} {H0 : Heap} {sa sv : Nat} {bs : List Int} (hH : H0 = s.heap) (hC' : cx D τ s m args own) (hA : ∀ q, H0.size ≤ q → A q) (hLS : LK A s s.heap sA sV) (hw : wS D A H0 ws H locs) (hC : isC.map (fun i => ws[i]?) = wc.map some) (hn : va_nd isC = true) (hST : ST (va_A wc H.size) s H sa sv bs) {Bs : List Value} : ∀ U : State, U.heap = H → s.WarmedH U.vm → tPc D τ sA sV wc H.size sa sv bs Bs Bs.toArray U := fun U hU hW =>
  ⟨rfl, (k_pre hH hC' hA hLS hw hC hn (Bs := Bs) U hU hW).2, by rw [hU]; exact hST.moved hW.alike⟩
theorem j_cVi (hx : p.tables.exec = Jvm.exec) (hb : c.code = cc) (hml : c.maxLocals = nL) (hC : cx D τ s m args own) (hLS : LK A s s.heap sA sV) (hA : ∀ q, s.heap.size ≤ q → A q) (hw : wS D A s.heap ws H locs) (hl : ls.size = nL) {Q1 : Int → Mem → Prop} (M : Met l y (lw_w y b mL ret) (rmk lev mc ms) (kPc D τ sA sV (Wf M0) H.size (.ref a :: As)) (gQi D (EQi Wf Rf Q1) (va_A (Wf M0) H.size)) mc ms (va_A (Wf M0) H.size)) (K : KV y b mL ret n) (hlk : Cond.methodLink own index y ∈ lw_good) (isC isR : List Nat) (hCm : isC.map (fun i => ws[i]?) = (Wf M0).map some) (hRm : isR.map (fun i => ws[i]?) = wr.map some) (hnC : va_nd isC = true) (hnR : va_nd isR = true) (hdis : ∀ i ∈ isR, i ∉ isC) {q0 ci : Nat} {fs : List Value} {T : u_T} {N : Nat} (hci : vwCl[ci]? = some (y.cls, T, N)) (hq0 : (Wf M0)[q0]? = some (a, .inr (ci, fs))) (hst : st0 = As.reverse ++ .ref a :: rest) (hn : As.length = n) (hcat : (rest.map fun v => v.category).sum ≤ 8) (hroom : lev + 1 ≤ R.frames ∧ 8 + (mL + 11) + 64 * lev ≤ R.locals) (hcs : cells + mc ≤ R.cells ∧ slots + ms ≤ R.slots) (hc2 : cells + mc = cells') (hs2 : slots + ms = slots') (hd : decode cc pc = .ok (.invokevirtual index, 3))
    (kk : ∀ (z : Int) (M : Mem) (H : Heap) (locs : List Loc), iR z → Rf M → Q1 z M → wS D A s.heap (wr ++ Wf M) H locs → W p l e R s m args below meth c H locs cells' slots' Q (F0 m (pc + 3) ls (.int (iI z) :: rest))) : W p l e R s m args below meth c H locs cells slots Q (F0 m pc ls st0) := by
  have hF := va_free hw.2.1 hw.2.2 hA isC hCm
  refine va_calli (va_runV ⟨hx, hb, hml, hC.2.1, hC.1⟩ M (cwV n hC.1 (g_wsV K hlk) rfl rfl rfl ⟨rfl, K.2.2.2⟩ hroom) ⟨kPc_blind, va_recv hC.2.2.1 (P_pick hw.1 hCm) hci hq0, k_pre rfl hC hA hLS hw hCm hnC⟩ rfl hn hl hst (lv_room hcat) hd hcs) hw.2.2 (fun q _ h => hF q h) hF (fun r u t H1 locs1 ht hvm hp hB hsz hk1 hS => ?_)
  obtain ⟨z, hz, e1, hB⟩ := hB
  obtain ⟨w1, ⟨M1, hR1, hQ1, rfl⟩, h1⟩ := g_behind hw hA hCm hRm hnR hdis ht hk1 hS hB
  subst hc2
  subst hs2
  rw [hp, e1]
  exact kk z M1 H1 locs1 hz hR1 hQ1 h1
theorem k_cVi (hWQ : WQ Wf) (hx : p.tables.exec = Jvm.exec) (hb : c.code = cc) (hml : c.maxLocals = nL) (hC : cx D τ s m args own) (hLS : LK A s s.heap sA sV) (hA : ∀ q, s.heap.size ≤ q → A q) (hw : wS D A s.heap (Wf M0) H locs) (hl : ls.size = nL) {Q1 : Int → Mem → Prop} (M : Met l y (lw_w y b mL ret) (rmk lev 0 0) (kPc D τ sA sV (Wf M0) H.size (.ref a :: As)) (gQi D (EQi Wf Rf Q1) (va_A (Wf M0) H.size)) 0 0 (va_A (Wf M0) H.size)) (K : KV y b mL ret n) (hlk : Cond.methodLink own index y ∈ lw_good) {q0 ci : Nat} {fs : List Value} {T : u_T} {N : Nat} (hci : vwCl[ci]? = some (y.cls, T, N)) (hq0 : (Wf M0)[q0]? = some (a, .inr (ci, fs))) (hst : st0 = As.reverse ++ .ref a :: rest) (hn : As.length = n) (hcat : (rest.map fun v => v.category).sum ≤ 8) (hroom : lev + 1 ≤ R.frames ∧ 8 + (mL + 11) + 64 * lev ≤ R.locals) (hcs : cells ≤ R.cells ∧ slots ≤ R.slots) (hd : decode cc pc = .ok (.invokevirtual index, 3))
    (kk : ∀ (z : Int) (M : Mem) (H : Heap) (locs : List Loc), iR z → Rf M → Q1 z M → wS D A s.heap (Wf M) H locs → W p l e R s m args below meth c H locs cells slots Q (F0 m (pc + 3) ls (.int (iI z) :: rest))) : W p l e R s m args below meth c H locs cells slots Q (F0 m pc ls st0) := by
  obtain ⟨N, hN, hnd⟩ := hWQ
  have hp := pick_all (Wf M0)
  rw [hN] at hp
  exact j_cVi hx hb hml hC hLS hA hw hl (wr := []) M K hlk (List.range N) [] hp rfl hnd rfl (fun i h => absurd h List.not_mem_nil) hci hq0 hst hn hcat hroom hcs rfl rfl hd kk
theorem j_cVz (hx : p.tables.exec = Jvm.exec) (hb : c.code = cc) (hml : c.maxLocals = nL) (hC : cx D τ s m args own) (hLS : LK A s s.heap sA sV) (hA : ∀ q, s.heap.size ≤ q → A q) (hw : wS D A s.heap ws H locs) (hl : ls.size = nL) {Q1 : Int → Mem → Prop} (M : Met l y (lw_w y b mL ret) (rmk lev mc ms) (kPc D τ sA sV (Wf M0) H.size (.ref a :: As)) (gQi D (EQz Wf Rf Q1) (va_A (Wf M0) H.size)) mc ms (va_A (Wf M0) H.size)) (K : KV y b mL ret n) (hlk : Cond.methodLink own index y ∈ lw_good) (isC isR : List Nat) (hCm : isC.map (fun i => ws[i]?) = (Wf M0).map some) (hRm : isR.map (fun i => ws[i]?) = wr.map some) (hnC : va_nd isC = true) (hnR : va_nd isR = true) (hdis : ∀ i ∈ isR, i ∉ isC) {q0 ci : Nat} {fs : List Value} {T : u_T} {N : Nat} (hci : vwCl[ci]? = some (y.cls, T, N)) (hq0 : (Wf M0)[q0]? = some (a, .inr (ci, fs))) (hst : st0 = As.reverse ++ .ref a :: rest) (hn : As.length = n) (hcat : (rest.map fun v => v.category).sum ≤ 8) (hroom : lev + 1 ≤ R.frames ∧ 8 + (mL + 11) + 64 * lev ≤ R.locals) (hcs : cells + mc ≤ R.cells ∧ slots + ms ≤ R.slots) (hc2 : cells + mc = cells') (hs2 : slots + ms = slots') (hd : decode cc pc = .ok (.invokevirtual index, 3))
    (kk : ∀ (z : Int) (M : Mem) (H : Heap) (locs : List Loc), iR z → (z = 0 ∨ z = 1) → Rf M → Q1 z M → wS D A s.heap (wr ++ Wf M) H locs → W p l e R s m args below meth c H locs cells' slots' Q (F0 m (pc + 3) ls (.int (iI z) :: rest))) : W p l e R s m args below meth c H locs cells slots Q (F0 m pc ls st0) := by
  have hF := va_free hw.2.1 hw.2.2 hA isC hCm
  refine va_calli (va_runV ⟨hx, hb, hml, hC.2.1, hC.1⟩ M (cwV n hC.1 (g_wsV K hlk) rfl rfl rfl ⟨rfl, K.2.2.2⟩ hroom) ⟨kPc_blind, va_recv hC.2.2.1 (P_pick hw.1 hCm) hci hq0, k_pre rfl hC hA hLS hw hCm hnC⟩ rfl hn hl hst (lv_room hcat) hd hcs) hw.2.2 (fun q _ h => hF q h) hF (fun r u t H1 locs1 ht hvm hp hB hsz hk1 hS => ?_)
  obtain ⟨z, hz, e1, hB⟩ := hB
  obtain ⟨w1, ⟨h01, M1, hR1, hQ1, rfl⟩, h1⟩ := g_behind hw hA hCm hRm hnR hdis ht hk1 hS hB
  subst hc2
  subst hs2
  rw [hp, e1]
  exact kk z M1 H1 locs1 hz h01 hR1 hQ1 h1
theorem k_cVz (hWQ : WQ Wf) (hx : p.tables.exec = Jvm.exec) (hb : c.code = cc) (hml : c.maxLocals = nL) (hC : cx D τ s m args own) (hLS : LK A s s.heap sA sV) (hA : ∀ q, s.heap.size ≤ q → A q) (hw : wS D A s.heap (Wf M0) H locs) (hl : ls.size = nL) {Q1 : Int → Mem → Prop} (M : Met l y (lw_w y b mL ret) (rmk lev 0 0) (kPc D τ sA sV (Wf M0) H.size (.ref a :: As)) (gQi D (EQz Wf Rf Q1) (va_A (Wf M0) H.size)) 0 0 (va_A (Wf M0) H.size)) (K : KV y b mL ret n) (hlk : Cond.methodLink own index y ∈ lw_good) {q0 ci : Nat} {fs : List Value} {T : u_T} {N : Nat} (hci : vwCl[ci]? = some (y.cls, T, N)) (hq0 : (Wf M0)[q0]? = some (a, .inr (ci, fs))) (hst : st0 = As.reverse ++ .ref a :: rest) (hn : As.length = n) (hcat : (rest.map fun v => v.category).sum ≤ 8) (hroom : lev + 1 ≤ R.frames ∧ 8 + (mL + 11) + 64 * lev ≤ R.locals) (hcs : cells ≤ R.cells ∧ slots ≤ R.slots) (hd : decode cc pc = .ok (.invokevirtual index, 3))
    (kk : ∀ (z : Int) (M : Mem) (H : Heap) (locs : List Loc), iR z → (z = 0 ∨ z = 1) → Rf M → Q1 z M → wS D A s.heap (Wf M) H locs → W p l e R s m args below meth c H locs cells slots Q (F0 m (pc + 3) ls (.int (iI z) :: rest))) : W p l e R s m args below meth c H locs cells slots Q (F0 m pc ls st0) := by
  obtain ⟨N, hN, hnd⟩ := hWQ
  have hp := pick_all (Wf M0)
  rw [hN] at hp
  exact j_cVz hx hb hml hC hLS hA hw hl (wr := []) M K hlk (List.range N) [] hp rfl hnd rfl (fun i h => absurd h List.not_mem_nil) hci hq0 hst hn hcat hroom hcs rfl rfl hd kk
theorem j_cVl (hx : p.tables.exec = Jvm.exec) (hb : c.code = cc) (hml : c.maxLocals = nL) (hC : cx D τ s m args own) (hLS : LK A s s.heap sA sV) (hA : ∀ q, s.heap.size ≤ q → A q) (hw : wS D A s.heap ws H locs) (hl : ls.size = nL) {Q1 : Int → Mem → Prop} (M : Met l y (lw_w y b mL ret) (rmk lev mc ms) (kPc D τ sA sV (Wf M0) H.size (.ref a :: As)) (gQl D (EQi Wf Rf Q1) (va_A (Wf M0) H.size)) mc ms (va_A (Wf M0) H.size)) (K : KV y b mL ret n) (hlk : Cond.methodLink own index y ∈ lw_good) (isC isR : List Nat) (hCm : isC.map (fun i => ws[i]?) = (Wf M0).map some) (hRm : isR.map (fun i => ws[i]?) = wr.map some) (hnC : va_nd isC = true) (hnR : va_nd isR = true) (hdis : ∀ i ∈ isR, i ∉ isC) {q0 ci : Nat} {fs : List Value} {T : u_T} {N : Nat} (hci : vwCl[ci]? = some (y.cls, T, N)) (hq0 : (Wf M0)[q0]? = some (a, .inr (ci, fs))) (hst : st0 = As.reverse ++ .ref a :: rest) (hn : As.length = n) (hcat : (rest.map fun v => v.category).sum ≤ 8) (hroom : lev + 1 ≤ R.frames ∧ 8 + (mL + 11) + 64 * lev ≤ R.locals) (hcs : cells + mc ≤ R.cells ∧ slots + ms ≤ R.slots) (hc2 : cells + mc = cells') (hs2 : slots + ms = slots') (hd : decode cc pc = .ok (.invokevirtual index, 3))
    (kk : ∀ (z : Int) (M : Mem) (H : Heap) (locs : List Loc), lR z → Rf M → Q1 z M → wS D A s.heap (wr ++ Wf M) H locs → W p l e R s m args below meth c H locs cells' slots' Q (F0 m (pc + 3) ls (.long (lI z) :: rest))) : W p l e R s m args below meth c H locs cells slots Q (F0 m pc ls st0) := by
  have hF := va_free hw.2.1 hw.2.2 hA isC hCm
  refine va_calll (va_runV ⟨hx, hb, hml, hC.2.1, hC.1⟩ M (cwV n hC.1 (g_wsV K hlk) rfl rfl rfl ⟨rfl, K.2.2.2⟩ hroom) ⟨kPc_blind, va_recv hC.2.2.1 (P_pick hw.1 hCm) hci hq0, k_pre rfl hC hA hLS hw hCm hnC⟩ rfl hn hl hst (lv_room hcat) hd hcs) hw.2.2 (fun q _ h => hF q h) hF (fun r u t H1 locs1 ht hvm hp hB hsz hk1 hS => ?_)
  obtain ⟨z, hz, e1, hB⟩ := hB
  obtain ⟨w1, ⟨M1, hR1, hQ1, rfl⟩, h1⟩ := g_behind hw hA hCm hRm hnR hdis ht hk1 hS hB
  subst hc2
  subst hs2
  rw [hp, e1]
  exact kk z M1 H1 locs1 hz hR1 hQ1 h1
theorem j_cVv (hx : p.tables.exec = Jvm.exec) (hb : c.code = cc) (hml : c.maxLocals = nL) (hC : cx D τ s m args own) (hLS : LK A s s.heap sA sV) (hA : ∀ q, s.heap.size ≤ q → A q) (hw : wS D A s.heap ws H locs) (hl : ls.size = nL) {Q1 : Mem → Prop} (M : Met l y (lw_w y b mL ret) (rmk lev mc ms) (kPc D τ sA sV (Wf M0) H.size (.ref a :: As)) (gQv D (EQv Wf Rf Q1) (va_A (Wf M0) H.size)) mc ms (va_A (Wf M0) H.size)) (K : KV y b mL ret n) (hlk : Cond.methodLink own index y ∈ lw_good) (isC isR : List Nat) (hCm : isC.map (fun i => ws[i]?) = (Wf M0).map some) (hRm : isR.map (fun i => ws[i]?) = wr.map some) (hnC : va_nd isC = true) (hnR : va_nd isR = true) (hdis : ∀ i ∈ isR, i ∉ isC) {q0 ci : Nat} {fs : List Value} {T : u_T} {N : Nat} (hci : vwCl[ci]? = some (y.cls, T, N)) (hq0 : (Wf M0)[q0]? = some (a, .inr (ci, fs))) (hst : st0 = As.reverse ++ .ref a :: rest) (hn : As.length = n) (hcat : (rest.map fun v => v.category).sum ≤ 8) (hroom : lev + 1 ≤ R.frames ∧ 8 + (mL + 11) + 64 * lev ≤ R.locals) (hcs : cells + mc ≤ R.cells ∧ slots + ms ≤ R.slots) (hc2 : cells + mc = cells') (hs2 : slots + ms = slots') (hd : decode cc pc = .ok (.invokevirtual index, 3))
    (kk : ∀ (M : Mem) (H : Heap) (locs : List Loc), Rf M → Q1 M → wS D A s.heap (wr ++ Wf M) H locs → W p l e R s m args below meth c H locs cells' slots' Q (F0 m (pc + 3) ls rest)) : W p l e R s m args below meth c H locs cells slots Q (F0 m pc ls st0) := by
  have hF := va_free hw.2.1 hw.2.2 hA isC hCm
  refine va_callv (va_runV ⟨hx, hb, hml, hC.2.1, hC.1⟩ M (cwV n hC.1 (g_wsV K hlk) rfl rfl rfl ⟨rfl, K.2.2.2⟩ hroom) ⟨kPc_blind, va_recv hC.2.2.1 (P_pick hw.1 hCm) hci hq0, k_pre rfl hC hA hLS hw hCm hnC⟩ rfl hn hl hst (lv_room hcat) hd hcs) hw.2.2 (fun q _ h => hF q h) hF (fun u t H1 locs1 ht hvm hp hB hsz hk1 hS => ?_)
  obtain ⟨w1, ⟨M1, hR1, hQ1, rfl⟩, h1⟩ := g_behind hw hA hCm hRm hnR hdis ht hk1 hS hB
  subst hc2
  subst hs2
  exact kk M1 H1 locs1 hR1 hQ1 h1
theorem k_cVv (hWQ : WQ Wf) (hx : p.tables.exec = Jvm.exec) (hb : c.code = cc) (hml : c.maxLocals = nL) (hC : cx D τ s m args own) (hLS : LK A s s.heap sA sV) (hA : ∀ q, s.heap.size ≤ q → A q) (hw : wS D A s.heap (Wf M0) H locs) (hl : ls.size = nL) {Q1 : Mem → Prop} (M : Met l y (lw_w y b mL ret) (rmk lev 0 0) (kPc D τ sA sV (Wf M0) H.size (.ref a :: As)) (gQv D (EQv Wf Rf Q1) (va_A (Wf M0) H.size)) 0 0 (va_A (Wf M0) H.size)) (K : KV y b mL ret n) (hlk : Cond.methodLink own index y ∈ lw_good) {q0 ci : Nat} {fs : List Value} {T : u_T} {N : Nat} (hci : vwCl[ci]? = some (y.cls, T, N)) (hq0 : (Wf M0)[q0]? = some (a, .inr (ci, fs))) (hst : st0 = As.reverse ++ .ref a :: rest) (hn : As.length = n) (hcat : (rest.map fun v => v.category).sum ≤ 8) (hroom : lev + 1 ≤ R.frames ∧ 8 + (mL + 11) + 64 * lev ≤ R.locals) (hcs : cells ≤ R.cells ∧ slots ≤ R.slots) (hd : decode cc pc = .ok (.invokevirtual index, 3))
    (kk : ∀ (M : Mem) (H : Heap) (locs : List Loc), Rf M → Q1 M → wS D A s.heap (Wf M) H locs → W p l e R s m args below meth c H locs cells slots Q (F0 m (pc + 3) ls rest)) : W p l e R s m args below meth c H locs cells slots Q (F0 m pc ls st0) := by
  obtain ⟨N, hN, hnd⟩ := hWQ
  have hp := pick_all (Wf M0)
  rw [hN] at hp
  exact j_cVv hx hb hml hC hLS hA hw hl (wr := []) M K hlk (List.range N) [] hp rfl hnd rfl (fun i h => absurd h List.not_mem_nil) hci hq0 hst hn hcat hroom hcs rfl rfl hd kk
theorem j_cSi (hx : p.tables.exec = Jvm.exec) (hb : c.code = cc) (hml : c.maxLocals = nL) (hC : cx D τ s m args own) (hLS : LK A s s.heap sA sV) (hA : ∀ q, s.heap.size ≤ q → A q) (hw : wS D A s.heap ws H locs) (hl : ls.size = nL) {Q1 : Int → Mem → Prop} (M : Met l y (lw_w y b mL ret) (rmk lev mc ms) (kPc D τ sA sV (Wf M0) H.size As) (gQi D (EQi Wf Rf Q1) (va_A (Wf M0) H.size)) mc ms (va_A (Wf M0) H.size)) (K : KS y b mL ret n) (hlk : Cond.methodLink own index y ∈ lw_good) (isC isR : List Nat) (hCm : isC.map (fun i => ws[i]?) = (Wf M0).map some) (hRm : isR.map (fun i => ws[i]?) = wr.map some) (hnC : va_nd isC = true) (hnR : va_nd isR = true) (hdis : ∀ i ∈ isR, i ∉ isC) (hst : st0 = As.reverse ++ rest) (hn : As.length = n) (hcat : (rest.map fun v => v.category).sum ≤ 8) (hroom : lev + 1 ≤ R.frames ∧ 8 + (mL + 11) + 64 * lev ≤ R.locals) (hcs : cells + mc ≤ R.cells ∧ slots + ms ≤ R.slots) (hc2 : cells + mc = cells') (hs2 : slots + ms = slots') (hd : decode cc pc = .ok (.invokestatic index, 3))
    (kk : ∀ (z : Int) (M : Mem) (H : Heap) (locs : List Loc), iR z → Rf M → Q1 z M → wS D A s.heap (wr ++ Wf M) H locs → W p l e R s m args below meth c H locs cells' slots' Q (F0 m (pc + 3) ls (.int (iI z) :: rest))) : W p l e R s m args below meth c H locs cells slots Q (F0 m pc ls st0) := by
  have hF := va_free hw.2.1 hw.2.2 hA isC hCm
  refine va_calli (va_runS ⟨hx, hb, hml, hC.2.1, hC.1⟩ M (va_cwS n hC.1 (g_wsS K hlk) rfl rfl rfl K.2.2.2 hroom) ⟨kPc_blind, k_pre rfl hC hA hLS hw hCm hnC⟩ rfl hn hl hst (lv_room hcat) hd hcs) hw.2.2 (fun q _ h => hF q h) hF (fun r u t H1 locs1 ht hvm hp hB hsz hk1 hS => ?_)
  obtain ⟨z, hz, e1, hB⟩ := hB
  obtain ⟨w1, ⟨M1, hR1, hQ1, rfl⟩, h1⟩ := g_behind hw hA hCm hRm hnR hdis ht hk1 hS hB
  subst hc2
  subst hs2
  rw [hp, e1]
  exact kk z M1 H1 locs1 hz hR1 hQ1 h1
theorem k_cSi (hWQ : WQ Wf) (hx : p.tables.exec = Jvm.exec) (hb : c.code = cc) (hml : c.maxLocals = nL) (hC : cx D τ s m args own) (hLS : LK A s s.heap sA sV) (hA : ∀ q, s.heap.size ≤ q → A q) (hw : wS D A s.heap (Wf M0) H locs) (hl : ls.size = nL) {Q1 : Int → Mem → Prop} (M : Met l y (lw_w y b mL ret) (rmk lev 0 0) (kPc D τ sA sV (Wf M0) H.size As) (gQi D (EQi Wf Rf Q1) (va_A (Wf M0) H.size)) 0 0 (va_A (Wf M0) H.size)) (K : KS y b mL ret n) (hlk : Cond.methodLink own index y ∈ lw_good) (hst : st0 = As.reverse ++ rest) (hn : As.length = n) (hcat : (rest.map fun v => v.category).sum ≤ 8) (hroom : lev + 1 ≤ R.frames ∧ 8 + (mL + 11) + 64 * lev ≤ R.locals) (hcs : cells ≤ R.cells ∧ slots ≤ R.slots) (hd : decode cc pc = .ok (.invokestatic index, 3))
    (kk : ∀ (z : Int) (M : Mem) (H : Heap) (locs : List Loc), iR z → Rf M → Q1 z M → wS D A s.heap (Wf M) H locs → W p l e R s m args below meth c H locs cells slots Q (F0 m (pc + 3) ls (.int (iI z) :: rest))) : W p l e R s m args below meth c H locs cells slots Q (F0 m pc ls st0) := by
  obtain ⟨N, hN, hnd⟩ := hWQ
  have hp := pick_all (Wf M0)
  rw [hN] at hp
  exact j_cSi hx hb hml hC hLS hA hw hl (wr := []) M K hlk (List.range N) [] hp rfl hnd rfl (fun i h => absurd h List.not_mem_nil) hst hn hcat hroom hcs rfl rfl hd kk
theorem j_cSz (hx : p.tables.exec = Jvm.exec) (hb : c.code = cc) (hml : c.maxLocals = nL) (hC : cx D τ s m args own) (hLS : LK A s s.heap sA sV) (hA : ∀ q, s.heap.size ≤ q → A q) (hw : wS D A s.heap ws H locs) (hl : ls.size = nL) {Q1 : Int → Mem → Prop} (M : Met l y (lw_w y b mL ret) (rmk lev mc ms) (kPc D τ sA sV (Wf M0) H.size As) (gQi D (EQz Wf Rf Q1) (va_A (Wf M0) H.size)) mc ms (va_A (Wf M0) H.size)) (K : KS y b mL ret n) (hlk : Cond.methodLink own index y ∈ lw_good) (isC isR : List Nat) (hCm : isC.map (fun i => ws[i]?) = (Wf M0).map some) (hRm : isR.map (fun i => ws[i]?) = wr.map some) (hnC : va_nd isC = true) (hnR : va_nd isR = true) (hdis : ∀ i ∈ isR, i ∉ isC) (hst : st0 = As.reverse ++ rest) (hn : As.length = n) (hcat : (rest.map fun v => v.category).sum ≤ 8) (hroom : lev + 1 ≤ R.frames ∧ 8 + (mL + 11) + 64 * lev ≤ R.locals) (hcs : cells + mc ≤ R.cells ∧ slots + ms ≤ R.slots) (hc2 : cells + mc = cells') (hs2 : slots + ms = slots') (hd : decode cc pc = .ok (.invokestatic index, 3))
    (kk : ∀ (z : Int) (M : Mem) (H : Heap) (locs : List Loc), iR z → (z = 0 ∨ z = 1) → Rf M → Q1 z M → wS D A s.heap (wr ++ Wf M) H locs → W p l e R s m args below meth c H locs cells' slots' Q (F0 m (pc + 3) ls (.int (iI z) :: rest))) : W p l e R s m args below meth c H locs cells slots Q (F0 m pc ls st0) := by
  have hF := va_free hw.2.1 hw.2.2 hA isC hCm
  refine va_calli (va_runS ⟨hx, hb, hml, hC.2.1, hC.1⟩ M (va_cwS n hC.1 (g_wsS K hlk) rfl rfl rfl K.2.2.2 hroom) ⟨kPc_blind, k_pre rfl hC hA hLS hw hCm hnC⟩ rfl hn hl hst (lv_room hcat) hd hcs) hw.2.2 (fun q _ h => hF q h) hF (fun r u t H1 locs1 ht hvm hp hB hsz hk1 hS => ?_)
  obtain ⟨z, hz, e1, hB⟩ := hB
  obtain ⟨w1, ⟨h01, M1, hR1, hQ1, rfl⟩, h1⟩ := g_behind hw hA hCm hRm hnR hdis ht hk1 hS hB
  subst hc2
  subst hs2
  rw [hp, e1]
  exact kk z M1 H1 locs1 hz h01 hR1 hQ1 h1
theorem k_cSz (hWQ : WQ Wf) (hx : p.tables.exec = Jvm.exec) (hb : c.code = cc) (hml : c.maxLocals = nL) (hC : cx D τ s m args own) (hLS : LK A s s.heap sA sV) (hA : ∀ q, s.heap.size ≤ q → A q) (hw : wS D A s.heap (Wf M0) H locs) (hl : ls.size = nL) {Q1 : Int → Mem → Prop} (M : Met l y (lw_w y b mL ret) (rmk lev 0 0) (kPc D τ sA sV (Wf M0) H.size As) (gQi D (EQz Wf Rf Q1) (va_A (Wf M0) H.size)) 0 0 (va_A (Wf M0) H.size)) (K : KS y b mL ret n) (hlk : Cond.methodLink own index y ∈ lw_good) (hst : st0 = As.reverse ++ rest) (hn : As.length = n) (hcat : (rest.map fun v => v.category).sum ≤ 8) (hroom : lev + 1 ≤ R.frames ∧ 8 + (mL + 11) + 64 * lev ≤ R.locals) (hcs : cells ≤ R.cells ∧ slots ≤ R.slots) (hd : decode cc pc = .ok (.invokestatic index, 3))
    (kk : ∀ (z : Int) (M : Mem) (H : Heap) (locs : List Loc), iR z → (z = 0 ∨ z = 1) → Rf M → Q1 z M → wS D A s.heap (Wf M) H locs → W p l e R s m args below meth c H locs cells slots Q (F0 m (pc + 3) ls (.int (iI z) :: rest))) : W p l e R s m args below meth c H locs cells slots Q (F0 m pc ls st0) := by
  obtain ⟨N, hN, hnd⟩ := hWQ
  have hp := pick_all (Wf M0)
  rw [hN] at hp
  exact j_cSz hx hb hml hC hLS hA hw hl (wr := []) M K hlk (List.range N) [] hp rfl hnd rfl (fun i h => absurd h List.not_mem_nil) hst hn hcat hroom hcs rfl rfl hd kk
theorem j_cSl (hx : p.tables.exec = Jvm.exec) (hb : c.code = cc) (hml : c.maxLocals = nL) (hC : cx D τ s m args own) (hLS : LK A s s.heap sA sV) (hA : ∀ q, s.heap.size ≤ q → A q) (hw : wS D A s.heap ws H locs) (hl : ls.size = nL) {Q1 : Int → Mem → Prop} (M : Met l y (lw_w y b mL ret) (rmk lev mc ms) (kPc D τ sA sV (Wf M0) H.size As) (gQl D (EQi Wf Rf Q1) (va_A (Wf M0) H.size)) mc ms (va_A (Wf M0) H.size)) (K : KS y b mL ret n) (hlk : Cond.methodLink own index y ∈ lw_good) (isC isR : List Nat) (hCm : isC.map (fun i => ws[i]?) = (Wf M0).map some) (hRm : isR.map (fun i => ws[i]?) = wr.map some) (hnC : va_nd isC = true) (hnR : va_nd isR = true) (hdis : ∀ i ∈ isR, i ∉ isC) (hst : st0 = As.reverse ++ rest) (hn : As.length = n) (hcat : (rest.map fun v => v.category).sum ≤ 8) (hroom : lev + 1 ≤ R.frames ∧ 8 + (mL + 11) + 64 * lev ≤ R.locals) (hcs : cells + mc ≤ R.cells ∧ slots + ms ≤ R.slots) (hc2 : cells + mc = cells') (hs2 : slots + ms = slots') (hd : decode cc pc = .ok (.invokestatic index, 3))
    (kk : ∀ (z : Int) (M : Mem) (H : Heap) (locs : List Loc), lR z → Rf M → Q1 z M → wS D A s.heap (wr ++ Wf M) H locs → W p l e R s m args below meth c H locs cells' slots' Q (F0 m (pc + 3) ls (.long (lI z) :: rest))) : W p l e R s m args below meth c H locs cells slots Q (F0 m pc ls st0) := by
  have hF := va_free hw.2.1 hw.2.2 hA isC hCm
  refine va_calll (va_runS ⟨hx, hb, hml, hC.2.1, hC.1⟩ M (va_cwS n hC.1 (g_wsS K hlk) rfl rfl rfl K.2.2.2 hroom) ⟨kPc_blind, k_pre rfl hC hA hLS hw hCm hnC⟩ rfl hn hl hst (lv_room hcat) hd hcs) hw.2.2 (fun q _ h => hF q h) hF (fun r u t H1 locs1 ht hvm hp hB hsz hk1 hS => ?_)
  obtain ⟨z, hz, e1, hB⟩ := hB
  obtain ⟨w1, ⟨M1, hR1, hQ1, rfl⟩, h1⟩ := g_behind hw hA hCm hRm hnR hdis ht hk1 hS hB
  subst hc2
  subst hs2
  rw [hp, e1]
  exact kk z M1 H1 locs1 hz hR1 hQ1 h1
theorem k_cSl (hWQ : WQ Wf) (hx : p.tables.exec = Jvm.exec) (hb : c.code = cc) (hml : c.maxLocals = nL) (hC : cx D τ s m args own) (hLS : LK A s s.heap sA sV) (hA : ∀ q, s.heap.size ≤ q → A q) (hw : wS D A s.heap (Wf M0) H locs) (hl : ls.size = nL) {Q1 : Int → Mem → Prop} (M : Met l y (lw_w y b mL ret) (rmk lev 0 0) (kPc D τ sA sV (Wf M0) H.size As) (gQl D (EQi Wf Rf Q1) (va_A (Wf M0) H.size)) 0 0 (va_A (Wf M0) H.size)) (K : KS y b mL ret n) (hlk : Cond.methodLink own index y ∈ lw_good) (hst : st0 = As.reverse ++ rest) (hn : As.length = n) (hcat : (rest.map fun v => v.category).sum ≤ 8) (hroom : lev + 1 ≤ R.frames ∧ 8 + (mL + 11) + 64 * lev ≤ R.locals) (hcs : cells ≤ R.cells ∧ slots ≤ R.slots) (hd : decode cc pc = .ok (.invokestatic index, 3))
    (kk : ∀ (z : Int) (M : Mem) (H : Heap) (locs : List Loc), lR z → Rf M → Q1 z M → wS D A s.heap (Wf M) H locs → W p l e R s m args below meth c H locs cells slots Q (F0 m (pc + 3) ls (.long (lI z) :: rest))) : W p l e R s m args below meth c H locs cells slots Q (F0 m pc ls st0) := by
  obtain ⟨N, hN, hnd⟩ := hWQ
  have hp := pick_all (Wf M0)
  rw [hN] at hp
  exact j_cSl hx hb hml hC hLS hA hw hl (wr := []) M K hlk (List.range N) [] hp rfl hnd rfl (fun i h => absurd h List.not_mem_nil) hst hn hcat hroom hcs rfl rfl hd kk
theorem j_cSv (hx : p.tables.exec = Jvm.exec) (hb : c.code = cc) (hml : c.maxLocals = nL) (hC : cx D τ s m args own) (hLS : LK A s s.heap sA sV) (hA : ∀ q, s.heap.size ≤ q → A q) (hw : wS D A s.heap ws H locs) (hl : ls.size = nL) {Q1 : Mem → Prop} (M : Met l y (lw_w y b mL ret) (rmk lev mc ms) (kPc D τ sA sV (Wf M0) H.size As) (gQv D (EQv Wf Rf Q1) (va_A (Wf M0) H.size)) mc ms (va_A (Wf M0) H.size)) (K : KS y b mL ret n) (hlk : Cond.methodLink own index y ∈ lw_good) (isC isR : List Nat) (hCm : isC.map (fun i => ws[i]?) = (Wf M0).map some) (hRm : isR.map (fun i => ws[i]?) = wr.map some) (hnC : va_nd isC = true) (hnR : va_nd isR = true) (hdis : ∀ i ∈ isR, i ∉ isC) (hst : st0 = As.reverse ++ rest) (hn : As.length = n) (hcat : (rest.map fun v => v.category).sum ≤ 8) (hroom : lev + 1 ≤ R.frames ∧ 8 + (mL + 11) + 64 * lev ≤ R.locals) (hcs : cells + mc ≤ R.cells ∧ slots + ms ≤ R.slots) (hc2 : cells + mc = cells') (hs2 : slots + ms = slots') (hd : decode cc pc = .ok (.invokestatic index, 3))
    (kk : ∀ (M : Mem) (H : Heap) (locs : List Loc), Rf M → Q1 M → wS D A s.heap (wr ++ Wf M) H locs → W p l e R s m args below meth c H locs cells' slots' Q (F0 m (pc + 3) ls rest)) : W p l e R s m args below meth c H locs cells slots Q (F0 m pc ls st0) := by
  have hF := va_free hw.2.1 hw.2.2 hA isC hCm
  refine va_callv (va_runS ⟨hx, hb, hml, hC.2.1, hC.1⟩ M (va_cwS n hC.1 (g_wsS K hlk) rfl rfl rfl K.2.2.2 hroom) ⟨kPc_blind, k_pre rfl hC hA hLS hw hCm hnC⟩ rfl hn hl hst (lv_room hcat) hd hcs) hw.2.2 (fun q _ h => hF q h) hF (fun u t H1 locs1 ht hvm hp hB hsz hk1 hS => ?_)
  obtain ⟨w1, ⟨M1, hR1, hQ1, rfl⟩, h1⟩ := g_behind hw hA hCm hRm hnR hdis ht hk1 hS hB
  subst hc2
  subst hs2
  exact kk M1 H1 locs1 hR1 hQ1 h1
theorem t_cVi (hx : p.tables.exec = Jvm.exec) (hb : c.code = cc) (hml : c.maxLocals = nL) (hC : cx D τ s m args own) (hLS : LK A s s.heap sA sV) (hA : ∀ q, s.heap.size ≤ q → A q) (hw : wS D A s.heap ws H locs) (hl : ls.size = nL) {Q1 : Int → Mem → Prop} {sa sv : Nat} {bs : List Int} (hST : ST (va_A (Wf M0) H.size) s H sa sv bs) (M : Met l y (lw_w y b mL ret) (rmk lev mc ms) (tPc D τ sA sV (Wf M0) H.size sa sv bs (.ref a :: As)) (gQi D (EQi Wf Rf Q1) (va_A (Wf M0) H.size)) mc ms (va_A (Wf M0) H.size)) (K : KV y b mL ret n) (hlk : Cond.methodLink own index y ∈ lw_good) (isC isR : List Nat) (hCm : isC.map (fun i => ws[i]?) = (Wf M0).map some) (hRm : isR.map (fun i => ws[i]?) = wr.map some) (hnC : va_nd isC = true) (hnR : va_nd isR = true) (hdis : ∀ i ∈ isR, i ∉ isC) (hrv : ∃ cell : Cell, H[a]? = some cell ∧ cell.vm.isStatics = false ∧ s.vm.findClass y.cls = some cell.cls) (hst : st0 = As.reverse ++ .ref a :: rest) (hn : As.length = n) (hcat : (rest.map fun v => v.category).sum ≤ 8) (hroom : lev + 1 ≤ R.frames ∧ 8 + (mL + 11) + 64 * lev ≤ R.locals) (hcs : cells + mc ≤ R.cells ∧ slots + ms ≤ R.slots) (hc2 : cells + mc = cells') (hs2 : slots + ms = slots') (hd : decode cc pc = .ok (.invokevirtual index, 3))
    (kk : ∀ (z : Int) (M : Mem) (H : Heap) (locs : List Loc), iR z → Rf M → Q1 z M → wS D A s.heap (wr ++ Wf M) H locs → W p l e R s m args below meth c H locs cells' slots' Q (F0 m (pc + 3) ls (.int (iI z) :: rest))) : W p l e R s m args below meth c H locs cells slots Q (F0 m pc ls st0) := by
  have hF := va_free hw.2.1 hw.2.2 hA isC hCm
  refine va_calli (va_runV ⟨hx, hb, hml, hC.2.1, hC.1⟩ M (cwV n hC.1 (g_wsV K hlk) rfl rfl rfl ⟨rfl, K.2.2.2⟩ hroom) ⟨tPc_blind, hrv, t_pre rfl hC hA hLS hw hCm hnC hST⟩ rfl hn hl hst (lv_room hcat) hd hcs) hw.2.2 (fun q _ h => hF q h) hF (fun r u t H1 locs1 ht hvm hp hB hsz hk1 hS => ?_)
  obtain ⟨z, hz, e1, hB⟩ := hB
  obtain ⟨w1, ⟨M1, hR1, hQ1, rfl⟩, h1⟩ := g_behind hw hA hCm hRm hnR hdis ht hk1 hS hB
  subst hc2
  subst hs2
  rw [hp, e1]
  exact kk z M1 H1 locs1 hz hR1 hQ1 h1
theorem t_cSi (hx : p.tables.exec = Jvm.exec) (hb : c.code = cc) (hml : c.maxLocals = nL) (hC : cx D τ s m args own) (hLS : LK A s s.heap sA sV) (hA : ∀ q, s.heap.size ≤ q → A q) (hw : wS D A s.heap ws H locs) (hl : ls.size = nL) {Q1 : Int → Mem → Prop} {sa sv : Nat} {bs : List Int} (hST : ST (va_A (Wf M0) H.size) s H sa sv bs) (M : Met l y (lw_w y b mL ret) (rmk lev mc ms) (tPc D τ sA sV (Wf M0) H.size sa sv bs As) (gQi D (EQi Wf Rf Q1) (va_A (Wf M0) H.size)) mc ms (va_A (Wf M0) H.size)) (K : KS y b mL ret n) (hlk : Cond.methodLink own index y ∈ lw_good) (isC isR : List Nat) (hCm : isC.map (fun i => ws[i]?) = (Wf M0).map some) (hRm : isR.map (fun i => ws[i]?) = wr.map some) (hnC : va_nd isC = true) (hnR : va_nd isR = true) (hdis : ∀ i ∈ isR, i ∉ isC) (hst : st0 = As.reverse ++ rest) (hn : As.length = n) (hcat : (rest.map fun v => v.category).sum ≤ 8) (hroom : lev + 1 ≤ R.frames ∧ 8 + (mL + 11) + 64 * lev ≤ R.locals) (hcs : cells + mc ≤ R.cells ∧ slots + ms ≤ R.slots) (hc2 : cells + mc = cells') (hs2 : slots + ms = slots') (hd : decode cc pc = .ok (.invokestatic index, 3))
    (kk : ∀ (z : Int) (M : Mem) (H : Heap) (locs : List Loc), iR z → Rf M → Q1 z M → wS D A s.heap (wr ++ Wf M) H locs → W p l e R s m args below meth c H locs cells' slots' Q (F0 m (pc + 3) ls (.int (iI z) :: rest))) : W p l e R s m args below meth c H locs cells slots Q (F0 m pc ls st0) := by
  have hF := va_free hw.2.1 hw.2.2 hA isC hCm
  refine va_calli (va_runS ⟨hx, hb, hml, hC.2.1, hC.1⟩ M (va_cwS n hC.1 (g_wsS K hlk) rfl rfl rfl K.2.2.2 hroom) ⟨tPc_blind, t_pre rfl hC hA hLS hw hCm hnC hST⟩ rfl hn hl hst (lv_room hcat) hd hcs) hw.2.2 (fun q _ h => hF q h) hF (fun r u t H1 locs1 ht hvm hp hB hsz hk1 hS => ?_)
  obtain ⟨z, hz, e1, hB⟩ := hB
  obtain ⟨w1, ⟨M1, hR1, hQ1, rfl⟩, h1⟩ := g_behind hw hA hCm hRm hnR hdis ht hk1 hS hB
  subst hc2
  subst hs2
  rw [hp, e1]
  exact kk z M1 H1 locs1 hz hR1 hQ1 h1
theorem k_cVzA (hWQ : WQ Wf) (hx : p.tables.exec = Jvm.exec) (hb : c.code = cc) (hml : c.maxLocals = nL) (hC : cx D τ s m args own) (hLS : LK A s s.heap sA sV) (hA : ∀ q, s.heap.size ≤ q → A q) (hw : wS D A s.heap (Wf M0) H locs) (hl : ls.size = nL) {Q1 : Int → Mem → Prop} (M : Met l y (lw_w y b mL ret) (rmk lev mc ms) (kPc D τ sA sV (Wf M0) H.size (.ref a :: As)) (gQi D (EQz Wf Rf Q1) (va_A (Wf M0) H.size)) mc ms (va_A (Wf M0) H.size)) (K : KV y b mL ret n) (hlk : Cond.methodLink own index y ∈ lw_good) {q0 ci : Nat} {fs : List Value} {T : u_T} {N : Nat} (hci : vwCl[ci]? = some (y.cls, T, N)) (hq0 : (Wf M0)[q0]? = some (a, .inr (ci, fs))) (hst : st0 = As.reverse ++ .ref a :: rest) (hn : As.length = n) (hcat : (rest.map fun v => v.category).sum ≤ 8) (hroom : lev + 1 ≤ R.frames ∧ 8 + (mL + 11) + 64 * lev ≤ R.locals) (hcs : cells + mc ≤ R.cells ∧ slots + ms ≤ R.slots) (hc2 : cells + mc = cells') (hs2 : slots + ms = slots') (hd : decode cc pc = .ok (.invokevirtual index, 3))
    (kk : ∀ (z : Int) (M : Mem) (H : Heap) (locs : List Loc), iR z → (z = 0 ∨ z = 1) → Rf M → Q1 z M → wS D A s.heap (Wf M) H locs → W p l e R s m args below meth c H locs cells' slots' Q (F0 m (pc + 3) ls (.int (iI z) :: rest))) : W p l e R s m args below meth c H locs cells slots Q (F0 m pc ls st0) := by
  obtain ⟨N, hN, hnd⟩ := hWQ
  have hp := pick_all (Wf M0)
  rw [hN] at hp
  exact j_cVz hx hb hml hC hLS hA hw hl (wr := []) M K hlk (List.range N) [] hp rfl hnd rfl (fun i h => absurd h List.not_mem_nil) hci hq0 hst hn hcat hroom hcs hc2 hs2 hd kk
theorem k_iret (hWQ : WQ Wf) (hx : p.tables.exec = Jvm.exec) (hb : c.code = cc) (hr : meth.sig.returnType = some .int) (hlk : meth.locks = false) (hw : wS D A s.heap (Wf M0) H locs) {Q1 : Int → Mem → Prop} (hM : Rf M0) {z : Int} (hz : iR z) (hv : Q1 z M0) (hd : decode cc pc = .ok (.ireturn, 1)) : W p l e R s m args below meth c H locs cells slots (MQ below (gQi D (EQi Wf Rf Q1) A) args s cells slots A) (F0 m pc ls [.int (iI z)]) := by
  obtain ⟨N, hN, hnd⟩ := hWQ
  have hp := pick_all (Wf M0)
  rw [hN] at hp
  exact r_iret hx hb hr hlk hw (Wf M0) (List.range N) hp hnd hz ⟨M0, hM, hv, rfl⟩ hd
theorem k_zret (hWQ : WQ Wf) (hx : p.tables.exec = Jvm.exec) (hb : c.code = cc) (hr : meth.sig.returnType = some .boolean) (hlk : meth.locks = false) (hw : wS D A s.heap (Wf M0) H locs) {Q1 : Int → Mem → Prop} (hM : Rf M0) {z : Int} (hz : iR z) (h01 : z = 0 ∨ z = 1) (hv : Q1 z M0) (hd : decode cc pc = .ok (.ireturn, 1)) : W p l e R s m args below meth c H locs cells slots (MQ below (gQi D (EQz Wf Rf Q1) A) args s cells slots A) (F0 m pc ls [.int (iI z)]) := by
  obtain ⟨N, hN, hnd⟩ := hWQ
  have hp := pick_all (Wf M0)
  rw [hN] at hp
  exact r_zret hx hb hr hlk hw (Wf M0) (List.range N) hp hnd hz h01 ⟨h01, M0, hM, hv, rfl⟩ hd
theorem k_lret (hWQ : WQ Wf) (hx : p.tables.exec = Jvm.exec) (hb : c.code = cc) (hr : meth.sig.returnType = some .long) (hlk : meth.locks = false) (hw : wS D A s.heap (Wf M0) H locs) {Q1 : Int → Mem → Prop} (hM : Rf M0) {z : Int} (hz : lR z) (hv : Q1 z M0) (hd : decode cc pc = .ok (.lreturn, 1)) : W p l e R s m args below meth c H locs cells slots (MQ below (gQl D (EQi Wf Rf Q1) A) args s cells slots A) (F0 m pc ls [.long (lI z)]) := by
  obtain ⟨N, hN, hnd⟩ := hWQ
  have hp := pick_all (Wf M0)
  rw [hN] at hp
  exact r_lret hx hb hr hlk hw (Wf M0) (List.range N) hp hnd hz ⟨M0, hM, hv, rfl⟩ hd
theorem k_vret (hWQ : WQ Wf) (hx : p.tables.exec = Jvm.exec) (hb : c.code = cc) (hr : meth.sig.returnType = none) (hlk : meth.locks = false) (hw : wS D A s.heap (Wf M0) H locs) {Q1 : Mem → Prop} (hM : Rf M0) (hv : Q1 M0) (hd : decode cc pc = .ok (.return_, 1)) : W p l e R s m args below meth c H locs cells slots (MQ below (gQv D (EQv Wf Rf Q1) A) args s cells slots A) (F0 m pc ls []) := by
  obtain ⟨N, hN, hnd⟩ := hWQ
  have hp := pick_all (Wf M0)
  rw [hN] at hp
  exact r_vret hx hb hr hlk hw (Wf M0) (List.range N) hp hnd ⟨M0, hM, hv, rfl⟩ hd
end KC
end
section
/-! SHAPES: the two worlds -/
def wl (N : Nat) (ct : (Nat → Nat) → Nat → (Int → Int) → va_E) (ad : Nat → Nat) (M : Mem) : va_W := (List.range N).map (fun k => (ad k, ct ad k (M k)))
theorem wl_get {N : Nat} {ct : (Nat → Nat) → Nat → (Int → Int) → va_E} {ad : Nat → Nat} {M : Mem} {k : Nat} (h : k < N) {e : va_E} (he : ct ad k (M k) = e) : (wl N ct ad M)[k]? = some (ad k, e) := by
  subst he
  simp [wl, h]
theorem wl_set {N : Nat} {ct : (Nat → Nat) → Nat → (Int → Int) → va_E} {ad : Nat → Nat} {M : Mem} {k : Nat} {r : Int → Int} {e : va_E} (he : ct ad k r = e) : (wl N ct ad M).set k (ad k, e) = wl N ct ad (fun i => if i = k then r else M i) := by
  subst he
  apply List.ext_getElem?
  intro i
  unfold wl
  rw [List.getElem?_set]
  simp only [List.length_map, List.length_range, List.getElem?_map]
  by_cases hi : i < N
  · by_cases hk : k = i
    · subst hk
      simp [hi]
    · have hk2 : ¬ i = k := fun h => hk h.symm
      simp [hi, hk, hk2]
  · by_cases hk : k = i
    · subst hk
      simp [hi]
    · simp [hi, hk]
theorem wl_up {N : Nat} {ct : (Nat → Nat) → Nat → (Int → Int) → va_E} {ad : Nat → Nat} {M : Mem} {k : Nat} {j v : Int} {e : va_E} (he : ct ad k (up (M k) j v) = e) : (wl N ct ad M).set k (ad k, e) = wl N ct ad (up2 M k j v) := wl_set he
theorem wl_cp {N : Nat} {ct : (Nat → Nat) → Nat → (Int → Int) → va_E} {ad : Nat → Nat} {M : Mem} {a b : Nat} {n : Int} {e : va_E} (he : ct ad b (cpy (M a) (M b) n) = e) : (wl N ct ad M).set b (ad b, e) = wl N ct ad (cp2 M a b n) := wl_set he
theorem wl_len {N : Nat} {ct : (Nat → Nat) → Nat → (Int → Int) → va_E} {ad : Nat → Nat} {M : Mem} : (wl N ct ad M).length = N := by simp [wl]
abbrev FS (ad : Nat → Nat) (k : Nat) (r : Int → Int) : List Value := [.ref (ad (k + 1)), .ref (ad (k + 2)), .ref (ad (k + 3)), .ref (ad (k + 4)), .ref (ad (k + 5)), .ref (ad (k + 6)), .int (iI (r 6)), .int (iI (r 7)), .int (iI (r 8)), .int (iI (r 9)), .int (iI (r 10))]
abbrev FL (ad : Nat → Nat) (k : Nat) (r : Int → Int) : List Value := [.ref (ad (k + 1)), .ref (ad (k + 2)), .ref (ad (k + 3)), .ref (ad (k + 4)), .int (iI (r 4)), .int (iI (r 5))]
abbrev FX155 (ad : Nat → Nat) (r : Int → Int) : List Value := [.ref (ad 156), .ref (ad 158), .ref (ad 1), .ref (ad 8), .ref (ad 15), .ref (ad 22), .ref (ad 160), .ref (ad 163), .ref (ad 165), .ref (ad 166), .ref (ad 167), .ref (ad 168), .ref (ad 179), .ref (ad 182), .ref (ad 185), .int (iI (r 15)), .ref (ad (r 16).toNat), .ref (ad (r 17).toNat)]
abbrev FX156 (ad : Nat → Nat) (r : Int → Int) : List Value := [.ref (ad 157), .int (iI (r 1)), .int (iI (r 2)), .int (iI (r 3))]
abbrev FX158 (ad : Nat → Nat) (r : Int → Int) : List Value := [.ref (ad 159), .int (iI (r 1)), .int (iI (r 2)), .int (iI (r 3))]
abbrev FX160 (ad : Nat → Nat) (r : Int → Int) : List Value := [.ref (ad 158), .ref (ad 161), .ref (ad 162), .int (iI (r 3)), .int (iI (r 4)), .int (iI (r 5))]
abbrev FX163 (ad : Nat → Nat) (r : Int → Int) : List Value := [.ref (ad 164), .int (iI (r 1)), .int (iI (r 2))]
abbrev FX167 (ad : Nat → Nat) (r : Int → Int) : List Value := [.ref (ad 0), .int (iI (r 1))]
abbrev FX168 (ad : Nat → Nat) (r : Int → Int) : List Value := [.ref (ad 169), .int (iI (r 1))]
abbrev FX179 (ad : Nat → Nat) (r : Int → Int) : List Value := [.ref (ad 180), .ref (ad 181), .int (iI (r 2))]
abbrev FX182 (ad : Nat → Nat) (r : Int → Int) : List Value := [.ref (ad 183), .ref (ad 184), .int (iI (r 2))]
abbrev FX185 (ad : Nat → Nat) (r : Int → Int) : List Value := [.ref (ad 186), .int (iI (r 1)), .int (iI (r 2)), .int (iI (r 3))]
abbrev FM1 (ad : Nat → Nat) (r : Int → Int) : List Value := [.int (iI (r 0)), .int (iI (r 1)), .ref (ad 0), .int (iI (r 3)), .int (iI (r 4)), .int (iI (r 5)), .int (iI (r 6)), .int (iI (r 7)), .ref (ad 2), .ref (ad 3), .ref (ad 4), .ref (ad 5), .ref (ad 6), .ref (ad 7), .int (iI (r 14)), .int (iI (r 15)), .int (iI (r 16)), .int (iI (r 17)), .ref (ad 8), .ref (ad 9), .int (iI (r 20)), .ref (ad 10), .ref (ad 11), .ref (ad 12), .int (iI (r 24)), .int (iI (r 25)), .ref (ad 13), .ref (ad 14), .int (iI (r 28)), .ref (ad 15), .int (iI (r 30)), .int (iI (r 31)), .ref (ad 16), .ref (ad 17), .ref (ad 18), .int (iI (r 35)), .ref (ad 19), .ref (ad 20), .ref (ad 21), .int (iI (r 39)), .ref (ad 22), .ref (ad 23), .int (iI (r 42)), .ref (ad 24), .ref (ad 25), .int (iI (r 45)), .ref (ad 26), .ref (ad 27), .ref (ad 28), .int (iI (r 49)), .ref (ad 29), .ref (ad 30), .ref (ad 31)]
def scX (τ : Nat → ClassId) (ad : Nat → Nat) (k o : Nat) (r : Int → Int) : va_E := match o with
  | 0 => .inr (7, FS ad k r)
  | 1 => .inl (τ 0, 6, .inl (ar r))
  | 2 => .inl (τ 0, 6, .inl (ar r))
  | _ => .inl (τ 0, 8, .inl (ar r))
def tlX (τ : Nat → ClassId) (ad : Nat → Nat) (j : Nat) (r : Int → Int) : va_E := match j with
  | 0 => .inr (12, FX155 ad r)
  | 1 => .inr (10, FX156 ad r)
  | 2 => .inl (τ 0, 80, .inl (ar r))
  | 3 => .inr (9, FX158 ad r)
  | 4 => .inl (τ 0, 20, .inl (ar r))
  | 5 => .inr (11, FX160 ad r)
  | 6 => .inl (τ 0, 30, .inl (ar r))
  | 7 => .inl (τ 0, 8, .inl (ar r))
  | 8 => .inr (2, FX163 ad r)
  | 9 => .inl (τ 3, 15, rfs (fun i => some (ad (50 + 7 * i))))
  | 10 => .inl (τ 3, 3, rfs (fun i => some (ad (29 + 7 * i))))
  | 11 => .inl (τ 2, 3, .inl (ar r))
  | 12 => .inr (5, FX167 ad r)
  | 13 => .inr (8, FX168 ad r)
  | 14 => .inl (τ 4, 9, rfs (fun i => some (ad (170 + i))))
  | 15 => .inl (τ 0, 64, .inl (ar r))
  | 16 => .inl (τ 0, 64, .inl (ar r))
  | 17 => .inl (τ 0, 64, .inl (ar r))
  | 18 => .inl (τ 0, 64, .inl (ar r))
  | 19 => .inl (τ 0, 64, .inl (ar r))
  | 20 => .inl (τ 0, 64, .inl (ar r))
  | 21 => .inl (τ 0, 64, .inl (ar r))
  | 22 => .inl (τ 0, 64, .inl (ar r))
  | 23 => .inl (τ 0, 64, .inl (ar r))
  | 24 => .inr (4, FX179 ad r)
  | 25 => .inl (τ 0, 6, .inl (ar r))
  | 26 => .inl (τ 0, 6, .inl (ar r))
  | 27 => .inr (1, FX182 ad r)
  | 28 => .inl (τ 0, 8, .inl (ar r))
  | 29 => .inl (τ 0, 8, .inl (ar r))
  | 30 => .inr (6, FX185 ad r)
  | 31 => .inl (τ 0, 40, .inl (ar r))
  | 32 => .inr (3, FL ad 187 r)
  | 33 => .inl (τ 0, 40, .inl (ar r))
  | 34 => .inl (τ 0, 40, .inl (ar r))
  | 35 => .inl (τ 0, 40, .inl (ar r))
  | 36 => .inl (τ 0, 7, .inl (ar r))
  | 37 => .inr (3, FL ad 192 r)
  | 38 => .inl (τ 0, 40, .inl (ar r))
  | 39 => .inl (τ 0, 40, .inl (ar r))
  | 40 => .inl (τ 0, 40, .inl (ar r))
  | 41 => .inl (τ 0, 7, .inl (ar r))
  | _ => .inr (0, [])
def ctX (τ : Nat → ClassId) (ad : Nat → Nat) (k : Nat) (r : Int → Int) : va_E := if k = 0 then .inl (τ 1, 8, .inr (.inl (arL r))) else if k < 155 then scX τ ad k ((k - 1) % 7) r else tlX τ ad (k - 155) r
def WX (τ : Nat → ClassId) (ad : Nat → Nat) (M : Mem) : va_W := wl 197 (ctX τ) ad M
theorem wq_X (τ : Nat → ClassId) (ad : Nat → Nat) : WQ (WX τ ad) := ⟨197, fun _ => wl_len, by decide +kernel⟩
def ctM (τ : Nat → ClassId) (ad : Nat → Nat) (k : Nat) (r : Int → Int) : va_E := match k with
  | 0 => .inl (τ 1, 24, .inr (.inl (arL r)))
  | 1 => .inr (13, FM1 ad r)
  | 2 => .inl (τ 2, 30, .inl (ar r))
  | 3 => .inl (τ 0, 8, .inl (ar r))
  | 4 => .inl (τ 0, 20, .inl (ar r))
  | 5 => .inl (τ 0, 38, .inl (ar r))
  | 6 => .inl (τ 0, 38, .inl (ar r))
  | 7 => .inl (τ 0, 80, .inl (ar r))
  | 8 => .inl (τ 2, 30, .inl (ar r))
  | 9 => .inl (τ 0, 16, .inl (ar r))
  | 10 => .inl (τ 0, 20, .inl (ar r))
  | 11 => .inl (τ 0, 80, .inl (ar r))
  | 12 => .inl (τ 0, 80, .inl (ar r))
  | 13 => .inl (τ 0, 80, .inl (ar r))
  | 14 => .inl (τ 0, 7, .inl (ar r))
  | 15 => .inl (τ 0, 608, .inl (ar r))
  | 16 => .inl (τ 0, 30, .inl (ar r))
  | 17 => .inl (τ 0, 8, .inl (ar r))
  | 18 => .inl (τ 0, 6, .inl (ar r))
  | 19 => .inl (τ 0, 60, .inl (ar r))
  | 20 => .inl (τ 0, 60, .inl (ar r))
  | 21 => .inl (τ 0, 60, .inl (ar r))
  | 22 => .inl (τ 0, 6, .inl (ar r))
  | 23 => .inl (τ 0, 6, .inl (ar r))
  | 24 => .inl (τ 0, 8, .inl (ar r))
  | 25 => .inl (τ 0, 8, .inl (ar r))
  | 26 => .inl (τ 0, 8, .inl (ar r))
  | 27 => .inl (τ 0, 8, .inl (ar r))
  | 28 => .inl (τ 0, 80, .inl (ar r))
  | 29 => .inl (τ 2, 3, .inl (ar r))
  | 30 => .inl (τ 0, 3, .inl (ar r))
  | 31 => .inl (τ 0, 114, .inl (ar r))
  | _ => .inr (0, [])
def WM (τ : Nat → ClassId) (ad : Nat → Nat) (M : Mem) : va_W := wl 32 (ctM τ) ad M
theorem wq_M (τ : Nat → ClassId) (ad : Nat → Nat) : WQ (WM τ ad) := ⟨32, fun _ => wl_len, by decide +kernel⟩
def XI (n k : Nat) : Prop := (0 < k ∧ k < 197) ∧ ∀ (τ : Nat → ClassId) (ad : Nat → Nat) (r : Int → Int), ctX τ ad k r = .inl (τ 0, n, .inl (ar r))
theorem XI.pos {n k : Nat} (h : XI n k) : 0 < k := h.1.1
theorem gI_X {n k : Nat} (h : XI n k) (τ : Nat → ClassId) (ad : Nat → Nat) (M : Mem) : (WX τ ad M)[k]? = some (ad k, .inl (τ 0, n, .inl (ar (M k)))) := wl_get h.1.2 (h.2 τ ad _)
theorem sI_X {n k : Nat} (h : XI n k) (τ : Nat → ClassId) (ad : Nat → Nat) (M : Mem) (j v : Int) : (WX τ ad M).set k (ad k, .inl (τ 0, n, .inl (ar (up (M k) j v)))) = WX τ ad (up2 M k j v) := wl_up (h.2 τ ad _)
def XZ (n k : Nat) : Prop := (0 < k ∧ k < 197) ∧ ∀ (τ : Nat → ClassId) (ad : Nat → Nat) (r : Int → Int), ctX τ ad k r = .inl (τ 2, n, .inl (ar r))
theorem XZ.pos {n k : Nat} (h : XZ n k) : 0 < k := h.1.1
theorem gZ_X {n k : Nat} (h : XZ n k) (τ : Nat → ClassId) (ad : Nat → Nat) (M : Mem) : (WX τ ad M)[k]? = some (ad k, .inl (τ 2, n, .inl (ar (M k)))) := wl_get h.1.2 (h.2 τ ad _)
theorem sZ_X {n k : Nat} (h : XZ n k) (τ : Nat → ClassId) (ad : Nat → Nat) (M : Mem) (j v : Int) : (WX τ ad M).set k (ad k, .inl (τ 2, n, .inl (ar (up (M k) j v)))) = WX τ ad (up2 M k j v) := wl_up (h.2 τ ad _)
def XJ (n k : Nat) : Prop := (0 ≤ k ∧ k < 197) ∧ ∀ (τ : Nat → ClassId) (ad : Nat → Nat) (r : Int → Int), ctX τ ad k r = .inl (τ 1, n, .inr (.inl (arL r)))
theorem gJ_X {n k : Nat} (h : XJ n k) (τ : Nat → ClassId) (ad : Nat → Nat) (M : Mem) : (WX τ ad M)[k]? = some (ad k, .inl (τ 1, n, .inr (.inl (arL (M k))))) := wl_get h.1.2 (h.2 τ ad _)
theorem sJ_X {n k : Nat} (h : XJ n k) (τ : Nat → ClassId) (ad : Nat → Nat) (M : Mem) (j v : Int) : (WX τ ad M).set k (ad k, .inl (τ 1, n, .inr (.inl (arL (up (M k) j v))))) = WX τ ad (up2 M k j v) := wl_up (h.2 τ ad _)
theorem cI_X {n k : Nat} (h : XI n k) (τ : Nat → ClassId) (ad : Nat → Nat) (M : Mem) (a : Nat) (z : Int) : (WX τ ad M).set k (ad k, .inl (τ 0, n, .inl (ar (cpy (M a) (M k) z)))) = WX τ ad (cp2 M a k z) := wl_cp (h.2 τ ad _)
def MI (n k : Nat) : Prop := (0 < k ∧ k < 32) ∧ ∀ (τ : Nat → ClassId) (ad : Nat → Nat) (r : Int → Int), ctM τ ad k r = .inl (τ 0, n, .inl (ar r))
theorem MI.pos {n k : Nat} (h : MI n k) : 0 < k := h.1.1
theorem gI_M {n k : Nat} (h : MI n k) (τ : Nat → ClassId) (ad : Nat → Nat) (M : Mem) : (WM τ ad M)[k]? = some (ad k, .inl (τ 0, n, .inl (ar (M k)))) := wl_get h.1.2 (h.2 τ ad _)
theorem sI_M {n k : Nat} (h : MI n k) (τ : Nat → ClassId) (ad : Nat → Nat) (M : Mem) (j v : Int) : (WM τ ad M).set k (ad k, .inl (τ 0, n, .inl (ar (up (M k) j v)))) = WM τ ad (up2 M k j v) := wl_up (h.2 τ ad _)
def MZ (n k : Nat) : Prop := (0 < k ∧ k < 32) ∧ ∀ (τ : Nat → ClassId) (ad : Nat → Nat) (r : Int → Int), ctM τ ad k r = .inl (τ 2, n, .inl (ar r))
theorem MZ.pos {n k : Nat} (h : MZ n k) : 0 < k := h.1.1
theorem gZ_M {n k : Nat} (h : MZ n k) (τ : Nat → ClassId) (ad : Nat → Nat) (M : Mem) : (WM τ ad M)[k]? = some (ad k, .inl (τ 2, n, .inl (ar (M k)))) := wl_get h.1.2 (h.2 τ ad _)
theorem sZ_M {n k : Nat} (h : MZ n k) (τ : Nat → ClassId) (ad : Nat → Nat) (M : Mem) (j v : Int) : (WM τ ad M).set k (ad k, .inl (τ 2, n, .inl (ar (up (M k) j v)))) = WM τ ad (up2 M k j v) := wl_up (h.2 τ ad _)
def MJ (n k : Nat) : Prop := (0 ≤ k ∧ k < 32) ∧ ∀ (τ : Nat → ClassId) (ad : Nat → Nat) (r : Int → Int), ctM τ ad k r = .inl (τ 1, n, .inr (.inl (arL r)))
theorem gJ_M {n k : Nat} (h : MJ n k) (τ : Nat → ClassId) (ad : Nat → Nat) (M : Mem) : (WM τ ad M)[k]? = some (ad k, .inl (τ 1, n, .inr (.inl (arL (M k))))) := wl_get h.1.2 (h.2 τ ad _)
theorem sJ_M {n k : Nat} (h : MJ n k) (τ : Nat → ClassId) (ad : Nat → Nat) (M : Mem) (j v : Int) : (WM τ ad M).set k (ad k, .inl (τ 1, n, .inr (.inl (arL (up (M k) j v))))) = WM τ ad (up2 M k j v) := wl_up (h.2 τ ad _)
theorem aX_157 : XI 80 157 := ⟨⟨by decide, by decide⟩, fun _ _ _ => rfl⟩
theorem aX_159 : XI 20 159 := ⟨⟨by decide, by decide⟩, fun _ _ _ => rfl⟩
theorem aX_161 : XI 30 161 := ⟨⟨by decide, by decide⟩, fun _ _ _ => rfl⟩
theorem aX_162 : XI 8 162 := ⟨⟨by decide, by decide⟩, fun _ _ _ => rfl⟩
theorem aX_166 : XZ 3 166 := ⟨⟨by decide, by decide⟩, fun _ _ _ => rfl⟩
theorem aX_170 : XI 64 170 := ⟨⟨by decide, by decide⟩, fun _ _ _ => rfl⟩
theorem aX_180 : XI 6 180 := ⟨⟨by decide, by decide⟩, fun _ _ _ => rfl⟩
theorem aX_181 : XI 6 181 := ⟨⟨by decide, by decide⟩, fun _ _ _ => rfl⟩
theorem aX_183 : XI 8 183 := ⟨⟨by decide, by decide⟩, fun _ _ _ => rfl⟩
theorem aX_184 : XI 8 184 := ⟨⟨by decide, by decide⟩, fun _ _ _ => rfl⟩
theorem aX_186 : XI 40 186 := ⟨⟨by decide, by decide⟩, fun _ _ _ => rfl⟩
theorem aX_0 : XJ 8 0 := ⟨⟨by decide, by decide⟩, fun _ _ _ => rfl⟩
theorem aM_0 : MJ 24 0 := ⟨⟨by decide, by decide⟩, fun _ _ _ => rfl⟩
theorem aM_2 : MZ 30 2 := ⟨⟨by decide, by decide⟩, fun _ _ _ => rfl⟩
theorem aM_3 : MI 8 3 := ⟨⟨by decide, by decide⟩, fun _ _ _ => rfl⟩
theorem aM_4 : MI 20 4 := ⟨⟨by decide, by decide⟩, fun _ _ _ => rfl⟩
theorem aM_5 : MI 38 5 := ⟨⟨by decide, by decide⟩, fun _ _ _ => rfl⟩
theorem aM_6 : MI 38 6 := ⟨⟨by decide, by decide⟩, fun _ _ _ => rfl⟩
theorem aM_7 : MI 80 7 := ⟨⟨by decide, by decide⟩, fun _ _ _ => rfl⟩
theorem aM_8 : MZ 30 8 := ⟨⟨by decide, by decide⟩, fun _ _ _ => rfl⟩
theorem aM_9 : MI 16 9 := ⟨⟨by decide, by decide⟩, fun _ _ _ => rfl⟩
theorem aM_10 : MI 20 10 := ⟨⟨by decide, by decide⟩, fun _ _ _ => rfl⟩
theorem aM_11 : MI 80 11 := ⟨⟨by decide, by decide⟩, fun _ _ _ => rfl⟩
theorem aM_12 : MI 80 12 := ⟨⟨by decide, by decide⟩, fun _ _ _ => rfl⟩
theorem aM_13 : MI 80 13 := ⟨⟨by decide, by decide⟩, fun _ _ _ => rfl⟩
theorem aM_14 : MI 7 14 := ⟨⟨by decide, by decide⟩, fun _ _ _ => rfl⟩
theorem aM_15 : MI 608 15 := ⟨⟨by decide, by decide⟩, fun _ _ _ => rfl⟩
theorem aM_16 : MI 30 16 := ⟨⟨by decide, by decide⟩, fun _ _ _ => rfl⟩
theorem aM_17 : MI 8 17 := ⟨⟨by decide, by decide⟩, fun _ _ _ => rfl⟩
theorem aM_18 : MI 6 18 := ⟨⟨by decide, by decide⟩, fun _ _ _ => rfl⟩
theorem aM_19 : MI 60 19 := ⟨⟨by decide, by decide⟩, fun _ _ _ => rfl⟩
theorem aM_20 : MI 60 20 := ⟨⟨by decide, by decide⟩, fun _ _ _ => rfl⟩
theorem aM_21 : MI 60 21 := ⟨⟨by decide, by decide⟩, fun _ _ _ => rfl⟩
theorem aM_22 : MI 6 22 := ⟨⟨by decide, by decide⟩, fun _ _ _ => rfl⟩
theorem aM_23 : MI 6 23 := ⟨⟨by decide, by decide⟩, fun _ _ _ => rfl⟩
theorem aM_24 : MI 8 24 := ⟨⟨by decide, by decide⟩, fun _ _ _ => rfl⟩
theorem aM_25 : MI 8 25 := ⟨⟨by decide, by decide⟩, fun _ _ _ => rfl⟩
theorem aM_26 : MI 8 26 := ⟨⟨by decide, by decide⟩, fun _ _ _ => rfl⟩
theorem aM_27 : MI 8 27 := ⟨⟨by decide, by decide⟩, fun _ _ _ => rfl⟩
theorem aM_28 : MI 80 28 := ⟨⟨by decide, by decide⟩, fun _ _ _ => rfl⟩
theorem aM_29 : MZ 3 29 := ⟨⟨by decide, by decide⟩, fun _ _ _ => rfl⟩
theorem aM_30 : MI 3 30 := ⟨⟨by decide, by decide⟩, fun _ _ _ => rfl⟩
theorem aM_31 : MI 114 31 := ⟨⟨by decide, by decide⟩, fun _ _ _ => rfl⟩
theorem gR_164 (τ : Nat → ClassId) (ad : Nat → Nat) (M : Mem) : (WX τ ad M)[164]? = some (ad 164, .inl (τ 3, 15, rfs (fun i => some (ad (50 + 7 * i))))) := wl_get (by decide) rfl
theorem gR_165 (τ : Nat → ClassId) (ad : Nat → Nat) (M : Mem) : (WX τ ad M)[165]? = some (ad 165, .inl (τ 3, 3, rfs (fun i => some (ad (29 + 7 * i))))) := wl_get (by decide) rfl
theorem gR_169 (τ : Nat → ClassId) (ad : Nat → Nat) (M : Mem) : (WX τ ad M)[169]? = some (ad 169, .inl (τ 4, 9, rfs (fun i => some (ad (170 + i))))) := wl_get (by decide) rfl
theorem XI_most {e : Int} (h0 : 0 ≤ e) (h1 : e < 9) : XI 64 (170 + e.toNat) := by
  have h : e.toNat = 0 ∨ e.toNat = 1 ∨ e.toNat = 2 ∨ e.toNat = 3 ∨ e.toNat = 4 ∨ e.toNat = 5 ∨ e.toNat = 6 ∨ e.toNat = 7 ∨ e.toNat = 8 := by omega
  rcases h with h | h | h | h | h | h | h | h | h <;> rw [h] <;> exact ⟨⟨by decide, by decide⟩, fun _ _ _ => rfl⟩
theorem ct_S {k : Nat} (h : isS k) (τ : Nat → ClassId) (ad : Nat → Nat) (r : Int → Int) : ctX τ ad k r = .inr (7, FS ad k r) := by
  unfold ctX
  have h1 := h.1
  have h2 := h.2.1
  rw [if_neg (by omega), if_pos h2, h.2.2]
  rfl
theorem gS_X {k : Nat} (h : isS k) (τ : Nat → ClassId) (ad : Nat → Nat) (M : Mem) : (WX τ ad M)[k]? = some (ad k, .inr (7, FS ad k (M k))) := wl_get (by have := h.2.1; omega) (ct_S h τ ad _)
theorem isS_f0 {k : Nat} (h : isS k) : XI 6 (k + 1) := by
  refine ⟨⟨by omega, by have := h.2.1; have := h.2.2; omega⟩, fun τ ad r => ?_⟩
  unfold ctX
  have h2 := h.2.1
  have h3 := h.2.2
  rw [if_neg (by omega), if_pos (by omega), show (k + 1 - 1) % 7 = 1 by have := h.1; omega]
  rfl
theorem isS_f1 {k : Nat} (h : isS k) : XI 6 (k + 2) := by
  refine ⟨⟨by omega, by have := h.2.1; have := h.2.2; omega⟩, fun τ ad r => ?_⟩
  unfold ctX
  have h2 := h.2.1
  have h3 := h.2.2
  rw [if_neg (by omega), if_pos (by omega), show (k + 2 - 1) % 7 = 2 by have := h.1; omega]
  rfl
theorem isS_f2 {k : Nat} (h : isS k) : XI 8 (k + 3) := by
  refine ⟨⟨by omega, by have := h.2.1; have := h.2.2; omega⟩, fun τ ad r => ?_⟩
  unfold ctX
  have h2 := h.2.1
  have h3 := h.2.2
  rw [if_neg (by omega), if_pos (by omega), show (k + 3 - 1) % 7 = 3 by have := h.1; omega]
  rfl
theorem isS_f3 {k : Nat} (h : isS k) : XI 8 (k + 4) := by
  refine ⟨⟨by omega, by have := h.2.1; have := h.2.2; omega⟩, fun τ ad r => ?_⟩
  unfold ctX
  have h2 := h.2.1
  have h3 := h.2.2
  rw [if_neg (by omega), if_pos (by omega), show (k + 4 - 1) % 7 = 4 by have := h.1; omega]
  rfl
theorem isS_f4 {k : Nat} (h : isS k) : XI 8 (k + 5) := by
  refine ⟨⟨by omega, by have := h.2.1; have := h.2.2; omega⟩, fun τ ad r => ?_⟩
  unfold ctX
  have h2 := h.2.1
  have h3 := h.2.2
  rw [if_neg (by omega), if_pos (by omega), show (k + 5 - 1) % 7 = 5 by have := h.1; omega]
  rfl
theorem isS_f5 {k : Nat} (h : isS k) : XI 8 (k + 6) := by
  refine ⟨⟨by omega, by have := h.2.1; have := h.2.2; omega⟩, fun τ ad r => ?_⟩
  unfold ctX
  have h2 := h.2.1
  have h3 := h.2.2
  rw [if_neg (by omega), if_pos (by omega), show (k + 6 - 1) % 7 = 6 by have := h.1; omega]
  rfl
theorem sS_6 {k : Nat} (h : isS k) (τ : Nat → ClassId) (ad : Nat → Nat) (M : Mem) (v : Int) : (WX τ ad M).set k (ad k, .inr (7, (FS ad k (M k)).set 6 (.int (iI v)))) = WX τ ad (up2 M k 6 v) := wl_up (by rw [ct_S h]; rfl)
theorem sS_7 {k : Nat} (h : isS k) (τ : Nat → ClassId) (ad : Nat → Nat) (M : Mem) (v : Int) : (WX τ ad M).set k (ad k, .inr (7, (FS ad k (M k)).set 7 (.int (iI v)))) = WX τ ad (up2 M k 7 v) := wl_up (by rw [ct_S h]; rfl)
theorem sS_8 {k : Nat} (h : isS k) (τ : Nat → ClassId) (ad : Nat → Nat) (M : Mem) (v : Int) : (WX τ ad M).set k (ad k, .inr (7, (FS ad k (M k)).set 8 (.int (iI v)))) = WX τ ad (up2 M k 8 v) := wl_up (by rw [ct_S h]; rfl)
theorem sS_9 {k : Nat} (h : isS k) (τ : Nat → ClassId) (ad : Nat → Nat) (M : Mem) (v : Int) : (WX τ ad M).set k (ad k, .inr (7, (FS ad k (M k)).set 9 (.int (iI v)))) = WX τ ad (up2 M k 9 v) := wl_up (by rw [ct_S h]; rfl)
theorem sS_10 {k : Nat} (h : isS k) (τ : Nat → ClassId) (ad : Nat → Nat) (M : Mem) (v : Int) : (WX τ ad M).set k (ad k, .inr (7, (FS ad k (M k)).set 10 (.int (iI v)))) = WX τ ad (up2 M k 10 v) := wl_up (by rw [ct_S h]; rfl)
theorem ct_L {k : Nat} (h : isL k) (τ : Nat → ClassId) (ad : Nat → Nat) (r : Int → Int) : ctX τ ad k r = .inr (3, FL ad k r) := by
  rcases h with rfl | rfl <;> rfl
theorem gL_X {k : Nat} (h : isL k) (τ : Nat → ClassId) (ad : Nat → Nat) (M : Mem) : (WX τ ad M)[k]? = some (ad k, .inr (3, FL ad k (M k))) := wl_get (by rcases h with rfl | rfl <;> decide) (ct_L h τ ad _)
theorem isL_f0 {k : Nat} (h : isL k) : XI 40 (k + 1) := by
  rcases h with rfl | rfl <;> exact ⟨⟨by decide, by decide⟩, fun _ _ _ => rfl⟩
theorem isL_f1 {k : Nat} (h : isL k) : XI 40 (k + 2) := by
  rcases h with rfl | rfl <;> exact ⟨⟨by decide, by decide⟩, fun _ _ _ => rfl⟩
theorem isL_f2 {k : Nat} (h : isL k) : XI 40 (k + 3) := by
  rcases h with rfl | rfl <;> exact ⟨⟨by decide, by decide⟩, fun _ _ _ => rfl⟩
theorem isL_f3 {k : Nat} (h : isL k) : XI 7 (k + 4) := by
  rcases h with rfl | rfl <;> exact ⟨⟨by decide, by decide⟩, fun _ _ _ => rfl⟩
theorem sL_4 {k : Nat} (h : isL k) (τ : Nat → ClassId) (ad : Nat → Nat) (M : Mem) (v : Int) : (WX τ ad M).set k (ad k, .inr (3, (FL ad k (M k)).set 4 (.int (iI v)))) = WX τ ad (up2 M k 4 v) := wl_up (by rw [ct_L h]; rfl)
theorem sL_5 {k : Nat} (h : isL k) (τ : Nat → ClassId) (ad : Nat → Nat) (M : Mem) (v : Int) : (WX τ ad M).set k (ad k, .inr (3, (FL ad k (M k)).set 5 (.int (iI v)))) = WX τ ad (up2 M k 5 v) := wl_up (by rw [ct_L h]; rfl)
theorem gX_155 (τ : Nat → ClassId) (ad : Nat → Nat) (M : Mem) : (WX τ ad M)[155]? = some (ad 155, .inr (12, FX155 ad (M 155))) := wl_get (by decide) rfl
theorem sX_155_15 (τ : Nat → ClassId) (ad : Nat → Nat) (M : Mem) (v : Int) : (WX τ ad M).set 155 (ad 155, .inr (12, (FX155 ad (M 155)).set 15 (.int (iI v)))) = WX τ ad (up2 M 155 15 v) := wl_up rfl
theorem sX_155_16 (τ : Nat → ClassId) (ad : Nat → Nat) (M : Mem) (v : Nat) : (WX τ ad M).set 155 (ad 155, .inr (12, (FX155 ad (M 155)).set 16 (.ref (ad v)))) = WX τ ad (up2 M 155 16 (v : Int)) := wl_up rfl
theorem sX_155_17 (τ : Nat → ClassId) (ad : Nat → Nat) (M : Mem) (v : Nat) : (WX τ ad M).set 155 (ad 155, .inr (12, (FX155 ad (M 155)).set 17 (.ref (ad v)))) = WX τ ad (up2 M 155 17 (v : Int)) := wl_up rfl
theorem gX_156 (τ : Nat → ClassId) (ad : Nat → Nat) (M : Mem) : (WX τ ad M)[156]? = some (ad 156, .inr (10, FX156 ad (M 156))) := wl_get (by decide) rfl
theorem sX_156_1 (τ : Nat → ClassId) (ad : Nat → Nat) (M : Mem) (v : Int) : (WX τ ad M).set 156 (ad 156, .inr (10, (FX156 ad (M 156)).set 1 (.int (iI v)))) = WX τ ad (up2 M 156 1 v) := wl_up rfl
theorem sX_156_2 (τ : Nat → ClassId) (ad : Nat → Nat) (M : Mem) (v : Int) : (WX τ ad M).set 156 (ad 156, .inr (10, (FX156 ad (M 156)).set 2 (.int (iI v)))) = WX τ ad (up2 M 156 2 v) := wl_up rfl
theorem sX_156_3 (τ : Nat → ClassId) (ad : Nat → Nat) (M : Mem) (v : Int) : (WX τ ad M).set 156 (ad 156, .inr (10, (FX156 ad (M 156)).set 3 (.int (iI v)))) = WX τ ad (up2 M 156 3 v) := wl_up rfl
theorem gX_158 (τ : Nat → ClassId) (ad : Nat → Nat) (M : Mem) : (WX τ ad M)[158]? = some (ad 158, .inr (9, FX158 ad (M 158))) := wl_get (by decide) rfl
theorem sX_158_1 (τ : Nat → ClassId) (ad : Nat → Nat) (M : Mem) (v : Int) : (WX τ ad M).set 158 (ad 158, .inr (9, (FX158 ad (M 158)).set 1 (.int (iI v)))) = WX τ ad (up2 M 158 1 v) := wl_up rfl
theorem sX_158_2 (τ : Nat → ClassId) (ad : Nat → Nat) (M : Mem) (v : Int) : (WX τ ad M).set 158 (ad 158, .inr (9, (FX158 ad (M 158)).set 2 (.int (iI v)))) = WX τ ad (up2 M 158 2 v) := wl_up rfl
theorem sX_158_3 (τ : Nat → ClassId) (ad : Nat → Nat) (M : Mem) (v : Int) : (WX τ ad M).set 158 (ad 158, .inr (9, (FX158 ad (M 158)).set 3 (.int (iI v)))) = WX τ ad (up2 M 158 3 v) := wl_up rfl
theorem gX_160 (τ : Nat → ClassId) (ad : Nat → Nat) (M : Mem) : (WX τ ad M)[160]? = some (ad 160, .inr (11, FX160 ad (M 160))) := wl_get (by decide) rfl
theorem sX_160_3 (τ : Nat → ClassId) (ad : Nat → Nat) (M : Mem) (v : Int) : (WX τ ad M).set 160 (ad 160, .inr (11, (FX160 ad (M 160)).set 3 (.int (iI v)))) = WX τ ad (up2 M 160 3 v) := wl_up rfl
theorem sX_160_4 (τ : Nat → ClassId) (ad : Nat → Nat) (M : Mem) (v : Int) : (WX τ ad M).set 160 (ad 160, .inr (11, (FX160 ad (M 160)).set 4 (.int (iI v)))) = WX τ ad (up2 M 160 4 v) := wl_up rfl
theorem sX_160_5 (τ : Nat → ClassId) (ad : Nat → Nat) (M : Mem) (v : Int) : (WX τ ad M).set 160 (ad 160, .inr (11, (FX160 ad (M 160)).set 5 (.int (iI v)))) = WX τ ad (up2 M 160 5 v) := wl_up rfl
theorem gX_163 (τ : Nat → ClassId) (ad : Nat → Nat) (M : Mem) : (WX τ ad M)[163]? = some (ad 163, .inr (2, FX163 ad (M 163))) := wl_get (by decide) rfl
theorem sX_163_1 (τ : Nat → ClassId) (ad : Nat → Nat) (M : Mem) (v : Int) : (WX τ ad M).set 163 (ad 163, .inr (2, (FX163 ad (M 163)).set 1 (.int (iI v)))) = WX τ ad (up2 M 163 1 v) := wl_up rfl
theorem sX_163_2 (τ : Nat → ClassId) (ad : Nat → Nat) (M : Mem) (v : Int) : (WX τ ad M).set 163 (ad 163, .inr (2, (FX163 ad (M 163)).set 2 (.int (iI v)))) = WX τ ad (up2 M 163 2 v) := wl_up rfl
theorem gX_167 (τ : Nat → ClassId) (ad : Nat → Nat) (M : Mem) : (WX τ ad M)[167]? = some (ad 167, .inr (5, FX167 ad (M 167))) := wl_get (by decide) rfl
theorem sX_167_1 (τ : Nat → ClassId) (ad : Nat → Nat) (M : Mem) (v : Int) : (WX τ ad M).set 167 (ad 167, .inr (5, (FX167 ad (M 167)).set 1 (.int (iI v)))) = WX τ ad (up2 M 167 1 v) := wl_up rfl
theorem gX_168 (τ : Nat → ClassId) (ad : Nat → Nat) (M : Mem) : (WX τ ad M)[168]? = some (ad 168, .inr (8, FX168 ad (M 168))) := wl_get (by decide) rfl
theorem sX_168_1 (τ : Nat → ClassId) (ad : Nat → Nat) (M : Mem) (v : Int) : (WX τ ad M).set 168 (ad 168, .inr (8, (FX168 ad (M 168)).set 1 (.int (iI v)))) = WX τ ad (up2 M 168 1 v) := wl_up rfl
theorem gX_179 (τ : Nat → ClassId) (ad : Nat → Nat) (M : Mem) : (WX τ ad M)[179]? = some (ad 179, .inr (4, FX179 ad (M 179))) := wl_get (by decide) rfl
theorem sX_179_2 (τ : Nat → ClassId) (ad : Nat → Nat) (M : Mem) (v : Int) : (WX τ ad M).set 179 (ad 179, .inr (4, (FX179 ad (M 179)).set 2 (.int (iI v)))) = WX τ ad (up2 M 179 2 v) := wl_up rfl
theorem gX_182 (τ : Nat → ClassId) (ad : Nat → Nat) (M : Mem) : (WX τ ad M)[182]? = some (ad 182, .inr (1, FX182 ad (M 182))) := wl_get (by decide) rfl
theorem sX_182_2 (τ : Nat → ClassId) (ad : Nat → Nat) (M : Mem) (v : Int) : (WX τ ad M).set 182 (ad 182, .inr (1, (FX182 ad (M 182)).set 2 (.int (iI v)))) = WX τ ad (up2 M 182 2 v) := wl_up rfl
theorem gX_185 (τ : Nat → ClassId) (ad : Nat → Nat) (M : Mem) : (WX τ ad M)[185]? = some (ad 185, .inr (6, FX185 ad (M 185))) := wl_get (by decide) rfl
theorem sX_185_1 (τ : Nat → ClassId) (ad : Nat → Nat) (M : Mem) (v : Int) : (WX τ ad M).set 185 (ad 185, .inr (6, (FX185 ad (M 185)).set 1 (.int (iI v)))) = WX τ ad (up2 M 185 1 v) := wl_up rfl
theorem sX_185_2 (τ : Nat → ClassId) (ad : Nat → Nat) (M : Mem) (v : Int) : (WX τ ad M).set 185 (ad 185, .inr (6, (FX185 ad (M 185)).set 2 (.int (iI v)))) = WX τ ad (up2 M 185 2 v) := wl_up rfl
theorem sX_185_3 (τ : Nat → ClassId) (ad : Nat → Nat) (M : Mem) (v : Int) : (WX τ ad M).set 185 (ad 185, .inr (6, (FX185 ad (M 185)).set 3 (.int (iI v)))) = WX τ ad (up2 M 185 3 v) := wl_up rfl
theorem gM_1 (τ : Nat → ClassId) (ad : Nat → Nat) (M : Mem) : (WM τ ad M)[1]? = some (ad 1, .inr (13, FM1 ad (M 1))) := wl_get (by decide) rfl
theorem sM_1_0 (τ : Nat → ClassId) (ad : Nat → Nat) (M : Mem) (v : Int) : (WM τ ad M).set 1 (ad 1, .inr (13, (FM1 ad (M 1)).set 0 (.int (iI v)))) = WM τ ad (up2 M 1 0 v) := wl_up rfl
theorem sM_1_1 (τ : Nat → ClassId) (ad : Nat → Nat) (M : Mem) (v : Int) : (WM τ ad M).set 1 (ad 1, .inr (13, (FM1 ad (M 1)).set 1 (.int (iI v)))) = WM τ ad (up2 M 1 1 v) := wl_up rfl
theorem sM_1_3 (τ : Nat → ClassId) (ad : Nat → Nat) (M : Mem) (v : Int) : (WM τ ad M).set 1 (ad 1, .inr (13, (FM1 ad (M 1)).set 3 (.int (iI v)))) = WM τ ad (up2 M 1 3 v) := wl_up rfl
theorem sM_1_4 (τ : Nat → ClassId) (ad : Nat → Nat) (M : Mem) (v : Int) : (WM τ ad M).set 1 (ad 1, .inr (13, (FM1 ad (M 1)).set 4 (.int (iI v)))) = WM τ ad (up2 M 1 4 v) := wl_up rfl
theorem sM_1_5 (τ : Nat → ClassId) (ad : Nat → Nat) (M : Mem) (v : Int) : (WM τ ad M).set 1 (ad 1, .inr (13, (FM1 ad (M 1)).set 5 (.int (iI v)))) = WM τ ad (up2 M 1 5 v) := wl_up rfl
theorem sM_1_6 (τ : Nat → ClassId) (ad : Nat → Nat) (M : Mem) (v : Int) : (WM τ ad M).set 1 (ad 1, .inr (13, (FM1 ad (M 1)).set 6 (.int (iI v)))) = WM τ ad (up2 M 1 6 v) := wl_up rfl
theorem sM_1_7 (τ : Nat → ClassId) (ad : Nat → Nat) (M : Mem) (v : Int) : (WM τ ad M).set 1 (ad 1, .inr (13, (FM1 ad (M 1)).set 7 (.int (iI v)))) = WM τ ad (up2 M 1 7 v) := wl_up rfl
theorem sM_1_14 (τ : Nat → ClassId) (ad : Nat → Nat) (M : Mem) (v : Int) : (WM τ ad M).set 1 (ad 1, .inr (13, (FM1 ad (M 1)).set 14 (.int (iI v)))) = WM τ ad (up2 M 1 14 v) := wl_up rfl
theorem sM_1_15 (τ : Nat → ClassId) (ad : Nat → Nat) (M : Mem) (v : Int) : (WM τ ad M).set 1 (ad 1, .inr (13, (FM1 ad (M 1)).set 15 (.int (iI v)))) = WM τ ad (up2 M 1 15 v) := wl_up rfl
theorem sM_1_16 (τ : Nat → ClassId) (ad : Nat → Nat) (M : Mem) (v : Int) : (WM τ ad M).set 1 (ad 1, .inr (13, (FM1 ad (M 1)).set 16 (.int (iI v)))) = WM τ ad (up2 M 1 16 v) := wl_up rfl
theorem sM_1_17 (τ : Nat → ClassId) (ad : Nat → Nat) (M : Mem) (v : Int) : (WM τ ad M).set 1 (ad 1, .inr (13, (FM1 ad (M 1)).set 17 (.int (iI v)))) = WM τ ad (up2 M 1 17 v) := wl_up rfl
theorem sM_1_20 (τ : Nat → ClassId) (ad : Nat → Nat) (M : Mem) (v : Int) : (WM τ ad M).set 1 (ad 1, .inr (13, (FM1 ad (M 1)).set 20 (.int (iI v)))) = WM τ ad (up2 M 1 20 v) := wl_up rfl
theorem sM_1_24 (τ : Nat → ClassId) (ad : Nat → Nat) (M : Mem) (v : Int) : (WM τ ad M).set 1 (ad 1, .inr (13, (FM1 ad (M 1)).set 24 (.int (iI v)))) = WM τ ad (up2 M 1 24 v) := wl_up rfl
theorem sM_1_25 (τ : Nat → ClassId) (ad : Nat → Nat) (M : Mem) (v : Int) : (WM τ ad M).set 1 (ad 1, .inr (13, (FM1 ad (M 1)).set 25 (.int (iI v)))) = WM τ ad (up2 M 1 25 v) := wl_up rfl
theorem sM_1_28 (τ : Nat → ClassId) (ad : Nat → Nat) (M : Mem) (v : Int) : (WM τ ad M).set 1 (ad 1, .inr (13, (FM1 ad (M 1)).set 28 (.int (iI v)))) = WM τ ad (up2 M 1 28 v) := wl_up rfl
theorem sM_1_30 (τ : Nat → ClassId) (ad : Nat → Nat) (M : Mem) (v : Int) : (WM τ ad M).set 1 (ad 1, .inr (13, (FM1 ad (M 1)).set 30 (.int (iI v)))) = WM τ ad (up2 M 1 30 v) := wl_up rfl
theorem sM_1_31 (τ : Nat → ClassId) (ad : Nat → Nat) (M : Mem) (v : Int) : (WM τ ad M).set 1 (ad 1, .inr (13, (FM1 ad (M 1)).set 31 (.int (iI v)))) = WM τ ad (up2 M 1 31 v) := wl_up rfl
theorem sM_1_35 (τ : Nat → ClassId) (ad : Nat → Nat) (M : Mem) (v : Int) : (WM τ ad M).set 1 (ad 1, .inr (13, (FM1 ad (M 1)).set 35 (.int (iI v)))) = WM τ ad (up2 M 1 35 v) := wl_up rfl
theorem sM_1_39 (τ : Nat → ClassId) (ad : Nat → Nat) (M : Mem) (v : Int) : (WM τ ad M).set 1 (ad 1, .inr (13, (FM1 ad (M 1)).set 39 (.int (iI v)))) = WM τ ad (up2 M 1 39 v) := wl_up rfl
theorem sM_1_42 (τ : Nat → ClassId) (ad : Nat → Nat) (M : Mem) (v : Int) : (WM τ ad M).set 1 (ad 1, .inr (13, (FM1 ad (M 1)).set 42 (.int (iI v)))) = WM τ ad (up2 M 1 42 v) := wl_up rfl
theorem sM_1_45 (τ : Nat → ClassId) (ad : Nat → Nat) (M : Mem) (v : Int) : (WM τ ad M).set 1 (ad 1, .inr (13, (FM1 ad (M 1)).set 45 (.int (iI v)))) = WM τ ad (up2 M 1 45 v) := wl_up rfl
theorem sM_1_49 (τ : Nat → ClassId) (ad : Nat → Nat) (M : Mem) (v : Int) : (WM τ ad M).set 1 (ad 1, .inr (13, (FM1 ad (M 1)).set 49 (.int (iI v)))) = WM τ ad (up2 M 1 49 v) := wl_up rfl
end
section
/-! STR: the JDK's String, by contract, over strings that are there -/
def W0 : Mem → va_W := fun _ => []
def T0 : Mem → Prop := fun _ => True
def m0 : Mem := fun _ _ => 0
theorem wq_0 : WQ W0 := ⟨0, fun _ => rfl, rfl⟩
theorem ST.down {D : va_G} {A : Nat → Prop} {s : State} {H : Heap} {locs : List Loc} {ws wc : va_W} {sa sv : Nat} {bs : List Int} (hST : ST A s s.heap sa sv bs) (hA : ∀ q, s.heap.size ≤ q → A q) (hw : wS D A s.heap ws H locs) (isC : List Nat) (hCm : isC.map (fun i => ws[i]?) = wc.map some) : ST (va_A wc H.size) s H sa sv bs := (hST.kept hw.2.2.2.1).narrow (va_free hw.2.1 hw.2.2 hA isC hCm)
section RS
variable {p : Program} {l : Launch} {e : Env} {R : Room} {s : State} {m : MethodId} {args : Array Value} {below : List Frame} {meth : Method} {c : Code} {H : Heap} {locs : List Loc} {cells slots : Nat} {Q : State → Prop}
variable {cc : ByteArray} {pc : Nat} {ls : Array Slot} {rest st0 : List Value} {D : va_G} {A : Nat → Prop} {a : Nat} {ws wc wr : va_W} {H0 : Heap} {τ : Nat → ClassId} {own : String} {sA sV : Nat → Nat}
variable {y : MethodName} {b : ByteArray} {mL n lev mc ms index nL cells' slots' : Nat} {ret : Option FieldType} {As : List Value} {Wf : Mem → va_W} {Rf : Mem → Prop} {M0 : Mem}
theorem k_nret (hWQ : WQ Wf) (hx : p.tables.exec = Jvm.exec) (hb : c.code = cc) {ty : FieldType} (hr : meth.sig.returnType = some ty) {z : Int} (hnr : narrow ty (.int (iI z)) = .int (iI z)) (hlk : meth.locks = false) (hw : wS D A s.heap (Wf M0) H locs) {Q1 : Int → Mem → Prop} (hM : Rf M0) (hz : iR z) (hv : Q1 z M0) (hd : decode cc pc = .ok (.ireturn, 1)) : W p l e R s m args below meth c H locs cells slots (MQ below (gQi D (EQi Wf Rf Q1) A) args s cells slots A) (F0 m pc ls [.int (iI z)]) := by
  obtain ⟨N, hN, hnd⟩ := hWQ
  have hp := pick_all (Wf M0)
  rw [hN] at hp
  exact W.zret hx hb hr hnr (fun t ht hW => ⟨⟨iI z, iI z, rfl, rfl, z, hz, rfl, Wf M0, ⟨M0, hM, hv, rfl⟩, by rw [ht]; exact P_pick hw.1 hp, hw.2.1.sub (List.range N) hnd hp⟩, hw.2.2.F ht⟩) hw.2.2.2.2 hd hlk
/-- a call of a String's method, over a world that it doesn't touch -/
theorem t_cVi0 (hWQ : WQ Wf) (hx : p.tables.exec = Jvm.exec) (hb : c.code = cc) (hml : c.maxLocals = nL) (hC : cx D τ s m args own) (hLS : LK A s s.heap sA sV) (hA : ∀ q, s.heap.size ≤ q → A q) (hw : wS D A s.heap (Wf M0) H locs) (hl : ls.size = nL) {P : Int → Prop} {sa sv : Nat} {bs : List Int} (hST : ST A s s.heap sa sv bs) (hy : y.cls = RJ0) (M : Met l y (lw_w y b mL ret) (rmk lev 0 0) (tPc D τ sA sV (W0 m0) H.size sa sv bs (.ref sa :: As)) (gQi D (EQi W0 T0 (fun z _ => P z)) (va_A (W0 m0) H.size)) 0 0 (va_A (W0 m0) H.size)) (K : KV y b mL ret n) (hlk : Cond.methodLink own index y ∈ lw_good) (hst : st0 = As.reverse ++ .ref sa :: rest) (hn : As.length = n) (hcat : (rest.map fun v => v.category).sum ≤ 8) (hroom : lev + 1 ≤ R.frames ∧ 8 + (mL + 11) + 64 * lev ≤ R.locals) (hcs : cells ≤ R.cells ∧ slots ≤ R.slots) (hd : decode cc pc = .ok (.invokevirtual index, 3))
    (kk : ∀ (z : Int) (H : Heap) (locs : List Loc), iR z → P z → wS D A s.heap (Wf M0) H locs → W p l e R s m args below meth c H locs cells slots Q (F0 m (pc + 3) ls (.int (iI z) :: rest))) : W p l e R s m args below meth c H locs cells slots Q (F0 m pc ls st0) := by
  obtain ⟨N, hN, hnd⟩ := hWQ
  have hp := pick_all (Wf M0)
  rw [hN] at hp
  refine t_cVi (wr := Wf M0) hx hb hml hC hLS hA hw hl (hST.down hA hw [] rfl) M K hlk [] (List.range N) rfl hp rfl hnd (fun i _ h => absurd h List.not_mem_nil) (by rw [hy]; exact hST.recv hw.2.2) hst hn hcat hroom hcs rfl rfl hd (fun z M1 H1 locs1 hz _ hP h1 => kk z H1 locs1 hz hP ?_)
  have h2 : Wf M0 ++ W0 M1 = Wf M0 := List.append_nil _
  rw [h2] at h1
  exact h1
end RS
theorem fl_J0_38 : Cond.fieldLink RJ0 38 RJ0 "COMPACT_STRINGS" "Z" ∈ lw_good := lw_gl (ws := [_]) (by decide +kernel) _ (List.mem_singleton.mpr rfl)
theorem fl_J0_9 : Cond.fieldLink RJ0 9 RJ0 "value" "[B" ∈ lw_good := lw_gl (ws := [_]) (by decide +kernel) _ (List.mem_singleton.mpr rfl)
theorem fl_J0_15 : Cond.fieldLink RJ0 15 RJ0 "coder" "B" ∈ lw_good := lw_gl (ws := [_]) (by decide +kernel) _ (List.mem_singleton.mpr rfl)
theorem fl_J0_1053 : Cond.fieldLink RJ0 1053 RJ3 "SIOOBE_FORMATTER" "Ljava/util/function/BiFunction;" ∈ lw_good := lw_gl (ws := [_]) (by decide +kernel) _ (List.mem_singleton.mpr rfl)
theorem s_coder (l : Launch) (D : va_G) (τ : Nat → ClassId) (sA sV : Nat → Nat) (sz sa sv : Nat) (bs : List Int) : Met l yJ0_coder_7d493 (lw_w yJ0_coder_7d493 cJ0_coder_7d493 1 (some .byte)) (rmk 1 0 0) (tPc D τ sA sV (W0 m0) sz sa sv bs [.ref sa]) (gQi D (EQi W0 T0 (fun z _ => z = 0)) (va_A (W0 m0) sz)) 0 0 (va_A (W0 m0) sz) := by
  refine t_met (ret := some .byte) (Qc := gQi D (EQi W0 T0 (fun z _ => z = 0))) (by decide +kernel) (Nat.le_of_ble_eq_true rfl) ?_
  intro p e s m args below meth c A ls hx hb hml hr hlk hnm hC hLS hST hA hw hl
  have hC : cx D τ s m args RJ0 := hC
  have hl : lv_has ls 1 [(0, .ref sa)] := hl
  refine va_gets hx hb hLS.2.1 hw.2.2 hC.2.1 (hC.1 _ fl_J0_38) (fun _ h => h) dJ0_coder_7d493_0 ?_
  rw [show (Value.int 1) = .int (iI 1) from rfl]
  refine r_if_eq (tgt := 13) hx hb dJ0_coder_7d493_3 (by decide) (by decide) (fun h => absurd h (by decide)) (fun _ => ?_)
  refine lv_aload_n hx hb dJ0_coder_7d493_6 rfl (lv_at hl 0 rfl) ?_
  refine vk_getf hx hb hST.2.1 hw.2.2 hC.2.1 (hC.1 _ fl_J0_15) (fun _ h => h) dJ0_coder_7d493_7 ?_
  refine lv_goto (tgt := 14) hx hb dJ0_coder_7d493_10 (by decide) ?_
  exact k_nret wq_0 (Rf := T0) (z := 0) hx hb hr rfl hlk hw trivial (by decide) rfl dJ0_coder_7d493_14
theorem s_latin (l : Launch) (D : va_G) (τ : Nat → ClassId) (sA sV : Nat → Nat) (sz sa sv : Nat) (bs : List Int) : Met l yJ0_isLatin1_aae02 (lw_w yJ0_isLatin1_aae02 cJ0_isLatin1_aae02 1 (some .boolean)) (rmk 1 0 0) (tPc D τ sA sV (W0 m0) sz sa sv bs [.ref sa]) (gQi D (EQi W0 T0 (fun z _ => z = 1)) (va_A (W0 m0) sz)) 0 0 (va_A (W0 m0) sz) := by
  refine t_met (ret := some .boolean) (Qc := gQi D (EQi W0 T0 (fun z _ => z = 1))) (by decide +kernel) (Nat.le_of_ble_eq_true rfl) ?_
  intro p e s m args below meth c A ls hx hb hml hr hlk hnm hC hLS hST hA hw hl
  have hC : cx D τ s m args RJ0 := hC
  have hl : lv_has ls 1 [(0, .ref sa)] := hl
  refine va_gets hx hb hLS.2.1 hw.2.2 hC.2.1 (hC.1 _ fl_J0_38) (fun _ h => h) dJ0_isLatin1_aae02_0 ?_
  rw [show (Value.int 1) = .int (iI 1) from rfl]
  refine r_if_eq (tgt := 17) hx hb dJ0_isLatin1_aae02_3 (by decide) (by decide) (fun h => absurd h (by decide)) (fun _ => ?_)
  refine lv_aload_n hx hb dJ0_isLatin1_aae02_6 rfl (lv_at hl 0 rfl) ?_
  refine vk_getf hx hb hST.2.1 hw.2.2 hC.2.1 (hC.1 _ fl_J0_15) (fun _ h => h) dJ0_isLatin1_aae02_7 ?_
  rw [show (Value.int 0) = .int (iI 0) from rfl]
  refine r_if_ne (tgt := 17) hx hb dJ0_isLatin1_aae02_10 (by decide) (by decide) (fun h => absurd rfl h) (fun _ => ?_)
  refine r_iconst hx hb dJ0_isLatin1_aae02_13 ?_
  refine lv_goto (tgt := 18) hx hb dJ0_isLatin1_aae02_14 (by decide) ?_
  exact k_nret wq_0 (Rf := T0) (z := 1) hx hb hr rfl hlk hw trivial (by decide) rfl dJ0_isLatin1_aae02_18
theorem shr0 {n : Nat} : iI n >>> (iI 0 &&& 31) = iI n := by
  have h : iI 0 &&& 31 = (0 : Int32) := by decide
  rw [h]
  apply Int32.toBitVec_inj.mp
  simp
theorem s_length (l : Launch) (D : va_G) (τ : Nat → ClassId) (sA sV : Nat → Nat) (sz sa sv : Nat) (bs : List Int) : Met l yJ0_length_8abf5 (lw_w yJ0_length_8abf5 cJ0_length_8abf5 1 (some .int)) (rmk 2 0 0) (tPc D τ sA sV (W0 m0) sz sa sv bs [.ref sa]) (gQi D (EQi W0 T0 (fun z _ => z = bs.length)) (va_A (W0 m0) sz)) 0 0 (va_A (W0 m0) sz) := by
  refine t_met (ret := some .int) (Qc := gQi D (EQi W0 T0 (fun z _ => z = bs.length))) (by decide +kernel) (Nat.le_of_ble_eq_true rfl) ?_
  intro p e s m args below meth c A ls hx hb hml hr hlk hnm hC hLS hST hA hw hl
  have hC : cx D τ s m args RJ0 := hC
  have hl : lv_has ls 1 [(0, .ref sa)] := hl
  have hn := hST.2.2.2.2.2
  refine lv_aload_n hx hb dJ0_length_8abf5_0 rfl (lv_at hl 0 rfl) ?_
  refine vk_getf hx hb hST.2.2.1 hw.2.2 hC.2.1 (hC.1 _ fl_J0_9) (fun _ h => h) dJ0_length_8abf5_1 ?_
  refine va_tlen (v := iI bs.length) hx hb hST.2.2.2.1 hw.2.2 rfl dJ0_length_8abf5_4 ?_
  refine lv_aload_n hx hb dJ0_length_8abf5_5 rfl (lv_at hl 0 rfl) ?_
  refine t_cVi0 wq_0 (As := []) (rest := [.int (iI bs.length)]) hx hb hml hC hLS hA hw hl.1 hST rfl (s_coder l D τ sA sV _ sa sv bs) kJ0_coder_7d493 ml_J0_335 rfl rfl (Nat.le_of_ble_eq_true rfl) (rm_ok (by decide) (by decide)) ⟨by decide, by decide⟩ dJ0_length_8abf5_6 (fun z1 H locs hz1 hE1 hw => ?_)
  subst hE1
  refine lv_ishr hx hb dJ0_length_8abf5_9 ?_
  rw [shr0]
  exact k_nret wq_0 (Rf := T0) (z := bs.length) hx hb hr rfl hlk hw trivial (by omega) rfl dJ0_length_8abf5_10
end
