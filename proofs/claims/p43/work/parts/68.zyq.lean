/-! HOW MANY NUMBERS THE ROW HAS BEHIND A CALL, by program: the reference -/
theorem cmX12_in {p0 p2 p4 : Int} {M : Mem} {Q Q' : Int → Mem → Prop} (h : qX12_in p0 p2 p4 M Q) (hQ : ∀ z : Int, ((z = 1 ∧ p2 ≤ p0 ∧ p0 ≤ p4) ∨ (z = 0 ∧ (p0 < p2 ∨ p4 < p0))) → Q z M → Q' z M) : qX12_in p0 p2 p4 M Q' := by
  unfold qX12_in at h ⊢
  intro x1 r1 c1
  have h1 := h x1 r1 c1
  refine ⟨fun a => hQ _ (by omega) (h1.1 a), fun a x3 r3 c3 => ?_⟩
  have h3 := h1.2 a x3 r3 c3
  exact ⟨fun b => hQ _ (by omega) (h3.1 b), fun b => hQ _ (by omega) (h3.2 b)⟩
theorem cmX12_isEnded {k0 : Nat} {p1 : Int} {M : Mem} {Q Q' : Int → Mem → Prop} (h : qX12_isEnded k0 p1 M Q) (hQ : ∀ z : Int, (z = 0 ∨ 0 ≤ M k0 (29 + p1)) → Q z M → Q' z M) : qX12_isEnded k0 p1 M Q' := by
  unfold qX12_isEnded at h ⊢
  obtain ⟨v1, v2, h3⟩ := h
  refine ⟨v1, v2, fun x3 e3 r3 => ?_⟩
  have h4 := h3 x3 e3 r3
  exact ⟨fun c => hQ _ (Or.inl rfl) (h4.1 c), fun c => hQ _ (Or.inr (by omega)) (h4.2 c)⟩
theorem cmX12_adds_L21 {p1 : Int} {g0 g1 : Int} {X49 X49' : Mem → Prop} {Q Q' : Int → Mem → Prop} (hQ : ∀ (w0 : Int) (M' : Mem), (False) → Q w0 M' → Q' w0 M') (hX49 : ∀ (M' : Mem), (M' 1 1 = g0) → X49 M' → X49' M') : ∀ (n : Nat) (v2 : Int) (M : Mem), (M 1 1 = g0) → qX12_adds_L21 p1 X49 Q n v2 M → qX12_adds_L21 p1 X49' Q' n v2 M := by
  intro n
  induction n with
  | zero => intro v2 M _ h; exact h.elim
  | succ n ih =>
    intro v2 M hI h
    rw [qX12_adds_L21] at h
    rw [qX12_adds_L21]
    obtain ⟨v1, h1⟩ := h
    refine ⟨v1, ?_⟩
    obtain ⟨h2, h3⟩ := h1
    refine ⟨?_, ?_⟩
    · intro g4
      have h5 := h2 g4
      exact hX49 _ (by first | exact True.intro | exact hI | omega) h5
    · intro g6
      have h7 := h3 g6
      obtain ⟨v8, h8⟩ := h7
      refine ⟨v8, ?_⟩
      obtain ⟨v9, h9⟩ := h8
      refine ⟨v9, ?_⟩
      intro x10_10 g11 g12
      have h10 := h9 x10_10 g11 g12
      obtain ⟨v13, h13⟩ := h10
      refine ⟨v13, ?_⟩
      obtain ⟨v14, h14⟩ := h13
      refine ⟨v14, ?_⟩
      intro M13_15 eM13_15
      have h15 := h14 M13_15 eM13_15
      have c16 : M13_15 1 1 = M 1 1 := by rw [eM13_15, up2_n (by omega)]
      exact ih _ _ (by first | exact True.intro | exact hI | (rw [c16]; exact hI) | omega) h15
theorem cmX12_adds {p1 : Int} {M : Mem} {Q Q' : Int → Mem → Prop} (h : qX12_adds p1 M Q) (hQ : ∀ (w0 : Int) (M' : Mem), (w0 = p1 ∧ M' 1 1 = M 1 1) → Q w0 M' → Q' w0 M') : qX12_adds p1 M Q' := by
  unfold qX12_adds at h ⊢
  intro x1_1 g2 g3
  have h1 := h x1_1 g2 g3
  obtain ⟨v4, h4⟩ := h1
  refine ⟨v4, ?_⟩
  intro M3_5 eM3_5
  have h5 := h4 M3_5 eM3_5
  have c6 : M3_5 1 1 = M 1 1 := by rw [eM3_5, up2_j (by omega)]
  intro x4_7 g8 g9
  have h7 := h5 x4_7 g8 g9
  obtain ⟨h10, h11⟩ := h7
  refine ⟨?_, ?_⟩
  · intro g12
    have h13 := h10 g12
    exact hQ _ _ (by first | exact True.intro | omega) h13
  · intro g14
    have h15 := h11 g14
    obtain ⟨n16, h16⟩ := h15
    refine ⟨n16, ?_⟩
    refine cmX12_adds_L21 (g0 := M3_5 1 1) (g1 := 0) ?_ ?_ _ _ _ (by first | exact True.intro | omega) h16
    · exact fun _ _ q _ => q.elim
    · intro M_20 c19 h19
      intro x15_21 g22 g23
      have h21 := h19 x15_21 g22 g23
      obtain ⟨v24, h24⟩ := h21
      refine ⟨v24, ?_⟩
      intro M17_25 eM17_25
      have h25 := h24 M17_25 eM17_25
      have c26 : M17_25 1 1 = M_20 1 1 := by rw [eM17_25, up2_j (by omega)]
      exact hQ _ _ (by first | exact True.intro | exact c19 | (rw [c26]; exact c19) | omega) h25
theorem cmX12_enters {p1 : Int} {M : Mem} {Q Q' : Mem → Prop} (h : qX12_enters p1 M Q) (hQ : ∀ (M' : Mem), (M' 1 1 = M 1 1 + 1) → Q M' → Q' M') : qX12_enters p1 M Q' := by
  unfold qX12_enters at h ⊢
  intro x1_1 g2 g3
  have h1 := h x1_1 g2 g3
  obtain ⟨v4, h4⟩ := h1
  refine ⟨v4, ?_⟩
  obtain ⟨v5, h5⟩ := h4
  refine ⟨v5, ?_⟩
  intro M4_6 eM4_6
  have h6 := h5 M4_6 eM4_6
  have c7 : M4_6 1 1 = M 1 1 := by rw [eM4_6, up2_n (by omega)]
  intro x5_8 g9 g10
  have h8 := h6 x5_8 g9 g10
  obtain ⟨v11, h11⟩ := h8
  refine ⟨v11, ?_⟩
  intro M7_12 eM7_12
  have h12 := h11 M7_12 eM7_12
  have c13 : M7_12 1 1 = (x5_8 + 1) := by rw [eM7_12, up2_s]
  exact hQ _ (by first | exact True.intro | omega) h12
theorem cmX12_steps {p1 : Int} {M : Mem} {Q Q' : Int → Mem → Prop} (h : qX12_steps p1 M Q) (hQ : ∀ (w0 : Int) (M' : Mem), (((0 ≤ p1 ∧ p1 ≤ 60) → M' 1 1 = 2) ∧ (¬ (0 ≤ p1 ∧ p1 ≤ 60) → M' 1 1 = M 1 1)) → Q w0 M' → Q' w0 M') : qX12_steps p1 M Q' := by
  unfold qX12_steps at h ⊢
  intro M1_1 eM1_1
  have h1 := h M1_1 eM1_1
  have c2 : M1_1 1 1 = M 1 1 := by rw [eM1_1, up2_j (by omega)]
  refine cmX12_in h1 ?_
  intro x2_4 c3 h3
  intro g6 g7
  have h8 := h3 g6 g7
  clear g7
  obtain ⟨h9, h10⟩ := h8
  refine ⟨?_, ?_⟩
  · intro g11
    have h12 := h9 g11
    refine fmX12_putsBy h12 ?_
    intro M4_14 f13 h13
    have c15 : M4_14 1 1 = M1_1 1 1 := f13 1 1 (by first | omega | exact fun h => h)
    refine fmX12_goesOn h13 ?_
    intro M5_17 f16 h16
    have c18 : M5_17 1 1 = M4_14 1 1 := f16 1 1 (by first | omega | exact fun h => h)
    intro M6_19 eM6_19
    have h19 := h16 M6_19 eM6_19
    have c20 : M6_19 1 1 = 0 := by rw [eM6_19, up2_s]
    intro x7_21 g22 g23
    have h21 := h19 x7_21 g22 g23
    refine fmX12_enters (cmX12_enters h21 (fun M' a q => (And.intro a q))) ?_
    intro M8_25 f24 q24
    obtain ⟨c24, h24⟩ := q24
    intro x9_26 g27 g28
    have h26 := h24 x9_26 g27 g28
    refine fmX12_enters (cmX12_enters h26 (fun M' a q => (And.intro a q))) ?_
    intro M10_30 f29 q29
    obtain ⟨c29, h29⟩ := q29
    intro x11_31 g32 g33
    have h31 := h29 x11_31 g32 g33
    refine fmX12_adds (cmX12_adds h31 (fun z M' a q => (And.intro a q))) ?_
    intro x12_35 M12_36 f34 q34
    obtain ⟨c34, h34⟩ := q34
    intro g37
    have h38 := h34 g37
    exact hQ _ _ (by first | exact True.intro | omega) h38
  · intro g39
    have h40 := h10 g39
    exact hQ _ _ (by first | exact True.intro | omega) h40
theorem cmX12_hour_L19  {g0 g1 : Int} {X42 X42' : Int → Int → Mem → Prop} {Q Q' : Int → Mem → Prop} (hQ : ∀ (w0 : Int) (M' : Mem), (False) → Q w0 M' → Q' w0 M') (hX42 : ∀ (w0 w1 : Int) (M' : Mem), (M' 1 1 = g0) → X42 w0 w1 M' → X42' w0 w1 M') : ∀ (n : Nat) (v1 v2 : Int) (M : Mem), (M 1 1 = g0) → qX12_hour_L19 X42 Q n v1 v2 M → qX12_hour_L19 X42' Q' n v1 v2 M := by
  intro n
  induction n with
  | zero => intro v1 v2 M _ h; exact h.elim
  | succ n ih =>
    intro v1 v2 M hI h
    rw [qX12_hour_L19] at h
    rw [qX12_hour_L19]
    obtain ⟨v1, h1⟩ := h
    refine ⟨v1, ?_⟩
    obtain ⟨h2, h3⟩ := h1
    refine ⟨?_, ?_⟩
    · intro g4
      have h5 := h2 g4
      exact hX42 _ _ _ (by first | exact True.intro | exact hI | omega) h5
    · intro g6
      have h7 := h3 g6
      intro x6_8 g9 g10
      have h8 := h7 x6_8 g9 g10
      intro x7_11 g12 g13
      have h11 := h8 x7_11 g12 g13
      obtain ⟨h14, h15⟩ := h11
      refine ⟨?_, ?_⟩
      · intro g16
        have h17 := h14 g16
        exact hX42 _ _ _ (by first | exact True.intro | exact hI | omega) h17
      · intro g18
        have h19 := h15 g18
        refine fmX12_readsAct h19 ?_
        intro x9_21 M9_22 f20 h20
        have c23 : M9_22 1 1 = M 1 1 := f20 1 1 (by first | omega | exact fun h => h)
        intro g24 g25
        have h26 := h20 g24 g25
        clear g25
        exact ih _ _ _ (by first | exact True.intro | exact hI | (rw [c23]; exact hI) | omega) h26
theorem cmX12_hour_L64  {g0 g1 : Int} {X88 X88' : Int → Mem → Prop} {Q Q' : Int → Mem → Prop} (hQ : ∀ (w0 : Int) (M' : Mem), (False) → Q w0 M' → Q' w0 M') (hX88 : ∀ (w0 : Int) (M' : Mem), (True) → X88 w0 M' → X88' w0 M') : ∀ (n : Nat) (v4 : Int) (M : Mem), (True) → qX12_hour_L64 X88 Q n v4 M → qX12_hour_L64 X88' Q' n v4 M := by
  intro n
  induction n with
  | zero => intro v4 M _ h; exact h.elim
  | succ n ih =>
    intro v4 M hI h
    rw [qX12_hour_L64] at h
    rw [qX12_hour_L64]
    intro x16_1 g2 g3
    have h1 := h x16_1 g2 g3
    obtain ⟨v4, h4⟩ := h1
    refine ⟨v4, ?_⟩
    obtain ⟨h5, h6⟩ := h4
    refine ⟨?_, ?_⟩
    · intro g7
      have h8 := h5 g7
      exact hX88 _ _ (by first | exact True.intro | exact hI | omega) h8
    · intro g9
      have h10 := h6 g9
      refine fmX12_does h10 ?_
      intro x19_12 M19_13 f11 h11
      have c14 : M19_13 1 1 = M 1 1 := f11 1 1 (by first | omega | exact fun h => h)
      intro g15 g16
      have h17 := h11 g15 g16
      clear g16
      obtain ⟨h18, h19⟩ := h17
      refine ⟨?_, ?_⟩
      · intro g20
        have h21 := h18 g20
        exact hX88 _ _ (by first | exact True.intro | exact hI | (rw [c14]; exact hI) | omega) h21
      · intro g22
        have h23 := h19 g22
        exact ih _ _ (by first | exact True.intro | exact hI | (rw [c14]; exact hI) | omega) h23
theorem cmX12_hour  {M : Mem} {Q Q' : Int → Mem → Prop} (h : qX12_hour M Q) (hQ : ∀ (w0 : Int) (M' : Mem), ((M' 1 1 = 2 ∧ 0 ≤ w0) ∨ (M' 1 1 = M 1 1 ∧ w0 < 0)) → Q w0 M' → Q' w0 M') : qX12_hour M Q' := by
  unfold qX12_hour at h ⊢
  intro M1_1 eM1_1
  have h1 := h M1_1 eM1_1
  have c2 : M1_1 1 1 = M 1 1 := by rw [eM1_1, up2_j (by omega)]
  refine fmX12_begins h1 ?_
  intro x2_4 M2_5 f3 h3
  have c6 : M2_5 1 1 = M1_1 1 1 := f3 1 1 (by first | omega | exact fun h => h)
  intro g7
  have h8 := h3 g7
  intro M3_9 eM3_9
  have h9 := h8 M3_9 eM3_9
  have c10 : M3_9 1 1 = M2_5 1 1 := by rw [eM3_9, up2_j (by omega)]
  obtain ⟨n11, h11⟩ := h9
  refine ⟨n11, ?_⟩
  refine cmX12_hour_L19 (g0 := M3_9 1 1) (g1 := 0) ?_ ?_ _ _ _ _ (by first | exact True.intro | omega) h11
  · exact fun _ _ q _ => q.elim
  · intro v1_15 v2_16 M_17 c14 h14
    unfold qX12_hour_J42 at h14 ⊢
    obtain ⟨v18, h18⟩ := h14
    refine ⟨v18, ?_⟩
    obtain ⟨v19, h19⟩ := h18
    refine ⟨v19, ?_⟩
    refine fmX12_faultOf h19 ?_
    intro x13_21 M13_22 f20 h20
    have c23 : M13_22 1 1 = M_17 1 1 := f20 1 1 (by first | omega | exact fun h => h)
    intro g24
    have h25 := h20 g24
    obtain ⟨h26, h27⟩ := h25
    refine ⟨?_, ?_⟩
    · intro g28
      have h29 := h26 g28
      refine fmX12_putsBy h29 ?_
      intro M15_31 f30 h30
      have c32 : M15_31 1 1 = M13_22 1 1 := f30 1 1 (by first | omega | exact fun h => h)
      obtain ⟨n33, h33⟩ := h30
      refine ⟨n33, ?_⟩
      refine cmX12_hour_L64 (g0 := M15_31 1 1) (g1 := 0) ?_ ?_ _ _ _ (by first | exact True.intro | exact c14 | (rw [(c32.trans c23)]; exact c14) | omega) h33
      · exact fun _ _ q _ => q.elim
      · intro v4_37 M_38 c36 h36
        unfold qX12_hour_J88 at h36 ⊢
        intro M22_39 eM22_39
        have h39 := h36 M22_39 eM22_39
        have c40 : M22_39 1 1 = 0 := by rw [eM22_39, up2_s]
        intro x23_41 g42 g43
        have h41 := h39 x23_41 g42 g43
        obtain ⟨v44, h44⟩ := h41
        refine ⟨v44, ?_⟩
        obtain ⟨h45, h46⟩ := h44
        refine ⟨?_, ?_⟩
        · intro g47
          have h48 := h45 g47
          unfold qX12_hour_J108 at h48 ⊢
          obtain ⟨v49, h49⟩ := h48
          refine ⟨v49, ?_⟩
          refine fmX12_flag h49 ?_
          intro x27_51 M27_52 f50 h50
          have c53 : M27_52 1 1 = M22_39 1 1 := f50 1 1 (by first | omega | exact fun h => h)
          intro g54
          have h55 := h50 g54
          refine fmX12_enters (cmX12_enters h55 (fun M' a q => (And.intro a q))) ?_
          intro M28_57 f56 q56
          obtain ⟨c56, h56⟩ := q56
          intro x29_58 g59 g60
          have h58 := h56 x29_58 g59 g60
          refine fmX12_enters (cmX12_enters h58 (fun M' a q => (And.intro a q))) ?_
          intro M30_62 f61 q61
          obtain ⟨c61, h61⟩ := q61
          obtain ⟨v63, h63⟩ := h61
          refine ⟨v63, ?_⟩
          obtain ⟨h64, h65⟩ := h63
          refine ⟨?_, ?_⟩
          · intro g66
            have h67 := h64 g66
            exact hQ _ _ (by first | exact True.intro | exact c36 | omega) h67
          · intro g68
            have h69 := h65 g68
            refine fmX12_adds (cmX12_adds h69 (fun z M' a q => (And.intro a q))) ?_
            intro x33_71 M33_72 f70 q70
            obtain ⟨c70, h70⟩ := q70
            intro g73
            have h74 := h70 g73
            exact hQ _ _ (by first | exact True.intro | exact c36 | omega) h74
        · intro g75
          have h76 := h46 g75
          unfold qX12_hour_J108 at h76 ⊢
          obtain ⟨v77, h77⟩ := h76
          refine ⟨v77, ?_⟩
          refine fmX12_flag h77 ?_
          intro x27_79 M27_80 f78 h78
          have c81 : M27_80 1 1 = M22_39 1 1 := f78 1 1 (by first | omega | exact fun h => h)
          intro g82
          have h83 := h78 g82
          refine fmX12_enters (cmX12_enters h83 (fun M' a q => (And.intro a q))) ?_
          intro M28_85 f84 q84
          obtain ⟨c84, h84⟩ := q84
          intro x29_86 g87 g88
          have h86 := h84 x29_86 g87 g88
          refine fmX12_enters (cmX12_enters h86 (fun M' a q => (And.intro a q))) ?_
          intro M30_90 f89 q89
          obtain ⟨c89, h89⟩ := q89
          obtain ⟨v91, h91⟩ := h89
          refine ⟨v91, ?_⟩
          obtain ⟨h92, h93⟩ := h91
          refine ⟨?_, ?_⟩
          · intro g94
            have h95 := h92 g94
            exact hQ _ _ (by first | exact True.intro | exact c36 | omega) h95
          · intro g96
            have h97 := h93 g96
            refine fmX12_adds (cmX12_adds h97 (fun z M' a q => (And.intro a q))) ?_
            intro x33_99 M33_100 f98 q98
            obtain ⟨c98, h98⟩ := q98
            intro g101
            have h102 := h98 g101
            exact hQ _ _ (by first | exact True.intro | exact c36 | omega) h102
    · intro g103
      have h104 := h27 g103
      exact hQ _ _ (by first | exact True.intro | exact c14 | (rw [c23]; exact c14) | omega) h104
theorem cmX12_line_L20  {g0 g1 : Int} {Q Q' : Int → Mem → Prop} (hQ : ∀ (w0 : Int) (M' : Mem), (0 ≤ w0 → M' 1 1 = w0) → Q w0 M' → Q' w0 M') : ∀ (n : Nat) (v1 : Int) (M : Mem), (M 1 1 = v1 ∧ 0 ≤ v1 ∧ (v1 = 0 ∨ v1 ≤ M 1 35)) → qX12_line_L20 Q n v1 M → qX12_line_L20 Q' n v1 M := by
  intro n
  induction n with
  | zero => intro v1 M _ h; exact h.elim
  | succ n ih =>
    intro v1 M hI h
    rw [qX12_line_L20] at h
    rw [qX12_line_L20]
    intro x4_1 g2 g3
    have h1 := h x4_1 g2 g3
    obtain ⟨v4, h4⟩ := h1
    refine ⟨v4, ?_⟩
    obtain ⟨h5, h6⟩ := h4
    refine ⟨?_, ?_⟩
    · intro g7
      have h8 := h5 g7
      intro x7_9 g10 g11
      have h9 := h8 x7_9 g10 g11
      exact hQ _ _ (by first | exact True.intro | exact hI | omega) h9
    · intro g12
      have h13 := h6 g12
      obtain ⟨v14, h14⟩ := h13
      refine ⟨v14, ?_⟩
      obtain ⟨v15, h15⟩ := h14
      refine ⟨v15, ?_⟩
      intro x10_16 g17 g18
      have h16 := h15 x10_16 g17 g18
      refine fmX12_enters (cmX12_enters h16 (fun M' a q => (And.intro a q))) ?_
      intro M11_20 f19 q19
      obtain ⟨c19, h19⟩ := q19
      have c21 : M11_20 1 35 = M 1 35 := f19 1 35 (by first | omega | exact fun h => h)
      exact ih _ _ (by first | exact True.intro | exact hI | omega) h19
theorem cmX12_line  {M : Mem} {Q Q' : Int → Mem → Prop} (h : qX12_line M Q) (hQ : ∀ (w0 : Int) (M' : Mem), (0 ≤ w0 → M' 1 1 = w0) → Q w0 M' → Q' w0 M') : qX12_line M Q' := by
  unfold qX12_line at h ⊢
  intro M1_1 eM1_1
  have h1 := h M1_1 eM1_1
  have c2 : M1_1 1 1 = M 1 1 := by rw [eM1_1, up2_j (by omega)]
  have c3 : M1_1 1 35 = M 1 35 := by rw [eM1_1, up2_j (by omega)]
  refine fmX12_laysLine h1 ?_
  intro M2_5 f4 h4
  have c6 : M2_5 1 1 = M1_1 1 1 := f4 1 1 (by first | omega | exact fun h => h)
  intro M3_7 eM3_7
  have h7 := h4 M3_7 eM3_7
  have c8 : M3_7 1 1 = 0 := by rw [eM3_7, up2_s]
  have c9 : M3_7 1 35 = M2_5 1 35 := by rw [eM3_7, up2_j (by omega)]
  obtain ⟨n10, h10⟩ := h7
  refine ⟨n10, ?_⟩
  refine cmX12_line_L20 (g0 := M3_7 1 1) (g1 := M3_7 1 35) ?_ _ _ _ (by first | exact True.intro | omega) h10
  · exact fun z11_0 M_11 c11 h11 => hQ _ M_11 (by first | exact True.intro | exact c11 | omega) h11
theorem cmX12_ahead_L39 {p1 : Int} {g0 g1 : Int} {Q Q' : Int → Mem → Prop} (hQ : ∀ (w0 : Int) (M' : Mem), (0 ≤ M' 1 4 → M' 1 1 = M' 1 4) → Q w0 M' → Q' w0 M') : ∀ (n : Nat) (v2 : Int) (M : Mem), (M 1 1 = v2 ∧ 0 ≤ v2 ∧ (v2 = 0 ∨ v2 ≤ M 1 4)) → qX12_ahead_L39 p1 Q n v2 M → qX12_ahead_L39 p1 Q' n v2 M := by
  intro n
  induction n with
  | zero => intro v2 M _ h; exact h.elim
  | succ n ih =>
    intro v2 M hI h
    rw [qX12_ahead_L39] at h
    rw [qX12_ahead_L39]
    intro x7_1 g2 g3
    have h1 := h x7_1 g2 g3
    obtain ⟨v4, h4⟩ := h1
    refine ⟨v4, ?_⟩
    obtain ⟨h5, h6⟩ := h4
    refine ⟨?_, ?_⟩
    · intro g7
      have h8 := h5 g7
      intro x10_9 g10 g11
      have h9 := h8 x10_9 g10 g11
      exact hQ _ _ (by first | exact True.intro | exact hI | omega) h9
    · intro g12
      have h13 := h6 g12
      obtain ⟨v14, h14⟩ := h13
      refine ⟨v14, ?_⟩
      obtain ⟨v15, h15⟩ := h14
      refine ⟨v15, ?_⟩
      intro x13_16 g17 g18
      have h16 := h15 x13_16 g17 g18
      refine fmX12_enters (cmX12_enters h16 (fun M' a q => (And.intro a q))) ?_
      intro M14_20 f19 q19
      obtain ⟨c19, h19⟩ := q19
      have c21 : M14_20 1 4 = M 1 4 := f19 1 4 (by first | omega | exact fun h => h)
      exact ih _ _ (by first | exact True.intro | exact hI | omega) h19
theorem cmX12_ahead {p1 : Int} {M : Mem} {Q Q' : Int → Mem → Prop} (h : qX12_ahead p1 M Q) (hQ : ∀ (w0 : Int) (M' : Mem), (((0 ≤ p1 ∧ p1 ≤ 99) → 0 ≤ M' 1 4 → M' 1 1 = M' 1 4) ∧ (¬ (0 ≤ p1 ∧ p1 ≤ 99) → M' 1 1 = M 1 1)) → Q w0 M' → Q' w0 M') : qX12_ahead p1 M Q' := by
  unfold qX12_ahead at h ⊢
  intro M1_1 eM1_1
  have h1 := h M1_1 eM1_1
  have c2 : M1_1 1 1 = M 1 1 := by rw [eM1_1, up2_j (by omega)]
  have c3 : M1_1 1 4 = M 1 4 := by rw [eM1_1, up2_j (by omega)]
  refine cmX12_in h1 ?_
  intro x2_5 c4 h4
  intro g7 g8
  have h9 := h4 g7 g8
  clear g8
  obtain ⟨h10, h11⟩ := h9
  refine ⟨?_, ?_⟩
  · intro g12
    have h13 := h10 g12
    refine fmX12_copies h13 ?_
    intro M4_15 f14 h14
    have c16 : M4_15 1 1 = M1_1 1 1 := f14 1 1 (by first | omega | exact fun h => h)
    have c17 : M4_15 1 4 = M1_1 1 4 := f14 1 4 (by first | omega | exact fun h => h)
    refine fmX12_goesOn h14 ?_
    intro M5_19 f18 h18
    have c20 : M5_19 1 1 = M4_15 1 1 := f18 1 1 (by first | omega | exact fun h => h)
    have c21 : M5_19 1 4 = M4_15 1 4 := f18 1 4 (by first | omega | exact fun h => h)
    intro M6_22 eM6_22
    have h22 := h18 M6_22 eM6_22
    have c23 : M6_22 1 1 = 0 := by rw [eM6_22, up2_s]
    have c24 : M6_22 1 4 = M5_19 1 4 := by rw [eM6_22, up2_j (by omega)]
    obtain ⟨n25, h25⟩ := h22
    refine ⟨n25, ?_⟩
    refine cmX12_ahead_L39 (g0 := M6_22 1 1) (g1 := M6_22 1 4) ?_ _ _ _ (by first | exact True.intro | omega) h25
    · exact fun z26_0 M_26 c26 h26 => hQ _ M_26 (by first | exact True.intro | exact c26 | omega) h26
  · intro g27
    have h28 := h11 g27
    exact hQ _ _ (by first | exact True.intro | omega) h28
theorem cmX12_arrives_L21 {p1 : Int} {g0 g1 : Int} {X39 X39' : Int → Mem → Prop} {Q Q' : Int → Mem → Prop} (hQ : ∀ (w0 : Int) (M' : Mem), (w0 < 0 ∧ M' 1 1 = g0) → Q w0 M' → Q' w0 M') (hX39 : ∀ (w0 : Int) (M' : Mem), (0 ≤ w0 ∧ M' 1 1 = g0) → X39 w0 M' → X39' w0 M') : ∀ (n : Nat) (v2 : Int) (M : Mem), (0 ≤ v2 ∧ M 1 1 = g0) → qX12_arrives_L21 p1 X39 Q n v2 M → qX12_arrives_L21 p1 X39' Q' n v2 M := by
  intro n
  induction n with
  | zero => intro v2 M _ h; exact h.elim
  | succ n ih =>
    intro v2 M hI h
    rw [qX12_arrives_L21] at h
    rw [qX12_arrives_L21]
    obtain ⟨v1, h1⟩ := h
    refine ⟨v1, ?_⟩
    obtain ⟨h2, h3⟩ := h1
    refine ⟨?_, ?_⟩
    · intro g4
      have h5 := h2 g4
      exact hQ _ _ (by first | exact True.intro | exact hI | omega) h5
    · intro g6
      have h7 := h3 g6
      refine fmX12_isOn h7 ?_
      intro x7_9 M7_10 f8 h8
      have c11 : M7_10 1 1 = M 1 1 := f8 1 1 (by first | omega | exact fun h => h)
      intro g12 g13
      have h14 := h8 g12 g13
      clear g13
      obtain ⟨h15, h16⟩ := h14
      refine ⟨?_, ?_⟩
      · intro g17
        have h18 := h15 g17
        refine fmX12_stepGoes h18 ?_
        intro M9_20 f19 h19
        have c21 : M9_20 1 1 = M7_10 1 1 := f19 1 1 (by first | omega | exact fun h => h)
        exact ih _ _ (by first | exact True.intro | exact hI | (rw [(c21.trans c11)]; exact hI) | omega) h19
      · intro g22
        have h23 := h16 g22
        exact hX39 _ _ (by first | exact True.intro | exact hI | (rw [c11]; exact hI) | omega) h23
theorem cmX12_arrives {p1 : Int} {M : Mem} {Q Q' : Int → Mem → Prop} (h : qX12_arrives p1 M Q) (hQ : ∀ (w0 : Int) (M' : Mem), ((0 ≤ w0 → M' 1 1 = 1) ∧ (w0 < 0 → M' 1 1 = M 1 1)) → Q w0 M' → Q' w0 M') : qX12_arrives p1 M Q' := by
  unfold qX12_arrives at h ⊢
  intro M1_1 eM1_1
  have h1 := h M1_1 eM1_1
  have c2 : M1_1 1 1 = M 1 1 := by rw [eM1_1, up2_j (by omega)]
  refine fmX12_isHearse h1 ?_
  intro x2_4 M2_5 f3 h3
  have c6 : M2_5 1 1 = M1_1 1 1 := f3 1 1 (by first | omega | exact fun h => h)
  intro g7 g8
  have h9 := h3 g7 g8
  clear g8
  obtain ⟨h10, h11⟩ := h9
  refine ⟨?_, ?_⟩
  · intro g12
    have h13 := h10 g12
    refine fmX12_copies h13 ?_
    intro M4_15 f14 h14
    have c16 : M4_15 1 1 = M2_5 1 1 := f14 1 1 (by first | omega | exact fun h => h)
    obtain ⟨n17, h17⟩ := h14
    refine ⟨n17, ?_⟩
    refine cmX12_arrives_L21 (g0 := M4_15 1 1) (g1 := 0) ?_ ?_ _ _ _ (by first | exact True.intro | omega) h17
    · exact fun z18_0 M_18 c18 h18 => hQ _ M_18 (by first | exact True.intro | exact c18 | omega) h18
    · intro v2_21 M_22 c20 h20
      intro M11_23 eM11_23
      have h23 := h20 M11_23 eM11_23
      have c24 : M11_23 1 1 = 0 := by rw [eM11_23, up2_s]
      obtain ⟨v25, h25⟩ := h23
      refine ⟨v25, ?_⟩
      obtain ⟨v26, h26⟩ := h25
      refine ⟨v26, ?_⟩
      intro x14_27 g28 g29
      have h27 := h26 x14_27 g28 g29
      refine fmX12_enters (cmX12_enters h27 (fun M' a q => (And.intro a q))) ?_
      intro M15_31 f30 q30
      obtain ⟨c30, h30⟩ := q30
      obtain ⟨v32, h32⟩ := h30
      refine ⟨v32, ?_⟩
      exact hQ _ _ (by first | exact True.intro | exact c20 | omega) h32
  · intro g33
    have h34 := h11 g33
    exact hQ _ _ (by first | exact True.intro | omega) h34
theorem cmX12_jam_L36 {p1 : Int} {g0 g1 : Int} {X71 X71' : Int → Mem → Prop} {Q Q' : Int → Mem → Prop} (hQ : ∀ (w0 : Int) (M' : Mem), (False) → Q w0 M' → Q' w0 M') (hX71 : ∀ (w0 : Int) (M' : Mem), (M' 1 1 = g0) → X71 w0 M' → X71' w0 M') : ∀ (n : Nat) (v2 v3 : Int) (M : Mem), (M 1 1 = g0) → qX12_jam_L36 p1 X71 Q n v2 v3 M → qX12_jam_L36 p1 X71' Q' n v2 v3 M := by
  intro n
  induction n with
  | zero => intro v2 v3 M _ h; exact h.elim
  | succ n ih =>
    intro v2 v3 M hI h
    rw [qX12_jam_L36] at h
    rw [qX12_jam_L36]
    intro x6_1 g2 g3
    have h1 := h x6_1 g2 g3
    obtain ⟨v4, h4⟩ := h1
    refine ⟨v4, ?_⟩
    obtain ⟨h5, h6⟩ := h4
    refine ⟨?_, ?_⟩
    · intro g7
      have h8 := h5 g7
      exact hX71 _ _ (by first | exact True.intro | exact hI | omega) h8
    · intro g9
      have h10 := h6 g9
      obtain ⟨v11, h11⟩ := h10
      refine ⟨v11, ?_⟩
      obtain ⟨v12, h12⟩ := h11
      refine ⟨v12, ?_⟩
      intro x11_13 g14 g15
      have h13 := h12 x11_13 g14 g15
      obtain ⟨v16, h16⟩ := h13
      refine ⟨v16, ?_⟩
      obtain ⟨v17, h17⟩ := h16
      refine ⟨v17, ?_⟩
      intro x14_18 g19 g20
      have h18 := h17 x14_18 g19 g20
      obtain ⟨h21, h22⟩ := h18
      refine ⟨?_, ?_⟩
      · intro g23
        have h24 := h21 g23
        exact ih _ _ _ (by first | exact True.intro | exact hI | omega) h24
      · intro g25
        have h26 := h22 g25
        exact ih _ _ _ (by first | exact True.intro | exact hI | omega) h26
theorem cmX12_jam {p1 : Int} {M : Mem} {Q Q' : Int → Mem → Prop} (h : qX12_jam p1 M Q) (hQ : ∀ (w0 : Int) (M' : Mem), (((1 ≤ p1 ∧ p1 ≤ 60) → M' 1 1 = 2) ∧ (¬ (1 ≤ p1 ∧ p1 ≤ 60) → M' 1 1 = M 1 1)) → Q w0 M' → Q' w0 M') : qX12_jam p1 M Q' := by
  unfold qX12_jam at h ⊢
  intro M1_1 eM1_1
  have h1 := h M1_1 eM1_1
  have c2 : M1_1 1 1 = M 1 1 := by rw [eM1_1, up2_j (by omega)]
  refine cmX12_in h1 ?_
  intro x2_4 c3 h3
  intro g6 g7
  have h8 := h3 g6 g7
  clear g7
  obtain ⟨h9, h10⟩ := h8
  refine ⟨?_, ?_⟩
  · intro g11
    have h12 := h9 g11
    refine fmX12_copies h12 ?_
    intro M4_14 f13 h13
    have c15 : M4_14 1 1 = M1_1 1 1 := f13 1 1 (by first | omega | exact fun h => h)
    refine fmX12_goesOn h13 ?_
    intro M5_17 f16 h16
    have c18 : M5_17 1 1 = M4_14 1 1 := f16 1 1 (by first | omega | exact fun h => h)
    obtain ⟨n19, h19⟩ := h16
    refine ⟨n19, ?_⟩
    refine cmX12_jam_L36 (g0 := M5_17 1 1) (g1 := 0) ?_ ?_ _ _ _ _ (by first | exact True.intro | omega) h19
    · exact fun _ _ q _ => q.elim
    · intro v2_23 M_24 c22 h22
      intro M17_25 eM17_25
      have h25 := h22 M17_25 eM17_25
      have c26 : M17_25 1 1 = 0 := by rw [eM17_25, up2_s]
      obtain ⟨v27, h27⟩ := h25
      refine ⟨v27, ?_⟩
      obtain ⟨v28, h28⟩ := h27
      refine ⟨v28, ?_⟩
      intro x20_29 g30 g31
      have h29 := h28 x20_29 g30 g31
      refine fmX12_enters (cmX12_enters h29 (fun M' a q => (And.intro a q))) ?_
      intro M21_33 f32 q32
      obtain ⟨c32, h32⟩ := q32
      intro x22_34 g35 g36
      have h34 := h32 x22_34 g35 g36
      refine fmX12_enters (cmX12_enters h34 (fun M' a q => (And.intro a q))) ?_
      intro M23_38 f37 q37
      obtain ⟨c37, h37⟩ := q37
      obtain ⟨v39, h39⟩ := h37
      refine ⟨v39, ?_⟩
      exact hQ _ _ (by first | exact True.intro | exact c22 | omega) h39
  · intro g40
    have h41 := h10 g40
    exact hQ _ _ (by first | exact True.intro | omega) h41
theorem cmX12_passes_L71 {p1 : Int} {p2 : Int} {g0 g1 : Int} {X97 X97' : Int → Mem → Prop} {Q Q' : Int → Mem → Prop} (hQ : ∀ (w0 : Int) (M' : Mem), (w0 < 0 ∧ M' 1 1 = g0) → Q w0 M' → Q' w0 M') (hX97 : ∀ (w0 : Int) (M' : Mem), (0 ≤ w0 ∧ M' 1 1 = g0) → X97 w0 M' → X97' w0 M') : ∀ (n : Nat) (v3 : Int) (M : Mem), (0 ≤ v3 ∧ M 1 1 = g0) → qX12_passes_L71 p1 p2 X97 Q n v3 M → qX12_passes_L71 p1 p2 X97' Q' n v3 M := by
  intro n
  induction n with
  | zero => intro v3 M _ h; exact h.elim
  | succ n ih =>
    intro v3 M hI h
    rw [qX12_passes_L71] at h
    rw [qX12_passes_L71]
    obtain ⟨v1, h1⟩ := h
    refine ⟨v1, ?_⟩
    obtain ⟨h2, h3⟩ := h1
    refine ⟨?_, ?_⟩
    · intro g4
      have h5 := h2 g4
      exact hQ _ _ (by first | exact True.intro | exact hI | omega) h5
    · intro g6
      have h7 := h3 g6
      refine fmX12_stepGoes h7 ?_
      intro M16_9 f8 h8
      have c10 : M16_9 1 1 = M 1 1 := f8 1 1 (by first | omega | exact fun h => h)
      refine fmX12_isAhead h8 ?_
      intro x17_12 M17_13 f11 h11
      have c14 : M17_13 1 1 = M16_9 1 1 := f11 1 1 (by first | omega | exact fun h => h)
      intro g15 g16
      have h17 := h11 g15 g16
      clear g16
      obtain ⟨h18, h19⟩ := h17
      refine ⟨?_, ?_⟩
      · intro g20
        have h21 := h18 g20
        exact ih _ _ (by first | exact True.intro | exact hI | (rw [(c14.trans c10)]; exact hI) | omega) h21
      · intro g22
        have h23 := h19 g22
        exact hX97 _ _ (by first | exact True.intro | exact hI | (rw [(c14.trans c10)]; exact hI) | omega) h23
theorem cmX12_passes {p1 : Int} {p2 : Int} {M : Mem} {Q Q' : Int → Mem → Prop} (h : qX12_passes p1 p2 M Q) (hQ : ∀ (w0 : Int) (M' : Mem), ((0 ≤ w0 → M' 1 1 = 1) ∧ (w0 < 0 → M' 1 1 = M 1 1)) → Q w0 M' → Q' w0 M') : qX12_passes p1 p2 M Q' := by
  unfold qX12_passes at h ⊢
  intro M1_1 eM1_1
  have h1 := h M1_1 eM1_1
  have c2 : M1_1 1 1 = M 1 1 := by rw [eM1_1, up2_j (by omega)]
  refine fmX12_isHearse h1 ?_
  intro x2_4 M2_5 f3 h3
  have c6 : M2_5 1 1 = M1_1 1 1 := f3 1 1 (by first | omega | exact fun h => h)
  intro g7 g8
  have h9 := h3 g7 g8
  clear g8
  obtain ⟨h10, h11⟩ := h9
  refine ⟨?_, ?_⟩
  · intro g12
    have h13 := h10 g12
    exact hQ _ _ (by first | exact True.intro | omega) h13
  · intro g14
    have h15 := h11 g14
    refine fmX12_isHearse h15 ?_
    intro x4_17 M4_18 f16 h16
    have c19 : M4_18 1 1 = M2_5 1 1 := f16 1 1 (by first | omega | exact fun h => h)
    intro g20 g21
    have h22 := h16 g20 g21
    clear g21
    obtain ⟨h23, h24⟩ := h22
    refine ⟨?_, ?_⟩
    · intro g25
      have h26 := h23 g25
      exact hQ _ _ (by first | exact True.intro | omega) h26
    · intro g27
      have h28 := h24 g27
      obtain ⟨h29, h30⟩ := h28
      refine ⟨?_, ?_⟩
      · intro g31
        have h32 := h29 g31
        refine fmX12_isOn h32 ?_
        intro x7_34 M7_35 f33 h33
        have c36 : M7_35 1 1 = M4_18 1 1 := f33 1 1 (by first | omega | exact fun h => h)
        intro g37 g38
        have h39 := h33 g37 g38
        clear g38
        obtain ⟨h40, h41⟩ := h39
        refine ⟨?_, ?_⟩
        · intro g42
          have h43 := h40 g42
          exact hQ _ _ (by first | exact True.intro | omega) h43
        · intro g44
          have h45 := h41 g44
          refine fmX12_isOn h45 ?_
          intro x9_47 M9_48 f46 h46
          have c49 : M9_48 1 1 = M7_35 1 1 := f46 1 1 (by first | omega | exact fun h => h)
          intro g50 g51
          have h52 := h46 g50 g51
          clear g51
          obtain ⟨h53, h54⟩ := h52
          refine ⟨?_, ?_⟩
          · intro g55
            have h56 := h53 g55
            exact hQ _ _ (by first | exact True.intro | omega) h56
          · intro g57
            have h58 := h54 g57
            refine fmX12_isAhead h58 ?_
            intro x11_60 M11_61 f59 h59
            have c62 : M11_61 1 1 = M9_48 1 1 := f59 1 1 (by first | omega | exact fun h => h)
            intro g63 g64
            have h65 := h59 g63 g64
            clear g64
            obtain ⟨h66, h67⟩ := h65
            refine ⟨?_, ?_⟩
            · intro g68
              have h69 := h66 g68
              refine fmX12_copies h69 ?_
              intro M13_71 f70 h70
              have c72 : M13_71 1 1 = M11_61 1 1 := f70 1 1 (by first | omega | exact fun h => h)
              obtain ⟨n73, h73⟩ := h70
              refine ⟨n73, ?_⟩
              refine cmX12_passes_L71 (g0 := M13_71 1 1) (g1 := 0) ?_ ?_ _ _ _ (by first | exact True.intro | omega) h73
              · exact fun z74_0 M_74 c74 h74 => hQ _ M_74 (by first | exact True.intro | exact c74 | omega) h74
              · intro v3_77 M_78 c76 h76
                intro M20_79 eM20_79
                have h79 := h76 M20_79 eM20_79
                have c80 : M20_79 1 1 = 0 := by rw [eM20_79, up2_s]
                obtain ⟨v81, h81⟩ := h79
                refine ⟨v81, ?_⟩
                obtain ⟨v82, h82⟩ := h81
                refine ⟨v82, ?_⟩
                intro x23_83 g84 g85
                have h83 := h82 x23_83 g84 g85
                refine fmX12_enters (cmX12_enters h83 (fun M' a q => (And.intro a q))) ?_
                intro M24_87 f86 q86
                obtain ⟨c86, h86⟩ := q86
                obtain ⟨v88, h88⟩ := h86
                refine ⟨v88, ?_⟩
                exact hQ _ _ (by first | exact True.intro | exact c76 | omega) h88
            · intro g89
              have h90 := h67 g89
              exact hQ _ _ (by first | exact True.intro | omega) h90
      · intro g91
        have h92 := h30 g91
        exact hQ _ _ (by first | exact True.intro | omega) h92
theorem cmX12_ends_L30 {p1 : Int} {g0 g1 : Int} {X48 X48' : Int → Mem → Prop} {Q Q' : Int → Mem → Prop} (hQ : ∀ (w0 : Int) (M' : Mem), (w0 < 0 ∧ M' 1 1 = g0) → Q w0 M' → Q' w0 M') (hX48 : ∀ (w0 : Int) (M' : Mem), (0 ≤ M' 6 (29 + p1) ∧ M' 1 1 = g0) → X48 w0 M' → X48' w0 M') : ∀ (n : Nat) (v2 : Int) (M : Mem), (M 1 1 = g0) → qX12_ends_L30 p1 X48 Q n v2 M → qX12_ends_L30 p1 X48' Q' n v2 M := by
  intro n
  induction n with
  | zero => intro v2 M _ h; exact h.elim
  | succ n ih =>
    intro v2 M hI h
    rw [qX12_ends_L30] at h
    rw [qX12_ends_L30]
    obtain ⟨v1, h1⟩ := h
    refine ⟨v1, ?_⟩
    obtain ⟨h2, h3⟩ := h1
    refine ⟨?_, ?_⟩
    · intro g4
      have h5 := h2 g4
      exact hQ _ _ (by first | exact True.intro | exact hI | omega) h5
    · intro g6
      have h7 := h3 g6
      refine cmX12_isEnded h7 ?_
      intro x8_9 c8 h8
      intro g11 g12
      have h13 := h8 g11 g12
      clear g12
      obtain ⟨h14, h15⟩ := h13
      refine ⟨?_, ?_⟩
      · intro g16
        have h17 := h14 g16
        refine fmX12_stepGoes h17 ?_
        intro M10_19 f18 h18
        have c20 : M10_19 1 1 = M 1 1 := f18 1 1 (by first | omega | exact fun h => h)
        exact ih _ _ (by first | exact True.intro | exact hI | (rw [c20]; exact hI) | omega) h18
      · intro g21
        have h22 := h15 g21
        exact hX48 _ _ (by first | exact True.intro | exact hI | omega) h22
theorem cmX12_ends {p1 : Int} {M : Mem} {Q Q' : Int → Mem → Prop} (h : qX12_ends p1 M Q) (hQ : ∀ (w0 : Int) (M' : Mem), ((M' 1 1 = 2 ∧ 0 ≤ w0) ∨ (M' 1 1 = M 1 1 ∧ w0 < 0)) → Q w0 M' → Q' w0 M') : qX12_ends p1 M Q' := by
  unfold qX12_ends at h ⊢
  intro M1_1 eM1_1
  have h1 := h M1_1 eM1_1
  have c2 : M1_1 1 1 = M 1 1 := by rw [eM1_1, up2_j (by omega)]
  have c3 : M1_1 6 (29 + p1) = M 6 (29 + p1) := by rw [eM1_1, up2_n (by omega)]
  refine fmX12_isMourner h1 ?_
  intro x2_5 M2_6 f4 h4
  have c7 : M2_6 1 1 = M1_1 1 1 := f4 1 1 (by first | omega | exact fun h => h)
  have c8 : M2_6 6 (29 + p1) = M1_1 6 (29 + p1) := f4 6 (29 + p1) (by first | omega | exact fun h => h)
  intro g9 g10
  have h11 := h4 g9 g10
  clear g10
  obtain ⟨h12, h13⟩ := h11
  refine ⟨?_, ?_⟩
  · intro g14
    have h15 := h12 g14
    refine fmX12_copies h15 ?_
    intro M4_17 f16 h16
    have c18 : M4_17 1 1 = M2_6 1 1 := f16 1 1 (by first | omega | exact fun h => h)
    refine fmX12_goesOn h16 ?_
    intro M5_20 f19 h19
    have c21 : M5_20 1 1 = M4_17 1 1 := f19 1 1 (by first | omega | exact fun h => h)
    obtain ⟨n22, h22⟩ := h19
    refine ⟨n22, ?_⟩
    refine cmX12_ends_L30 (g0 := M5_20 1 1) (g1 := M5_20 6 (29 + p1)) ?_ ?_ _ _ _ (by first | exact True.intro | omega) h22
    · exact fun z23_0 M_23 c23 h23 => hQ _ M_23 (by first | exact True.intro | exact c23 | omega) h23
    · intro v2_26 M_27 c25 h25
      intro M12_28 eM12_28
      have h28 := h25 M12_28 eM12_28
      have c29 : M12_28 1 1 = 0 := by rw [eM12_28, up2_s]
      have c30 : M12_28 6 (29 + p1) = M_27 6 (29 + p1) := by rw [eM12_28, up2_n (by omega)]
      obtain ⟨v31, h31⟩ := h28
      refine ⟨v31, ?_⟩
      refine fmX12_enters (cmX12_enters h31 (fun M' a q => (And.intro a q))) ?_
      intro M14_33 f32 q32
      obtain ⟨c32, h32⟩ := q32
      have c34 : M14_33 6 (29 + p1) = M12_28 6 (29 + p1) := f32 6 (29 + p1) (by first | omega | exact fun h => h)
      obtain ⟨v35, h35⟩ := h32
      refine ⟨v35, ?_⟩
      obtain ⟨v36, h36⟩ := h35
      refine ⟨v36, ?_⟩
      intro x17_37 g38 g39
      have h37 := h36 x17_37 g38 g39
      refine fmX12_enters (cmX12_enters h37 (fun M' a q => (And.intro a q))) ?_
      intro M18_41 f40 q40
      obtain ⟨c40, h40⟩ := q40
      have c42 : M18_41 6 (29 + p1) = M14_33 6 (29 + p1) := f40 6 (29 + p1) (by first | omega | exact fun h => h)
      obtain ⟨v43, h43⟩ := h40
      refine ⟨v43, ?_⟩
      obtain ⟨v44, h44⟩ := h43
      refine ⟨v44, ?_⟩
      intro x21_45 g46 g47
      have h45 := h44 x21_45 g46 g47
      exact hQ _ _ (by first | exact True.intro | exact c25 | omega) h45
  · intro g48
    have h49 := h13 g48
    exact hQ _ _ (by first | exact True.intro | omega) h49
theorem cmX12_right  {M : Mem} {Q Q' : Int → Mem → Prop} (h : qX12_right M Q) (hQ : ∀ (w0 : Int) (M' : Mem), (M' 1 1 = 2) → Q w0 M' → Q' w0 M') : qX12_right M Q' := by
  unfold qX12_right at h ⊢
  intro M1_1 eM1_1
  have h1 := h M1_1 eM1_1
  have c2 : M1_1 1 1 = M 1 1 := by rw [eM1_1, up2_j (by omega)]
  refine fmX12_copies h1 ?_
  intro M2_4 f3 h3
  have c5 : M2_4 1 1 = M1_1 1 1 := f3 1 1 (by first | omega | exact fun h => h)
  refine fmX12_rightThen h3 ?_
  intro x3_7 M3_8 f6 h6
  have c9 : M3_8 1 1 = M2_4 1 1 := f6 1 1 (by first | omega | exact fun h => h)
  intro g10
  have h11 := h6 g10
  intro M4_12 eM4_12
  have h12 := h11 M4_12 eM4_12
  have c13 : M4_12 1 1 = 0 := by rw [eM4_12, up2_s]
  refine fmX12_enters (cmX12_enters h12 (fun M' a q => (And.intro a q))) ?_
  intro M5_15 f14 q14
  obtain ⟨c14, h14⟩ := q14
  refine fmX12_endedBy h14 ?_
  intro x6_17 M6_18 f16 h16
  have c19 : M6_18 1 1 = M5_15 1 1 := f16 1 1 (by first | omega | exact fun h => h)
  intro g20
  have h21 := h16 g20
  refine fmX12_enters (cmX12_enters h21 (fun M' a q => (And.intro a q))) ?_
  intro M7_23 f22 q22
  obtain ⟨c22, h22⟩ := q22
  refine cmbits_x h22 ?_
  intro x8_25 c24 h24
  intro g27
  have h28 := h24 g27
  exact hQ _ _ (by first | exact True.intro | omega) h28
theorem cmX12_stands_L42 {p1 : Int} {g0 g1 : Int} {X95 X95' : Int → Int → Mem → Prop} {Q Q' : Int → Mem → Prop} (hQ : ∀ (w0 : Int) (M' : Mem), (False) → Q w0 M' → Q' w0 M') (hX95 : ∀ (w0 w1 : Int) (M' : Mem), (M' 1 1 = g0) → X95 w0 w1 M' → X95' w0 w1 M') : ∀ (n : Nat) (v2 v3 v4 : Int) (M : Mem), (M 1 1 = g0) → qX12_stands_L42 p1 X95 Q n v2 v3 v4 M → qX12_stands_L42 p1 X95' Q' n v2 v3 v4 M := by
  intro n
  induction n with
  | zero => intro v2 v3 v4 M _ h; exact h.elim
  | succ n ih =>
    intro v2 v3 v4 M hI h
    rw [qX12_stands_L42] at h
    rw [qX12_stands_L42]
    obtain ⟨v1, h1⟩ := h
    refine ⟨v1, ?_⟩
    obtain ⟨h2, h3⟩ := h1
    refine ⟨?_, ?_⟩
    · intro g4
      have h5 := h2 g4
      exact hX95 _ _ _ (by first | exact True.intro | exact hI | omega) h5
    · intro g6
      have h7 := h3 g6
      refine fmX12_copies h7 ?_
      intro M9_9 f8 h8
      have c10 : M9_9 1 1 = M 1 1 := f8 1 1 (by first | omega | exact fun h => h)
      obtain ⟨v11, h11⟩ := h8
      refine ⟨v11, ?_⟩
      obtain ⟨v12, h12⟩ := h11
      refine ⟨v12, ?_⟩
      intro M12_13 eM12_13
      have h13 := h12 M12_13 eM12_13
      have c14 : M12_13 1 1 = M9_9 1 1 := by rw [eM12_13, up2_n (by omega)]
      obtain ⟨v15, h15⟩ := h13
      refine ⟨v15, ?_⟩
      obtain ⟨v16, h16⟩ := h15
      refine ⟨v16, ?_⟩
      intro M15_17 eM15_17
      have h17 := h16 M15_17 eM15_17
      have c18 : M15_17 1 1 = M12_13 1 1 := by rw [eM15_17, up2_n (by omega)]
      refine fmX12_rightThen h17 ?_
      intro x16_20 M16_21 f19 h19
      have c22 : M16_21 1 1 = M15_17 1 1 := f19 1 1 (by first | omega | exact fun h => h)
      intro g23
      have h24 := h19 g23
      refine fmX12_has h24 ?_
      intro x17_26 M17_27 f25 h25
      have c28 : M17_27 1 1 = M16_21 1 1 := f25 1 1 (by first | omega | exact fun h => h)
      intro g29 g30
      have h31 := h25 g29 g30
      clear g30
      obtain ⟨h32, h33⟩ := h31
      refine ⟨?_, ?_⟩
      · intro g34
        have h35 := h32 g34
        exact ih _ _ _ _ (by first | exact True.intro | exact hI | (rw [(c28.trans (c22.trans (c18.trans (c14.trans c10))))]; exact hI) | omega) h35
      · intro g36
        have h37 := h33 g36
        exact ih _ _ _ _ (by first | exact True.intro | exact hI | (rw [(c28.trans (c22.trans (c18.trans (c14.trans c10))))]; exact hI) | omega) h37
theorem cmX12_stands {p1 : Int} {M : Mem} {Q Q' : Int → Mem → Prop} (h : qX12_stands p1 M Q) (hQ : ∀ (w0 : Int) (M' : Mem), ((0 ≤ w0 → M' 1 1 = 1) ∧ (w0 < 0 → M' 1 1 = M 1 1)) → Q w0 M' → Q' w0 M') : qX12_stands p1 M Q' := by
  unfold qX12_stands at h ⊢
  intro M1_1 eM1_1
  have h1 := h M1_1 eM1_1
  have c2 : M1_1 1 1 = M 1 1 := by rw [eM1_1, up2_j (by omega)]
  refine fmX12_isMourner h1 ?_
  intro x2_4 M2_5 f3 h3
  have c6 : M2_5 1 1 = M1_1 1 1 := f3 1 1 (by first | omega | exact fun h => h)
  intro g7 g8
  have h9 := h3 g7 g8
  clear g8
  obtain ⟨h10, h11⟩ := h9
  refine ⟨?_, ?_⟩
  · intro g12
    have h13 := h10 g12
    refine fmX12_isEnded h13 ?_
    intro x4_15 M4_16 f14 h14
    have c17 : M4_16 1 1 = M2_5 1 1 := f14 1 1 (by first | omega | exact fun h => h)
    intro g18 g19
    have h20 := h14 g18 g19
    clear g19
    obtain ⟨h21, h22⟩ := h20
    refine ⟨?_, ?_⟩
    · intro g23
      have h24 := h21 g23
      refine fmX12_gate h24 ?_
      intro x6_26 M6_27 f25 h25
      have c28 : M6_27 1 1 = M4_16 1 1 := f25 1 1 (by first | omega | exact fun h => h)
      intro g29
      have h30 := h25 g29
      obtain ⟨n31, h31⟩ := h30
      refine ⟨n31, ?_⟩
      refine cmX12_stands_L42 (g0 := M6_27 1 1) (g1 := 0) ?_ ?_ _ _ _ _ _ (by first | exact True.intro | omega) h31
      · exact fun _ _ q _ => q.elim
      · intro v2_35 v3_36 M_37 c34 h34
        obtain ⟨v38, h38⟩ := h34
        refine ⟨v38, ?_⟩
        obtain ⟨h39, h40⟩ := h38
        refine ⟨?_, ?_⟩
        · intro g41
          have h42 := h39 g41
          exact hQ _ _ (by first | exact True.intro | exact c34 | omega) h42
        · intro g43
          have h44 := h40 g43
          intro M22_45 eM22_45
          have h45 := h44 M22_45 eM22_45
          have c46 : M22_45 1 1 = 0 := by rw [eM22_45, up2_s]
          obtain ⟨v47, h47⟩ := h45
          refine ⟨v47, ?_⟩
          refine fmX12_enters (cmX12_enters h47 (fun M' a q => (And.intro a q))) ?_
          intro M24_49 f48 q48
          obtain ⟨c48, h48⟩ := q48
          exact hQ _ _ (by first | exact True.intro | exact c34 | omega) h48
    · intro g50
      have h51 := h22 g50
      exact hQ _ _ (by first | exact True.intro | omega) h51
  · intro g52
    have h53 := h11 g52
    exact hQ _ _ (by first | exact True.intro | omega) h53
theorem cmX12_when_L24 {p1 : Int} {g0 g1 : Int} {X142 X142' : Int → Int → Mem → Prop} {Q Q' : Int → Mem → Prop} (hQ : ∀ (w0 : Int) (M' : Mem), (False) → Q w0 M' → Q' w0 M') (hX142 : ∀ (w0 w1 : Int) (M' : Mem), (M' 1 1 = g0) → X142 w0 w1 M' → X142' w0 w1 M') : ∀ (n : Nat) (v2 v3 v4 : Int) (M : Mem), (M 1 1 = g0) → qX12_when_L24 p1 X142 Q n v2 v3 v4 M → qX12_when_L24 p1 X142' Q' n v2 v3 v4 M := by
  intro n
  induction n with
  | zero => intro v2 v3 v4 M _ h; exact h.elim
  | succ n ih =>
    intro v2 v3 v4 M hI h
    rw [qX12_when_L24] at h
    rw [qX12_when_L24]
    obtain ⟨v1, h1⟩ := h
    refine ⟨v1, ?_⟩
    obtain ⟨h2, h3⟩ := h1
    refine ⟨?_, ?_⟩
    · intro g4
      have h5 := h2 g4
      exact hX142 _ _ _ (by first | exact True.intro | exact hI | omega) h5
    · intro g6
      have h7 := h3 g6
      refine fmX12_copies h7 ?_
      intro M6_9 f8 h8
      have c10 : M6_9 1 1 = M 1 1 := f8 1 1 (by first | omega | exact fun h => h)
      refine fmX12_goesOn h8 ?_
      intro M7_12 f11 h11
      have c13 : M7_12 1 1 = M6_9 1 1 := f11 1 1 (by first | omega | exact fun h => h)
      refine fmX12_isEnded h11 ?_
      intro x8_15 M8_16 f14 h14
      have c17 : M8_16 1 1 = M7_12 1 1 := f14 1 1 (by first | omega | exact fun h => h)
      intro g18 g19
      have h20 := h14 g18 g19
      clear g19
      obtain ⟨h21, h22⟩ := h20
      refine ⟨?_, ?_⟩
      · intro g23
        have h24 := h21 g23
        unfold qX12_when_J76 at h24 ⊢
        unfold qX12_when_J77 at h24 ⊢
        obtain ⟨v25, h25⟩ := h24
        refine ⟨v25, ?_⟩
        obtain ⟨h26, h27⟩ := h25
        refine ⟨?_, ?_⟩
        · intro g28
          have h29 := h26 g28
          refine fmX12_turnsOne h29 ?_
          intro x12_31 M12_32 f30 h30
          have c33 : M12_32 1 1 = M8_16 1 1 := f30 1 1 (by first | omega | exact fun h => h)
          intro g34
          have h35 := h30 g34
          unfold qX12_when_J97 at h35 ⊢
          obtain ⟨v36, h36⟩ := h35
          refine ⟨v36, ?_⟩
          obtain ⟨h37, h38⟩ := h36
          refine ⟨?_, ?_⟩
          · intro g39
            have h40 := h37 g39
            unfold qX12_when_J111 at h40 ⊢
            refine fmX12_rightThen h40 ?_
            intro x15_42 M15_43 f41 h41
            have c44 : M15_43 1 1 = M12_32 1 1 := f41 1 1 (by first | omega | exact fun h => h)
            intro g45
            have h46 := h41 g45
            refine fmX12_has h46 ?_
            intro x16_48 M16_49 f47 h47
            have c50 : M16_49 1 1 = M15_43 1 1 := f47 1 1 (by first | omega | exact fun h => h)
            intro g51 g52
            have h53 := h47 g51 g52
            clear g52
            obtain ⟨h54, h55⟩ := h53
            refine ⟨?_, ?_⟩
            · intro g56
              have h57 := h54 g56
              exact ih _ _ _ _ (by first | exact True.intro | exact hI | (rw [(c50.trans (c44.trans (c33.trans (c17.trans (c13.trans c10)))))]; exact hI) | omega) h57
            · intro g58
              have h59 := h55 g58
              obtain ⟨v60, h60⟩ := h59
              refine ⟨v60, ?_⟩
              obtain ⟨h61, h62⟩ := h60
              refine ⟨?_, ?_⟩
              · intro g63
                have h64 := h61 g63
                exact ih _ _ _ _ (by first | exact True.intro | exact hI | (rw [(c50.trans (c44.trans (c33.trans (c17.trans (c13.trans c10)))))]; exact hI) | omega) h64
              · intro g65
                have h66 := h62 g65
                exact ih _ _ _ _ (by first | exact True.intro | exact hI | (rw [(c50.trans (c44.trans (c33.trans (c17.trans (c13.trans c10)))))]; exact hI) | omega) h66
          · intro g67
            have h68 := h38 g67
            obtain ⟨h69, h70⟩ := h68
            refine ⟨?_, ?_⟩
            · intro g71
              have h72 := h69 g71
              exact ih _ _ _ _ (by first | exact True.intro | exact hI | (rw [(c33.trans (c17.trans (c13.trans c10)))]; exact hI) | omega) h72
            · intro g73
              have h74 := h70 g73
              unfold qX12_when_J111 at h74 ⊢
              refine fmX12_rightThen h74 ?_
              intro x15_76 M15_77 f75 h75
              have c78 : M15_77 1 1 = M12_32 1 1 := f75 1 1 (by first | omega | exact fun h => h)
              intro g79
              have h80 := h75 g79
              refine fmX12_has h80 ?_
              intro x16_82 M16_83 f81 h81
              have c84 : M16_83 1 1 = M15_77 1 1 := f81 1 1 (by first | omega | exact fun h => h)
              intro g85 g86
              have h87 := h81 g85 g86
              clear g86
              obtain ⟨h88, h89⟩ := h87
              refine ⟨?_, ?_⟩
              · intro g90
                have h91 := h88 g90
                exact ih _ _ _ _ (by first | exact True.intro | exact hI | (rw [(c84.trans (c78.trans (c33.trans (c17.trans (c13.trans c10)))))]; exact hI) | omega) h91
              · intro g92
                have h93 := h89 g92
                obtain ⟨v94, h94⟩ := h93
                refine ⟨v94, ?_⟩
                obtain ⟨h95, h96⟩ := h94
                refine ⟨?_, ?_⟩
                · intro g97
                  have h98 := h95 g97
                  exact ih _ _ _ _ (by first | exact True.intro | exact hI | (rw [(c84.trans (c78.trans (c33.trans (c17.trans (c13.trans c10)))))]; exact hI) | omega) h98
                · intro g99
                  have h100 := h96 g99
                  exact ih _ _ _ _ (by first | exact True.intro | exact hI | (rw [(c84.trans (c78.trans (c33.trans (c17.trans (c13.trans c10)))))]; exact hI) | omega) h100
        · intro g101
          have h102 := h27 g101
          unfold qX12_when_J97 at h102 ⊢
          obtain ⟨v103, h103⟩ := h102
          refine ⟨v103, ?_⟩
          obtain ⟨h104, h105⟩ := h103
          refine ⟨?_, ?_⟩
          · intro g106
            have h107 := h104 g106
            unfold qX12_when_J111 at h107 ⊢
            refine fmX12_rightThen h107 ?_
            intro x15_109 M15_110 f108 h108
            have c111 : M15_110 1 1 = M8_16 1 1 := f108 1 1 (by first | omega | exact fun h => h)
            intro g112
            have h113 := h108 g112
            refine fmX12_has h113 ?_
            intro x16_115 M16_116 f114 h114
            have c117 : M16_116 1 1 = M15_110 1 1 := f114 1 1 (by first | omega | exact fun h => h)
            intro g118 g119
            have h120 := h114 g118 g119
            clear g119
            obtain ⟨h121, h122⟩ := h120
            refine ⟨?_, ?_⟩
            · intro g123
              have h124 := h121 g123
              exact ih _ _ _ _ (by first | exact True.intro | exact hI | (rw [(c117.trans (c111.trans (c17.trans (c13.trans c10))))]; exact hI) | omega) h124
            · intro g125
              have h126 := h122 g125
              obtain ⟨v127, h127⟩ := h126
              refine ⟨v127, ?_⟩
              obtain ⟨h128, h129⟩ := h127
              refine ⟨?_, ?_⟩
              · intro g130
                have h131 := h128 g130
                exact ih _ _ _ _ (by first | exact True.intro | exact hI | (rw [(c117.trans (c111.trans (c17.trans (c13.trans c10))))]; exact hI) | omega) h131
              · intro g132
                have h133 := h129 g132
                exact ih _ _ _ _ (by first | exact True.intro | exact hI | (rw [(c117.trans (c111.trans (c17.trans (c13.trans c10))))]; exact hI) | omega) h133
          · intro g134
            have h135 := h105 g134
            obtain ⟨h136, h137⟩ := h135
            refine ⟨?_, ?_⟩
            · intro g138
              have h139 := h136 g138
              exact ih _ _ _ _ (by first | exact True.intro | exact hI | (rw [(c17.trans (c13.trans c10))]; exact hI) | omega) h139
            · intro g140
              have h141 := h137 g140
              unfold qX12_when_J111 at h141 ⊢
              refine fmX12_rightThen h141 ?_
              intro x15_143 M15_144 f142 h142
              have c145 : M15_144 1 1 = M8_16 1 1 := f142 1 1 (by first | omega | exact fun h => h)
              intro g146
              have h147 := h142 g146
              refine fmX12_has h147 ?_
              intro x16_149 M16_150 f148 h148
              have c151 : M16_150 1 1 = M15_144 1 1 := f148 1 1 (by first | omega | exact fun h => h)
              intro g152 g153
              have h154 := h148 g152 g153
              clear g153
              obtain ⟨h155, h156⟩ := h154
              refine ⟨?_, ?_⟩
              · intro g157
                have h158 := h155 g157
                exact ih _ _ _ _ (by first | exact True.intro | exact hI | (rw [(c151.trans (c145.trans (c17.trans (c13.trans c10))))]; exact hI) | omega) h158
              · intro g159
                have h160 := h156 g159
                obtain ⟨v161, h161⟩ := h160
                refine ⟨v161, ?_⟩
                obtain ⟨h162, h163⟩ := h161
                refine ⟨?_, ?_⟩
                · intro g164
                  have h165 := h162 g164
                  exact ih _ _ _ _ (by first | exact True.intro | exact hI | (rw [(c151.trans (c145.trans (c17.trans (c13.trans c10))))]; exact hI) | omega) h165
                · intro g166
                  have h167 := h163 g166
                  exact ih _ _ _ _ (by first | exact True.intro | exact hI | (rw [(c151.trans (c145.trans (c17.trans (c13.trans c10))))]; exact hI) | omega) h167
      · intro g168
        have h169 := h22 g168
        obtain ⟨v170, h170⟩ := h169
        refine ⟨v170, ?_⟩
        obtain ⟨v171, h171⟩ := h170
        refine ⟨v171, ?_⟩
        intro x23_172 g173 g174
        have h172 := h171 x23_172 g173 g174
        obtain ⟨v175, h175⟩ := h172
        refine ⟨v175, ?_⟩
        obtain ⟨v176, h176⟩ := h175
        refine ⟨v176, ?_⟩
        intro x26_177 g178 g179
        have h177 := h176 x26_177 g178 g179
        obtain ⟨h180, h181⟩ := h177
        refine ⟨?_, ?_⟩
        · intro g182
          have h183 := h180 g182
          unfold qX12_when_J76 at h183 ⊢
          unfold qX12_when_J77 at h183 ⊢
          obtain ⟨v184, h184⟩ := h183
          refine ⟨v184, ?_⟩
          obtain ⟨h185, h186⟩ := h184
          refine ⟨?_, ?_⟩
          · intro g187
            have h188 := h185 g187
            refine fmX12_turnsOne h188 ?_
            intro x12_190 M12_191 f189 h189
            have c192 : M12_191 1 1 = M8_16 1 1 := f189 1 1 (by first | omega | exact fun h => h)
            intro g193
            have h194 := h189 g193
            unfold qX12_when_J97 at h194 ⊢
            obtain ⟨v195, h195⟩ := h194
            refine ⟨v195, ?_⟩
            obtain ⟨h196, h197⟩ := h195
            refine ⟨?_, ?_⟩
            · intro g198
              have h199 := h196 g198
              unfold qX12_when_J111 at h199 ⊢
              refine fmX12_rightThen h199 ?_
              intro x15_201 M15_202 f200 h200
              have c203 : M15_202 1 1 = M12_191 1 1 := f200 1 1 (by first | omega | exact fun h => h)
              intro g204
              have h205 := h200 g204
              refine fmX12_has h205 ?_
              intro x16_207 M16_208 f206 h206
              have c209 : M16_208 1 1 = M15_202 1 1 := f206 1 1 (by first | omega | exact fun h => h)
              intro g210 g211
              have h212 := h206 g210 g211
              clear g211
              obtain ⟨h213, h214⟩ := h212
              refine ⟨?_, ?_⟩
              · intro g215
                have h216 := h213 g215
                exact ih _ _ _ _ (by first | exact True.intro | exact hI | (rw [(c209.trans (c203.trans (c192.trans (c17.trans (c13.trans c10)))))]; exact hI) | omega) h216
              · intro g217
                have h218 := h214 g217
                obtain ⟨v219, h219⟩ := h218
                refine ⟨v219, ?_⟩
                obtain ⟨h220, h221⟩ := h219
                refine ⟨?_, ?_⟩
                · intro g222
                  have h223 := h220 g222
                  exact ih _ _ _ _ (by first | exact True.intro | exact hI | (rw [(c209.trans (c203.trans (c192.trans (c17.trans (c13.trans c10)))))]; exact hI) | omega) h223
                · intro g224
                  have h225 := h221 g224
                  exact ih _ _ _ _ (by first | exact True.intro | exact hI | (rw [(c209.trans (c203.trans (c192.trans (c17.trans (c13.trans c10)))))]; exact hI) | omega) h225
            · intro g226
              have h227 := h197 g226
              obtain ⟨h228, h229⟩ := h227
              refine ⟨?_, ?_⟩
              · intro g230
                have h231 := h228 g230
                exact ih _ _ _ _ (by first | exact True.intro | exact hI | (rw [(c192.trans (c17.trans (c13.trans c10)))]; exact hI) | omega) h231
              · intro g232
                have h233 := h229 g232
                unfold qX12_when_J111 at h233 ⊢
                refine fmX12_rightThen h233 ?_
                intro x15_235 M15_236 f234 h234
                have c237 : M15_236 1 1 = M12_191 1 1 := f234 1 1 (by first | omega | exact fun h => h)
                intro g238
                have h239 := h234 g238
                refine fmX12_has h239 ?_
                intro x16_241 M16_242 f240 h240
                have c243 : M16_242 1 1 = M15_236 1 1 := f240 1 1 (by first | omega | exact fun h => h)
                intro g244 g245
                have h246 := h240 g244 g245
                clear g245
                obtain ⟨h247, h248⟩ := h246
                refine ⟨?_, ?_⟩
                · intro g249
                  have h250 := h247 g249
                  exact ih _ _ _ _ (by first | exact True.intro | exact hI | (rw [(c243.trans (c237.trans (c192.trans (c17.trans (c13.trans c10)))))]; exact hI) | omega) h250
                · intro g251
                  have h252 := h248 g251
                  obtain ⟨v253, h253⟩ := h252
                  refine ⟨v253, ?_⟩
                  obtain ⟨h254, h255⟩ := h253
                  refine ⟨?_, ?_⟩
                  · intro g256
                    have h257 := h254 g256
                    exact ih _ _ _ _ (by first | exact True.intro | exact hI | (rw [(c243.trans (c237.trans (c192.trans (c17.trans (c13.trans c10)))))]; exact hI) | omega) h257
                  · intro g258
                    have h259 := h255 g258
                    exact ih _ _ _ _ (by first | exact True.intro | exact hI | (rw [(c243.trans (c237.trans (c192.trans (c17.trans (c13.trans c10)))))]; exact hI) | omega) h259
          · intro g260
            have h261 := h186 g260
            unfold qX12_when_J97 at h261 ⊢
            obtain ⟨v262, h262⟩ := h261
            refine ⟨v262, ?_⟩
            obtain ⟨h263, h264⟩ := h262
            refine ⟨?_, ?_⟩
            · intro g265
              have h266 := h263 g265
              unfold qX12_when_J111 at h266 ⊢
              refine fmX12_rightThen h266 ?_
              intro x15_268 M15_269 f267 h267
              have c270 : M15_269 1 1 = M8_16 1 1 := f267 1 1 (by first | omega | exact fun h => h)
              intro g271
              have h272 := h267 g271
              refine fmX12_has h272 ?_
              intro x16_274 M16_275 f273 h273
              have c276 : M16_275 1 1 = M15_269 1 1 := f273 1 1 (by first | omega | exact fun h => h)
              intro g277 g278
              have h279 := h273 g277 g278
              clear g278
              obtain ⟨h280, h281⟩ := h279
              refine ⟨?_, ?_⟩
              · intro g282
                have h283 := h280 g282
                exact ih _ _ _ _ (by first | exact True.intro | exact hI | (rw [(c276.trans (c270.trans (c17.trans (c13.trans c10))))]; exact hI) | omega) h283
              · intro g284
                have h285 := h281 g284
                obtain ⟨v286, h286⟩ := h285
                refine ⟨v286, ?_⟩
                obtain ⟨h287, h288⟩ := h286
                refine ⟨?_, ?_⟩
                · intro g289
                  have h290 := h287 g289
                  exact ih _ _ _ _ (by first | exact True.intro | exact hI | (rw [(c276.trans (c270.trans (c17.trans (c13.trans c10))))]; exact hI) | omega) h290
                · intro g291
                  have h292 := h288 g291
                  exact ih _ _ _ _ (by first | exact True.intro | exact hI | (rw [(c276.trans (c270.trans (c17.trans (c13.trans c10))))]; exact hI) | omega) h292
            · intro g293
              have h294 := h264 g293
              obtain ⟨h295, h296⟩ := h294
              refine ⟨?_, ?_⟩
              · intro g297
                have h298 := h295 g297
                exact ih _ _ _ _ (by first | exact True.intro | exact hI | (rw [(c17.trans (c13.trans c10))]; exact hI) | omega) h298
              · intro g299
                have h300 := h296 g299
                unfold qX12_when_J111 at h300 ⊢
                refine fmX12_rightThen h300 ?_
                intro x15_302 M15_303 f301 h301
                have c304 : M15_303 1 1 = M8_16 1 1 := f301 1 1 (by first | omega | exact fun h => h)
                intro g305
                have h306 := h301 g305
                refine fmX12_has h306 ?_
                intro x16_308 M16_309 f307 h307
                have c310 : M16_309 1 1 = M15_303 1 1 := f307 1 1 (by first | omega | exact fun h => h)
                intro g311 g312
                have h313 := h307 g311 g312
                clear g312
                obtain ⟨h314, h315⟩ := h313
                refine ⟨?_, ?_⟩
                · intro g316
                  have h317 := h314 g316
                  exact ih _ _ _ _ (by first | exact True.intro | exact hI | (rw [(c310.trans (c304.trans (c17.trans (c13.trans c10))))]; exact hI) | omega) h317
                · intro g318
                  have h319 := h315 g318
                  obtain ⟨v320, h320⟩ := h319
                  refine ⟨v320, ?_⟩
                  obtain ⟨h321, h322⟩ := h320
                  refine ⟨?_, ?_⟩
                  · intro g323
                    have h324 := h321 g323
                    exact ih _ _ _ _ (by first | exact True.intro | exact hI | (rw [(c310.trans (c304.trans (c17.trans (c13.trans c10))))]; exact hI) | omega) h324
                  · intro g325
                    have h326 := h322 g325
                    exact ih _ _ _ _ (by first | exact True.intro | exact hI | (rw [(c310.trans (c304.trans (c17.trans (c13.trans c10))))]; exact hI) | omega) h326
        · intro g327
          have h328 := h181 g327
          unfold qX12_when_J77 at h328 ⊢
          obtain ⟨v329, h329⟩ := h328
          refine ⟨v329, ?_⟩
          obtain ⟨h330, h331⟩ := h329
          refine ⟨?_, ?_⟩
          · intro g332
            have h333 := h330 g332
            refine fmX12_turnsOne h333 ?_
            intro x12_335 M12_336 f334 h334
            have c337 : M12_336 1 1 = M8_16 1 1 := f334 1 1 (by first | omega | exact fun h => h)
            intro g338
            have h339 := h334 g338
            unfold qX12_when_J97 at h339 ⊢
            obtain ⟨v340, h340⟩ := h339
            refine ⟨v340, ?_⟩
            obtain ⟨h341, h342⟩ := h340
            refine ⟨?_, ?_⟩
            · intro g343
              have h344 := h341 g343
              unfold qX12_when_J111 at h344 ⊢
              refine fmX12_rightThen h344 ?_
              intro x15_346 M15_347 f345 h345
              have c348 : M15_347 1 1 = M12_336 1 1 := f345 1 1 (by first | omega | exact fun h => h)
              intro g349
              have h350 := h345 g349
              refine fmX12_has h350 ?_
              intro x16_352 M16_353 f351 h351
              have c354 : M16_353 1 1 = M15_347 1 1 := f351 1 1 (by first | omega | exact fun h => h)
              intro g355 g356
              have h357 := h351 g355 g356
              clear g356
              obtain ⟨h358, h359⟩ := h357
              refine ⟨?_, ?_⟩
              · intro g360
                have h361 := h358 g360
                exact ih _ _ _ _ (by first | exact True.intro | exact hI | (rw [(c354.trans (c348.trans (c337.trans (c17.trans (c13.trans c10)))))]; exact hI) | omega) h361
              · intro g362
                have h363 := h359 g362
                obtain ⟨v364, h364⟩ := h363
                refine ⟨v364, ?_⟩
                obtain ⟨h365, h366⟩ := h364
                refine ⟨?_, ?_⟩
                · intro g367
                  have h368 := h365 g367
                  exact ih _ _ _ _ (by first | exact True.intro | exact hI | (rw [(c354.trans (c348.trans (c337.trans (c17.trans (c13.trans c10)))))]; exact hI) | omega) h368
                · intro g369
                  have h370 := h366 g369
                  exact ih _ _ _ _ (by first | exact True.intro | exact hI | (rw [(c354.trans (c348.trans (c337.trans (c17.trans (c13.trans c10)))))]; exact hI) | omega) h370
            · intro g371
              have h372 := h342 g371
              obtain ⟨h373, h374⟩ := h372
              refine ⟨?_, ?_⟩
              · intro g375
                have h376 := h373 g375
                exact ih _ _ _ _ (by first | exact True.intro | exact hI | (rw [(c337.trans (c17.trans (c13.trans c10)))]; exact hI) | omega) h376
              · intro g377
                have h378 := h374 g377
                unfold qX12_when_J111 at h378 ⊢
                refine fmX12_rightThen h378 ?_
                intro x15_380 M15_381 f379 h379
                have c382 : M15_381 1 1 = M12_336 1 1 := f379 1 1 (by first | omega | exact fun h => h)
                intro g383
                have h384 := h379 g383
                refine fmX12_has h384 ?_
                intro x16_386 M16_387 f385 h385
                have c388 : M16_387 1 1 = M15_381 1 1 := f385 1 1 (by first | omega | exact fun h => h)
                intro g389 g390
                have h391 := h385 g389 g390
                clear g390
                obtain ⟨h392, h393⟩ := h391
                refine ⟨?_, ?_⟩
                · intro g394
                  have h395 := h392 g394
                  exact ih _ _ _ _ (by first | exact True.intro | exact hI | (rw [(c388.trans (c382.trans (c337.trans (c17.trans (c13.trans c10)))))]; exact hI) | omega) h395
                · intro g396
                  have h397 := h393 g396
                  obtain ⟨v398, h398⟩ := h397
                  refine ⟨v398, ?_⟩
                  obtain ⟨h399, h400⟩ := h398
                  refine ⟨?_, ?_⟩
                  · intro g401
                    have h402 := h399 g401
                    exact ih _ _ _ _ (by first | exact True.intro | exact hI | (rw [(c388.trans (c382.trans (c337.trans (c17.trans (c13.trans c10)))))]; exact hI) | omega) h402
                  · intro g403
                    have h404 := h400 g403
                    exact ih _ _ _ _ (by first | exact True.intro | exact hI | (rw [(c388.trans (c382.trans (c337.trans (c17.trans (c13.trans c10)))))]; exact hI) | omega) h404
          · intro g405
            have h406 := h331 g405
            unfold qX12_when_J97 at h406 ⊢
            obtain ⟨v407, h407⟩ := h406
            refine ⟨v407, ?_⟩
            obtain ⟨h408, h409⟩ := h407
            refine ⟨?_, ?_⟩
            · intro g410
              have h411 := h408 g410
              unfold qX12_when_J111 at h411 ⊢
              refine fmX12_rightThen h411 ?_
              intro x15_413 M15_414 f412 h412
              have c415 : M15_414 1 1 = M8_16 1 1 := f412 1 1 (by first | omega | exact fun h => h)
              intro g416
              have h417 := h412 g416
              refine fmX12_has h417 ?_
              intro x16_419 M16_420 f418 h418
              have c421 : M16_420 1 1 = M15_414 1 1 := f418 1 1 (by first | omega | exact fun h => h)
              intro g422 g423
              have h424 := h418 g422 g423
              clear g423
              obtain ⟨h425, h426⟩ := h424
              refine ⟨?_, ?_⟩
              · intro g427
                have h428 := h425 g427
                exact ih _ _ _ _ (by first | exact True.intro | exact hI | (rw [(c421.trans (c415.trans (c17.trans (c13.trans c10))))]; exact hI) | omega) h428
              · intro g429
                have h430 := h426 g429
                obtain ⟨v431, h431⟩ := h430
                refine ⟨v431, ?_⟩
                obtain ⟨h432, h433⟩ := h431
                refine ⟨?_, ?_⟩
                · intro g434
                  have h435 := h432 g434
                  exact ih _ _ _ _ (by first | exact True.intro | exact hI | (rw [(c421.trans (c415.trans (c17.trans (c13.trans c10))))]; exact hI) | omega) h435
                · intro g436
                  have h437 := h433 g436
                  exact ih _ _ _ _ (by first | exact True.intro | exact hI | (rw [(c421.trans (c415.trans (c17.trans (c13.trans c10))))]; exact hI) | omega) h437
            · intro g438
              have h439 := h409 g438
              obtain ⟨h440, h441⟩ := h439
              refine ⟨?_, ?_⟩
              · intro g442
                have h443 := h440 g442
                exact ih _ _ _ _ (by first | exact True.intro | exact hI | (rw [(c17.trans (c13.trans c10))]; exact hI) | omega) h443
              · intro g444
                have h445 := h441 g444
                unfold qX12_when_J111 at h445 ⊢
                refine fmX12_rightThen h445 ?_
                intro x15_447 M15_448 f446 h446
                have c449 : M15_448 1 1 = M8_16 1 1 := f446 1 1 (by first | omega | exact fun h => h)
                intro g450
                have h451 := h446 g450
                refine fmX12_has h451 ?_
                intro x16_453 M16_454 f452 h452
                have c455 : M16_454 1 1 = M15_448 1 1 := f452 1 1 (by first | omega | exact fun h => h)
                intro g456 g457
                have h458 := h452 g456 g457
                clear g457
                obtain ⟨h459, h460⟩ := h458
                refine ⟨?_, ?_⟩
                · intro g461
                  have h462 := h459 g461
                  exact ih _ _ _ _ (by first | exact True.intro | exact hI | (rw [(c455.trans (c449.trans (c17.trans (c13.trans c10))))]; exact hI) | omega) h462
                · intro g463
                  have h464 := h460 g463
                  obtain ⟨v465, h465⟩ := h464
                  refine ⟨v465, ?_⟩
                  obtain ⟨h466, h467⟩ := h465
                  refine ⟨?_, ?_⟩
                  · intro g468
                    have h469 := h466 g468
                    exact ih _ _ _ _ (by first | exact True.intro | exact hI | (rw [(c455.trans (c449.trans (c17.trans (c13.trans c10))))]; exact hI) | omega) h469
                  · intro g470
                    have h471 := h467 g470
                    exact ih _ _ _ _ (by first | exact True.intro | exact hI | (rw [(c455.trans (c449.trans (c17.trans (c13.trans c10))))]; exact hI) | omega) h471
theorem cmX12_when {p1 : Int} {M : Mem} {Q Q' : Int → Mem → Prop} (h : qX12_when p1 M Q) (hQ : ∀ (w0 : Int) (M' : Mem), ((0 ≤ w0 → M' 1 1 = 1) ∧ (w0 < 0 → M' 1 1 = M 1 1)) → Q w0 M' → Q' w0 M') : qX12_when p1 M Q' := by
  unfold qX12_when at h ⊢
  intro M1_1 eM1_1
  have h1 := h M1_1 eM1_1
  have c2 : M1_1 1 1 = M 1 1 := by rw [eM1_1, up2_j (by omega)]
  refine fmX12_isMourner h1 ?_
  intro x2_4 M2_5 f3 h3
  have c6 : M2_5 1 1 = M1_1 1 1 := f3 1 1 (by first | omega | exact fun h => h)
  intro g7 g8
  have h9 := h3 g7 g8
  clear g8
  obtain ⟨h10, h11⟩ := h9
  refine ⟨?_, ?_⟩
  · intro g12
    have h13 := h10 g12
    obtain ⟨n14, h14⟩ := h13
    refine ⟨n14, ?_⟩
    refine cmX12_when_L24 (g0 := M2_5 1 1) (g1 := 0) ?_ ?_ _ _ _ _ _ (by first | exact True.intro | omega) h14
    · exact fun _ _ q _ => q.elim
    · intro v2_18 v3_19 M_20 c17 h17
      obtain ⟨v21, h21⟩ := h17
      refine ⟨v21, ?_⟩
      obtain ⟨h22, h23⟩ := h21
      refine ⟨?_, ?_⟩
      · intro g24
        have h25 := h22 g24
        exact hQ _ _ (by first | exact True.intro | exact c17 | omega) h25
      · intro g26
        have h27 := h23 g26
        intro M31_28 eM31_28
        have h28 := h27 M31_28 eM31_28
        have c29 : M31_28 1 1 = 0 := by rw [eM31_28, up2_s]
        obtain ⟨v30, h30⟩ := h28
        refine ⟨v30, ?_⟩
        refine fmX12_enters (cmX12_enters h30 (fun M' a q => (And.intro a q))) ?_
        intro M33_32 f31 q31
        obtain ⟨c31, h31⟩ := q31
        exact hQ _ _ (by first | exact True.intro | exact c17 | omega) h31
  · intro g33
    have h34 := h11 g33
    exact hQ _ _ (by first | exact True.intro | omega) h34
theorem cmX12_mends_L58 {p1 : Int} {g0 g1 : Int} {X122 X122' : Int → Int → Int → Mem → Prop} {Q Q' : Int → Mem → Prop} (hQ : ∀ (w0 : Int) (M' : Mem), (False) → Q w0 M' → Q' w0 M') (hX122 : ∀ (w0 w1 w2 : Int) (M' : Mem), (M' 1 1 = g0) → X122 w0 w1 w2 M' → X122' w0 w1 w2 M') : ∀ (n : Nat) (v2 v3 v4 v5 : Int) (M : Mem), (M 1 1 = g0) → qX12_mends_L58 p1 X122 Q n v2 v3 v4 v5 M → qX12_mends_L58 p1 X122' Q' n v2 v3 v4 v5 M := by
  intro n
  induction n with
  | zero => intro v2 v3 v4 v5 M _ h; exact h.elim
  | succ n ih =>
    intro v2 v3 v4 v5 M hI h
    rw [qX12_mends_L58] at h
    rw [qX12_mends_L58]
    intro x11_1 g2 g3
    have h1 := h x11_1 g2 g3
    obtain ⟨v4, h4⟩ := h1
    refine ⟨v4, ?_⟩
    obtain ⟨h5, h6⟩ := h4
    refine ⟨?_, ?_⟩
    · intro g7
      have h8 := h5 g7
      exact hX122 _ _ _ _ (by first | exact True.intro | exact hI | omega) h8
    · intro g9
      have h10 := h6 g9
      obtain ⟨v11, h11⟩ := h10
      refine ⟨v11, ?_⟩
      refine fmX12_has h11 ?_
      intro x15_13 M15_14 f12 h12
      have c15 : M15_14 1 1 = M 1 1 := f12 1 1 (by first | omega | exact fun h => h)
      intro g16 g17
      have h18 := h12 g16 g17
      clear g17
      obtain ⟨h19, h20⟩ := h18
      refine ⟨?_, ?_⟩
      · intro g21
        have h22 := h19 g21
        unfold qX12_mends_J90 at h22 ⊢
        obtain ⟨v23, h23⟩ := h22
        refine ⟨v23, ?_⟩
        obtain ⟨h24, h25⟩ := h23
        refine ⟨?_, ?_⟩
        · intro g26
          have h27 := h24 g26
          exact ih _ _ _ _ _ (by first | exact True.intro | exact hI | (rw [c15]; exact hI) | omega) h27
        · intro g28
          have h29 := h25 g28
          obtain ⟨v30, h30⟩ := h29
          refine ⟨v30, ?_⟩
          obtain ⟨h31, h32⟩ := h30
          refine ⟨?_, ?_⟩
          · intro g33
            have h34 := h31 g33
            exact ih _ _ _ _ _ (by first | exact True.intro | exact hI | (rw [c15]; exact hI) | omega) h34
          · intro g35
            have h36 := h32 g35
            obtain ⟨h37, h38⟩ := h36
            refine ⟨?_, ?_⟩
            · intro g39
              have h40 := h37 g39
              exact ih _ _ _ _ _ (by first | exact True.intro | exact hI | (rw [c15]; exact hI) | omega) h40
            · intro g41
              have h42 := h38 g41
              exact ih _ _ _ _ _ (by first | exact True.intro | exact hI | (rw [c15]; exact hI) | omega) h42
      · intro g43
        have h44 := h20 g43
        refine fmX12_turnsOne h44 ?_
        intro x22_46 M22_47 f45 h45
        have c48 : M22_47 1 1 = M15_14 1 1 := f45 1 1 (by first | omega | exact fun h => h)
        intro g49
        have h50 := h45 g49
        unfold qX12_mends_J90 at h50 ⊢
        obtain ⟨v51, h51⟩ := h50
        refine ⟨v51, ?_⟩
        obtain ⟨h52, h53⟩ := h51
        refine ⟨?_, ?_⟩
        · intro g54
          have h55 := h52 g54
          exact ih _ _ _ _ _ (by first | exact True.intro | exact hI | (rw [(c48.trans c15)]; exact hI) | omega) h55
        · intro g56
          have h57 := h53 g56
          obtain ⟨v58, h58⟩ := h57
          refine ⟨v58, ?_⟩
          obtain ⟨h59, h60⟩ := h58
          refine ⟨?_, ?_⟩
          · intro g61
            have h62 := h59 g61
            exact ih _ _ _ _ _ (by first | exact True.intro | exact hI | (rw [(c48.trans c15)]; exact hI) | omega) h62
          · intro g63
            have h64 := h60 g63
            obtain ⟨h65, h66⟩ := h64
            refine ⟨?_, ?_⟩
            · intro g67
              have h68 := h65 g67
              exact ih _ _ _ _ _ (by first | exact True.intro | exact hI | (rw [(c48.trans c15)]; exact hI) | omega) h68
            · intro g69
              have h70 := h66 g69
              exact ih _ _ _ _ _ (by first | exact True.intro | exact hI | (rw [(c48.trans c15)]; exact hI) | omega) h70
theorem cmX12_mends_L23 {p1 : Int} {g0 g1 : Int} {X150 X150' : Int → Mem → Prop} {Q Q' : Int → Mem → Prop} (hQ : ∀ (w0 : Int) (M' : Mem), (False) → Q w0 M' → Q' w0 M') (hX150 : ∀ (w0 : Int) (M' : Mem), (M' 1 1 = g0) → X150 w0 M' → X150' w0 M') : ∀ (n : Nat) (v2 v3 : Int) (M : Mem), (M 1 1 = g0) → qX12_mends_L23 p1 X150 Q n v2 v3 M → qX12_mends_L23 p1 X150' Q' n v2 v3 M := by
  intro n
  induction n with
  | zero => intro v2 v3 M _ h; exact h.elim
  | succ n ih =>
    intro v2 v3 M hI h
    rw [qX12_mends_L23] at h
    rw [qX12_mends_L23]
    intro x4_1 g2 g3
    have h1 := h x4_1 g2 g3
    intro x5_4 g5 g6
    have h4 := h1 x5_4 g5 g6
    obtain ⟨v7, h7⟩ := h4
    refine ⟨v7, ?_⟩
    obtain ⟨h8, h9⟩ := h7
    refine ⟨?_, ?_⟩
    · intro g10
      have h11 := h8 g10
      exact hX150 _ _ (by first | exact True.intro | exact hI | omega) h11
    · intro g12
      have h13 := h9 g12
      obtain ⟨v14, h14⟩ := h13
      refine ⟨v14, ?_⟩
      obtain ⟨h15, h16⟩ := h14
      refine ⟨?_, ?_⟩
      · intro g17
        have h18 := h15 g17
        unfold qX12_mends_J48 at h18 ⊢
        refine fmX12_copies h18 ?_
        intro M10_20 f19 h19
        have c21 : M10_20 1 1 = M 1 1 := f19 1 1 (by first | omega | exact fun h => h)
        obtain ⟨n22, h22⟩ := h19
        refine ⟨n22, ?_⟩
        refine cmX12_mends_L58 (g0 := g0) (g1 := g1) ?_ ?_ _ _ _ _ _ _ (by first | exact True.intro | exact hI | (rw [c21]; exact hI) | omega) h22
        · exact fun _ _ q _ => q.elim
        · intro v2_26 v3_27 v4_28 M_29 c25 h25
          obtain ⟨v30, h30⟩ := h25
          refine ⟨v30, ?_⟩
          obtain ⟨h31, h32⟩ := h30
          refine ⟨?_, ?_⟩
          · intro g33
            have h34 := h31 g33
            exact ih _ _ _ (by first | exact True.intro | exact c25 | omega) h34
          · intro g35
            have h36 := h32 g35
            refine fmX12_rightThen h36 ?_
            intro x26_38 M26_39 f37 h37
            have c40 : M26_39 1 1 = M_29 1 1 := f37 1 1 (by first | omega | exact fun h => h)
            intro g41
            have h42 := h37 g41
            refine cmbits_x h42 ?_
            intro x27_44 c43 h43
            intro g46
            have h47 := h43 g46
            obtain ⟨h48, h49⟩ := h47
            refine ⟨?_, ?_⟩
            · intro g50
              have h51 := h48 g50
              exact ih _ _ _ (by first | exact True.intro | exact c25 | (rw [c40]; exact c25) | omega) h51
            · intro g52
              have h53 := h49 g52
              exact ih _ _ _ (by first | exact True.intro | exact c25 | (rw [c40]; exact c25) | omega) h53
      · intro g54
        have h55 := h16 g54
        refine cmbits_x h55 ?_
        intro x29_57 c56 h56
        intro g59
        have h60 := h56 g59
        refine cmbits_x h60 ?_
        intro x30_62 c61 h61
        intro g64
        have h65 := h61 g64
        obtain ⟨h66, h67⟩ := h65
        refine ⟨?_, ?_⟩
        · intro g68
          have h69 := h66 g68
          exact ih _ _ _ (by first | exact True.intro | exact hI | omega) h69
        · intro g70
          have h71 := h67 g70
          unfold qX12_mends_J48 at h71 ⊢
          refine fmX12_copies h71 ?_
          intro M10_73 f72 h72
          have c74 : M10_73 1 1 = M 1 1 := f72 1 1 (by first | omega | exact fun h => h)
          obtain ⟨n75, h75⟩ := h72
          refine ⟨n75, ?_⟩
          refine cmX12_mends_L58 (g0 := g0) (g1 := g1) ?_ ?_ _ _ _ _ _ _ (by first | exact True.intro | exact hI | (rw [c74]; exact hI) | omega) h75
          · exact fun _ _ q _ => q.elim
          · intro v2_79 v3_80 v4_81 M_82 c78 h78
            obtain ⟨v83, h83⟩ := h78
            refine ⟨v83, ?_⟩
            obtain ⟨h84, h85⟩ := h83
            refine ⟨?_, ?_⟩
            · intro g86
              have h87 := h84 g86
              exact ih _ _ _ (by first | exact True.intro | exact c78 | omega) h87
            · intro g88
              have h89 := h85 g88
              refine fmX12_rightThen h89 ?_
              intro x26_91 M26_92 f90 h90
              have c93 : M26_92 1 1 = M_82 1 1 := f90 1 1 (by first | omega | exact fun h => h)
              intro g94
              have h95 := h90 g94
              refine cmbits_x h95 ?_
              intro x27_97 c96 h96
              intro g99
              have h100 := h96 g99
              obtain ⟨h101, h102⟩ := h100
              refine ⟨?_, ?_⟩
              · intro g103
                have h104 := h101 g103
                exact ih _ _ _ (by first | exact True.intro | exact c78 | (rw [c93]; exact c78) | omega) h104
              · intro g105
                have h106 := h102 g105
                exact ih _ _ _ (by first | exact True.intro | exact c78 | (rw [c93]; exact c78) | omega) h106
theorem cmX12_mends {p1 : Int} {M : Mem} {Q Q' : Int → Mem → Prop} (h : qX12_mends p1 M Q) (hQ : ∀ (w0 : Int) (M' : Mem), ((0 ≤ w0 → M' 1 1 = 1) ∧ (w0 < 0 → M' 1 1 = M 1 1)) → Q w0 M' → Q' w0 M') : qX12_mends p1 M Q' := by
  unfold qX12_mends at h ⊢
  intro M1_1 eM1_1
  have h1 := h M1_1 eM1_1
  have c2 : M1_1 1 1 = M 1 1 := by rw [eM1_1, up2_j (by omega)]
  refine cmX12_in h1 ?_
  intro x2_4 c3 h3
  intro g6 g7
  have h8 := h3 g6 g7
  clear g7
  obtain ⟨h9, h10⟩ := h8
  refine ⟨?_, ?_⟩
  · intro g11
    have h12 := h9 g11
    obtain ⟨n13, h13⟩ := h12
    refine ⟨n13, ?_⟩
    refine cmX12_mends_L23 (g0 := M1_1 1 1) (g1 := 0) ?_ ?_ _ _ _ _ (by first | exact True.intro | omega) h13
    · exact fun _ _ q _ => q.elim
    · intro v2_17 M_18 c16 h16
      obtain ⟨v19, h19⟩ := h16
      refine ⟨v19, ?_⟩
      obtain ⟨h20, h21⟩ := h19
      refine ⟨?_, ?_⟩
      · intro g22
        have h23 := h20 g22
        intro M35_24 eM35_24
        have h24 := h23 M35_24 eM35_24
        have c25 : M35_24 1 1 = 0 := by rw [eM35_24, up2_s]
        refine fmX12_enters (cmX12_enters h24 (fun M' a q => (And.intro a q))) ?_
        intro M36_27 f26 q26
        obtain ⟨c26, h26⟩ := q26
        refine cmbits_x h26 ?_
        intro x37_29 c28 h28
        intro g31
        have h32 := h28 g31
        exact hQ _ _ (by first | exact True.intro | exact c16 | omega) h32
      · intro g33
        have h34 := h21 g33
        exact hQ _ _ (by first | exact True.intro | exact c16 | omega) h34
  · intro g35
    have h36 := h10 g35
    exact hQ _ _ (by first | exact True.intro | omega) h36
theorem cmX12_misleads_L58  {g0 g1 : Int} {X124 X124' : Int → Int → Int → Int → Mem → Prop} {Q Q' : Int → Mem → Prop} (hQ : ∀ (w0 : Int) (M' : Mem), (False) → Q w0 M' → Q' w0 M') (hX124 : ∀ (w0 w1 w2 w3 : Int) (M' : Mem), (M' 1 1 = g0) → X124 w0 w1 w2 w3 M' → X124' w0 w1 w2 w3 M') : ∀ (n : Nat) (v1 v2 v3 v4 v5 : Int) (M : Mem), (M 1 1 = g0) → qX12_misleads_L58 X124 Q n v1 v2 v3 v4 v5 M → qX12_misleads_L58 X124' Q' n v1 v2 v3 v4 v5 M := by
  intro n
  induction n with
  | zero => intro v1 v2 v3 v4 v5 M _ h; exact h.elim
  | succ n ih =>
    intro v1 v2 v3 v4 v5 M hI h
    rw [qX12_misleads_L58] at h
    rw [qX12_misleads_L58]
    intro x13_1 g2 g3
    have h1 := h x13_1 g2 g3
    obtain ⟨v4, h4⟩ := h1
    refine ⟨v4, ?_⟩
    obtain ⟨h5, h6⟩ := h4
    refine ⟨?_, ?_⟩
    · intro g7
      have h8 := h5 g7
      exact hX124 _ _ _ _ _ (by first | exact True.intro | exact hI | omega) h8
    · intro g9
      have h10 := h6 g9
      refine fmX12_isEnded h10 ?_
      intro x16_12 M16_13 f11 h11
      have c14 : M16_13 1 1 = M 1 1 := f11 1 1 (by first | omega | exact fun h => h)
      intro g15 g16
      have h17 := h11 g15 g16
      clear g16
      obtain ⟨h18, h19⟩ := h17
      refine ⟨?_, ?_⟩
      · intro g20
        have h21 := h18 g20
        unfold qX12_misleads_J107 at h21 ⊢
        obtain ⟨v22, h22⟩ := h21
        refine ⟨v22, ?_⟩
        obtain ⟨v23, h23⟩ := h22
        refine ⟨v23, ?_⟩
        intro x20_24 g25 g26
        have h24 := h23 x20_24 g25 g26
        unfold qX12_misleads_J117 at h24 ⊢
        obtain ⟨v27, h27⟩ := h24
        refine ⟨v27, ?_⟩
        obtain ⟨v28, h28⟩ := h27
        refine ⟨v28, ?_⟩
        obtain ⟨v29, h29⟩ := h28
        refine ⟨v29, ?_⟩
        intro M24_30 eM24_30
        have h30 := h29 M24_30 eM24_30
        have c31 : M24_30 1 1 = M16_13 1 1 := by rw [eM24_30, up2_n (by omega)]
        exact ih _ _ _ _ _ _ (by first | exact True.intro | exact hI | (rw [(c31.trans c14)]; exact hI) | omega) h30
      · intro g32
        have h33 := h19 g32
        obtain ⟨v34, h34⟩ := h33
        refine ⟨v34, ?_⟩
        obtain ⟨v35, h35⟩ := h34
        refine ⟨v35, ?_⟩
        intro x27_36 g37 g38
        have h36 := h35 x27_36 g37 g38
        obtain ⟨v39, h39⟩ := h36
        refine ⟨v39, ?_⟩
        obtain ⟨h40, h41⟩ := h39
        refine ⟨?_, ?_⟩
        · intro g42
          have h43 := h40 g42
          unfold qX12_misleads_J107 at h43 ⊢
          obtain ⟨v44, h44⟩ := h43
          refine ⟨v44, ?_⟩
          obtain ⟨v45, h45⟩ := h44
          refine ⟨v45, ?_⟩
          intro x20_46 g47 g48
          have h46 := h45 x20_46 g47 g48
          unfold qX12_misleads_J117 at h46 ⊢
          obtain ⟨v49, h49⟩ := h46
          refine ⟨v49, ?_⟩
          obtain ⟨v50, h50⟩ := h49
          refine ⟨v50, ?_⟩
          obtain ⟨v51, h51⟩ := h50
          refine ⟨v51, ?_⟩
          intro M24_52 eM24_52
          have h52 := h51 M24_52 eM24_52
          have c53 : M24_52 1 1 = M16_13 1 1 := by rw [eM24_52, up2_n (by omega)]
          exact ih _ _ _ _ _ _ (by first | exact True.intro | exact hI | (rw [(c53.trans c14)]; exact hI) | omega) h52
        · intro g54
          have h55 := h41 g54
          unfold qX12_misleads_J117 at h55 ⊢
          obtain ⟨v56, h56⟩ := h55
          refine ⟨v56, ?_⟩
          obtain ⟨v57, h57⟩ := h56
          refine ⟨v57, ?_⟩
          obtain ⟨v58, h58⟩ := h57
          refine ⟨v58, ?_⟩
          intro M24_59 eM24_59
          have h59 := h58 M24_59 eM24_59
          have c60 : M24_59 1 1 = M16_13 1 1 := by rw [eM24_59, up2_n (by omega)]
          exact ih _ _ _ _ _ _ (by first | exact True.intro | exact hI | (rw [(c60.trans c14)]; exact hI) | omega) h59
theorem cmX12_misleads_L22  {g0 g1 : Int} {X168 X168' : Int → Int → Int → Mem → Prop} {Q Q' : Int → Mem → Prop} (hQ : ∀ (w0 : Int) (M' : Mem), (False) → Q w0 M' → Q' w0 M') (hX168 : ∀ (w0 w1 w2 : Int) (M' : Mem), (M' 1 1 = g0) → X168 w0 w1 w2 M' → X168' w0 w1 w2 M') : ∀ (n : Nat) (v1 v2 v3 v4 : Int) (M : Mem), (M 1 1 = g0) → qX12_misleads_L22 X168 Q n v1 v2 v3 v4 M → qX12_misleads_L22 X168' Q' n v1 v2 v3 v4 M := by
  intro n
  induction n with
  | zero => intro v1 v2 v3 v4 M _ h; exact h.elim
  | succ n ih =>
    intro v1 v2 v3 v4 M hI h
    rw [qX12_misleads_L22] at h
    rw [qX12_misleads_L22]
    intro x4_1 g2 g3
    have h1 := h x4_1 g2 g3
    obtain ⟨v4, h4⟩ := h1
    refine ⟨v4, ?_⟩
    obtain ⟨h5, h6⟩ := h4
    refine ⟨?_, ?_⟩
    · intro g7
      have h8 := h5 g7
      exact hX168 _ _ _ _ (by first | exact True.intro | exact hI | omega) h8
    · intro g9
      have h10 := h6 g9
      refine fmX12_isOn h10 ?_
      intro x7_12 M7_13 f11 h11
      have c14 : M7_13 1 1 = M 1 1 := f11 1 1 (by first | omega | exact fun h => h)
      intro g15 g16
      have h17 := h11 g15 g16
      clear g16
      obtain ⟨h18, h19⟩ := h17
      refine ⟨?_, ?_⟩
      · intro g20
        have h21 := h18 g20
        exact ih _ _ _ _ _ (by first | exact True.intro | exact hI | (rw [c14]; exact hI) | omega) h21
      · intro g22
        have h23 := h19 g22
        refine fmX12_copies h23 ?_
        intro M9_25 f24 h24
        have c26 : M9_25 1 1 = M7_13 1 1 := f24 1 1 (by first | omega | exact fun h => h)
        obtain ⟨v27, h27⟩ := h24
        refine ⟨v27, ?_⟩
        obtain ⟨v28, h28⟩ := h27
        refine ⟨v28, ?_⟩
        intro M12_29 eM12_29
        have h29 := h28 M12_29 eM12_29
        have c30 : M12_29 1 1 = M9_25 1 1 := by rw [eM12_29, up2_n (by omega)]
        obtain ⟨n31, h31⟩ := h29
        refine ⟨n31, ?_⟩
        refine cmX12_misleads_L58 (g0 := g0) (g1 := g1) ?_ ?_ _ _ _ _ _ _ _ (by first | exact True.intro | exact hI | (rw [(c30.trans (c26.trans c14))]; exact hI) | omega) h31
        · exact fun _ _ q _ => q.elim
        · intro v1_35 v2_36 v3_37 v4_38 M_39 c34 h34
          refine fmX12_rightThen h34 ?_
          intro x31_41 M31_42 f40 h40
          have c43 : M31_42 1 1 = M_39 1 1 := f40 1 1 (by first | omega | exact fun h => h)
          intro g44
          have h45 := h40 g44
          obtain ⟨v46, h46⟩ := h45
          refine ⟨v46, ?_⟩
          refine fmX12_owners h46 ?_
          intro x33_48 M33_49 f47 h47
          have c50 : M33_49 1 1 = M31_42 1 1 := f47 1 1 (by first | omega | exact fun h => h)
          intro g51
          have h52 := h47 g51
          intro x34_53 g54 g55
          have h53 := h52 x34_53 g54 g55
          intro x35_56 g57 g58
          have h56 := h53 x35_56 g57 g58
          refine cmbits_x h56 ?_
          intro x36_60 c59 h59
          intro g62
          have h63 := h59 g62
          obtain ⟨v64, h64⟩ := h63
          refine ⟨v64, ?_⟩
          obtain ⟨h65, h66⟩ := h64
          refine ⟨?_, ?_⟩
          · intro g67
            have h68 := h65 g67
            unfold qX12_misleads_J154 at h68 ⊢
            obtain ⟨v69, h69⟩ := h68
            refine ⟨v69, ?_⟩
            obtain ⟨v70, h70⟩ := h69
            refine ⟨v70, ?_⟩
            intro x41_71 g72 g73
            have h71 := h70 x41_71 g72 g73
            exact ih _ _ _ _ _ (by first | exact True.intro | exact c34 | (rw [(c50.trans c43)]; exact c34) | omega) h71
          · intro g74
            have h75 := h66 g74
            unfold qX12_misleads_J154 at h75 ⊢
            obtain ⟨v76, h76⟩ := h75
            refine ⟨v76, ?_⟩
            obtain ⟨v77, h77⟩ := h76
            refine ⟨v77, ?_⟩
            intro x41_78 g79 g80
            have h78 := h77 x41_78 g79 g80
            exact ih _ _ _ _ _ (by first | exact True.intro | exact c34 | (rw [(c50.trans c43)]; exact c34) | omega) h78
theorem cmX12_misleads  {M : Mem} {Q Q' : Int → Mem → Prop} (h : qX12_misleads M Q) (hQ : ∀ (w0 : Int) (M' : Mem), ((0 ≤ w0 → M' 1 1 = 2) ∧ (w0 < 0 → M' 1 1 = M 1 1)) → Q w0 M' → Q' w0 M') : qX12_misleads M Q' := by
  unfold qX12_misleads at h ⊢
  intro M1_1 eM1_1
  have h1 := h M1_1 eM1_1
  have c2 : M1_1 1 1 = M 1 1 := by rw [eM1_1, up2_j (by omega)]
  refine fmX12_copies h1 ?_
  intro M2_4 f3 h3
  have c5 : M2_4 1 1 = M1_1 1 1 := f3 1 1 (by first | omega | exact fun h => h)
  refine fmX12_rightThen h3 ?_
  intro x3_7 M3_8 f6 h6
  have c9 : M3_8 1 1 = M2_4 1 1 := f6 1 1 (by first | omega | exact fun h => h)
  intro g10
  have h11 := h6 g10
  obtain ⟨n12, h12⟩ := h11
  refine ⟨n12, ?_⟩
  refine cmX12_misleads_L22 (g0 := M3_8 1 1) (g1 := 0) ?_ ?_ _ _ _ _ _ _ (by first | exact True.intro | omega) h12
  · exact fun _ _ q _ => q.elim
  · intro v1_16 v2_17 v3_18 M_19 c15 h15
    obtain ⟨v20, h20⟩ := h15
    refine ⟨v20, ?_⟩
    obtain ⟨h21, h22⟩ := h20
    refine ⟨?_, ?_⟩
    · intro g23
      have h24 := h21 g23
      exact hQ _ _ (by first | exact True.intro | exact c15 | omega) h24
    · intro g25
      have h26 := h22 g25
      intro M45_27 eM45_27
      have h27 := h26 M45_27 eM45_27
      have c28 : M45_27 1 1 = 0 := by rw [eM45_27, up2_s]
      obtain ⟨v29, h29⟩ := h27
      refine ⟨v29, ?_⟩
      refine fmX12_enters (cmX12_enters h29 (fun M' a q => (And.intro a q))) ?_
      intro M47_31 f30 q30
      obtain ⟨c30, h30⟩ := q30
      refine fmX12_owners h30 ?_
      intro x48_33 M48_34 f32 h32
      have c35 : M48_34 1 1 = M47_31 1 1 := f32 1 1 (by first | omega | exact fun h => h)
      intro g36
      have h37 := h32 g36
      intro x49_38 g39 g40
      have h38 := h37 x49_38 g39 g40
      intro x50_41 g42 g43
      have h41 := h38 x50_41 g42 g43
      refine cmbits_x h41 ?_
      intro x51_45 c44 h44
      intro g47
      have h48 := h44 g47
      refine fmX12_enters (cmX12_enters h48 (fun M' a q => (And.intro a q))) ?_
      intro M52_50 f49 q49
      obtain ⟨c49, h49⟩ := q49
      exact hQ _ _ (by first | exact True.intro | exact c15 | omega) h49
theorem cmX12_crowd_L34  {g0 g1 : Int} {X85 X85' : Int → Mem → Prop} {Q Q' : Int → Mem → Prop} (hQ : ∀ (w0 : Int) (M' : Mem), (False) → Q w0 M' → Q' w0 M') (hX85 : ∀ (w0 : Int) (M' : Mem), (0 ≤ w0) → X85 w0 M' → X85' w0 M') : ∀ (n : Nat) (v1 v2 : Int) (M : Mem), (0 ≤ v1 ∧ 0 ≤ v2) → qX12_crowd_L34 X85 Q n v1 v2 M → qX12_crowd_L34 X85' Q' n v1 v2 M := by
  intro n
  induction n with
  | zero => intro v1 v2 M _ h; exact h.elim
  | succ n ih =>
    intro v1 v2 M hI h
    rw [qX12_crowd_L34] at h
    rw [qX12_crowd_L34]
    intro x6_1 g2 g3
    have h1 := h x6_1 g2 g3
    obtain ⟨v4, h4⟩ := h1
    refine ⟨v4, ?_⟩
    obtain ⟨h5, h6⟩ := h4
    refine ⟨?_, ?_⟩
    · intro g7
      have h8 := h5 g7
      exact hX85 _ _ (by first | exact True.intro | exact hI | omega) h8
    · intro g9
      have h10 := h6 g9
      refine fmX12_bitsBy h10 ?_
      intro x9_12 M9_13 f11 h11
      have c14 : M9_13 1 1 = M 1 1 := f11 1 1 (by first | omega | exact fun h => h)
      intro g15
      have h16 := h11 g15
      refine cmbits_x h16 ?_
      intro x10_18 c17 h17
      intro g20
      have h21 := h17 g20
      obtain ⟨v22, h22⟩ := h21
      refine ⟨v22, ?_⟩
      refine fmX12_bitsBy h22 ?_
      intro x12_24 M12_25 f23 h23
      have c26 : M12_25 1 1 = M9_13 1 1 := f23 1 1 (by first | omega | exact fun h => h)
      intro g27
      have h28 := h23 g27
      refine cmbits_x h28 ?_
      intro x13_30 c29 h29
      intro g32
      have h33 := h29 g32
      obtain ⟨h34, h35⟩ := h33
      refine ⟨?_, ?_⟩
      · intro g36
        have h37 := h34 g36
        exact ih _ _ _ (by first | exact True.intro | exact hI | (rw [(c26.trans c14)]; exact hI) | omega) h37
      · intro g38
        have h39 := h35 g38
        exact ih _ _ _ (by first | exact True.intro | exact hI | (rw [(c26.trans c14)]; exact hI) | omega) h39
theorem cmX12_crowd  {M : Mem} {Q Q' : Int → Mem → Prop} (h : qX12_crowd M Q) (hQ : ∀ (w0 : Int) (M' : Mem), ((0 ≤ w0 → M' 1 1 = 2) ∧ (w0 < 0 → M' 1 1 = M 1 1)) → Q w0 M' → Q' w0 M') : qX12_crowd M Q' := by
  unfold qX12_crowd at h ⊢
  intro M1_1 eM1_1
  have h1 := h M1_1 eM1_1
  have c2 : M1_1 1 1 = M 1 1 := by rw [eM1_1, up2_j (by omega)]
  intro x2_3 g4 g5
  have h3 := h1 x2_3 g4 g5
  obtain ⟨h6, h7⟩ := h3
  refine ⟨?_, ?_⟩
  · intro g8
    have h9 := h6 g8
    refine fmX12_copies h9 ?_
    intro M4_11 f10 h10
    have c12 : M4_11 1 1 = M1_1 1 1 := f10 1 1 (by first | omega | exact fun h => h)
    refine fmX12_goesOn h10 ?_
    intro M5_14 f13 h13
    have c15 : M5_14 1 1 = M4_11 1 1 := f13 1 1 (by first | omega | exact fun h => h)
    obtain ⟨n16, h16⟩ := h13
    refine ⟨n16, ?_⟩
    refine cmX12_crowd_L34 (g0 := M5_14 1 1) (g1 := 0) ?_ ?_ _ _ _ _ (by first | exact True.intro | omega) h16
    · exact fun _ _ q _ => q.elim
    · intro v1_20 M_21 c19 h19
      obtain ⟨v22, h22⟩ := h19
      refine ⟨v22, ?_⟩
      refine fmX12_bitsBy h22 ?_
      intro x17_24 M17_25 f23 h23
      have c26 : M17_25 1 1 = M_21 1 1 := f23 1 1 (by first | omega | exact fun h => h)
      intro g27
      have h28 := h23 g27
      intro M18_29 eM18_29
      have h29 := h28 M18_29 eM18_29
      have c30 : M18_29 1 1 = 0 := by rw [eM18_29, up2_s]
      refine cmbits_x h29 ?_
      intro x19_32 c31 h31
      intro g34
      have h35 := h31 g34
      refine fmX12_enters (cmX12_enters h35 (fun M' a q => (And.intro a q))) ?_
      intro M20_37 f36 q36
      obtain ⟨c36, h36⟩ := q36
      refine fmX12_owners h36 ?_
      intro x21_39 M21_40 f38 h38
      have c41 : M21_40 1 1 = M20_37 1 1 := f38 1 1 (by first | omega | exact fun h => h)
      intro g42
      have h43 := h38 g42
      intro x22_44 g45 g46
      have h44 := h43 x22_44 g45 g46
      refine cmbits_x h44 ?_
      intro x23_48 c47 h47
      intro g50
      have h51 := h47 g50
      refine fmX12_enters (cmX12_enters h51 (fun M' a q => (And.intro a q))) ?_
      intro M24_53 f52 q52
      obtain ⟨c52, h52⟩ := q52
      exact hQ _ _ (by first | exact True.intro | exact c19 | omega) h52
  · intro g54
    have h55 := h7 g54
    exact hQ _ _ (by first | exact True.intro | omega) h55
theorem cmX12_shares_L39 {p1 : Int} {g0 g1 : Int} {Q Q' : Int → Mem → Prop} (hQ : ∀ (w0 : Int) (M' : Mem), (0 ≤ M' 1 5 → M' 1 1 = M' 1 5) → Q w0 M' → Q' w0 M') : ∀ (n : Nat) (v2 : Int) (M : Mem), (M 1 1 = v2 ∧ 0 ≤ v2 ∧ (v2 = 0 ∨ v2 ≤ M 1 5)) → qX12_shares_L39 p1 Q n v2 M → qX12_shares_L39 p1 Q' n v2 M := by
  intro n
  induction n with
  | zero => intro v2 M _ h; exact h.elim
  | succ n ih =>
    intro v2 M hI h
    rw [qX12_shares_L39] at h
    rw [qX12_shares_L39]
    intro x8_1 g2 g3
    have h1 := h x8_1 g2 g3
    obtain ⟨v4, h4⟩ := h1
    refine ⟨v4, ?_⟩
    obtain ⟨h5, h6⟩ := h4
    refine ⟨?_, ?_⟩
    · intro g7
      have h8 := h5 g7
      intro x11_9 g10 g11
      have h9 := h8 x11_9 g10 g11
      exact hQ _ _ (by first | exact True.intro | exact hI | omega) h9
    · intro g12
      have h13 := h6 g12
      obtain ⟨v14, h14⟩ := h13
      refine ⟨v14, ?_⟩
      obtain ⟨v15, h15⟩ := h14
      refine ⟨v15, ?_⟩
      intro x14_16 g17 g18
      have h16 := h15 x14_16 g17 g18
      refine fmX12_enters (cmX12_enters h16 (fun M' a q => (And.intro a q))) ?_
      intro M15_20 f19 q19
      obtain ⟨c19, h19⟩ := q19
      have c21 : M15_20 1 5 = M 1 5 := f19 1 5 (by first | omega | exact fun h => h)
      exact ih _ _ (by first | exact True.intro | exact hI | omega) h19
theorem cmX12_shares {p1 : Int} {M : Mem} {Q Q' : Int → Mem → Prop} (h : qX12_shares p1 M Q) (hQ : ∀ (w0 : Int) (M' : Mem), (((0 ≤ p1 ∧ p1 ≤ 30) → 0 ≤ M' 1 5 → M' 1 1 = M' 1 5) ∧ (¬ (0 ≤ p1 ∧ p1 ≤ 30) → M' 1 1 = M 1 1)) → Q w0 M' → Q' w0 M') : qX12_shares p1 M Q' := by
  unfold qX12_shares at h ⊢
  intro M1_1 eM1_1
  have h1 := h M1_1 eM1_1
  have c2 : M1_1 1 1 = M 1 1 := by rw [eM1_1, up2_j (by omega)]
  have c3 : M1_1 1 5 = M 1 5 := by rw [eM1_1, up2_j (by omega)]
  refine cmX12_in h1 ?_
  intro x2_5 c4 h4
  intro g7 g8
  have h9 := h4 g7 g8
  clear g8
  obtain ⟨h10, h11⟩ := h9
  refine ⟨?_, ?_⟩
  · intro g12
    have h13 := h10 g12
    intro M4_14 eM4_14
    have h14 := h13 M4_14 eM4_14
    have c15 : M4_14 1 1 = M1_1 1 1 := by rw [eM4_14, up2_j (by omega)]
    have c16 : M4_14 1 5 = M1_1 1 5 := by rw [eM4_14, up2_j (by omega)]
    obtain ⟨d17, v17, h17⟩ := h14
    refine ⟨d17, v17, ?_⟩
    refine fmX12_sharesFrom h17 ?_
    intro M5_19 f18 h18
    have c20 : M5_19 1 1 = M4_14 1 1 := f18 1 1 (by first | omega | exact fun h => h)
    have c21 : M5_19 1 5 = M4_14 1 5 := f18 1 5 (by first | omega | exact fun h => h)
    intro M7_22 eM7_22
    have h22 := h18 M7_22 eM7_22
    have c23 : M7_22 1 1 = 0 := by rw [eM7_22, up2_s]
    have c24 : M7_22 1 5 = M5_19 1 5 := by rw [eM7_22, up2_j (by omega)]
    obtain ⟨n25, h25⟩ := h22
    refine ⟨n25, ?_⟩
    refine cmX12_shares_L39 (g0 := M7_22 1 1) (g1 := M7_22 1 5) ?_ _ _ _ (by first | exact True.intro | omega) h25
    · exact fun z26_0 M_26 c26 h26 => hQ _ M_26 (by first | exact True.intro | exact c26 | omega) h26
  · intro g27
    have h28 := h11 g27
    exact hQ _ _ (by first | exact True.intro | omega) h28
theorem cmX12_strangers_L31  {g0 g1 : Int} {X128 X128' : Int → Int → Int → Int → Mem → Prop} {Q Q' : Int → Mem → Prop} (hQ : ∀ (w0 : Int) (M' : Mem), (False) → Q w0 M' → Q' w0 M') (hX128 : ∀ (w0 w1 w2 w3 : Int) (M' : Mem), (0 ≤ w0 ∧ M' 1 1 = g0) → X128 w0 w1 w2 w3 M' → X128' w0 w1 w2 w3 M') : ∀ (n : Nat) (v1 v2 v3 v4 v5 : Int) (M : Mem), (0 ≤ v1 ∧ M 1 1 = g0) → qX12_strangers_L31 X128 Q n v1 v2 v3 v4 v5 M → qX12_strangers_L31 X128' Q' n v1 v2 v3 v4 v5 M := by
  intro n
  induction n with
  | zero => intro v1 v2 v3 v4 v5 M _ h; exact h.elim
  | succ n ih =>
    intro v1 v2 v3 v4 v5 M hI h
    rw [qX12_strangers_L31] at h
    rw [qX12_strangers_L31]
    intro x5_1 g2 g3
    have h1 := h x5_1 g2 g3
    obtain ⟨v4, h4⟩ := h1
    refine ⟨v4, ?_⟩
    obtain ⟨h5, h6⟩ := h4
    refine ⟨?_, ?_⟩
    · intro g7
      have h8 := h5 g7
      exact hX128 _ _ _ _ _ (by first | exact True.intro | exact hI | omega) h8
    · intro g9
      have h10 := h6 g9
      obtain ⟨v11, h11⟩ := h10
      refine ⟨v11, ?_⟩
      obtain ⟨v12, h12⟩ := h11
      refine ⟨v12, ?_⟩
      intro x10_13 g14 g15
      have h13 := h12 x10_13 g14 g15
      obtain ⟨v16, h16⟩ := h13
      refine ⟨v16, ?_⟩
      obtain ⟨v17, h17⟩ := h16
      refine ⟨v17, ?_⟩
      intro x13_18 g19 g20
      have h18 := h17 x13_18 g19 g20
      obtain ⟨v21, h21⟩ := h18
      refine ⟨v21, ?_⟩
      intro x15_22 g23 g24
      have h22 := h21 x15_22 g23 g24
      have p22 := cmab g23 g24
      clear g23 g24
      obtain ⟨v25, h25⟩ := h22
      refine ⟨v25, ?_⟩
      obtain ⟨v26, h26⟩ := h25
      refine ⟨v26, ?_⟩
      intro x18_27 g28 g29
      have h27 := h26 x18_27 g28 g29
      obtain ⟨v30, h30⟩ := h27
      refine ⟨v30, ?_⟩
      obtain ⟨v31, h31⟩ := h30
      refine ⟨v31, ?_⟩
      intro x21_32 g33 g34
      have h32 := h31 x21_32 g33 g34
      obtain ⟨h35, h36⟩ := h32
      refine ⟨?_, ?_⟩
      · intro g37
        have h38 := h35 g37
        exact ih _ _ _ _ _ _ (by first | exact True.intro | exact hI | omega) h38
      · intro g39
        have h40 := h36 g39
        obtain ⟨v41, h41⟩ := h40
        refine ⟨v41, ?_⟩
        refine fmX12_isEnded h41 ?_
        intro x24_43 M24_44 f42 h42
        have c45 : M24_44 1 1 = M 1 1 := f42 1 1 (by first | omega | exact fun h => h)
        intro g46 g47
        have h48 := h42 g46 g47
        clear g47
        obtain ⟨h49, h50⟩ := h48
        refine ⟨?_, ?_⟩
        · intro g51
          have h52 := h49 g51
          exact ih _ _ _ _ _ _ (by first | exact True.intro | exact hI | (rw [c45]; exact hI) | omega) h52
        · intro g53
          have h54 := h50 g53
          refine fmX12_isEnded h54 ?_
          intro x26_56 M26_57 f55 h55
          have c58 : M26_57 1 1 = M24_44 1 1 := f55 1 1 (by first | omega | exact fun h => h)
          intro g59 g60
          have h61 := h55 g59 g60
          clear g60
          obtain ⟨h62, h63⟩ := h61
          refine ⟨?_, ?_⟩
          · intro g64
            have h65 := h62 g64
            exact ih _ _ _ _ _ _ (by first | exact True.intro | exact hI | (rw [(c58.trans c45)]; exact hI) | omega) h65
          · intro g66
            have h67 := h63 g66
            obtain ⟨v68, h68⟩ := h67
            refine ⟨v68, ?_⟩
            obtain ⟨v69, h69⟩ := h68
            refine ⟨v69, ?_⟩
            obtain ⟨h70, h71⟩ := h69
            refine ⟨?_, ?_⟩
            · intro g72
              have h73 := h70 g72
              exact ih _ _ _ _ _ _ (by first | exact True.intro | exact hI | (rw [(c58.trans c45)]; exact hI) | omega) h73
            · intro g74
              have h75 := h71 g74
              exact ih _ _ _ _ _ _ (by first | exact True.intro | exact hI | (rw [(c58.trans c45)]; exact hI) | omega) h75
theorem cmX12_strangers_L16  {g0 g1 : Int} {X134 X134' : Int → Int → Int → Mem → Prop} {Q Q' : Int → Mem → Prop} (hQ : ∀ (w0 : Int) (M' : Mem), (False) → Q w0 M' → Q' w0 M') (hX134 : ∀ (w0 w1 w2 : Int) (M' : Mem), (0 ≤ w0 ∧ M' 1 1 = g0) → X134 w0 w1 w2 M' → X134' w0 w1 w2 M') : ∀ (n : Nat) (v1 v2 v3 v4 : Int) (M : Mem), (0 ≤ v1 ∧ M 1 1 = g0) → qX12_strangers_L16 X134 Q n v1 v2 v3 v4 M → qX12_strangers_L16 X134' Q' n v1 v2 v3 v4 M := by
  intro n
  induction n with
  | zero => intro v1 v2 v3 v4 M _ h; exact h.elim
  | succ n ih =>
    intro v1 v2 v3 v4 M hI h
    rw [qX12_strangers_L16] at h
    rw [qX12_strangers_L16]
    intro x2_1 g2 g3
    have h1 := h x2_1 g2 g3
    obtain ⟨v4, h4⟩ := h1
    refine ⟨v4, ?_⟩
    obtain ⟨h5, h6⟩ := h4
    refine ⟨?_, ?_⟩
    · intro g7
      have h8 := h5 g7
      exact hX134 _ _ _ _ (by first | exact True.intro | exact hI | omega) h8
    · intro g9
      have h10 := h6 g9
      obtain ⟨n11, h11⟩ := h10
      refine ⟨n11, ?_⟩
      refine cmX12_strangers_L31 (g0 := g0) (g1 := g1) ?_ ?_ _ _ _ _ _ _ _ (by first | exact True.intro | exact hI | omega) h11
      · exact fun _ _ q _ => q.elim
      · intro v1_15 v2_16 v3_17 v4_18 M_19 c14 h14
        exact ih _ _ _ _ _ (by first | exact True.intro | exact c14 | omega) h14
theorem cmX12_strangers  {M : Mem} {Q Q' : Int → Mem → Prop} (h : qX12_strangers M Q) (hQ : ∀ (w0 : Int) (M' : Mem), ((0 ≤ w0 → M' 1 1 = 2) ∧ (w0 < 0 → M' 1 1 = M 1 1)) → Q w0 M' → Q' w0 M') : qX12_strangers M Q' := by
  unfold qX12_strangers at h ⊢
  intro M1_1 eM1_1
  have h1 := h M1_1 eM1_1
  have c2 : M1_1 1 1 = M 1 1 := by rw [eM1_1, up2_j (by omega)]
  obtain ⟨n3, h3⟩ := h1
  refine ⟨n3, ?_⟩
  refine cmX12_strangers_L16 (g0 := M1_1 1 1) (g1 := 0) ?_ ?_ _ _ _ _ _ _ (by first | exact True.intro | omega) h3
  · exact fun _ _ q _ => q.elim
  · intro v1_7 v2_8 v3_9 M_10 c6 h6
    obtain ⟨v11, h11⟩ := h6
    refine ⟨v11, ?_⟩
    obtain ⟨h12, h13⟩ := h11
    refine ⟨?_, ?_⟩
    · intro g14
      have h15 := h12 g14
      intro M35_16 eM35_16
      have h16 := h15 M35_16 eM35_16
      have c17 : M35_16 1 1 = 0 := by rw [eM35_16, up2_s]
      refine fmX12_enters (cmX12_enters h16 (fun M' a q => (And.intro a q))) ?_
      intro M36_19 f18 q18
      obtain ⟨c18, h18⟩ := q18
      obtain ⟨v20, h20⟩ := h18
      refine ⟨v20, ?_⟩
      refine fmX12_enters (cmX12_enters h20 (fun M' a q => (And.intro a q))) ?_
      intro M38_22 f21 q21
      obtain ⟨c21, h21⟩ := q21
      obtain ⟨v23, h23⟩ := h21
      refine ⟨v23, ?_⟩
      exact hQ _ _ (by first | exact True.intro | exact c6 | omega) h23
    · intro g24
      have h25 := h13 g24
      exact hQ _ _ (by first | exact True.intro | exact c6 | omega) h25
theorem cmX12_doubts_L41  {g0 g1 : Int} {X127 X127' : Int → Int → Int → Mem → Prop} {Q Q' : Int → Mem → Prop} (hQ : ∀ (w0 : Int) (M' : Mem), (False) → Q w0 M' → Q' w0 M') (hX127 : ∀ (w0 w1 w2 : Int) (M' : Mem), (True) → X127 w0 w1 w2 M' → X127' w0 w1 w2 M') : ∀ (n : Nat) (v1 v2 v3 v4 v5 : Int) (M : Mem), (True) → qX12_doubts_L41 X127 Q n v1 v2 v3 v4 v5 M → qX12_doubts_L41 X127' Q' n v1 v2 v3 v4 v5 M := by
  intro n
  induction n with
  | zero => intro v1 v2 v3 v4 v5 M _ h; exact h.elim
  | succ n ih =>
    intro v1 v2 v3 v4 v5 M hI h
    rw [qX12_doubts_L41] at h
    rw [qX12_doubts_L41]
    intro x9_1 g2 g3
    have h1 := h x9_1 g2 g3
    obtain ⟨v4, h4⟩ := h1
    refine ⟨v4, ?_⟩
    obtain ⟨h5, h6⟩ := h4
    refine ⟨?_, ?_⟩
    · intro g7
      have h8 := h5 g7
      exact hX127 _ _ _ _ (by first | exact True.intro | exact hI | omega) h8
    · intro g9
      have h10 := h6 g9
      obtain ⟨v11, h11⟩ := h10
      refine ⟨v11, ?_⟩
      obtain ⟨h12, h13⟩ := h11
      refine ⟨?_, ?_⟩
      · intro g14
        have h15 := h12 g14
        exact hX127 _ _ _ _ (by first | exact True.intro | exact hI | omega) h15
      · intro g16
        have h17 := h13 g16
        refine fmX12_isOn h17 ?_
        intro x14_19 M14_20 f18 h18
        have c21 : M14_20 1 1 = M 1 1 := f18 1 1 (by first | omega | exact fun h => h)
        intro g22 g23
        have h24 := h18 g22 g23
        clear g23
        obtain ⟨h25, h26⟩ := h24
        refine ⟨?_, ?_⟩
        · intro g27
          have h28 := h25 g27
          unfold qX12_doubts_J114 at h28 ⊢
          unfold qX12_doubts_J115 at h28 ⊢
          obtain ⟨v29, h29⟩ := h28
          refine ⟨v29, ?_⟩
          refine fmX12_flag h29 ?_
          intro x17_31 M17_32 f30 h30
          have c33 : M17_32 1 1 = M14_20 1 1 := f30 1 1 (by first | omega | exact fun h => h)
          intro g34
          have h35 := h30 g34
          exact ih _ _ _ _ _ _ (by first | exact True.intro | exact hI | (rw [(c33.trans c21)]; exact hI) | omega) h35
        · intro g36
          have h37 := h26 g36
          obtain ⟨v38, h38⟩ := h37
          refine ⟨v38, ?_⟩
          obtain ⟨v39, h39⟩ := h38
          refine ⟨v39, ?_⟩
          intro x20_40 g41 g42
          have h40 := h39 x20_40 g41 g42
          obtain ⟨v43, h43⟩ := h40
          refine ⟨v43, ?_⟩
          obtain ⟨v44, h44⟩ := h43
          refine ⟨v44, ?_⟩
          intro x23_45 g46 g47
          have h45 := h44 x23_45 g46 g47
          obtain ⟨v48, h48⟩ := h45
          refine ⟨v48, ?_⟩
          intro x25_49 g50 g51
          have h49 := h48 x25_49 g50 g51
          have p49 := cmab g50 g51
          clear g50 g51
          obtain ⟨v52, h52⟩ := h49
          refine ⟨v52, ?_⟩
          obtain ⟨v53, h53⟩ := h52
          refine ⟨v53, ?_⟩
          intro x28_54 g55 g56
          have h54 := h53 x28_54 g55 g56
          intro x29_57 g58 g59
          have h57 := h54 x29_57 g58 g59
          obtain ⟨v60, h60⟩ := h57
          refine ⟨v60, ?_⟩
          intro x31_61 g62 g63
          have h61 := h60 x31_61 g62 g63
          have p61 := cmab g62 g63
          clear g62 g63
          obtain ⟨v64, h64⟩ := h61
          refine ⟨v64, ?_⟩
          obtain ⟨v65, h65⟩ := h64
          refine ⟨v65, ?_⟩
          obtain ⟨h66, h67⟩ := h65
          refine ⟨?_, ?_⟩
          · intro g68
            have h69 := h66 g68
            unfold qX12_doubts_J114 at h69 ⊢
            unfold qX12_doubts_J115 at h69 ⊢
            obtain ⟨v70, h70⟩ := h69
            refine ⟨v70, ?_⟩
            refine fmX12_flag h70 ?_
            intro x17_72 M17_73 f71 h71
            have c74 : M17_73 1 1 = M14_20 1 1 := f71 1 1 (by first | omega | exact fun h => h)
            intro g75
            have h76 := h71 g75
            exact ih _ _ _ _ _ _ (by first | exact True.intro | exact hI | (rw [(c74.trans c21)]; exact hI) | omega) h76
          · intro g77
            have h78 := h67 g77
            unfold qX12_doubts_J115 at h78 ⊢
            obtain ⟨v79, h79⟩ := h78
            refine ⟨v79, ?_⟩
            refine fmX12_flag h79 ?_
            intro x17_81 M17_82 f80 h80
            have c83 : M17_82 1 1 = M14_20 1 1 := f80 1 1 (by first | omega | exact fun h => h)
            intro g84
            have h85 := h80 g84
            exact ih _ _ _ _ _ _ (by first | exact True.intro | exact hI | (rw [(c83.trans c21)]; exact hI) | omega) h85
theorem cmX12_doubts_L9  {g0 g1 : Int} {X160 X160' : Int → Mem → Prop} {Q Q' : Int → Mem → Prop} (hQ : ∀ (w0 : Int) (M' : Mem), (False) → Q w0 M' → Q' w0 M') (hX160 : ∀ (w0 : Int) (M' : Mem), (True) → X160 w0 M' → X160' w0 M') : ∀ (n : Nat) (v1 v2 : Int) (M : Mem), (True) → qX12_doubts_L9 X160 Q n v1 v2 M → qX12_doubts_L9 X160' Q' n v1 v2 M := by
  intro n
  induction n with
  | zero => intro v1 v2 M _ h; exact h.elim
  | succ n ih =>
    intro v1 v2 M hI h
    rw [qX12_doubts_L9] at h
    rw [qX12_doubts_L9]
    intro x2_1 g2 g3
    have h1 := h x2_1 g2 g3
    obtain ⟨v4, h4⟩ := h1
    refine ⟨v4, ?_⟩
    obtain ⟨h5, h6⟩ := h4
    refine ⟨?_, ?_⟩
    · intro g7
      have h8 := h5 g7
      exact hX160 _ _ (by first | exact True.intro | exact hI | omega) h8
    · intro g9
      have h10 := h6 g9
      obtain ⟨v11, h11⟩ := h10
      refine ⟨v11, ?_⟩
      obtain ⟨v12, h12⟩ := h11
      refine ⟨v12, ?_⟩
      intro x7_13 g14 g15
      have h13 := h12 x7_13 g14 g15
      refine fmX12_nearest h13 ?_
      intro x8_17 M8_18 f16 h16
      have c19 : M8_18 1 1 = M 1 1 := f16 1 1 (by first | omega | exact fun h => h)
      intro g20
      have h21 := h16 g20
      obtain ⟨n22, h22⟩ := h21
      refine ⟨n22, ?_⟩
      refine cmX12_doubts_L41 (g0 := g0) (g1 := g1) ?_ ?_ _ _ _ _ _ _ _ (by first | exact True.intro | exact hI | (rw [c19]; exact hI) | omega) h22
      · exact fun _ _ q _ => q.elim
      · intro v1_26 v2_27 v4_28 M_29 c25 h25
        unfold qX12_doubts_J127 at h25 ⊢
        obtain ⟨v30, h30⟩ := h25
        refine ⟨v30, ?_⟩
        obtain ⟨h31, h32⟩ := h30
        refine ⟨?_, ?_⟩
        · intro g33
          have h34 := h31 g33
          intro x38_35 g36 g37
          have h35 := h34 x38_35 g36 g37
          exact ih _ _ _ (by first | exact True.intro | exact c25 | omega) h35
        · intro g38
          have h39 := h32 g38
          obtain ⟨v40, h40⟩ := h39
          refine ⟨v40, ?_⟩
          refine fmX12_isEnded h40 ?_
          intro x40_42 M40_43 f41 h41
          have c44 : M40_43 1 1 = M_29 1 1 := f41 1 1 (by first | omega | exact fun h => h)
          intro g45 g46
          have h47 := h41 g45 g46
          clear g46
          obtain ⟨h48, h49⟩ := h47
          refine ⟨?_, ?_⟩
          · intro g50
            have h51 := h48 g50
            intro x42_52 g53 g54
            have h52 := h51 x42_52 g53 g54
            exact ih _ _ _ (by first | exact True.intro | exact c25 | (rw [c44]; exact c25) | omega) h52
          · intro g55
            have h56 := h49 g55
            intro x43_57 g58 g59
            have h57 := h56 x43_57 g58 g59
            intro x44_60 g61 g62
            have h60 := h57 x44_60 g61 g62
            exact ih _ _ _ (by first | exact True.intro | exact c25 | (rw [c44]; exact c25) | omega) h60
theorem cmX12_doubts  {M : Mem} {Q Q' : Int → Mem → Prop} (h : qX12_doubts M Q) (hQ : ∀ (w0 : Int) (M' : Mem), (M' 1 1 = 1) → Q w0 M' → Q' w0 M') : qX12_doubts M Q' := by
  unfold qX12_doubts at h ⊢
  intro M1_1 eM1_1
  have h1 := h M1_1 eM1_1
  have c2 : M1_1 1 1 = M 1 1 := by rw [eM1_1, up2_j (by omega)]
  obtain ⟨n3, h3⟩ := h1
  refine ⟨n3, ?_⟩
  refine cmX12_doubts_L9 (g0 := M1_1 1 1) (g1 := 0) ?_ ?_ _ _ _ _ (by first | exact True.intro | omega) h3
  · exact fun _ _ q _ => q.elim
  · intro v1_7 M_8 c6 h6
    intro M46_9 eM46_9
    have h9 := h6 M46_9 eM46_9
    have c10 : M46_9 1 1 = 0 := by rw [eM46_9, up2_s]
    obtain ⟨v11, h11⟩ := h9
    refine ⟨v11, ?_⟩
    refine cmbits_x h11 ?_
    intro x48_13 c12 h12
    intro g15
    have h16 := h12 g15
    refine fmX12_enters (cmX12_enters h16 (fun M' a q => (And.intro a q))) ?_
    intro M49_18 f17 q17
    obtain ⟨c17, h17⟩ := q17
    exact hQ _ _ (by first | exact True.intro | exact c6 | omega) h17
theorem cmX12_fits_L37  {g0 g1 : Int} {X84 X84' : Int → Int → Int → Mem → Prop} {Q Q' : Int → Mem → Prop} (hQ : ∀ (w0 : Int) (M' : Mem), (False) → Q w0 M' → Q' w0 M') (hX84 : ∀ (w0 w1 w2 : Int) (M' : Mem), (True) → X84 w0 w1 w2 M' → X84' w0 w1 w2 M') : ∀ (n : Nat) (v1 v2 v3 v4 : Int) (M : Mem), (True) → qX12_fits_L37 X84 Q n v1 v2 v3 v4 M → qX12_fits_L37 X84' Q' n v1 v2 v3 v4 M := by
  intro n
  induction n with
  | zero => intro v1 v2 v3 v4 M _ h; exact h.elim
  | succ n ih =>
    intro v1 v2 v3 v4 M hI h
    rw [qX12_fits_L37] at h
    rw [qX12_fits_L37]
    intro x7_1 g2 g3
    have h1 := h x7_1 g2 g3
    obtain ⟨v4, h4⟩ := h1
    refine ⟨v4, ?_⟩
    obtain ⟨h5, h6⟩ := h4
    refine ⟨?_, ?_⟩
    · intro g7
      have h8 := h5 g7
      exact hX84 _ _ _ _ (by first | exact True.intro | exact hI | omega) h8
    · intro g9
      have h10 := h6 g9
      obtain ⟨v11, h11⟩ := h10
      refine ⟨v11, ?_⟩
      obtain ⟨h12, h13⟩ := h11
      refine ⟨?_, ?_⟩
      · intro g14
        have h15 := h12 g14
        exact ih _ _ _ _ _ (by first | exact True.intro | exact hI | omega) h15
      · intro g16
        have h17 := h13 g16
        obtain ⟨v18, h18⟩ := h17
        refine ⟨v18, ?_⟩
        obtain ⟨v19, h19⟩ := h18
        refine ⟨v19, ?_⟩
        intro x14_20 g21 g22
        have h20 := h19 x14_20 g21 g22
        intro x15_23 g24 g25
        have h23 := h20 x15_23 g24 g25
        obtain ⟨v26, h26⟩ := h23
        refine ⟨v26, ?_⟩
        refine fmX12_isSo h26 ?_
        intro x17_28 M17_29 f27 h27
        have c30 : M17_29 1 1 = M 1 1 := f27 1 1 (by first | omega | exact fun h => h)
        intro g31 g32
        have h33 := h27 g31 g32
        clear g32
        obtain ⟨h34, h35⟩ := h33
        refine ⟨?_, ?_⟩
        · intro g36
          have h37 := h34 g36
          exact ih _ _ _ _ _ (by first | exact True.intro | exact hI | (rw [c30]; exact hI) | omega) h37
        · intro g38
          have h39 := h35 g38
          exact ih _ _ _ _ _ (by first | exact True.intro | exact hI | (rw [c30]; exact hI) | omega) h39
theorem cmX12_fits_L24  {g0 g1 : Int} {X104 X104' : Int → Mem → Prop} {Q Q' : Int → Mem → Prop} (hQ : ∀ (w0 : Int) (M' : Mem), (False) → Q w0 M' → Q' w0 M') (hX104 : ∀ (w0 : Int) (M' : Mem), (True) → X104 w0 M' → X104' w0 M') : ∀ (n : Nat) (v1 v2 : Int) (M : Mem), (True) → qX12_fits_L24 X104 Q n v1 v2 M → qX12_fits_L24 X104' Q' n v1 v2 M := by
  intro n
  induction n with
  | zero => intro v1 v2 M _ h; exact h.elim
  | succ n ih =>
    intro v1 v2 M hI h
    rw [qX12_fits_L24] at h
    rw [qX12_fits_L24]
    intro x4_1 g2 g3
    have h1 := h x4_1 g2 g3
    obtain ⟨v4, h4⟩ := h1
    refine ⟨v4, ?_⟩
    obtain ⟨h5, h6⟩ := h4
    refine ⟨?_, ?_⟩
    · intro g7
      have h8 := h5 g7
      exact hX104 _ _ (by first | exact True.intro | exact hI | omega) h8
    · intro g9
      have h10 := h6 g9
      obtain ⟨n11, h11⟩ := h10
      refine ⟨n11, ?_⟩
      refine cmX12_fits_L37 (g0 := g0) (g1 := g1) ?_ ?_ _ _ _ _ _ _ (by first | exact True.intro | exact hI | omega) h11
      · exact fun _ _ q _ => q.elim
      · intro v1_15 v2_16 v3_17 M_18 c14 h14
        obtain ⟨v19, h19⟩ := h14
        refine ⟨v19, ?_⟩
        obtain ⟨h20, h21⟩ := h19
        refine ⟨?_, ?_⟩
        · intro g22
          have h23 := h20 g22
          intro x22_24 g25 g26
          have h24 := h23 x22_24 g25 g26
          exact ih _ _ _ (by first | exact True.intro | exact c14 | omega) h24
        · intro g27
          have h28 := h21 g27
          intro x23_29 g30 g31
          have h29 := h28 x23_29 g30 g31
          intro x24_32 g33 g34
          have h32 := h29 x24_32 g33 g34
          exact ih _ _ _ (by first | exact True.intro | exact c14 | omega) h32
theorem cmX12_fits  {M : Mem} {Q Q' : Int → Mem → Prop} (h : qX12_fits M Q) (hQ : ∀ (w0 : Int) (M' : Mem), (M' 1 1 = 1) → Q w0 M' → Q' w0 M') : qX12_fits M Q' := by
  unfold qX12_fits at h ⊢
  intro M1_1 eM1_1
  have h1 := h M1_1 eM1_1
  have c2 : M1_1 1 1 = M 1 1 := by rw [eM1_1, up2_j (by omega)]
  refine fmX12_copies h1 ?_
  intro M2_4 f3 h3
  have c5 : M2_4 1 1 = M1_1 1 1 := f3 1 1 (by first | omega | exact fun h => h)
  refine fmX12_goesOn h3 ?_
  intro M3_7 f6 h6
  have c8 : M3_7 1 1 = M2_4 1 1 := f6 1 1 (by first | omega | exact fun h => h)
  obtain ⟨n9, h9⟩ := h6
  refine ⟨n9, ?_⟩
  refine cmX12_fits_L24 (g0 := M3_7 1 1) (g1 := 0) ?_ ?_ _ _ _ _ (by first | exact True.intro | omega) h9
  · exact fun _ _ q _ => q.elim
  · intro v1_13 M_14 c12 h12
    intro M26_15 eM26_15
    have h15 := h12 M26_15 eM26_15
    have c16 : M26_15 1 1 = 0 := by rw [eM26_15, up2_s]
    obtain ⟨v17, h17⟩ := h15
    refine ⟨v17, ?_⟩
    refine cmbits_x h17 ?_
    intro x28_19 c18 h18
    intro g21
    have h22 := h18 g21
    refine fmX12_enters (cmX12_enters h22 (fun M' a q => (And.intro a q))) ?_
    intro M29_24 f23 q23
    obtain ⟨c23, h23⟩ := q23
    exact hQ _ _ (by first | exact True.intro | exact c12 | omega) h23
theorem cmX12_rains_L52 {p1 : Int} {p2 : Int} {p3 : Int} {g0 g1 : Int} {X72 X72' : Int → Int → Mem → Prop} {Q Q' : Int → Mem → Prop} (hQ : ∀ (w0 : Int) (M' : Mem), (False) → Q w0 M' → Q' w0 M') (hX72 : ∀ (w0 w1 : Int) (M' : Mem), (True) → X72 w0 w1 M' → X72' w0 w1 M') : ∀ (n : Nat) (v4 v6 v8 : Int) (M : Mem), (True) → qX12_rains_L52 p1 p2 p3 X72 Q n v4 v6 v8 M → qX12_rains_L52 p1 p2 p3 X72' Q' n v4 v6 v8 M := by
  intro n
  induction n with
  | zero => intro v4 v6 v8 M _ h; exact h.elim
  | succ n ih =>
    intro v4 v6 v8 M hI h
    rw [qX12_rains_L52] at h
    rw [qX12_rains_L52]
    obtain ⟨v1, h1⟩ := h
    refine ⟨v1, ?_⟩
    obtain ⟨h2, h3⟩ := h1
    refine ⟨?_, ?_⟩
    · intro g4
      have h5 := h2 g4
      exact hX72 _ _ _ (by first | exact True.intro | exact hI | omega) h5
    · intro g6
      have h7 := h3 g6
      intro x10_8 g9 g10
      have h8 := h7 x10_8 g9 g10
      exact ih _ _ _ _ (by first | exact True.intro | exact hI | omega) h8
theorem cmX12_rains_L89 {p1 : Int} {p2 : Int} {p3 : Int} {g0 g1 : Int} {X126 X126' : Int → Int → Int → Int → Mem → Prop} {Q Q' : Int → Mem → Prop} (hQ : ∀ (w0 : Int) (M' : Mem), (False) → Q w0 M' → Q' w0 M') (hX126 : ∀ (w0 w1 w2 w3 : Int) (M' : Mem), (True) → X126 w0 w1 w2 w3 M' → X126' w0 w1 w2 w3 M') : ∀ (n : Nat) (v4 v6 v8 v9 v11 : Int) (M : Mem), (True) → qX12_rains_L89 p1 p2 p3 X126 Q n v4 v6 v8 v9 v11 M → qX12_rains_L89 p1 p2 p3 X126' Q' n v4 v6 v8 v9 v11 M := by
  intro n
  induction n with
  | zero => intro v4 v6 v8 v9 v11 M _ h; exact h.elim
  | succ n ih =>
    intro v4 v6 v8 v9 v11 M hI h
    rw [qX12_rains_L89] at h
    rw [qX12_rains_L89]
    obtain ⟨v1, h1⟩ := h
    refine ⟨v1, ?_⟩
    obtain ⟨h2, h3⟩ := h1
    refine ⟨?_, ?_⟩
    · intro g4
      have h5 := h2 g4
      exact hX126 _ _ _ _ _ (by first | exact True.intro | exact hI | omega) h5
    · intro g6
      have h7 := h3 g6
      obtain ⟨v8, h8⟩ := h7
      refine ⟨v8, ?_⟩
      refine fmX12_has h8 ?_
      intro x18_10 M18_11 f9 h9
      have c12 : M18_11 1 1 = M 1 1 := f9 1 1 (by first | omega | exact fun h => h)
      intro g13 g14
      have h15 := h9 g13 g14
      clear g14
      obtain ⟨h16, h17⟩ := h15
      refine ⟨?_, ?_⟩
      · intro g18
        have h19 := h16 g18
        intro x20_20 g21 g22
        have h20 := h19 x20_20 g21 g22
        intro x21_23 g24 g25
        have h23 := h20 x21_23 g24 g25
        exact ih _ _ _ _ _ _ (by first | exact True.intro | exact hI | (rw [c12]; exact hI) | omega) h23
      · intro g26
        have h27 := h17 g26
        intro x22_28 g29 g30
        have h28 := h27 x22_28 g29 g30
        exact ih _ _ _ _ _ _ (by first | exact True.intro | exact hI | (rw [c12]; exact hI) | omega) h28
theorem cmX12_rains_L75 {p1 : Int} {p2 : Int} {p3 : Int} {g0 g1 : Int} {X161 X161' : Int → Int → Mem → Prop} {Q Q' : Int → Mem → Prop} (hQ : ∀ (w0 : Int) (M' : Mem), (False) → Q w0 M' → Q' w0 M') (hX161 : ∀ (w0 w1 : Int) (M' : Mem), (True) → X161 w0 w1 M' → X161' w0 w1 M') : ∀ (n : Nat) (v4 v6 v8 : Int) (M : Mem), (True) → qX12_rains_L75 p1 p2 p3 X161 Q n v4 v6 v8 M → qX12_rains_L75 p1 p2 p3 X161' Q' n v4 v6 v8 M := by
  intro n
  induction n with
  | zero => intro v4 v6 v8 M _ h; exact h.elim
  | succ n ih =>
    intro v4 v6 v8 M hI h
    rw [qX12_rains_L75] at h
    rw [qX12_rains_L75]
    intro x12_1 g2 g3
    have h1 := h x12_1 g2 g3
    obtain ⟨v4, h4⟩ := h1
    refine ⟨v4, ?_⟩
    obtain ⟨h5, h6⟩ := h4
    refine ⟨?_, ?_⟩
    · intro g7
      have h8 := h5 g7
      exact hX161 _ _ _ (by first | exact True.intro | exact hI | omega) h8
    · intro g9
      have h10 := h6 g9
      obtain ⟨n11, h11⟩ := h10
      refine ⟨n11, ?_⟩
      refine cmX12_rains_L89 (g0 := g0) (g1 := g1) ?_ ?_ _ _ _ _ _ _ _ (by first | exact True.intro | exact hI | omega) h11
      · exact fun _ _ q _ => q.elim
      · intro v4_15 v6_16 v8_17 v9_18 M_19 c14 h14
        obtain ⟨v20, h20⟩ := h14
        refine ⟨v20, ?_⟩
        refine fmX12_has h20 ?_
        intro x25_22 M25_23 f21 h21
        have c24 : M25_23 1 1 = M_19 1 1 := f21 1 1 (by first | omega | exact fun h => h)
        intro g25 g26
        have h27 := h21 g25 g26
        clear g26
        obtain ⟨h28, h29⟩ := h27
        refine ⟨?_, ?_⟩
        · intro g30
          have h31 := h28 g30
          intro x27_32 g33 g34
          have h32 := h31 x27_32 g33 g34
          exact ih _ _ _ _ (by first | exact True.intro | exact c14 | (rw [c24]; exact c14) | omega) h32
        · intro g35
          have h36 := h29 g35
          refine cmbits_x h36 ?_
          intro x28_38 c37 h37
          intro g40
          have h41 := h37 g40
          obtain ⟨h42, h43⟩ := h41
          refine ⟨?_, ?_⟩
          · intro g44
            have h45 := h42 g44
            intro x30_46 g47 g48
            have h46 := h45 x30_46 g47 g48
            exact ih _ _ _ _ (by first | exact True.intro | exact c14 | (rw [c24]; exact c14) | omega) h46
          · intro g49
            have h50 := h43 g49
            intro x31_51 g52 g53
            have h51 := h50 x31_51 g52 g53
            exact ih _ _ _ _ (by first | exact True.intro | exact c14 | (rw [c24]; exact c14) | omega) h51
theorem cmX12_rains {p1 : Int} {p2 : Int} {p3 : Int} {M : Mem} {Q Q' : Int → Mem → Prop} (h : qX12_rains p1 p2 p3 M Q) (hQ : ∀ (w0 : Int) (M' : Mem), ((w0 = 0 ∧ M' 1 1 = 2) ∨ (w0 = -1 ∧ M' 1 1 = M 1 1)) → Q w0 M' → Q' w0 M') : qX12_rains p1 p2 p3 M Q' := by
  unfold qX12_rains at h ⊢
  intro M1_1 eM1_1
  have h1 := h M1_1 eM1_1
  have c2 : M1_1 1 1 = M 1 1 := by rw [eM1_1, up2_j (by omega)]
  refine cmX12_in h1 ?_
  intro x2_4 c3 h3
  intro g6 g7
  have h8 := h3 g6 g7
  clear g7
  obtain ⟨h9, h10⟩ := h8
  refine ⟨?_, ?_⟩
  · intro g11
    have h12 := h9 g11
    exact hQ _ _ (by first | exact True.intro | omega) h12
  · intro g13
    have h14 := h10 g13
    refine cmX12_in h14 ?_
    intro x4_16 c15 h15
    intro g18 g19
    have h20 := h15 g18 g19
    clear g19
    obtain ⟨h21, h22⟩ := h20
    refine ⟨?_, ?_⟩
    · intro g23
      have h24 := h21 g23
      exact hQ _ _ (by first | exact True.intro | omega) h24
    · intro g25
      have h26 := h22 g25
      refine cmX12_in h26 ?_
      intro x6_28 c27 h27
      intro g30 g31
      have h32 := h27 g30 g31
      clear g31
      obtain ⟨h33, h34⟩ := h32
      refine ⟨?_, ?_⟩
      · intro g35
        have h36 := h33 g35
        obtain ⟨n37, h37⟩ := h36
        refine ⟨n37, ?_⟩
        refine cmX12_rains_L52 (g0 := M1_1 1 1) (g1 := 0) ?_ ?_ _ _ _ _ _ (by first | exact True.intro | omega) h37
        · exact fun _ _ q _ => q.elim
        · intro v4_41 v6_42 M_43 c40 h40
          obtain ⟨n44, h44⟩ := h40
          refine ⟨n44, ?_⟩
          refine cmX12_rains_L75 (g0 := M_43 1 1) (g1 := 0) ?_ ?_ _ _ _ _ _ (by first | exact True.intro | exact c40 | omega) h44
          · exact fun _ _ q _ => q.elim
          · intro v4_48 v6_49 M_50 c47 h47
            obtain ⟨v51, h51⟩ := h47
            refine ⟨v51, ?_⟩
            obtain ⟨v52, h52⟩ := h51
            refine ⟨v52, ?_⟩
            obtain ⟨d53, v53, h53⟩ := h52
            refine ⟨d53, v53, ?_⟩
            refine fmX12_common h53 ?_
            intro x35_55 M35_56 f54 h54
            have c57 : M35_56 1 1 = M_50 1 1 := f54 1 1 (by first | omega | exact fun h => h)
            intro g58
            have h59 := h54 g58
            intro M37_60 eM37_60
            have h60 := h59 M37_60 eM37_60
            have c61 : M37_60 1 1 = 0 := by rw [eM37_60, up2_s]
            obtain ⟨v62, h62⟩ := h60
            refine ⟨v62, ?_⟩
            intro x39_63 g64 g65
            have h63 := h62 x39_63 g64 g65
            refine fmX12_enters (cmX12_enters h63 (fun M' a q => (And.intro a q))) ?_
            intro M40_67 f66 q66
            obtain ⟨c66, h66⟩ := q66
            obtain ⟨v68, h68⟩ := h66
            refine ⟨v68, ?_⟩
            intro x42_69 g70 g71
            have h69 := h68 x42_69 g70 g71
            refine fmX12_enters (cmX12_enters h69 (fun M' a q => (And.intro a q))) ?_
            intro M43_73 f72 q72
            obtain ⟨c72, h72⟩ := q72
            exact hQ _ _ (by first | exact True.intro | exact c47 | omega) h72
      · intro g74
        have h75 := h34 g74
        exact hQ _ _ (by first | exact True.intro | omega) h75
theorem cmX12_law_L42  {g0 g1 : Int} {X71 X71' : Int → Int → Mem → Prop} {Q Q' : Int → Mem → Prop} (hQ : ∀ (w0 : Int) (M' : Mem), (False) → Q w0 M' → Q' w0 M') (hX71 : ∀ (w0 w1 : Int) (M' : Mem), (0 ≤ w0 ∧ w0 ≤ 63) → X71 w0 w1 M' → X71' w0 w1 M') : ∀ (n : Nat) (v2 v3 v4 : Int) (M : Mem), (0 ≤ v2 ∧ v2 ≤ 63) → qX12_law_L42 X71 Q n v2 v3 v4 M → qX12_law_L42 X71' Q' n v2 v3 v4 M := by
  intro n
  induction n with
  | zero => intro v2 v3 v4 M _ h; exact h.elim
  | succ n ih =>
    intro v2 v3 v4 M hI h
    rw [qX12_law_L42] at h
    rw [qX12_law_L42]
    intro x8_1 g2 g3
    have h1 := h x8_1 g2 g3
    obtain ⟨v4, h4⟩ := h1
    refine ⟨v4, ?_⟩
    obtain ⟨h5, h6⟩ := h4
    refine ⟨?_, ?_⟩
    · intro g7
      have h8 := h5 g7
      exact hX71 _ _ _ (by first | exact True.intro | exact hI | omega) h8
    · intro g9
      have h10 := h6 g9
      obtain ⟨v11, h11⟩ := h10
      refine ⟨v11, ?_⟩
      obtain ⟨v12, h12⟩ := h11
      refine ⟨v12, ?_⟩
      intro x13_13 g14 g15
      have h13 := h12 x13_13 g14 g15
      intro M14_16 eM14_16
      have h16 := h13 M14_16 eM14_16
      have c17 : M14_16 1 1 = M 1 1 := by rw [eM14_16, up2_n (by omega)]
      exact ih _ _ _ _ (by first | exact True.intro | exact hI | (rw [c17]; exact hI) | omega) h16
theorem cmX12_law  {M : Mem} {Q Q' : Int → Mem → Prop} (h : qX12_law M Q) (hQ : ∀ (w0 : Int) (M' : Mem), ((M' 1 1 = 2 ∧ -63 ≤ w0 ∧ w0 ≤ 63) ∨ (M' 1 1 = M 1 1 ∧ w0 ≤ -10000)) → Q w0 M' → Q' w0 M') : qX12_law M Q' := by
  unfold qX12_law at h ⊢
  intro M1_1 eM1_1
  have h1 := h M1_1 eM1_1
  have c2 : M1_1 1 1 = M 1 1 := by rw [eM1_1, up2_j (by omega)]
  refine fmX12_readsRule h1 ?_
  intro x2_4 M2_5 f3 h3
  have c6 : M2_5 1 1 = M1_1 1 1 := f3 1 1 (by first | omega | exact fun h => h)
  intro g7
  have h8 := h3 g7
  obtain ⟨h9, h10⟩ := h8
  refine ⟨?_, ?_⟩
  · intro g11
    have h12 := h9 g11
    refine fmX12_copies h12 ?_
    intro M4_14 f13 h13
    have c15 : M4_14 1 1 = M2_5 1 1 := f13 1 1 (by first | omega | exact fun h => h)
    refine fmX12_rightThen h13 ?_
    intro x5_17 M5_18 f16 h16
    have c19 : M5_18 1 1 = M4_14 1 1 := f16 1 1 (by first | omega | exact fun h => h)
    intro g20
    have h21 := h16 g20
    refine cmbits_x h21 ?_
    intro x6_23 c22 h22
    intro g25
    have h26 := h22 g25
    intro x7_27 g28 g29
    have h27 := h26 x7_27 g28 g29
    obtain ⟨n30, h30⟩ := h27
    refine ⟨n30, ?_⟩
    refine cmX12_law_L42 (g0 := M5_18 1 1) (g1 := 0) ?_ ?_ _ _ _ _ _ (by first | exact True.intro | omega) h30
    · exact fun _ _ q _ => q.elim
    · intro v2_34 v3_35 M_36 c33 h33
      intro x16_37 g38 g39
      have h37 := h33 x16_37 g38 g39
      refine fmX12_laysCode h37 ?_
      intro M17_41 f40 h40
      have c42 : M17_41 1 1 = M_36 1 1 := f40 1 1 (by first | omega | exact fun h => h)
      refine fmX12_copies h40 ?_
      intro M18_44 f43 h43
      have c45 : M18_44 1 1 = M17_41 1 1 := f43 1 1 (by first | omega | exact fun h => h)
      refine fmX12_rightThen h43 ?_
      intro x19_47 M19_48 f46 h46
      have c49 : M19_48 1 1 = M18_44 1 1 := f46 1 1 (by first | omega | exact fun h => h)
      intro g50
      have h51 := h46 g50
      refine cmbits_x h51 ?_
      intro x20_53 c52 h52
      intro g55
      have h56 := h52 g55
      obtain ⟨v57, h57⟩ := h56
      refine ⟨v57, ?_⟩
      refine fmX12_laysCode h57 ?_
      intro M22_59 f58 h58
      have c60 : M22_59 1 1 = M19_48 1 1 := f58 1 1 (by first | omega | exact fun h => h)
      intro M23_61 eM23_61
      have h61 := h58 M23_61 eM23_61
      have c62 : M23_61 1 1 = 0 := by rw [eM23_61, up2_s]
      refine fmX12_enters (cmX12_enters h61 (fun M' a q => (And.intro a q))) ?_
      intro M24_64 f63 q63
      obtain ⟨c63, h63⟩ := q63
      obtain ⟨v65, h65⟩ := h63
      refine ⟨v65, ?_⟩
      refine fmX12_enters (cmX12_enters h65 (fun M' a q => (And.intro a q))) ?_
      intro M26_67 f66 q66
      obtain ⟨c66, h66⟩ := q66
      obtain ⟨v68, h68⟩ := h66
      refine ⟨v68, ?_⟩
      exact hQ _ _ (by first | exact True.intro | exact c33 | omega) h68
  · intro g69
    have h70 := h10 g69
    obtain ⟨v71, h71⟩ := h70
    refine ⟨v71, ?_⟩
    exact hQ _ _ (by first | exact True.intro | omega) h71
theorem cmX12_rests_L37 {p1 : Int} {g0 g1 : Int} {X90 X90' : Int → Int → Mem → Prop} {Q Q' : Int → Mem → Prop} (hQ : ∀ (w0 : Int) (M' : Mem), (False) → Q w0 M' → Q' w0 M') (hX90 : ∀ (w0 w1 : Int) (M' : Mem), (((w0 = 0 ∧ M' 1 1 = 0) ∨ (1 ≤ w0 ∧ M' 1 1 = 2))) → X90 w0 w1 M' → X90' w0 w1 M') : ∀ (n : Nat) (v2 v3 v4 : Int) (M : Mem), (((v2 = 0 ∧ M 1 1 = 0) ∨ (1 ≤ v2 ∧ M 1 1 = 2))) → qX12_rests_L37 p1 X90 Q n v2 v3 v4 M → qX12_rests_L37 p1 X90' Q' n v2 v3 v4 M := by
  intro n
  induction n with
  | zero => intro v2 v3 v4 M _ h; exact h.elim
  | succ n ih =>
    intro v2 v3 v4 M hI h
    rw [qX12_rests_L37] at h
    rw [qX12_rests_L37]
    obtain ⟨v1, h1⟩ := h
    refine ⟨v1, ?_⟩
    obtain ⟨h2, h3⟩ := h1
    refine ⟨?_, ?_⟩
    · intro g4
      have h5 := h2 g4
      exact hX90 _ _ _ (by first | exact True.intro | exact hI | exact Or.inr ⟨by omega, by omega⟩ | omega) h5
    · intro g6
      have h7 := h3 g6
      obtain ⟨v8, h8⟩ := h7
      refine ⟨v8, ?_⟩
      refine fmX12_isRest h8 ?_
      intro x11_10 M11_11 f9 h9
      have c12 : M11_11 1 1 = M 1 1 := f9 1 1 (by first | omega | exact fun h => h)
      intro g13 g14
      have h15 := h9 g13 g14
      clear g14
      obtain ⟨h16, h17⟩ := h15
      refine ⟨?_, ?_⟩
      · intro g18
        have h19 := h16 g18
        exact ih _ _ _ _ (by first | exact True.intro | exact hI | (rw [c12]; exact hI) | exact Or.inr ⟨by omega, by omega⟩ | omega) h19
      · intro g20
        have h21 := h17 g20
        refine fmX12_isRest h21 ?_
        intro x13_23 M13_24 f22 h22
        have c25 : M13_24 1 1 = M11_11 1 1 := f22 1 1 (by first | omega | exact fun h => h)
        intro g26 g27
        have h28 := h22 g26 g27
        clear g27
        obtain ⟨h29, h30⟩ := h28
        refine ⟨?_, ?_⟩
        · intro g31
          have h32 := h29 g31
          exact ih _ _ _ _ (by first | exact True.intro | exact hI | (rw [(c25.trans c12)]; exact hI) | exact Or.inr ⟨by omega, by omega⟩ | omega) h32
        · intro g33
          have h34 := h30 g33
          obtain ⟨v35, h35⟩ := h34
          refine ⟨v35, ?_⟩
          obtain ⟨h36, h37⟩ := h35
          refine ⟨?_, ?_⟩
          · intro g38
            have h39 := h36 g38
            exact ih _ _ _ _ (by first | exact True.intro | exact hI | (rw [(c25.trans c12)]; exact hI) | exact Or.inr ⟨by omega, by omega⟩ | omega) h39
          · intro g40
            have h41 := h37 g40
            refine fmX12_enters (cmX12_enters h41 (fun M' a q => (And.intro a q))) ?_
            intro M17_43 f42 q42
            obtain ⟨c42, h42⟩ := q42
            refine fmX12_enters (cmX12_enters h42 (fun M' a q => (And.intro a q))) ?_
            intro M18_45 f44 q44
            obtain ⟨c44, h44⟩ := q44
            exact ih _ _ _ _ (by first | exact True.intro | exact hI | exact Or.inr ⟨by omega, by omega⟩ | omega) h44
theorem cmX12_rests_L28 {p1 : Int} {g0 g1 : Int} {Q Q' : Int → Mem → Prop} (hQ : ∀ (w0 : Int) (M' : Mem), ((w0 = 0 ∧ M' 1 1 = 0) ∨ (1 ≤ w0 ∧ M' 1 1 = 2)) → Q w0 M' → Q' w0 M') : ∀ (n : Nat) (v2 v3 : Int) (M : Mem), (((v2 = 0 ∧ M 1 1 = 0) ∨ (1 ≤ v2 ∧ M 1 1 = 2))) → qX12_rests_L28 p1 Q n v2 v3 M → qX12_rests_L28 p1 Q' n v2 v3 M := by
  intro n
  induction n with
  | zero => intro v2 v3 M _ h; exact h.elim
  | succ n ih =>
    intro v2 v3 M hI h
    rw [qX12_rests_L28] at h
    rw [qX12_rests_L28]
    obtain ⟨v1, h1⟩ := h
    refine ⟨v1, ?_⟩
    obtain ⟨h2, h3⟩ := h1
    refine ⟨?_, ?_⟩
    · intro g4
      have h5 := h2 g4
      obtain ⟨v6, h6⟩ := h5
      refine ⟨v6, ?_⟩
      exact hQ _ _ (by first | exact True.intro | exact hI | exact Or.inr ⟨by omega, by omega⟩ | omega) h6
    · intro g7
      have h8 := h3 g7
      obtain ⟨n9, h9⟩ := h8
      refine ⟨n9, ?_⟩
      refine cmX12_rests_L37 (g0 := g0) (g1 := g1) ?_ ?_ _ _ _ _ _ (by first | exact True.intro | exact hI | exact Or.inr ⟨by omega, by omega⟩ | omega) h9
      · exact fun _ _ q _ => q.elim
      · intro v2_13 v3_14 M_15 c12 h12
        exact ih _ _ _ (by first | exact True.intro | exact c12 | exact Or.inr ⟨by omega, by omega⟩ | omega) h12
theorem cmX12_rests {p1 : Int} {M : Mem} {Q Q' : Int → Mem → Prop} (h : qX12_rests p1 M Q) (hQ : ∀ (w0 : Int) (M' : Mem), ((w0 = -1 ∧ M' 1 1 = M 1 1) ∨ (w0 = 0 ∧ M' 1 1 = 0) ∨ (1 ≤ w0 ∧ M' 1 1 = 2)) → Q w0 M' → Q' w0 M') : qX12_rests p1 M Q' := by
  unfold qX12_rests at h ⊢
  intro M1_1 eM1_1
  have h1 := h M1_1 eM1_1
  have c2 : M1_1 1 1 = M 1 1 := by rw [eM1_1, up2_j (by omega)]
  refine cmX12_in h1 ?_
  intro x2_4 c3 h3
  intro g6 g7
  have h8 := h3 g6 g7
  clear g7
  obtain ⟨h9, h10⟩ := h8
  refine ⟨?_, ?_⟩
  · intro g11
    have h12 := h9 g11
    intro M4_13 eM4_13
    have h13 := h12 M4_13 eM4_13
    have c14 : M4_13 1 1 = 0 := by rw [eM4_13, up2_s]
    obtain ⟨n15, h15⟩ := h13
    refine ⟨n15, ?_⟩
    refine cmX12_rests_L28 (g0 := M4_13 1 1) (g1 := 0) ?_ _ _ _ _ (by first | exact True.intro | omega) h15
    · exact fun z16_0 M_16 c16 h16 => hQ _ M_16 (by first | exact True.intro | exact c16 | omega) h16
  · intro g17
    have h18 := h10 g17
    exact hQ _ _ (by first | exact True.intro | omega) h18
theorem cmX12_years_L30 {p1 : Int} {p2 : Int} {g0 g1 : Int} {X120 X120' : Mem → Prop} {Q Q' : Int → Mem → Prop} (hQ : ∀ (w0 : Int) (M' : Mem), (False) → Q w0 M' → Q' w0 M') (hX120 : ∀ (M' : Mem), (True) → X120 M' → X120' M') : ∀ (n : Nat) (v3 : Int) (M : Mem), (True) → qX12_years_L30 p1 p2 X120 Q n v3 M → qX12_years_L30 p1 p2 X120' Q' n v3 M := by
  intro n
  induction n with
  | zero => intro v3 M _ h; exact h.elim
  | succ n ih =>
    intro v3 M hI h
    rw [qX12_years_L30] at h
    rw [qX12_years_L30]
    obtain ⟨v1, h1⟩ := h
    refine ⟨v1, ?_⟩
    obtain ⟨h2, h3⟩ := h1
    refine ⟨?_, ?_⟩
    · intro g4
      have h5 := h2 g4
      exact hX120 _ (by first | exact True.intro | exact hI | omega) h5
    · intro g6
      have h7 := h3 g6
      refine fmX12_draws h7 ?_
      intro x8_9 M8_10 f8 h8
      have c11 : M8_10 1 1 = M 1 1 := f8 1 1 (by first | omega | exact fun h => h)
      intro g12
      have h13 := h8 g12
      obtain ⟨h14, h15⟩ := h13
      refine ⟨?_, ?_⟩
      · intro g16
        have h17 := h14 g16
        intro x10_18 g19 g20
        have h18 := h17 x10_18 g19 g20
        obtain ⟨h21, h22⟩ := h18
        refine ⟨?_, ?_⟩
        · intro g23
          have h24 := h21 g23
          exact ih _ _ (by first | exact True.intro | exact hI | (rw [c11]; exact hI) | omega) h24
        · intro g25
          have h26 := h22 g25
          intro x12_27 g28 g29
          have h27 := h26 x12_27 g28 g29
          refine fmX12_draws h27 ?_
          intro x13_31 M13_32 f30 h30
          have c33 : M13_32 1 1 = M8_10 1 1 := f30 1 1 (by first | omega | exact fun h => h)
          intro g34
          have h35 := h30 g34
          obtain ⟨h36, h37⟩ := h35
          refine ⟨?_, ?_⟩
          · intro g38
            have h39 := h36 g38
            refine fmX12_draws h39 ?_
            intro x15_41 M15_42 f40 h40
            have c43 : M15_42 1 1 = M13_32 1 1 := f40 1 1 (by first | omega | exact fun h => h)
            intro g44
            have h45 := h40 g44
            obtain ⟨v46, h46⟩ := h45
            refine ⟨v46, ?_⟩
            refine fmX12_pushesOne h46 ?_
            intro x17_48 M17_49 f47 h47
            have c50 : M17_49 1 1 = M15_42 1 1 := f47 1 1 (by first | omega | exact fun h => h)
            intro g51
            have h52 := h47 g51
            exact ih _ _ (by first | exact True.intro | exact hI | (rw [(c50.trans (c43.trans (c33.trans c11)))]; exact hI) | omega) h52
          · intro g53
            have h54 := h37 g53
            refine fmX12_turnsOne h54 ?_
            intro x18_56 M18_57 f55 h55
            have c58 : M18_57 1 1 = M13_32 1 1 := f55 1 1 (by first | omega | exact fun h => h)
            intro g59
            have h60 := h55 g59
            exact ih _ _ (by first | exact True.intro | exact hI | (rw [(c58.trans (c33.trans c11))]; exact hI) | omega) h60
      · intro g61
        have h62 := h15 g61
        refine fmX12_stepGoes h62 ?_
        intro M19_64 f63 h63
        have c65 : M19_64 1 1 = M8_10 1 1 := f63 1 1 (by first | omega | exact fun h => h)
        exact ih _ _ (by first | exact True.intro | exact hI | (rw [(c65.trans c11)]; exact hI) | omega) h63
theorem cmX12_years {p1 : Int} {p2 : Int} {M : Mem} {Q Q' : Int → Mem → Prop} (h : qX12_years p1 p2 M Q) (hQ : ∀ (w0 : Int) (M' : Mem), (((1 ≤ p2 ∧ p2 ≤ 60) → M' 1 1 = 2) ∧ (¬ (1 ≤ p2 ∧ p2 ≤ 60) → M' 1 1 = M 1 1)) → Q w0 M' → Q' w0 M') : qX12_years p1 p2 M Q' := by
  unfold qX12_years at h ⊢
  intro M1_1 eM1_1
  have h1 := h M1_1 eM1_1
  have c2 : M1_1 1 1 = M 1 1 := by rw [eM1_1, up2_j (by omega)]
  refine cmX12_in h1 ?_
  intro x2_4 c3 h3
  intro g6 g7
  have h8 := h3 g6 g7
  clear g7
  obtain ⟨h9, h10⟩ := h8
  refine ⟨?_, ?_⟩
  · intro g11
    have h12 := h9 g11
    intro M4_13 eM4_13
    have h13 := h12 M4_13 eM4_13
    have c14 : M4_13 1 1 = M1_1 1 1 := by rw [eM4_13, up2_j (by omega)]
    refine fmX12_copies h13 ?_
    intro M5_16 f15 h15
    have c17 : M5_16 1 1 = M4_13 1 1 := f15 1 1 (by first | omega | exact fun h => h)
    obtain ⟨n18, h18⟩ := h15
    refine ⟨n18, ?_⟩
    refine cmX12_years_L30 (g0 := M5_16 1 1) (g1 := 0) ?_ ?_ _ _ _ (by first | exact True.intro | omega) h18
    · exact fun _ _ q _ => q.elim
    · intro M_22 c21 h21
      refine fmX12_endedBy h21 ?_
      intro x21_24 M21_25 f23 h23
      have c26 : M21_25 1 1 = M_22 1 1 := f23 1 1 (by first | omega | exact fun h => h)
      intro g27
      have h28 := h23 g27
      refine fmX12_endedBy h28 ?_
      intro x22_30 M22_31 f29 h29
      have c32 : M22_31 1 1 = M21_25 1 1 := f29 1 1 (by first | omega | exact fun h => h)
      intro g33
      have h34 := h29 g33
      intro x23_35 g36 g37
      have h35 := h34 x23_35 g36 g37
      intro M24_38 eM24_38
      have h38 := h35 M24_38 eM24_38
      have c39 : M24_38 1 1 = 0 := by rw [eM24_38, up2_s]
      refine cmbits_x h38 ?_
      intro x25_41 c40 h40
      intro g43
      have h44 := h40 g43
      refine fmX12_enters (cmX12_enters h44 (fun M' a q => (And.intro a q))) ?_
      intro M26_46 f45 q45
      obtain ⟨c45, h45⟩ := q45
      refine fmX12_endedBy h45 ?_
      intro x27_48 M27_49 f47 h47
      have c50 : M27_49 1 1 = M26_46 1 1 := f47 1 1 (by first | omega | exact fun h => h)
      intro g51
      have h52 := h47 g51
      refine cmbits_x h52 ?_
      intro x28_54 c53 h53
      intro g56
      have h57 := h53 g56
      refine fmX12_enters (cmX12_enters h57 (fun M' a q => (And.intro a q))) ?_
      intro M29_59 f58 q58
      obtain ⟨c58, h58⟩ := q58
      intro x30_60 g61 g62
      have h60 := h58 x30_60 g61 g62
      exact hQ _ _ (by first | exact True.intro | exact c21 | omega) h60
  · intro g63
    have h64 := h10 g63
    exact hQ _ _ (by first | exact True.intro | omega) h64
