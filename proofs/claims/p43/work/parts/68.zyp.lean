/-! HOW MANY NUMBERS THE ROW HAS BEHIND A CALL, by program: the class -/
theorem cmbits_x {p0 : Int} {M : Mem} {Q Q' : Int → Mem → Prop} (h : qJ6_bitCount_0f7a4 p0 M Q) (hQ : ∀ z : Int, (0 ≤ z ∧ z ≤ 63) → Q z M → Q' z M) : qJ6_bitCount_0f7a4 p0 M Q' := by
  unfold qJ6_bitCount_0f7a4 at h ⊢
  intro x1 e1 r1 x2 e2 r2 x3 e3 r3 x4 e4 r4 x5 e5 r5 x6 e6 r6 x7 e7 r7 x8 e8 r8 x9 e9 r9 x10 e10 r10
  exact hQ _ (by rw [e10]; exact aI_63 _) (h x1 e1 r1 x2 e2 r2 x3 e3 r3 x4 e4 r4 x5 e5 r5 x6 e6 r6 x7 e7 r7 x8 e8 r8 x9 e9 r9 x10 e10 r10)
theorem cmab {x e : Int} (h1 : 0 ≤ e → x = e) (h2 : e < 0 → x = -e) : 0 ≤ x := by omega
theorem cmX6_hasEnded {k0 : Nat} {p1 : Int} {M : Mem} {Q Q' : Int → Mem → Prop} (h : qX6_hasEnded k0 p1 M Q) (hQ : ∀ z : Int, (z = 0 ∨ M (k0 + 6) p1 ≠ -1) → Q z M → Q' z M) : qX6_hasEnded k0 p1 M Q' := by
  unfold qX6_hasEnded at h ⊢
  obtain ⟨v1, v2, h3⟩ := h
  refine ⟨v1, v2, fun x3 e3 r3 => ?_⟩
  have h4 := h3 x3 e3 r3
  exact ⟨fun c => hQ _ (Or.inl rfl) (h4.1 c), fun c => hQ _ (Or.inr (by rw [← e3]; exact c)) (h4.2 c)⟩
theorem cmX6_copy6 {M : Mem} {Q Q' : Mem → Prop} (h : qX6_copyFrom 8 1 M Q) (hQ : ∀ M' : Mem, Ks (fun k j => 8 ≤ k ∧ k ≤ 14) M M' → M' 8 6 = M 1 6 → Q M' → Q' M') : qX6_copyFrom 8 1 M Q' := by
  have g : qX6_copyFrom 8 1 M (fun M' => M' 8 6 = M 1 6 ∧ Q M') := by
    unfold qX6_copyFrom at h ⊢
    intro M1 e1 M2 e2 M3 e3 M4 e4 M5 e5 M6 e6 x7 e7 r7 M8 e8 x9 e9 r9 M10 e10 x11 e11 r11 M12 e12 x13 e13 r13 M14 e14 x15 e15 r15 M16 e16
    refine ⟨?_, h M1 e1 M2 e2 M3 e3 M4 e4 M5 e5 M6 e6 x7 e7 r7 M8 e8 x9 e9 r9 M10 e10 x11 e11 r11 M12 e12 x13 e13 r13 M14 e14 x15 e15 r15 M16 e16⟩
    rw [e16, up2_j (by decide), e14, up2_j (by decide), e12, up2_j (by decide), e10, up2_j (by decide), e8, up2_s, e7, e6, cp2_n (by decide), e5, cp2_n (by decide), e4, cp2_n (by decide), e3, cp2_n (by decide), e2, cp2_n (by decide), e1, cp2_n (by decide)]
  exact fmX6_copyFrom g (fun M' k q => hQ M' (k.mono (by intro k j h; omega)) q.1 q.2)
theorem cmX5_read_L40 {k2 : Nat} {g0 g1 : Int} {X92 X92' : Mem → Prop} {Q Q' : Int → Mem → Prop} (hQ : ∀ (w0 : Int) (M' : Mem), (w0 = -1 ∨ w0 = M' 156 2) → Q w0 M' → Q' w0 M') (hX92 : ∀ (M' : Mem), (True) → X92 M' → X92' M') : ∀ (n : Nat) (v3 : Int) (M : Mem), (True) → qX5_read_L40 k2 X92 Q n v3 M → qX5_read_L40 k2 X92' Q' n v3 M := by
  intro n
  induction n with
  | zero => intro v3 M _ h; exact h.elim
  | succ n ih =>
    intro v3 M hI h
    rw [qX5_read_L40] at h
    rw [qX5_read_L40]
    obtain ⟨v1, h1⟩ := h
    refine ⟨v1, ?_⟩
    obtain ⟨h2, h3⟩ := h1
    refine ⟨?_, ?_⟩
    · intro g4
      have h5 := h2 g4
      exact hX92 _ (by first | exact True.intro | exact hI | omega) h5
    · intro g6
      have h7 := h3 g6
      refine fmX9_isRead h7 ?_
      intro x10_9 M10_10 f8 h8
      intro g11 g12
      have h13 := h8 g11 g12
      clear g12
      obtain ⟨h14, h15⟩ := h13
      refine ⟨?_, ?_⟩
      · intro g16
        have h17 := h14 g16
        exact hX92 _ (by first | exact True.intro | exact hI | omega) h17
      · intro g18
        have h19 := h15 g18
        intro x12_20 g21 g22
        have h20 := h19 x12_20 g21 g22
        obtain ⟨h23, h24⟩ := h20
        refine ⟨?_, ?_⟩
        · intro g25
          have h26 := h23 g25
          refine fmX5_takeSign h26 ?_
          intro x14_28 M14_29 f27 h27
          intro g30 g31
          have h32 := h27 g30 g31
          clear g31
          obtain ⟨h33, h34⟩ := h32
          refine ⟨?_, ?_⟩
          · intro g35
            have h36 := h33 g35
            exact ih _ _ (by first | exact True.intro | exact hI | omega) h36
          · intro g37
            have h38 := h34 g37
            intro x16_39 g40 g41
            have h39 := h38 x16_39 g40 g41
            exact hQ _ _ (by first | exact True.intro | exact hI | omega) h39
        · intro g42
          have h43 := h24 g42
          refine fmX5_takeThing h43 ?_
          intro x17_45 M17_46 f44 h44
          intro g47 g48
          have h49 := h44 g47 g48
          clear g48
          obtain ⟨h50, h51⟩ := h49
          refine ⟨?_, ?_⟩
          · intro g52
            have h53 := h50 g52
            intro x19_54 g55 g56
            have h54 := h53 x19_54 g55 g56
            exact hQ _ _ (by first | exact True.intro | exact hI | omega) h54
          · intro g57
            have h58 := h51 g57
            exact ih _ _ (by first | exact True.intro | exact hI | omega) h58
theorem cmX5_read {k2 : Nat} {M : Mem} {Q Q' : Int → Mem → Prop} (h : qX5_read k2 M Q) (hQ : ∀ (w0 : Int) (M' : Mem), (w0 = -1 ∨ w0 = M' 156 2) → Q w0 M' → Q' w0 M') : qX5_read k2 M Q' := by
  unfold qX5_read at h ⊢
  refine fmX9_isEmpty h ?_
  intro x1_2 M1_3 f1 h1
  intro g4 g5
  have h6 := h1 g4 g5
  clear g5
  obtain ⟨h7, h8⟩ := h6
  refine ⟨?_, ?_⟩
  · intro g9
    have h10 := h7 g9
    refine fmX2_clear h10 ?_
    intro M3_12 f11 h11
    intro M4_13 eM4_13
    have h13 := h11 M4_13 eM4_13
    intro M5_14 eM5_14
    have h14 := h13 M5_14 eM5_14
    intro M6_15 eM6_15
    have h15 := h14 M6_15 eM6_15
    refine fmX9_open h15 ?_
    intro M7_17 f16 h16
    obtain ⟨n18, h18⟩ := h16
    refine ⟨n18, ?_⟩
    refine cmX5_read_L40 (g0 := M7_17 167 1) (g1 := 0) ?_ ?_ _ _ _ (by first | exact True.intro | omega) h18
    · exact fun z19_0 M_19 c19 h19 => hQ _ M_19 (by first | exact True.intro | exact c19 | omega) h19
    · intro M_22 c21 h21
      unfold qX5_read_J92 at h21 ⊢
      intro x21_23 g24 g25
      have h23 := h21 x21_23 g24 g25
      obtain ⟨h26, h27⟩ := h23
      refine ⟨?_, ?_⟩
      · intro g28
        have h29 := h26 g28
        intro x23_30 g31 g32
        have h30 := h29 x23_30 g31 g32
        exact hQ _ _ (by first | exact True.intro | exact c21 | omega) h30
      · intro g33
        have h34 := h27 g33
        intro x24_35 g36 g37
        have h35 := h34 x24_35 g36 g37
        obtain ⟨h38, h39⟩ := h35
        refine ⟨?_, ?_⟩
        · intro g40
          have h41 := h38 g40
          intro x26_42 g43 g44
          have h42 := h41 x26_42 g43 g44
          exact hQ _ _ (by first | exact True.intro | exact c21 | omega) h42
        · intro g45
          have h46 := h39 g45
          refine fmX9_isWhole h46 ?_
          intro x27_48 M27_49 f47 h47
          intro g50 g51
          have h52 := h47 g50 g51
          clear g51
          obtain ⟨h53, h54⟩ := h52
          refine ⟨?_, ?_⟩
          · intro g55
            have h56 := h53 g55
            refine fmX5_release h56 ?_
            intro M29_58 f57 h57
            exact hQ _ _ (by first | exact True.intro | exact c21 | omega) h57
          · intro g59
            have h60 := h54 g59
            intro x30_61 g62 g63
            have h61 := h60 x30_61 g62 g63
            exact hQ _ _ (by first | exact True.intro | exact c21 | omega) h61
  · intro g64
    have h65 := h8 g64
    refine fmX2_becomePlain h65 ?_
    intro M31_67 f66 h66
    exact hQ _ _ (by first | exact True.intro | omega) h66
theorem cmX4_add {p1 : Int} {M : Mem} {Q Q' : Mem → Prop} (h : qX4_add p1 M Q) (hQ : ∀ (M' : Mem), ((8 ≤ M 167 1 → M' 167 1 = M 167 1) ∧ (M 167 1 < 8 → M' 167 1 = M 167 1 + 1)) → Q M' → Q' M') : qX4_add p1 M Q' := by
  unfold qX4_add at h ⊢
  intro x1_1 g2 g3
  have h1 := h x1_1 g2 g3
  obtain ⟨h4, h5⟩ := h1
  refine ⟨?_, ?_⟩
  · intro g6
    have h7 := h4 g6
    exact hQ _ (by first | exact True.intro | omega) h7
  · intro g8
    have h9 := h5 g8
    intro x3_10 g11 g12
    have h10 := h9 x3_10 g11 g12
    obtain ⟨v13, h13⟩ := h10
    refine ⟨v13, ?_⟩
    obtain ⟨v14, h14⟩ := h13
    refine ⟨v14, ?_⟩
    intro M6_15 eM6_15
    have h15 := h14 M6_15 eM6_15
    have c16 : M6_15 167 1 = M 167 1 := by rw [eM6_15, up2_n (by omega)]
    intro x7_17 g18 g19
    have h17 := h15 x7_17 g18 g19
    obtain ⟨v20, h20⟩ := h17
    refine ⟨v20, ?_⟩
    intro M9_21 eM9_21
    have h21 := h20 M9_21 eM9_21
    have c22 : M9_21 167 1 = (x7_17 + 1) := by rw [eM9_21, up2_s]
    exact hQ _ (by first | exact True.intro | omega) h21
theorem cmX4_clear  {M : Mem} {Q Q' : Mem → Prop} (h : qX4_clear M Q) (hQ : ∀ (M' : Mem), (M' 167 1 = 0) → Q M' → Q' M') : qX4_clear M Q' := by
  unfold qX4_clear at h ⊢
  intro M1_1 eM1_1
  have h1 := h M1_1 eM1_1
  have c2 : M1_1 167 1 = 0 := by rw [eM1_1, up2_s]
  exact hQ _ (by first | exact True.intro | omega) h1
theorem cmX4_tellTwo {p1 : Int} {p3 : Int} {M : Mem} {Q Q' : Mem → Prop} (h : qX4_tellTwo p1 p3 M Q) (hQ : ∀ (M' : Mem), (M' 167 1 = 2) → Q M' → Q' M') : qX4_tellTwo p1 p3 M Q' := by
  unfold qX4_tellTwo at h ⊢
  refine fmX4_clear (cmX4_clear h (fun M' a q => (And.intro a q))) ?_
  intro M1_2 f1 q1
  obtain ⟨c1, h1⟩ := q1
  refine fmX4_add (cmX4_add h1 (fun M' a q => (And.intro a q))) ?_
  intro M2_4 f3 q3
  obtain ⟨c3, h3⟩ := q3
  refine fmX4_add (cmX4_add h3 (fun M' a q => (And.intro a q))) ?_
  intro M3_6 f5 q5
  obtain ⟨c5, h5⟩ := q5
  exact hQ _ (by first | exact True.intro | omega) h5
theorem cmX11_steps {p1 : Int} {M : Mem} {Q Q' : Int → Mem → Prop} (h : qX11_steps p1 M Q) (hQ : ∀ (w0 : Int) (M' : Mem), (((0 ≤ p1 ∧ p1 ≤ 60) → M' 167 1 = 2) ∧ (¬ (0 ≤ p1 ∧ p1 ≤ 60) → M' 167 1 = M 167 1)) → Q w0 M' → Q' w0 M') : qX11_steps p1 M Q' := by
  unfold qX11_steps at h ⊢
  obtain ⟨h1, h2⟩ := h
  refine ⟨?_, ?_⟩
  · intro g3
    have h4 := h1 g3
    exact hQ _ _ (by first | exact True.intro | omega) h4
  · intro g5
    have h6 := h2 g5
    obtain ⟨h7, h8⟩ := h6
    refine ⟨?_, ?_⟩
    · intro g9
      have h10 := h7 g9
      refine fmX6_copyFrom h10 ?_
      intro M3_12 f11 h11
      have c13 : M3_12 167 1 = M 167 1 := f11 167 1 (by first | omega | exact fun h => h)
      obtain ⟨v14, h14⟩ := h11
      refine ⟨v14, ?_⟩
      have w14 : (M3_12 155 16).toNat = 187 ∨ (M3_12 155 16).toNat = 192 := v14
      refine fmX10_walk h14 ?_
      intro M5_16 f15 h15
      have c17 : M5_16 167 1 = M3_12 167 1 := f15 167 1 (by first | omega | exact fun h => h)
      intro x6_18 g19 g20
      have h18 := h15 x6_18 g19 g20
      intro x7_21 g22 g23
      have h21 := h18 x7_21 g22 g23
      refine fmX4_tellTwo (cmX4_tellTwo h21 (fun M' a q => (And.intro a q))) ?_
      intro M8_25 f24 q24
      obtain ⟨c24, h24⟩ := q24
      intro x9_26 g27 g28
      have h26 := h24 x9_26 g27 g28
      refine fmX11_undoable h26 ?_
      intro x10_30 M10_31 f29 h29
      have c32 : M10_31 167 1 = M8_25 167 1 := f29 167 1 (by first | omega | exact fun h => h)
      intro g33
      have h34 := h29 g33
      exact hQ _ _ (by first | exact True.intro | omega) h34
    · intro g35
      have h36 := h8 g35
      exact hQ _ _ (by first | exact True.intro | omega) h36
theorem cmX11_line_L17  {g0 g1 : Int} {Q Q' : Int → Mem → Prop} (hQ : ∀ (w0 : Int) (M' : Mem), (M' 167 1 = w0) → Q w0 M' → Q' w0 M') : ∀ (n : Nat) (v1 v2 : Int) (M : Mem), (True) → qX11_line_L17 Q n v1 v2 M → qX11_line_L17 Q' n v1 v2 M := by
  intro n
  induction n with
  | zero => intro v1 v2 M _ h; exact h.elim
  | succ n ih =>
    intro v1 v2 M hI h
    rw [qX11_line_L17] at h
    rw [qX11_line_L17]
    obtain ⟨v1, h1⟩ := h
    refine ⟨v1, ?_⟩
    obtain ⟨h2, h3⟩ := h1
    refine ⟨?_, ?_⟩
    · intro g4
      have h5 := h2 g4
      intro x5_6 g7 g8
      have h6 := h5 x5_6 g7 g8
      exact hQ _ _ (by first | exact True.intro | exact hI | omega) h6
    · intro g9
      have h10 := h3 g9
      obtain ⟨v11, h11⟩ := h10
      refine ⟨v11, ?_⟩
      refine fmX6_foremostBelow h11 ?_
      intro x7_13 M7_14 f12 h12
      have c15 : M7_14 167 1 = M 167 1 := f12 167 1 (by first | omega | exact fun h => h)
      intro g16
      have h17 := h12 g16
      obtain ⟨h18, h19⟩ := h17
      refine ⟨?_, ?_⟩
      · intro g20
        have h21 := h18 g20
        obtain ⟨v22, h22⟩ := h21
        refine ⟨v22, ?_⟩
        obtain ⟨v23, h23⟩ := h22
        refine ⟨v23, ?_⟩
        intro x11_24 g25 g26
        have h24 := h23 x11_24 g25 g26
        refine fmX4_add (cmX4_add h24 (fun M' a q => (And.intro a q))) ?_
        intro M12_28 f27 q27
        obtain ⟨c27, h27⟩ := q27
        exact ih _ _ _ (by first | exact True.intro | exact hI | omega) h27
      · intro g29
        have h30 := h19 g29
        intro x13_31 g32 g33
        have h31 := h30 x13_31 g32 g33
        exact hQ _ _ (by first | exact True.intro | exact hI | (rw [c15]; exact hI) | omega) h31
theorem cmX11_line  {M : Mem} {Q Q' : Int → Mem → Prop} (h : qX11_line M Q) (hQ : ∀ (w0 : Int) (M' : Mem), (M' 167 1 = w0) → Q w0 M' → Q' w0 M') : qX11_line M Q' := by
  unfold qX11_line at h ⊢
  refine fmX4_clear (cmX4_clear h (fun M' a q => (And.intro a q))) ?_
  intro M1_2 f1 q1
  obtain ⟨c1, h1⟩ := q1
  intro x2_3 g4 g5
  have h3 := h1 x2_3 g4 g5
  obtain ⟨n6, h6⟩ := h3
  refine ⟨n6, ?_⟩
  refine cmX11_line_L17 (g0 := M1_2 167 1) (g1 := 0) ?_ _ _ _ _ (by first | exact True.intro | omega) h6
  · exact fun z7_0 M_7 c7 h7 => hQ _ M_7 (by first | exact True.intro | exact c7 | omega) h7
theorem cmX11_ahead_L48 {p1 : Int} {g0 g1 : Int} {Q Q' : Int → Mem → Prop} (hQ : ∀ (w0 : Int) (M' : Mem), (0 ≤ g1 → g1 ≤ 8 → M' 167 1 = g1) → Q w0 M' → Q' w0 M') : ∀ (n : Nat) (v2 : Int) (M : Mem), (0 ≤ v2 ∧ M 8 6 = g1 ∧ (0 ≤ g1 → g1 ≤ 8 → M 167 1 = v2 ∧ v2 ≤ g1)) → qX11_ahead_L48 p1 Q n v2 M → qX11_ahead_L48 p1 Q' n v2 M := by
  intro n
  induction n with
  | zero => intro v2 M _ h; exact h.elim
  | succ n ih =>
    intro v2 M hI h
    rw [qX11_ahead_L48] at h
    rw [qX11_ahead_L48]
    intro x7_1 g2 g3
    have h1 := h x7_1 g2 g3
    obtain ⟨v4, h4⟩ := h1
    refine ⟨v4, ?_⟩
    obtain ⟨h5, h6⟩ := h4
    refine ⟨?_, ?_⟩
    · intro g7
      have h8 := h5 g7
      intro x10_9 g10 g11
      have h9 := h8 x10_9 g10 g11
      exact hQ _ _ (by first | exact True.intro | exact hI | omega) h9
    · intro g12
      have h13 := h6 g12
      obtain ⟨v14, h14⟩ := h13
      refine ⟨v14, ?_⟩
      obtain ⟨v15, h15⟩ := h14
      refine ⟨v15, ?_⟩
      intro x13_16 g17 g18
      have h16 := h15 x13_16 g17 g18
      refine fmX4_add (cmX4_add h16 (fun M' a q => (And.intro a q))) ?_
      intro M14_20 f19 q19
      obtain ⟨c19, h19⟩ := q19
      have c21 : M14_20 8 6 = M 8 6 := f19 8 6 (by first | omega | exact fun h => h)
      exact ih _ _ (by first | exact True.intro | exact hI | omega) h19
theorem cmX11_ahead {p1 : Int} {M : Mem} {Q Q' : Int → Mem → Prop} (h : qX11_ahead p1 M Q) (hQ : ∀ (w0 : Int) (M' : Mem), (((0 ≤ p1 ∧ p1 ≤ 99) → 0 ≤ M 1 6 → M 1 6 ≤ 8 → M' 167 1 = M 1 6) ∧ (¬ (0 ≤ p1 ∧ p1 ≤ 99) → M' 167 1 = M 167 1)) → Q w0 M' → Q' w0 M') : qX11_ahead p1 M Q' := by
  unfold qX11_ahead at h ⊢
  obtain ⟨h1, h2⟩ := h
  refine ⟨?_, ?_⟩
  · intro g3
    have h4 := h1 g3
    exact hQ _ _ (by first | exact True.intro | omega) h4
  · intro g5
    have h6 := h2 g5
    obtain ⟨h7, h8⟩ := h6
    refine ⟨?_, ?_⟩
    · intro g9
      have h10 := h7 g9
      refine cmX6_copy6 h10 ?_
      intro M3_11 f11 d11 h11
      have c12 : M3_11 167 1 = M 167 1 := f11 167 1 (by first | omega | exact fun h => h)
      obtain ⟨v13, h13⟩ := h11
      refine ⟨v13, ?_⟩
      have w13 : (M3_11 155 16).toNat = 187 ∨ (M3_11 155 16).toNat = 192 := v13
      refine fmX10_walk h13 ?_
      intro M5_15 f14 h14
      have c16 : M5_15 167 1 = M3_11 167 1 := f14 167 1 (by first | omega | exact fun h => h)
      have c17 : M5_15 8 6 = M3_11 8 6 := f14 8 6 (by first | omega | exact fun h => h)
      refine fmX4_clear (cmX4_clear h14 (fun M' a q => (And.intro a q))) ?_
      intro M6_19 f18 q18
      obtain ⟨c18, h18⟩ := q18
      have c20 : M6_19 8 6 = M5_15 8 6 := f18 8 6 (by first | omega | exact fun h => h)
      obtain ⟨n21, h21⟩ := h18
      refine ⟨n21, ?_⟩
      refine cmX11_ahead_L48 (g0 := M6_19 167 1) (g1 := M6_19 8 6) ?_ _ _ _ (by first | exact True.intro | omega) h21
      · exact fun z22_0 M_22 c22 h22 => hQ _ M_22 (by first | exact True.intro | exact c22 | omega) h22
    · intro g23
      have h24 := h8 g23
      exact hQ _ _ (by first | exact True.intro | omega) h24
theorem cmX4_tellOne {p1 : Int} {M : Mem} {Q Q' : Mem → Prop} (h : qX4_tellOne p1 M Q) (hQ : ∀ (M' : Mem), (M' 167 1 = 1) → Q M' → Q' M') : qX4_tellOne p1 M Q' := by
  unfold qX4_tellOne at h ⊢
  refine fmX4_clear (cmX4_clear h (fun M' a q => (And.intro a q))) ?_
  intro M1_2 f1 q1
  obtain ⟨c1, h1⟩ := q1
  refine fmX4_add (cmX4_add h1 (fun M' a q => (And.intro a q))) ?_
  intro M2_4 f3 q3
  obtain ⟨c3, h3⟩ := q3
  exact hQ _ (by first | exact True.intro | omega) h3
theorem cmX11_arrives_L26 {p1 : Int} {g0 g1 : Int} {X65 X65' : Int → Mem → Prop} {Q Q' : Int → Mem → Prop} (hQ : ∀ (w0 : Int) (M' : Mem), (False) → Q w0 M' → Q' w0 M') (hX65 : ∀ (w0 : Int) (M' : Mem), (0 ≤ w0 ∧ M' 167 1 = g0) → X65 w0 M' → X65' w0 M') : ∀ (n : Nat) (v2 : Int) (M : Mem), (0 ≤ v2 ∧ M 167 1 = g0) → qX11_arrives_L26 p1 X65 Q n v2 M → qX11_arrives_L26 p1 X65' Q' n v2 M := by
  intro n
  induction n with
  | zero => intro v2 M _ h; exact h.elim
  | succ n ih =>
    intro v2 M hI h
    rw [qX11_arrives_L26] at h
    rw [qX11_arrives_L26]
    obtain ⟨v1, h1⟩ := h
    refine ⟨v1, ?_⟩
    obtain ⟨h2, h3⟩ := h1
    refine ⟨?_, ?_⟩
    · intro g4
      have h5 := h2 g4
      exact hX65 _ _ (by first | exact True.intro | exact hI | omega) h5
    · intro g6
      have h7 := h3 g6
      refine fmX6_hasArrived h7 ?_
      intro x6_9 M6_10 f8 h8
      have c11 : M6_10 167 1 = M 167 1 := f8 167 1 (by first | omega | exact fun h => h)
      intro g12 g13
      have h14 := h8 g12 g13
      clear g13
      obtain ⟨h15, h16⟩ := h14
      refine ⟨?_, ?_⟩
      · intro g17
        have h18 := h15 g17
        exact hX65 _ _ (by first | exact True.intro | exact hI | (rw [c11]; exact hI) | omega) h18
      · intro g19
        have h20 := h16 g19
        obtain ⟨v21, h21⟩ := h20
        refine ⟨v21, ?_⟩
        have w21 : (M6_10 155 16).toNat = 187 ∨ (M6_10 155 16).toNat = 192 := v21
        refine fmX10_advance h21 ?_
        intro M9_23 f22 h22
        have c24 : M9_23 167 1 = M6_10 167 1 := f22 167 1 (by first | omega | exact fun h => h)
        exact ih _ _ (by first | exact True.intro | exact hI | (rw [(c24.trans c11)]; exact hI) | omega) h22
theorem cmX11_arrives {p1 : Int} {M : Mem} {Q Q' : Int → Mem → Prop} (h : qX11_arrives p1 M Q) (hQ : ∀ (w0 : Int) (M' : Mem), ((0 ≤ w0 → M' 167 1 = 1) ∧ (w0 < 0 → M' 167 1 = M 167 1)) → Q w0 M' → Q' w0 M') : qX11_arrives p1 M Q' := by
  unfold qX11_arrives at h ⊢
  refine fmX6_isHearse h ?_
  intro x1_2 M1_3 f1 h1
  have c4 : M1_3 167 1 = M 167 1 := f1 167 1 (by first | omega | exact fun h => h)
  intro g5 g6
  have h7 := h1 g5 g6
  clear g6
  obtain ⟨h8, h9⟩ := h7
  refine ⟨?_, ?_⟩
  · intro g10
    have h11 := h8 g10
    refine fmX6_copyFrom h11 ?_
    intro M3_13 f12 h12
    have c14 : M3_13 167 1 = M1_3 167 1 := f12 167 1 (by first | omega | exact fun h => h)
    obtain ⟨n15, h15⟩ := h12
    refine ⟨n15, ?_⟩
    refine cmX11_arrives_L26 (g0 := M3_13 167 1) (g1 := 0) ?_ ?_ _ _ _ (by first | exact True.intro | omega) h15
    · exact fun _ _ q _ => q.elim
    · intro v2_19 M_20 c18 h18
      unfold qX11_arrives_J65 at h18 ⊢
      refine fmX6_hasArrived h18 ?_
      intro x11_22 M11_23 f21 h21
      have c24 : M11_23 167 1 = M_20 167 1 := f21 167 1 (by first | omega | exact fun h => h)
      intro g25 g26
      have h27 := h21 g25 g26
      clear g26
      obtain ⟨h28, h29⟩ := h27
      refine ⟨?_, ?_⟩
      · intro g30
        have h31 := h28 g30
        obtain ⟨v32, h32⟩ := h31
        refine ⟨v32, ?_⟩
        obtain ⟨v33, h33⟩ := h32
        refine ⟨v33, ?_⟩
        intro x15_34 g35 g36
        have h34 := h33 x15_34 g35 g36
        refine fmX4_tellOne (cmX4_tellOne h34 (fun M' a q => (And.intro a q))) ?_
        intro M16_38 f37 q37
        obtain ⟨c37, h37⟩ := q37
        obtain ⟨v39, h39⟩ := h37
        refine ⟨v39, ?_⟩
        exact hQ _ _ (by first | exact True.intro | exact c18 | omega) h39
      · intro g40
        have h41 := h29 g40
        exact hQ _ _ (by first | exact True.intro | exact c18 | (rw [c24]; exact c18) | omega) h41
  · intro g42
    have h43 := h9 g42
    exact hQ _ _ (by first | exact True.intro | omega) h43
theorem cmX11_jam_L44 {p1 : Int} {g0 g1 : Int} {X84 X84' : Int → Mem → Prop} {Q Q' : Int → Mem → Prop} (hQ : ∀ (w0 : Int) (M' : Mem), (False) → Q w0 M' → Q' w0 M') (hX84 : ∀ (w0 : Int) (M' : Mem), (M' 167 1 = g0) → X84 w0 M' → X84' w0 M') : ∀ (n : Nat) (v2 v3 : Int) (M : Mem), (M 167 1 = g0) → qX11_jam_L44 p1 X84 Q n v2 v3 M → qX11_jam_L44 p1 X84' Q' n v2 v3 M := by
  intro n
  induction n with
  | zero => intro v2 v3 M _ h; exact h.elim
  | succ n ih =>
    intro v2 v3 M hI h
    rw [qX11_jam_L44] at h
    rw [qX11_jam_L44]
    intro x6_1 g2 g3
    have h1 := h x6_1 g2 g3
    obtain ⟨v4, h4⟩ := h1
    refine ⟨v4, ?_⟩
    obtain ⟨h5, h6⟩ := h4
    refine ⟨?_, ?_⟩
    · intro g7
      have h8 := h5 g7
      exact hX84 _ _ (by first | exact True.intro | exact hI | omega) h8
    · intro g9
      have h10 := h6 g9
      obtain ⟨v11, h11⟩ := h10
      refine ⟨v11, ?_⟩
      obtain ⟨v12, h12⟩ := h11
      refine ⟨v12, ?_⟩
      intro x11_13 g14 g15
      have h13 := h12 x11_13 g14 g15
      obtain ⟨v16, h16⟩ := h13
      refine ⟨v16, ?_⟩
      obtain ⟨v17, h17⟩ := h16
      refine ⟨v17, ?_⟩
      intro x14_18 g19 g20
      have h18 := h17 x14_18 g19 g20
      obtain ⟨h21, h22⟩ := h18
      refine ⟨?_, ?_⟩
      · intro g23
        have h24 := h21 g23
        exact ih _ _ _ (by first | exact True.intro | exact hI | omega) h24
      · intro g25
        have h26 := h22 g25
        exact ih _ _ _ (by first | exact True.intro | exact hI | omega) h26
theorem cmX11_jam {p1 : Int} {M : Mem} {Q Q' : Int → Mem → Prop} (h : qX11_jam p1 M Q) (hQ : ∀ (w0 : Int) (M' : Mem), (((1 ≤ p1 ∧ p1 ≤ 60) → M' 167 1 = 2) ∧ (¬ (1 ≤ p1 ∧ p1 ≤ 60) → M' 167 1 = M 167 1)) → Q w0 M' → Q' w0 M') : qX11_jam p1 M Q' := by
  unfold qX11_jam at h ⊢
  obtain ⟨h1, h2⟩ := h
  refine ⟨?_, ?_⟩
  · intro g3
    have h4 := h1 g3
    exact hQ _ _ (by first | exact True.intro | omega) h4
  · intro g5
    have h6 := h2 g5
    obtain ⟨h7, h8⟩ := h6
    refine ⟨?_, ?_⟩
    · intro g9
      have h10 := h7 g9
      refine fmX6_copyFrom h10 ?_
      intro M3_12 f11 h11
      have c13 : M3_12 167 1 = M 167 1 := f11 167 1 (by first | omega | exact fun h => h)
      obtain ⟨v14, h14⟩ := h11
      refine ⟨v14, ?_⟩
      have w14 : (M3_12 155 16).toNat = 187 ∨ (M3_12 155 16).toNat = 192 := v14
      refine fmX10_walk h14 ?_
      intro M5_16 f15 h15
      have c17 : M5_16 167 1 = M3_12 167 1 := f15 167 1 (by first | omega | exact fun h => h)
      obtain ⟨n18, h18⟩ := h15
      refine ⟨n18, ?_⟩
      refine cmX11_jam_L44 (g0 := M5_16 167 1) (g1 := 0) ?_ ?_ _ _ _ _ (by first | exact True.intro | omega) h18
      · exact fun _ _ q _ => q.elim
      · intro v2_22 M_23 c21 h21
        obtain ⟨v24, h24⟩ := h21
        refine ⟨v24, ?_⟩
        obtain ⟨v25, h25⟩ := h24
        refine ⟨v25, ?_⟩
        intro x19_26 g27 g28
        have h26 := h25 x19_26 g27 g28
        intro x20_29 g30 g31
        have h29 := h26 x20_29 g30 g31
        refine fmX4_tellTwo (cmX4_tellTwo h29 (fun M' a q => (And.intro a q))) ?_
        intro M21_33 f32 q32
        obtain ⟨c32, h32⟩ := q32
        obtain ⟨v34, h34⟩ := h32
        refine ⟨v34, ?_⟩
        exact hQ _ _ (by first | exact True.intro | exact c21 | omega) h34
    · intro g35
      have h36 := h8 g35
      exact hQ _ _ (by first | exact True.intro | omega) h36
theorem cmX11_passes_L88 {p1 : Int} {p2 : Int} {g0 g1 : Int} {X121 X121' : Int → Mem → Prop} {Q Q' : Int → Mem → Prop} (hQ : ∀ (w0 : Int) (M' : Mem), (w0 < 0 ∧ M' 167 1 = g0) → Q w0 M' → Q' w0 M') (hX121 : ∀ (w0 : Int) (M' : Mem), (0 ≤ w0 ∧ M' 167 1 = g0) → X121 w0 M' → X121' w0 M') : ∀ (n : Nat) (v3 : Int) (M : Mem), (0 ≤ v3 ∧ M 167 1 = g0) → qX11_passes_L88 p1 p2 X121 Q n v3 M → qX11_passes_L88 p1 p2 X121' Q' n v3 M := by
  intro n
  induction n with
  | zero => intro v3 M _ h; exact h.elim
  | succ n ih =>
    intro v3 M hI h
    rw [qX11_passes_L88] at h
    rw [qX11_passes_L88]
    obtain ⟨v1, h1⟩ := h
    refine ⟨v1, ?_⟩
    obtain ⟨h2, h3⟩ := h1
    refine ⟨?_, ?_⟩
    · intro g4
      have h5 := h2 g4
      exact hQ _ _ (by first | exact True.intro | exact hI | omega) h5
    · intro g6
      have h7 := h3 g6
      obtain ⟨v8, h8⟩ := h7
      refine ⟨v8, ?_⟩
      have w8 : (M 155 16).toNat = 187 ∨ (M 155 16).toNat = 192 := v8
      refine fmX10_advance h8 ?_
      intro M21_10 f9 h9
      have c11 : M21_10 167 1 = M 167 1 := f9 167 1 (by first | omega | exact fun h => h)
      refine fmX6_isAheadOf h9 ?_
      intro x22_13 M22_14 f12 h12
      have c15 : M22_14 167 1 = M21_10 167 1 := f12 167 1 (by first | omega | exact fun h => h)
      intro g16 g17
      have h18 := h12 g16 g17
      clear g17
      obtain ⟨h19, h20⟩ := h18
      refine ⟨?_, ?_⟩
      · intro g21
        have h22 := h19 g21
        exact ih _ _ (by first | exact True.intro | exact hI | (rw [(c15.trans c11)]; exact hI) | omega) h22
      · intro g23
        have h24 := h20 g23
        exact hX121 _ _ (by first | exact True.intro | exact hI | (rw [(c15.trans c11)]; exact hI) | omega) h24
theorem cmX11_passes {p1 : Int} {p2 : Int} {M : Mem} {Q Q' : Int → Mem → Prop} (h : qX11_passes p1 p2 M Q) (hQ : ∀ (w0 : Int) (M' : Mem), ((0 ≤ w0 → M' 167 1 = 1) ∧ (w0 < 0 → M' 167 1 = M 167 1)) → Q w0 M' → Q' w0 M') : qX11_passes p1 p2 M Q' := by
  unfold qX11_passes at h ⊢
  refine fmX6_isHearse h ?_
  intro x1_2 M1_3 f1 h1
  have c4 : M1_3 167 1 = M 167 1 := f1 167 1 (by first | omega | exact fun h => h)
  intro g5 g6
  have h7 := h1 g5 g6
  clear g6
  obtain ⟨h8, h9⟩ := h7
  refine ⟨?_, ?_⟩
  · intro g10
    have h11 := h8 g10
    exact hQ _ _ (by first | exact True.intro | omega) h11
  · intro g12
    have h13 := h9 g12
    refine fmX6_isHearse h13 ?_
    intro x3_15 M3_16 f14 h14
    have c17 : M3_16 167 1 = M1_3 167 1 := f14 167 1 (by first | omega | exact fun h => h)
    intro g18 g19
    have h20 := h14 g18 g19
    clear g19
    obtain ⟨h21, h22⟩ := h20
    refine ⟨?_, ?_⟩
    · intro g23
      have h24 := h21 g23
      exact hQ _ _ (by first | exact True.intro | omega) h24
    · intro g25
      have h26 := h22 g25
      obtain ⟨h27, h28⟩ := h26
      refine ⟨?_, ?_⟩
      · intro g29
        have h30 := h27 g29
        refine fmX6_hasArrived h30 ?_
        intro x6_32 M6_33 f31 h31
        have c34 : M6_33 167 1 = M3_16 167 1 := f31 167 1 (by first | omega | exact fun h => h)
        intro g35 g36
        have h37 := h31 g35 g36
        clear g36
        obtain ⟨h38, h39⟩ := h37
        refine ⟨?_, ?_⟩
        · intro g40
          have h41 := h38 g40
          exact hQ _ _ (by first | exact True.intro | omega) h41
        · intro g42
          have h43 := h39 g42
          refine fmX6_hasArrived h43 ?_
          intro x8_45 M8_46 f44 h44
          have c47 : M8_46 167 1 = M6_33 167 1 := f44 167 1 (by first | omega | exact fun h => h)
          intro g48 g49
          have h50 := h44 g48 g49
          clear g49
          obtain ⟨h51, h52⟩ := h50
          refine ⟨?_, ?_⟩
          · intro g53
            have h54 := h51 g53
            exact hQ _ _ (by first | exact True.intro | omega) h54
          · intro g55
            have h56 := h52 g55
            obtain ⟨v57, h57⟩ := h56
            refine ⟨v57, ?_⟩
            obtain ⟨v58, h58⟩ := h57
            refine ⟨v58, ?_⟩
            intro x12_59 g60 g61
            have h59 := h58 x12_59 g60 g61
            obtain ⟨v62, h62⟩ := h59
            refine ⟨v62, ?_⟩
            obtain ⟨v63, h63⟩ := h62
            refine ⟨v63, ?_⟩
            intro x15_64 g65 g66
            have h64 := h63 x15_64 g65 g66
            obtain ⟨h67, h68⟩ := h64
            refine ⟨?_, ?_⟩
            · intro g69
              have h70 := h67 g69
              refine fmX6_copyFrom h70 ?_
              intro M17_72 f71 h71
              have c73 : M17_72 167 1 = M8_46 167 1 := f71 167 1 (by first | omega | exact fun h => h)
              obtain ⟨n74, h74⟩ := h71
              refine ⟨n74, ?_⟩
              refine cmX11_passes_L88 (g0 := M17_72 167 1) (g1 := 0) ?_ ?_ _ _ _ (by first | exact True.intro | omega) h74
              · exact fun z75_0 M_75 c75 h75 => hQ _ M_75 (by first | exact True.intro | exact c75 | omega) h75
              · intro v3_78 M_79 c77 h77
                obtain ⟨v80, h80⟩ := h77
                refine ⟨v80, ?_⟩
                obtain ⟨v81, h81⟩ := h80
                refine ⟨v81, ?_⟩
                intro x27_82 g83 g84
                have h82 := h81 x27_82 g83 g84
                refine fmX4_tellOne (cmX4_tellOne h82 (fun M' a q => (And.intro a q))) ?_
                intro M28_86 f85 q85
                obtain ⟨c85, h85⟩ := q85
                obtain ⟨v87, h87⟩ := h85
                refine ⟨v87, ?_⟩
                exact hQ _ _ (by first | exact True.intro | exact c77 | omega) h87
            · intro g88
              have h89 := h68 g88
              exact hQ _ _ (by first | exact True.intro | omega) h89
      · intro g90
        have h91 := h28 g90
        exact hQ _ _ (by first | exact True.intro | omega) h91
theorem cmX11_ends_L33 {p1 : Int} {g0 g1 : Int} {X72 X72' : Int → Mem → Prop} {Q Q' : Int → Mem → Prop} (hQ : ∀ (w0 : Int) (M' : Mem), (False) → Q w0 M' → Q' w0 M') (hX72 : ∀ (w0 : Int) (M' : Mem), (M' 167 1 = g0) → X72 w0 M' → X72' w0 M') : ∀ (n : Nat) (v2 : Int) (M : Mem), (M 167 1 = g0) → qX11_ends_L33 p1 X72 Q n v2 M → qX11_ends_L33 p1 X72' Q' n v2 M := by
  intro n
  induction n with
  | zero => intro v2 M _ h; exact h.elim
  | succ n ih =>
    intro v2 M hI h
    rw [qX11_ends_L33] at h
    rw [qX11_ends_L33]
    obtain ⟨v1, h1⟩ := h
    refine ⟨v1, ?_⟩
    obtain ⟨h2, h3⟩ := h1
    refine ⟨?_, ?_⟩
    · intro g4
      have h5 := h2 g4
      exact hX72 _ _ (by first | exact True.intro | exact hI | omega) h5
    · intro g6
      have h7 := h3 g6
      refine cmX6_hasEnded h7 ?_
      intro x7_9 c8 h8
      have c8 : x7_9 = 0 ∨ M 14 p1 ≠ -1 := c8
      intro g11 g12
      have h13 := h8 g11 g12
      clear g12
      obtain ⟨h14, h15⟩ := h13
      refine ⟨?_, ?_⟩
      · intro g16
        have h17 := h14 g16
        exact hX72 _ _ (by first | exact True.intro | exact hI | omega) h17
      · intro g18
        have h19 := h15 g18
        obtain ⟨v20, h20⟩ := h19
        refine ⟨v20, ?_⟩
        have w20 : (M 155 16).toNat = 187 ∨ (M 155 16).toNat = 192 := v20
        refine fmX10_advance h20 ?_
        intro M10_22 f21 h21
        have c23 : M10_22 167 1 = M 167 1 := f21 167 1 (by first | omega | exact fun h => h)
        exact ih _ _ (by first | exact True.intro | exact hI | (rw [c23]; exact hI) | omega) h21
theorem cmX11_ends {p1 : Int} {M : Mem} {Q Q' : Int → Mem → Prop} (h : qX11_ends p1 M Q) (hQ : ∀ (w0 : Int) (M' : Mem), ((M' 167 1 = 2 ∧ w0 = M' 14 p1 ∧ (w0 < -1 ∨ 0 ≤ w0)) ∨ (M' 167 1 = M 167 1 ∧ w0 < 0)) → Q w0 M' → Q' w0 M') : qX11_ends p1 M Q' := by
  unfold qX11_ends at h ⊢
  refine fmX6_isMourner h ?_
  intro x1_2 M1_3 f1 h1
  have c4 : M1_3 167 1 = M 167 1 := f1 167 1 (by first | omega | exact fun h => h)
  have c5 : M1_3 14 p1 = M 14 p1 := f1 14 p1 (by first | omega | exact fun h => h)
  intro g6 g7
  have h8 := h1 g6 g7
  clear g7
  obtain ⟨h9, h10⟩ := h8
  refine ⟨?_, ?_⟩
  · intro g11
    have h12 := h9 g11
    refine fmX6_copyFrom h12 ?_
    intro M3_14 f13 h13
    have c15 : M3_14 167 1 = M1_3 167 1 := f13 167 1 (by first | omega | exact fun h => h)
    refine fmX10_forgetTallies h13 ?_
    intro M4_17 f16 h16
    have c18 : M4_17 167 1 = M3_14 167 1 := f16 167 1 (by first | omega | exact fun h => h)
    have c19 : M4_17 14 p1 = M3_14 14 p1 := f16 14 p1 (by first | omega | exact fun h => h)
    obtain ⟨n20, h20⟩ := h16
    refine ⟨n20, ?_⟩
    refine cmX11_ends_L33 (g0 := M4_17 167 1) (g1 := M4_17 14 p1) ?_ ?_ _ _ _ (by first | exact True.intro | omega) h20
    · exact fun _ _ q _ => q.elim
    · intro v2_24 M_25 c23 h23
      unfold qX11_ends_J72 at h23 ⊢
      refine cmX6_hasEnded h23 ?_
      intro x12_27 c26 h26
      have c26 : x12_27 = 0 ∨ M_25 14 p1 ≠ -1 := c26
      intro g29 g30
      have h31 := h26 g29 g30
      clear g30
      obtain ⟨h32, h33⟩ := h31
      refine ⟨?_, ?_⟩
      · intro g34
        have h35 := h32 g34
        obtain ⟨v36, h36⟩ := h35
        refine ⟨v36, ?_⟩
        obtain ⟨v37, h37⟩ := h36
        refine ⟨v37, ?_⟩
        obtain ⟨v38, h38⟩ := h37
        refine ⟨v38, ?_⟩
        intro x17_39 g40 g41
        have h39 := h38 x17_39 g40 g41
        refine fmX4_tellTwo (cmX4_tellTwo h39 (fun M' a q => (And.intro a q))) ?_
        intro M18_43 f42 q42
        obtain ⟨c42, h42⟩ := q42
        have c44 : M18_43 14 p1 = M_25 14 p1 := f42 14 p1 (by first | omega | exact fun h => h)
        intro x19_45 g46 g47
        have h45 := h42 x19_45 g46 g47
        exact hQ _ _ (by first | exact True.intro | exact c23 | omega) h45
      · intro g48
        have h49 := h33 g48
        exact hQ _ _ (by first | exact True.intro | exact c23 | omega) h49
  · intro g50
    have h51 := h10 g50
    exact hQ _ _ (by first | exact True.intro | omega) h51
theorem cmX11_right  {M : Mem} {Q Q' : Int → Mem → Prop} (h : qX11_right M Q) (hQ : ∀ (w0 : Int) (M' : Mem), (M' 167 1 = 2) → Q w0 M' → Q' w0 M') : qX11_right M Q' := by
  unfold qX11_right at h ⊢
  refine fmX6_copyFrom h ?_
  intro M1_2 f1 h1
  have c3 : M1_2 167 1 = M 167 1 := f1 167 1 (by first | omega | exact fun h => h)
  obtain ⟨v4, h4⟩ := h1
  refine ⟨v4, ?_⟩
  have w4 : (M1_2 155 16).toNat = 187 ∨ (M1_2 155 16).toNat = 192 := v4
  refine fmX11_rightOnesOfTrial h4 ?_
  intro x3_6 M3_7 f5 h5
  have c8 : M3_7 167 1 = M1_2 167 1 := f5 167 1 (by first | omega | exact fun h => h)
  intro g9
  have h10 := h5 g9
  refine fmX6_wrongBits h10 ?_
  intro x4_12 M4_13 f11 h11
  have c14 : M4_13 167 1 = M3_7 167 1 := f11 167 1 (by first | omega | exact fun h => h)
  intro g15
  have h16 := h11 g15
  refine fmX4_tellTwo (cmX4_tellTwo h16 (fun M' a q => (And.intro a q))) ?_
  intro M5_18 f17 q17
  obtain ⟨c17, h17⟩ := q17
  refine cmbits_x h17 ?_
  intro x6_20 c19 h19
  intro g22
  have h23 := h19 g22
  exact hQ _ _ (by first | exact True.intro | omega) h23
theorem cmX11_order_L21  {g0 g1 : Int} {X111 X111' : Int → Mem → Prop} {Q Q' : Int → Mem → Prop} (hQ : ∀ (w0 : Int) (M' : Mem), (False) → Q w0 M' → Q' w0 M') (hX111 : ∀ (w0 : Int) (M' : Mem), (True) → X111 w0 M' → X111' w0 M') : ∀ (n : Nat) (v1 v2 v3 : Int) (M : Mem), (True) → qX11_order_L21 X111 Q n v1 v2 v3 M → qX11_order_L21 X111' Q' n v1 v2 v3 M := by
  intro n
  induction n with
  | zero => intro v1 v2 v3 M _ h; exact h.elim
  | succ n ih =>
    intro v1 v2 v3 M hI h
    rw [qX11_order_L21] at h
    rw [qX11_order_L21]
    obtain ⟨v1, h1⟩ := h
    refine ⟨v1, ?_⟩
    obtain ⟨h2, h3⟩ := h1
    refine ⟨?_, ?_⟩
    · intro g4
      have h5 := h2 g4
      exact hX111 _ _ (by first | exact True.intro | exact hI | omega) h5
    · intro g6
      have h7 := h3 g6
      obtain ⟨v8, h8⟩ := h7
      refine ⟨v8, ?_⟩
      obtain ⟨h9, h10⟩ := h8
      refine ⟨?_, ?_⟩
      · intro g11
        have h12 := h9 g11
        exact hX111 _ _ (by first | exact True.intro | exact hI | omega) h12
      · intro g13
        have h14 := h10 g13
        intro x6_15 g16 g17
        have h15 := h14 x6_15 g16 g17
        obtain ⟨v18, h18⟩ := h15
        refine ⟨v18, ?_⟩
        obtain ⟨h19, h20⟩ := h18
        refine ⟨?_, ?_⟩
        · intro g21
          have h22 := h19 g21
          exact hX111 _ _ (by first | exact True.intro | exact hI | omega) h22
        · intro g23
          have h24 := h20 g23
          refine fmX6_copyFrom h24 ?_
          intro M9_26 f25 h25
          have c27 : M9_26 167 1 = M 167 1 := f25 167 1 (by first | omega | exact fun h => h)
          have c28 : M9_26 179 2 = M 179 2 := f25 179 2 (by first | omega | exact fun h => h)
          refine fmX6_placeHearses h25 ?_
          intro M10_30 f29 h29
          have c31 : M10_30 167 1 = M9_26 167 1 := f29 167 1 (by first | omega | exact fun h => h)
          have c32 : M10_30 179 2 = M9_26 179 2 := f29 179 2 (by first | omega | exact fun h => h)
          obtain ⟨v33, h33⟩ := h29
          refine ⟨v33, ?_⟩
          have w33 : (M10_30 155 16).toNat = 187 ∨ (M10_30 155 16).toNat = 192 := v33
          refine fmX11_rightOnesOfTrial h33 ?_
          intro x12_35 M12_36 f34 h34
          have c37 : M12_36 167 1 = M10_30 167 1 := f34 167 1 (by first | omega | exact fun h => h)
          have c38 : M12_36 179 2 = M10_30 179 2 := f34 179 2 (by first | omega | exact fun h => h)
          intro g39
          have h40 := h34 g39
          refine cmbits_x h40 ?_
          intro x13_42 c41 h41
          intro g44
          have h45 := h41 g44
          obtain ⟨h46, h47⟩ := h45
          refine ⟨?_, ?_⟩
          · intro g48
            have h49 := h46 g48
            unfold qX11_order_J97 at h49 ⊢
            refine fmX3_toNext h49 ?_
            intro x15_51 M15_52 f50 h50
            have c53 : M15_52 167 1 = M12_36 167 1 := f50 167 1 (by first | omega | exact fun h => h)
            have c54 : M15_52 179 2 = M12_36 179 2 := f50 179 2 (by first | omega | exact fun h => h)
            intro g55 g56
            have h57 := h50 g55 g56
            clear g56
            exact ih _ _ _ _ (by first | exact True.intro | exact hI | (rw [(c53.trans (c37.trans (c31.trans c27)))]; exact hI) | omega) h57
          · intro g58
            have h59 := h47 g58
            refine fmX3_markBest h59 ?_
            intro M16_61 f60 h60
            have c62 : M16_61 167 1 = M12_36 167 1 := f60 167 1 (by first | omega | exact fun h => h)
            have c63 : M16_61 179 2 = M12_36 179 2 := f60 179 2 (by first | omega | exact fun h => h)
            unfold qX11_order_J97 at h60 ⊢
            refine fmX3_toNext h60 ?_
            intro x15_65 M15_66 f64 h64
            have c67 : M15_66 167 1 = M16_61 167 1 := f64 167 1 (by first | omega | exact fun h => h)
            have c68 : M15_66 179 2 = M16_61 179 2 := f64 179 2 (by first | omega | exact fun h => h)
            intro g69 g70
            have h71 := h64 g69 g70
            clear g70
            exact ih _ _ _ _ (by first | exact True.intro | exact hI | (rw [(c67.trans (c62.trans (c37.trans (c31.trans c27))))]; exact hI) | omega) h71
theorem cmX11_order_L120  {g0 g1 : Int} {Q Q' : Int → Mem → Prop} (hQ : ∀ (w0 : Int) (M' : Mem), (0 ≤ M' 179 2 → M' 179 2 ≤ 8 → M' 167 1 = M' 179 2) → Q w0 M' → Q' w0 M') : ∀ (n : Nat) (v1 v3 : Int) (M : Mem), (0 ≤ v3 ∧ (0 ≤ M 179 2 → M 179 2 ≤ 8 → M 167 1 = v3 ∧ v3 ≤ M 179 2)) → qX11_order_L120 Q n v1 v3 M → qX11_order_L120 Q' n v1 v3 M := by
  intro n
  induction n with
  | zero => intro v1 v3 M _ h; exact h.elim
  | succ n ih =>
    intro v1 v3 M hI h
    rw [qX11_order_L120] at h
    rw [qX11_order_L120]
    intro x19_1 g2 g3
    have h1 := h x19_1 g2 g3
    obtain ⟨v4, h4⟩ := h1
    refine ⟨v4, ?_⟩
    obtain ⟨h5, h6⟩ := h4
    refine ⟨?_, ?_⟩
    · intro g7
      have h8 := h5 g7
      obtain ⟨v9, h9⟩ := h8
      refine ⟨v9, ?_⟩
      exact hQ _ _ (by first | exact True.intro | exact hI | omega) h9
    · intro g10
      have h11 := h6 g10
      obtain ⟨v12, h12⟩ := h11
      refine ⟨v12, ?_⟩
      obtain ⟨v13, h13⟩ := h12
      refine ⟨v13, ?_⟩
      intro x25_14 g15 g16
      have h14 := h13 x25_14 g15 g16
      refine fmX4_add (cmX4_add h14 (fun M' a q => (And.intro a q))) ?_
      intro M26_18 f17 q17
      obtain ⟨c17, h17⟩ := q17
      have c19 : M26_18 179 2 = M 179 2 := f17 179 2 (by first | omega | exact fun h => h)
      exact ih _ _ _ (by first | exact True.intro | exact hI | omega) h17
theorem cmX11_order  {M : Mem} {Q Q' : Int → Mem → Prop} (h : qX11_order M Q) (hQ : ∀ (w0 : Int) (M' : Mem), (0 ≤ M' 179 2 → M' 179 2 ≤ 8 → M' 167 1 = M' 179 2) → Q w0 M' → Q' w0 M') : qX11_order M Q' := by
  unfold qX11_order at h ⊢
  refine fmX3_begin h ?_
  intro M1_2 f1 h1
  have c3 : M1_2 167 1 = M 167 1 := f1 167 1 (by first | omega | exact fun h => h)
  obtain ⟨n4, h4⟩ := h1
  refine ⟨n4, ?_⟩
  refine cmX11_order_L21 (g0 := M1_2 167 1) (g1 := M1_2 179 2) ?_ ?_ _ _ _ _ _ (by first | exact True.intro | omega) h4
  · exact fun _ _ q _ => q.elim
  · intro v1_8 M_9 c7 h7
    unfold qX11_order_J111 at h7 ⊢
    refine fmX4_clear (cmX4_clear h7 (fun M' a q => (And.intro a q))) ?_
    intro M18_11 f10 q10
    obtain ⟨c10, h10⟩ := q10
    have c12 : M18_11 179 2 = M_9 179 2 := f10 179 2 (by first | omega | exact fun h => h)
    obtain ⟨n13, h13⟩ := h10
    refine ⟨n13, ?_⟩
    refine cmX11_order_L120 (g0 := M18_11 167 1) (g1 := M18_11 179 2) ?_ _ _ _ _ (by first | exact True.intro | exact c7 | omega) h13
    · exact fun z14_0 M_14 c14 h14 => hQ _ M_14 (by first | exact True.intro | exact c14 | omega) h14
theorem cmX11_stands_L42 {p1 : Int} {g0 g1 : Int} {X117 X117' : Int → Int → Mem → Prop} {Q Q' : Int → Mem → Prop} (hQ : ∀ (w0 : Int) (M' : Mem), (False) → Q w0 M' → Q' w0 M') (hX117 : ∀ (w0 w1 : Int) (M' : Mem), (0 ≤ w1 ∧ (w1 = 0 ∨ 0 ≤ w0) ∧ M' 167 1 = g0) → X117 w0 w1 M' → X117' w0 w1 M') : ∀ (n : Nat) (v2 v3 v4 : Int) (M : Mem), (0 ≤ v3 ∧ (v3 = 0 ∨ 0 ≤ v2) ∧ M 167 1 = g0) → qX11_stands_L42 p1 X117 Q n v2 v3 v4 M → qX11_stands_L42 p1 X117' Q' n v2 v3 v4 M := by
  intro n
  induction n with
  | zero => intro v2 v3 v4 M _ h; exact h.elim
  | succ n ih =>
    intro v2 v3 v4 M hI h
    rw [qX11_stands_L42] at h
    rw [qX11_stands_L42]
    obtain ⟨v1, h1⟩ := h
    refine ⟨v1, ?_⟩
    obtain ⟨h2, h3⟩ := h1
    refine ⟨?_, ?_⟩
    · intro g4
      have h5 := h2 g4
      exact hX117 _ _ _ (by first | exact True.intro | exact hI | omega) h5
    · intro g6
      have h7 := h3 g6
      refine fmX6_copyFrom h7 ?_
      intro M8_9 f8 h8
      have c10 : M8_9 167 1 = M 167 1 := f8 167 1 (by first | omega | exact fun h => h)
      obtain ⟨v11, h11⟩ := h8
      refine ⟨v11, ?_⟩
      obtain ⟨v12, h12⟩ := h11
      refine ⟨v12, ?_⟩
      intro M11_13 eM11_13
      have h13 := h12 M11_13 eM11_13
      have c14 : M11_13 167 1 = M8_9 167 1 := by rw [eM11_13, up2_n (by omega)]
      intro M12_15 eM12_15
      have h15 := h13 M12_15 eM12_15
      have c16 : M12_15 167 1 = M11_13 167 1 := by rw [eM12_15, up2_n (by omega)]
      obtain ⟨v17, h17⟩ := h15
      refine ⟨v17, ?_⟩
      have w17 : (M12_15 155 16).toNat = 187 ∨ (M12_15 155 16).toNat = 192 := v17
      refine fmX10_toEnd h17 ?_
      intro M14_19 f18 h18
      have c20 : M14_19 167 1 = M12_15 167 1 := f18 167 1 (by first | omega | exact fun h => h)
      refine fmX6_isRight h18 ?_
      intro x15_22 M15_23 f21 h21
      have c24 : M15_23 167 1 = M14_19 167 1 := f21 167 1 (by first | omega | exact fun h => h)
      intro g25 g26
      have h27 := h21 g25 g26
      clear g26
      obtain ⟨h28, h29⟩ := h27
      refine ⟨?_, ?_⟩
      · intro g30
        have h31 := h28 g30
        exact ih _ _ _ _ (by first | exact True.intro | exact hI | (rw [(c24.trans (c20.trans (c16.trans (c14.trans c10))))]; exact hI) | omega) h31
      · intro g32
        have h33 := h29 g32
        exact ih _ _ _ _ (by first | exact True.intro | exact hI | (rw [(c24.trans (c20.trans (c16.trans (c14.trans c10))))]; exact hI) | omega) h33
theorem cmX11_stands {p1 : Int} {M : Mem} {Q Q' : Int → Mem → Prop} (h : qX11_stands p1 M Q) (hQ : ∀ (w0 : Int) (M' : Mem), ((0 ≤ w0 → M' 167 1 = 1) ∧ (w0 < 0 → M' 167 1 = M 167 1)) → Q w0 M' → Q' w0 M') : qX11_stands p1 M Q' := by
  unfold qX11_stands at h ⊢
  refine fmX6_isMourner h ?_
  intro x1_2 M1_3 f1 h1
  have c4 : M1_3 167 1 = M 167 1 := f1 167 1 (by first | omega | exact fun h => h)
  intro g5 g6
  have h7 := h1 g5 g6
  clear g6
  obtain ⟨h8, h9⟩ := h7
  refine ⟨?_, ?_⟩
  · intro g10
    have h11 := h8 g10
    refine fmX6_hasEnded h11 ?_
    intro x3_13 M3_14 f12 h12
    have c15 : M3_14 167 1 = M1_3 167 1 := f12 167 1 (by first | omega | exact fun h => h)
    intro g16 g17
    have h18 := h12 g16 g17
    clear g17
    obtain ⟨h19, h20⟩ := h18
    refine ⟨?_, ?_⟩
    · intro g21
      have h22 := h19 g21
      refine fmX8_gate h22 ?_
      intro x5_24 M5_25 f23 h23
      have c26 : M5_25 167 1 = M3_14 167 1 := f23 167 1 (by first | omega | exact fun h => h)
      intro g27
      have h28 := h23 g27
      obtain ⟨n29, h29⟩ := h28
      refine ⟨n29, ?_⟩
      refine cmX11_stands_L42 (g0 := M5_25 167 1) (g1 := 0) ?_ ?_ _ _ _ _ _ (by first | exact True.intro | omega) h29
      · exact fun _ _ q _ => q.elim
      · intro v2_33 v3_34 M_35 c32 h32
        obtain ⟨v36, h36⟩ := h32
        refine ⟨v36, ?_⟩
        obtain ⟨h37, h38⟩ := h36
        refine ⟨?_, ?_⟩
        · intro g39
          have h40 := h37 g39
          refine fmX4_tellOne (cmX4_tellOne h40 (fun M' a q => (And.intro a q))) ?_
          intro M20_42 f41 q41
          obtain ⟨c41, h41⟩ := q41
          obtain ⟨v43, h43⟩ := h41
          refine ⟨v43, ?_⟩
          exact hQ _ _ (by first | exact True.intro | exact c32 | omega) h43
        · intro g44
          have h45 := h38 g44
          exact hQ _ _ (by first | exact True.intro | exact c32 | omega) h45
    · intro g46
      have h47 := h20 g46
      exact hQ _ _ (by first | exact True.intro | omega) h47
  · intro g48
    have h49 := h9 g48
    exact hQ _ _ (by first | exact True.intro | omega) h49
theorem cmX11_when_L31 {p1 : Int} {g0 g1 : Int} {X119 X119' : Int → Int → Mem → Prop} {Q Q' : Int → Mem → Prop} (hQ : ∀ (w0 : Int) (M' : Mem), (False) → Q w0 M' → Q' w0 M') (hX119 : ∀ (w0 w1 : Int) (M' : Mem), ((w0 = -1 ∨ 0 ≤ w0) ∧ M' 167 1 = g0) → X119 w0 w1 M' → X119' w0 w1 M') : ∀ (n : Nat) (v2 v3 v4 : Int) (M : Mem), (0 ≤ v4 ∧ (v2 = -1 ∨ 0 ≤ v2) ∧ M 167 1 = g0) → qX11_when_L31 p1 X119 Q n v2 v3 v4 M → qX11_when_L31 p1 X119' Q' n v2 v3 v4 M := by
  intro n
  induction n with
  | zero => intro v2 v3 v4 M _ h; exact h.elim
  | succ n ih =>
    intro v2 v3 v4 M hI h
    rw [qX11_when_L31] at h
    rw [qX11_when_L31]
    obtain ⟨v1, h1⟩ := h
    refine ⟨v1, ?_⟩
    obtain ⟨h2, h3⟩ := h1
    refine ⟨?_, ?_⟩
    · intro g4
      have h5 := h2 g4
      exact hX119 _ _ _ (by first | exact True.intro | exact hI | omega) h5
    · intro g6
      have h7 := h3 g6
      refine fmX6_copyFrom h7 ?_
      intro M6_9 f8 h8
      have c10 : M6_9 167 1 = M 167 1 := f8 167 1 (by first | omega | exact fun h => h)
      refine fmX11_isTurned h8 ?_
      intro x7_12 M7_13 f11 h11
      have c14 : M7_13 167 1 = M6_9 167 1 := f11 167 1 (by first | omega | exact fun h => h)
      intro g15 g16
      have h17 := h11 g15 g16
      clear g16
      obtain ⟨h18, h19⟩ := h17
      refine ⟨?_, ?_⟩
      · intro g20
        have h21 := h18 g20
        unfold qX11_when_J98 at h21 ⊢
        obtain ⟨v22, h22⟩ := h21
        refine ⟨v22, ?_⟩
        have w22 : (M7_13 155 16).toNat = 187 ∨ (M7_13 155 16).toNat = 192 := v22
        refine fmX10_advance h22 ?_
        intro M10_24 f23 h23
        have c25 : M10_24 167 1 = M7_13 167 1 := f23 167 1 (by first | omega | exact fun h => h)
        exact ih _ _ _ _ (by first | exact True.intro | exact hI | (rw [(c25.trans (c14.trans c10))]; exact hI) | omega) h23
      · intro g26
        have h27 := h19 g26
        obtain ⟨v28, h28⟩ := h27
        refine ⟨v28, ?_⟩
        have w28 : (M7_13 155 16).toNat = 187 ∨ (M7_13 155 16).toNat = 192 := v28
        refine fmX10_toEnd h28 ?_
        intro M12_30 f29 h29
        have c31 : M12_30 167 1 = M7_13 167 1 := f29 167 1 (by first | omega | exact fun h => h)
        refine fmX6_isRight h29 ?_
        intro x13_33 M13_34 f32 h32
        have c35 : M13_34 167 1 = M12_30 167 1 := f32 167 1 (by first | omega | exact fun h => h)
        intro g36 g37
        have h38 := h32 g36 g37
        clear g37
        obtain ⟨h39, h40⟩ := h38
        refine ⟨?_, ?_⟩
        · intro g41
          have h42 := h39 g41
          unfold qX11_when_J98 at h42 ⊢
          obtain ⟨v43, h43⟩ := h42
          refine ⟨v43, ?_⟩
          have w43 : (M13_34 155 16).toNat = 187 ∨ (M13_34 155 16).toNat = 192 := v43
          refine fmX10_advance h43 ?_
          intro M10_45 f44 h44
          have c46 : M10_45 167 1 = M13_34 167 1 := f44 167 1 (by first | omega | exact fun h => h)
          exact ih _ _ _ _ (by first | exact True.intro | exact hI | (rw [(c46.trans (c35.trans (c31.trans (c14.trans c10))))]; exact hI) | omega) h44
        · intro g47
          have h48 := h40 g47
          obtain ⟨v49, h49⟩ := h48
          refine ⟨v49, ?_⟩
          obtain ⟨h50, h51⟩ := h49
          refine ⟨?_, ?_⟩
          · intro g52
            have h53 := h50 g52
            unfold qX11_when_J94 at h53 ⊢
            unfold qX11_when_J98 at h53 ⊢
            obtain ⟨v54, h54⟩ := h53
            refine ⟨v54, ?_⟩
            have w54 : (M13_34 155 16).toNat = 187 ∨ (M13_34 155 16).toNat = 192 := v54
            refine fmX10_advance h54 ?_
            intro M10_56 f55 h55
            have c57 : M10_56 167 1 = M13_34 167 1 := f55 167 1 (by first | omega | exact fun h => h)
            exact ih _ _ _ _ (by first | exact True.intro | exact hI | (rw [(c57.trans (c35.trans (c31.trans (c14.trans c10))))]; exact hI) | omega) h55
          · intro g58
            have h59 := h51 g58
            unfold qX11_when_J94 at h59 ⊢
            unfold qX11_when_J98 at h59 ⊢
            obtain ⟨v60, h60⟩ := h59
            refine ⟨v60, ?_⟩
            have w60 : (M13_34 155 16).toNat = 187 ∨ (M13_34 155 16).toNat = 192 := v60
            refine fmX10_advance h60 ?_
            intro M10_62 f61 h61
            have c63 : M10_62 167 1 = M13_34 167 1 := f61 167 1 (by first | omega | exact fun h => h)
            exact ih _ _ _ _ (by first | exact True.intro | exact hI | (rw [(c63.trans (c35.trans (c31.trans (c14.trans c10))))]; exact hI) | omega) h61
theorem cmX11_when {p1 : Int} {M : Mem} {Q Q' : Int → Mem → Prop} (h : qX11_when p1 M Q) (hQ : ∀ (w0 : Int) (M' : Mem), ((0 ≤ w0 → M' 167 1 = 1) ∧ (w0 < 0 → M' 167 1 = M 167 1)) → Q w0 M' → Q' w0 M') : qX11_when p1 M Q' := by
  unfold qX11_when at h ⊢
  refine fmX6_isMourner h ?_
  intro x1_2 M1_3 f1 h1
  have c4 : M1_3 167 1 = M 167 1 := f1 167 1 (by first | omega | exact fun h => h)
  intro g5 g6
  have h7 := h1 g5 g6
  clear g6
  obtain ⟨h8, h9⟩ := h7
  refine ⟨?_, ?_⟩
  · intro g10
    have h11 := h8 g10
    refine fmX6_copyFrom h11 ?_
    intro M3_13 f12 h12
    have c14 : M3_13 167 1 = M1_3 167 1 := f12 167 1 (by first | omega | exact fun h => h)
    obtain ⟨n15, h15⟩ := h12
    refine ⟨n15, ?_⟩
    refine cmX11_when_L31 (g0 := M3_13 167 1) (g1 := 0) ?_ ?_ _ _ _ _ _ (by first | exact True.intro | omega) h15
    · exact fun _ _ q _ => q.elim
    · intro v2_19 v3_20 M_21 c18 h18
      obtain ⟨v22, h22⟩ := h18
      refine ⟨v22, ?_⟩
      obtain ⟨h23, h24⟩ := h22
      refine ⟨?_, ?_⟩
      · intro g25
        have h26 := h23 g25
        obtain ⟨v27, h27⟩ := h26
        refine ⟨v27, ?_⟩
        refine fmX4_tellOne (cmX4_tellOne h27 (fun M' a q => (And.intro a q))) ?_
        intro M21_29 f28 q28
        obtain ⟨c28, h28⟩ := q28
        exact hQ _ _ (by first | exact True.intro | exact c18 | omega) h28
      · intro g30
        have h31 := h24 g30
        exact hQ _ _ (by first | exact True.intro | exact c18 | omega) h31
  · intro g32
    have h33 := h9 g32
    exact hQ _ _ (by first | exact True.intro | omega) h33
theorem cmX11_mends_L33 {p1 : Int} {g0 g1 : Int} {X98 X98' : Int → Int → Mem → Prop} {X116 X116' : Int → Int → Mem → Prop} {Q Q' : Int → Mem → Prop} (hQ : ∀ (w0 : Int) (M' : Mem), (False) → Q w0 M' → Q' w0 M') (hX98 : ∀ (w0 w1 : Int) (M' : Mem), (0 ≤ w0 ∧ M' 167 1 = g0) → X98 w0 w1 M' → X98' w0 w1 M') (hX116 : ∀ (w0 w1 : Int) (M' : Mem), (0 ≤ w1 ∧ M' 167 1 = g0) → X116 w0 w1 M' → X116' w0 w1 M') : ∀ (n : Nat) (v2 v3 v4 : Int) (M : Mem), (0 ≤ v3 ∧ M 167 1 = g0) → qX11_mends_L33 p1 X98 X116 Q n v2 v3 v4 M → qX11_mends_L33 p1 X98' X116' Q' n v2 v3 v4 M := by
  intro n
  induction n with
  | zero => intro v2 v3 v4 M _ h; exact h.elim
  | succ n ih =>
    intro v2 v3 v4 M hI h
    rw [qX11_mends_L33] at h
    rw [qX11_mends_L33]
    intro x7_1 g2 g3
    have h1 := h x7_1 g2 g3
    intro x8_4 g5 g6
    have h4 := h1 x8_4 g5 g6
    obtain ⟨v7, h7⟩ := h4
    refine ⟨v7, ?_⟩
    obtain ⟨h8, h9⟩ := h7
    refine ⟨?_, ?_⟩
    · intro g10
      have h11 := h8 g10
      exact hX116 _ _ _ (by first | exact True.intro | exact hI | omega) h11
    · intro g12
      have h13 := h9 g12
      intro x11_14 g15 g16
      have h14 := h13 x11_14 g15 g16
      intro x12_17 g18 g19
      have h17 := h14 x12_17 g18 g19
      obtain ⟨h20, h21⟩ := h17
      refine ⟨?_, ?_⟩
      · intro g22
        have h23 := h20 g22
        unfold qX11_mends_J69 at h23 ⊢
        unfold qX11_mends_J70 at h23 ⊢
        obtain ⟨v24, h24⟩ := h23
        refine ⟨v24, ?_⟩
        obtain ⟨h25, h26⟩ := h24
        refine ⟨?_, ?_⟩
        · intro g27
          have h28 := h25 g27
          exact ih _ _ _ _ (by first | exact True.intro | exact hI | omega) h28
        · intro g29
          have h30 := h26 g29
          obtain ⟨v31, h31⟩ := h30
          refine ⟨v31, ?_⟩
          refine fmX11_turnInTrial h31 ?_
          intro M17_33 f32 h32
          have c34 : M17_33 167 1 = M 167 1 := f32 167 1 (by first | omega | exact fun h => h)
          obtain ⟨v35, h35⟩ := h32
          refine ⟨v35, ?_⟩
          have w35 : (M17_33 155 16).toNat = 187 ∨ (M17_33 155 16).toNat = 192 := v35
          refine fmX11_rightOnesOfTrial h35 ?_
          intro x19_37 M19_38 f36 h36
          have c39 : M19_38 167 1 = M17_33 167 1 := f36 167 1 (by first | omega | exact fun h => h)
          intro g40
          have h41 := h36 g40
          refine cmbits_x h41 ?_
          intro x20_43 c42 h42
          intro g45
          have h46 := h42 g45
          obtain ⟨h47, h48⟩ := h46
          refine ⟨?_, ?_⟩
          · intro g49
            have h50 := h47 g49
            exact ih _ _ _ _ (by first | exact True.intro | exact hI | (rw [(c39.trans c34)]; exact hI) | omega) h50
          · intro g51
            have h52 := h48 g51
            exact hX98 _ _ _ (by first | exact True.intro | exact hI | (rw [(c39.trans c34)]; exact hI) | omega) h52
      · intro g53
        have h54 := h21 g53
        refine cmbits_x h54 ?_
        intro x22_56 c55 h55
        intro g58
        have h59 := h55 g58
        obtain ⟨v60, h60⟩ := h59
        refine ⟨v60, ?_⟩
        obtain ⟨h61, h62⟩ := h60
        refine ⟨?_, ?_⟩
        · intro g63
          have h64 := h61 g63
          unfold qX11_mends_J69 at h64 ⊢
          unfold qX11_mends_J70 at h64 ⊢
          obtain ⟨v65, h65⟩ := h64
          refine ⟨v65, ?_⟩
          obtain ⟨h66, h67⟩ := h65
          refine ⟨?_, ?_⟩
          · intro g68
            have h69 := h66 g68
            exact ih _ _ _ _ (by first | exact True.intro | exact hI | omega) h69
          · intro g70
            have h71 := h67 g70
            obtain ⟨v72, h72⟩ := h71
            refine ⟨v72, ?_⟩
            refine fmX11_turnInTrial h72 ?_
            intro M17_74 f73 h73
            have c75 : M17_74 167 1 = M 167 1 := f73 167 1 (by first | omega | exact fun h => h)
            obtain ⟨v76, h76⟩ := h73
            refine ⟨v76, ?_⟩
            have w76 : (M17_74 155 16).toNat = 187 ∨ (M17_74 155 16).toNat = 192 := v76
            refine fmX11_rightOnesOfTrial h76 ?_
            intro x19_78 M19_79 f77 h77
            have c80 : M19_79 167 1 = M17_74 167 1 := f77 167 1 (by first | omega | exact fun h => h)
            intro g81
            have h82 := h77 g81
            refine cmbits_x h82 ?_
            intro x20_84 c83 h83
            intro g86
            have h87 := h83 g86
            obtain ⟨h88, h89⟩ := h87
            refine ⟨?_, ?_⟩
            · intro g90
              have h91 := h88 g90
              exact ih _ _ _ _ (by first | exact True.intro | exact hI | (rw [(c80.trans c75)]; exact hI) | omega) h91
            · intro g92
              have h93 := h89 g92
              exact hX98 _ _ _ (by first | exact True.intro | exact hI | (rw [(c80.trans c75)]; exact hI) | omega) h93
        · intro g94
          have h95 := h62 g94
          unfold qX11_mends_J70 at h95 ⊢
          obtain ⟨v96, h96⟩ := h95
          refine ⟨v96, ?_⟩
          obtain ⟨h97, h98⟩ := h96
          refine ⟨?_, ?_⟩
          · intro g99
            have h100 := h97 g99
            exact ih _ _ _ _ (by first | exact True.intro | exact hI | omega) h100
          · intro g101
            have h102 := h98 g101
            obtain ⟨v103, h103⟩ := h102
            refine ⟨v103, ?_⟩
            refine fmX11_turnInTrial h103 ?_
            intro M17_105 f104 h104
            have c106 : M17_105 167 1 = M 167 1 := f104 167 1 (by first | omega | exact fun h => h)
            obtain ⟨v107, h107⟩ := h104
            refine ⟨v107, ?_⟩
            have w107 : (M17_105 155 16).toNat = 187 ∨ (M17_105 155 16).toNat = 192 := v107
            refine fmX11_rightOnesOfTrial h107 ?_
            intro x19_109 M19_110 f108 h108
            have c111 : M19_110 167 1 = M17_105 167 1 := f108 167 1 (by first | omega | exact fun h => h)
            intro g112
            have h113 := h108 g112
            refine cmbits_x h113 ?_
            intro x20_115 c114 h114
            intro g117
            have h118 := h114 g117
            obtain ⟨h119, h120⟩ := h118
            refine ⟨?_, ?_⟩
            · intro g121
              have h122 := h119 g121
              exact ih _ _ _ _ (by first | exact True.intro | exact hI | (rw [(c111.trans c106)]; exact hI) | omega) h122
            · intro g123
              have h124 := h120 g123
              exact hX98 _ _ _ (by first | exact True.intro | exact hI | (rw [(c111.trans c106)]; exact hI) | omega) h124
theorem cmX11_mends_L19 {p1 : Int} {g0 g1 : Int} {X98 X98' : Int → Int → Mem → Prop} {Q Q' : Int → Mem → Prop} (hQ : ∀ (w0 : Int) (M' : Mem), (w0 < 0 ∧ M' 167 1 = g0) → Q w0 M' → Q' w0 M') (hX98 : ∀ (w0 w1 : Int) (M' : Mem), (0 ≤ w0 ∧ M' 167 1 = g0) → X98 w0 w1 M' → X98' w0 w1 M') : ∀ (n : Nat) (v2 v3 : Int) (M : Mem), (0 ≤ v3 ∧ M 167 1 = g0) → qX11_mends_L19 p1 X98 Q n v2 v3 M → qX11_mends_L19 p1 X98' Q' n v2 v3 M := by
  intro n
  induction n with
  | zero => intro v2 v3 M _ h; exact h.elim
  | succ n ih =>
    intro v2 v3 M hI h
    rw [qX11_mends_L19] at h
    rw [qX11_mends_L19]
    intro x4_1 g2 g3
    have h1 := h x4_1 g2 g3
    obtain ⟨v4, h4⟩ := h1
    refine ⟨v4, ?_⟩
    obtain ⟨h5, h6⟩ := h4
    refine ⟨?_, ?_⟩
    · intro g7
      have h8 := h5 g7
      exact hQ _ _ (by first | exact True.intro | exact hI | omega) h8
    · intro g9
      have h10 := h6 g9
      obtain ⟨n11, h11⟩ := h10
      refine ⟨n11, ?_⟩
      refine cmX11_mends_L33 (g0 := g0) (g1 := g1) ?_ ?_ ?_ _ _ _ _ _ (by first | exact True.intro | exact hI | omega) h11
      · exact fun _ _ q _ => q.elim
      · intro v3_15 v4_16 M_17 c14 h14
        exact hX98 _ _ _ (by first | exact True.intro | exact c14 | omega) h14
      · intro v2_20 v3_21 M_22 c19 h19
        exact ih _ _ _ (by first | exact True.intro | exact c19 | omega) h19
theorem cmX11_mends {p1 : Int} {M : Mem} {Q Q' : Int → Mem → Prop} (h : qX11_mends p1 M Q) (hQ : ∀ (w0 : Int) (M' : Mem), ((0 ≤ w0 → M' 167 1 = 1) ∧ (w0 < 0 → M' 167 1 = M 167 1)) → Q w0 M' → Q' w0 M') : qX11_mends p1 M Q' := by
  unfold qX11_mends at h ⊢
  obtain ⟨h1, h2⟩ := h
  refine ⟨?_, ?_⟩
  · intro g3
    have h4 := h1 g3
    exact hQ _ _ (by first | exact True.intro | omega) h4
  · intro g5
    have h6 := h2 g5
    obtain ⟨h7, h8⟩ := h6
    refine ⟨?_, ?_⟩
    · intro g9
      have h10 := h7 g9
      refine fmX11_ableToTurn h10 ?_
      intro x3_12 M3_13 f11 h11
      have c14 : M3_13 167 1 = M 167 1 := f11 167 1 (by first | omega | exact fun h => h)
      intro g15
      have h16 := h11 g15
      obtain ⟨n17, h17⟩ := h16
      refine ⟨n17, ?_⟩
      refine cmX11_mends_L19 (g0 := M3_13 167 1) (g1 := 0) ?_ ?_ _ _ _ _ (by first | exact True.intro | omega) h17
      · exact fun z18_0 M_18 c18 h18 => hQ _ M_18 (by first | exact True.intro | exact c18 | omega) h18
      · intro v3_21 v4_22 M_23 c20 h20
        obtain ⟨v24, h24⟩ := h20
        refine ⟨v24, ?_⟩
        refine fmX4_tellOne (cmX4_tellOne h24 (fun M' a q => (And.intro a q))) ?_
        intro M28_26 f25 q25
        obtain ⟨c25, h25⟩ := q25
        obtain ⟨v27, h27⟩ := h25
        refine ⟨v27, ?_⟩
        exact hQ _ _ (by first | exact True.intro | exact c20 | omega) h27
    · intro g28
      have h29 := h8 g28
      exact hQ _ _ (by first | exact True.intro | omega) h29
theorem cmX11_misleads_L27  {g0 g1 : Int} {X129 X129' : Int → Int → Int → Mem → Prop} {Q Q' : Int → Mem → Prop} (hQ : ∀ (w0 : Int) (M' : Mem), (False) → Q w0 M' → Q' w0 M') (hX129 : ∀ (w0 w1 w2 : Int) (M' : Mem), ((w1 = -1 ∨ 0 ≤ w1) ∧ M' 167 1 = g0) → X129 w0 w1 w2 M' → X129' w0 w1 w2 M') : ∀ (n : Nat) (v1 v2 v3 v4 : Int) (M : Mem), (0 ≤ v4 ∧ (v2 = -1 ∨ 0 ≤ v2) ∧ M 167 1 = g0) → qX11_misleads_L27 X129 Q n v1 v2 v3 v4 M → qX11_misleads_L27 X129' Q' n v1 v2 v3 v4 M := by
  intro n
  induction n with
  | zero => intro v1 v2 v3 v4 M _ h; exact h.elim
  | succ n ih =>
    intro v1 v2 v3 v4 M hI h
    rw [qX11_misleads_L27] at h
    rw [qX11_misleads_L27]
    intro x4_1 g2 g3
    have h1 := h x4_1 g2 g3
    obtain ⟨v4, h4⟩ := h1
    refine ⟨v4, ?_⟩
    obtain ⟨h5, h6⟩ := h4
    refine ⟨?_, ?_⟩
    · intro g7
      have h8 := h5 g7
      exact hX129 _ _ _ _ (by first | exact True.intro | exact hI | omega) h8
    · intro g9
      have h10 := h6 g9
      refine fmX6_hasArrived h10 ?_
      intro x7_12 M7_13 f11 h11
      have c14 : M7_13 167 1 = M 167 1 := f11 167 1 (by first | omega | exact fun h => h)
      intro g15 g16
      have h17 := h11 g15 g16
      clear g16
      obtain ⟨h18, h19⟩ := h17
      refine ⟨?_, ?_⟩
      · intro g20
        have h21 := h18 g20
        exact ih _ _ _ _ _ (by first | exact True.intro | exact hI | (rw [c14]; exact hI) | omega) h21
      · intro g22
        have h23 := h19 g22
        refine fmX6_copyFrom h23 ?_
        intro M9_25 f24 h24
        have c26 : M9_25 167 1 = M7_13 167 1 := f24 167 1 (by first | omega | exact fun h => h)
        refine fmX6_takeAway h24 ?_
        intro M10_28 f27 h27
        have c29 : M10_28 167 1 = M9_25 167 1 := f27 167 1 (by first | omega | exact fun h => h)
        obtain ⟨v30, h30⟩ := h27
        refine ⟨v30, ?_⟩
        have w30 : (M10_28 155 16).toNat = 187 ∨ (M10_28 155 16).toNat = 192 := v30
        refine fmX11_rightOnesOfTrial h30 ?_
        intro x12_32 M12_33 f31 h31
        have c34 : M12_33 167 1 = M10_28 167 1 := f31 167 1 (by first | omega | exact fun h => h)
        intro g35
        have h36 := h31 g35
        refine fmX6_bitsOf h36 ?_
        intro x13_38 M13_39 f37 h37
        have c40 : M13_39 167 1 = M12_33 167 1 := f37 167 1 (by first | omega | exact fun h => h)
        intro g41
        have h42 := h37 g41
        intro x14_43 g44 g45
        have h43 := h42 x14_43 g44 g45
        intro x15_46 g47 g48
        have h46 := h43 x15_46 g47 g48
        refine cmbits_x h46 ?_
        intro x16_50 c49 h49
        intro g52
        have h53 := h49 g52
        obtain ⟨v54, h54⟩ := h53
        refine ⟨v54, ?_⟩
        obtain ⟨h55, h56⟩ := h54
        refine ⟨?_, ?_⟩
        · intro g57
          have h58 := h55 g57
          unfold qX11_misleads_J115 at h58 ⊢
          obtain ⟨v59, h59⟩ := h58
          refine ⟨v59, ?_⟩
          obtain ⟨v60, h60⟩ := h59
          refine ⟨v60, ?_⟩
          intro x21_61 g62 g63
          have h61 := h60 x21_61 g62 g63
          exact ih _ _ _ _ _ (by first | exact True.intro | exact hI | (rw [(c40.trans (c34.trans (c29.trans (c26.trans c14))))]; exact hI) | omega) h61
        · intro g64
          have h65 := h56 g64
          unfold qX11_misleads_J115 at h65 ⊢
          obtain ⟨v66, h66⟩ := h65
          refine ⟨v66, ?_⟩
          obtain ⟨v67, h67⟩ := h66
          refine ⟨v67, ?_⟩
          intro x21_68 g69 g70
          have h68 := h67 x21_68 g69 g70
          exact ih _ _ _ _ _ (by first | exact True.intro | exact hI | (rw [(c40.trans (c34.trans (c29.trans (c26.trans c14))))]; exact hI) | omega) h68
theorem cmX11_misleads  {M : Mem} {Q Q' : Int → Mem → Prop} (h : qX11_misleads M Q) (hQ : ∀ (w0 : Int) (M' : Mem), ((0 ≤ w0 → M' 167 1 = 2) ∧ (w0 < 0 → M' 167 1 = M 167 1)) → Q w0 M' → Q' w0 M') : qX11_misleads M Q' := by
  unfold qX11_misleads at h ⊢
  refine fmX6_copyFrom h ?_
  intro M1_2 f1 h1
  have c3 : M1_2 167 1 = M 167 1 := f1 167 1 (by first | omega | exact fun h => h)
  obtain ⟨v4, h4⟩ := h1
  refine ⟨v4, ?_⟩
  have w4 : (M1_2 155 16).toNat = 187 ∨ (M1_2 155 16).toNat = 192 := v4
  refine fmX11_rightOnesOfTrial h4 ?_
  intro x3_6 M3_7 f5 h5
  have c8 : M3_7 167 1 = M1_2 167 1 := f5 167 1 (by first | omega | exact fun h => h)
  intro g9
  have h10 := h5 g9
  obtain ⟨n11, h11⟩ := h10
  refine ⟨n11, ?_⟩
  refine cmX11_misleads_L27 (g0 := M3_7 167 1) (g1 := 0) ?_ ?_ _ _ _ _ _ _ (by first | exact True.intro | omega) h11
  · exact fun _ _ q _ => q.elim
  · intro v1_15 v2_16 v3_17 M_18 c14 h14
    obtain ⟨v19, h19⟩ := h14
    refine ⟨v19, ?_⟩
    obtain ⟨h20, h21⟩ := h19
    refine ⟨?_, ?_⟩
    · intro g22
      have h23 := h20 g22
      obtain ⟨v24, h24⟩ := h23
      refine ⟨v24, ?_⟩
      refine fmX6_bitsOf h24 ?_
      intro x26_26 M26_27 f25 h25
      have c28 : M26_27 167 1 = M_18 167 1 := f25 167 1 (by first | omega | exact fun h => h)
      intro g29
      have h30 := h25 g29
      intro x27_31 g32 g33
      have h31 := h30 x27_31 g32 g33
      intro x28_34 g35 g36
      have h34 := h31 x28_34 g35 g36
      refine cmbits_x h34 ?_
      intro x29_38 c37 h37
      intro g40
      have h41 := h37 g40
      refine fmX4_tellTwo (cmX4_tellTwo h41 (fun M' a q => (And.intro a q))) ?_
      intro M30_43 f42 q42
      obtain ⟨c42, h42⟩ := q42
      exact hQ _ _ (by first | exact True.intro | exact c14 | omega) h42
    · intro g44
      have h45 := h21 g44
      exact hQ _ _ (by first | exact True.intro | exact c14 | omega) h45
theorem cmX11_crowd_L45  {g0 g1 : Int} {X101 X101' : Int → Int → Mem → Prop} {Q Q' : Int → Mem → Prop} (hQ : ∀ (w0 : Int) (M' : Mem), (False) → Q w0 M' → Q' w0 M') (hX101 : ∀ (w0 w1 : Int) (M' : Mem), (0 ≤ w0) → X101 w0 w1 M' → X101' w0 w1 M') : ∀ (n : Nat) (v1 v2 v3 : Int) (M : Mem), (0 ≤ v1 ∧ 0 ≤ v3) → qX11_crowd_L45 X101 Q n v1 v2 v3 M → qX11_crowd_L45 X101' Q' n v1 v2 v3 M := by
  intro n
  induction n with
  | zero => intro v1 v2 v3 M _ h; exact h.elim
  | succ n ih =>
    intro v1 v2 v3 M hI h
    rw [qX11_crowd_L45] at h
    rw [qX11_crowd_L45]
    intro x6_1 g2 g3
    have h1 := h x6_1 g2 g3
    obtain ⟨v4, h4⟩ := h1
    refine ⟨v4, ?_⟩
    obtain ⟨h5, h6⟩ := h4
    refine ⟨?_, ?_⟩
    · intro g7
      have h8 := h5 g7
      exact hX101 _ _ _ (by first | exact True.intro | exact hI | omega) h8
    · intro g9
      have h10 := h6 g9
      refine fmX6_bitsOf h10 ?_
      intro x9_12 M9_13 f11 h11
      have c14 : M9_13 167 1 = M 167 1 := f11 167 1 (by first | omega | exact fun h => h)
      intro g15
      have h16 := h11 g15
      refine cmbits_x h16 ?_
      intro x10_18 c17 h17
      intro g20
      have h21 := h17 g20
      obtain ⟨v22, h22⟩ := h21
      refine ⟨v22, ?_⟩
      obtain ⟨h23, h24⟩ := h22
      refine ⟨?_, ?_⟩
      · intro g25
        have h26 := h23 g25
        unfold qX11_crowd_J87 at h26 ⊢
        obtain ⟨v27, h27⟩ := h26
        refine ⟨v27, ?_⟩
        obtain ⟨v28, h28⟩ := h27
        refine ⟨v28, ?_⟩
        intro x15_29 g30 g31
        have h29 := h28 x15_29 g30 g31
        exact ih _ _ _ _ (by first | exact True.intro | exact hI | (rw [c14]; exact hI) | omega) h29
      · intro g32
        have h33 := h24 g32
        unfold qX11_crowd_J87 at h33 ⊢
        obtain ⟨v34, h34⟩ := h33
        refine ⟨v34, ?_⟩
        obtain ⟨v35, h35⟩ := h34
        refine ⟨v35, ?_⟩
        intro x15_36 g37 g38
        have h36 := h35 x15_36 g37 g38
        exact ih _ _ _ _ (by first | exact True.intro | exact hI | (rw [c14]; exact hI) | omega) h36
theorem cmX11_crowd  {M : Mem} {Q Q' : Int → Mem → Prop} (h : qX11_crowd M Q) (hQ : ∀ (w0 : Int) (M' : Mem), ((0 ≤ w0 → M' 167 1 = 2) ∧ (w0 < 0 → M' 167 1 = M 167 1)) → Q w0 M' → Q' w0 M') : qX11_crowd M Q' := by
  unfold qX11_crowd at h ⊢
  intro x1_1 g2 g3
  have h1 := h x1_1 g2 g3
  obtain ⟨h4, h5⟩ := h1
  refine ⟨?_, ?_⟩
  · intro g6
    have h7 := h4 g6
    refine fmX6_copyFrom h7 ?_
    intro M3_9 f8 h8
    have c10 : M3_9 167 1 = M 167 1 := f8 167 1 (by first | omega | exact fun h => h)
    obtain ⟨v11, h11⟩ := h8
    refine ⟨v11, ?_⟩
    have w11 : (M3_9 155 16).toNat = 187 ∨ (M3_9 155 16).toNat = 192 := v11
    refine fmX10_toEnd h11 ?_
    intro M5_13 f12 h12
    have c14 : M5_13 167 1 = M3_9 167 1 := f12 167 1 (by first | omega | exact fun h => h)
    obtain ⟨n15, h15⟩ := h12
    refine ⟨n15, ?_⟩
    refine cmX11_crowd_L45 (g0 := M5_13 167 1) (g1 := 0) ?_ ?_ _ _ _ _ _ (by first | exact True.intro | omega) h15
    · exact fun _ _ q _ => q.elim
    · intro v1_19 v2_20 M_21 c18 h18
      obtain ⟨v22, h22⟩ := h18
      refine ⟨v22, ?_⟩
      refine fmX6_rightBits h22 ?_
      intro x18_24 M18_25 f23 h23
      have c26 : M18_25 167 1 = M_21 167 1 := f23 167 1 (by first | omega | exact fun h => h)
      intro g27
      have h28 := h23 g27
      obtain ⟨v29, h29⟩ := h28
      refine ⟨v29, ?_⟩
      refine fmX6_bitsOf h29 ?_
      intro x20_31 M20_32 f30 h30
      have c33 : M20_32 167 1 = M18_25 167 1 := f30 167 1 (by first | omega | exact fun h => h)
      intro g34
      have h35 := h30 g34
      intro x21_36 g37 g38
      have h36 := h35 x21_36 g37 g38
      refine cmbits_x h36 ?_
      intro x22_40 c39 h39
      intro g42
      have h43 := h39 g42
      refine fmX4_tellTwo (cmX4_tellTwo h43 (fun M' a q => (And.intro a q))) ?_
      intro M23_45 f44 q44
      obtain ⟨c44, h44⟩ := q44
      exact hQ _ _ (by first | exact True.intro | exact c18 | omega) h44
  · intro g46
    have h47 := h5 g46
    exact hQ _ _ (by first | exact True.intro | omega) h47
theorem cmX11_shares_L37 {p1 : Int} {g0 g1 : Int} {Q Q' : Int → Mem → Prop} (hQ : ∀ (w0 : Int) (M' : Mem), (0 ≤ M' 1 7 → M' 1 7 ≤ 8 → M' 167 1 = M' 1 7) → Q w0 M' → Q' w0 M') : ∀ (n : Nat) (v2 v3 v4 : Int) (M : Mem), (0 ≤ v4 ∧ (0 ≤ M 1 7 → M 1 7 ≤ 8 → M 167 1 = v4 ∧ v4 ≤ M 1 7)) → qX11_shares_L37 p1 Q n v2 v3 v4 M → qX11_shares_L37 p1 Q' n v2 v3 v4 M := by
  intro n
  induction n with
  | zero => intro v2 v3 v4 M _ h; exact h.elim
  | succ n ih =>
    intro v2 v3 v4 M hI h
    rw [qX11_shares_L37] at h
    rw [qX11_shares_L37]
    intro x5_1 g2 g3
    have h1 := h x5_1 g2 g3
    obtain ⟨v4, h4⟩ := h1
    refine ⟨v4, ?_⟩
    obtain ⟨h5, h6⟩ := h4
    refine ⟨?_, ?_⟩
    · intro g7
      have h8 := h5 g7
      obtain ⟨v9, h9⟩ := h8
      refine ⟨v9, ?_⟩
      exact hQ _ _ (by first | exact True.intro | exact hI | omega) h9
    · intro g10
      have h11 := h6 g10
      obtain ⟨v12, h12⟩ := h11
      refine ⟨v12, ?_⟩
      refine fmX7_choice h12 ?_
      intro x10_14 M10_15 f13 h13
      have c16 : M10_15 167 1 = M 167 1 := f13 167 1 (by first | omega | exact fun h => h)
      have c17 : M10_15 1 7 = M 1 7 := f13 1 7 (by first | omega | exact fun h => h)
      intro g18
      have h19 := h13 g18
      obtain ⟨h20, h21⟩ := h19
      refine ⟨?_, ?_⟩
      · intro g22
        have h23 := h20 g22
        intro x12_24 g25 g26
        have h24 := h23 x12_24 g25 g26
        unfold qX11_shares_J80 at h24 ⊢
        intro x13_27 g28 g29
        have h27 := h24 x13_27 g28 g29
        obtain ⟨v30, h30⟩ := h27
        refine ⟨v30, ?_⟩
        refine fmX4_add (cmX4_add h30 (fun M' a q => (And.intro a q))) ?_
        intro M15_32 f31 q31
        obtain ⟨c31, h31⟩ := q31
        have c33 : M15_32 1 7 = M10_15 1 7 := f31 1 7 (by first | omega | exact fun h => h)
        exact ih _ _ _ _ (by first | exact True.intro | exact hI | omega) h31
      · intro g34
        have h35 := h21 g34
        unfold qX11_shares_J80 at h35 ⊢
        intro x13_36 g37 g38
        have h36 := h35 x13_36 g37 g38
        obtain ⟨v39, h39⟩ := h36
        refine ⟨v39, ?_⟩
        refine fmX4_add (cmX4_add h39 (fun M' a q => (And.intro a q))) ?_
        intro M15_41 f40 q40
        obtain ⟨c40, h40⟩ := q40
        have c42 : M15_41 1 7 = M10_15 1 7 := f40 1 7 (by first | omega | exact fun h => h)
        exact ih _ _ _ _ (by first | exact True.intro | exact hI | omega) h40
theorem cmX11_shares {p1 : Int} {M : Mem} {Q Q' : Int → Mem → Prop} (h : qX11_shares p1 M Q) (hQ : ∀ (w0 : Int) (M' : Mem), (((0 ≤ p1 ∧ p1 ≤ 30) → 0 ≤ M' 1 7 → M' 1 7 ≤ 8 → M' 167 1 = M' 1 7) ∧ (¬ (0 ≤ p1 ∧ p1 ≤ 30) → M' 167 1 = M 167 1)) → Q w0 M' → Q' w0 M') : qX11_shares p1 M Q' := by
  unfold qX11_shares at h ⊢
  obtain ⟨h1, h2⟩ := h
  refine ⟨?_, ?_⟩
  · intro g3
    have h4 := h1 g3
    exact hQ _ _ (by first | exact True.intro | omega) h4
  · intro g5
    have h6 := h2 g5
    obtain ⟨h7, h8⟩ := h6
    refine ⟨?_, ?_⟩
    · intro g9
      have h10 := h7 g9
      refine fmX7_weigh h10 ?_
      intro x3_12 M3_13 f11 h11
      have c14 : M3_13 167 1 = M 167 1 := f11 167 1 (by first | omega | exact fun h => h)
      have c15 : M3_13 1 7 = M 1 7 := f11 1 7 (by first | omega | exact fun h => h)
      intro g16
      have h17 := h11 g16
      refine fmX4_clear (cmX4_clear h17 (fun M' a q => (And.intro a q))) ?_
      intro M4_19 f18 q18
      obtain ⟨c18, h18⟩ := q18
      have c20 : M4_19 1 7 = M3_13 1 7 := f18 1 7 (by first | omega | exact fun h => h)
      obtain ⟨n21, h21⟩ := h18
      refine ⟨n21, ?_⟩
      refine cmX11_shares_L37 (g0 := M4_19 167 1) (g1 := M4_19 1 7) ?_ _ _ _ _ _ (by first | exact True.intro | omega) h21
      · exact fun z22_0 M_22 c22 h22 => hQ _ M_22 (by first | exact True.intro | exact c22 | omega) h22
    · intro g23
      have h24 := h8 g23
      exact hQ _ _ (by first | exact True.intro | omega) h24
theorem cmX11_strangers_L20  {g0 g1 : Int} {X136 X136' : Int → Int → Mem → Prop} {Q Q' : Int → Mem → Prop} (hQ : ∀ (w0 : Int) (M' : Mem), (False) → Q w0 M' → Q' w0 M') (hX136 : ∀ (w0 w1 : Int) (M' : Mem), (((w0 = 30 ∧ M' 167 1 = g0) ∨ (0 ≤ w0 ∧ w0 < 30 ∧ M' 167 1 = 2))) → X136 w0 w1 M' → X136' w0 w1 M') : ∀ (n : Nat) (v1 v2 v3 : Int) (M : Mem), (((v1 = 30 ∧ M 167 1 = g0) ∨ (0 ≤ v1 ∧ v1 < 30 ∧ M 167 1 = 2))) → qX11_strangers_L20 X136 Q n v1 v2 v3 M → qX11_strangers_L20 X136' Q' n v1 v2 v3 M := by
  intro n
  induction n with
  | zero => intro v1 v2 v3 M _ h; exact h.elim
  | succ n ih =>
    intro v1 v2 v3 M hI h
    rw [qX11_strangers_L20] at h
    rw [qX11_strangers_L20]
    intro x4_1 g2 g3
    have h1 := h x4_1 g2 g3
    obtain ⟨v4, h4⟩ := h1
    refine ⟨v4, ?_⟩
    obtain ⟨h5, h6⟩ := h4
    refine ⟨?_, ?_⟩
    · intro g7
      have h8 := h5 g7
      exact hX136 _ _ _ (by first | exact True.intro | exact hI | exact Or.inr ⟨by omega, by (rcases hI with q | q <;> omega), by omega⟩ | omega) h8
    · intro g9
      have h10 := h6 g9
      obtain ⟨v11, h11⟩ := h10
      refine ⟨v11, ?_⟩
      refine fmX6_hasEnded h11 ?_
      intro x8_13 M8_14 f12 h12
      have c15 : M8_14 167 1 = M 167 1 := f12 167 1 (by first | omega | exact fun h => h)
      intro g16 g17
      have h18 := h12 g16 g17
      clear g17
      obtain ⟨h19, h20⟩ := h18
      refine ⟨?_, ?_⟩
      · intro g21
        have h22 := h19 g21
        unfold qX11_strangers_J78 at h22 ⊢
        unfold qX11_strangers_J79 at h22 ⊢
        obtain ⟨v23, h23⟩ := h22
        refine ⟨v23, ?_⟩
        obtain ⟨v24, h24⟩ := h23
        refine ⟨v24, ?_⟩
        intro x12_25 g26 g27
        have h25 := h24 x12_25 g26 g27
        obtain ⟨v28, h28⟩ := h25
        refine ⟨v28, ?_⟩
        obtain ⟨v29, h29⟩ := h28
        refine ⟨v29, ?_⟩
        intro x15_30 g31 g32
        have h30 := h29 x15_30 g31 g32
        obtain ⟨v33, h33⟩ := h30
        refine ⟨v33, ?_⟩
        intro x17_34 g35 g36
        have h34 := h33 x17_34 g35 g36
        have p34 := cmab g35 g36
        clear g35 g36
        obtain ⟨v37, h37⟩ := h34
        refine ⟨v37, ?_⟩
        obtain ⟨h38, h39⟩ := h37
        refine ⟨?_, ?_⟩
        · intro g40
          have h41 := h38 g40
          exact ih _ _ _ _ (by first | exact True.intro | exact hI | (rw [c15]; exact hI) | exact Or.inr ⟨by omega, by (rcases hI with q | q <;> omega), by omega⟩ | omega) h41
        · intro g42
          have h43 := h39 g42
          obtain ⟨v44, h44⟩ := h43
          refine ⟨v44, ?_⟩
          obtain ⟨v45, h45⟩ := h44
          refine ⟨v45, ?_⟩
          obtain ⟨h46, h47⟩ := h45
          refine ⟨?_, ?_⟩
          · intro g48
            have h49 := h46 g48
            exact ih _ _ _ _ (by first | exact True.intro | exact hI | (rw [c15]; exact hI) | exact Or.inr ⟨by omega, by (rcases hI with q | q <;> omega), by omega⟩ | omega) h49
          · intro g50
            have h51 := h47 g50
            obtain ⟨v52, h52⟩ := h51
            refine ⟨v52, ?_⟩
            obtain ⟨v53, h53⟩ := h52
            refine ⟨v53, ?_⟩
            refine fmX4_tellTwo (cmX4_tellTwo h53 (fun M' a q => (And.intro a q))) ?_
            intro M25_55 f54 q54
            obtain ⟨c54, h54⟩ := q54
            exact ih _ _ _ _ (by first | exact True.intro | exact hI | exact Or.inr ⟨by omega, by (rcases hI with q | q <;> omega), by omega⟩ | omega) h54
      · intro g56
        have h57 := h20 g56
        refine fmX6_hasEnded h57 ?_
        intro x26_59 M26_60 f58 h58
        have c61 : M26_60 167 1 = M8_14 167 1 := f58 167 1 (by first | omega | exact fun h => h)
        intro g62 g63
        have h64 := h58 g62 g63
        clear g63
        obtain ⟨h65, h66⟩ := h64
        refine ⟨?_, ?_⟩
        · intro g67
          have h68 := h65 g67
          unfold qX11_strangers_J78 at h68 ⊢
          unfold qX11_strangers_J79 at h68 ⊢
          obtain ⟨v69, h69⟩ := h68
          refine ⟨v69, ?_⟩
          obtain ⟨v70, h70⟩ := h69
          refine ⟨v70, ?_⟩
          intro x12_71 g72 g73
          have h71 := h70 x12_71 g72 g73
          obtain ⟨v74, h74⟩ := h71
          refine ⟨v74, ?_⟩
          obtain ⟨v75, h75⟩ := h74
          refine ⟨v75, ?_⟩
          intro x15_76 g77 g78
          have h76 := h75 x15_76 g77 g78
          obtain ⟨v79, h79⟩ := h76
          refine ⟨v79, ?_⟩
          intro x17_80 g81 g82
          have h80 := h79 x17_80 g81 g82
          have p80 := cmab g81 g82
          clear g81 g82
          obtain ⟨v83, h83⟩ := h80
          refine ⟨v83, ?_⟩
          obtain ⟨h84, h85⟩ := h83
          refine ⟨?_, ?_⟩
          · intro g86
            have h87 := h84 g86
            exact ih _ _ _ _ (by first | exact True.intro | exact hI | (rw [(c61.trans c15)]; exact hI) | exact Or.inr ⟨by omega, by (rcases hI with q | q <;> omega), by omega⟩ | omega) h87
          · intro g88
            have h89 := h85 g88
            obtain ⟨v90, h90⟩ := h89
            refine ⟨v90, ?_⟩
            obtain ⟨v91, h91⟩ := h90
            refine ⟨v91, ?_⟩
            obtain ⟨h92, h93⟩ := h91
            refine ⟨?_, ?_⟩
            · intro g94
              have h95 := h92 g94
              exact ih _ _ _ _ (by first | exact True.intro | exact hI | (rw [(c61.trans c15)]; exact hI) | exact Or.inr ⟨by omega, by (rcases hI with q | q <;> omega), by omega⟩ | omega) h95
            · intro g96
              have h97 := h93 g96
              obtain ⟨v98, h98⟩ := h97
              refine ⟨v98, ?_⟩
              obtain ⟨v99, h99⟩ := h98
              refine ⟨v99, ?_⟩
              refine fmX4_tellTwo (cmX4_tellTwo h99 (fun M' a q => (And.intro a q))) ?_
              intro M25_101 f100 q100
              obtain ⟨c100, h100⟩ := q100
              exact ih _ _ _ _ (by first | exact True.intro | exact hI | exact Or.inr ⟨by omega, by (rcases hI with q | q <;> omega), by omega⟩ | omega) h100
        · intro g102
          have h103 := h66 g102
          obtain ⟨v104, h104⟩ := h103
          refine ⟨v104, ?_⟩
          obtain ⟨v105, h105⟩ := h104
          refine ⟨v105, ?_⟩
          intro x30_106 g107 g108
          have h106 := h105 x30_106 g107 g108
          obtain ⟨v109, h109⟩ := h106
          refine ⟨v109, ?_⟩
          obtain ⟨v110, h110⟩ := h109
          refine ⟨v110, ?_⟩
          intro x33_111 g112 g113
          have h111 := h110 x33_111 g112 g113
          obtain ⟨h114, h115⟩ := h111
          refine ⟨?_, ?_⟩
          · intro g116
            have h117 := h114 g116
            unfold qX11_strangers_J78 at h117 ⊢
            unfold qX11_strangers_J79 at h117 ⊢
            obtain ⟨v118, h118⟩ := h117
            refine ⟨v118, ?_⟩
            obtain ⟨v119, h119⟩ := h118
            refine ⟨v119, ?_⟩
            intro x12_120 g121 g122
            have h120 := h119 x12_120 g121 g122
            obtain ⟨v123, h123⟩ := h120
            refine ⟨v123, ?_⟩
            obtain ⟨v124, h124⟩ := h123
            refine ⟨v124, ?_⟩
            intro x15_125 g126 g127
            have h125 := h124 x15_125 g126 g127
            obtain ⟨v128, h128⟩ := h125
            refine ⟨v128, ?_⟩
            intro x17_129 g130 g131
            have h129 := h128 x17_129 g130 g131
            have p129 := cmab g130 g131
            clear g130 g131
            obtain ⟨v132, h132⟩ := h129
            refine ⟨v132, ?_⟩
            obtain ⟨h133, h134⟩ := h132
            refine ⟨?_, ?_⟩
            · intro g135
              have h136 := h133 g135
              exact ih _ _ _ _ (by first | exact True.intro | exact hI | (rw [(c61.trans c15)]; exact hI) | exact Or.inr ⟨by omega, by (rcases hI with q | q <;> omega), by omega⟩ | omega) h136
            · intro g137
              have h138 := h134 g137
              obtain ⟨v139, h139⟩ := h138
              refine ⟨v139, ?_⟩
              obtain ⟨v140, h140⟩ := h139
              refine ⟨v140, ?_⟩
              obtain ⟨h141, h142⟩ := h140
              refine ⟨?_, ?_⟩
              · intro g143
                have h144 := h141 g143
                exact ih _ _ _ _ (by first | exact True.intro | exact hI | (rw [(c61.trans c15)]; exact hI) | exact Or.inr ⟨by omega, by (rcases hI with q | q <;> omega), by omega⟩ | omega) h144
              · intro g145
                have h146 := h142 g145
                obtain ⟨v147, h147⟩ := h146
                refine ⟨v147, ?_⟩
                obtain ⟨v148, h148⟩ := h147
                refine ⟨v148, ?_⟩
                refine fmX4_tellTwo (cmX4_tellTwo h148 (fun M' a q => (And.intro a q))) ?_
                intro M25_150 f149 q149
                obtain ⟨c149, h149⟩ := q149
                exact ih _ _ _ _ (by first | exact True.intro | exact hI | exact Or.inr ⟨by omega, by (rcases hI with q | q <;> omega), by omega⟩ | omega) h149
          · intro g151
            have h152 := h115 g151
            unfold qX11_strangers_J79 at h152 ⊢
            obtain ⟨v153, h153⟩ := h152
            refine ⟨v153, ?_⟩
            obtain ⟨v154, h154⟩ := h153
            refine ⟨v154, ?_⟩
            intro x12_155 g156 g157
            have h155 := h154 x12_155 g156 g157
            obtain ⟨v158, h158⟩ := h155
            refine ⟨v158, ?_⟩
            obtain ⟨v159, h159⟩ := h158
            refine ⟨v159, ?_⟩
            intro x15_160 g161 g162
            have h160 := h159 x15_160 g161 g162
            obtain ⟨v163, h163⟩ := h160
            refine ⟨v163, ?_⟩
            intro x17_164 g165 g166
            have h164 := h163 x17_164 g165 g166
            have p164 := cmab g165 g166
            clear g165 g166
            obtain ⟨v167, h167⟩ := h164
            refine ⟨v167, ?_⟩
            obtain ⟨h168, h169⟩ := h167
            refine ⟨?_, ?_⟩
            · intro g170
              have h171 := h168 g170
              exact ih _ _ _ _ (by first | exact True.intro | exact hI | (rw [(c61.trans c15)]; exact hI) | exact Or.inr ⟨by omega, by (rcases hI with q | q <;> omega), by omega⟩ | omega) h171
            · intro g172
              have h173 := h169 g172
              obtain ⟨v174, h174⟩ := h173
              refine ⟨v174, ?_⟩
              obtain ⟨v175, h175⟩ := h174
              refine ⟨v175, ?_⟩
              obtain ⟨h176, h177⟩ := h175
              refine ⟨?_, ?_⟩
              · intro g178
                have h179 := h176 g178
                exact ih _ _ _ _ (by first | exact True.intro | exact hI | (rw [(c61.trans c15)]; exact hI) | exact Or.inr ⟨by omega, by (rcases hI with q | q <;> omega), by omega⟩ | omega) h179
              · intro g180
                have h181 := h177 g180
                obtain ⟨v182, h182⟩ := h181
                refine ⟨v182, ?_⟩
                obtain ⟨v183, h183⟩ := h182
                refine ⟨v183, ?_⟩
                refine fmX4_tellTwo (cmX4_tellTwo h183 (fun M' a q => (And.intro a q))) ?_
                intro M25_185 f184 q184
                obtain ⟨c184, h184⟩ := q184
                exact ih _ _ _ _ (by first | exact True.intro | exact hI | exact Or.inr ⟨by omega, by (rcases hI with q | q <;> omega), by omega⟩ | omega) h184
theorem cmX11_strangers_L5  {g0 g1 : Int} {X142 X142' : Int → Mem → Prop} {Q Q' : Int → Mem → Prop} (hQ : ∀ (w0 : Int) (M' : Mem), (False) → Q w0 M' → Q' w0 M') (hX142 : ∀ (w0 : Int) (M' : Mem), (((w0 = 30 ∧ M' 167 1 = g0) ∨ (0 ≤ w0 ∧ w0 < 30 ∧ M' 167 1 = 2))) → X142 w0 M' → X142' w0 M') : ∀ (n : Nat) (v1 v2 : Int) (M : Mem), (((v1 = 30 ∧ M 167 1 = g0) ∨ (0 ≤ v1 ∧ v1 < 30 ∧ M 167 1 = 2))) → qX11_strangers_L5 X142 Q n v1 v2 M → qX11_strangers_L5 X142' Q' n v1 v2 M := by
  intro n
  induction n with
  | zero => intro v1 v2 M _ h; exact h.elim
  | succ n ih =>
    intro v1 v2 M hI h
    rw [qX11_strangers_L5] at h
    rw [qX11_strangers_L5]
    intro x1_1 g2 g3
    have h1 := h x1_1 g2 g3
    obtain ⟨v4, h4⟩ := h1
    refine ⟨v4, ?_⟩
    obtain ⟨h5, h6⟩ := h4
    refine ⟨?_, ?_⟩
    · intro g7
      have h8 := h5 g7
      exact hX142 _ _ (by first | exact True.intro | exact hI | exact Or.inr ⟨by omega, by (rcases hI with q | q <;> omega), by omega⟩ | omega) h8
    · intro g9
      have h10 := h6 g9
      obtain ⟨n11, h11⟩ := h10
      refine ⟨n11, ?_⟩
      refine cmX11_strangers_L20 (g0 := g0) (g1 := g1) ?_ ?_ _ _ _ _ _ (by first | exact True.intro | exact hI | exact Or.inr ⟨by omega, by (rcases hI with q | q <;> omega), by omega⟩ | omega) h11
      · exact fun _ _ q _ => q.elim
      · intro v1_15 v2_16 M_17 c14 h14
        exact ih _ _ _ (by first | exact True.intro | exact c14 | exact Or.inr ⟨by omega, by (rcases c14 with q | q <;> omega), by omega⟩ | omega) h14
theorem cmX11_strangers  {M : Mem} {Q Q' : Int → Mem → Prop} (h : qX11_strangers M Q) (hQ : ∀ (w0 : Int) (M' : Mem), ((0 ≤ w0 → M' 167 1 = 2) ∧ (w0 < 0 → M' 167 1 = M 167 1)) → Q w0 M' → Q' w0 M') : qX11_strangers M Q' := by
  unfold qX11_strangers at h ⊢
  obtain ⟨n1, h1⟩ := h
  refine ⟨n1, ?_⟩
  refine cmX11_strangers_L5 (g0 := M 167 1) (g1 := 0) ?_ ?_ _ _ _ _ (by first | exact True.intro | omega) h1
  · exact fun _ _ q _ => q.elim
  · intro v1_5 M_6 c4 h4
    obtain ⟨v7, h7⟩ := h4
    refine ⟨v7, ?_⟩
    obtain ⟨h8, h9⟩ := h7
    refine ⟨?_, ?_⟩
    · intro g10
      have h11 := h8 g10
      exact hQ _ _ (by first | exact True.intro | exact c4 | exact Or.inr ⟨by omega, by (rcases c4 with q | q <;> omega), by omega⟩ | omega) h11
    · intro g12
      have h13 := h9 g12
      exact hQ _ _ (by first | exact True.intro | exact c4 | exact Or.inr ⟨by omega, by (rcases c4 with q | q <;> omega), by omega⟩ | omega) h13
theorem cmX11_doubts_L4  {g0 g1 : Int} {X42 X42' : Int → Mem → Prop} {Q Q' : Int → Mem → Prop} (hQ : ∀ (w0 : Int) (M' : Mem), (False) → Q w0 M' → Q' w0 M') (hX42 : ∀ (w0 : Int) (M' : Mem), (True) → X42 w0 M' → X42' w0 M') : ∀ (n : Nat) (v1 v2 : Int) (M : Mem), (True) → qX11_doubts_L4 X42 Q n v1 v2 M → qX11_doubts_L4 X42' Q' n v1 v2 M := by
  intro n
  induction n with
  | zero => intro v1 v2 M _ h; exact h.elim
  | succ n ih =>
    intro v1 v2 M hI h
    rw [qX11_doubts_L4] at h
    rw [qX11_doubts_L4]
    intro x1_1 g2 g3
    have h1 := h x1_1 g2 g3
    obtain ⟨v4, h4⟩ := h1
    refine ⟨v4, ?_⟩
    obtain ⟨h5, h6⟩ := h4
    refine ⟨?_, ?_⟩
    · intro g7
      have h8 := h5 g7
      exact hX42 _ _ (by first | exact True.intro | exact hI | omega) h8
    · intro g9
      have h10 := h6 g9
      refine fmX6_isInDoubt h10 ?_
      intro x4_12 M4_13 f11 h11
      have c14 : M4_13 167 1 = M 167 1 := f11 167 1 (by first | omega | exact fun h => h)
      intro g15 g16
      have h17 := h11 g15 g16
      clear g16
      obtain ⟨h18, h19⟩ := h17
      refine ⟨?_, ?_⟩
      · intro g20
        have h21 := h18 g20
        intro x6_22 g23 g24
        have h22 := h21 x6_22 g23 g24
        exact ih _ _ _ (by first | exact True.intro | exact hI | (rw [c14]; exact hI) | omega) h22
      · intro g25
        have h26 := h19 g25
        intro x7_27 g28 g29
        have h27 := h26 x7_27 g28 g29
        intro x8_30 g31 g32
        have h30 := h27 x8_30 g31 g32
        exact ih _ _ _ (by first | exact True.intro | exact hI | (rw [c14]; exact hI) | omega) h30
theorem cmX11_doubts  {M : Mem} {Q Q' : Int → Mem → Prop} (h : qX11_doubts M Q) (hQ : ∀ (w0 : Int) (M' : Mem), (M' 167 1 = 1) → Q w0 M' → Q' w0 M') : qX11_doubts M Q' := by
  unfold qX11_doubts at h ⊢
  obtain ⟨n1, h1⟩ := h
  refine ⟨n1, ?_⟩
  refine cmX11_doubts_L4 (g0 := M 167 1) (g1 := 0) ?_ ?_ _ _ _ _ (by first | exact True.intro | omega) h1
  · exact fun _ _ q _ => q.elim
  · intro v1_5 M_6 c4 h4
    obtain ⟨v7, h7⟩ := h4
    refine ⟨v7, ?_⟩
    refine cmbits_x h7 ?_
    intro x11_9 c8 h8
    intro g11
    have h12 := h8 g11
    refine fmX4_tellOne (cmX4_tellOne h12 (fun M' a q => (And.intro a q))) ?_
    intro M12_14 f13 q13
    obtain ⟨c13, h13⟩ := q13
    exact hQ _ _ (by first | exact True.intro | exact c4 | omega) h13
theorem cmX11_fits_L33  {g0 g1 : Int} {X75 X75' : Int → Mem → Prop} {Q Q' : Int → Mem → Prop} (hQ : ∀ (w0 : Int) (M' : Mem), (False) → Q w0 M' → Q' w0 M') (hX75 : ∀ (w0 : Int) (M' : Mem), (True) → X75 w0 M' → X75' w0 M') : ∀ (n : Nat) (v1 v2 : Int) (M : Mem), (True) → qX11_fits_L33 X75 Q n v1 v2 M → qX11_fits_L33 X75' Q' n v1 v2 M := by
  intro n
  induction n with
  | zero => intro v1 v2 M _ h; exact h.elim
  | succ n ih =>
    intro v1 v2 M hI h
    rw [qX11_fits_L33] at h
    rw [qX11_fits_L33]
    intro x4_1 g2 g3
    have h1 := h x4_1 g2 g3
    obtain ⟨v4, h4⟩ := h1
    refine ⟨v4, ?_⟩
    obtain ⟨h5, h6⟩ := h4
    refine ⟨?_, ?_⟩
    · intro g7
      have h8 := h5 g7
      exact hX75 _ _ (by first | exact True.intro | exact hI | omega) h8
    · intro g9
      have h10 := h6 g9
      refine fmX0_isTrueOf h10 ?_
      intro x7_12 M7_13 f11 h11
      have c14 : M7_13 167 1 = M 167 1 := f11 167 1 (by first | omega | exact fun h => h)
      intro g15 g16
      have h17 := h11 g15 g16
      clear g16
      obtain ⟨h18, h19⟩ := h17
      refine ⟨?_, ?_⟩
      · intro g20
        have h21 := h18 g20
        intro x9_22 g23 g24
        have h22 := h21 x9_22 g23 g24
        exact ih _ _ _ (by first | exact True.intro | exact hI | (rw [c14]; exact hI) | omega) h22
      · intro g25
        have h26 := h19 g25
        intro x10_27 g28 g29
        have h27 := h26 x10_27 g28 g29
        intro x11_30 g31 g32
        have h30 := h27 x11_30 g31 g32
        exact ih _ _ _ (by first | exact True.intro | exact hI | (rw [c14]; exact hI) | omega) h30
theorem cmX11_fits  {M : Mem} {Q Q' : Int → Mem → Prop} (h : qX11_fits M Q) (hQ : ∀ (w0 : Int) (M' : Mem), (M' 167 1 = 1) → Q w0 M' → Q' w0 M') : qX11_fits M Q' := by
  unfold qX11_fits at h ⊢
  refine fmX6_copyFrom h ?_
  intro M1_2 f1 h1
  have c3 : M1_2 167 1 = M 167 1 := f1 167 1 (by first | omega | exact fun h => h)
  obtain ⟨v4, h4⟩ := h1
  refine ⟨v4, ?_⟩
  have w4 : (M1_2 155 16).toNat = 187 ∨ (M1_2 155 16).toNat = 192 := v4
  refine fmX10_walk h4 ?_
  intro M3_6 f5 h5
  have c7 : M3_6 167 1 = M1_2 167 1 := f5 167 1 (by first | omega | exact fun h => h)
  obtain ⟨n8, h8⟩ := h5
  refine ⟨n8, ?_⟩
  refine cmX11_fits_L33 (g0 := M3_6 167 1) (g1 := 0) ?_ ?_ _ _ _ _ (by first | exact True.intro | omega) h8
  · exact fun _ _ q _ => q.elim
  · intro v1_12 M_13 c11 h11
    obtain ⟨v14, h14⟩ := h11
    refine ⟨v14, ?_⟩
    refine cmbits_x h14 ?_
    intro x14_16 c15 h15
    intro g18
    have h19 := h15 g18
    refine fmX4_tellOne (cmX4_tellOne h19 (fun M' a q => (And.intro a q))) ?_
    intro M15_21 f20 q20
    obtain ⟨c20, h20⟩ := q20
    exact hQ _ _ (by first | exact True.intro | exact c11 | omega) h20
theorem cmX11_rains_L42 {p1 : Int} {p2 : Int} {p3 : Int} {g0 g1 : Int} {X112 X112' : Int → Mem → Prop} {Q Q' : Int → Mem → Prop} (hQ : ∀ (w0 : Int) (M' : Mem), (False) → Q w0 M' → Q' w0 M') (hX112 : ∀ (w0 : Int) (M' : Mem), (M' 167 1 = g0) → X112 w0 M' → X112' w0 M') : ∀ (n : Nat) (v4 v6 v8 : Int) (M : Mem), (M 167 1 = g0) → qX11_rains_L42 p1 p2 p3 X112 Q n v4 v6 v8 M → qX11_rains_L42 p1 p2 p3 X112' Q' n v4 v6 v8 M := by
  intro n
  induction n with
  | zero => intro v4 v6 v8 M _ h; exact h.elim
  | succ n ih =>
    intro v4 v6 v8 M hI h
    rw [qX11_rains_L42] at h
    rw [qX11_rains_L42]
    obtain ⟨v1, h1⟩ := h
    refine ⟨v1, ?_⟩
    obtain ⟨h2, h3⟩ := h1
    refine ⟨?_, ?_⟩
    · intro g4
      have h5 := h2 g4
      exact hX112 _ _ (by first | exact True.intro | exact hI | omega) h5
    · intro g6
      have h7 := h3 g6
      obtain ⟨v8, h8⟩ := h7
      refine ⟨v8, ?_⟩
      obtain ⟨h9, h10⟩ := h8
      refine ⟨?_, ?_⟩
      · intro g11
        have h12 := h9 g11
        unfold qX11_rains_J88 at h12 ⊢
        intro x11_13 g14 g15
        have h13 := h12 x11_13 g14 g15
        intro x12_16 g17 g18
        have h16 := h13 x12_16 g17 g18
        intro x13_19 g20 g21
        have h19 := h16 x13_19 g20 g21
        obtain ⟨v22, h22⟩ := h19
        refine ⟨v22, ?_⟩
        obtain ⟨v23, h23⟩ := h22
        refine ⟨v23, ?_⟩
        intro x16_24 g25 g26
        have h24 := h23 x16_24 g25 g26
        exact ih _ _ _ _ (by first | exact True.intro | exact hI | omega) h24
      · intro g27
        have h28 := h10 g27
        refine fmX11_power h28 ?_
        intro x17_30 M17_31 f29 h29
        have c32 : M17_31 167 1 = M 167 1 := f29 167 1 (by first | omega | exact fun h => h)
        intro g33
        have h34 := h29 g33
        intro x18_35 g36 g37
        have h35 := h34 x18_35 g36 g37
        intro x19_38 g39 g40
        have h38 := h35 x19_38 g39 g40
        intro x20_41 g42 g43
        have h41 := h38 x20_41 g42 g43
        intro x21_44 g45 g46
        have h44 := h41 x21_44 g45 g46
        refine fmX11_power h44 ?_
        intro x22_48 M22_49 f47 h47
        have c50 : M22_49 167 1 = M17_31 167 1 := f47 167 1 (by first | omega | exact fun h => h)
        intro g51
        have h52 := h47 g51
        intro x23_53 g54 g55
        have h53 := h52 x23_53 g54 g55
        intro x24_56 g57 g58
        have h56 := h53 x24_56 g57 g58
        unfold qX11_rains_J88 at h56 ⊢
        intro x11_59 g60 g61
        have h59 := h56 x11_59 g60 g61
        intro x12_62 g63 g64
        have h62 := h59 x12_62 g63 g64
        intro x13_65 g66 g67
        have h65 := h62 x13_65 g66 g67
        obtain ⟨v68, h68⟩ := h65
        refine ⟨v68, ?_⟩
        obtain ⟨v69, h69⟩ := h68
        refine ⟨v69, ?_⟩
        intro x16_70 g71 g72
        have h70 := h69 x16_70 g71 g72
        exact ih _ _ _ _ (by first | exact True.intro | exact hI | (rw [(c50.trans c32)]; exact hI) | omega) h70
theorem cmX11_rains {p1 : Int} {p2 : Int} {p3 : Int} {M : Mem} {Q Q' : Int → Mem → Prop} (h : qX11_rains p1 p2 p3 M Q) (hQ : ∀ (w0 : Int) (M' : Mem), ((w0 = 0 ∧ M' 167 1 = 2) ∨ (w0 = -1 ∧ M' 167 1 = M 167 1)) → Q w0 M' → Q' w0 M') : qX11_rains p1 p2 p3 M Q' := by
  unfold qX11_rains at h ⊢
  obtain ⟨h1, h2⟩ := h
  refine ⟨?_, ?_⟩
  · intro g3
    have h4 := h1 g3
    exact hQ _ _ (by first | exact True.intro | omega) h4
  · intro g5
    have h6 := h2 g5
    obtain ⟨h7, h8⟩ := h6
    refine ⟨?_, ?_⟩
    · intro g9
      have h10 := h7 g9
      exact hQ _ _ (by first | exact True.intro | omega) h10
    · intro g11
      have h12 := h8 g11
      obtain ⟨h13, h14⟩ := h12
      refine ⟨?_, ?_⟩
      · intro g15
        have h16 := h13 g15
        exact hQ _ _ (by first | exact True.intro | omega) h16
      · intro g17
        have h18 := h14 g17
        obtain ⟨h19, h20⟩ := h18
        refine ⟨?_, ?_⟩
        · intro g21
          have h22 := h19 g21
          exact hQ _ _ (by first | exact True.intro | omega) h22
        · intro g23
          have h24 := h20 g23
          obtain ⟨h25, h26⟩ := h24
          refine ⟨?_, ?_⟩
          · intro g27
            have h28 := h25 g27
            exact hQ _ _ (by first | exact True.intro | omega) h28
          · intro g29
            have h30 := h26 g29
            obtain ⟨h31, h32⟩ := h30
            refine ⟨?_, ?_⟩
            · intro g33
              have h34 := h31 g33
              obtain ⟨n35, h35⟩ := h34
              refine ⟨n35, ?_⟩
              refine cmX11_rains_L42 (g0 := M 167 1) (g1 := 0) ?_ ?_ _ _ _ _ _ (by first | exact True.intro | omega) h35
              · exact fun _ _ q _ => q.elim
              · intro v4_39 M_40 c38 h38
                refine fmX11_power h38 ?_
                intro x26_42 M26_43 f41 h41
                have c44 : M26_43 167 1 = M_40 167 1 := f41 167 1 (by first | omega | exact fun h => h)
                intro g45
                have h46 := h41 g45
                obtain ⟨v47, h47⟩ := h46
                refine ⟨v47, ?_⟩
                refine fmX11_commonDivisor h47 ?_
                intro x28_49 M28_50 f48 h48
                have c51 : M28_50 167 1 = M26_43 167 1 := f48 167 1 (by first | omega | exact fun h => h)
                intro g52
                have h53 := h48 g52
                intro x29_54 g55 g56
                have h54 := h53 x29_54 g55 g56
                clear g56
                obtain ⟨h57, h58⟩ := h54
                refine ⟨?_, ?_⟩
                · intro g59
                  have h60 := h57 g59
                  obtain ⟨v61, h61⟩ := h60
                  refine ⟨v61, ?_⟩
                  intro x32_62 g63 g64
                  have h62 := h61 x32_62 g63 g64
                  obtain ⟨v65, h65⟩ := h62
                  refine ⟨v65, ?_⟩
                  intro x34_66 g67 g68
                  have h66 := h65 x34_66 g67 g68
                  refine fmX4_tellTwo (cmX4_tellTwo h66 (fun M' a q => (And.intro a q))) ?_
                  intro M35_70 f69 q69
                  obtain ⟨c69, h69⟩ := q69
                  exact hQ _ _ (by first | exact True.intro | exact c38 | omega) h69
                · intro g71
                  have h72 := h58 g71
                  exact hQ _ _ (by first | exact True.intro | exact c38 | (rw [(c51.trans c44)]; exact c38) | omega) h72
            · intro g73
              have h74 := h32 g73
              exact hQ _ _ (by first | exact True.intro | omega) h74
theorem cmX11_law  {M : Mem} {Q Q' : Int → Mem → Prop} (h : qX11_law M Q) (hQ : ∀ (w0 : Int) (M' : Mem), ((M' 167 1 = 2 ∧ -63 ≤ w0 ∧ w0 ≤ 63) ∨ (M' 167 1 = M 167 1 ∧ w0 = -10000 - M' 156 2)) → Q w0 M' → Q' w0 M') : qX11_law M Q' := by
  unfold qX11_law at h ⊢
  obtain ⟨v1, h1⟩ := h
  refine ⟨v1, ?_⟩
  have w1 : (M 155 17).toNat = 187 ∨ (M 155 17).toNat = 192 := v1
  refine fmX5_read (cmX5_read h1 (fun z M' a q => (And.intro a q))) ?_
  intro x2_3 M2_4 f2 q2
  obtain ⟨c2, h2⟩ := q2
  have c5 : M2_4 167 1 = M 167 1 := f2 167 1 (by first | omega | exact fun h => h)
  intro g6
  have h7 := h2 g6
  refine fmX9_clear h7 ?_
  intro M3_9 f8 h8
  have c10 : M3_9 167 1 = M2_4 167 1 := f8 167 1 (by first | omega | exact fun h => h)
  have c11 : M3_9 156 2 = M2_4 156 2 := f8 156 2 (by first | omega | exact fun h => h)
  obtain ⟨h12, h13⟩ := h8
  refine ⟨?_, ?_⟩
  · intro g14
    have h15 := h12 g14
    refine fmX6_copyFrom h15 ?_
    intro M5_17 f16 h16
    have c18 : M5_17 167 1 = M3_9 167 1 := f16 167 1 (by first | omega | exact fun h => h)
    have c19 : M5_17 156 2 = M3_9 156 2 := f16 156 2 (by first | omega | exact fun h => h)
    obtain ⟨v20, h20⟩ := h16
    refine ⟨v20, ?_⟩
    have w20 : (M5_17 155 17).toNat = 187 ∨ (M5_17 155 17).toNat = 192 := v20
    refine fmX11_rightOnesOfTrial h20 ?_
    intro x7_22 M7_23 f21 h21
    have c24 : M7_23 167 1 = M5_17 167 1 := f21 167 1 (by first | omega | exact fun h => h)
    have c25 : M7_23 156 2 = M5_17 156 2 := f21 156 2 (by first | omega | exact fun h => h)
    intro g26
    have h27 := h21 g26
    refine cmbits_x h27 ?_
    intro x8_29 c28 h28
    intro g31
    have h32 := h28 g31
    refine fmX6_copyFrom h32 ?_
    intro M9_34 f33 h33
    have c35 : M9_34 167 1 = M7_23 167 1 := f33 167 1 (by first | omega | exact fun h => h)
    have c36 : M9_34 156 2 = M7_23 156 2 := f33 156 2 (by first | omega | exact fun h => h)
    obtain ⟨v37, h37⟩ := h33
    refine ⟨v37, ?_⟩
    have w37 : (M9_34 155 16).toNat = 187 ∨ (M9_34 155 16).toNat = 192 := v37
    refine fmX11_rightOnesOfTrial h37 ?_
    intro x11_39 M11_40 f38 h38
    have c41 : M11_40 167 1 = M9_34 167 1 := f38 167 1 (by first | omega | exact fun h => h)
    have c42 : M11_40 156 2 = M9_34 156 2 := f38 156 2 (by first | omega | exact fun h => h)
    intro g43
    have h44 := h38 g43
    refine cmbits_x h44 ?_
    intro x12_46 c45 h45
    intro g48
    have h49 := h45 g48
    refine fmX4_tellTwo (cmX4_tellTwo h49 (fun M' a q => (And.intro a q))) ?_
    intro M13_51 f50 q50
    obtain ⟨c50, h50⟩ := q50
    have c52 : M13_51 156 2 = M11_40 156 2 := f50 156 2 (by first | omega | exact fun h => h)
    obtain ⟨v53, h53⟩ := h50
    refine ⟨v53, ?_⟩
    exact hQ _ _ (by first | exact True.intro | omega) h53
  · intro g54
    have h55 := h13 g54
    obtain ⟨v56, h56⟩ := h55
    refine ⟨v56, ?_⟩
    exact hQ _ _ (by first | exact True.intro | omega) h56
theorem cmX11_rests_L32 {p1 : Int} {g0 g1 : Int} {X85 X85' : Int → Int → Mem → Prop} {Q Q' : Int → Mem → Prop} (hQ : ∀ (w0 : Int) (M' : Mem), (False) → Q w0 M' → Q' w0 M') (hX85 : ∀ (w0 w1 : Int) (M' : Mem), (((w0 = 0 ∧ M' 167 1 = 0) ∨ (1 ≤ w0 ∧ M' 167 1 = 2))) → X85 w0 w1 M' → X85' w0 w1 M') : ∀ (n : Nat) (v2 v3 v4 : Int) (M : Mem), (((v2 = 0 ∧ M 167 1 = 0) ∨ (1 ≤ v2 ∧ M 167 1 = 2))) → qX11_rests_L32 p1 X85 Q n v2 v3 v4 M → qX11_rests_L32 p1 X85' Q' n v2 v3 v4 M := by
  intro n
  induction n with
  | zero => intro v2 v3 v4 M _ h; exact h.elim
  | succ n ih =>
    intro v2 v3 v4 M hI h
    rw [qX11_rests_L32] at h
    rw [qX11_rests_L32]
    obtain ⟨v1, h1⟩ := h
    refine ⟨v1, ?_⟩
    obtain ⟨h2, h3⟩ := h1
    refine ⟨?_, ?_⟩
    · intro g4
      have h5 := h2 g4
      exact hX85 _ _ _ (by first | exact True.intro | exact hI | exact Or.inr ⟨by omega, by omega⟩ | omega) h5
    · intro g6
      have h7 := h3 g6
      obtain ⟨v8, h8⟩ := h7
      refine ⟨v8, ?_⟩
      refine fmX11_isBestAnswer h8 ?_
      intro x10_10 M10_11 f9 h9
      have c12 : M10_11 167 1 = M 167 1 := f9 167 1 (by first | omega | exact fun h => h)
      intro g13 g14
      have h15 := h9 g13 g14
      clear g14
      obtain ⟨h16, h17⟩ := h15
      refine ⟨?_, ?_⟩
      · intro g18
        have h19 := h16 g18
        exact ih _ _ _ _ (by first | exact True.intro | exact hI | (rw [c12]; exact hI) | exact Or.inr ⟨by omega, by omega⟩ | omega) h19
      · intro g20
        have h21 := h17 g20
        refine fmX11_isBestAnswer h21 ?_
        intro x12_23 M12_24 f22 h22
        have c25 : M12_24 167 1 = M10_11 167 1 := f22 167 1 (by first | omega | exact fun h => h)
        intro g26 g27
        have h28 := h22 g26 g27
        clear g27
        obtain ⟨h29, h30⟩ := h28
        refine ⟨?_, ?_⟩
        · intro g31
          have h32 := h29 g31
          exact ih _ _ _ _ (by first | exact True.intro | exact hI | (rw [(c25.trans c12)]; exact hI) | exact Or.inr ⟨by omega, by omega⟩ | omega) h32
        · intro g33
          have h34 := h30 g33
          obtain ⟨v35, h35⟩ := h34
          refine ⟨v35, ?_⟩
          obtain ⟨h36, h37⟩ := h35
          refine ⟨?_, ?_⟩
          · intro g38
            have h39 := h36 g38
            exact ih _ _ _ _ (by first | exact True.intro | exact hI | (rw [(c25.trans c12)]; exact hI) | exact Or.inr ⟨by omega, by omega⟩ | omega) h39
          · intro g40
            have h41 := h37 g40
            refine fmX4_tellTwo (cmX4_tellTwo h41 (fun M' a q => (And.intro a q))) ?_
            intro M16_43 f42 q42
            obtain ⟨c42, h42⟩ := q42
            exact ih _ _ _ _ (by first | exact True.intro | exact hI | exact Or.inr ⟨by omega, by omega⟩ | omega) h42
theorem cmX11_rests_L23 {p1 : Int} {g0 g1 : Int} {Q Q' : Int → Mem → Prop} (hQ : ∀ (w0 : Int) (M' : Mem), ((w0 = 0 ∧ M' 167 1 = 0) ∨ (1 ≤ w0 ∧ M' 167 1 = 2)) → Q w0 M' → Q' w0 M') : ∀ (n : Nat) (v2 v3 : Int) (M : Mem), (((v2 = 0 ∧ M 167 1 = 0) ∨ (1 ≤ v2 ∧ M 167 1 = 2))) → qX11_rests_L23 p1 Q n v2 v3 M → qX11_rests_L23 p1 Q' n v2 v3 M := by
  intro n
  induction n with
  | zero => intro v2 v3 M _ h; exact h.elim
  | succ n ih =>
    intro v2 v3 M hI h
    rw [qX11_rests_L23] at h
    rw [qX11_rests_L23]
    obtain ⟨v1, h1⟩ := h
    refine ⟨v1, ?_⟩
    obtain ⟨h2, h3⟩ := h1
    refine ⟨?_, ?_⟩
    · intro g4
      have h5 := h2 g4
      obtain ⟨v6, h6⟩ := h5
      refine ⟨v6, ?_⟩
      exact hQ _ _ (by first | exact True.intro | exact hI | exact Or.inr ⟨by omega, by omega⟩ | omega) h6
    · intro g7
      have h8 := h3 g7
      obtain ⟨n9, h9⟩ := h8
      refine ⟨n9, ?_⟩
      refine cmX11_rests_L32 (g0 := g0) (g1 := g1) ?_ ?_ _ _ _ _ _ (by first | exact True.intro | exact hI | exact Or.inr ⟨by omega, by omega⟩ | omega) h9
      · exact fun _ _ q _ => q.elim
      · intro v2_13 v3_14 M_15 c12 h12
        exact ih _ _ _ (by first | exact True.intro | exact c12 | exact Or.inr ⟨by omega, by omega⟩ | omega) h12
theorem cmX11_rests {p1 : Int} {M : Mem} {Q Q' : Int → Mem → Prop} (h : qX11_rests p1 M Q) (hQ : ∀ (w0 : Int) (M' : Mem), ((w0 = -1 ∧ M' 167 1 = M 167 1) ∨ (w0 = 0 ∧ M' 167 1 = 0) ∨ (1 ≤ w0 ∧ M' 167 1 = 2)) → Q w0 M' → Q' w0 M') : qX11_rests p1 M Q' := by
  unfold qX11_rests at h ⊢
  obtain ⟨h1, h2⟩ := h
  refine ⟨?_, ?_⟩
  · intro g3
    have h4 := h1 g3
    exact hQ _ _ (by first | exact True.intro | omega) h4
  · intro g5
    have h6 := h2 g5
    obtain ⟨h7, h8⟩ := h6
    refine ⟨?_, ?_⟩
    · intro g9
      have h10 := h7 g9
      refine fmX4_clear (cmX4_clear h10 (fun M' a q => (And.intro a q))) ?_
      intro M3_12 f11 q11
      obtain ⟨c11, h11⟩ := q11
      obtain ⟨n13, h13⟩ := h11
      refine ⟨n13, ?_⟩
      refine cmX11_rests_L23 (g0 := M3_12 167 1) (g1 := 0) ?_ _ _ _ _ (by first | exact True.intro | omega) h13
      · exact fun z14_0 M_14 c14 h14 => hQ _ M_14 (by first | exact True.intro | exact c14 | omega) h14
    · intro g15
      have h16 := h8 g15
      exact hQ _ _ (by first | exact True.intro | omega) h16
theorem cmX11_years_L31 {p1 : Int} {p2 : Int} {g0 g1 : Int} {X155 X155' : Mem → Prop} {Q Q' : Int → Mem → Prop} (hQ : ∀ (w0 : Int) (M' : Mem), (False) → Q w0 M' → Q' w0 M') (hX155 : ∀ (M' : Mem), (True) → X155 M' → X155' M') : ∀ (n : Nat) (v3 : Int) (M : Mem), (True) → qX11_years_L31 p1 p2 X155 Q n v3 M → qX11_years_L31 p1 p2 X155' Q' n v3 M := by
  intro n
  induction n with
  | zero => intro v3 M _ h; exact h.elim
  | succ n ih =>
    intro v3 M hI h
    rw [qX11_years_L31] at h
    rw [qX11_years_L31]
    obtain ⟨v1, h1⟩ := h
    refine ⟨v1, ?_⟩
    obtain ⟨h2, h3⟩ := h1
    refine ⟨?_, ?_⟩
    · intro g4
      have h5 := h2 g4
      exact hX155 _ (by first | exact True.intro | exact hI | omega) h5
    · intro g6
      have h7 := h3 g6
      refine fmX11_draw h7 ?_
      intro x7_9 M7_10 f8 h8
      have c11 : M7_10 167 1 = M 167 1 := f8 167 1 (by first | omega | exact fun h => h)
      intro g12
      have h13 := h8 g12
      obtain ⟨h14, h15⟩ := h13
      refine ⟨?_, ?_⟩
      · intro g16
        have h17 := h14 g16
        obtain ⟨h18, h19⟩ := h17
        refine ⟨?_, ?_⟩
        · intro g20
          have h21 := h18 g20
          intro x10_22 g23 g24
          have h22 := h21 x10_22 g23 g24
          obtain ⟨h25, h26⟩ := h22
          refine ⟨?_, ?_⟩
          · intro g27
            have h28 := h25 g27
            exact ih _ _ (by first | exact True.intro | exact hI | (rw [c11]; exact hI) | omega) h28
          · intro g29
            have h30 := h26 g29
            intro x12_31 g32 g33
            have h31 := h30 x12_31 g32 g33
            refine fmX11_draw h31 ?_
            intro x13_35 M13_36 f34 h34
            have c37 : M13_36 167 1 = M7_10 167 1 := f34 167 1 (by first | omega | exact fun h => h)
            intro g38
            have h39 := h34 g38
            refine fmX11_draw h39 ?_
            intro x14_41 M14_42 f40 h40
            have c43 : M14_42 167 1 = M13_36 167 1 := f40 167 1 (by first | omega | exact fun h => h)
            intro g44
            have h45 := h40 g44
            obtain ⟨v46, h46⟩ := h45
            refine ⟨v46, ?_⟩
            refine fmX6_shove h46 ?_
            intro x16_48 M16_49 f47 h47
            have c50 : M16_49 167 1 = M14_42 167 1 := f47 167 1 (by first | omega | exact fun h => h)
            intro g51
            have h52 := h47 g51
            exact ih _ _ (by first | exact True.intro | exact hI | (rw [(c50.trans (c43.trans (c37.trans c11)))]; exact hI) | omega) h52
        · intro g53
          have h54 := h19 g53
          intro x17_55 g56 g57
          have h55 := h54 x17_55 g56 g57
          obtain ⟨h58, h59⟩ := h55
          refine ⟨?_, ?_⟩
          · intro g60
            have h61 := h58 g60
            exact ih _ _ (by first | exact True.intro | exact hI | (rw [c11]; exact hI) | omega) h61
          · intro g62
            have h63 := h59 g62
            intro x19_64 g65 g66
            have h64 := h63 x19_64 g65 g66
            refine fmX11_draw h64 ?_
            intro x20_68 M20_69 f67 h67
            have c70 : M20_69 167 1 = M7_10 167 1 := f67 167 1 (by first | omega | exact fun h => h)
            intro g71
            have h72 := h67 g71
            refine fmX6_turn h72 ?_
            intro x21_74 M21_75 f73 h73
            have c76 : M21_75 167 1 = M20_69 167 1 := f73 167 1 (by first | omega | exact fun h => h)
            intro g77
            have h78 := h73 g77
            exact ih _ _ (by first | exact True.intro | exact hI | (rw [(c76.trans (c70.trans c11))]; exact hI) | omega) h78
      · intro g79
        have h80 := h15 g79
        obtain ⟨v81, h81⟩ := h80
        refine ⟨v81, ?_⟩
        have w81 : (M7_10 155 16).toNat = 187 ∨ (M7_10 155 16).toNat = 192 := v81
        refine fmX10_advance h81 ?_
        intro M23_83 f82 h82
        have c84 : M23_83 167 1 = M7_10 167 1 := f82 167 1 (by first | omega | exact fun h => h)
        exact ih _ _ (by first | exact True.intro | exact hI | (rw [(c84.trans c11)]; exact hI) | omega) h82
theorem cmX11_years {p1 : Int} {p2 : Int} {M : Mem} {Q Q' : Int → Mem → Prop} (h : qX11_years p1 p2 M Q) (hQ : ∀ (w0 : Int) (M' : Mem), (((1 ≤ p2 ∧ p2 ≤ 60) → M' 167 1 = 2) ∧ (¬ (1 ≤ p2 ∧ p2 ≤ 60) → M' 167 1 = M 167 1)) → Q w0 M' → Q' w0 M') : qX11_years p1 p2 M Q' := by
  unfold qX11_years at h ⊢
  obtain ⟨h1, h2⟩ := h
  refine ⟨?_, ?_⟩
  · intro g3
    have h4 := h1 g3
    exact hQ _ _ (by first | exact True.intro | omega) h4
  · intro g5
    have h6 := h2 g5
    obtain ⟨h7, h8⟩ := h6
    refine ⟨?_, ?_⟩
    · intro g9
      have h10 := h7 g9
      refine fmX6_copyFrom h10 ?_
      intro M3_12 f11 h11
      have c13 : M3_12 167 1 = M 167 1 := f11 167 1 (by first | omega | exact fun h => h)
      intro M4_14 eM4_14
      have h14 := h11 M4_14 eM4_14
      have c15 : M4_14 167 1 = M3_12 167 1 := by rw [eM4_14, up2_n (by omega)]
      obtain ⟨n16, h16⟩ := h14
      refine ⟨n16, ?_⟩
      refine cmX11_years_L31 (g0 := M4_14 167 1) (g1 := 0) ?_ ?_ _ _ _ (by first | exact True.intro | omega) h16
      · exact fun _ _ q _ => q.elim
      · intro M_20 c19 h19
        intro x25_21 g22 g23
        have h21 := h19 x25_21 g22 g23
        refine fmX6_rightBits h21 ?_
        intro x26_25 M26_26 f24 h24
        have c27 : M26_26 167 1 = M_20 167 1 := f24 167 1 (by first | omega | exact fun h => h)
        intro g28
        have h29 := h24 g28
        refine cmbits_x h29 ?_
        intro x27_31 c30 h30
        intro g33
        have h34 := h30 g33
        refine fmX4_tellTwo (cmX4_tellTwo h34 (fun M' a q => (And.intro a q))) ?_
        intro M28_36 f35 q35
        obtain ⟨c35, h35⟩ := q35
        intro x29_37 g38 g39
        have h37 := h35 x29_37 g38 g39
        exact hQ _ _ (by first | exact True.intro | exact c19 | omega) h37
    · intro g40
      have h41 := h8 g40
      exact hQ _ _ (by first | exact True.intro | omega) h41
