theorem sX12_sign_L18 {p1 : Int} {X53 : Mem → Prop} {Q : Int → Mem → Prop} {b : Int} (hQ : ∀ z : Int, ∀ M' : Mem, IM b M' → Q z M') (hX53 : ∀ M' : Mem, IM (b) M' → (M' 1 14 ≤ 76) → X53 M') : ∀ (n : Nat) (v2 : Int) (M : Mem), IM (b) M → (0 ≤ v2 ∧ v2 ≤ 4 ∧ M 1 14 ≤ 76) → 4 - v2 < (n : Int) → qX12_sign_L18 p1 X53 Q n v2 M := by
  intro n
  induction n with
  | zero => intro v2 M hI hv hm; exact absurd hm (by omega)
  | succ n ih =>
    intro v2 M hI hv hm
    rw [qX12_sign_L18]
    have hbn := hI.nn
    have u1 : 0 ≤ M 1 14 ∧ M 1 14 ≤ 80 := bm_c1_14.mp (hI.bx _ _)
    refine ⟨(by first | assumption | exact ⟨by omega, by omega⟩), ?_⟩
    refine ⟨fun c => ?_, fun c => ?_⟩
    · have u3 : 0 ≤ M 1 14 ∧ M 1 14 ≤ 80 := bm_c1_14.mp (hI.bx _ _)
      exact hX53 _ (hI.mono (by omega)) (by omega)
    · intro x6_5 ex6_5 rx6_5
      have bx6_5 : 0 ≤ x6_5 ∧ x6_5 ≤ 80 := by rw [ex6_5]; exact bm_c1_14.mp (hI.bx _ _)
      intro x7_6 ex7_6 rx7_6
      intro x8_7 ex8_7 rx8_7
      have fx8_7 := aI_255 x7_6; rw [← ex8_7] at fx8_7
      refine ⟨by omega, ?_⟩
      refine ⟨by omega, ?_⟩
      intro M11_8 h_M11_8
      have hM11_8 : IM (b) M11_8 := by rw [h_M11_8]; exact hI.up (by omega) (bm_c7.mpr ⟨by omega, by omega⟩)
      have u9 : 0 ≤ M11_8 1 14 ∧ M11_8 1 14 ≤ 80 := bm_c1_14.mp (hM11_8.bx _ _)
      have t10 : M11_8 1 14 = M 1 14 := by rw [h_M11_8, up2_n (by decide)]
      exact ih _ _ (hM11_8.mono (by omega)) (by omega) (by omega)
theorem sX12_sign {p1 : Int} {b : Int} {M : Mem} {Q : Int → Mem → Prop} (hI : IM b M) (hQ : ∀ z : Int, ∀ M' : Mem, IM b M' → Q z M') : qX12_sign p1 M Q := by
  unfold qX12_sign
  have hbn := hI.nn
  intro M1_11 h_M1_11
  have hM1_11 : IM (b) M1_11 := by rw [h_M1_11]; exact hI.up (by omega) (by simp [BM])
  intro x2_12 ex2_12 rx2_12
  have bx2_12 : 0 ≤ x2_12 ∧ x2_12 ≤ 80 := by rw [ex2_12]; exact bm_c1_14.mp (hM1_11.bx _ _)
  have fx2_12 : x2_12 = M 1 14 := by rw [ex2_12, h_M1_11, up2_j (by decide)]
  refine ⟨fun c => ?_, fun c => ?_⟩
  · refine ⟨5, ?_⟩
    have u14 : 0 ≤ M1_11 1 14 ∧ M1_11 1 14 ≤ 80 := bm_c1_14.mp (hM1_11.bx _ _)
    have t15 : M1_11 1 14 = M 1 14 := by rw [h_M1_11, up2_j (by decide)]
    refine sX12_sign_L18 (b := b) (p1 := p1) ?_ ?_ _ _ _ (hM1_11.mono (by omega)) (by omega) (by omega)
    · exact hQ
    · intro M_16 hM_16 p17
      intro x13_18 ex13_18 rx13_18
      have bx13_18 : 0 ≤ x13_18 ∧ x13_18 ≤ 80 := by rw [ex13_18]; exact bm_c1_14.mp (hM_16.bx _ _)
      refine ⟨(by first | assumption | exact ⟨by omega, by omega⟩), ?_⟩
      intro M15_19 h_M15_19
      have hM15_19 : IM (b) M15_19 := by rw [h_M15_19]; exact hM_16.up (by omega) (bm_c1_14.mpr ⟨by omega, by omega⟩)
      intro x16_20 ex16_20 rx16_20
      have bx16_20 : 0 ≤ x16_20 ∧ x16_20 ≤ 80 := by rw [ex16_20]; exact bm_c1_14.mp (hM15_19.bx _ _)
      have fx16_20 : x16_20 = x13_18 + 4 := by rw [ex16_20, h_M15_19, up2_s]
      exact hQ _ _ (hM15_19.mono (by omega))
  · exact hQ _ _ (hM1_11.mono (by omega))
theorem sX12_in {p0 : Int} {p2 : Int} {p4 : Int} {b : Int} {M : Mem} {Q : Int → Mem → Prop} (hI : IM b M) (hQ : ∀ z : Int, ((z = 0 ∨ z = 1) ∧ (z = 1 → p2 ≤ p0 ∧ p0 ≤ p4) ∧ (z = 0 → p0 < p2 ∨ p4 < p0)) → Q z M) : qX12_in p0 p2 p4 M Q := by
  unfold qX12_in
  have hbn := hI.nn
  intro x1_22 rx1_22 cx1_22
  refine ⟨fun c => ?_, fun c => ?_⟩
  · exact hQ _ (by omega)
  · intro x3_25 rx3_25 cx3_25
    refine ⟨fun c => ?_, fun c => ?_⟩
    · exact hQ _ (by omega)
    · exact hQ _ (by omega)
theorem sX12_end {p1 : Int} {b : Int} {M : Mem} {Q : Int → Mem → Prop} (hI : IM b M) (hQ : ∀ z : Int, ∀ M' : Mem, IM b M' → Q z M') : qX12_end p1 M Q := by
  unfold qX12_end
  have hbn := hI.nn
  intro M1_28 h_M1_28
  have hM1_28 : IM (b) M1_28 := by rw [h_M1_28]; exact hI.up (by omega) (by simp [BM])
  intro x2_29 ex2_29 rx2_29
  have bx2_29 : 0 ≤ x2_29 ∧ x2_29 ≤ 80 := by rw [ex2_29]; exact bm_c1_14.mp (hM1_28.bx _ _)
  have fx2_29 : x2_29 = M 1 14 := by rw [ex2_29, h_M1_28, up2_j (by decide)]
  refine sX12_in (p0 := p1) (p2 := 0) (p4 := x2_29) hM1_28  ?_
  intro x3_30 p31 q32 q33
  refine ⟨fun c => ?_, fun c => ?_⟩
  · intro M5_35 h_M5_35
    have hM5_35 : IM (b) M5_35 := by rw [h_M5_35]; exact hM1_28.up (by omega) (bm_c1_14.mpr ⟨by omega, by omega⟩)
    exact hQ _ _ (hM5_35.mono (by omega))
  · exact hQ _ _ (hM1_28.mono (by omega))
theorem sX12_begins {p1 : Int} {b : Int} {M : Mem} {Q : Int → Mem → Prop} (hI : IM b M) (hp : 0 ≤ p1 ∧ p1 ≤ 80) (hQ : ∀ z : Int, ∀ M' : Mem, IM b M' → FrJ (fun k j => k = 1 ∧ (j = 14 ∨ j = 15 ∨ j = 16 ∨ j = 17)) M M' → (0 ≤ z ∧ z ≤ 80 ∧ M' 1 15 = 0 ∧ M' 1 16 ≤ p1 ∧ M' 1 17 = 0 ∧ z = M 1 14 ∧ M' 1 14 = 0) → Q z M') : qX12_begins p1 M Q := by
  unfold qX12_begins
  have hbn := hI.nn
  have u37 : 0 ≤ M 1 14 ∧ M 1 14 ≤ 80 := bm_c1_14.mp (hI.bx _ _)
  have u38 : 0 ≤ M 1 15 ∧ M 1 15 ≤ 80 := bm_c1_15.mp (hI.bx _ _)
  have u39 : 0 ≤ M 1 16 ∧ M 1 16 ≤ 80 := bm_c1_16.mp (hI.bx _ _)
  intro x1_40 ex1_40 rx1_40
  have bx1_40 : 0 ≤ x1_40 ∧ x1_40 ≤ 80 := by rw [ex1_40]; exact bm_c1_14.mp (hI.bx _ _)
  intro M2_41 h_M2_41
  have hM2_41 : IM (b) M2_41 := by rw [h_M2_41]; exact hI.up (by omega) (bm_c1_14.mpr ⟨by omega, by omega⟩)
  have hFM2_41 : FrJ (fun k j => k = 1 ∧ (j = 14 ∨ j = 15 ∨ j = 16 ∨ j = 17)) M M2_41 := by rw [h_M2_41]; exact (FrJ.rf).up (by omega)
  intro M3_42 h_M3_42
  have hM3_42 : IM (b) M3_42 := by rw [h_M3_42]; exact hM2_41.up (by omega) (bm_c1_15.mpr ⟨by omega, by omega⟩)
  have hFM3_42 : FrJ (fun k j => k = 1 ∧ (j = 14 ∨ j = 15 ∨ j = 16 ∨ j = 17)) M M3_42 := by rw [h_M3_42]; exact (hFM2_41).up (by omega)
  intro M4_43 h_M4_43
  have hM4_43 : IM (b) M4_43 := by rw [h_M4_43]; exact hM3_42.up (by omega) (by simp [BM])
  have hFM4_43 : FrJ (fun k j => k = 1 ∧ (j = 14 ∨ j = 15 ∨ j = 16 ∨ j = 17)) M M4_43 := by rw [h_M4_43]; exact (hFM3_42).up (by omega)
  intro x5_44 ex5_44 rx5_44
  intro M6_45 h_M6_45
  have hM6_45 : IM (b) M6_45 := by rw [h_M6_45]; exact hM4_43.up (by omega) (bm_c1_16.mpr ⟨by omega, by omega⟩)
  have hFM6_45 : FrJ (fun k j => k = 1 ∧ (j = 14 ∨ j = 15 ∨ j = 16 ∨ j = 17)) M M6_45 := by rw [h_M6_45]; exact (hFM4_43).up (by omega)
  have u46 : 0 ≤ M6_45 1 15 ∧ M6_45 1 15 ≤ 80 := bm_c1_15.mp (hM6_45.bx _ _)
  have u47 : 0 ≤ M6_45 1 16 ∧ M6_45 1 16 ≤ 80 := bm_c1_16.mp (hM6_45.bx _ _)
  have u48 : 0 ≤ M6_45 1 14 ∧ M6_45 1 14 ≤ 80 := bm_c1_14.mp (hM6_45.bx _ _)
  have t49 : M6_45 1 15 = 0 := by rw [h_M6_45, up2_j (by decide), h_M4_43, up2_j (by decide), h_M3_42, up2_s]
  have t50 : M6_45 1 16 = x5_44 := by rw [h_M6_45, up2_s]
  have t51 : M6_45 1 17 = 0 := by rw [h_M6_45, up2_j (by decide), h_M4_43, up2_s]
  have t52 : M6_45 1 14 = 0 := by rw [h_M6_45, up2_j (by decide), h_M4_43, up2_j (by decide), h_M3_42, up2_j (by decide), h_M2_41, up2_s]
  exact hQ _ _ (hM6_45.mono (by omega)) hFM6_45 (by omega)
theorem sX12_flag {p0 : Int} {b : Int} {M : Mem} {Q : Int → Mem → Prop} (hI : IM b M) (hQ : ∀ z : Int, ((z = 0 ∨ z = 1) ∧ (z = 0 → p0 = 0) ∧ (z = 1 → ¬ p0 = 0)) → Q z M) : qX12_flag p0 M Q := by
  unfold qX12_flag
  have hbn := hI.nn
  refine ⟨fun c => ?_, fun c => ?_⟩
  · exact hQ _ (by omega)
  · exact hQ _ (by omega)
theorem sX12_takesOf_L2 {bs : List Int} {X38 : Int → Mem → Prop} {Q : Int → Mem → Prop} {b : Int} {M0 : Mem} (hp : (bs.length : Int) ≤ 7) (hQ : ∀ z : Int, ∀ M' : Mem, IM b M' → FrJ (fun k j => k = 1 ∧ j = 15) M0 M' → (-1 ≤ z ∧ z < bs.length ∧ z ≤ 6 ∧ M0 1 15 ≤ M' 1 15 ∧ (0 ≤ z → M' 1 15 = M0 1 15 + 1)) → Q z M') (hX38 : ∀ w1 : Int, ∀ M' : Mem, IM (b) M' → FrJ (fun k j => k = 1 ∧ j = 15) M0 M' → (0 ≤ w1 ∧ w1 < bs.length ∧ M' 1 15 < M' 1 16 ∧ M' 1 16 ≤ 80 ∧ M' 1 15 = M0 1 15) → X38 w1 M') : ∀ (n : Nat) (v2 : Int) (M : Mem), IM (b) M → FrJ (fun k j => k = 1 ∧ j = 15) M0 M → (0 ≤ v2 ∧ v2 ≤ bs.length ∧ M 1 15 = M0 1 15) → bs.length - v2 < (n : Int) → qX12_takesOf_L2 bs X38 Q n v2 M := by
  intro n
  induction n with
  | zero => intro v2 M hI hF hv hm; exact absurd hm (by omega)
  | succ n ih =>
    intro v2 M hI hF hv hm
    rw [qX12_takesOf_L2]
    have hbn := hI.nn
    have u55 : 0 ≤ M 1 15 ∧ M 1 15 ≤ 80 := bm_c1_15.mp (hI.bx _ _)
    have u56 : 0 ≤ M 1 16 ∧ M 1 16 ≤ 80 := bm_c1_16.mp (hI.bx _ _)
    intro x1_57 ex1_57 rx1_57
    refine ⟨(by first | assumption | exact ⟨by omega, by omega⟩), ?_⟩
    refine ⟨fun c => ?_, fun c => ?_⟩
    · have u59 : 0 ≤ M 1 15 ∧ M 1 15 ≤ 80 := bm_c1_15.mp (hI.bx _ _)
      exact hQ _ _ (hI.mono (by omega)) hF (by omega)
    · intro x4_61 ex4_61 rx4_61
      have bx4_61 : 0 ≤ x4_61 ∧ x4_61 ≤ 80 := by rw [ex4_61]; exact bm_c1_15.mp (hI.bx _ _)
      intro x5_62 ex5_62 rx5_62
      have bx5_62 : 0 ≤ x5_62 ∧ x5_62 ≤ 80 := by rw [ex5_62]; exact bm_c1_16.mp (hI.bx _ _)
      refine ⟨fun c => ?_, fun c => ?_⟩
      · have u64 : 0 ≤ M 1 15 ∧ M 1 15 ≤ 80 := bm_c1_15.mp (hI.bx _ _)
        exact hQ _ _ (hI.mono (by omega)) hF (by omega)
      · refine ⟨by omega, ?_⟩
        refine ⟨by omega, ?_⟩
        intro x9_66 ex9_66 rx9_66
        intro x10_67 ex10_67 rx10_67
        have bx10_67 : 0 ≤ x10_67 ∧ x10_67 ≤ 80 := by rw [ex10_67]; exact bm_c1_15.mp (hI.bx _ _)
        refine ⟨by omega, ?_⟩
        refine ⟨by omega, ?_⟩
        intro x13_68 ex13_68 rx13_68
        have bx13_68 : 0 ≤ x13_68 ∧ x13_68 ≤ 255 := by rw [ex13_68]; exact bm_c7.mp (hI.bx _ _)
        have cgx13_68 : x13_68 = M 7 (M 1 15) := by rw [ex13_68, ← ex10_67]
        refine ⟨fun c => ?_, fun c => ?_⟩
        · exact ih _ _ (hI.mono (by omega)) hF (by omega) (by omega)
        · exact hX38 _ _ (hI.mono (by omega)) hF (by omega)
theorem sX12_takesOf {bs : List Int} {b : Int} {M : Mem} {Q : Int → Mem → Prop} (hI : IM b M) (hp : (bs.length : Int) ≤ 7) (hQ : ∀ z : Int, ∀ M' : Mem, IM b M' → FrJ (fun k j => k = 1 ∧ j = 15) M M' → (-1 ≤ z ∧ z < bs.length ∧ z ≤ 6 ∧ M 1 15 ≤ M' 1 15 ∧ (0 ≤ z → M' 1 15 = M 1 15 + 1)) → Q z M') : qX12_takesOf bs M Q := by
  unfold qX12_takesOf
  have hbn := hI.nn
  have u71 : 0 ≤ M 1 15 ∧ M 1 15 ≤ 80 := bm_c1_15.mp (hI.bx _ _)
  refine ⟨(bs.length + 1), ?_⟩
  refine sX12_takesOf_L2 (b := b)  (M0 := M) hp ?_ ?_ _ _ _ (hI.mono (by omega)) FrJ.rf (by omega) (by omega)
  · exact hQ
  · intro v2_72 M_73 hM_73 hFM_73 p74
    intro x16_75 ex16_75 rx16_75
    have bx16_75 : 0 ≤ x16_75 ∧ x16_75 ≤ 80 := by rw [ex16_75]; exact bm_c1_15.mp (hM_73.bx _ _)
    refine ⟨(by first | assumption | exact ⟨by omega, by omega⟩), ?_⟩
    intro M18_76 h_M18_76
    have hM18_76 : IM (b) M18_76 := by rw [h_M18_76]; exact hM_73.up (by omega) (bm_c1_15.mpr ⟨by omega, by omega⟩)
    have hFM18_76 : FrJ (fun k j => k = 1 ∧ j = 15) M M18_76 := by rw [h_M18_76]; exact (hFM_73).up (by omega)
    refine ⟨(by first | assumption | exact ⟨by omega, by omega⟩), ?_⟩
    have u77 : 0 ≤ M18_76 1 15 ∧ M18_76 1 15 ≤ 80 := bm_c1_15.mp (hM18_76.bx _ _)
    have t78 : M18_76 1 15 = x16_75 + 1 := by rw [h_M18_76, up2_s]
    exact hQ _ _ (hM18_76.mono (by omega)) hFM18_76 (by omega)
theorem sX12_avenue_L16  {X69 : Int → Mem → Prop} {Q : Int → Mem → Prop} {b : Int} (hb : b + 1 ≤ 2000000000) (hQ : ∀ z : Int, ∀ M' : Mem, IM (b + 1) M' → Q z M') (hX69 : ∀ w1 : Int, ∀ M' : Mem, IM (b) M' → (0 ≤ w1 ∧ w1 ≤ 30) → X69 w1 M') : ∀ (n : Nat) (v1 v2 : Int) (M : Mem), IM (b) M → (0 ≤ v1 ∧ v1 ≤ 30 ∧ 0 ≤ v2 ∧ v2 ≤ 1) → 30 - v1 + v2 < (n : Int) → qX12_avenue_L16 X69 Q n v1 v2 M := by
  intro n
  induction n with
  | zero => intro v1 v2 M hI hv hm; exact absurd hm (by omega)
  | succ n ih =>
    intro v1 v2 M hI hv hm
    rw [qX12_avenue_L16]
    have hbn := hI.nn
    refine ⟨(by first | assumption | exact ⟨by omega, by omega⟩), ?_⟩
    refine ⟨fun c => ?_, fun c => ?_⟩
    · exact hX69 _ _ (hI.mono (by omega)) (by omega)
    · refine ⟨(by first | assumption | exact ⟨by omega, by omega⟩), ?_⟩
      refine ⟨fun c => ?_, fun c => ?_⟩
      · exact hX69 _ _ (hI.mono (by omega)) (by omega)
      · refine sX12_takesOf  hI (by first | decide | exact tk2 _) ?_
        intro x7_83 M7_84 hM7_84 gM7_84 p85 q86
        refine ⟨fun c => ?_, fun c => ?_⟩
        · unfold qX12_avenue_J42
          refine ⟨(by first | assumption | exact ⟨by omega, by omega⟩), ?_⟩
          refine ⟨fun c => ?_, fun c => ?_⟩
          · unfold qX12_avenue_J58
            refine ⟨by omega, ?_⟩
            refine ⟨by omega, ?_⟩
            refine ⟨(by first | assumption | exact ⟨by omega, by omega⟩), ?_⟩
            refine ⟨by omega, ?_⟩
            intro M15_89 h_M15_89
            have hM15_89 : IM (b) M15_89 := by rw [h_M15_89]; exact hM7_84.up (by omega) (bm_c8.mpr ⟨by omega, by omega⟩)
            refine ⟨(by first | assumption | exact ⟨by omega, by omega⟩), ?_⟩
            refine sX12_flag (p0 := 0) hM15_89  ?_
            intro x17_90 p91 q92
            exact ih _ _ _ (hM15_89.mono (by omega)) (by omega) (by omega)
          · unfold qX12_avenue_J58
            refine ⟨by omega, ?_⟩
            refine ⟨by omega, ?_⟩
            refine ⟨(by first | assumption | exact ⟨by omega, by omega⟩), ?_⟩
            refine ⟨by omega, ?_⟩
            intro M15_94 h_M15_94
            have hM15_94 : IM (b) M15_94 := by rw [h_M15_94]; exact hM7_84.up (by omega) (bm_c8.mpr ⟨by omega, by omega⟩)
            refine ⟨(by first | assumption | exact ⟨by omega, by omega⟩), ?_⟩
            refine sX12_flag (p0 := 0) hM15_94  ?_
            intro x17_95 p96 q97
            exact ih _ _ _ (hM15_94.mono (by omega)) (by omega) (by omega)
        · unfold qX12_avenue_J42
          refine ⟨(by first | assumption | exact ⟨by omega, by omega⟩), ?_⟩
          refine ⟨fun c => ?_, fun c => ?_⟩
          · unfold qX12_avenue_J58
            refine ⟨by omega, ?_⟩
            refine ⟨by omega, ?_⟩
            refine ⟨(by first | assumption | exact ⟨by omega, by omega⟩), ?_⟩
            refine ⟨by omega, ?_⟩
            intro M15_100 h_M15_100
            have hM15_100 : IM (b) M15_100 := by rw [h_M15_100]; exact hM7_84.up (by omega) (bm_c8.mpr ⟨by omega, by omega⟩)
            refine ⟨(by first | assumption | exact ⟨by omega, by omega⟩), ?_⟩
            refine sX12_flag (p0 := 1) hM15_100  ?_
            intro x17_101 p102 q103
            exact ih _ _ _ (hM15_100.mono (by omega)) (by omega) (by omega)
          · unfold qX12_avenue_J58
            refine ⟨by omega, ?_⟩
            refine ⟨by omega, ?_⟩
            refine ⟨(by first | assumption | exact ⟨by omega, by omega⟩), ?_⟩
            refine ⟨by omega, ?_⟩
            intro M15_105 h_M15_105
            have hM15_105 : IM (b) M15_105 := by rw [h_M15_105]; exact hM7_84.up (by omega) (bm_c8.mpr ⟨by omega, by omega⟩)
            refine ⟨(by first | assumption | exact ⟨by omega, by omega⟩), ?_⟩
            refine sX12_flag (p0 := 1) hM15_105  ?_
            intro x17_106 p107 q108
            exact ih _ _ _ (hM15_105.mono (by omega)) (by omega) (by omega)
theorem sX12_avenue_L99  {X122 : Int → Mem → Prop} {Q : Int → Mem → Prop} {b : Int} (hb : b + 1 ≤ 2000000000) (hQ : ∀ z : Int, ∀ M' : Mem, IM (b + 1) M' → Q z M') (hX122 : ∀ w1 : Int, ∀ M' : Mem, IM (b) M' → (4 ≤ w1 ∧ w1 ≤ 30) → X122 w1 M') : ∀ (n : Nat) (v1 v3 : Int) (M : Mem), IM (b) M → (0 ≤ v3 ∧ v3 ≤ 30 ∧ 4 ≤ v1 ∧ v1 ≤ 30) → 30 - v3 < (n : Int) → qX12_avenue_L99 X122 Q n v1 v3 M := by
  intro n
  induction n with
  | zero => intro v1 v3 M hI hv hm; exact absurd hm (by omega)
  | succ n ih =>
    intro v1 v3 M hI hv hm
    rw [qX12_avenue_L99]
    have hbn := hI.nn
    refine ⟨(by first | assumption | exact ⟨by omega, by omega⟩), ?_⟩
    refine ⟨(by first | assumption | exact ⟨by omega, by omega⟩), ?_⟩
    refine ⟨fun c => ?_, fun c => ?_⟩
    · exact hX122 _ _ (hI.mono (by omega)) (by omega)
    · refine ⟨by omega, ?_⟩
      refine ⟨by omega, ?_⟩
      intro x32_111 ex32_111 rx32_111
      have bx32_111 : 0 ≤ x32_111 ∧ x32_111 ≤ 1 := by rw [ex32_111]; exact bm_c8.mp (hI.bx _ _)
      refine ⟨by omega, ?_⟩
      intro M34_112 h_M34_112
      have hM34_112 : IM (b) M34_112 := by rw [h_M34_112]; exact hI.up (by omega) (by simp [BM])
      exact ih _ _ _ (hM34_112.mono (by omega)) (by omega) (by omega)
theorem sX12_avenue_L155   {Q : Int → Mem → Prop} {b : Int} (hb : b + 1 ≤ 2000000000) (hQ : ∀ z : Int, ∀ M' : Mem, IM (b + 1) M' → Q z M') : ∀ (n : Nat) (v1 v3 : Int) (M : Mem), IM (b + 1) M → (0 ≤ v3 ∧ v3 ≤ 3 ∧ 4 ≤ v1 ∧ v1 ≤ 30) → 3 - v3 < (n : Int) → qX12_avenue_L155 Q n v1 v3 M := by
  intro n
  induction n with
  | zero => intro v1 v3 M hI hv hm; exact absurd hm (by omega)
  | succ n ih =>
    intro v1 v3 M hI hv hm
    rw [qX12_avenue_L155]
    have hbn := hI.nn
    refine ⟨(by first | assumption | exact ⟨by omega, by omega⟩), ?_⟩
    refine ⟨fun c => ?_, fun c => ?_⟩
    · refine ⟨(by first | assumption | exact ⟨by omega, by omega⟩), ?_⟩
      exact hQ _ _ (hI.mono (by omega))
    · refine ⟨by omega, ?_⟩
      refine ⟨by omega, ?_⟩
      intro M46_115 h_M46_115
      have hM46_115 : IM (b + 1) M46_115 := by rw [h_M46_115]; exact hI.up (by omega) (by simp [BM])
      exact ih _ _ _ (hM46_115.mono (by omega)) (by omega) (by omega)
theorem sX12_avenue  {b : Int} {M : Mem} {Q : Int → Mem → Prop} (hI : IM b M) (hb : b + 1 ≤ 2000000000) (hQ : ∀ z : Int, ∀ M' : Mem, IM (b + 1) M' → Q z M') : qX12_avenue M Q := by
  unfold qX12_avenue
  have hbn := hI.nn
  intro M1_116 h_M1_116
  have hM1_116 : IM (b) M1_116 := by rw [h_M1_116]; exact hI.up (by omega) (by simp [BM])
  refine sX12_begins (p1 := 80) hM1_116 (by omega) ?_
  intro x2_117 M2_118 hM2_118 gM2_118 p119 q120
  refine ⟨32, ?_⟩
  refine sX12_avenue_L16 (b := b)  hb ?_ ?_ _ _ _ _ (hM2_118.mono (by omega)) (by omega) (by omega)
  · exact hQ
  · intro v1_121 M_122 hM_122 p123
    unfold qX12_avenue_J69
    refine ⟨(by first | assumption | exact ⟨by omega, by omega⟩), ?_⟩
    refine ⟨fun c => ?_, fun c => ?_⟩
    · intro x21_125 ex21_125 rx21_125
      have bx21_125 : 0 ≤ x21_125 ∧ x21_125 ≤ 80 := by rw [ex21_125]; exact bm_c1_15.mp (hM_122.bx _ _)
      refine ⟨(by first | assumption | exact ⟨by omega, by omega⟩), ?_⟩
      exact hQ _ _ (hM_122.mono (by omega))
    · intro x23_127 ex23_127 rx23_127
      have bx23_127 : 0 ≤ x23_127 ∧ x23_127 ≤ 80 := by rw [ex23_127]; exact bm_c1_15.mp (hM_122.bx _ _)
      intro x24_128 ex24_128 rx24_128
      have bx24_128 : 0 ≤ x24_128 ∧ x24_128 ≤ 80 := by rw [ex24_128]; exact bm_c1_16.mp (hM_122.bx _ _)
      refine ⟨fun c => ?_, fun c => ?_⟩
      · intro M26_130 h_M26_130
        have hM26_130 : IM (b) M26_130 := by rw [h_M26_130]; exact hM_122.up (by omega) (bm_c1_3.mpr ⟨by omega, by omega⟩)
        refine ⟨31, ?_⟩
        refine sX12_avenue_L99 (b := b)  hb ?_ ?_ _ _ _ _ (hM26_130.mono (by omega)) (by omega) (by omega)
        · exact hQ
        · intro v1_131 M_132 hM_132 p133
          intro M36_134 h_M36_134
          have hM36_134 : IM (b) M36_134 := by rw [h_M36_134]; exact hM_132.up (by omega) (bm_c1_4.mpr ⟨by omega, by omega⟩)
          intro M37_135 h_M37_135
          have hM37_135 : IM (b) M37_135 := by rw [h_M37_135]; exact hM36_134.up (by omega) (bm_c1_5.mpr ⟨by omega, by omega⟩)
          intro M38_136 h_M38_136
          have hM38_136 : IM (b) M38_136 := by rw [h_M38_136]; exact hM37_135.up (by omega) ((bm_n (Or.inl rfl)).mpr (by first | assumption | exact ⟨by omega, by omega, by omega, by omega⟩))
          intro M39_137 h_M39_137
          have hM39_137 : IM (b + 1) M39_137 := by rw [h_M39_137]; exact (hM38_136.mono (by omega)).up (by omega) ((bm_n (Or.inl rfl)).mpr ⟨by omega, by omega, by omega, by omega⟩)
          intro M40_138 h_M40_138
          have hM40_138 : IM (b + 1) M40_138 := by rw [h_M40_138]; exact hM39_137.up (by omega) (bm_c1_28.mpr ⟨by omega, by omega⟩)
          refine ⟨4, ?_⟩
          refine sX12_avenue_L155 (b := b)  hb ?_ _ _ _ _ (hM40_138.mono (by omega)) (by omega) (by omega)
          · exact hQ
      · intro x48_140 ex48_140 rx48_140
        have bx48_140 : 0 ≤ x48_140 ∧ x48_140 ≤ 80 := by rw [ex48_140]; exact bm_c1_15.mp (hM_122.bx _ _)
        refine ⟨(by first | assumption | exact ⟨by omega, by omega⟩), ?_⟩
        exact hQ _ _ (hM_122.mono (by omega))
theorem sX12_faultOf {p1 : Int} {p2 : Int} {p3 : Int} {b : Int} {M : Mem} {Q : Int → Mem → Prop} (hI : IM b M) (hp : 0 ≤ p2 ∧ p2 ≤ 80) (hQ : ∀ z : Int, (-100 ≤ z ∧ z ≤ 0 ∧ (p3 = 0 → z ≤ -1)) → Q z M) : qX12_faultOf p1 p2 p3 M Q := by
  unfold qX12_faultOf
  have hbn := hI.nn
  refine ⟨fun c => ?_, fun c => ?_⟩
  · unfold qX12_faultOf_J19
    unfold qX12_faultOf_J20
    refine ⟨fun c => ?_, fun c => ?_⟩
    · unfold qX12_faultOf_J44
      refine ⟨(by first | assumption | exact ⟨by omega, by omega⟩), ?_⟩
      refine ⟨fun c => ?_, fun c => ?_⟩
      · intro x5_144 ex5_144 rx5_144
        have bx5_144 : 0 ≤ x5_144 ∧ x5_144 ≤ 80 := by rw [ex5_144]; exact bm_c1_15.mp (hI.bx _ _)
        refine ⟨(by first | assumption | exact ⟨by omega, by omega⟩), ?_⟩
        exact hQ _ (by omega)
      · exact hQ _ (by omega)
    · refine ⟨(by first | assumption | exact ⟨by omega, by omega⟩), ?_⟩
      refine ⟨fun c => ?_, fun c => ?_⟩
      · refine ⟨(by first | assumption | exact ⟨by omega, by omega⟩), ?_⟩
        exact hQ _ (by omega)
      · intro x10_149 ex10_149 rx10_149
        have bx10_149 : 0 ≤ x10_149 ∧ x10_149 ≤ 80 := by rw [ex10_149]; exact bm_c1_15.mp (hI.bx _ _)
        refine ⟨fun c => ?_, fun c => ?_⟩
        · unfold qX12_faultOf_J44
          refine ⟨(by first | assumption | exact ⟨by omega, by omega⟩), ?_⟩
          refine ⟨fun c => ?_, fun c => ?_⟩
          · intro x5_152 ex5_152 rx5_152
            have bx5_152 : 0 ≤ x5_152 ∧ x5_152 ≤ 80 := by rw [ex5_152]; exact bm_c1_15.mp (hI.bx _ _)
            refine ⟨(by first | assumption | exact ⟨by omega, by omega⟩), ?_⟩
            exact hQ _ (by omega)
          · exact hQ _ (by omega)
        · refine ⟨(by first | assumption | exact ⟨by omega, by omega⟩), ?_⟩
          exact hQ _ (by omega)
  · intro x13_156 ex13_156 rx13_156
    have bx13_156 : 0 ≤ x13_156 ∧ x13_156 ≤ 80 := by rw [ex13_156]; exact bm_c1_15.mp (hI.bx _ _)
    intro x14_157 ex14_157 rx14_157
    have bx14_157 : 0 ≤ x14_157 ∧ x14_157 ≤ 80 := by rw [ex14_157]; exact bm_c1_16.mp (hI.bx _ _)
    refine ⟨fun c => ?_, fun c => ?_⟩
    · unfold qX12_faultOf_J19
      unfold qX12_faultOf_J20
      refine ⟨fun c => ?_, fun c => ?_⟩
      · unfold qX12_faultOf_J44
        refine ⟨(by first | assumption | exact ⟨by omega, by omega⟩), ?_⟩
        refine ⟨fun c => ?_, fun c => ?_⟩
        · intro x5_161 ex5_161 rx5_161
          have bx5_161 : 0 ≤ x5_161 ∧ x5_161 ≤ 80 := by rw [ex5_161]; exact bm_c1_15.mp (hI.bx _ _)
          refine ⟨(by first | assumption | exact ⟨by omega, by omega⟩), ?_⟩
          exact hQ _ (by omega)
        · exact hQ _ (by omega)
      · refine ⟨(by first | assumption | exact ⟨by omega, by omega⟩), ?_⟩
        refine ⟨fun c => ?_, fun c => ?_⟩
        · refine ⟨(by first | assumption | exact ⟨by omega, by omega⟩), ?_⟩
          exact hQ _ (by omega)
        · intro x10_166 ex10_166 rx10_166
          have bx10_166 : 0 ≤ x10_166 ∧ x10_166 ≤ 80 := by rw [ex10_166]; exact bm_c1_15.mp (hI.bx _ _)
          refine ⟨fun c => ?_, fun c => ?_⟩
          · unfold qX12_faultOf_J44
            refine ⟨(by first | assumption | exact ⟨by omega, by omega⟩), ?_⟩
            refine ⟨fun c => ?_, fun c => ?_⟩
            · intro x5_169 ex5_169 rx5_169
              have bx5_169 : 0 ≤ x5_169 ∧ x5_169 ≤ 80 := by rw [ex5_169]; exact bm_c1_15.mp (hI.bx _ _)
              refine ⟨(by first | assumption | exact ⟨by omega, by omega⟩), ?_⟩
              exact hQ _ (by omega)
            · exact hQ _ (by omega)
          · refine ⟨(by first | assumption | exact ⟨by omega, by omega⟩), ?_⟩
            exact hQ _ (by omega)
    · unfold qX12_faultOf_J20
      refine ⟨fun c => ?_, fun c => ?_⟩
      · unfold qX12_faultOf_J44
        refine ⟨(by first | assumption | exact ⟨by omega, by omega⟩), ?_⟩
        refine ⟨fun c => ?_, fun c => ?_⟩
        · intro x5_175 ex5_175 rx5_175
          have bx5_175 : 0 ≤ x5_175 ∧ x5_175 ≤ 80 := by rw [ex5_175]; exact bm_c1_15.mp (hI.bx _ _)
          refine ⟨(by first | assumption | exact ⟨by omega, by omega⟩), ?_⟩
          exact hQ _ (by omega)
        · exact hQ _ (by omega)
      · refine ⟨(by first | assumption | exact ⟨by omega, by omega⟩), ?_⟩
        refine ⟨fun c => ?_, fun c => ?_⟩
        · refine ⟨(by first | assumption | exact ⟨by omega, by omega⟩), ?_⟩
          exact hQ _ (by omega)
        · intro x10_180 ex10_180 rx10_180
          have bx10_180 : 0 ≤ x10_180 ∧ x10_180 ≤ 80 := by rw [ex10_180]; exact bm_c1_15.mp (hI.bx _ _)
          refine ⟨fun c => ?_, fun c => ?_⟩
          · unfold qX12_faultOf_J44
            refine ⟨(by first | assumption | exact ⟨by omega, by omega⟩), ?_⟩
            refine ⟨fun c => ?_, fun c => ?_⟩
            · intro x5_183 ex5_183 rx5_183
              have bx5_183 : 0 ≤ x5_183 ∧ x5_183 ≤ 80 := by rw [ex5_183]; exact bm_c1_15.mp (hI.bx _ _)
              refine ⟨(by first | assumption | exact ⟨by omega, by omega⟩), ?_⟩
              exact hQ _ (by omega)
            · exact hQ _ (by omega)
          · refine ⟨(by first | assumption | exact ⟨by omega, by omega⟩), ?_⟩
            exact hQ _ (by omega)
theorem sX12_isNew  {b : Int} {M : Mem} {Q : Int → Mem → Prop} (hI : IM b M) (hb : b + 1 ≤ 2000000000) (hQ : ∀ z : Int, ∀ M' : Mem, IM (b + 1) M' → Q z M') : qX12_isNew M Q := by
  unfold qX12_isNew
  have hbn := hI.nn
  intro x1_186 ex1_186 rx1_186
  have bx1_186 : 0 ≤ x1_186 ∧ x1_186 ≤ 8 := by rw [ex1_186]; exact bm_c1_20.mp (hI.bx _ _)
  refine ⟨fun c => ?_, fun c => ?_⟩
  · intro x3_188 ex3_188 rx3_188
    have bx3_188 : 0 ≤ x3_188 ∧ x3_188 ≤ 15 := by rw [ex3_188]; exact bm_c1_28.mp (hI.bx _ _)
    unfold qX12_isNew_J16
    refine ⟨(by first | assumption | exact ⟨by omega, by omega⟩), ?_⟩
    intro M5_189 h_M5_189
    have hM5_189 : IM (b) M5_189 := by rw [h_M5_189]; exact hI.up (by omega) (bm_c1_28.mpr ⟨by omega, by omega⟩)
    intro x6_190 ex6_190 rx6_190
    have bx6_190 : 0 ≤ x6_190 ∧ x6_190 ≤ (b) := by rw [ex6_190]; exact bm_c1_6.mp (hM5_189.bx _ _)
    have fx6_190 : x6_190 = M 1 6 := by rw [ex6_190, h_M5_189, up2_j (by decide)]
    intro x7_191 ex7_191 rx7_191
    have bx7_191 : 0 ≤ x7_191 ∧ x7_191 ≤ 8 := by rw [ex7_191]; exact bm_c1_20.mp (hM5_189.bx _ _)
    have fx7_191 : x7_191 = M 1 20 := by rw [ex7_191, h_M5_189, up2_j (by decide)]
    refine ⟨fun c => ?_, fun c => ?_⟩
    · unfold qX12_isNew_J36
      refine ⟨(by first | assumption | exact ⟨by omega, by omega⟩), ?_⟩
      refine sX12_flag (p0 := 0) hM5_189  ?_
      intro x10_193 p194 q195
      refine ⟨(by first | assumption | exact ⟨by omega, by omega⟩), ?_⟩
      intro M12_196 h_M12_196
      have hM12_196 : IM (b + 1) M12_196 := by rw [h_M12_196]; exact (hM5_189.mono (by omega)).up (by omega) (bm_c1_6.mpr ⟨by omega, by omega⟩)
      intro x13_197 ex13_197 rx13_197
      have bx13_197 : 0 ≤ x13_197 ∧ x13_197 ≤ 8 := by rw [ex13_197]; exact bm_c1_20.mp (hM12_196.bx _ _)
      have fx13_197 : x13_197 = M 1 20 := by rw [ex13_197, h_M12_196, up2_j (by decide), h_M5_189, up2_j (by decide)]
      exact hQ _ _ (hM12_196.mono (by omega))
    · unfold qX12_isNew_J36
      refine ⟨(by first | assumption | exact ⟨by omega, by omega⟩), ?_⟩
      refine sX12_flag (p0 := 1) hM5_189  ?_
      intro x10_199 p200 q201
      refine ⟨(by first | assumption | exact ⟨by omega, by omega⟩), ?_⟩
      intro M12_202 h_M12_202
      have hM12_202 : IM (b + 1) M12_202 := by rw [h_M12_202]; exact (hM5_189.mono (by omega)).up (by omega) (bm_c1_6.mpr ⟨by omega, by omega⟩)
      intro x13_203 ex13_203 rx13_203
      have bx13_203 : 0 ≤ x13_203 ∧ x13_203 ≤ 8 := by rw [ex13_203]; exact bm_c1_20.mp (hM12_202.bx _ _)
      have fx13_203 : x13_203 = M 1 20 := by rw [ex13_203, h_M12_202, up2_j (by decide), h_M5_189, up2_j (by decide)]
      exact hQ _ _ (hM12_202.mono (by omega))
  · unfold qX12_isNew_J16
    refine ⟨(by first | assumption | exact ⟨by omega, by omega⟩), ?_⟩
    intro M5_205 h_M5_205
    have hM5_205 : IM (b) M5_205 := by rw [h_M5_205]; exact hI.up (by omega) (bm_c1_28.mpr ⟨by omega, by omega⟩)
    intro x6_206 ex6_206 rx6_206
    have bx6_206 : 0 ≤ x6_206 ∧ x6_206 ≤ (b) := by rw [ex6_206]; exact bm_c1_6.mp (hM5_205.bx _ _)
    have fx6_206 : x6_206 = M 1 6 := by rw [ex6_206, h_M5_205, up2_j (by decide)]
    intro x7_207 ex7_207 rx7_207
    have bx7_207 : 0 ≤ x7_207 ∧ x7_207 ≤ 8 := by rw [ex7_207]; exact bm_c1_20.mp (hM5_205.bx _ _)
    have fx7_207 : x7_207 = M 1 20 := by rw [ex7_207, h_M5_205, up2_j (by decide)]
    refine ⟨fun c => ?_, fun c => ?_⟩
    · unfold qX12_isNew_J36
      refine ⟨(by first | assumption | exact ⟨by omega, by omega⟩), ?_⟩
      refine sX12_flag (p0 := 0) hM5_205  ?_
      intro x10_209 p210 q211
      refine ⟨(by first | assumption | exact ⟨by omega, by omega⟩), ?_⟩
      intro M12_212 h_M12_212
      have hM12_212 : IM (b + 1) M12_212 := by rw [h_M12_212]; exact (hM5_205.mono (by omega)).up (by omega) (bm_c1_6.mpr ⟨by omega, by omega⟩)
      intro x13_213 ex13_213 rx13_213
      have bx13_213 : 0 ≤ x13_213 ∧ x13_213 ≤ 8 := by rw [ex13_213]; exact bm_c1_20.mp (hM12_212.bx _ _)
      have fx13_213 : x13_213 = M 1 20 := by rw [ex13_213, h_M12_212, up2_j (by decide), h_M5_205, up2_j (by decide)]
      exact hQ _ _ (hM12_212.mono (by omega))
    · unfold qX12_isNew_J36
      refine ⟨(by first | assumption | exact ⟨by omega, by omega⟩), ?_⟩
      refine sX12_flag (p0 := 1) hM5_205  ?_
      intro x10_215 p216 q217
      refine ⟨(by first | assumption | exact ⟨by omega, by omega⟩), ?_⟩
      intro M12_218 h_M12_218
      have hM12_218 : IM (b + 1) M12_218 := by rw [h_M12_218]; exact (hM5_205.mono (by omega)).up (by omega) (bm_c1_6.mpr ⟨by omega, by omega⟩)
      intro x13_219 ex13_219 rx13_219
      have bx13_219 : 0 ≤ x13_219 ∧ x13_219 ≤ 8 := by rw [ex13_219]; exact bm_c1_20.mp (hM12_218.bx _ _)
      have fx13_219 : x13_219 = M 1 20 := by rw [ex13_219, h_M12_218, up2_j (by decide), h_M5_205, up2_j (by decide)]
      exact hQ _ _ (hM12_218.mono (by omega))
theorem sX12_gate  {b : Int} {M : Mem} {Q : Int → Mem → Prop} (hI : IM b M) (hQ : ∀ z : Int, (3 ≤ z ∧ z ≤ 29 ∧ z = M 1 3 - 1) → Q z M) : qX12_gate M Q := by
  unfold qX12_gate
  have hbn := hI.nn
  have u220 : 4 ≤ M 1 3 ∧ M 1 3 ≤ 30 := bm_c1_3.mp (hI.bx _ _)
  intro x1_221 ex1_221 rx1_221
  have bx1_221 : 4 ≤ x1_221 ∧ x1_221 ≤ 30 := by rw [ex1_221]; exact bm_c1_3.mp (hI.bx _ _)
  refine ⟨(by first | assumption | exact ⟨by omega, by omega⟩), ?_⟩
  exact hQ _ (by omega)
theorem sX12_isDigit  {b : Int} {M : Mem} {Q : Int → Mem → Prop} (hI : IM b M) (hQ : ∀ z : Int, ((z = 1 → M 1 15 < M 1 16 ∧ M 1 16 ≤ 80 ∧ 48 ≤ M 7 (M 1 15) ∧ M 7 (M 1 15) ≤ 57) ∧ (z = 0 → ¬ (M 1 15 < M 1 16 ∧ M 1 16 ≤ 80 ∧ 48 ≤ M 7 (M 1 15) ∧ M 7 (M 1 15) ≤ 57)) ∧ (z = 0 ∨ z = 1)) → Q z M) : qX12_isDigit M Q := by
  unfold qX12_isDigit
  have hbn := hI.nn
  have u222 : 0 ≤ M 1 15 ∧ M 1 15 ≤ 80 := bm_c1_15.mp (hI.bx _ _)
  have u223 : 0 ≤ M 1 16 ∧ M 1 16 ≤ 80 := bm_c1_16.mp (hI.bx _ _)
  intro x1_224 ex1_224 rx1_224
  have bx1_224 : 0 ≤ x1_224 ∧ x1_224 ≤ 80 := by rw [ex1_224]; exact bm_c1_15.mp (hI.bx _ _)
  intro x2_225 ex2_225 rx2_225
  have bx2_225 : 0 ≤ x2_225 ∧ x2_225 ≤ 80 := by rw [ex2_225]; exact bm_c1_16.mp (hI.bx _ _)
  refine ⟨fun c => ?_, fun c => ?_⟩
  · exact hQ _ (by omega)
  · intro x4_228 ex4_228 rx4_228
    have bx4_228 : 0 ≤ x4_228 ∧ x4_228 ≤ 80 := by rw [ex4_228]; exact bm_c1_15.mp (hI.bx _ _)
    refine ⟨by omega, ?_⟩
    refine ⟨by omega, ?_⟩
    intro x7_229 ex7_229 rx7_229
    have bx7_229 : 0 ≤ x7_229 ∧ x7_229 ≤ 255 := by rw [ex7_229]; exact bm_c7.mp (hI.bx _ _)
    have cgx7_229 : x7_229 = M 7 (M 1 15) := by rw [ex7_229, ← ex4_228]
    refine sX12_in (p0 := x7_229) (p2 := 48) (p4 := 57) hI  ?_
    intro x8_230 p231 q232 q233
    refine ⟨fun c => ?_, fun c => ?_⟩
    · exact hQ _ (by omega)
    · exact hQ _ (by omega)
theorem sX12_number_L13 {p1 : Int}  {Q : Int → Mem → Prop} {b : Int} {M0 : Mem} (hp : 1 ≤ p1 ∧ p1 ≤ 3) (hQ : ∀ z : Int, ∀ M' : Mem, IM b M' → FrJ (fun k j => k = 1 ∧ j = 15) M0 M' → (-1 ≤ z ∧ z ≤ 999 ∧ (p1 = 1 → z ≤ 9) ∧ (p1 = 2 → z ≤ 99) ∧ M0 1 15 ≤ M' 1 15 ∧ (0 ≤ z → M0 1 15 + 1 ≤ M' 1 15) ∧ (M0 1 15 < M0 1 16 ∧ 48 ≤ M0 7 (M0 1 15) ∧ M0 7 (M0 1 15) ≤ 57 → 0 ≤ z)) → Q z M') : ∀ (n : Nat) (v2 v3 : Int) (M : Mem), IM (b) M → FrJ (fun k j => k = 1 ∧ j = 15) M0 M → (0 ≤ v3 ∧ v3 ≤ p1 ∧ 0 ≤ v2 ∧ (v3 = 0 → v2 = 0 ∧ M 1 15 < M 1 16 ∧ M 1 16 ≤ 80 ∧ 48 ≤ M 7 (M 1 15) ∧ M 7 (M 1 15) ≤ 57) ∧ (v3 = 1 → v2 ≤ 9) ∧ (v3 = 2 → v2 ≤ 99) ∧ v2 ≤ 999 ∧ M0 1 15 + v3 ≤ M 1 15) → 3 - v3 < (n : Int) → qX12_number_L13 p1 Q n v2 v3 M := by
  intro n
  induction n with
  | zero => intro v2 v3 M hI hF hv hm; exact absurd hm (by omega)
  | succ n ih =>
    intro v2 v3 M hI hF hv hm
    rw [qX12_number_L13]
    have hbn := hI.nn
    have u236 : 0 ≤ M 1 15 ∧ M 1 15 ≤ 80 := bm_c1_15.mp (hI.bx _ _)
    have u237 : 0 ≤ M 1 16 ∧ M 1 16 ≤ 80 := bm_c1_16.mp (hI.bx _ _)
    refine ⟨(by first | assumption | exact ⟨by omega, by omega⟩), ?_⟩
    refine ⟨fun c => ?_, fun c => ?_⟩
    · refine ⟨(by first | assumption | exact ⟨by omega, by omega⟩), ?_⟩
      have u239 : 0 ≤ M 1 15 ∧ M 1 15 ≤ 80 := bm_c1_15.mp (hI.bx _ _)
      exact hQ _ _ (hI.mono (by omega)) hF (by omega)
    · refine sX12_isDigit  hI  ?_
      intro x6_241 p242 q243 q244
      refine ⟨fun c => ?_, fun c => ?_⟩
      · refine ⟨(by first | assumption | exact ⟨by omega, by omega⟩), ?_⟩
        have u246 : 0 ≤ M 1 15 ∧ M 1 15 ≤ 80 := bm_c1_15.mp (hI.bx _ _)
        exact hQ _ _ (hI.mono (by omega)) hF (by omega)
      · intro x9_248 ex9_248 rx9_248
        have bx9_248 : 0 ≤ x9_248 ∧ x9_248 ≤ 80 := by rw [ex9_248]; exact bm_c1_15.mp (hI.bx _ _)
        refine ⟨by omega, ?_⟩
        refine ⟨by omega, ?_⟩
        intro x12_249 ex12_249 rx12_249
        have bx12_249 : 0 ≤ x12_249 ∧ x12_249 ≤ 255 := by rw [ex12_249]; exact bm_c7.mp (hI.bx _ _)
        have cgx12_249 : x12_249 = M 7 (M 1 15) := by rw [ex12_249, ← ex9_248]
        intro x13_250 ex13_250 rx13_250
        have bx13_250 : 0 ≤ x13_250 ∧ x13_250 ≤ 80 := by rw [ex13_250]; exact bm_c1_15.mp (hI.bx _ _)
        refine ⟨(by first | assumption | exact ⟨by omega, by omega⟩), ?_⟩
        intro M15_251 h_M15_251
        have hM15_251 : IM (b) M15_251 := by rw [h_M15_251]; exact hI.up (by omega) (bm_c1_15.mpr ⟨by omega, by omega⟩)
        have hFM15_251 : FrJ (fun k j => k = 1 ∧ j = 15) M0 M15_251 := by rw [h_M15_251]; exact (hF).up (by omega)
        have u252 : 0 ≤ M15_251 1 15 ∧ M15_251 1 15 ≤ 80 := bm_c1_15.mp (hM15_251.bx _ _)
        have t253 : M15_251 1 15 = x13_250 + 1 := by rw [h_M15_251, up2_s]
        exact ih _ _ _ (hM15_251.mono (by omega)) hFM15_251 (by omega) (by omega)
theorem sX12_number {p1 : Int} {b : Int} {M : Mem} {Q : Int → Mem → Prop} (hI : IM b M) (hp : 1 ≤ p1 ∧ p1 ≤ 3) (hQ : ∀ z : Int, ∀ M' : Mem, IM b M' → FrJ (fun k j => k = 1 ∧ j = 15) M M' → (-1 ≤ z ∧ z ≤ 999 ∧ (p1 = 1 → z ≤ 9) ∧ (p1 = 2 → z ≤ 99) ∧ M 1 15 ≤ M' 1 15 ∧ (0 ≤ z → M 1 15 + 1 ≤ M' 1 15) ∧ (M 1 15 < M 1 16 ∧ 48 ≤ M 7 (M 1 15) ∧ M 7 (M 1 15) ≤ 57 → 0 ≤ z)) → Q z M') : qX12_number p1 M Q := by
  unfold qX12_number
  have hbn := hI.nn
  have u254 : 0 ≤ M 1 15 ∧ M 1 15 ≤ 80 := bm_c1_15.mp (hI.bx _ _)
  have u255 : 0 ≤ M 1 16 ∧ M 1 16 ≤ 80 := bm_c1_16.mp (hI.bx _ _)
  refine sX12_isDigit  hI  ?_
  intro x1_256 p257 q258 q259
  refine ⟨fun c => ?_, fun c => ?_⟩
  · refine ⟨4, ?_⟩
    have u261 : 0 ≤ M 1 15 ∧ M 1 15 ≤ 80 := bm_c1_15.mp (hI.bx _ _)
    refine sX12_number_L13 (b := b) (p1 := p1) (M0 := M) hp ?_ _ _ _ _ (hI.mono (by omega)) FrJ.rf (by omega) (by omega)
    · exact hQ
  · have u263 : 0 ≤ M 1 15 ∧ M 1 15 ≤ 80 := bm_c1_15.mp (hI.bx _ _)
    exact hQ _ _ (hI.mono (by omega)) FrJ.rf (by omega)
theorem sX12_onCell_L5 {k1 : Nat} {p2 : Int}  {Q : Int → Mem → Prop} {b : Int} {M0 : Mem} (hk1 : isN k1) (hQ : ∀ z : Int, (-1 ≤ z ∧ z ≤ 5 ∧ (0 ≤ z → M0 k1 z = p2 ∧ z < M0 1 4)) → Q z M0) : ∀ (n : Nat) (v3 v4 : Int), IM (b) M0 → ((v3 = -1 ∨ 0 ≤ v3 ∧ v3 < M0 1 4 ∧ M0 k1 v3 = p2) ∧ -1 ≤ v3 ∧ v3 ≤ 5 ∧ 0 ≤ v4 ∧ v4 ≤ 6) → 6 - v4 < (n : Int) → qX12_onCell_L5 k1 p2 Q n v3 v4 M0 := by
  intro n
  induction n with
  | zero => intro v3 v4 hI hv hm; exact absurd hm (by omega)
  | succ n ih =>
    intro v3 v4 hI hv hm
    rw [qX12_onCell_L5]
    have hbn := hI.nn
    have ek1 : k1 = 5 ∨ k1 = 6 := hk1
    have u264 : 0 ≤ M0 1 4 ∧ M0 1 4 ≤ 6 := bm_c1_4.mp (hI.bx _ _)
    intro x1_265 ex1_265 rx1_265
    have bx1_265 : 0 ≤ x1_265 ∧ x1_265 ≤ 6 := by rw [ex1_265]; exact bm_c1_4.mp (hI.bx _ _)
    refine ⟨(by first | assumption | exact ⟨by omega, by omega⟩), ?_⟩
    refine ⟨fun c => ?_, fun c => ?_⟩
    · refine ⟨(by first | assumption | exact ⟨by omega, by omega⟩), ?_⟩
      exact hQ _ (by omega)
    · refine ⟨by omega, ?_⟩
      refine ⟨by omega, ?_⟩
      intro x7_268 ex7_268 rx7_268
      have rbx7_268 : -2147483648 ≤ x7_268 ∧ x7_268 ≤ 2147483647 := rx7_268
      have nbx7_268 : BN (b) v4 x7_268 := by rw [ex7_268]; exact (bm_n hk1).mp (hI.bx _ _)
      first | (have bx7_268 : -1 ≤ x7_268 ∧ x7_268 ≤ 29 := nbx7_268.1 ⟨by omega, by omega⟩) | (have bx7_268 : -1 ≤ x7_268 ∧ x7_268 ≤ 29 := nbx7_268.2.1 ⟨by omega, by omega⟩) | skip
      refine ⟨fun c => ?_, fun c => ?_⟩
      · exact ih _ _ (hI.mono (by omega)) (by omega) (by omega)
      · exact ih _ _ (hI.mono (by omega)) (by omega) (by omega)
theorem sX12_onCell {k1 : Nat} {p2 : Int} {b : Int} {M : Mem} {Q : Int → Mem → Prop} (hI : IM b M) (hk1 : isN k1) (hQ : ∀ z : Int, (-1 ≤ z ∧ z ≤ 5 ∧ (0 ≤ z → M k1 z = p2 ∧ z < M 1 4)) → Q z M) : qX12_onCell k1 p2 M Q := by
  unfold qX12_onCell
  have hbn := hI.nn
  have ek1 : k1 = 5 ∨ k1 = 6 := hk1
  have u271 : 0 ≤ M 1 4 ∧ M 1 4 ≤ 6 := bm_c1_4.mp (hI.bx _ _)
  refine ⟨7, ?_⟩
  refine sX12_onCell_L5 (b := b) (p2 := p2) (M0 := M) hk1 ?_ _ _ _ (hI.mono (by omega)) (by omega) (by omega)
  · exact hQ
theorem sX12_readsCell_L45 {p1 : Int} {X85 : Int → Int → Mem → Prop} {Q : Int → Mem → Prop} {b : Int} {M0 : Mem} (hQ : ∀ z : Int, ∀ M' : Mem, IM b M' → FrJ (fun k j => k = 1 ∧ j = 15) M0 M' → (-1 ≤ z ∧ z ≤ 29) → Q z M') (hX85 : ∀ w1 w2 : Int, ∀ M' : Mem, IM (b) M' → FrJ (fun k j => k = 1 ∧ j = 15) M0 M' → (0 ≤ w1 ∧ w1 ≤ 99 ∧ 0 ≤ w2 ∧ w2 ≤ 1 ∧ (w2 = 1 → w1 ≤ 29) ∧ 1 ≤ M' 1 15) → X85 w1 w2 M') : ∀ (n : Nat) (v2 v3 v4 : Int) (M : Mem), IM (b) M → FrJ (fun k j => k = 1 ∧ j = 15) M0 M → (0 ≤ v2 ∧ v2 ≤ 99 ∧ 0 ≤ v3 ∧ v3 ≤ 1 ∧ 0 ≤ v4 ∧ v4 ≤ 8 ∧ (v3 = 1 → v2 ≤ 29) ∧ 1 ≤ M 1 15) → 8 - v4 < (n : Int) → qX12_readsCell_L45 p1 X85 Q n v2 v3 v4 M := by
  intro n
  induction n with
  | zero => intro v2 v3 v4 M hI hF hv hm; exact absurd hm (by omega)
  | succ n ih =>
    intro v2 v3 v4 M hI hF hv hm
    rw [qX12_readsCell_L45]
    have hbn := hI.nn
    have u272 : 0 ≤ M 1 15 ∧ M 1 15 ≤ 80 := bm_c1_15.mp (hI.bx _ _)
    intro x5_273 ex5_273 rx5_273
    have bx5_273 : 0 ≤ x5_273 ∧ x5_273 ≤ 8 := by rw [ex5_273]; exact bm_c1_20.mp (hI.bx _ _)
    refine ⟨(by first | assumption | exact ⟨by omega, by omega⟩), ?_⟩
    refine ⟨fun c => ?_, fun c => ?_⟩
    · exact hX85 _ _ _ (hI.mono (by omega)) hF (by omega)
    · refine ⟨fun c => ?_, fun c => ?_⟩
      · exact hX85 _ _ _ (hI.mono (by omega)) hF (by omega)
      · refine ⟨(by first | assumption | exact ⟨by omega, by omega⟩), ?_⟩
        refine ⟨fun c => ?_, fun c => ?_⟩
        · exact ih _ _ _ _ (hI.mono (by omega)) hF (by omega) (by omega)
        · refine ⟨by omega, ?_⟩
          refine ⟨by omega, ?_⟩
          intro x13_280 ex13_280 rx13_280
          have bx13_280 : -1 ≤ x13_280 ∧ x13_280 ≤ 29 := by rw [ex13_280]; exact bm_c9.mp (hI.bx _ _)
          refine ⟨(by first | assumption | exact ⟨by omega, by omega⟩), ?_⟩
          refine ⟨fun c => ?_, fun c => ?_⟩
          · exact ih _ _ _ _ (hI.mono (by omega)) hF (by omega) (by omega)
          · exact ih _ _ _ _ (hI.mono (by omega)) hF (by omega) (by omega)
theorem sX12_readsCell {p1 : Int} {b : Int} {M : Mem} {Q : Int → Mem → Prop} (hI : IM b M) (hQ : ∀ z : Int, ∀ M' : Mem, IM b M' → FrJ (fun k j => k = 1 ∧ j = 15) M M' → (-1 ≤ z ∧ z ≤ 29) → Q z M') : qX12_readsCell p1 M Q := by
  unfold qX12_readsCell
  have hbn := hI.nn
  have u283 : 0 ≤ M 1 15 ∧ M 1 15 ≤ 80 := bm_c1_15.mp (hI.bx _ _)
  refine sX12_number (p1 := 2) hI (by omega) ?_
  intro x1_284 M1_285 hM1_285 gM1_285 p286 q287
  have hFM1_285 : FrJ (fun k j => k = 1 ∧ j = 15) M M1_285 := (FrJ.rf).tr (gM1_285.mono (by intro k j h; omega))
  refine ⟨fun c => ?_, fun c => ?_⟩
  · refine sX12_gate  hM1_285  ?_
    intro x3_289 p290 q291
    refine ⟨fun c => ?_, fun c => ?_⟩
    · refine ⟨9, ?_⟩
      refine sX12_readsCell_L45 (b := b) (p1 := p1) (M0 := M) ?_ ?_ _ _ _ _ _ (hM1_285.mono (by omega)) hFM1_285 (by omega) (by omega)
      · exact hQ
      · intro v2_293 v3_294 M_295 hM_295 hFM_295 p296
        unfold qX12_readsCell_J85
        intro x17_297 ex17_297 rx17_297
        have bx17_297 : 0 ≤ x17_297 ∧ x17_297 ≤ 80 := by rw [ex17_297]; exact bm_c1_15.mp (hM_295.bx _ _)
        refine ⟨(by first | assumption | exact ⟨by omega, by omega⟩), ?_⟩
        refine ⟨fun c => ?_, fun c => ?_⟩
        · unfold qX12_readsCell_J99
          refine ⟨(by first | assumption | exact ⟨by omega, by omega⟩), ?_⟩
          refine sX12_flag (p0 := 0) hM_295  ?_
          intro x21_299 p300 q301
          refine ⟨(by first | assumption | exact ⟨by omega, by omega⟩), ?_⟩
          intro M23_302 h_M23_302
          have hM23_302 : IM (b) M23_302 := by rw [h_M23_302]; exact hM_295.up (by omega) (bm_c1_15.mpr ⟨by omega, by omega⟩)
          have hFM23_302 : FrJ (fun k j => k = 1 ∧ j = 15) M M23_302 := by rw [h_M23_302]; exact (hFM_295).up (by omega)
          refine ⟨(by first | assumption | exact ⟨by omega, by omega⟩), ?_⟩
          refine ⟨fun c => ?_, fun c => ?_⟩
          · exact hQ _ _ (hM23_302.mono (by omega)) hFM23_302 (by omega)
          · refine ⟨(by first | assumption | exact ⟨by omega, by omega⟩), ?_⟩
            exact hQ _ _ (hM23_302.mono (by omega)) hFM23_302 (by omega)
        · unfold qX12_readsCell_J99
          refine ⟨(by first | assumption | exact ⟨by omega, by omega⟩), ?_⟩
          refine sX12_flag (p0 := 1) hM_295  ?_
          intro x21_306 p307 q308
          refine ⟨(by first | assumption | exact ⟨by omega, by omega⟩), ?_⟩
          intro M23_309 h_M23_309
          have hM23_309 : IM (b) M23_309 := by rw [h_M23_309]; exact hM_295.up (by omega) (bm_c1_15.mpr ⟨by omega, by omega⟩)
          have hFM23_309 : FrJ (fun k j => k = 1 ∧ j = 15) M M23_309 := by rw [h_M23_309]; exact (hFM_295).up (by omega)
          refine ⟨(by first | assumption | exact ⟨by omega, by omega⟩), ?_⟩
          refine ⟨fun c => ?_, fun c => ?_⟩
          · exact hQ _ _ (hM23_309.mono (by omega)) hFM23_309 (by omega)
          · refine ⟨(by first | assumption | exact ⟨by omega, by omega⟩), ?_⟩
            exact hQ _ _ (hM23_309.mono (by omega)) hFM23_309 (by omega)
    · refine ⟨fun c => ?_, fun c => ?_⟩
      · refine ⟨9, ?_⟩
        refine sX12_readsCell_L45 (b := b) (p1 := p1) (M0 := M) ?_ ?_ _ _ _ _ _ (hM1_285.mono (by omega)) hFM1_285 (by omega) (by omega)
        · exact hQ
        · intro v2_314 v3_315 M_316 hM_316 hFM_316 p317
          unfold qX12_readsCell_J85
          intro x17_318 ex17_318 rx17_318
          have bx17_318 : 0 ≤ x17_318 ∧ x17_318 ≤ 80 := by rw [ex17_318]; exact bm_c1_15.mp (hM_316.bx _ _)
          refine ⟨(by first | assumption | exact ⟨by omega, by omega⟩), ?_⟩
          refine ⟨fun c => ?_, fun c => ?_⟩
          · unfold qX12_readsCell_J99
            refine ⟨(by first | assumption | exact ⟨by omega, by omega⟩), ?_⟩
            refine sX12_flag (p0 := 0) hM_316  ?_
            intro x21_320 p321 q322
            refine ⟨(by first | assumption | exact ⟨by omega, by omega⟩), ?_⟩
            intro M23_323 h_M23_323
            have hM23_323 : IM (b) M23_323 := by rw [h_M23_323]; exact hM_316.up (by omega) (bm_c1_15.mpr ⟨by omega, by omega⟩)
            have hFM23_323 : FrJ (fun k j => k = 1 ∧ j = 15) M M23_323 := by rw [h_M23_323]; exact (hFM_316).up (by omega)
            refine ⟨(by first | assumption | exact ⟨by omega, by omega⟩), ?_⟩
            refine ⟨fun c => ?_, fun c => ?_⟩
            · exact hQ _ _ (hM23_323.mono (by omega)) hFM23_323 (by omega)
            · refine ⟨(by first | assumption | exact ⟨by omega, by omega⟩), ?_⟩
              exact hQ _ _ (hM23_323.mono (by omega)) hFM23_323 (by omega)
          · unfold qX12_readsCell_J99
            refine ⟨(by first | assumption | exact ⟨by omega, by omega⟩), ?_⟩
            refine sX12_flag (p0 := 1) hM_316  ?_
            intro x21_327 p328 q329
            refine ⟨(by first | assumption | exact ⟨by omega, by omega⟩), ?_⟩
            intro M23_330 h_M23_330
            have hM23_330 : IM (b) M23_330 := by rw [h_M23_330]; exact hM_316.up (by omega) (bm_c1_15.mpr ⟨by omega, by omega⟩)
            have hFM23_330 : FrJ (fun k j => k = 1 ∧ j = 15) M M23_330 := by rw [h_M23_330]; exact (hFM_316).up (by omega)
            refine ⟨(by first | assumption | exact ⟨by omega, by omega⟩), ?_⟩
            refine ⟨fun c => ?_, fun c => ?_⟩
            · exact hQ _ _ (hM23_330.mono (by omega)) hFM23_330 (by omega)
            · refine ⟨(by first | assumption | exact ⟨by omega, by omega⟩), ?_⟩
              exact hQ _ _ (hM23_330.mono (by omega)) hFM23_330 (by omega)
      · refine sX12_onCell (p2 := x1_284) hM1_285 (Or.inl rfl) ?_
        intro x29_334 p335 q336
        refine ⟨fun c => ?_, fun c => ?_⟩
        · refine ⟨9, ?_⟩
          refine sX12_readsCell_L45 (b := b) (p1 := p1) (M0 := M) ?_ ?_ _ _ _ _ _ (hM1_285.mono (by omega)) hFM1_285 (by omega) (by omega)
          · exact hQ
          · intro v2_338 v3_339 M_340 hM_340 hFM_340 p341
            unfold qX12_readsCell_J85
            intro x17_342 ex17_342 rx17_342
            have bx17_342 : 0 ≤ x17_342 ∧ x17_342 ≤ 80 := by rw [ex17_342]; exact bm_c1_15.mp (hM_340.bx _ _)
            refine ⟨(by first | assumption | exact ⟨by omega, by omega⟩), ?_⟩
            refine ⟨fun c => ?_, fun c => ?_⟩
            · unfold qX12_readsCell_J99
              refine ⟨(by first | assumption | exact ⟨by omega, by omega⟩), ?_⟩
              refine sX12_flag (p0 := 0) hM_340  ?_
              intro x21_344 p345 q346
              refine ⟨(by first | assumption | exact ⟨by omega, by omega⟩), ?_⟩
              intro M23_347 h_M23_347
              have hM23_347 : IM (b) M23_347 := by rw [h_M23_347]; exact hM_340.up (by omega) (bm_c1_15.mpr ⟨by omega, by omega⟩)
              have hFM23_347 : FrJ (fun k j => k = 1 ∧ j = 15) M M23_347 := by rw [h_M23_347]; exact (hFM_340).up (by omega)
              refine ⟨(by first | assumption | exact ⟨by omega, by omega⟩), ?_⟩
              refine ⟨fun c => ?_, fun c => ?_⟩
              · exact hQ _ _ (hM23_347.mono (by omega)) hFM23_347 (by omega)
              · refine ⟨(by first | assumption | exact ⟨by omega, by omega⟩), ?_⟩
                exact hQ _ _ (hM23_347.mono (by omega)) hFM23_347 (by omega)
            · unfold qX12_readsCell_J99
              refine ⟨(by first | assumption | exact ⟨by omega, by omega⟩), ?_⟩
              refine sX12_flag (p0 := 1) hM_340  ?_
              intro x21_351 p352 q353
              refine ⟨(by first | assumption | exact ⟨by omega, by omega⟩), ?_⟩
              intro M23_354 h_M23_354
              have hM23_354 : IM (b) M23_354 := by rw [h_M23_354]; exact hM_340.up (by omega) (bm_c1_15.mpr ⟨by omega, by omega⟩)
              have hFM23_354 : FrJ (fun k j => k = 1 ∧ j = 15) M M23_354 := by rw [h_M23_354]; exact (hFM_340).up (by omega)
              refine ⟨(by first | assumption | exact ⟨by omega, by omega⟩), ?_⟩
              refine ⟨fun c => ?_, fun c => ?_⟩
              · exact hQ _ _ (hM23_354.mono (by omega)) hFM23_354 (by omega)
              · refine ⟨(by first | assumption | exact ⟨by omega, by omega⟩), ?_⟩
                exact hQ _ _ (hM23_354.mono (by omega)) hFM23_354 (by omega)
        · refine ⟨9, ?_⟩
          refine sX12_readsCell_L45 (b := b) (p1 := p1) (M0 := M) ?_ ?_ _ _ _ _ _ (hM1_285.mono (by omega)) hFM1_285 (by omega) (by omega)
          · exact hQ
          · intro v2_358 v3_359 M_360 hM_360 hFM_360 p361
            unfold qX12_readsCell_J85
            intro x17_362 ex17_362 rx17_362
            have bx17_362 : 0 ≤ x17_362 ∧ x17_362 ≤ 80 := by rw [ex17_362]; exact bm_c1_15.mp (hM_360.bx _ _)
            refine ⟨(by first | assumption | exact ⟨by omega, by omega⟩), ?_⟩
            refine ⟨fun c => ?_, fun c => ?_⟩
            · unfold qX12_readsCell_J99
              refine ⟨(by first | assumption | exact ⟨by omega, by omega⟩), ?_⟩
              refine sX12_flag (p0 := 0) hM_360  ?_
              intro x21_364 p365 q366
              refine ⟨(by first | assumption | exact ⟨by omega, by omega⟩), ?_⟩
              intro M23_367 h_M23_367
              have hM23_367 : IM (b) M23_367 := by rw [h_M23_367]; exact hM_360.up (by omega) (bm_c1_15.mpr ⟨by omega, by omega⟩)
              have hFM23_367 : FrJ (fun k j => k = 1 ∧ j = 15) M M23_367 := by rw [h_M23_367]; exact (hFM_360).up (by omega)
              refine ⟨(by first | assumption | exact ⟨by omega, by omega⟩), ?_⟩
              refine ⟨fun c => ?_, fun c => ?_⟩
              · exact hQ _ _ (hM23_367.mono (by omega)) hFM23_367 (by omega)
              · refine ⟨(by first | assumption | exact ⟨by omega, by omega⟩), ?_⟩
                exact hQ _ _ (hM23_367.mono (by omega)) hFM23_367 (by omega)
            · unfold qX12_readsCell_J99
              refine ⟨(by first | assumption | exact ⟨by omega, by omega⟩), ?_⟩
              refine sX12_flag (p0 := 1) hM_360  ?_
              intro x21_371 p372 q373
              refine ⟨(by first | assumption | exact ⟨by omega, by omega⟩), ?_⟩
              intro M23_374 h_M23_374
              have hM23_374 : IM (b) M23_374 := by rw [h_M23_374]; exact hM_360.up (by omega) (bm_c1_15.mpr ⟨by omega, by omega⟩)
              have hFM23_374 : FrJ (fun k j => k = 1 ∧ j = 15) M M23_374 := by rw [h_M23_374]; exact (hFM_360).up (by omega)
              refine ⟨(by first | assumption | exact ⟨by omega, by omega⟩), ?_⟩
              refine ⟨fun c => ?_, fun c => ?_⟩
              · exact hQ _ _ (hM23_374.mono (by omega)) hFM23_374 (by omega)
              · refine ⟨(by first | assumption | exact ⟨by omega, by omega⟩), ?_⟩
                exact hQ _ _ (hM23_374.mono (by omega)) hFM23_374 (by omega)
  · exact hQ _ _ (hM1_285.mono (by omega)) hFM1_285 (by omega)
theorem sX12_readsHearse  {b : Int} {M : Mem} {Q : Int → Mem → Prop} (hI : IM b M) (hp : M 1 4 + M 1 20 ≤ 6) (hQ : ∀ z : Int, ∀ M' : Mem, IM b M' → (M' 1 4 + M' 1 20 ≤ 6 ∧ M 1 4 + M 1 20 ≤ M' 1 4 + M' 1 20 ∧ (z = 1 → M' 1 4 + M' 1 20 = M 1 4 + M 1 20 + 1)) → Q z M') : qX12_readsHearse M Q := by
  unfold qX12_readsHearse
  have hbn := hI.nn
  have u378 : 0 ≤ M 1 4 ∧ M 1 4 ≤ 6 := bm_c1_4.mp (hI.bx _ _)
  have u379 : 0 ≤ M 1 20 ∧ M 1 20 ≤ 8 := bm_c1_20.mp (hI.bx _ _)
  intro x1_380 ex1_380 rx1_380
  have bx1_380 : 0 ≤ x1_380 ∧ x1_380 ≤ 6 := by rw [ex1_380]; exact bm_c1_4.mp (hI.bx _ _)
  intro x2_381 ex2_381 rx2_381
  have bx2_381 : 0 ≤ x2_381 ∧ x2_381 ≤ 8 := by rw [ex2_381]; exact bm_c1_20.mp (hI.bx _ _)
  refine ⟨(by first | assumption | exact ⟨by omega, by omega⟩), ?_⟩
  refine ⟨fun c => ?_, fun c => ?_⟩
  · refine sX12_readsCell (p1 := 1) hI  ?_
    intro x5_383 M5_384 hM5_384 gM5_384 p385 q386
    first | (have t387 : M5_384 1 4 = M 1 4 := gM5_384 1 4 (by omega)) | skip
    first | (have t388 : M5_384 1 20 = M 1 20 := gM5_384 1 20 (by omega)) | skip
    first | (have t389 : M5_384 1 4 = M 1 4 := gM5_384 1 4 (by omega)) | skip
    first | (have t390 : M5_384 1 20 = M 1 20 := gM5_384 1 20 (by omega)) | skip
    intro x6_391 ex6_391 rx6_391
    have bx6_391 : 0 ≤ x6_391 ∧ x6_391 ≤ 8 := by rw [ex6_391]; exact bm_c1_20.mp (hM5_384.bx _ _)
    refine ⟨by omega, ?_⟩
    refine ⟨by omega, ?_⟩
    intro M9_392 h_M9_392
    have hM9_392 : IM (b) M9_392 := by rw [h_M9_392]; exact hM5_384.up (by omega) (bm_c9.mpr ⟨by omega, by omega⟩)
    intro x10_393 ex10_393 rx10_393
    have bx10_393 : 0 ≤ x10_393 ∧ x10_393 ≤ 8 := by rw [ex10_393]; exact bm_c1_20.mp (hM9_392.bx _ _)
    have fx10_393 : x10_393 = M5_384 1 20 := by rw [ex10_393, h_M9_392, up2_n (by decide)]
    refine ⟨(by first | assumption | exact ⟨by omega, by omega⟩), ?_⟩
    intro M12_394 h_M12_394
    have hM12_394 : IM (b) M12_394 := by rw [h_M12_394]; exact hM9_392.up (by omega) (bm_c1_20.mpr ⟨by omega, by omega⟩)
    refine ⟨fun c => ?_, fun c => ?_⟩
    · have u396 : 0 ≤ M12_394 1 4 ∧ M12_394 1 4 ≤ 6 := bm_c1_4.mp (hM12_394.bx _ _)
      have u397 : 0 ≤ M12_394 1 20 ∧ M12_394 1 20 ≤ 8 := bm_c1_20.mp (hM12_394.bx _ _)
      have t398 : M12_394 1 4 = M5_384 1 4 := by rw [h_M12_394, up2_j (by decide), h_M9_392, up2_n (by decide)]
      have t399 : M12_394 1 20 = x10_393 + 1 := by rw [h_M12_394, up2_s]
      exact hQ _ _ (hM12_394.mono (by omega)) (by omega)
    · have u401 : 0 ≤ M12_394 1 4 ∧ M12_394 1 4 ≤ 6 := bm_c1_4.mp (hM12_394.bx _ _)
      have u402 : 0 ≤ M12_394 1 20 ∧ M12_394 1 20 ≤ 8 := bm_c1_20.mp (hM12_394.bx _ _)
      have t403 : M12_394 1 4 = M5_384 1 4 := by rw [h_M12_394, up2_j (by decide), h_M9_392, up2_n (by decide)]
      have t404 : M12_394 1 20 = x10_393 + 1 := by rw [h_M12_394, up2_s]
      exact hQ _ _ (hM12_394.mono (by omega)) (by omega)
  · have u406 : 0 ≤ M 1 4 ∧ M 1 4 ≤ 6 := bm_c1_4.mp (hI.bx _ _)
    have u407 : 0 ≤ M 1 20 ∧ M 1 20 ≤ 8 := bm_c1_20.mp (hI.bx _ _)
    exact hQ _ _ (hI.mono (by omega)) (by omega)
theorem sX12_takes {p1 : Int} {b : Int} {M : Mem} {Q : Int → Mem → Prop} (hI : IM b M) (hQ : ∀ z : Int, ∀ M' : Mem, IM b M' → FrJ (fun k j => k = 1 ∧ j = 15) M M' → (M 1 15 ≤ M' 1 15 ∧ (z = 1 → M' 1 15 = M 1 15 + 1)) → Q z M') : qX12_takes p1 M Q := by
  unfold qX12_takes
  have hbn := hI.nn
  have u408 : 0 ≤ M 1 15 ∧ M 1 15 ≤ 80 := bm_c1_15.mp (hI.bx _ _)
  intro x1_409 ex1_409 rx1_409
  have bx1_409 : 0 ≤ x1_409 ∧ x1_409 ≤ 80 := by rw [ex1_409]; exact bm_c1_15.mp (hI.bx _ _)
  intro x2_410 ex2_410 rx2_410
  have bx2_410 : 0 ≤ x2_410 ∧ x2_410 ≤ 80 := by rw [ex2_410]; exact bm_c1_16.mp (hI.bx _ _)
  refine ⟨fun c => ?_, fun c => ?_⟩
  · unfold qX12_takes_J28
    unfold qX12_takes_J29
    intro x4_412 ex4_412 rx4_412
    have bx4_412 : 0 ≤ x4_412 ∧ x4_412 ≤ 80 := by rw [ex4_412]; exact bm_c1_15.mp (hI.bx _ _)
    refine ⟨(by first | assumption | exact ⟨by omega, by omega⟩), ?_⟩
    refine sX12_flag (p0 := 0) hI  ?_
    intro x6_413 p414 q415
    refine ⟨(by first | assumption | exact ⟨by omega, by omega⟩), ?_⟩
    intro M8_416 h_M8_416
    have hM8_416 : IM (b) M8_416 := by rw [h_M8_416]; exact hI.up (by omega) (bm_c1_15.mpr ⟨by omega, by omega⟩)
    have hFM8_416 : FrJ (fun k j => k = 1 ∧ j = 15) M M8_416 := by rw [h_M8_416]; exact (FrJ.rf).up (by omega)
    refine ⟨by omega, ?_⟩
    have u417 : 0 ≤ M8_416 1 15 ∧ M8_416 1 15 ≤ 80 := bm_c1_15.mp (hM8_416.bx _ _)
    have t418 : M8_416 1 15 = x4_412 + x6_413 := by rw [h_M8_416, up2_s]
    exact hQ _ _ (hM8_416.mono (by omega)) hFM8_416 (by omega)
  · intro x10_420 ex10_420 rx10_420
    have bx10_420 : 0 ≤ x10_420 ∧ x10_420 ≤ 80 := by rw [ex10_420]; exact bm_c1_15.mp (hI.bx _ _)
    refine ⟨by omega, ?_⟩
    refine ⟨by omega, ?_⟩
    intro x13_421 ex13_421 rx13_421
    have bx13_421 : 0 ≤ x13_421 ∧ x13_421 ≤ 255 := by rw [ex13_421]; exact bm_c7.mp (hI.bx _ _)
    have cgx13_421 : x13_421 = M 7 (M 1 15) := by rw [ex13_421, ← ex10_420]
    refine ⟨fun c => ?_, fun c => ?_⟩
    · unfold qX12_takes_J28
      unfold qX12_takes_J29
      intro x4_423 ex4_423 rx4_423
      have bx4_423 : 0 ≤ x4_423 ∧ x4_423 ≤ 80 := by rw [ex4_423]; exact bm_c1_15.mp (hI.bx _ _)
      refine ⟨(by first | assumption | exact ⟨by omega, by omega⟩), ?_⟩
      refine sX12_flag (p0 := 0) hI  ?_
      intro x6_424 p425 q426
      refine ⟨(by first | assumption | exact ⟨by omega, by omega⟩), ?_⟩
      intro M8_427 h_M8_427
      have hM8_427 : IM (b) M8_427 := by rw [h_M8_427]; exact hI.up (by omega) (bm_c1_15.mpr ⟨by omega, by omega⟩)
      have hFM8_427 : FrJ (fun k j => k = 1 ∧ j = 15) M M8_427 := by rw [h_M8_427]; exact (FrJ.rf).up (by omega)
      refine ⟨by omega, ?_⟩
      have u428 : 0 ≤ M8_427 1 15 ∧ M8_427 1 15 ≤ 80 := bm_c1_15.mp (hM8_427.bx _ _)
      have t429 : M8_427 1 15 = x4_423 + x6_424 := by rw [h_M8_427, up2_s]
      exact hQ _ _ (hM8_427.mono (by omega)) hFM8_427 (by omega)
    · unfold qX12_takes_J29
      intro x4_431 ex4_431 rx4_431
      have bx4_431 : 0 ≤ x4_431 ∧ x4_431 ≤ 80 := by rw [ex4_431]; exact bm_c1_15.mp (hI.bx _ _)
      refine ⟨(by first | assumption | exact ⟨by omega, by omega⟩), ?_⟩
      refine sX12_flag (p0 := 1) hI  ?_
      intro x6_432 p433 q434
      refine ⟨(by first | assumption | exact ⟨by omega, by omega⟩), ?_⟩
      intro M8_435 h_M8_435
      have hM8_435 : IM (b) M8_435 := by rw [h_M8_435]; exact hI.up (by omega) (bm_c1_15.mpr ⟨by omega, by omega⟩)
      have hFM8_435 : FrJ (fun k j => k = 1 ∧ j = 15) M M8_435 := by rw [h_M8_435]; exact (FrJ.rf).up (by omega)
      refine ⟨by omega, ?_⟩
      have u436 : 0 ≤ M8_435 1 15 ∧ M8_435 1 15 ≤ 80 := bm_c1_15.mp (hM8_435.bx _ _)
      have t437 : M8_435 1 15 = x4_431 + x6_432 := by rw [h_M8_435, up2_s]
      exact hQ _ _ (hM8_435.mono (by omega)) hFM8_435 (by omega)
theorem sX12_hearses_L29  {X60 : Int → Int → Mem → Prop} {Q : Int → Mem → Prop} {b : Int} (hb : b + 1 ≤ 2000000000) (hQ : ∀ z : Int, ∀ M' : Mem, IM (b + 1) M' → Q z M') (hX60 : ∀ w1 w2 : Int, ∀ M' : Mem, IM (b) M' → (0 ≤ w1 ∧ w1 ≤ 80 ∧ 0 ≤ w2 ∧ w2 ≤ 1 ∧ M' 1 4 + M' 1 20 ≤ 6) → X60 w1 w2 M') : ∀ (n : Nat) (v1 v2 v3 : Int) (M : Mem), IM (b) M → (M 1 4 + M 1 20 ≤ 6 ∧ 0 ≤ v1 ∧ v1 ≤ 80 ∧ 0 ≤ v2 ∧ v2 ≤ 1 ∧ 0 ≤ v3 ∧ v3 ≤ 1) → 6 - (M 1 4 + M 1 20) + v3 < (n : Int) → qX12_hearses_L29 X60 Q n v1 v2 v3 M := by
  intro n
  induction n with
  | zero => intro v1 v2 v3 M hI hv hm; exact absurd hm (by omega)
  | succ n ih =>
    intro v1 v2 v3 M hI hv hm
    rw [qX12_hearses_L29]
    have hbn := hI.nn
    have u438 : 0 ≤ M 1 4 ∧ M 1 4 ≤ 6 := bm_c1_4.mp (hI.bx _ _)
    have u439 : 0 ≤ M 1 20 ∧ M 1 20 ≤ 8 := bm_c1_20.mp (hI.bx _ _)
    refine ⟨(by first | assumption | exact ⟨by omega, by omega⟩), ?_⟩
    refine ⟨fun c => ?_, fun c => ?_⟩
    · have u441 : 0 ≤ M 1 4 ∧ M 1 4 ≤ 6 := bm_c1_4.mp (hI.bx _ _)
      have u442 : 0 ≤ M 1 20 ∧ M 1 20 ≤ 8 := bm_c1_20.mp (hI.bx _ _)
      exact hX60 _ _ _ (hI.mono (by omega)) (by omega)
    · refine sX12_readsHearse  hI (by omega) ?_
      intro x7_444 M7_445 hM7_445 p446 q447 q448
      refine ⟨fun c => ?_, fun c => ?_⟩
      · have u450 : 0 ≤ M7_445 1 4 ∧ M7_445 1 4 ≤ 6 := bm_c1_4.mp (hM7_445.bx _ _)
        have u451 : 0 ≤ M7_445 1 20 ∧ M7_445 1 20 ≤ 8 := bm_c1_20.mp (hM7_445.bx _ _)
        exact ih _ _ _ _ (hM7_445.mono (by omega)) (by omega) (by omega)
      · refine sX12_takes (p1 := 59) hM7_445  ?_
        intro x9_453 M9_454 hM9_454 gM9_454 p455 q456 q457
        first | (have t458 : M9_454 1 4 = M7_445 1 4 := gM9_454 1 4 (by omega)) | skip
        first | (have t459 : M9_454 1 20 = M7_445 1 20 := gM9_454 1 20 (by omega)) | skip
        refine ⟨fun c => ?_, fun c => ?_⟩
        · have u461 : 0 ≤ M9_454 1 4 ∧ M9_454 1 4 ≤ 6 := bm_c1_4.mp (hM9_454.bx _ _)
          have u462 : 0 ≤ M9_454 1 20 ∧ M9_454 1 20 ≤ 8 := bm_c1_20.mp (hM9_454.bx _ _)
          exact ih _ _ _ _ (hM9_454.mono (by omega)) (by omega) (by omega)
        · have u464 : 0 ≤ M9_454 1 4 ∧ M9_454 1 4 ≤ 6 := bm_c1_4.mp (hM9_454.bx _ _)
          have u465 : 0 ≤ M9_454 1 20 ∧ M9_454 1 20 ≤ 8 := bm_c1_20.mp (hM9_454.bx _ _)
          exact ih _ _ _ _ (hM9_454.mono (by omega)) (by omega) (by omega)
