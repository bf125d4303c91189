theorem sX12_sign_L18 {p1 : Int} {X53 : Mem → Prop} {Q : Int → Mem → Prop} {b : Int} (hQ : ∀ z : Int, ∀ M' : Mem, IM b M' → Q z M') (hX53 : ∀ M' : Mem, IM (b) M' → (M' 1 14 ≤ 76) → X53 M') : ∀ (n : Nat) (v2 : Int) (M : Mem), IM (b) M → (0 ≤ v2 ∧ v2 ≤ 4 ∧ M 1 14 ≤ 76) → 4 - v2 < (n : Int) → qX12_sign_L18 p1 X53 Q n v2 M := by
  intro n
  induction n with
  | zero => intro v2 M hI hv hm; exact absurd hm (by omega)
  | succ n ih =>
    intro v2 M hI hv hm
    rw [qX12_sign_L18]
    have hbn := hI.nn
    have u1 : 0 ≤ M 1 14 ∧ M 1 14 ≤ 80 := bm_c1_14.mp (hI.bx _ _)
    refine ⟨(by first | assumption | exact ⟨by omega, by omega⟩), ?_⟩
    refine ⟨fun c => ?_, fun c => ?_⟩
    · have u3 : 0 ≤ M 1 14 ∧ M 1 14 ≤ 80 := bm_c1_14.mp (hI.bx _ _)
      exact hX53 _ (hI.mono (by omega)) (by omega)
    · intro x6_5 ex6_5 rx6_5
      have bx6_5 : 0 ≤ x6_5 ∧ x6_5 ≤ 80 := by rw [ex6_5]; exact bm_c1_14.mp (hI.bx _ _)
      intro x7_6 ex7_6 rx7_6
      intro x8_7 ex8_7 rx8_7
      have fx8_7 := aI_255 x7_6; rw [← ex8_7] at fx8_7
      refine ⟨by omega, ?_⟩
      refine ⟨by omega, ?_⟩
      intro M11_8 h_M11_8
      have hM11_8 : IM (b) M11_8 := by rw [h_M11_8]; exact hI.up (by omega) (bm_c7.mpr ⟨by omega, by omega⟩)
      have u9 : 0 ≤ M11_8 1 14 ∧ M11_8 1 14 ≤ 80 := bm_c1_14.mp (hM11_8.bx _ _)
      have t10 : M11_8 1 14 = M 1 14 := by rw [h_M11_8, up2_n (by decide)]
      exact ih _ _ (hM11_8.mono (by omega)) (by omega) (by omega)
theorem sX12_sign {p1 : Int} {b : Int} {M : Mem} {Q : Int → Mem → Prop} (hI : IM b M) (hQ : ∀ z : Int, ∀ M' : Mem, IM b M' → Q z M') : qX12_sign p1 M Q := by
  unfold qX12_sign
  have hbn := hI.nn
  intro M1_11 h_M1_11
  have hM1_11 : IM (b) M1_11 := by rw [h_M1_11]; exact hI.up (by omega) (by simp [BM])
  intro x2_12 ex2_12 rx2_12
  have bx2_12 : 0 ≤ x2_12 ∧ x2_12 ≤ 80 := by rw [ex2_12]; exact bm_c1_14.mp (hM1_11.bx _ _)
  have fx2_12 : x2_12 = M 1 14 := by rw [ex2_12, h_M1_11, up2_j (by decide)]
  refine ⟨fun c => ?_, fun c => ?_⟩
  · refine ⟨5, ?_⟩
    have u14 : 0 ≤ M1_11 1 14 ∧ M1_11 1 14 ≤ 80 := bm_c1_14.mp (hM1_11.bx _ _)
    have t15 : M1_11 1 14 = M 1 14 := by rw [h_M1_11, up2_j (by decide)]
    refine sX12_sign_L18 (b := b) (p1 := p1) ?_ ?_ _ _ _ (hM1_11.mono (by omega)) (by omega) (by omega)
    · exact hQ
    · intro M_16 hM_16 p17
      intro x13_18 ex13_18 rx13_18
      have bx13_18 : 0 ≤ x13_18 ∧ x13_18 ≤ 80 := by rw [ex13_18]; exact bm_c1_14.mp (hM_16.bx _ _)
      refine ⟨(by first | assumption | exact ⟨by omega, by omega⟩), ?_⟩
      intro M15_19 h_M15_19
      have hM15_19 : IM (b) M15_19 := by rw [h_M15_19]; exact hM_16.up (by omega) (bm_c1_14.mpr ⟨by omega, by omega⟩)
      intro x16_20 ex16_20 rx16_20
      have bx16_20 : 0 ≤ x16_20 ∧ x16_20 ≤ 80 := by rw [ex16_20]; exact bm_c1_14.mp (hM15_19.bx _ _)
      have fx16_20 : x16_20 = x13_18 + 4 := by rw [ex16_20, h_M15_19, up2_s]
      exact hQ _ _ (hM15_19.mono (by omega))
  · exact hQ _ _ (hM1_11.mono (by omega))
theorem sX12_in {p0 : Int} {p2 : Int} {p4 : Int} {b : Int} {M : Mem} {Q : Int → Mem → Prop} (hI : IM b M) (hQ : ∀ z : Int, ((z = 0 ∨ z = 1) ∧ (z = 1 → p2 ≤ p0 ∧ p0 ≤ p4) ∧ (z = 0 → p0 < p2 ∨ p4 < p0)) → Q z M) : qX12_in p0 p2 p4 M Q := by
  unfold qX12_in
  have hbn := hI.nn
  intro x1_22 rx1_22 cx1_22
  refine ⟨fun c => ?_, fun c => ?_⟩
  · exact hQ _ (by omega)
  · intro x3_25 rx3_25 cx3_25
    refine ⟨fun c => ?_, fun c => ?_⟩
    · exact hQ _ (by omega)
    · exact hQ _ (by omega)
theorem sX12_end {p1 : Int} {b : Int} {M : Mem} {Q : Int → Mem → Prop} (hI : IM b M) (hQ : ∀ z : Int, ∀ M' : Mem, IM b M' → Q z M') : qX12_end p1 M Q := by
  unfold qX12_end
  have hbn := hI.nn
  intro M1_28 h_M1_28
  have hM1_28 : IM (b) M1_28 := by rw [h_M1_28]; exact hI.up (by omega) (by simp [BM])
  intro x2_29 ex2_29 rx2_29
  have bx2_29 : 0 ≤ x2_29 ∧ x2_29 ≤ 80 := by rw [ex2_29]; exact bm_c1_14.mp (hM1_28.bx _ _)
  have fx2_29 : x2_29 = M 1 14 := by rw [ex2_29, h_M1_28, up2_j (by decide)]
  refine sX12_in (p0 := p1) (p2 := 0) (p4 := x2_29) hM1_28  ?_
  intro x3_30 p31 q32 q33
  refine ⟨fun c => ?_, fun c => ?_⟩
  · intro M5_35 h_M5_35
    have hM5_35 : IM (b) M5_35 := by rw [h_M5_35]; exact hM1_28.up (by omega) (bm_c1_14.mpr ⟨by omega, by omega⟩)
    exact hQ _ _ (hM5_35.mono (by omega))
  · exact hQ _ _ (hM1_28.mono (by omega))
theorem sX12_begins {p1 : Int} {b : Int} {M : Mem} {Q : Int → Mem → Prop} (hI : IM b M) (hp : 0 ≤ p1 ∧ p1 ≤ 80) (hQ : ∀ z : Int, ∀ M' : Mem, IM b M' → FrJ (fun k j => k = 1 ∧ (j = 14 ∨ j = 15 ∨ j = 16 ∨ j = 17)) M M' → (0 ≤ z ∧ z ≤ 80 ∧ M' 1 15 = 0 ∧ M' 1 16 ≤ p1) → Q z M') : qX12_begins p1 M Q := by
  unfold qX12_begins
  have hbn := hI.nn
  have u37 : 0 ≤ M 1 15 ∧ M 1 15 ≤ 80 := bm_c1_15.mp (hI.bx _ _)
  have u38 : 0 ≤ M 1 16 ∧ M 1 16 ≤ 80 := bm_c1_16.mp (hI.bx _ _)
  intro x1_39 ex1_39 rx1_39
  have bx1_39 : 0 ≤ x1_39 ∧ x1_39 ≤ 80 := by rw [ex1_39]; exact bm_c1_14.mp (hI.bx _ _)
  intro M2_40 h_M2_40
  have hM2_40 : IM (b) M2_40 := by rw [h_M2_40]; exact hI.up (by omega) (bm_c1_14.mpr ⟨by omega, by omega⟩)
  have hFM2_40 : FrJ (fun k j => k = 1 ∧ (j = 14 ∨ j = 15 ∨ j = 16 ∨ j = 17)) M M2_40 := by rw [h_M2_40]; exact (FrJ.rf).up (by omega)
  intro M3_41 h_M3_41
  have hM3_41 : IM (b) M3_41 := by rw [h_M3_41]; exact hM2_40.up (by omega) (bm_c1_15.mpr ⟨by omega, by omega⟩)
  have hFM3_41 : FrJ (fun k j => k = 1 ∧ (j = 14 ∨ j = 15 ∨ j = 16 ∨ j = 17)) M M3_41 := by rw [h_M3_41]; exact (hFM2_40).up (by omega)
  intro M4_42 h_M4_42
  have hM4_42 : IM (b) M4_42 := by rw [h_M4_42]; exact hM3_41.up (by omega) (by simp [BM])
  have hFM4_42 : FrJ (fun k j => k = 1 ∧ (j = 14 ∨ j = 15 ∨ j = 16 ∨ j = 17)) M M4_42 := by rw [h_M4_42]; exact (hFM3_41).up (by omega)
  intro x5_43 ex5_43 rx5_43
  intro M6_44 h_M6_44
  have hM6_44 : IM (b) M6_44 := by rw [h_M6_44]; exact hM4_42.up (by omega) (bm_c1_16.mpr ⟨by omega, by omega⟩)
  have hFM6_44 : FrJ (fun k j => k = 1 ∧ (j = 14 ∨ j = 15 ∨ j = 16 ∨ j = 17)) M M6_44 := by rw [h_M6_44]; exact (hFM4_42).up (by omega)
  have u45 : 0 ≤ M6_44 1 15 ∧ M6_44 1 15 ≤ 80 := bm_c1_15.mp (hM6_44.bx _ _)
  have u46 : 0 ≤ M6_44 1 16 ∧ M6_44 1 16 ≤ 80 := bm_c1_16.mp (hM6_44.bx _ _)
  have t47 : M6_44 1 15 = 0 := by rw [h_M6_44, up2_j (by decide), h_M4_42, up2_j (by decide), h_M3_41, up2_s]
  have t48 : M6_44 1 16 = x5_43 := by rw [h_M6_44, up2_s]
  exact hQ _ _ (hM6_44.mono (by omega)) hFM6_44 (by omega)
theorem sX12_flag {p0 : Int} {b : Int} {M : Mem} {Q : Int → Mem → Prop} (hI : IM b M) (hQ : ∀ z : Int, ((z = 0 ∨ z = 1) ∧ (z = 0 → p0 = 0) ∧ (z = 1 → ¬ p0 = 0)) → Q z M) : qX12_flag p0 M Q := by
  unfold qX12_flag
  have hbn := hI.nn
  refine ⟨fun c => ?_, fun c => ?_⟩
  · exact hQ _ (by omega)
  · exact hQ _ (by omega)
theorem sX12_takesOf_L2 {bs : List Int} {X38 : Int → Mem → Prop} {Q : Int → Mem → Prop} {b : Int} {M0 : Mem} (hp : (bs.length : Int) ≤ 7) (hQ : ∀ z : Int, ∀ M' : Mem, IM b M' → FrJ (fun k j => k = 1 ∧ j = 15) M0 M' → (-1 ≤ z ∧ z < bs.length ∧ z ≤ 6 ∧ M0 1 15 ≤ M' 1 15 ∧ (0 ≤ z → M' 1 15 = M0 1 15 + 1)) → Q z M') (hX38 : ∀ w1 : Int, ∀ M' : Mem, IM (b) M' → FrJ (fun k j => k = 1 ∧ j = 15) M0 M' → (0 ≤ w1 ∧ w1 < bs.length ∧ M' 1 15 < M' 1 16 ∧ M' 1 16 ≤ 80 ∧ M' 1 15 = M0 1 15) → X38 w1 M') : ∀ (n : Nat) (v2 : Int) (M : Mem), IM (b) M → FrJ (fun k j => k = 1 ∧ j = 15) M0 M → (0 ≤ v2 ∧ v2 ≤ bs.length ∧ M 1 15 = M0 1 15) → bs.length - v2 < (n : Int) → qX12_takesOf_L2 bs X38 Q n v2 M := by
  intro n
  induction n with
  | zero => intro v2 M hI hF hv hm; exact absurd hm (by omega)
  | succ n ih =>
    intro v2 M hI hF hv hm
    rw [qX12_takesOf_L2]
    have hbn := hI.nn
    have u51 : 0 ≤ M 1 15 ∧ M 1 15 ≤ 80 := bm_c1_15.mp (hI.bx _ _)
    have u52 : 0 ≤ M 1 16 ∧ M 1 16 ≤ 80 := bm_c1_16.mp (hI.bx _ _)
    intro x1_53 ex1_53 rx1_53
    refine ⟨(by first | assumption | exact ⟨by omega, by omega⟩), ?_⟩
    refine ⟨fun c => ?_, fun c => ?_⟩
    · have u55 : 0 ≤ M 1 15 ∧ M 1 15 ≤ 80 := bm_c1_15.mp (hI.bx _ _)
      exact hQ _ _ (hI.mono (by omega)) hF (by omega)
    · intro x4_57 ex4_57 rx4_57
      have bx4_57 : 0 ≤ x4_57 ∧ x4_57 ≤ 80 := by rw [ex4_57]; exact bm_c1_15.mp (hI.bx _ _)
      intro x5_58 ex5_58 rx5_58
      have bx5_58 : 0 ≤ x5_58 ∧ x5_58 ≤ 80 := by rw [ex5_58]; exact bm_c1_16.mp (hI.bx _ _)
      refine ⟨fun c => ?_, fun c => ?_⟩
      · have u60 : 0 ≤ M 1 15 ∧ M 1 15 ≤ 80 := bm_c1_15.mp (hI.bx _ _)
        exact hQ _ _ (hI.mono (by omega)) hF (by omega)
      · refine ⟨by omega, ?_⟩
        refine ⟨by omega, ?_⟩
        intro x9_62 ex9_62 rx9_62
        intro x10_63 ex10_63 rx10_63
        have bx10_63 : 0 ≤ x10_63 ∧ x10_63 ≤ 80 := by rw [ex10_63]; exact bm_c1_15.mp (hI.bx _ _)
        refine ⟨by omega, ?_⟩
        refine ⟨by omega, ?_⟩
        intro x13_64 ex13_64 rx13_64
        have bx13_64 : 0 ≤ x13_64 ∧ x13_64 ≤ 255 := by rw [ex13_64]; exact bm_c7.mp (hI.bx _ _)
        have cgx13_64 : x13_64 = M 7 (M 1 15) := by rw [ex13_64, ← ex10_63]
        refine ⟨fun c => ?_, fun c => ?_⟩
        · exact ih _ _ (hI.mono (by omega)) hF (by omega) (by omega)
        · exact hX38 _ _ (hI.mono (by omega)) hF (by omega)
theorem sX12_takesOf {bs : List Int} {b : Int} {M : Mem} {Q : Int → Mem → Prop} (hI : IM b M) (hp : (bs.length : Int) ≤ 7) (hQ : ∀ z : Int, ∀ M' : Mem, IM b M' → FrJ (fun k j => k = 1 ∧ j = 15) M M' → (-1 ≤ z ∧ z < bs.length ∧ z ≤ 6 ∧ M 1 15 ≤ M' 1 15 ∧ (0 ≤ z → M' 1 15 = M 1 15 + 1)) → Q z M') : qX12_takesOf bs M Q := by
  unfold qX12_takesOf
  have hbn := hI.nn
  have u67 : 0 ≤ M 1 15 ∧ M 1 15 ≤ 80 := bm_c1_15.mp (hI.bx _ _)
  refine ⟨(bs.length + 1), ?_⟩
  refine sX12_takesOf_L2 (b := b)  (M0 := M) hp ?_ ?_ _ _ _ (hI.mono (by omega)) FrJ.rf (by omega) (by omega)
  · exact hQ
  · intro v2_68 M_69 hM_69 hFM_69 p70
    intro x16_71 ex16_71 rx16_71
    have bx16_71 : 0 ≤ x16_71 ∧ x16_71 ≤ 80 := by rw [ex16_71]; exact bm_c1_15.mp (hM_69.bx _ _)
    refine ⟨(by first | assumption | exact ⟨by omega, by omega⟩), ?_⟩
    intro M18_72 h_M18_72
    have hM18_72 : IM (b) M18_72 := by rw [h_M18_72]; exact hM_69.up (by omega) (bm_c1_15.mpr ⟨by omega, by omega⟩)
    have hFM18_72 : FrJ (fun k j => k = 1 ∧ j = 15) M M18_72 := by rw [h_M18_72]; exact (hFM_69).up (by omega)
    refine ⟨(by first | assumption | exact ⟨by omega, by omega⟩), ?_⟩
    have u73 : 0 ≤ M18_72 1 15 ∧ M18_72 1 15 ≤ 80 := bm_c1_15.mp (hM18_72.bx _ _)
    have t74 : M18_72 1 15 = x16_71 + 1 := by rw [h_M18_72, up2_s]
    exact hQ _ _ (hM18_72.mono (by omega)) hFM18_72 (by omega)
theorem sX12_avenue_L16  {X69 : Int → Mem → Prop} {Q : Int → Mem → Prop} {b : Int} (hb : b + 1 ≤ 2000000000) (hQ : ∀ z : Int, ∀ M' : Mem, IM (b + 1) M' → Q z M') (hX69 : ∀ w1 : Int, ∀ M' : Mem, IM (b) M' → (0 ≤ w1 ∧ w1 ≤ 30) → X69 w1 M') : ∀ (n : Nat) (v1 v2 : Int) (M : Mem), IM (b) M → (0 ≤ v1 ∧ v1 ≤ 30 ∧ 0 ≤ v2 ∧ v2 ≤ 1) → 30 - v1 + v2 < (n : Int) → qX12_avenue_L16 X69 Q n v1 v2 M := by
  intro n
  induction n with
  | zero => intro v1 v2 M hI hv hm; exact absurd hm (by omega)
  | succ n ih =>
    intro v1 v2 M hI hv hm
    rw [qX12_avenue_L16]
    have hbn := hI.nn
    refine ⟨(by first | assumption | exact ⟨by omega, by omega⟩), ?_⟩
    refine ⟨fun c => ?_, fun c => ?_⟩
    · exact hX69 _ _ (hI.mono (by omega)) (by omega)
    · refine ⟨(by first | assumption | exact ⟨by omega, by omega⟩), ?_⟩
      refine ⟨fun c => ?_, fun c => ?_⟩
      · exact hX69 _ _ (hI.mono (by omega)) (by omega)
      · refine sX12_takesOf  hI (by first | decide | exact tk2 _) ?_
        intro x7_79 M7_80 hM7_80 gM7_80 p81 q82
        refine ⟨fun c => ?_, fun c => ?_⟩
        · unfold qX12_avenue_J42
          refine ⟨(by first | assumption | exact ⟨by omega, by omega⟩), ?_⟩
          refine ⟨fun c => ?_, fun c => ?_⟩
          · unfold qX12_avenue_J58
            refine ⟨by omega, ?_⟩
            refine ⟨by omega, ?_⟩
            refine ⟨(by first | assumption | exact ⟨by omega, by omega⟩), ?_⟩
            refine ⟨by omega, ?_⟩
            intro M15_85 h_M15_85
            have hM15_85 : IM (b) M15_85 := by rw [h_M15_85]; exact hM7_80.up (by omega) (bm_c8.mpr ⟨by omega, by omega⟩)
            refine ⟨(by first | assumption | exact ⟨by omega, by omega⟩), ?_⟩
            refine sX12_flag (p0 := 0) hM15_85  ?_
            intro x17_86 p87 q88
            exact ih _ _ _ (hM15_85.mono (by omega)) (by omega) (by omega)
          · unfold qX12_avenue_J58
            refine ⟨by omega, ?_⟩
            refine ⟨by omega, ?_⟩
            refine ⟨(by first | assumption | exact ⟨by omega, by omega⟩), ?_⟩
            refine ⟨by omega, ?_⟩
            intro M15_90 h_M15_90
            have hM15_90 : IM (b) M15_90 := by rw [h_M15_90]; exact hM7_80.up (by omega) (bm_c8.mpr ⟨by omega, by omega⟩)
            refine ⟨(by first | assumption | exact ⟨by omega, by omega⟩), ?_⟩
            refine sX12_flag (p0 := 0) hM15_90  ?_
            intro x17_91 p92 q93
            exact ih _ _ _ (hM15_90.mono (by omega)) (by omega) (by omega)
        · unfold qX12_avenue_J42
          refine ⟨(by first | assumption | exact ⟨by omega, by omega⟩), ?_⟩
          refine ⟨fun c => ?_, fun c => ?_⟩
          · unfold qX12_avenue_J58
            refine ⟨by omega, ?_⟩
            refine ⟨by omega, ?_⟩
            refine ⟨(by first | assumption | exact ⟨by omega, by omega⟩), ?_⟩
            refine ⟨by omega, ?_⟩
            intro M15_96 h_M15_96
            have hM15_96 : IM (b) M15_96 := by rw [h_M15_96]; exact hM7_80.up (by omega) (bm_c8.mpr ⟨by omega, by omega⟩)
            refine ⟨(by first | assumption | exact ⟨by omega, by omega⟩), ?_⟩
            refine sX12_flag (p0 := 1) hM15_96  ?_
            intro x17_97 p98 q99
            exact ih _ _ _ (hM15_96.mono (by omega)) (by omega) (by omega)
          · unfold qX12_avenue_J58
            refine ⟨by omega, ?_⟩
            refine ⟨by omega, ?_⟩
            refine ⟨(by first | assumption | exact ⟨by omega, by omega⟩), ?_⟩
            refine ⟨by omega, ?_⟩
            intro M15_101 h_M15_101
            have hM15_101 : IM (b) M15_101 := by rw [h_M15_101]; exact hM7_80.up (by omega) (bm_c8.mpr ⟨by omega, by omega⟩)
            refine ⟨(by first | assumption | exact ⟨by omega, by omega⟩), ?_⟩
            refine sX12_flag (p0 := 1) hM15_101  ?_
            intro x17_102 p103 q104
            exact ih _ _ _ (hM15_101.mono (by omega)) (by omega) (by omega)
theorem sX12_avenue_L99  {X122 : Int → Mem → Prop} {Q : Int → Mem → Prop} {b : Int} (hb : b + 1 ≤ 2000000000) (hQ : ∀ z : Int, ∀ M' : Mem, IM (b + 1) M' → Q z M') (hX122 : ∀ w1 : Int, ∀ M' : Mem, IM (b) M' → (4 ≤ w1 ∧ w1 ≤ 30) → X122 w1 M') : ∀ (n : Nat) (v1 v3 : Int) (M : Mem), IM (b) M → (0 ≤ v3 ∧ v3 ≤ 30 ∧ 4 ≤ v1 ∧ v1 ≤ 30) → 30 - v3 < (n : Int) → qX12_avenue_L99 X122 Q n v1 v3 M := by
  intro n
  induction n with
  | zero => intro v1 v3 M hI hv hm; exact absurd hm (by omega)
  | succ n ih =>
    intro v1 v3 M hI hv hm
    rw [qX12_avenue_L99]
    have hbn := hI.nn
    refine ⟨(by first | assumption | exact ⟨by omega, by omega⟩), ?_⟩
    refine ⟨(by first | assumption | exact ⟨by omega, by omega⟩), ?_⟩
    refine ⟨fun c => ?_, fun c => ?_⟩
    · exact hX122 _ _ (hI.mono (by omega)) (by omega)
    · refine ⟨by omega, ?_⟩
      refine ⟨by omega, ?_⟩
      intro x32_107 ex32_107 rx32_107
      have bx32_107 : 0 ≤ x32_107 ∧ x32_107 ≤ 1 := by rw [ex32_107]; exact bm_c8.mp (hI.bx _ _)
      refine ⟨by omega, ?_⟩
      intro M34_108 h_M34_108
      have hM34_108 : IM (b) M34_108 := by rw [h_M34_108]; exact hI.up (by omega) (by simp [BM])
      exact ih _ _ _ (hM34_108.mono (by omega)) (by omega) (by omega)
theorem sX12_avenue_L155   {Q : Int → Mem → Prop} {b : Int} (hb : b + 1 ≤ 2000000000) (hQ : ∀ z : Int, ∀ M' : Mem, IM (b + 1) M' → Q z M') : ∀ (n : Nat) (v1 v3 : Int) (M : Mem), IM (b + 1) M → (0 ≤ v3 ∧ v3 ≤ 3 ∧ 4 ≤ v1 ∧ v1 ≤ 30) → 3 - v3 < (n : Int) → qX12_avenue_L155 Q n v1 v3 M := by
  intro n
  induction n with
  | zero => intro v1 v3 M hI hv hm; exact absurd hm (by omega)
  | succ n ih =>
    intro v1 v3 M hI hv hm
    rw [qX12_avenue_L155]
    have hbn := hI.nn
    refine ⟨(by first | assumption | exact ⟨by omega, by omega⟩), ?_⟩
    refine ⟨fun c => ?_, fun c => ?_⟩
    · refine ⟨(by first | assumption | exact ⟨by omega, by omega⟩), ?_⟩
      exact hQ _ _ (hI.mono (by omega))
    · refine ⟨by omega, ?_⟩
      refine ⟨by omega, ?_⟩
      intro M46_111 h_M46_111
      have hM46_111 : IM (b + 1) M46_111 := by rw [h_M46_111]; exact hI.up (by omega) (by simp [BM])
      exact ih _ _ _ (hM46_111.mono (by omega)) (by omega) (by omega)
theorem sX12_avenue  {b : Int} {M : Mem} {Q : Int → Mem → Prop} (hI : IM b M) (hb : b + 1 ≤ 2000000000) (hQ : ∀ z : Int, ∀ M' : Mem, IM (b + 1) M' → Q z M') : qX12_avenue M Q := by
  unfold qX12_avenue
  have hbn := hI.nn
  intro M1_112 h_M1_112
  have hM1_112 : IM (b) M1_112 := by rw [h_M1_112]; exact hI.up (by omega) (by simp [BM])
  refine sX12_begins (p1 := 80) hM1_112 (by omega) ?_
  intro x2_113 M2_114 hM2_114 gM2_114 p115 q116
  refine ⟨32, ?_⟩
  refine sX12_avenue_L16 (b := b)  hb ?_ ?_ _ _ _ _ (hM2_114.mono (by omega)) (by omega) (by omega)
  · exact hQ
  · intro v1_117 M_118 hM_118 p119
    unfold qX12_avenue_J69
    refine ⟨(by first | assumption | exact ⟨by omega, by omega⟩), ?_⟩
    refine ⟨fun c => ?_, fun c => ?_⟩
    · intro x21_121 ex21_121 rx21_121
      have bx21_121 : 0 ≤ x21_121 ∧ x21_121 ≤ 80 := by rw [ex21_121]; exact bm_c1_15.mp (hM_118.bx _ _)
      refine ⟨(by first | assumption | exact ⟨by omega, by omega⟩), ?_⟩
      exact hQ _ _ (hM_118.mono (by omega))
    · intro x23_123 ex23_123 rx23_123
      have bx23_123 : 0 ≤ x23_123 ∧ x23_123 ≤ 80 := by rw [ex23_123]; exact bm_c1_15.mp (hM_118.bx _ _)
      intro x24_124 ex24_124 rx24_124
      have bx24_124 : 0 ≤ x24_124 ∧ x24_124 ≤ 80 := by rw [ex24_124]; exact bm_c1_16.mp (hM_118.bx _ _)
      refine ⟨fun c => ?_, fun c => ?_⟩
      · intro M26_126 h_M26_126
        have hM26_126 : IM (b) M26_126 := by rw [h_M26_126]; exact hM_118.up (by omega) (bm_c1_3.mpr ⟨by omega, by omega⟩)
        refine ⟨31, ?_⟩
        refine sX12_avenue_L99 (b := b)  hb ?_ ?_ _ _ _ _ (hM26_126.mono (by omega)) (by omega) (by omega)
        · exact hQ
        · intro v1_127 M_128 hM_128 p129
          intro M36_130 h_M36_130
          have hM36_130 : IM (b) M36_130 := by rw [h_M36_130]; exact hM_128.up (by omega) (bm_c1_4.mpr ⟨by omega, by omega⟩)
          intro M37_131 h_M37_131
          have hM37_131 : IM (b) M37_131 := by rw [h_M37_131]; exact hM36_130.up (by omega) (bm_c1_5.mpr ⟨by omega, by omega⟩)
          intro M38_132 h_M38_132
          have hM38_132 : IM (b) M38_132 := by rw [h_M38_132]; exact hM37_131.up (by omega) ((bm_n (Or.inl rfl)).mpr (by first | assumption | exact ⟨by omega, by omega, by omega, by omega⟩))
          intro M39_133 h_M39_133
          have hM39_133 : IM (b + 1) M39_133 := by rw [h_M39_133]; exact (hM38_132.mono (by omega)).up (by omega) ((bm_n (Or.inl rfl)).mpr ⟨by omega, by omega, by omega, by omega⟩)
          intro M40_134 h_M40_134
          have hM40_134 : IM (b + 1) M40_134 := by rw [h_M40_134]; exact hM39_133.up (by omega) (bm_c1_28.mpr ⟨by omega, by omega⟩)
          refine ⟨4, ?_⟩
          refine sX12_avenue_L155 (b := b)  hb ?_ _ _ _ _ (hM40_134.mono (by omega)) (by omega) (by omega)
          · exact hQ
      · intro x48_136 ex48_136 rx48_136
        have bx48_136 : 0 ≤ x48_136 ∧ x48_136 ≤ 80 := by rw [ex48_136]; exact bm_c1_15.mp (hM_118.bx _ _)
        refine ⟨(by first | assumption | exact ⟨by omega, by omega⟩), ?_⟩
        exact hQ _ _ (hM_118.mono (by omega))
theorem sX12_faultOf {p1 : Int} {p2 : Int} {p3 : Int} {b : Int} {M : Mem} {Q : Int → Mem → Prop} (hI : IM b M) (hp : 0 ≤ p2 ∧ p2 ≤ 80) (hQ : ∀ z : Int, (-100 ≤ z ∧ z ≤ 0 ∧ (p3 = 0 → z ≤ -1)) → Q z M) : qX12_faultOf p1 p2 p3 M Q := by
  unfold qX12_faultOf
  have hbn := hI.nn
  refine ⟨fun c => ?_, fun c => ?_⟩
  · unfold qX12_faultOf_J19
    unfold qX12_faultOf_J20
    refine ⟨fun c => ?_, fun c => ?_⟩
    · unfold qX12_faultOf_J44
      refine ⟨(by first | assumption | exact ⟨by omega, by omega⟩), ?_⟩
      refine ⟨fun c => ?_, fun c => ?_⟩
      · intro x5_140 ex5_140 rx5_140
        have bx5_140 : 0 ≤ x5_140 ∧ x5_140 ≤ 80 := by rw [ex5_140]; exact bm_c1_15.mp (hI.bx _ _)
        refine ⟨(by first | assumption | exact ⟨by omega, by omega⟩), ?_⟩
        exact hQ _ (by omega)
      · exact hQ _ (by omega)
    · refine ⟨(by first | assumption | exact ⟨by omega, by omega⟩), ?_⟩
      refine ⟨fun c => ?_, fun c => ?_⟩
      · refine ⟨(by first | assumption | exact ⟨by omega, by omega⟩), ?_⟩
        exact hQ _ (by omega)
      · intro x10_145 ex10_145 rx10_145
        have bx10_145 : 0 ≤ x10_145 ∧ x10_145 ≤ 80 := by rw [ex10_145]; exact bm_c1_15.mp (hI.bx _ _)
        refine ⟨fun c => ?_, fun c => ?_⟩
        · unfold qX12_faultOf_J44
          refine ⟨(by first | assumption | exact ⟨by omega, by omega⟩), ?_⟩
          refine ⟨fun c => ?_, fun c => ?_⟩
          · intro x5_148 ex5_148 rx5_148
            have bx5_148 : 0 ≤ x5_148 ∧ x5_148 ≤ 80 := by rw [ex5_148]; exact bm_c1_15.mp (hI.bx _ _)
            refine ⟨(by first | assumption | exact ⟨by omega, by omega⟩), ?_⟩
            exact hQ _ (by omega)
          · exact hQ _ (by omega)
        · refine ⟨(by first | assumption | exact ⟨by omega, by omega⟩), ?_⟩
          exact hQ _ (by omega)
  · intro x13_152 ex13_152 rx13_152
    have bx13_152 : 0 ≤ x13_152 ∧ x13_152 ≤ 80 := by rw [ex13_152]; exact bm_c1_15.mp (hI.bx _ _)
    intro x14_153 ex14_153 rx14_153
    have bx14_153 : 0 ≤ x14_153 ∧ x14_153 ≤ 80 := by rw [ex14_153]; exact bm_c1_16.mp (hI.bx _ _)
    refine ⟨fun c => ?_, fun c => ?_⟩
    · unfold qX12_faultOf_J19
      unfold qX12_faultOf_J20
      refine ⟨fun c => ?_, fun c => ?_⟩
      · unfold qX12_faultOf_J44
        refine ⟨(by first | assumption | exact ⟨by omega, by omega⟩), ?_⟩
        refine ⟨fun c => ?_, fun c => ?_⟩
        · intro x5_157 ex5_157 rx5_157
          have bx5_157 : 0 ≤ x5_157 ∧ x5_157 ≤ 80 := by rw [ex5_157]; exact bm_c1_15.mp (hI.bx _ _)
          refine ⟨(by first | assumption | exact ⟨by omega, by omega⟩), ?_⟩
          exact hQ _ (by omega)
        · exact hQ _ (by omega)
      · refine ⟨(by first | assumption | exact ⟨by omega, by omega⟩), ?_⟩
        refine ⟨fun c => ?_, fun c => ?_⟩
        · refine ⟨(by first | assumption | exact ⟨by omega, by omega⟩), ?_⟩
          exact hQ _ (by omega)
        · intro x10_162 ex10_162 rx10_162
          have bx10_162 : 0 ≤ x10_162 ∧ x10_162 ≤ 80 := by rw [ex10_162]; exact bm_c1_15.mp (hI.bx _ _)
          refine ⟨fun c => ?_, fun c => ?_⟩
          · unfold qX12_faultOf_J44
            refine ⟨(by first | assumption | exact ⟨by omega, by omega⟩), ?_⟩
            refine ⟨fun c => ?_, fun c => ?_⟩
            · intro x5_165 ex5_165 rx5_165
              have bx5_165 : 0 ≤ x5_165 ∧ x5_165 ≤ 80 := by rw [ex5_165]; exact bm_c1_15.mp (hI.bx _ _)
              refine ⟨(by first | assumption | exact ⟨by omega, by omega⟩), ?_⟩
              exact hQ _ (by omega)
            · exact hQ _ (by omega)
          · refine ⟨(by first | assumption | exact ⟨by omega, by omega⟩), ?_⟩
            exact hQ _ (by omega)
    · unfold qX12_faultOf_J20
      refine ⟨fun c => ?_, fun c => ?_⟩
      · unfold qX12_faultOf_J44
        refine ⟨(by first | assumption | exact ⟨by omega, by omega⟩), ?_⟩
        refine ⟨fun c => ?_, fun c => ?_⟩
        · intro x5_171 ex5_171 rx5_171
          have bx5_171 : 0 ≤ x5_171 ∧ x5_171 ≤ 80 := by rw [ex5_171]; exact bm_c1_15.mp (hI.bx _ _)
          refine ⟨(by first | assumption | exact ⟨by omega, by omega⟩), ?_⟩
          exact hQ _ (by omega)
        · exact hQ _ (by omega)
      · refine ⟨(by first | assumption | exact ⟨by omega, by omega⟩), ?_⟩
        refine ⟨fun c => ?_, fun c => ?_⟩
        · refine ⟨(by first | assumption | exact ⟨by omega, by omega⟩), ?_⟩
          exact hQ _ (by omega)
        · intro x10_176 ex10_176 rx10_176
          have bx10_176 : 0 ≤ x10_176 ∧ x10_176 ≤ 80 := by rw [ex10_176]; exact bm_c1_15.mp (hI.bx _ _)
          refine ⟨fun c => ?_, fun c => ?_⟩
          · unfold qX12_faultOf_J44
            refine ⟨(by first | assumption | exact ⟨by omega, by omega⟩), ?_⟩
            refine ⟨fun c => ?_, fun c => ?_⟩
            · intro x5_179 ex5_179 rx5_179
              have bx5_179 : 0 ≤ x5_179 ∧ x5_179 ≤ 80 := by rw [ex5_179]; exact bm_c1_15.mp (hI.bx _ _)
              refine ⟨(by first | assumption | exact ⟨by omega, by omega⟩), ?_⟩
              exact hQ _ (by omega)
            · exact hQ _ (by omega)
          · refine ⟨(by first | assumption | exact ⟨by omega, by omega⟩), ?_⟩
            exact hQ _ (by omega)
theorem sX12_isNew  {b : Int} {M : Mem} {Q : Int → Mem → Prop} (hI : IM b M) (hb : b + 1 ≤ 2000000000) (hQ : ∀ z : Int, ∀ M' : Mem, IM (b + 1) M' → Q z M') : qX12_isNew M Q := by
  unfold qX12_isNew
  have hbn := hI.nn
  intro x1_182 ex1_182 rx1_182
  have bx1_182 : 0 ≤ x1_182 ∧ x1_182 ≤ 8 := by rw [ex1_182]; exact bm_c1_20.mp (hI.bx _ _)
  refine ⟨fun c => ?_, fun c => ?_⟩
  · intro x3_184 ex3_184 rx3_184
    have bx3_184 : 0 ≤ x3_184 ∧ x3_184 ≤ 15 := by rw [ex3_184]; exact bm_c1_28.mp (hI.bx _ _)
    unfold qX12_isNew_J16
    refine ⟨(by first | assumption | exact ⟨by omega, by omega⟩), ?_⟩
    intro M5_185 h_M5_185
    have hM5_185 : IM (b) M5_185 := by rw [h_M5_185]; exact hI.up (by omega) (bm_c1_28.mpr ⟨by omega, by omega⟩)
    intro x6_186 ex6_186 rx6_186
    have bx6_186 : 0 ≤ x6_186 ∧ x6_186 ≤ (b) := by rw [ex6_186]; exact bm_c1_6.mp (hM5_185.bx _ _)
    have fx6_186 : x6_186 = M 1 6 := by rw [ex6_186, h_M5_185, up2_j (by decide)]
    intro x7_187 ex7_187 rx7_187
    have bx7_187 : 0 ≤ x7_187 ∧ x7_187 ≤ 8 := by rw [ex7_187]; exact bm_c1_20.mp (hM5_185.bx _ _)
    have fx7_187 : x7_187 = M 1 20 := by rw [ex7_187, h_M5_185, up2_j (by decide)]
    refine ⟨fun c => ?_, fun c => ?_⟩
    · unfold qX12_isNew_J36
      refine ⟨(by first | assumption | exact ⟨by omega, by omega⟩), ?_⟩
      refine sX12_flag (p0 := 0) hM5_185  ?_
      intro x10_189 p190 q191
      refine ⟨(by first | assumption | exact ⟨by omega, by omega⟩), ?_⟩
      intro M12_192 h_M12_192
      have hM12_192 : IM (b + 1) M12_192 := by rw [h_M12_192]; exact (hM5_185.mono (by omega)).up (by omega) (bm_c1_6.mpr ⟨by omega, by omega⟩)
      intro x13_193 ex13_193 rx13_193
      have bx13_193 : 0 ≤ x13_193 ∧ x13_193 ≤ 8 := by rw [ex13_193]; exact bm_c1_20.mp (hM12_192.bx _ _)
      have fx13_193 : x13_193 = M 1 20 := by rw [ex13_193, h_M12_192, up2_j (by decide), h_M5_185, up2_j (by decide)]
      exact hQ _ _ (hM12_192.mono (by omega))
    · unfold qX12_isNew_J36
      refine ⟨(by first | assumption | exact ⟨by omega, by omega⟩), ?_⟩
      refine sX12_flag (p0 := 1) hM5_185  ?_
      intro x10_195 p196 q197
      refine ⟨(by first | assumption | exact ⟨by omega, by omega⟩), ?_⟩
      intro M12_198 h_M12_198
      have hM12_198 : IM (b + 1) M12_198 := by rw [h_M12_198]; exact (hM5_185.mono (by omega)).up (by omega) (bm_c1_6.mpr ⟨by omega, by omega⟩)
      intro x13_199 ex13_199 rx13_199
      have bx13_199 : 0 ≤ x13_199 ∧ x13_199 ≤ 8 := by rw [ex13_199]; exact bm_c1_20.mp (hM12_198.bx _ _)
      have fx13_199 : x13_199 = M 1 20 := by rw [ex13_199, h_M12_198, up2_j (by decide), h_M5_185, up2_j (by decide)]
      exact hQ _ _ (hM12_198.mono (by omega))
  · unfold qX12_isNew_J16
    refine ⟨(by first | assumption | exact ⟨by omega, by omega⟩), ?_⟩
    intro M5_201 h_M5_201
    have hM5_201 : IM (b) M5_201 := by rw [h_M5_201]; exact hI.up (by omega) (bm_c1_28.mpr ⟨by omega, by omega⟩)
    intro x6_202 ex6_202 rx6_202
    have bx6_202 : 0 ≤ x6_202 ∧ x6_202 ≤ (b) := by rw [ex6_202]; exact bm_c1_6.mp (hM5_201.bx _ _)
    have fx6_202 : x6_202 = M 1 6 := by rw [ex6_202, h_M5_201, up2_j (by decide)]
    intro x7_203 ex7_203 rx7_203
    have bx7_203 : 0 ≤ x7_203 ∧ x7_203 ≤ 8 := by rw [ex7_203]; exact bm_c1_20.mp (hM5_201.bx _ _)
    have fx7_203 : x7_203 = M 1 20 := by rw [ex7_203, h_M5_201, up2_j (by decide)]
    refine ⟨fun c => ?_, fun c => ?_⟩
    · unfold qX12_isNew_J36
      refine ⟨(by first | assumption | exact ⟨by omega, by omega⟩), ?_⟩
      refine sX12_flag (p0 := 0) hM5_201  ?_
      intro x10_205 p206 q207
      refine ⟨(by first | assumption | exact ⟨by omega, by omega⟩), ?_⟩
      intro M12_208 h_M12_208
      have hM12_208 : IM (b + 1) M12_208 := by rw [h_M12_208]; exact (hM5_201.mono (by omega)).up (by omega) (bm_c1_6.mpr ⟨by omega, by omega⟩)
      intro x13_209 ex13_209 rx13_209
      have bx13_209 : 0 ≤ x13_209 ∧ x13_209 ≤ 8 := by rw [ex13_209]; exact bm_c1_20.mp (hM12_208.bx _ _)
      have fx13_209 : x13_209 = M 1 20 := by rw [ex13_209, h_M12_208, up2_j (by decide), h_M5_201, up2_j (by decide)]
      exact hQ _ _ (hM12_208.mono (by omega))
    · unfold qX12_isNew_J36
      refine ⟨(by first | assumption | exact ⟨by omega, by omega⟩), ?_⟩
      refine sX12_flag (p0 := 1) hM5_201  ?_
      intro x10_211 p212 q213
      refine ⟨(by first | assumption | exact ⟨by omega, by omega⟩), ?_⟩
      intro M12_214 h_M12_214
      have hM12_214 : IM (b + 1) M12_214 := by rw [h_M12_214]; exact (hM5_201.mono (by omega)).up (by omega) (bm_c1_6.mpr ⟨by omega, by omega⟩)
      intro x13_215 ex13_215 rx13_215
      have bx13_215 : 0 ≤ x13_215 ∧ x13_215 ≤ 8 := by rw [ex13_215]; exact bm_c1_20.mp (hM12_214.bx _ _)
      have fx13_215 : x13_215 = M 1 20 := by rw [ex13_215, h_M12_214, up2_j (by decide), h_M5_201, up2_j (by decide)]
      exact hQ _ _ (hM12_214.mono (by omega))
theorem sX12_gate  {b : Int} {M : Mem} {Q : Int → Mem → Prop} (hI : IM b M) (hQ : ∀ z : Int, (3 ≤ z ∧ z ≤ 29 ∧ z = M 1 3 - 1) → Q z M) : qX12_gate M Q := by
  unfold qX12_gate
  have hbn := hI.nn
  have u216 : 4 ≤ M 1 3 ∧ M 1 3 ≤ 30 := bm_c1_3.mp (hI.bx _ _)
  intro x1_217 ex1_217 rx1_217
  have bx1_217 : 4 ≤ x1_217 ∧ x1_217 ≤ 30 := by rw [ex1_217]; exact bm_c1_3.mp (hI.bx _ _)
  refine ⟨(by first | assumption | exact ⟨by omega, by omega⟩), ?_⟩
  exact hQ _ (by omega)
theorem sX12_isDigit  {b : Int} {M : Mem} {Q : Int → Mem → Prop} (hI : IM b M) (hQ : ∀ z : Int, ((z = 1 → M 1 15 < M 1 16 ∧ M 1 16 ≤ 80 ∧ 48 ≤ M 7 (M 1 15) ∧ M 7 (M 1 15) ≤ 57) ∧ (z = 0 → ¬ (M 1 15 < M 1 16 ∧ M 1 16 ≤ 80 ∧ 48 ≤ M 7 (M 1 15) ∧ M 7 (M 1 15) ≤ 57)) ∧ (z = 0 ∨ z = 1)) → Q z M) : qX12_isDigit M Q := by
  unfold qX12_isDigit
  have hbn := hI.nn
  have u218 : 0 ≤ M 1 15 ∧ M 1 15 ≤ 80 := bm_c1_15.mp (hI.bx _ _)
  have u219 : 0 ≤ M 1 16 ∧ M 1 16 ≤ 80 := bm_c1_16.mp (hI.bx _ _)
  intro x1_220 ex1_220 rx1_220
  have bx1_220 : 0 ≤ x1_220 ∧ x1_220 ≤ 80 := by rw [ex1_220]; exact bm_c1_15.mp (hI.bx _ _)
  intro x2_221 ex2_221 rx2_221
  have bx2_221 : 0 ≤ x2_221 ∧ x2_221 ≤ 80 := by rw [ex2_221]; exact bm_c1_16.mp (hI.bx _ _)
  refine ⟨fun c => ?_, fun c => ?_⟩
  · exact hQ _ (by omega)
  · intro x4_224 ex4_224 rx4_224
    have bx4_224 : 0 ≤ x4_224 ∧ x4_224 ≤ 80 := by rw [ex4_224]; exact bm_c1_15.mp (hI.bx _ _)
    refine ⟨by omega, ?_⟩
    refine ⟨by omega, ?_⟩
    intro x7_225 ex7_225 rx7_225
    have bx7_225 : 0 ≤ x7_225 ∧ x7_225 ≤ 255 := by rw [ex7_225]; exact bm_c7.mp (hI.bx _ _)
    have cgx7_225 : x7_225 = M 7 (M 1 15) := by rw [ex7_225, ← ex4_224]
    refine sX12_in (p0 := x7_225) (p2 := 48) (p4 := 57) hI  ?_
    intro x8_226 p227 q228 q229
    refine ⟨fun c => ?_, fun c => ?_⟩
    · exact hQ _ (by omega)
    · exact hQ _ (by omega)
theorem sX12_number_L13 {p1 : Int}  {Q : Int → Mem → Prop} {b : Int} {M0 : Mem} (hp : 1 ≤ p1 ∧ p1 ≤ 3) (hQ : ∀ z : Int, ∀ M' : Mem, IM b M' → FrJ (fun k j => k = 1 ∧ j = 15) M0 M' → (-1 ≤ z ∧ z ≤ 999 ∧ (p1 = 1 → z ≤ 9) ∧ (p1 = 2 → z ≤ 99) ∧ M0 1 15 ≤ M' 1 15 ∧ (0 ≤ z → M0 1 15 + 1 ≤ M' 1 15)) → Q z M') : ∀ (n : Nat) (v2 v3 : Int) (M : Mem), IM (b) M → FrJ (fun k j => k = 1 ∧ j = 15) M0 M → (0 ≤ v3 ∧ v3 ≤ p1 ∧ 0 ≤ v2 ∧ (v3 = 0 → v2 = 0 ∧ M 1 15 < M 1 16 ∧ M 1 16 ≤ 80 ∧ 48 ≤ M 7 (M 1 15) ∧ M 7 (M 1 15) ≤ 57) ∧ (v3 = 1 → v2 ≤ 9) ∧ (v3 = 2 → v2 ≤ 99) ∧ v2 ≤ 999 ∧ M0 1 15 + v3 ≤ M 1 15) → 3 - v3 < (n : Int) → qX12_number_L13 p1 Q n v2 v3 M := by
  intro n
  induction n with
  | zero => intro v2 v3 M hI hF hv hm; exact absurd hm (by omega)
  | succ n ih =>
    intro v2 v3 M hI hF hv hm
    rw [qX12_number_L13]
    have hbn := hI.nn
    have u232 : 0 ≤ M 1 15 ∧ M 1 15 ≤ 80 := bm_c1_15.mp (hI.bx _ _)
    have u233 : 0 ≤ M 1 16 ∧ M 1 16 ≤ 80 := bm_c1_16.mp (hI.bx _ _)
    refine ⟨(by first | assumption | exact ⟨by omega, by omega⟩), ?_⟩
    refine ⟨fun c => ?_, fun c => ?_⟩
    · refine ⟨(by first | assumption | exact ⟨by omega, by omega⟩), ?_⟩
      have u235 : 0 ≤ M 1 15 ∧ M 1 15 ≤ 80 := bm_c1_15.mp (hI.bx _ _)
      exact hQ _ _ (hI.mono (by omega)) hF (by omega)
    · refine sX12_isDigit  hI  ?_
      intro x6_237 p238 q239 q240
      refine ⟨fun c => ?_, fun c => ?_⟩
      · refine ⟨(by first | assumption | exact ⟨by omega, by omega⟩), ?_⟩
        have u242 : 0 ≤ M 1 15 ∧ M 1 15 ≤ 80 := bm_c1_15.mp (hI.bx _ _)
        exact hQ _ _ (hI.mono (by omega)) hF (by omega)
      · intro x9_244 ex9_244 rx9_244
        have bx9_244 : 0 ≤ x9_244 ∧ x9_244 ≤ 80 := by rw [ex9_244]; exact bm_c1_15.mp (hI.bx _ _)
        refine ⟨by omega, ?_⟩
        refine ⟨by omega, ?_⟩
        intro x12_245 ex12_245 rx12_245
        have bx12_245 : 0 ≤ x12_245 ∧ x12_245 ≤ 255 := by rw [ex12_245]; exact bm_c7.mp (hI.bx _ _)
        have cgx12_245 : x12_245 = M 7 (M 1 15) := by rw [ex12_245, ← ex9_244]
        intro x13_246 ex13_246 rx13_246
        have bx13_246 : 0 ≤ x13_246 ∧ x13_246 ≤ 80 := by rw [ex13_246]; exact bm_c1_15.mp (hI.bx _ _)
        refine ⟨(by first | assumption | exact ⟨by omega, by omega⟩), ?_⟩
        intro M15_247 h_M15_247
        have hM15_247 : IM (b) M15_247 := by rw [h_M15_247]; exact hI.up (by omega) (bm_c1_15.mpr ⟨by omega, by omega⟩)
        have hFM15_247 : FrJ (fun k j => k = 1 ∧ j = 15) M0 M15_247 := by rw [h_M15_247]; exact (hF).up (by omega)
        have u248 : 0 ≤ M15_247 1 15 ∧ M15_247 1 15 ≤ 80 := bm_c1_15.mp (hM15_247.bx _ _)
        have t249 : M15_247 1 15 = x13_246 + 1 := by rw [h_M15_247, up2_s]
        exact ih _ _ _ (hM15_247.mono (by omega)) hFM15_247 (by omega) (by omega)
theorem sX12_number {p1 : Int} {b : Int} {M : Mem} {Q : Int → Mem → Prop} (hI : IM b M) (hp : 1 ≤ p1 ∧ p1 ≤ 3) (hQ : ∀ z : Int, ∀ M' : Mem, IM b M' → FrJ (fun k j => k = 1 ∧ j = 15) M M' → (-1 ≤ z ∧ z ≤ 999 ∧ (p1 = 1 → z ≤ 9) ∧ (p1 = 2 → z ≤ 99) ∧ M 1 15 ≤ M' 1 15 ∧ (0 ≤ z → M 1 15 + 1 ≤ M' 1 15)) → Q z M') : qX12_number p1 M Q := by
  unfold qX12_number
  have hbn := hI.nn
  have u250 : 0 ≤ M 1 15 ∧ M 1 15 ≤ 80 := bm_c1_15.mp (hI.bx _ _)
  refine sX12_isDigit  hI  ?_
  intro x1_251 p252 q253 q254
  refine ⟨fun c => ?_, fun c => ?_⟩
  · refine ⟨4, ?_⟩
    have u256 : 0 ≤ M 1 15 ∧ M 1 15 ≤ 80 := bm_c1_15.mp (hI.bx _ _)
    refine sX12_number_L13 (b := b) (p1 := p1) (M0 := M) hp ?_ _ _ _ _ (hI.mono (by omega)) FrJ.rf (by omega) (by omega)
    · exact hQ
  · have u258 : 0 ≤ M 1 15 ∧ M 1 15 ≤ 80 := bm_c1_15.mp (hI.bx _ _)
    exact hQ _ _ (hI.mono (by omega)) FrJ.rf (by omega)
theorem sX12_onCell_L5 {k1 : Nat} {p2 : Int}  {Q : Int → Mem → Prop} {b : Int} {M0 : Mem} (hk1 : isN k1) (hQ : ∀ z : Int, (-1 ≤ z ∧ z ≤ 5 ∧ (0 ≤ z → M0 k1 z = p2 ∧ z < M0 1 4)) → Q z M0) : ∀ (n : Nat) (v3 v4 : Int), IM (b) M0 → ((v3 = -1 ∨ 0 ≤ v3 ∧ v3 < M0 1 4 ∧ M0 k1 v3 = p2) ∧ -1 ≤ v3 ∧ v3 ≤ 5 ∧ 0 ≤ v4 ∧ v4 ≤ 6) → 6 - v4 < (n : Int) → qX12_onCell_L5 k1 p2 Q n v3 v4 M0 := by
  intro n
  induction n with
  | zero => intro v3 v4 hI hv hm; exact absurd hm (by omega)
  | succ n ih =>
    intro v3 v4 hI hv hm
    rw [qX12_onCell_L5]
    have hbn := hI.nn
    have ek1 : k1 = 5 ∨ k1 = 6 := hk1
    have u259 : 0 ≤ M0 1 4 ∧ M0 1 4 ≤ 6 := bm_c1_4.mp (hI.bx _ _)
    intro x1_260 ex1_260 rx1_260
    have bx1_260 : 0 ≤ x1_260 ∧ x1_260 ≤ 6 := by rw [ex1_260]; exact bm_c1_4.mp (hI.bx _ _)
    refine ⟨(by first | assumption | exact ⟨by omega, by omega⟩), ?_⟩
    refine ⟨fun c => ?_, fun c => ?_⟩
    · refine ⟨(by first | assumption | exact ⟨by omega, by omega⟩), ?_⟩
      exact hQ _ (by omega)
    · refine ⟨by omega, ?_⟩
      refine ⟨by omega, ?_⟩
      intro x7_263 ex7_263 rx7_263
      have rbx7_263 : -2147483648 ≤ x7_263 ∧ x7_263 ≤ 2147483647 := rx7_263
      have nbx7_263 : BN (b) v4 x7_263 := by rw [ex7_263]; exact (bm_n hk1).mp (hI.bx _ _)
      first | (have bx7_263 : -1 ≤ x7_263 ∧ x7_263 ≤ 29 := nbx7_263.1 ⟨by omega, by omega⟩) | (have bx7_263 : -1 ≤ x7_263 ∧ x7_263 ≤ 29 := nbx7_263.2.1 ⟨by omega, by omega⟩) | skip
      refine ⟨fun c => ?_, fun c => ?_⟩
      · exact ih _ _ (hI.mono (by omega)) (by omega) (by omega)
      · exact ih _ _ (hI.mono (by omega)) (by omega) (by omega)
theorem sX12_onCell {k1 : Nat} {p2 : Int} {b : Int} {M : Mem} {Q : Int → Mem → Prop} (hI : IM b M) (hk1 : isN k1) (hQ : ∀ z : Int, (-1 ≤ z ∧ z ≤ 5 ∧ (0 ≤ z → M k1 z = p2 ∧ z < M 1 4)) → Q z M) : qX12_onCell k1 p2 M Q := by
  unfold qX12_onCell
  have hbn := hI.nn
  have ek1 : k1 = 5 ∨ k1 = 6 := hk1
  have u266 : 0 ≤ M 1 4 ∧ M 1 4 ≤ 6 := bm_c1_4.mp (hI.bx _ _)
  refine ⟨7, ?_⟩
  refine sX12_onCell_L5 (b := b) (p2 := p2) (M0 := M) hk1 ?_ _ _ _ (hI.mono (by omega)) (by omega) (by omega)
  · exact hQ
theorem sX12_readsCell_L45 {p1 : Int} {X85 : Int → Int → Mem → Prop} {Q : Int → Mem → Prop} {b : Int} {M0 : Mem} (hQ : ∀ z : Int, ∀ M' : Mem, IM b M' → FrJ (fun k j => k = 1 ∧ j = 15) M0 M' → (-1 ≤ z ∧ z ≤ 29) → Q z M') (hX85 : ∀ w1 w2 : Int, ∀ M' : Mem, IM (b) M' → FrJ (fun k j => k = 1 ∧ j = 15) M0 M' → (0 ≤ w1 ∧ w1 ≤ 99 ∧ 0 ≤ w2 ∧ w2 ≤ 1 ∧ (w2 = 1 → w1 ≤ 29) ∧ 1 ≤ M' 1 15) → X85 w1 w2 M') : ∀ (n : Nat) (v2 v3 v4 : Int) (M : Mem), IM (b) M → FrJ (fun k j => k = 1 ∧ j = 15) M0 M → (0 ≤ v2 ∧ v2 ≤ 99 ∧ 0 ≤ v3 ∧ v3 ≤ 1 ∧ 0 ≤ v4 ∧ v4 ≤ 8 ∧ (v3 = 1 → v2 ≤ 29) ∧ 1 ≤ M 1 15) → 8 - v4 < (n : Int) → qX12_readsCell_L45 p1 X85 Q n v2 v3 v4 M := by
  intro n
  induction n with
  | zero => intro v2 v3 v4 M hI hF hv hm; exact absurd hm (by omega)
  | succ n ih =>
    intro v2 v3 v4 M hI hF hv hm
    rw [qX12_readsCell_L45]
    have hbn := hI.nn
    have u267 : 0 ≤ M 1 15 ∧ M 1 15 ≤ 80 := bm_c1_15.mp (hI.bx _ _)
    intro x5_268 ex5_268 rx5_268
    have bx5_268 : 0 ≤ x5_268 ∧ x5_268 ≤ 8 := by rw [ex5_268]; exact bm_c1_20.mp (hI.bx _ _)
    refine ⟨(by first | assumption | exact ⟨by omega, by omega⟩), ?_⟩
    refine ⟨fun c => ?_, fun c => ?_⟩
    · exact hX85 _ _ _ (hI.mono (by omega)) hF (by omega)
    · refine ⟨fun c => ?_, fun c => ?_⟩
      · exact hX85 _ _ _ (hI.mono (by omega)) hF (by omega)
      · refine ⟨(by first | assumption | exact ⟨by omega, by omega⟩), ?_⟩
        refine ⟨fun c => ?_, fun c => ?_⟩
        · exact ih _ _ _ _ (hI.mono (by omega)) hF (by omega) (by omega)
        · refine ⟨by omega, ?_⟩
          refine ⟨by omega, ?_⟩
          intro x13_275 ex13_275 rx13_275
          have bx13_275 : -1 ≤ x13_275 ∧ x13_275 ≤ 29 := by rw [ex13_275]; exact bm_c9.mp (hI.bx _ _)
          refine ⟨(by first | assumption | exact ⟨by omega, by omega⟩), ?_⟩
          refine ⟨fun c => ?_, fun c => ?_⟩
          · exact ih _ _ _ _ (hI.mono (by omega)) hF (by omega) (by omega)
          · exact ih _ _ _ _ (hI.mono (by omega)) hF (by omega) (by omega)
theorem sX12_readsCell {p1 : Int} {b : Int} {M : Mem} {Q : Int → Mem → Prop} (hI : IM b M) (hQ : ∀ z : Int, ∀ M' : Mem, IM b M' → FrJ (fun k j => k = 1 ∧ j = 15) M M' → (-1 ≤ z ∧ z ≤ 29) → Q z M') : qX12_readsCell p1 M Q := by
  unfold qX12_readsCell
  have hbn := hI.nn
  have u278 : 0 ≤ M 1 15 ∧ M 1 15 ≤ 80 := bm_c1_15.mp (hI.bx _ _)
  refine sX12_number (p1 := 2) hI (by omega) ?_
  intro x1_279 M1_280 hM1_280 gM1_280 p281 q282
  have hFM1_280 : FrJ (fun k j => k = 1 ∧ j = 15) M M1_280 := (FrJ.rf).tr (gM1_280.mono (by intro k j h; omega))
  refine ⟨fun c => ?_, fun c => ?_⟩
  · refine sX12_gate  hM1_280  ?_
    intro x3_284 p285 q286
    refine ⟨fun c => ?_, fun c => ?_⟩
    · refine ⟨9, ?_⟩
      refine sX12_readsCell_L45 (b := b) (p1 := p1) (M0 := M) ?_ ?_ _ _ _ _ _ (hM1_280.mono (by omega)) hFM1_280 (by omega) (by omega)
      · exact hQ
      · intro v2_288 v3_289 M_290 hM_290 hFM_290 p291
        unfold qX12_readsCell_J85
        intro x17_292 ex17_292 rx17_292
        have bx17_292 : 0 ≤ x17_292 ∧ x17_292 ≤ 80 := by rw [ex17_292]; exact bm_c1_15.mp (hM_290.bx _ _)
        refine ⟨(by first | assumption | exact ⟨by omega, by omega⟩), ?_⟩
        refine ⟨fun c => ?_, fun c => ?_⟩
        · unfold qX12_readsCell_J99
          refine ⟨(by first | assumption | exact ⟨by omega, by omega⟩), ?_⟩
          refine sX12_flag (p0 := 0) hM_290  ?_
          intro x21_294 p295 q296
          refine ⟨(by first | assumption | exact ⟨by omega, by omega⟩), ?_⟩
          intro M23_297 h_M23_297
          have hM23_297 : IM (b) M23_297 := by rw [h_M23_297]; exact hM_290.up (by omega) (bm_c1_15.mpr ⟨by omega, by omega⟩)
          have hFM23_297 : FrJ (fun k j => k = 1 ∧ j = 15) M M23_297 := by rw [h_M23_297]; exact (hFM_290).up (by omega)
          refine ⟨(by first | assumption | exact ⟨by omega, by omega⟩), ?_⟩
          refine ⟨fun c => ?_, fun c => ?_⟩
          · exact hQ _ _ (hM23_297.mono (by omega)) hFM23_297 (by omega)
          · refine ⟨(by first | assumption | exact ⟨by omega, by omega⟩), ?_⟩
            exact hQ _ _ (hM23_297.mono (by omega)) hFM23_297 (by omega)
        · unfold qX12_readsCell_J99
          refine ⟨(by first | assumption | exact ⟨by omega, by omega⟩), ?_⟩
          refine sX12_flag (p0 := 1) hM_290  ?_
          intro x21_301 p302 q303
          refine ⟨(by first | assumption | exact ⟨by omega, by omega⟩), ?_⟩
          intro M23_304 h_M23_304
          have hM23_304 : IM (b) M23_304 := by rw [h_M23_304]; exact hM_290.up (by omega) (bm_c1_15.mpr ⟨by omega, by omega⟩)
          have hFM23_304 : FrJ (fun k j => k = 1 ∧ j = 15) M M23_304 := by rw [h_M23_304]; exact (hFM_290).up (by omega)
          refine ⟨(by first | assumption | exact ⟨by omega, by omega⟩), ?_⟩
          refine ⟨fun c => ?_, fun c => ?_⟩
          · exact hQ _ _ (hM23_304.mono (by omega)) hFM23_304 (by omega)
          · refine ⟨(by first | assumption | exact ⟨by omega, by omega⟩), ?_⟩
            exact hQ _ _ (hM23_304.mono (by omega)) hFM23_304 (by omega)
    · refine ⟨fun c => ?_, fun c => ?_⟩
      · refine ⟨9, ?_⟩
        refine sX12_readsCell_L45 (b := b) (p1 := p1) (M0 := M) ?_ ?_ _ _ _ _ _ (hM1_280.mono (by omega)) hFM1_280 (by omega) (by omega)
        · exact hQ
        · intro v2_309 v3_310 M_311 hM_311 hFM_311 p312
          unfold qX12_readsCell_J85
          intro x17_313 ex17_313 rx17_313
          have bx17_313 : 0 ≤ x17_313 ∧ x17_313 ≤ 80 := by rw [ex17_313]; exact bm_c1_15.mp (hM_311.bx _ _)
          refine ⟨(by first | assumption | exact ⟨by omega, by omega⟩), ?_⟩
          refine ⟨fun c => ?_, fun c => ?_⟩
          · unfold qX12_readsCell_J99
            refine ⟨(by first | assumption | exact ⟨by omega, by omega⟩), ?_⟩
            refine sX12_flag (p0 := 0) hM_311  ?_
            intro x21_315 p316 q317
            refine ⟨(by first | assumption | exact ⟨by omega, by omega⟩), ?_⟩
            intro M23_318 h_M23_318
            have hM23_318 : IM (b) M23_318 := by rw [h_M23_318]; exact hM_311.up (by omega) (bm_c1_15.mpr ⟨by omega, by omega⟩)
            have hFM23_318 : FrJ (fun k j => k = 1 ∧ j = 15) M M23_318 := by rw [h_M23_318]; exact (hFM_311).up (by omega)
            refine ⟨(by first | assumption | exact ⟨by omega, by omega⟩), ?_⟩
            refine ⟨fun c => ?_, fun c => ?_⟩
            · exact hQ _ _ (hM23_318.mono (by omega)) hFM23_318 (by omega)
            · refine ⟨(by first | assumption | exact ⟨by omega, by omega⟩), ?_⟩
              exact hQ _ _ (hM23_318.mono (by omega)) hFM23_318 (by omega)
          · unfold qX12_readsCell_J99
            refine ⟨(by first | assumption | exact ⟨by omega, by omega⟩), ?_⟩
            refine sX12_flag (p0 := 1) hM_311  ?_
            intro x21_322 p323 q324
            refine ⟨(by first | assumption | exact ⟨by omega, by omega⟩), ?_⟩
            intro M23_325 h_M23_325
            have hM23_325 : IM (b) M23_325 := by rw [h_M23_325]; exact hM_311.up (by omega) (bm_c1_15.mpr ⟨by omega, by omega⟩)
            have hFM23_325 : FrJ (fun k j => k = 1 ∧ j = 15) M M23_325 := by rw [h_M23_325]; exact (hFM_311).up (by omega)
            refine ⟨(by first | assumption | exact ⟨by omega, by omega⟩), ?_⟩
            refine ⟨fun c => ?_, fun c => ?_⟩
            · exact hQ _ _ (hM23_325.mono (by omega)) hFM23_325 (by omega)
            · refine ⟨(by first | assumption | exact ⟨by omega, by omega⟩), ?_⟩
              exact hQ _ _ (hM23_325.mono (by omega)) hFM23_325 (by omega)
      · refine sX12_onCell (p2 := x1_279) hM1_280 (Or.inl rfl) ?_
        intro x29_329 p330 q331
        refine ⟨fun c => ?_, fun c => ?_⟩
        · refine ⟨9, ?_⟩
          refine sX12_readsCell_L45 (b := b) (p1 := p1) (M0 := M) ?_ ?_ _ _ _ _ _ (hM1_280.mono (by omega)) hFM1_280 (by omega) (by omega)
          · exact hQ
          · intro v2_333 v3_334 M_335 hM_335 hFM_335 p336
            unfold qX12_readsCell_J85
            intro x17_337 ex17_337 rx17_337
            have bx17_337 : 0 ≤ x17_337 ∧ x17_337 ≤ 80 := by rw [ex17_337]; exact bm_c1_15.mp (hM_335.bx _ _)
            refine ⟨(by first | assumption | exact ⟨by omega, by omega⟩), ?_⟩
            refine ⟨fun c => ?_, fun c => ?_⟩
            · unfold qX12_readsCell_J99
              refine ⟨(by first | assumption | exact ⟨by omega, by omega⟩), ?_⟩
              refine sX12_flag (p0 := 0) hM_335  ?_
              intro x21_339 p340 q341
              refine ⟨(by first | assumption | exact ⟨by omega, by omega⟩), ?_⟩
              intro M23_342 h_M23_342
              have hM23_342 : IM (b) M23_342 := by rw [h_M23_342]; exact hM_335.up (by omega) (bm_c1_15.mpr ⟨by omega, by omega⟩)
              have hFM23_342 : FrJ (fun k j => k = 1 ∧ j = 15) M M23_342 := by rw [h_M23_342]; exact (hFM_335).up (by omega)
              refine ⟨(by first | assumption | exact ⟨by omega, by omega⟩), ?_⟩
              refine ⟨fun c => ?_, fun c => ?_⟩
              · exact hQ _ _ (hM23_342.mono (by omega)) hFM23_342 (by omega)
              · refine ⟨(by first | assumption | exact ⟨by omega, by omega⟩), ?_⟩
                exact hQ _ _ (hM23_342.mono (by omega)) hFM23_342 (by omega)
            · unfold qX12_readsCell_J99
              refine ⟨(by first | assumption | exact ⟨by omega, by omega⟩), ?_⟩
              refine sX12_flag (p0 := 1) hM_335  ?_
              intro x21_346 p347 q348
              refine ⟨(by first | assumption | exact ⟨by omega, by omega⟩), ?_⟩
              intro M23_349 h_M23_349
              have hM23_349 : IM (b) M23_349 := by rw [h_M23_349]; exact hM_335.up (by omega) (bm_c1_15.mpr ⟨by omega, by omega⟩)
              have hFM23_349 : FrJ (fun k j => k = 1 ∧ j = 15) M M23_349 := by rw [h_M23_349]; exact (hFM_335).up (by omega)
              refine ⟨(by first | assumption | exact ⟨by omega, by omega⟩), ?_⟩
              refine ⟨fun c => ?_, fun c => ?_⟩
              · exact hQ _ _ (hM23_349.mono (by omega)) hFM23_349 (by omega)
              · refine ⟨(by first | assumption | exact ⟨by omega, by omega⟩), ?_⟩
                exact hQ _ _ (hM23_349.mono (by omega)) hFM23_349 (by omega)
        · refine ⟨9, ?_⟩
          refine sX12_readsCell_L45 (b := b) (p1 := p1) (M0 := M) ?_ ?_ _ _ _ _ _ (hM1_280.mono (by omega)) hFM1_280 (by omega) (by omega)
          · exact hQ
          · intro v2_353 v3_354 M_355 hM_355 hFM_355 p356
            unfold qX12_readsCell_J85
            intro x17_357 ex17_357 rx17_357
            have bx17_357 : 0 ≤ x17_357 ∧ x17_357 ≤ 80 := by rw [ex17_357]; exact bm_c1_15.mp (hM_355.bx _ _)
            refine ⟨(by first | assumption | exact ⟨by omega, by omega⟩), ?_⟩
            refine ⟨fun c => ?_, fun c => ?_⟩
            · unfold qX12_readsCell_J99
              refine ⟨(by first | assumption | exact ⟨by omega, by omega⟩), ?_⟩
              refine sX12_flag (p0 := 0) hM_355  ?_
              intro x21_359 p360 q361
              refine ⟨(by first | assumption | exact ⟨by omega, by omega⟩), ?_⟩
              intro M23_362 h_M23_362
              have hM23_362 : IM (b) M23_362 := by rw [h_M23_362]; exact hM_355.up (by omega) (bm_c1_15.mpr ⟨by omega, by omega⟩)
              have hFM23_362 : FrJ (fun k j => k = 1 ∧ j = 15) M M23_362 := by rw [h_M23_362]; exact (hFM_355).up (by omega)
              refine ⟨(by first | assumption | exact ⟨by omega, by omega⟩), ?_⟩
              refine ⟨fun c => ?_, fun c => ?_⟩
              · exact hQ _ _ (hM23_362.mono (by omega)) hFM23_362 (by omega)
              · refine ⟨(by first | assumption | exact ⟨by omega, by omega⟩), ?_⟩
                exact hQ _ _ (hM23_362.mono (by omega)) hFM23_362 (by omega)
            · unfold qX12_readsCell_J99
              refine ⟨(by first | assumption | exact ⟨by omega, by omega⟩), ?_⟩
              refine sX12_flag (p0 := 1) hM_355  ?_
              intro x21_366 p367 q368
              refine ⟨(by first | assumption | exact ⟨by omega, by omega⟩), ?_⟩
              intro M23_369 h_M23_369
              have hM23_369 : IM (b) M23_369 := by rw [h_M23_369]; exact hM_355.up (by omega) (bm_c1_15.mpr ⟨by omega, by omega⟩)
              have hFM23_369 : FrJ (fun k j => k = 1 ∧ j = 15) M M23_369 := by rw [h_M23_369]; exact (hFM_355).up (by omega)
              refine ⟨(by first | assumption | exact ⟨by omega, by omega⟩), ?_⟩
              refine ⟨fun c => ?_, fun c => ?_⟩
              · exact hQ _ _ (hM23_369.mono (by omega)) hFM23_369 (by omega)
              · refine ⟨(by first | assumption | exact ⟨by omega, by omega⟩), ?_⟩
                exact hQ _ _ (hM23_369.mono (by omega)) hFM23_369 (by omega)
  · exact hQ _ _ (hM1_280.mono (by omega)) hFM1_280 (by omega)
theorem sX12_readsHearse  {b : Int} {M : Mem} {Q : Int → Mem → Prop} (hI : IM b M) (hp : M 1 4 + M 1 20 ≤ 6) (hQ : ∀ z : Int, ∀ M' : Mem, IM b M' → (M' 1 4 + M' 1 20 ≤ 6 ∧ M 1 4 + M 1 20 ≤ M' 1 4 + M' 1 20 ∧ (z = 1 → M' 1 4 + M' 1 20 = M 1 4 + M 1 20 + 1)) → Q z M') : qX12_readsHearse M Q := by
  unfold qX12_readsHearse
  have hbn := hI.nn
  have u373 : 0 ≤ M 1 4 ∧ M 1 4 ≤ 6 := bm_c1_4.mp (hI.bx _ _)
  have u374 : 0 ≤ M 1 20 ∧ M 1 20 ≤ 8 := bm_c1_20.mp (hI.bx _ _)
  intro x1_375 ex1_375 rx1_375
  have bx1_375 : 0 ≤ x1_375 ∧ x1_375 ≤ 6 := by rw [ex1_375]; exact bm_c1_4.mp (hI.bx _ _)
  intro x2_376 ex2_376 rx2_376
  have bx2_376 : 0 ≤ x2_376 ∧ x2_376 ≤ 8 := by rw [ex2_376]; exact bm_c1_20.mp (hI.bx _ _)
  refine ⟨(by first | assumption | exact ⟨by omega, by omega⟩), ?_⟩
  refine ⟨fun c => ?_, fun c => ?_⟩
  · refine sX12_readsCell (p1 := 1) hI  ?_
    intro x5_378 M5_379 hM5_379 gM5_379 p380 q381
    first | (have t382 : M5_379 1 4 = M 1 4 := gM5_379 1 4 (by omega)) | skip
    first | (have t383 : M5_379 1 20 = M 1 20 := gM5_379 1 20 (by omega)) | skip
    first | (have t384 : M5_379 1 4 = M 1 4 := gM5_379 1 4 (by omega)) | skip
    first | (have t385 : M5_379 1 20 = M 1 20 := gM5_379 1 20 (by omega)) | skip
    intro x6_386 ex6_386 rx6_386
    have bx6_386 : 0 ≤ x6_386 ∧ x6_386 ≤ 8 := by rw [ex6_386]; exact bm_c1_20.mp (hM5_379.bx _ _)
    refine ⟨by omega, ?_⟩
    refine ⟨by omega, ?_⟩
    intro M9_387 h_M9_387
    have hM9_387 : IM (b) M9_387 := by rw [h_M9_387]; exact hM5_379.up (by omega) (bm_c9.mpr ⟨by omega, by omega⟩)
    intro x10_388 ex10_388 rx10_388
    have bx10_388 : 0 ≤ x10_388 ∧ x10_388 ≤ 8 := by rw [ex10_388]; exact bm_c1_20.mp (hM9_387.bx _ _)
    have fx10_388 : x10_388 = M5_379 1 20 := by rw [ex10_388, h_M9_387, up2_n (by decide)]
    refine ⟨(by first | assumption | exact ⟨by omega, by omega⟩), ?_⟩
    intro M12_389 h_M12_389
    have hM12_389 : IM (b) M12_389 := by rw [h_M12_389]; exact hM9_387.up (by omega) (bm_c1_20.mpr ⟨by omega, by omega⟩)
    refine ⟨fun c => ?_, fun c => ?_⟩
    · have u391 : 0 ≤ M12_389 1 4 ∧ M12_389 1 4 ≤ 6 := bm_c1_4.mp (hM12_389.bx _ _)
      have u392 : 0 ≤ M12_389 1 20 ∧ M12_389 1 20 ≤ 8 := bm_c1_20.mp (hM12_389.bx _ _)
      have t393 : M12_389 1 4 = M5_379 1 4 := by rw [h_M12_389, up2_j (by decide), h_M9_387, up2_n (by decide)]
      have t394 : M12_389 1 20 = x10_388 + 1 := by rw [h_M12_389, up2_s]
      exact hQ _ _ (hM12_389.mono (by omega)) (by omega)
    · have u396 : 0 ≤ M12_389 1 4 ∧ M12_389 1 4 ≤ 6 := bm_c1_4.mp (hM12_389.bx _ _)
      have u397 : 0 ≤ M12_389 1 20 ∧ M12_389 1 20 ≤ 8 := bm_c1_20.mp (hM12_389.bx _ _)
      have t398 : M12_389 1 4 = M5_379 1 4 := by rw [h_M12_389, up2_j (by decide), h_M9_387, up2_n (by decide)]
      have t399 : M12_389 1 20 = x10_388 + 1 := by rw [h_M12_389, up2_s]
      exact hQ _ _ (hM12_389.mono (by omega)) (by omega)
  · have u401 : 0 ≤ M 1 4 ∧ M 1 4 ≤ 6 := bm_c1_4.mp (hI.bx _ _)
    have u402 : 0 ≤ M 1 20 ∧ M 1 20 ≤ 8 := bm_c1_20.mp (hI.bx _ _)
    exact hQ _ _ (hI.mono (by omega)) (by omega)
theorem sX12_takes {p1 : Int} {b : Int} {M : Mem} {Q : Int → Mem → Prop} (hI : IM b M) (hQ : ∀ z : Int, ∀ M' : Mem, IM b M' → FrJ (fun k j => k = 1 ∧ j = 15) M M' → (M 1 15 ≤ M' 1 15) → Q z M') : qX12_takes p1 M Q := by
  unfold qX12_takes
  have hbn := hI.nn
  have u403 : 0 ≤ M 1 15 ∧ M 1 15 ≤ 80 := bm_c1_15.mp (hI.bx _ _)
  intro x1_404 ex1_404 rx1_404
  have bx1_404 : 0 ≤ x1_404 ∧ x1_404 ≤ 80 := by rw [ex1_404]; exact bm_c1_15.mp (hI.bx _ _)
  intro x2_405 ex2_405 rx2_405
  have bx2_405 : 0 ≤ x2_405 ∧ x2_405 ≤ 80 := by rw [ex2_405]; exact bm_c1_16.mp (hI.bx _ _)
  refine ⟨fun c => ?_, fun c => ?_⟩
  · unfold qX12_takes_J28
    unfold qX12_takes_J29
    intro x4_407 ex4_407 rx4_407
    have bx4_407 : 0 ≤ x4_407 ∧ x4_407 ≤ 80 := by rw [ex4_407]; exact bm_c1_15.mp (hI.bx _ _)
    refine ⟨(by first | assumption | exact ⟨by omega, by omega⟩), ?_⟩
    refine sX12_flag (p0 := 0) hI  ?_
    intro x6_408 p409 q410
    refine ⟨(by first | assumption | exact ⟨by omega, by omega⟩), ?_⟩
    intro M8_411 h_M8_411
    have hM8_411 : IM (b) M8_411 := by rw [h_M8_411]; exact hI.up (by omega) (bm_c1_15.mpr ⟨by omega, by omega⟩)
    have hFM8_411 : FrJ (fun k j => k = 1 ∧ j = 15) M M8_411 := by rw [h_M8_411]; exact (FrJ.rf).up (by omega)
    refine ⟨by omega, ?_⟩
    have u412 : 0 ≤ M8_411 1 15 ∧ M8_411 1 15 ≤ 80 := bm_c1_15.mp (hM8_411.bx _ _)
    have t413 : M8_411 1 15 = x4_407 + x6_408 := by rw [h_M8_411, up2_s]
    exact hQ _ _ (hM8_411.mono (by omega)) hFM8_411 (by omega)
  · intro x10_415 ex10_415 rx10_415
    have bx10_415 : 0 ≤ x10_415 ∧ x10_415 ≤ 80 := by rw [ex10_415]; exact bm_c1_15.mp (hI.bx _ _)
    refine ⟨by omega, ?_⟩
    refine ⟨by omega, ?_⟩
    intro x13_416 ex13_416 rx13_416
    have bx13_416 : 0 ≤ x13_416 ∧ x13_416 ≤ 255 := by rw [ex13_416]; exact bm_c7.mp (hI.bx _ _)
    have cgx13_416 : x13_416 = M 7 (M 1 15) := by rw [ex13_416, ← ex10_415]
    refine ⟨fun c => ?_, fun c => ?_⟩
    · unfold qX12_takes_J28
      unfold qX12_takes_J29
      intro x4_418 ex4_418 rx4_418
      have bx4_418 : 0 ≤ x4_418 ∧ x4_418 ≤ 80 := by rw [ex4_418]; exact bm_c1_15.mp (hI.bx _ _)
      refine ⟨(by first | assumption | exact ⟨by omega, by omega⟩), ?_⟩
      refine sX12_flag (p0 := 0) hI  ?_
      intro x6_419 p420 q421
      refine ⟨(by first | assumption | exact ⟨by omega, by omega⟩), ?_⟩
      intro M8_422 h_M8_422
      have hM8_422 : IM (b) M8_422 := by rw [h_M8_422]; exact hI.up (by omega) (bm_c1_15.mpr ⟨by omega, by omega⟩)
      have hFM8_422 : FrJ (fun k j => k = 1 ∧ j = 15) M M8_422 := by rw [h_M8_422]; exact (FrJ.rf).up (by omega)
      refine ⟨by omega, ?_⟩
      have u423 : 0 ≤ M8_422 1 15 ∧ M8_422 1 15 ≤ 80 := bm_c1_15.mp (hM8_422.bx _ _)
      have t424 : M8_422 1 15 = x4_418 + x6_419 := by rw [h_M8_422, up2_s]
      exact hQ _ _ (hM8_422.mono (by omega)) hFM8_422 (by omega)
    · unfold qX12_takes_J29
      intro x4_426 ex4_426 rx4_426
      have bx4_426 : 0 ≤ x4_426 ∧ x4_426 ≤ 80 := by rw [ex4_426]; exact bm_c1_15.mp (hI.bx _ _)
      refine ⟨(by first | assumption | exact ⟨by omega, by omega⟩), ?_⟩
      refine sX12_flag (p0 := 1) hI  ?_
      intro x6_427 p428 q429
      refine ⟨(by first | assumption | exact ⟨by omega, by omega⟩), ?_⟩
      intro M8_430 h_M8_430
      have hM8_430 : IM (b) M8_430 := by rw [h_M8_430]; exact hI.up (by omega) (bm_c1_15.mpr ⟨by omega, by omega⟩)
      have hFM8_430 : FrJ (fun k j => k = 1 ∧ j = 15) M M8_430 := by rw [h_M8_430]; exact (FrJ.rf).up (by omega)
      refine ⟨by omega, ?_⟩
      have u431 : 0 ≤ M8_430 1 15 ∧ M8_430 1 15 ≤ 80 := bm_c1_15.mp (hM8_430.bx _ _)
      have t432 : M8_430 1 15 = x4_426 + x6_427 := by rw [h_M8_430, up2_s]
      exact hQ _ _ (hM8_430.mono (by omega)) hFM8_430 (by omega)
theorem sX12_hearses_L29  {X60 : Int → Int → Mem → Prop} {Q : Int → Mem → Prop} {b : Int} (hb : b + 1 ≤ 2000000000) (hQ : ∀ z : Int, ∀ M' : Mem, IM (b + 1) M' → Q z M') (hX60 : ∀ w1 w2 : Int, ∀ M' : Mem, IM (b) M' → (0 ≤ w1 ∧ w1 ≤ 80 ∧ 0 ≤ w2 ∧ w2 ≤ 1 ∧ M' 1 4 + M' 1 20 ≤ 6) → X60 w1 w2 M') : ∀ (n : Nat) (v1 v2 v3 : Int) (M : Mem), IM (b) M → (M 1 4 + M 1 20 ≤ 6 ∧ 0 ≤ v1 ∧ v1 ≤ 80 ∧ 0 ≤ v2 ∧ v2 ≤ 1 ∧ 0 ≤ v3 ∧ v3 ≤ 1) → 6 - (M 1 4 + M 1 20) + v3 < (n : Int) → qX12_hearses_L29 X60 Q n v1 v2 v3 M := by
  intro n
  induction n with
  | zero => intro v1 v2 v3 M hI hv hm; exact absurd hm (by omega)
  | succ n ih =>
    intro v1 v2 v3 M hI hv hm
    rw [qX12_hearses_L29]
    have hbn := hI.nn
    have u433 : 0 ≤ M 1 4 ∧ M 1 4 ≤ 6 := bm_c1_4.mp (hI.bx _ _)
    have u434 : 0 ≤ M 1 20 ∧ M 1 20 ≤ 8 := bm_c1_20.mp (hI.bx _ _)
    refine ⟨(by first | assumption | exact ⟨by omega, by omega⟩), ?_⟩
    refine ⟨fun c => ?_, fun c => ?_⟩
    · have u436 : 0 ≤ M 1 4 ∧ M 1 4 ≤ 6 := bm_c1_4.mp (hI.bx _ _)
      have u437 : 0 ≤ M 1 20 ∧ M 1 20 ≤ 8 := bm_c1_20.mp (hI.bx _ _)
      exact hX60 _ _ _ (hI.mono (by omega)) (by omega)
    · refine sX12_readsHearse  hI (by omega) ?_
      intro x7_439 M7_440 hM7_440 p441 q442 q443
      refine ⟨fun c => ?_, fun c => ?_⟩
      · have u445 : 0 ≤ M7_440 1 4 ∧ M7_440 1 4 ≤ 6 := bm_c1_4.mp (hM7_440.bx _ _)
        have u446 : 0 ≤ M7_440 1 20 ∧ M7_440 1 20 ≤ 8 := bm_c1_20.mp (hM7_440.bx _ _)
        exact ih _ _ _ _ (hM7_440.mono (by omega)) (by omega) (by omega)
      · refine sX12_takes (p1 := 59) hM7_440  ?_
        intro x9_448 M9_449 hM9_449 gM9_449 p450 q451 q452
        first | (have t453 : M9_449 1 4 = M7_440 1 4 := gM9_449 1 4 (by omega)) | skip
        first | (have t454 : M9_449 1 20 = M7_440 1 20 := gM9_449 1 20 (by omega)) | skip
        refine ⟨fun c => ?_, fun c => ?_⟩
        · have u456 : 0 ≤ M9_449 1 4 ∧ M9_449 1 4 ≤ 6 := bm_c1_4.mp (hM9_449.bx _ _)
          have u457 : 0 ≤ M9_449 1 20 ∧ M9_449 1 20 ≤ 8 := bm_c1_20.mp (hM9_449.bx _ _)
          exact ih _ _ _ _ (hM9_449.mono (by omega)) (by omega) (by omega)
        · have u459 : 0 ≤ M9_449 1 4 ∧ M9_449 1 4 ≤ 6 := bm_c1_4.mp (hM9_449.bx _ _)
          have u460 : 0 ≤ M9_449 1 20 ∧ M9_449 1 20 ≤ 8 := bm_c1_20.mp (hM9_449.bx _ _)
          exact ih _ _ _ _ (hM9_449.mono (by omega)) (by omega) (by omega)
