section
theorem sX12_in {p0 : Int} {p2 : Int} {p4 : Int} {b : Int} {M : Mem} {Q : Int → Mem → Prop} (hI : IM b M) (hQ : ∀ z : Int, ((z = 0 ∨ z = 1) ∧ (z = 1 → p2 ≤ p0 ∧ p0 ≤ p4) ∧ (z = 0 → p0 < p2 ∨ p4 < p0)) → Q z M) : qX12_in p0 p2 p4 M Q := by
  unfold qX12_in
  have hbn := hI.nn
  intro x1_22 rx1_22 cx1_22
  refine ⟨fun c => ?_, fun c => ?_⟩
  · exact hQ _ (by omega)
  · intro x3_25 rx3_25 cx3_25
    refine ⟨fun c => ?_, fun c => ?_⟩
    · exact hQ _ (by omega)
    · exact hQ _ (by omega)
theorem sX12_begins {p1 : Int} {b : Int} {M : Mem} {Q : Int → Mem → Prop} (hI : IM b M) (hp : 0 ≤ p1 ∧ p1 ≤ 80) (hQ : ∀ z : Int, ∀ M' : Mem, IM b M' → FrJ (fun k j => k = 1 ∧ (j = 14 ∨ j = 15 ∨ j = 16 ∨ j = 17)) M M' → (0 ≤ z ∧ z ≤ 80 ∧ M' 1 15 = 0 ∧ M' 1 16 ≤ p1 ∧ M' 1 17 = 0 ∧ z = M 1 14 ∧ M' 1 14 = 0) → Q z M') : qX12_begins p1 M Q := by
  unfold qX12_begins
  have hbn := hI.nn
  have u37 : 0 ≤ M 1 14 ∧ M 1 14 ≤ 80 := bm_c1_14.mp (hI.bx _ _)
  have u38 : 0 ≤ M 1 15 ∧ M 1 15 ≤ 80 := bm_c1_15.mp (hI.bx _ _)
  have u39 : 0 ≤ M 1 16 ∧ M 1 16 ≤ 80 := bm_c1_16.mp (hI.bx _ _)
  intro x1_40 ex1_40 rx1_40
  have bx1_40 : 0 ≤ x1_40 ∧ x1_40 ≤ 80 := by rw [ex1_40]; exact bm_c1_14.mp (hI.bx _ _)
  intro M2_41 h_M2_41
  have hM2_41 : IM (b) M2_41 := by rw [h_M2_41]; exact hI.up (by omega) (bm_c1_14.mpr (by omega))
  have hFM2_41 : FrJ (fun k j => k = 1 ∧ (j = 14 ∨ j = 15 ∨ j = 16 ∨ j = 17)) M M2_41 := by rw [h_M2_41]; exact (FrJ.rf).up (by omega)
  intro M3_42 h_M3_42
  have hM3_42 : IM (b) M3_42 := by rw [h_M3_42]; exact hM2_41.up (by omega) (bm_c1_15.mpr (by omega))
  have hFM3_42 : FrJ (fun k j => k = 1 ∧ (j = 14 ∨ j = 15 ∨ j = 16 ∨ j = 17)) M M3_42 := by rw [h_M3_42]; exact (hFM2_41).up (by omega)
  intro M4_43 h_M4_43
  have hM4_43 : IM (b) M4_43 := by rw [h_M4_43]; exact hM3_42.up (by omega) (by simp [BM])
  have hFM4_43 : FrJ (fun k j => k = 1 ∧ (j = 14 ∨ j = 15 ∨ j = 16 ∨ j = 17)) M M4_43 := by rw [h_M4_43]; exact (hFM3_42).up (by omega)
  intro x5_44 ex5_44 rx5_44
  intro M6_45 h_M6_45
  have hM6_45 : IM (b) M6_45 := by rw [h_M6_45]; exact hM4_43.up (by omega) (bm_c1_16.mpr (by omega))
  have hFM6_45 : FrJ (fun k j => k = 1 ∧ (j = 14 ∨ j = 15 ∨ j = 16 ∨ j = 17)) M M6_45 := by rw [h_M6_45]; exact (hFM4_43).up (by omega)
  have u46 : 0 ≤ M6_45 1 15 ∧ M6_45 1 15 ≤ 80 := bm_c1_15.mp (hM6_45.bx _ _)
  have u47 : 0 ≤ M6_45 1 16 ∧ M6_45 1 16 ≤ 80 := bm_c1_16.mp (hM6_45.bx _ _)
  have u48 : 0 ≤ M6_45 1 14 ∧ M6_45 1 14 ≤ 80 := bm_c1_14.mp (hM6_45.bx _ _)
  have t49 : M6_45 1 15 = 0 := by rw [h_M6_45, up2_j (by decide), h_M4_43, up2_j (by decide), h_M3_42, up2_s]
  have t50 : M6_45 1 16 = x5_44 := by rw [h_M6_45, up2_s]
  have t51 : M6_45 1 17 = 0 := by rw [h_M6_45, up2_j (by decide), h_M4_43, up2_s]
  have t52 : M6_45 1 14 = 0 := by rw [h_M6_45, up2_j (by decide), h_M4_43, up2_j (by decide), h_M3_42, up2_j (by decide), h_M2_41, up2_s]
  exact hQ _ _ (hM6_45.mono (by first | exact Int.le_refl _ | omega)) hFM6_45 (by omega)
theorem sX12_flag {p0 : Int} {b : Int} {M : Mem} {Q : Int → Mem → Prop} (hI : IM b M) (hQ : ∀ z : Int, ((z = 0 ∨ z = 1) ∧ (z = 0 → p0 = 0) ∧ (z = 1 → ¬ p0 = 0)) → Q z M) : qX12_flag p0 M Q := by
  unfold qX12_flag
  have hbn := hI.nn
  refine ⟨fun c => ?_, fun c => ?_⟩
  · exact hQ _ (by omega)
  · exact hQ _ (by omega)
theorem sX12_takesOf_L2 {bs : List Int} {X38 : Int → Mem → Prop} {Q : Int → Mem → Prop} {b : Int} {M0 : Mem} (hp : (bs.length : Int) ≤ 7) (hQ : ∀ z : Int, ∀ M' : Mem, IM b M' → FrJ (fun k j => k = 1 ∧ j = 15) M0 M' → (-1 ≤ z ∧ z < bs.length ∧ z ≤ 6 ∧ M0 1 15 ≤ M' 1 15 ∧ (0 ≤ z → M' 1 15 = M0 1 15 + 1)) → Q z M') (hX38 : ∀ w1 : Int, ∀ M' : Mem, IM (b) M' → FrJ (fun k j => k = 1 ∧ j = 15) M0 M' → (0 ≤ w1 ∧ w1 < bs.length ∧ M' 1 15 < M' 1 16 ∧ M' 1 16 ≤ 80 ∧ M' 1 15 = M0 1 15) → X38 w1 M') : ∀ (n : Nat) (v2 : Int) (M : Mem), IM (b) M → FrJ (fun k j => k = 1 ∧ j = 15) M0 M → (0 ≤ v2 ∧ v2 ≤ bs.length ∧ M 1 15 = M0 1 15) → bs.length - v2 < (n : Int) → qX12_takesOf_L2 bs X38 Q n v2 M := by
  intro n
  induction n with
  | zero => intro v2 M hI hF hv hm; exact absurd hm (by omega)
  | succ n ih =>
    intro v2 M hI hF hv hm
    rw [qX12_takesOf_L2]
    have hbn := hI.nn
    have u55 : 0 ≤ M 1 15 ∧ M 1 15 ≤ 80 := bm_c1_15.mp (hI.bx _ _)
    have u56 : 0 ≤ M 1 16 ∧ M 1 16 ≤ 80 := bm_c1_16.mp (hI.bx _ _)
    intro x1_57 ex1_57 rx1_57
    refine ⟨(by first | assumption | exact (by omega)), ?_⟩
    refine ⟨fun c => ?_, fun c => ?_⟩
    · have u59 : 0 ≤ M 1 15 ∧ M 1 15 ≤ 80 := bm_c1_15.mp (hI.bx _ _)
      exact hQ _ _ (hI.mono (by first | exact Int.le_refl _ | omega)) hF (by omega)
    · intro x4_61 ex4_61 rx4_61
      have bx4_61 : 0 ≤ x4_61 ∧ x4_61 ≤ 80 := by rw [ex4_61]; exact bm_c1_15.mp (hI.bx _ _)
      intro x5_62 ex5_62 rx5_62
      have bx5_62 : 0 ≤ x5_62 ∧ x5_62 ≤ 80 := by rw [ex5_62]; exact bm_c1_16.mp (hI.bx _ _)
      refine ⟨fun c => ?_, fun c => ?_⟩
      · have u64 : 0 ≤ M 1 15 ∧ M 1 15 ≤ 80 := bm_c1_15.mp (hI.bx _ _)
        exact hQ _ _ (hI.mono (by first | exact Int.le_refl _ | omega)) hF (by omega)
      · refine ⟨by omega, ?_⟩
        refine ⟨by omega, ?_⟩
        intro x9_66 ex9_66 rx9_66
        intro x10_67 ex10_67 rx10_67
        have bx10_67 : 0 ≤ x10_67 ∧ x10_67 ≤ 80 := by rw [ex10_67]; exact bm_c1_15.mp (hI.bx _ _)
        refine ⟨by omega, ?_⟩
        refine ⟨by omega, ?_⟩
        intro x13_68 ex13_68 rx13_68
        have bx13_68 : 0 ≤ x13_68 ∧ x13_68 ≤ 255 := by rw [ex13_68]; exact bm_c7.mp (hI.bx _ _)
        have cgx13_68 : x13_68 = M 7 (M 1 15) := by rw [ex13_68, ← ex10_67]
        refine ⟨fun c => ?_, fun c => ?_⟩
        · exact ih _ _ (hI.mono (by first | exact Int.le_refl _ | omega)) hF (by omega) (by omega)
        · exact hX38 _ _ (hI.mono (by first | exact Int.le_refl _ | omega)) hF (by omega)
theorem sX12_takesOf {bs : List Int} {b : Int} {M : Mem} {Q : Int → Mem → Prop} (hI : IM b M) (hp : (bs.length : Int) ≤ 7) (hQ : ∀ z : Int, ∀ M' : Mem, IM b M' → FrJ (fun k j => k = 1 ∧ j = 15) M M' → (-1 ≤ z ∧ z < bs.length ∧ z ≤ 6 ∧ M 1 15 ≤ M' 1 15 ∧ (0 ≤ z → M' 1 15 = M 1 15 + 1)) → Q z M') : qX12_takesOf bs M Q := by
  unfold qX12_takesOf
  have hbn := hI.nn
  have u71 : 0 ≤ M 1 15 ∧ M 1 15 ≤ 80 := bm_c1_15.mp (hI.bx _ _)
  refine ⟨(bs.length + 1), ?_⟩
  refine sX12_takesOf_L2 (b := b)  (M0 := M) hp ?_ ?_ _ _ _ (hI.mono (by first | exact Int.le_refl _ | omega)) FrJ.rf (by omega) (by omega)
  · exact hQ
  · intro v2_72 M_73 hM_73 hFM_73 p74
    intro x16_75 ex16_75 rx16_75
    have bx16_75 : 0 ≤ x16_75 ∧ x16_75 ≤ 80 := by rw [ex16_75]; exact bm_c1_15.mp (hM_73.bx _ _)
    refine ⟨(by first | assumption | exact (by omega)), ?_⟩
    intro M18_76 h_M18_76
    have hM18_76 : IM (b) M18_76 := by rw [h_M18_76]; exact hM_73.up (by omega) (bm_c1_15.mpr (by omega))
    have hFM18_76 : FrJ (fun k j => k = 1 ∧ j = 15) M M18_76 := by rw [h_M18_76]; exact (hFM_73).up (by omega)
    refine ⟨(by first | assumption | exact (by omega)), ?_⟩
    have u77 : 0 ≤ M18_76 1 15 ∧ M18_76 1 15 ≤ 80 := bm_c1_15.mp (hM18_76.bx _ _)
    have t78 : M18_76 1 15 = x16_75 + 1 := by rw [h_M18_76, up2_s]
    exact hQ _ _ (hM18_76.mono (by first | exact Int.le_refl _ | omega)) hFM18_76 (by omega)
theorem sX12_faultOf {p1 : Int} {p2 : Int} {p3 : Int} {b : Int} {M : Mem} {Q : Int → Mem → Prop} (hI : IM b M) (hp : 0 ≤ p2 ∧ p2 ≤ 80) (hQ : ∀ z : Int, (-100 ≤ z ∧ z ≤ 0 ∧ (p3 = 0 → z ≤ -1)) → Q z M) : qX12_faultOf p1 p2 p3 M Q := by
  unfold qX12_faultOf
  have hbn := hI.nn
  refine ⟨fun c => ?_, fun c => ?_⟩
  · unfold qX12_faultOf_J19
    unfold qX12_faultOf_J20
    refine ⟨fun c => ?_, fun c => ?_⟩
    · unfold qX12_faultOf_J44
      refine ⟨(by first | assumption | exact (by omega)), ?_⟩
      refine ⟨fun c => ?_, fun c => ?_⟩
      · intro x5_144 ex5_144 rx5_144
        have bx5_144 : 0 ≤ x5_144 ∧ x5_144 ≤ 80 := by rw [ex5_144]; exact bm_c1_15.mp (hI.bx _ _)
        refine ⟨(by first | assumption | exact (by omega)), ?_⟩
        exact hQ _ (by omega)
      · exact hQ _ (by omega)
    · refine ⟨(by first | assumption | exact (by omega)), ?_⟩
      refine ⟨fun c => ?_, fun c => ?_⟩
      · refine ⟨(by first | assumption | exact (by omega)), ?_⟩
        exact hQ _ (by omega)
      · intro x10_149 ex10_149 rx10_149
        have bx10_149 : 0 ≤ x10_149 ∧ x10_149 ≤ 80 := by rw [ex10_149]; exact bm_c1_15.mp (hI.bx _ _)
        refine ⟨fun c => ?_, fun c => ?_⟩
        · unfold qX12_faultOf_J44
          refine ⟨(by first | assumption | exact (by omega)), ?_⟩
          refine ⟨fun c => ?_, fun c => ?_⟩
          · intro x5_152 ex5_152 rx5_152
            have bx5_152 : 0 ≤ x5_152 ∧ x5_152 ≤ 80 := by rw [ex5_152]; exact bm_c1_15.mp (hI.bx _ _)
            refine ⟨(by first | assumption | exact (by omega)), ?_⟩
            exact hQ _ (by omega)
          · exact hQ _ (by omega)
        · refine ⟨(by first | assumption | exact (by omega)), ?_⟩
          exact hQ _ (by omega)
  · intro x13_156 ex13_156 rx13_156
    have bx13_156 : 0 ≤ x13_156 ∧ x13_156 ≤ 80 := by rw [ex13_156]; exact bm_c1_15.mp (hI.bx _ _)
    intro x14_157 ex14_157 rx14_157
    have bx14_157 : 0 ≤ x14_157 ∧ x14_157 ≤ 80 := by rw [ex14_157]; exact bm_c1_16.mp (hI.bx _ _)
    refine ⟨fun c => ?_, fun c => ?_⟩
    · unfold qX12_faultOf_J19
      unfold qX12_faultOf_J20
      refine ⟨fun c => ?_, fun c => ?_⟩
      · unfold qX12_faultOf_J44
        refine ⟨(by first | assumption | exact (by omega)), ?_⟩
        refine ⟨fun c => ?_, fun c => ?_⟩
        · intro x5_161 ex5_161 rx5_161
          have bx5_161 : 0 ≤ x5_161 ∧ x5_161 ≤ 80 := by rw [ex5_161]; exact bm_c1_15.mp (hI.bx _ _)
          refine ⟨(by first | assumption | exact (by omega)), ?_⟩
          exact hQ _ (by omega)
        · exact hQ _ (by omega)
      · refine ⟨(by first | assumption | exact (by omega)), ?_⟩
        refine ⟨fun c => ?_, fun c => ?_⟩
        · refine ⟨(by first | assumption | exact (by omega)), ?_⟩
          exact hQ _ (by omega)
        · intro x10_166 ex10_166 rx10_166
          have bx10_166 : 0 ≤ x10_166 ∧ x10_166 ≤ 80 := by rw [ex10_166]; exact bm_c1_15.mp (hI.bx _ _)
          refine ⟨fun c => ?_, fun c => ?_⟩
          · unfold qX12_faultOf_J44
            refine ⟨(by first | assumption | exact (by omega)), ?_⟩
            refine ⟨fun c => ?_, fun c => ?_⟩
            · intro x5_169 ex5_169 rx5_169
              have bx5_169 : 0 ≤ x5_169 ∧ x5_169 ≤ 80 := by rw [ex5_169]; exact bm_c1_15.mp (hI.bx _ _)
              refine ⟨(by first | assumption | exact (by omega)), ?_⟩
              exact hQ _ (by omega)
            · exact hQ _ (by omega)
          · refine ⟨(by first | assumption | exact (by omega)), ?_⟩
            exact hQ _ (by omega)
    · unfold qX12_faultOf_J20
      refine ⟨fun c => ?_, fun c => ?_⟩
      · unfold qX12_faultOf_J44
        refine ⟨(by first | assumption | exact (by omega)), ?_⟩
        refine ⟨fun c => ?_, fun c => ?_⟩
        · intro x5_175 ex5_175 rx5_175
          have bx5_175 : 0 ≤ x5_175 ∧ x5_175 ≤ 80 := by rw [ex5_175]; exact bm_c1_15.mp (hI.bx _ _)
          refine ⟨(by first | assumption | exact (by omega)), ?_⟩
          exact hQ _ (by omega)
        · exact hQ _ (by omega)
      · refine ⟨(by first | assumption | exact (by omega)), ?_⟩
        refine ⟨fun c => ?_, fun c => ?_⟩
        · refine ⟨(by first | assumption | exact (by omega)), ?_⟩
          exact hQ _ (by omega)
        · intro x10_180 ex10_180 rx10_180
          have bx10_180 : 0 ≤ x10_180 ∧ x10_180 ≤ 80 := by rw [ex10_180]; exact bm_c1_15.mp (hI.bx _ _)
          refine ⟨fun c => ?_, fun c => ?_⟩
          · unfold qX12_faultOf_J44
            refine ⟨(by first | assumption | exact (by omega)), ?_⟩
            refine ⟨fun c => ?_, fun c => ?_⟩
            · intro x5_183 ex5_183 rx5_183
              have bx5_183 : 0 ≤ x5_183 ∧ x5_183 ≤ 80 := by rw [ex5_183]; exact bm_c1_15.mp (hI.bx _ _)
              refine ⟨(by first | assumption | exact (by omega)), ?_⟩
              exact hQ _ (by omega)
            · exact hQ _ (by omega)
          · refine ⟨(by first | assumption | exact (by omega)), ?_⟩
            exact hQ _ (by omega)
theorem sX12_gate  {b : Int} {M : Mem} {Q : Int → Mem → Prop} (hI : IM b M) (hQ : ∀ z : Int, (3 ≤ z ∧ z ≤ 29 ∧ z = M 1 3 - 1) → Q z M) : qX12_gate M Q := by
  unfold qX12_gate
  have hbn := hI.nn
  have u220 : 4 ≤ M 1 3 ∧ M 1 3 ≤ 30 := bm_c1_3.mp (hI.bx _ _)
  intro x1_221 ex1_221 rx1_221
  have bx1_221 : 4 ≤ x1_221 ∧ x1_221 ≤ 30 := by rw [ex1_221]; exact bm_c1_3.mp (hI.bx _ _)
  refine ⟨(by first | assumption | exact (by omega)), ?_⟩
  exact hQ _ (by omega)
theorem sX12_isDigit  {b : Int} {M : Mem} {Q : Int → Mem → Prop} (hI : IM b M) (hQ : ∀ z : Int, ((z = 1 → M 1 15 < M 1 16 ∧ M 1 16 ≤ 80 ∧ 48 ≤ M 7 (M 1 15) ∧ M 7 (M 1 15) ≤ 57) ∧ (z = 0 → ¬ (M 1 15 < M 1 16 ∧ M 1 16 ≤ 80 ∧ 48 ≤ M 7 (M 1 15) ∧ M 7 (M 1 15) ≤ 57)) ∧ (z = 0 ∨ z = 1)) → Q z M) : qX12_isDigit M Q := by
  unfold qX12_isDigit
  have hbn := hI.nn
  have u222 : 0 ≤ M 1 15 ∧ M 1 15 ≤ 80 := bm_c1_15.mp (hI.bx _ _)
  have u223 : 0 ≤ M 1 16 ∧ M 1 16 ≤ 80 := bm_c1_16.mp (hI.bx _ _)
  intro x1_224 ex1_224 rx1_224
  have bx1_224 : 0 ≤ x1_224 ∧ x1_224 ≤ 80 := by rw [ex1_224]; exact bm_c1_15.mp (hI.bx _ _)
  intro x2_225 ex2_225 rx2_225
  have bx2_225 : 0 ≤ x2_225 ∧ x2_225 ≤ 80 := by rw [ex2_225]; exact bm_c1_16.mp (hI.bx _ _)
  refine ⟨fun c => ?_, fun c => ?_⟩
  · exact hQ _ (by omega)
  · intro x4_228 ex4_228 rx4_228
    have bx4_228 : 0 ≤ x4_228 ∧ x4_228 ≤ 80 := by rw [ex4_228]; exact bm_c1_15.mp (hI.bx _ _)
    refine ⟨by omega, ?_⟩
    refine ⟨by omega, ?_⟩
    intro x7_229 ex7_229 rx7_229
    have bx7_229 : 0 ≤ x7_229 ∧ x7_229 ≤ 255 := by rw [ex7_229]; exact bm_c7.mp (hI.bx _ _)
    have cgx7_229 : x7_229 = M 7 (M 1 15) := by rw [ex7_229, ← ex4_228]
    refine sX12_in (p0 := x7_229) (p2 := 48) (p4 := 57) hI  ?_
    intro x8_230 p231 q232 q233
    refine ⟨fun c => ?_, fun c => ?_⟩
    · exact hQ _ (by omega)
    · exact hQ _ (by omega)
theorem sX12_number_L13 {p1 : Int}  {Q : Int → Mem → Prop} {b : Int} {M0 : Mem} (hp : 1 ≤ p1 ∧ p1 ≤ 3) (hQ : ∀ z : Int, ∀ M' : Mem, IM b M' → FrJ (fun k j => k = 1 ∧ j = 15) M0 M' → (-1 ≤ z ∧ z ≤ 999 ∧ (p1 = 1 → z ≤ 9) ∧ (p1 = 2 → z ≤ 99) ∧ M0 1 15 ≤ M' 1 15 ∧ (0 ≤ z → M0 1 15 + 1 ≤ M' 1 15) ∧ (M0 1 15 < M0 1 16 ∧ 48 ≤ M0 7 (M0 1 15) ∧ M0 7 (M0 1 15) ≤ 57 → 0 ≤ z)) → Q z M') : ∀ (n : Nat) (v2 v3 : Int) (M : Mem), IM (b) M → FrJ (fun k j => k = 1 ∧ j = 15) M0 M → (0 ≤ v3 ∧ v3 ≤ p1 ∧ 0 ≤ v2 ∧ (v3 = 0 → v2 = 0 ∧ M 1 15 < M 1 16 ∧ M 1 16 ≤ 80 ∧ 48 ≤ M 7 (M 1 15) ∧ M 7 (M 1 15) ≤ 57) ∧ (v3 = 1 → v2 ≤ 9) ∧ (v3 = 2 → v2 ≤ 99) ∧ v2 ≤ 999 ∧ M0 1 15 + v3 ≤ M 1 15) → 3 - v3 < (n : Int) → qX12_number_L13 p1 Q n v2 v3 M := by
  intro n
  induction n with
  | zero => intro v2 v3 M hI hF hv hm; exact absurd hm (by omega)
  | succ n ih =>
    intro v2 v3 M hI hF hv hm
    rw [qX12_number_L13]
    have hbn := hI.nn
    have u236 : 0 ≤ M 1 15 ∧ M 1 15 ≤ 80 := bm_c1_15.mp (hI.bx _ _)
    have u237 : 0 ≤ M 1 16 ∧ M 1 16 ≤ 80 := bm_c1_16.mp (hI.bx _ _)
    refine ⟨(by first | assumption | exact (by omega)), ?_⟩
    refine ⟨fun c => ?_, fun c => ?_⟩
    · refine ⟨(by first | assumption | exact (by omega)), ?_⟩
      have u239 : 0 ≤ M 1 15 ∧ M 1 15 ≤ 80 := bm_c1_15.mp (hI.bx _ _)
      exact hQ _ _ (hI.mono (by first | exact Int.le_refl _ | omega)) hF (by omega)
    · refine sX12_isDigit  hI  ?_
      intro x6_241 p242 q243 q244
      refine ⟨fun c => ?_, fun c => ?_⟩
      · refine ⟨(by first | assumption | exact (by omega)), ?_⟩
        have u246 : 0 ≤ M 1 15 ∧ M 1 15 ≤ 80 := bm_c1_15.mp (hI.bx _ _)
        exact hQ _ _ (hI.mono (by first | exact Int.le_refl _ | omega)) hF (by omega)
      · intro x9_248 ex9_248 rx9_248
        have bx9_248 : 0 ≤ x9_248 ∧ x9_248 ≤ 80 := by rw [ex9_248]; exact bm_c1_15.mp (hI.bx _ _)
        refine ⟨by omega, ?_⟩
        refine ⟨by omega, ?_⟩
        intro x12_249 ex12_249 rx12_249
        have bx12_249 : 0 ≤ x12_249 ∧ x12_249 ≤ 255 := by rw [ex12_249]; exact bm_c7.mp (hI.bx _ _)
        have cgx12_249 : x12_249 = M 7 (M 1 15) := by rw [ex12_249, ← ex9_248]
        intro x13_250 ex13_250 rx13_250
        have bx13_250 : 0 ≤ x13_250 ∧ x13_250 ≤ 80 := by rw [ex13_250]; exact bm_c1_15.mp (hI.bx _ _)
        refine ⟨(by first | assumption | exact (by omega)), ?_⟩
        intro M15_251 h_M15_251
        have hM15_251 : IM (b) M15_251 := by rw [h_M15_251]; exact hI.up (by omega) (bm_c1_15.mpr (by omega))
        have hFM15_251 : FrJ (fun k j => k = 1 ∧ j = 15) M0 M15_251 := by rw [h_M15_251]; exact (hF).up (by omega)
        have u252 : 0 ≤ M15_251 1 15 ∧ M15_251 1 15 ≤ 80 := bm_c1_15.mp (hM15_251.bx _ _)
        have t253 : M15_251 1 15 = x13_250 + 1 := by rw [h_M15_251, up2_s]
        exact ih _ _ _ (hM15_251.mono (by first | exact Int.le_refl _ | omega)) hFM15_251 (by omega) (by omega)
theorem sX12_number {p1 : Int} {b : Int} {M : Mem} {Q : Int → Mem → Prop} (hI : IM b M) (hp : 1 ≤ p1 ∧ p1 ≤ 3) (hQ : ∀ z : Int, ∀ M' : Mem, IM b M' → FrJ (fun k j => k = 1 ∧ j = 15) M M' → (-1 ≤ z ∧ z ≤ 999 ∧ (p1 = 1 → z ≤ 9) ∧ (p1 = 2 → z ≤ 99) ∧ M 1 15 ≤ M' 1 15 ∧ (0 ≤ z → M 1 15 + 1 ≤ M' 1 15) ∧ (M 1 15 < M 1 16 ∧ 48 ≤ M 7 (M 1 15) ∧ M 7 (M 1 15) ≤ 57 → 0 ≤ z)) → Q z M') : qX12_number p1 M Q := by
  unfold qX12_number
  have hbn := hI.nn
  have u254 : 0 ≤ M 1 15 ∧ M 1 15 ≤ 80 := bm_c1_15.mp (hI.bx _ _)
  have u255 : 0 ≤ M 1 16 ∧ M 1 16 ≤ 80 := bm_c1_16.mp (hI.bx _ _)
  refine sX12_isDigit  hI  ?_
  intro x1_256 p257 q258 q259
  refine ⟨fun c => ?_, fun c => ?_⟩
  · refine ⟨4, ?_⟩
    have u261 : 0 ≤ M 1 15 ∧ M 1 15 ≤ 80 := bm_c1_15.mp (hI.bx _ _)
    refine sX12_number_L13 (b := b) (p1 := p1) (M0 := M) hp ?_ _ _ _ _ (hI.mono (by first | exact Int.le_refl _ | omega)) FrJ.rf (by omega) (by omega)
    · exact hQ
  · have u263 : 0 ≤ M 1 15 ∧ M 1 15 ≤ 80 := bm_c1_15.mp (hI.bx _ _)
    exact hQ _ _ (hI.mono (by first | exact Int.le_refl _ | omega)) FrJ.rf (by omega)
theorem sX12_onCell_L5 {k1 : Nat} {p2 : Int}  {Q : Int → Mem → Prop} {b : Int} {M0 : Mem} (hk1 : isN k1) (hQ : ∀ z : Int, (-1 ≤ z ∧ z ≤ 5 ∧ (0 ≤ z → M0 k1 z = p2 ∧ z < M0 1 4)) → Q z M0) : ∀ (n : Nat) (v3 v4 : Int), IM (b) M0 → ((v3 = -1 ∨ 0 ≤ v3 ∧ v3 < M0 1 4 ∧ M0 k1 v3 = p2) ∧ -1 ≤ v3 ∧ v3 ≤ 5 ∧ 0 ≤ v4 ∧ v4 ≤ 6) → 6 - v4 < (n : Int) → qX12_onCell_L5 k1 p2 Q n v3 v4 M0 := by
  intro n
  induction n with
  | zero => intro v3 v4 hI hv hm; exact absurd hm (by omega)
  | succ n ih =>
    intro v3 v4 hI hv hm
    rw [qX12_onCell_L5]
    have hbn := hI.nn
    have ek1 : k1 = 5 ∨ k1 = 6 := hk1
    have u264 : 0 ≤ M0 1 4 ∧ M0 1 4 ≤ 6 := bm_c1_4.mp (hI.bx _ _)
    intro x1_265 ex1_265 rx1_265
    have bx1_265 : 0 ≤ x1_265 ∧ x1_265 ≤ 6 := by rw [ex1_265]; exact bm_c1_4.mp (hI.bx _ _)
    refine ⟨(by first | assumption | exact (by omega)), ?_⟩
    refine ⟨fun c => ?_, fun c => ?_⟩
    · refine ⟨(by first | assumption | exact (by omega)), ?_⟩
      exact hQ _ (by omega)
    · refine ⟨by omega, ?_⟩
      refine ⟨by omega, ?_⟩
      intro x7_268 ex7_268 rx7_268
      have rbx7_268 : -2147483648 ≤ x7_268 ∧ x7_268 ≤ 2147483647 := rx7_268
      have nbx7_268 : BN (b) v4 x7_268 := by rw [ex7_268]; exact (bm_n hk1).mp (hI.bx _ _)
      first | (have bx7_268 : -1 ≤ x7_268 ∧ x7_268 ≤ 29 := nbx7_268.1 (by omega)) | (have bx7_268 : -1 ≤ x7_268 ∧ x7_268 ≤ 29 := nbx7_268.2.1 (by omega)) | skip
      refine ⟨fun c => ?_, fun c => ?_⟩
      · exact ih _ _ (hI.mono (by first | exact Int.le_refl _ | omega)) (by omega) (by omega)
      · exact ih _ _ (hI.mono (by first | exact Int.le_refl _ | omega)) (by omega) (by omega)
theorem sX12_onCell {k1 : Nat} {p2 : Int} {b : Int} {M : Mem} {Q : Int → Mem → Prop} (hI : IM b M) (hk1 : isN k1) (hQ : ∀ z : Int, (-1 ≤ z ∧ z ≤ 5 ∧ (0 ≤ z → M k1 z = p2 ∧ z < M 1 4)) → Q z M) : qX12_onCell k1 p2 M Q := by
  unfold qX12_onCell
  have hbn := hI.nn
  have ek1 : k1 = 5 ∨ k1 = 6 := hk1
  have u271 : 0 ≤ M 1 4 ∧ M 1 4 ≤ 6 := bm_c1_4.mp (hI.bx _ _)
  refine ⟨7, ?_⟩
  refine sX12_onCell_L5 (b := b) (p2 := p2) (M0 := M) hk1 ?_ _ _ _ (hI.mono (by first | exact Int.le_refl _ | omega)) (by omega) (by omega)
  · exact hQ
theorem sX12_takes {p1 : Int} {b : Int} {M : Mem} {Q : Int → Mem → Prop} (hI : IM b M) (hQ : ∀ z : Int, ∀ M' : Mem, IM b M' → FrJ (fun k j => k = 1 ∧ j = 15) M M' → (M 1 15 ≤ M' 1 15 ∧ (z = 1 → M' 1 15 = M 1 15 + 1)) → Q z M') : qX12_takes p1 M Q := by
  unfold qX12_takes
  have hbn := hI.nn
  have u408 : 0 ≤ M 1 15 ∧ M 1 15 ≤ 80 := bm_c1_15.mp (hI.bx _ _)
  intro x1_409 ex1_409 rx1_409
  have bx1_409 : 0 ≤ x1_409 ∧ x1_409 ≤ 80 := by rw [ex1_409]; exact bm_c1_15.mp (hI.bx _ _)
  intro x2_410 ex2_410 rx2_410
  have bx2_410 : 0 ≤ x2_410 ∧ x2_410 ≤ 80 := by rw [ex2_410]; exact bm_c1_16.mp (hI.bx _ _)
  refine ⟨fun c => ?_, fun c => ?_⟩
  · unfold qX12_takes_J28
    unfold qX12_takes_J29
    intro x4_412 ex4_412 rx4_412
    have bx4_412 : 0 ≤ x4_412 ∧ x4_412 ≤ 80 := by rw [ex4_412]; exact bm_c1_15.mp (hI.bx _ _)
    refine ⟨(by first | assumption | exact (by omega)), ?_⟩
    refine sX12_flag (p0 := 0) hI  ?_
    intro x6_413 p414 q415
    refine ⟨(by first | assumption | exact (by omega)), ?_⟩
    intro M8_416 h_M8_416
    have hM8_416 : IM (b) M8_416 := by rw [h_M8_416]; exact hI.up (by omega) (bm_c1_15.mpr (by omega))
    have hFM8_416 : FrJ (fun k j => k = 1 ∧ j = 15) M M8_416 := by rw [h_M8_416]; exact (FrJ.rf).up (by omega)
    refine ⟨by omega, ?_⟩
    have u417 : 0 ≤ M8_416 1 15 ∧ M8_416 1 15 ≤ 80 := bm_c1_15.mp (hM8_416.bx _ _)
    have t418 : M8_416 1 15 = x4_412 + x6_413 := by rw [h_M8_416, up2_s]
    exact hQ _ _ (hM8_416.mono (by first | exact Int.le_refl _ | omega)) hFM8_416 (by omega)
  · intro x10_420 ex10_420 rx10_420
    have bx10_420 : 0 ≤ x10_420 ∧ x10_420 ≤ 80 := by rw [ex10_420]; exact bm_c1_15.mp (hI.bx _ _)
    refine ⟨by omega, ?_⟩
    refine ⟨by omega, ?_⟩
    intro x13_421 ex13_421 rx13_421
    have bx13_421 : 0 ≤ x13_421 ∧ x13_421 ≤ 255 := by rw [ex13_421]; exact bm_c7.mp (hI.bx _ _)
    have cgx13_421 : x13_421 = M 7 (M 1 15) := by rw [ex13_421, ← ex10_420]
    refine ⟨fun c => ?_, fun c => ?_⟩
    · unfold qX12_takes_J28
      unfold qX12_takes_J29
      intro x4_423 ex4_423 rx4_423
      have bx4_423 : 0 ≤ x4_423 ∧ x4_423 ≤ 80 := by rw [ex4_423]; exact bm_c1_15.mp (hI.bx _ _)
      refine ⟨(by first | assumption | exact (by omega)), ?_⟩
      refine sX12_flag (p0 := 0) hI  ?_
      intro x6_424 p425 q426
      refine ⟨(by first | assumption | exact (by omega)), ?_⟩
      intro M8_427 h_M8_427
      have hM8_427 : IM (b) M8_427 := by rw [h_M8_427]; exact hI.up (by omega) (bm_c1_15.mpr (by omega))
      have hFM8_427 : FrJ (fun k j => k = 1 ∧ j = 15) M M8_427 := by rw [h_M8_427]; exact (FrJ.rf).up (by omega)
      refine ⟨by omega, ?_⟩
      have u428 : 0 ≤ M8_427 1 15 ∧ M8_427 1 15 ≤ 80 := bm_c1_15.mp (hM8_427.bx _ _)
      have t429 : M8_427 1 15 = x4_423 + x6_424 := by rw [h_M8_427, up2_s]
      exact hQ _ _ (hM8_427.mono (by first | exact Int.le_refl _ | omega)) hFM8_427 (by omega)
    · unfold qX12_takes_J29
      intro x4_431 ex4_431 rx4_431
      have bx4_431 : 0 ≤ x4_431 ∧ x4_431 ≤ 80 := by rw [ex4_431]; exact bm_c1_15.mp (hI.bx _ _)
      refine ⟨(by first | assumption | exact (by omega)), ?_⟩
      refine sX12_flag (p0 := 1) hI  ?_
      intro x6_432 p433 q434
      refine ⟨(by first | assumption | exact (by omega)), ?_⟩
      intro M8_435 h_M8_435
      have hM8_435 : IM (b) M8_435 := by rw [h_M8_435]; exact hI.up (by omega) (bm_c1_15.mpr (by omega))
      have hFM8_435 : FrJ (fun k j => k = 1 ∧ j = 15) M M8_435 := by rw [h_M8_435]; exact (FrJ.rf).up (by omega)
      refine ⟨by omega, ?_⟩
      have u436 : 0 ≤ M8_435 1 15 ∧ M8_435 1 15 ≤ 80 := bm_c1_15.mp (hM8_435.bx _ _)
      have t437 : M8_435 1 15 = x4_431 + x6_432 := by rw [h_M8_435, up2_s]
      exact hQ _ _ (hM8_435.mono (by first | exact Int.le_refl _ | omega)) hFM8_435 (by omega)
end
section
/-- the owners that are read -/
def RO (M : Mem) : Prop := ∀ i, 0 ≤ i → i < M 1 20 → 0 ≤ M 9 (2 * i + 1) ∧ M 9 (2 * i + 1) ≤ 5
theorem RO.fr {M M' : Mem} (h : RO M) (h1 : M' 1 20 = M 1 20) (h2 : ∀ j, M' 9 j = M 9 j) : RO M' := by
  intro i hi hl
  rw [h2]
  exact h i hi (by rw [← h1]; exact hl)
theorem dpc_le (f : Int → Int) (n : Nat) : dpc f n ≤ n := by
  induction n with
  | zero => exact Int.le_refl _
  | succ n ih =>
    unfold dpc
    split
    · omega
    · split <;> omega
theorem dpc_nn {f : Int → Int} {m : Int} (h : WFC f m) (n : Nat) (hn : (n : Int) ≤ m) : 0 ≤ dpc f n := by
  induction n with
  | zero => exact Int.le_refl _
  | succ n ih =>
    have i := ih (by omega)
    obtain ⟨a, b, _⟩ := h n (by omega)
    unfold dpc
    split
    · omega
    · rename_i c
      split
      · omega
      · have := b (by omega) c
        omega
theorem dpc_cg {f g : Int → Int} (n : Nat) (h : ∀ j : Int, 0 ≤ j → j < n → f j = g j) : dpc f n = dpc g n := by
  induction n with
  | zero => rfl
  | succ n ih =>
    unfold dpc
    rw [ih (fun j a b => h j a (by omega)), h n (by omega) (by omega)]
theorem WFC.cg {f g : Int → Int} {n : Int} (w : WFC g n) (h : ∀ j : Int, 0 ≤ j → j < n → f j = g j) : WFC f n := by
  intro j hj
  have hd := dpc_cg j (f := f) (g := g) (fun i a b => h i a (by omega))
  rw [hd, h j (by omega) hj]
  exact w j hj
theorem sX12_laysCode_L7 {k1 : Nat} {p2 : Int} {Q : Mem → Prop} {b : Int} {M0 : Mem} (hp : 0 ≤ p2 ∧ p2 ≤ 80) (hk : k1 ≠ 11) (hQ : ∀ M' : Mem, IB b M' → M' 1 24 = p2 → (∀ j, 0 ≤ j → j < p2 → M' 11 j = M0 k1 j) → FrJ (fun k j => k = 11 ∨ k = 1 ∧ j = 24) M0 M' → Q M') : ∀ (n : Nat) (v3 : Int) (M : Mem), IB b M → M 1 24 = p2 → (∀ j, 0 ≤ j → j < v3 → M 11 j = M0 k1 j) → (∀ j, M k1 j = M0 k1 j) → FrJ (fun k j => k = 11 ∨ k = 1 ∧ j = 24) M0 M → (0 ≤ v3 ∧ v3 ≤ p2) → p2 - v3 < (n : Int) → qX12_laysCode_L7 k1 p2 Q n v3 M := by
  intro n
  induction n with
  | zero => intro v3 M hI h24 h1 h2 hF hv hm; exact absurd hm (by omega)
  | succ n ih =>
    intro v3 M hI h24 h1 h2 hF hv hm
    rw [qX12_laysCode_L7]
    refine ⟨(by omega), ⟨fun c => hQ _ hI h24 (fun j a q => h1 j a (by omega)) hF, fun c => ⟨by omega, by omega, ?_⟩⟩⟩
    intro x6 e6 _ M7 h7
    refine ih _ _ (by rw [h7]; exact hI.up (by simp [BM])) (by rw [h7, up2_n (by decide)]; exact h24) ?_ (fun j => by rw [h7, up2_n hk]; exact h2 j) (by rw [h7]; exact hF.up (Or.inl rfl)) (by omega) (by omega)
    intro j a q
    rw [h7]
    by_cases cj : j = v3
    · rw [cj, up2_s, e6, h2]
    · rw [up2_j cj]; exact h1 j a (by omega)
theorem sX12_laysCode {k1 : Nat} {p2 : Int} {b : Int} {M : Mem} {Q : Mem → Prop} (hI : IM b M) (hp : 0 ≤ p2 ∧ p2 ≤ 80) (hk : k1 ≠ 11 ∧ k1 ≠ 1) (hw : WFC (M k1) p2) (hQ : ∀ M' : Mem, IM b M' → FrJ (fun k j => k = 11 ∨ k = 1 ∧ j = 24) M M' → Q M') : qX12_laysCode k1 p2 M Q := by
  unfold qX12_laysCode
  intro M1 h1
  refine ⟨81, sX12_laysCode_L7 (b := b) (M0 := M) hp hk.1 ?_ _ _ _ (by rw [h1]; exact hI.1.up (bm_c1_24.mpr hp)) (by rw [h1, up2_s]) (fun j a q => by omega) (fun j => by rw [h1, up2_n hk.2]) (by rw [h1]; exact FrJ.rf.up (Or.inr ⟨rfl, rfl⟩)) (by omega) (by omega)⟩
  intro M' h' h24 hj hF
  refine hQ _ ⟨h', ?_⟩ hF
  rw [h24]
  exact hw.cg hj
theorem WFC.add {f g : Int → Int} {n v : Int} (w : WFC f n) (hn : 0 ≤ n) (hv : (v = 3000 → 1 ≤ dpc f n.toNat) ∧ (2000 ≤ v → v ≠ 3000 → 2 ≤ dpc f n.toNat) ∧ (1000 ≤ v → v < 2000 → v < 1007)) (hg : ∀ j, 0 ≤ j → j < n → g j = f j) (hgn : g n = v) : WFC g (n + 1) ∧ dpc g (n + 1).toNat = dpc f n.toNat + (if v = 3000 then 0 else if v < 2000 then 1 else -1) := by
  have hd : dpc g n.toNat = dpc f n.toNat := dpc_cg _ (fun j a b => hg j a (by omega))
  refine ⟨?_, ?_⟩
  · intro j hj
    by_cases c : (j : Int) < n
    · exact (w.cg hg) j c
    · have ej : j = n.toNat := by omega
      have ec : ((n.toNat : Nat) : Int) = n := by omega
      rw [ej, ec, hgn, hd]
      exact hv
  · rw [show (n + 1).toNat = n.toNat + 1 from by omega]
    show dpc g n.toNat + (if g (n.toNat : Nat) = 3000 then 0 else if g (n.toNat : Nat) < 2000 then 1 else -1) = _
    rw [show ((n.toNat : Nat) : Int) = n from by omega, hgn, hd]
theorem sX12_codes {p1 : Int} {b : Int} {M : Mem} {Q : Mem → Prop} (hI : IM b M) (hp : M 1 25 ≤ 79) (hQ : ∀ M' : Mem, IM b M' → M' 1 25 = M 1 25 + 1 → M' 1 15 = M 1 15 → M' 1 17 = M 1 17 → (∀ j, j ≠ M 1 25 → M' 12 j = M 12 j) → M' 12 (M 1 25) = p1 → Q M') : qX12_codes p1 M Q := by
  unfold qX12_codes
  intro x1 e1 _
  have b1 : 0 ≤ x1 ∧ x1 ≤ 80 := by rw [e1]; exact bm_c1_25.mp (hI.bx _ _)
  refine ⟨by omega, by omega, ?_⟩
  intro M4 h4 x5 e5 _
  have f5 : x5 = x1 := by rw [e5, h4, up2_n (by decide), e1]
  refine ⟨(by omega), ?_⟩
  intro M7 h7
  have i4 : IM b M4 := by rw [h4]; exact hI.up (by omega) (by simp [BM])
  refine hQ _ (by rw [h7]; exact i4.up (by omega) (bm_c1_25.mpr (by omega))) (by rw [h7, up2_s, f5, e1]) (by rw [h7, up2_j (by decide), h4, up2_n (by decide)]) (by rw [h7, up2_j (by decide), h4, up2_n (by decide)]) ?_ ?_
  · intro j hj
    rw [h7, up2_n (by decide), h4, up2_j (by rw [e1]; exact hj)]
  · rw [h7, up2_n (by decide), h4, ← e1, up2_s]
/-- what is asked of the code that is being read -/
def RQ (b : Int) (M : Mem) : Prop := IM b M ∧ WFC (M 12) (M 1 25) ∧ M 1 25 ≤ M 1 15 ∧ 0 ≤ M 1 17 ∧ M 1 17 ≤ 4
/-- what stands behind a piece that was read -/
def RP (b : Int) (M M' : Mem) (z : Int) : Prop := IM b M' ∧ M 1 15 ≤ M' 1 15 ∧ M' 1 25 - M 1 25 ≤ M' 1 15 - M 1 15 ∧ (z = 1 → M' 1 17 = M 1 17 ∧ WFC (M' 12) (M' 1 25) ∧ dpc (M' 12) (M' 1 25).toNat = dpc (M 12) (M 1 25).toNat + 1)
theorem sX12_reads : ∀ (d t : Nat) (p1 b : Int) (M : Mem) (Q : Int → Mem → Prop), RQ b M → (0 ≤ p1 ∧ p1 ≤ 3) → (80 - M 1 15) + 6 * (4 - M 1 17) + 1 + (if t = 0 then 0 else 4 - p1) ≤ (d : Int) → (∀ (z : Int) (M' : Mem), (z = 0 ∨ z = 1) → RP b M M' z → iR z → Q z M') → qX12_reads d t p1 M Q := by
  intro d
  induction d with
  | zero =>
    intro t p1 b M Q hR hp hm hQ
    exfalso
    have b15 := bm_c1_15.mp (hR.1.bx 1 15)
    have h4 := hR.2.2.2.2
    split at hm <;> omega
  | succ d ih =>
    intro t p1 b M Q hR hp hm hQ
    obtain ⟨hI, hW, hc, hn0, hn4⟩ := hR
    have b15 := bm_c1_15.mp (hI.bx 1 15)
    have b25 := bm_c1_25.mp (hI.bx 1 25)
    have d0 := dpc_nn hW (M 1 25).toNat (by omega)
    have r0 : ∀ z : Int, (z = 0 ∨ z = 1) → iR z := fun z h => (by omega)
    cases t with
    | zero =>
      rw [if_pos rfl] at hm
      show bX12_readsThing (qX12_reads d) M Q
      unfold bX12_readsThing
      refine sX12_takes (p1 := 45) hI ?_
      intro x1 M1 h1 g1 p1' _ q1
      have c1 : M1 1 25 = M 1 25 := g1 1 25 (by omega)
      have n1 : M1 1 17 = M 1 17 := g1 1 17 (by omega)
      have w1 : M1 12 = M 12 := funext fun j => g1 12 j (by omega)
      refine ⟨fun k1 => ?_, fun k1 => ?_⟩
      · refine sX12_isDigit h1 ?_
        intro x3 p3 _ _
        refine ⟨fun k3 => ?_, fun k3 => ?_⟩
        · refine sX12_takesOf h1 (by decide) ?_
          intro x5 M5 h5 g5 p5 _
          have c5 : M5 1 25 = M1 1 25 := g5 1 25 (by omega)
          have n5 : M5 1 17 = M1 1 17 := g5 1 17 (by omega)
          have w5 : M5 12 = M1 12 := funext fun j => g5 12 j (by omega)
          refine ⟨fun k5 => ?_, fun k5 => ?_⟩
          · intro x7 e7 _
            refine ⟨fun k7 => hQ _ _ (Or.inl rfl) ⟨h5, by omega, by omega, fun q => absurd q (by decide)⟩ (by decide), fun k7 => ?_⟩
            refine sX12_takes (p1 := 40) h5 ?_
            intro x9 M9 h9 g9 p9 _ q9
            have c9 : M9 1 25 = M5 1 25 := g9 1 25 (by omega)
            have n9 : M9 1 17 = M5 1 17 := g9 1 17 (by omega)
            have w9 : M9 12 = M5 12 := funext fun j => g9 12 j (by omega)
            refine ⟨fun k9 => ?_, fun k9 => hQ _ _ (Or.inl rfl) ⟨h9, by omega, by omega, fun q => absurd q (by decide)⟩ (by decide)⟩
            have p9' := p9.2 (by omega)
            intro x11 e11 _
            refine ⟨(by omega), ?_⟩
            intro M13 h13
            have i13 : IM b M13 := by rw [h13]; exact h9.up (by omega) (by simp [BM])
            have c13 : M13 1 25 = M9 1 25 := by rw [h13, up2_j (by decide)]
            have a13 : M13 1 15 = M9 1 15 := by rw [h13, up2_j (by decide)]
            have n13 : M13 1 17 = M9 1 17 + 1 := by rw [h13, up2_s, e11]
            have w13 : M13 12 = M9 12 := by rw [h13, up2_n (by decide)]
            have e13 : M13 12 = M 12 := by rw [w13, w9, w5, w1]
            have e25 : M13 1 25 = M 1 25 := by omega
            refine ih 1 0 b M13 _ ⟨i13, by rw [e13, e25]; exact hW, by omega, by omega, by omega⟩ (by omega) (by rw [if_neg (by decide)]; omega) ?_
            intro x14 M14 z14 r14 _ _ q14
            refine ⟨fun k14 => hQ _ _ (Or.inl rfl) ⟨r14.1, by have := r14.2.1; omega, by have := r14.2.2.1; omega, fun q => absurd q (by decide)⟩ (by decide), fun k14 => ?_⟩
            obtain ⟨i14, a14, s14, t14⟩ := r14
            obtain ⟨n14, w14, d14⟩ := t14 (by omega)
            refine sX12_takes (p1 := 41) i14 ?_
            intro x16 M16 h16 g16 p16 _ q16
            have c16 : M16 1 25 = M14 1 25 := g16 1 25 (by omega)
            have n16 : M16 1 17 = M14 1 17 := g16 1 17 (by omega)
            have w16 : M16 12 = M14 12 := funext fun j => g16 12 j (by omega)
            refine ⟨fun k16 => ?_, fun k16 => hQ _ _ (Or.inl rfl) ⟨h16, by omega, by omega, fun q => absurd q (by decide)⟩ (by decide)⟩
            intro x18 e18 _
            refine ⟨(by omega), ?_⟩
            intro M20 h20
            have a20 : M20 1 15 = M16 1 15 := by rw [h20, up2_j (by decide)]
            have c20 : M20 1 25 = M16 1 25 := by rw [h20, up2_j (by decide)]
            have n20 : M20 1 17 = x18 - 1 := by rw [h20, up2_s]
            have w20 : M20 12 = M14 12 := by rw [h20, up2_n (by decide), w16]
            refine hQ _ _ (Or.inr rfl) ⟨by rw [h20]; exact h16.up (by omega) (by simp [BM]), by omega, by omega, fun _ => ⟨by omega, ?_, ?_⟩⟩ (by decide)
            · rw [w20, c20, c16]; exact w14
            · rw [w20, c20, c16, d14, e13, e25]
          · refine ⟨(by omega), ?_⟩
            have p5' := p5.2.2.2.2 (by omega)
            have bb5 := bm_c1_15.mp (h5.bx 1 15)
            refine sX12_codes h5 (by omega) ?_
            intro M22 h22 c22 a22 n22 j22 v22
            have e5 : M5 12 = M 12 := by rw [w5, w1]
            have e25 : M5 1 25 = M 1 25 := by omega
            have A := hW.add (g := M22 12) (v := 1000 + x5) b25.1 ⟨by omega, by omega, by omega⟩ (fun j a q => by rw [j22 j (by omega), e5]) (by rw [← e25]; exact v22)
            rw [if_neg (by omega), if_pos (by omega)] at A
            have e22 : M22 1 25 = M 1 25 + 1 := by omega
            exact hQ _ _ (Or.inr rfl) ⟨h22, by omega, by omega, fun _ => ⟨by omega, by rw [e22]; exact A.1, by rw [e22]; exact A.2⟩⟩ (by decide)
        · refine sX12_number (p1 := 3) h1 (by omega) ?_
          intro x23 M23 h23 g23 p23 _
          have c23 : M23 1 25 = M1 1 25 := g23 1 25 (by omega)
          have n23 : M23 1 17 = M1 1 17 := g23 1 17 (by omega)
          have w23 : M23 12 = M1 12 := funext fun j => g23 12 j (by omega)
          have dg := p3.1 (by omega)
          have z23 := p23.2.2.2.2.2.2 ⟨dg.1, dg.2.2.1, dg.2.2.2⟩
          have a23 := p23.2.2.2.2.2.1 z23
          have bb23 := bm_c1_15.mp (h23.bx 1 15)
          refine sX12_codes h23 (by omega) ?_
          intro M24 h24 c24 a24 n24 j24 v24
          have e25 : M23 1 25 = M 1 25 := by omega
          have A := hW.add (g := M24 12) (v := x23) b25.1 ⟨by omega, by omega, by omega⟩ (fun j a q => by rw [j24 j (by omega), w23, w1]) (by rw [← e25]; exact v24)
          rw [if_neg (by omega), if_pos (by omega)] at A
          have e24 : M24 1 25 = M 1 25 + 1 := by omega
          exact hQ _ _ (Or.inr rfl) ⟨h24, by omega, by omega, fun _ => ⟨by omega, by rw [e24]; exact A.1, by rw [e24]; exact A.2⟩⟩ (by decide)
      · have p1'' := p1'.2 (by omega)
        have e1 : M1 1 25 = M 1 25 := c1
        refine ih 0 0 b M1 _ ⟨h1, by rw [w1, e1]; exact hW, by omega, by omega, by omega⟩ (by omega) (by rw [if_pos rfl]; omega) ?_
        intro x25 M25 z25 r25 _ _ q25
        obtain ⟨i25, a25, s25, t25⟩ := r25
        refine sX12_codes i25 (by have := bm_c1_15.mp (i25.bx 1 15); omega) ?_
        intro M26 h26 c26 a26 n26 j26 v26
        refine ⟨q25, hQ _ _ q25 ⟨h26, by omega, by omega, fun q => ?_⟩ (r0 _ q25)⟩
        obtain ⟨n25, w25, d25⟩ := t25 q
        have bb := bm_c1_25.mp (i25.bx 1 25)
        rw [w1, e1] at d25
        have A := w25.add (g := M26 12) (v := 3000) bb.1 ⟨by omega, by omega, by omega⟩ (fun j a q => j26 j (by omega)) v26
        rw [if_pos rfl] at A
        rw [c26]
        exact ⟨by omega, A.1, by rw [A.2, d25]; omega⟩
    | succ t =>
      rw [if_neg (by omega)] at hm
      show bX12_readsRank (qX12_reads d) p1 M Q
      unfold bX12_readsRank
      refine ⟨fun k1 => ⟨(by omega), ?_⟩, fun k1 => ?_⟩
      · refine ih 1 (p1 + 1) b M _ ⟨hI, hW, hc, hn0, hn4⟩ (by omega) (by rw [if_neg (by decide)]; omega) ?_
        intro x3 M3 z3 r3 _ _ q3
        refine ⟨fun k3 => ?_, fun k3 => hQ _ _ (Or.inl rfl) ⟨r3.1, r3.2.1, r3.2.2.1, fun q => absurd q (by decide)⟩ (by decide)⟩
        rw [show x3 = 1 from by omega] at r3
        have loop : ∀ (n : Nat) (v2 : Int) (M4 : Mem), (v2 = 0 ∨ v2 = 1) → RP b M M4 1 → 2 * (80 - M4 1 15) + v2 < (n : Int) → qX12_readsRank_L24 (qX12_reads d) p1 Q n v2 M4 := by
          intro n
          induction n with
          | zero => intro v2 M4 hv hr hm2; exact absurd hm2 (by have := bm_c1_15.mp (hr.1.bx 1 15); omega)
          | succ n ihn =>
            intro v2 M4 hv hr hm2
            have hr0 := hr
            obtain ⟨i4, a4, s4, t4⟩ := hr
            obtain ⟨n4, w4, d4⟩ := t4 rfl
            have bb4 := bm_c1_15.mp (i4.bx 1 15)
            rw [qX12_readsRank_L24]
            refine ⟨r0 _ hv, ⟨fun k4 => hQ _ _ (Or.inr rfl) hr0 (by decide), fun k4 => ?_⟩⟩
            have J : ∀ (t0 : Nat), t0 < 9 → ((bS t0).length : Int) ≤ 3 → qX12_readsRank_J50 (qX12_reads d) p1 (qX12_readsRank_L24 (qX12_reads d) p1 Q n) Q t0 M4 := by
              intro t0 ht hl
              unfold qX12_readsRank_J50
              refine ⟨ht, ?_⟩
              refine sX12_takesOf i4 (by omega) ?_
              intro x9 M9 h9 g9 p9 _
              have c9 : M9 1 25 = M4 1 25 := g9 1 25 (by omega)
              have n9 : M9 1 17 = M4 1 17 := g9 1 17 (by omega)
              have w9 : M9 12 = M4 12 := funext fun j => g9 12 j (by omega)
              refine ⟨fun k9 => ⟨(by omega), ?_⟩, fun k9 => hQ _ _ (Or.inr rfl) ⟨h9, by omega, by omega, fun _ => ⟨by omega, by rw [w9, c9]; exact w4, by rw [w9, c9]; exact d4⟩⟩ (by decide)⟩
              have p9' := p9.2.2.2.2 k9
              refine ih 1 (p1 + 1) b M9 _ ⟨h9, by rw [w9, c9]; exact w4, by omega, by omega, by omega⟩ (by omega) (by rw [if_neg (by decide)]; omega) ?_
              intro x13 M13 z13 r13 _ _ q13
              obtain ⟨i13, a13, s13, t13⟩ := r13
              refine ⟨fun k13 => ?_, fun k13 => hQ _ _ (Or.inl rfl) ⟨i13, by omega, by omega, fun q => absurd q (by decide)⟩ (by decide)⟩
              obtain ⟨n13, w13, d13⟩ := t13 (by omega)
              rw [w9, c9] at d13
              have J96 : ∀ t1 : Int, (0 ≤ t1 ∧ t1 ≤ 5) → qX12_readsRank_J96 (qX12_reads d) p1 (qX12_readsRank_L24 (qX12_reads d) p1 Q n) Q t1 (2000 + x9) M13 := by
                intro t1 ht1
                unfold qX12_readsRank_J96
                refine ⟨(by omega), ?_⟩
                refine sX12_codes i13 (by have := bm_c1_15.mp (i13.bx 1 15); omega) ?_
                intro M18 h18 c18 a18 n18 j18 v18
                have bb := bm_c1_25.mp (i13.bx 1 25)
                have bb9 := bm_c1_15.mp (h9.bx 1 15)
                have A := w13.add (g := M18 12) (v := 2000 + x9 + t1) bb.1 ⟨by omega, by omega, by omega⟩ (fun j a q => j18 j (by omega)) v18
                rw [if_neg (by omega), if_neg (by omega)] at A
                have hr18 : RP b M M18 1 := ⟨h18, by omega, by omega, fun _ => ⟨by omega, by rw [c18]; exact A.1, by rw [c18, A.2, d13, d4]; omega⟩⟩
                refine ⟨fun _ => ihn _ _ (Or.inl rfl) hr18 (by omega), fun _ => ihn _ _ (Or.inr rfl) hr18 (by omega)⟩
              refine ⟨fun _ => ⟨fun _ => J96 _ (by omega), fun _ => J96 _ (by omega)⟩, fun _ => J96 _ (by omega)⟩
            refine ⟨fun _ => ⟨fun _ => J 7 (by decide) (by decide), fun _ => J 6 (by decide) (by decide)⟩, fun _ => J 5 (by decide) (by decide)⟩
        exact ⟨162, loop _ _ _ (Or.inr rfl) r3 (by have := bm_c1_15.mp (r3.1.bx 1 15); omega)⟩
      · refine ih 0 0 b M _ ⟨hI, hW, hc, hn0, hn4⟩ (by omega) (by rw [if_pos rfl]; omega) ?_
        intro x21 M21 z21 r21 _ _ q21
        exact ⟨q21, hQ _ _ q21 r21 (r0 _ q21)⟩
theorem sX12_readsRule {b : Int} {M : Mem} {Q : Int → Mem → Prop} (hI : IM b M) (hQ : ∀ z : Int, ∀ M' : Mem, IM b M' → (-100 ≤ z ∧ z ≤ 0) → (z = 0 → WFC (M' 12) (M' 1 25)) → Q z M') : qX12_readsRule M Q := by
  unfold qX12_readsRule
  refine sX12_begins (p1 := 40) hI (by omega) ?_
  intro x1 M1 h1 g1 p1 _ M2 h2
  have i2 : IM b M2 := by rw [h2]; exact h1.up (by omega) (bm_c1_25.mpr (by decide))
  have c2 : M2 1 25 = 0 := by rw [h2, up2_s]
  have w2 : WFC (M2 12) (M2 1 25) := by rw [c2]; intro j hj; omega
  have a2 : M2 1 15 = 0 := by rw [h2, up2_j (by decide)]; exact p1.2.2.1
  have J29 : ∀ (t0 : Int) (M3 : Mem), IM b M3 → (t0 = 0 ∨ t0 = 1) → (t0 = 1 → WFC (M3 12) (M3 1 25)) → qX12_readsRule_J29 Q x1 t0 M3 := by
    intro t0 M3 i3 h0 w3
    unfold qX12_readsRule_J29
    refine ⟨(by omega), (by omega), ?_⟩
    refine sX12_faultOf (p1 := x1) (p2 := 40) (p3 := t0) i3 (by omega) ?_
    intro x6 p6 _
    exact hQ _ _ i3 ⟨p6.1, p6.2.1⟩ (fun q => w3 (by omega))
  refine ⟨fun k1 => ?_, fun k1 => ⟨140, by omega, ?_⟩⟩
  · unfold qX12_readsRule_J24
    exact J29 _ _ i2 (Or.inr rfl) (fun _ => w2)
  · have n2 : M2 1 17 = 0 := by
      rw [h2, up2_j (by decide)]
      exact p1.2.2.2.2.1
    show qX12_reads 140 1 0 M2 _
    refine sX12_reads 140 1 0 b M2 _ ⟨i2, w2, by omega, by omega, by omega⟩ (by omega) (by rw [if_neg (by decide)]; omega) ?_
    intro x7 M7 z7 r7 _ _ q7
    refine ⟨fun k7 => J29 _ _ r7.1 (Or.inl rfl) (fun q => absurd q (by decide)), fun k7 => ?_⟩
    unfold qX12_readsRule_J24
    exact J29 _ _ r7.1 (Or.inr rfl) (fun _ => (r7.2.2.2 (by omega)).2.1)
theorem sX12_bitsBy_L6 {k1 : Nat} {p2 : Int} {p3 : Int}  {Q : Int → Mem → Prop} {b : Int} {M0 : Mem} (hk1 : isN k1) (hp : 0 ≤ p2 ∧ p2 ≤ 29) (hQ : ∀ z : Int, Q z M0) : ∀ (n : Nat) (v4 v5 : Int), IM (b) M0 → (0 ≤ v5 ∧ v5 ≤ 8) → iR v4 → 8 - v5 < (n : Int) → qX12_bitsBy_L6 k1 p2 p3 Q n v4 v5 M0 := by
  intro n
  induction n with
  | zero => intro v4 v5 hI hv hrv4 hm; exact absurd hm (by omega)
  | succ n ih =>
    intro v4 v5 hI hv hrv4 hm
    rw [qX12_bitsBy_L6]
    have hbn := hI.nn
    have ek1 : k1 = 5 ∨ k1 = 6 := hk1
    intro x1_568 ex1_568 rx1_568
    have bx1_568 : 0 ≤ x1_568 ∧ x1_568 ≤ 8 := by rw [ex1_568]; exact bm_c1_5.mp (hI.bx _ _)
    refine ⟨(by first | assumption | exact (by omega)), ?_⟩
    refine ⟨fun c => ?_, fun c => ?_⟩
    · refine ⟨(by first | assumption | exact (by omega)), ?_⟩
      exact hQ _
    · refine ⟨by omega, ?_⟩
      refine ⟨by omega, ?_⟩
      intro x7_571 ex7_571 rx7_571
      have rbx7_571 : -2147483648 ≤ x7_571 ∧ x7_571 ≤ 2147483647 := rx7_571
      have nbx7_571 : BN (b) (p2 + v5) x7_571 := by rw [ex7_571]; exact (bm_n hk1).mp (hI.bx _ _)
      first | (have bx7_571 : -1 ≤ x7_571 ∧ x7_571 ≤ 29 := nbx7_571.1 (by omega)) | (have bx7_571 : -1 ≤ x7_571 ∧ x7_571 ≤ 29 := nbx7_571.2.1 (by omega)) | skip
      refine ⟨fun c => ?_, fun c => ?_⟩
      · intro x9_573 ex9_573 rx9_573
        first | (have fx9_573 := oI_64 (a := v4) (b := 0) (by omega) (by omega); rw [← ex9_573] at fx9_573) | skip
        exact ih _ _ (hI.mono (by first | exact Int.le_refl _ | omega)) (by omega) (by first | assumption | exact (by omega)) (by omega)
      · intro x10_575 ex10_575 rx10_575
        first | (have fx10_575 := slI_1 (b := v5) (by omega); rw [← ex10_575] at fx10_575) | skip
        intro x11_576 ex11_576 rx11_576
        first | (have fx11_576 := oI_64 (a := v4) (b := x10_575) (by omega) (by omega); rw [← ex11_576] at fx11_576) | skip
        exact ih _ _ (hI.mono (by first | exact Int.le_refl _ | omega)) (by omega) (by first | assumption | exact (by omega)) (by omega)
theorem sX12_bitsBy {k1 : Nat} {p2 : Int} {p3 : Int} {b : Int} {M : Mem} {Q : Int → Mem → Prop} (hI : IM b M) (hk1 : isN k1) (hp : 0 ≤ p2 ∧ p2 ≤ 29) (hQ : ∀ z : Int, Q z M) : qX12_bitsBy k1 p2 p3 M Q := by
  unfold qX12_bitsBy
  have hbn := hI.nn
  have ek1 : k1 = 5 ∨ k1 = 6 := hk1
  refine ⟨9, ?_⟩
  refine sX12_bitsBy_L6 (b := b) (p2 := p2) (p3 := p3) (M0 := M) hk1 hp ?_ _ _ _ (hI.mono (by first | exact Int.le_refl _ | omega)) (by omega) (by first | assumption | exact (by omega)) (by omega)
  · exact hQ
theorem sX12_owners_L4 {p1 : Int}  {Q : Int → Mem → Prop} {b : Int} {M0 : Mem} (hQ : ∀ z : Int, Q z M0) : ∀ (n : Nat) (v2 v3 : Int), IM (b) M0 → (0 ≤ v3 ∧ v3 ≤ 8) → iR v2 → 8 - v3 < (n : Int) → qX12_owners_L4 p1 Q n v2 v3 M0 := by
  intro n
  induction n with
  | zero => intro v2 v3 hI hv hrv2 hm; exact absurd hm (by omega)
  | succ n ih =>
    intro v2 v3 hI hv hrv2 hm
    rw [qX12_owners_L4]
    have hbn := hI.nn
    intro x1_582 ex1_582 rx1_582
    have bx1_582 : 0 ≤ x1_582 ∧ x1_582 ≤ 8 := by rw [ex1_582]; exact bm_c1_5.mp (hI.bx _ _)
    refine ⟨(by first | assumption | exact (by omega)), ?_⟩
    refine ⟨fun c => ?_, fun c => ?_⟩
    · refine ⟨(by first | assumption | exact (by omega)), ?_⟩
      exact hQ _
    · refine ⟨by omega, ?_⟩
      refine ⟨by omega, ?_⟩
      intro x7_585 ex7_585 rx7_585
      have bx7_585 : 0 ≤ x7_585 ∧ x7_585 ≤ 5 := by rw [ex7_585]; exact bm_c3.mp (hI.bx _ _)
      refine ⟨fun c => ?_, fun c => ?_⟩
      · intro x9_587 ex9_587 rx9_587
        first | (have fx9_587 := oI_64 (a := v2) (b := 0) (by omega) (by omega); rw [← ex9_587] at fx9_587) | skip
        exact ih _ _ (hI.mono (by first | exact Int.le_refl _ | omega)) (by omega) (by first | assumption | exact (by omega)) (by omega)
      · intro x10_589 ex10_589 rx10_589
        first | (have fx10_589 := slI_1 (b := v3) (by omega); rw [← ex10_589] at fx10_589) | skip
        intro x11_590 ex11_590 rx11_590
        first | (have fx11_590 := oI_64 (a := v2) (b := x10_589) (by omega) (by omega); rw [← ex11_590] at fx11_590) | skip
        exact ih _ _ (hI.mono (by first | exact Int.le_refl _ | omega)) (by omega) (by first | assumption | exact (by omega)) (by omega)
theorem sX12_owners {p1 : Int} {b : Int} {M : Mem} {Q : Int → Mem → Prop} (hI : IM b M) (hQ : ∀ z : Int, Q z M) : qX12_owners p1 M Q := by
  unfold qX12_owners
  have hbn := hI.nn
  refine ⟨9, ?_⟩
  refine sX12_owners_L4 (b := b) (p1 := p1) (M0 := M) ?_ _ _ _ (hI.mono (by first | exact Int.le_refl _ | omega)) (by omega) (by first | assumption | exact (by omega)) (by omega)
  · exact hQ
theorem sX12_freeAhead_L2 {k1 : Nat} {p2 : Int}  {Q : Int → Mem → Prop} {b : Int} {M0 : Mem} (hk1 : isN k1) (hp : 0 ≤ p2 ∧ p2 ≤ 29) (hQ : ∀ z : Int, (0 ≤ z ∧ z ≤ 30) → Q z M0) : ∀ (n : Nat) (v3 : Int), IM (b) M0 → (0 ≤ v3 ∧ v3 ≤ 30) → 30 - v3 < (n : Int) → qX12_freeAhead_L2 k1 p2 Q n v3 M0 := by
  intro n
  induction n with
  | zero => intro v3 hI hv hm; exact absurd hm (by omega)
  | succ n ih =>
    intro v3 hI hv hm
    rw [qX12_freeAhead_L2]
    have hbn := hI.nn
    have ek1 : k1 = 5 ∨ k1 = 6 := hk1
    refine sX12_gate  hI  ?_
    intro x1_591 p592 q593
    refine ⟨(by first | assumption | exact (by omega)), ?_⟩
    refine ⟨fun c => ?_, fun c => ?_⟩
    · refine ⟨(by first | assumption | exact (by omega)), ?_⟩
      exact hQ _ (by omega)
    · refine sX12_gate  hI  ?_
      intro x5_596 p597 q598
      refine ⟨(by first | assumption | exact (by omega)), ?_⟩
      refine ⟨fun c => ?_, fun c => ?_⟩
      · exact ih _ (hI.mono (by first | exact Int.le_refl _ | omega)) (by omega) (by omega)
      · refine sX12_onCell (p2 := p2 + v3 + 1) hI hk1 ?_
        intro x8_601 p602 q603
        refine ⟨fun c => ?_, fun c => ?_⟩
        · refine ⟨(by first | assumption | exact (by omega)), ?_⟩
          exact hQ _ (by omega)
        · exact ih _ (hI.mono (by first | exact Int.le_refl _ | omega)) (by omega) (by omega)
theorem sX12_freeAhead {k1 : Nat} {p2 : Int} {b : Int} {M : Mem} {Q : Int → Mem → Prop} (hI : IM b M) (hk1 : isN k1) (hp : 0 ≤ p2 ∧ p2 ≤ 29) (hQ : ∀ z : Int, (0 ≤ z ∧ z ≤ 30) → Q z M) : qX12_freeAhead k1 p2 M Q := by
  unfold qX12_freeAhead
  have hbn := hI.nn
  have ek1 : k1 = 5 ∨ k1 = 6 := hk1
  refine ⟨31, ?_⟩
  refine sX12_freeAhead_L2 (b := b) (p2 := p2) (M0 := M) hk1 hp ?_ _ _ (hI.mono (by first | exact Int.le_refl _ | omega)) (by omega) (by omega)
  · exact hQ
theorem sX12_isOn {k0 : Nat} {p1 : Int} {b : Int} {M : Mem} {Q : Int → Mem → Prop} (hI : IM b M) (hk0 : isN k0) (hp : 0 ≤ p1 ∧ p1 ≤ 37) (hQ : ∀ z : Int, ((z = 1 → 0 ≤ M k0 p1) ∧ (z = 0 → M k0 p1 < 0)) → Q z M) : qX12_isOn k0 p1 M Q := by
  unfold qX12_isOn
  have hbn := hI.nn
  have ek0 : k0 = 5 ∨ k0 = 6 := hk0
  refine ⟨by omega, ?_⟩
  refine ⟨by omega, ?_⟩
  intro x3_606 ex3_606 rx3_606
  have rbx3_606 : -2147483648 ≤ x3_606 ∧ x3_606 ≤ 2147483647 := rx3_606
  have nbx3_606 : BN (b) p1 x3_606 := by rw [ex3_606]; exact (bm_n hk0).mp (hI.bx _ _)
  first | (have bx3_606 : -1 ≤ x3_606 ∧ x3_606 ≤ 29 := nbx3_606.1 (by omega)) | (have bx3_606 : -1 ≤ x3_606 ∧ x3_606 ≤ 29 := nbx3_606.2.1 (by omega)) | skip
  refine ⟨fun c => ?_, fun c => ?_⟩
  · exact hQ _ (by omega)
  · exact hQ _ (by omega)
theorem sX12_worked {p0 : Int} {p1 : Int} {p2 : Int} {b : Int} {M : Mem} {Q : Int → Mem → Prop} (hI : IM b M) (hQ : ∀ z : Int, Q z M) : qX12_worked p0 p1 p2 M Q := by
  unfold qX12_worked
  have hbn := hI.nn
  refine ⟨fun c => ?_, fun c => ?_, fun c => ?_, fun c => ?_, fun c => ?_, fun c => ?_, fun c => ?_⟩
  · refine ⟨fun c => ?_, fun c => ?_⟩
    · unfold qX12_worked_J50
      refine ⟨(by first | assumption | exact (by omega)), ?_⟩
      refine sX12_flag (p0 := 0) hI  ?_
      intro x4_611 p612 q613
      exact hQ _
    · unfold qX12_worked_J50
      refine ⟨(by first | assumption | exact (by omega)), ?_⟩
      refine sX12_flag (p0 := 1) hI  ?_
      intro x4_615 p616 q617
      exact hQ _
  · refine ⟨fun c => ?_, fun c => ?_⟩
    · unfold qX12_worked_J64
      refine ⟨(by first | assumption | exact (by omega)), ?_⟩
      refine sX12_flag (p0 := 0) hI  ?_
      intro x7_620 p621 q622
      exact hQ _
    · unfold qX12_worked_J64
      refine ⟨(by first | assumption | exact (by omega)), ?_⟩
      refine sX12_flag (p0 := 1) hI  ?_
      intro x7_624 p625 q626
      exact hQ _
  · refine ⟨fun c => ?_, fun c => ?_⟩
    · unfold qX12_worked_J78
      refine ⟨(by first | assumption | exact (by omega)), ?_⟩
      refine sX12_flag (p0 := 0) hI  ?_
      intro x10_629 p630 q631
      exact hQ _
    · unfold qX12_worked_J78
      refine ⟨(by first | assumption | exact (by omega)), ?_⟩
      refine sX12_flag (p0 := 1) hI  ?_
      intro x10_633 p634 q635
      exact hQ _
  · intro x11_637 ex11_637 rx11_637
    first | (have fx11_637 : x11_637 = p1 + p2 := by rw [ex11_637]; exact w32_id (by omega)) | skip
    exact hQ _
  · intro x12_639 ex12_639 rx12_639
    first | (have fx12_639 : x12_639 = p1 - p2 := by rw [ex12_639]; exact w32_id (by omega)) | skip
    exact hQ _
  · intro x13_641 ex13_641 rx13_641
    first | (have fx13_641 : x13_641 = p1 * p2 := by rw [ex13_641]; exact w32_id (by omega)) | skip
    exact hQ _
  · refine ⟨fun c => ?_, fun c => ?_⟩
    · refine ⟨by omega, ?_⟩
      intro x16_644 ex16_644 rx16_644
      first | (have fx16_644 := dvI_b (a := p1) (b := p2) (by omega) (by omega); rw [← ex16_644] at fx16_644) | skip
      exact hQ _
    · exact hQ _
theorem sX12_ruled_L4 {X125 : Mem → Prop} {Q : Int → Mem → Prop} {b : Int} {M0 : Mem} (hX : ∀ M' : Mem, IM b M' → FrJ (fun k j => k = 13) M0 M' → X125 M') : ∀ (n : Nat) (v1 v2 : Int) (M : Mem), IM b M → FrJ (fun k j => k = 13) M0 M → (v1 = dpc (M 11) v2.toNat ∧ 0 ≤ v2 ∧ v2 ≤ 80) → 80 - v2 < (n : Int) → qX12_ruled_L4 X125 Q n v1 v2 M := by
  intro n
  induction n with
  | zero => intro v1 v2 M hI hF hv hm; exact absurd hm (by omega)
  | succ n ih =>
    intro v1 v2 M hI hF hv hm
    rw [qX12_ruled_L4]
    intro x1 e1 _
    have b1 : 0 ≤ x1 ∧ x1 ≤ 80 := by rw [e1]; exact bm_c1_24.mp (hI.bx _ _)
    refine ⟨(by omega), ⟨fun c => hX _ hI hF, fun c => ?_⟩⟩
    refine ⟨by omega, by omega, ?_⟩
    intro x6 e6 r6
    have hw := hI.2 v2.toNat (by omega)
    have hc : ((v2.toNat : Nat) : Int) = v2 := by omega
    have hn := dpc_nn hI.2 v2.toNat (by omega)
    have hl := dpc_le (M 11) v2.toNat
    rw [hc, ← e6] at hw
    have hs : dpc (M 11) (v2 + 1).toNat = dpc (M 11) v2.toNat + (if x6 = 3000 then 0 else if x6 < 2000 then 1 else -1) := by
      rw [show (v2 + 1).toNat = v2.toNat + 1 from by omega]
      show dpc (M 11) v2.toNat + (if M 11 (v2.toNat : Nat) = 3000 then 0 else if M 11 (v2.toNat : Nat) < 2000 then 1 else -1) = _
      rw [hc, ← e6]
    have key : ∀ (M' : Mem) (j v w : Int), M' = up2 M 13 j v → w = v1 + (if x6 = 3000 then 0 else if x6 < 2000 then 1 else -1) → qX12_ruled_L4 X125 Q n w (v2 + 1) M' := by
      intro M' j v w hM' hw'
      refine ih _ _ _ (by rw [hM']; exact hI.up (by omega) (by simp [BM])) (by rw [hM']; exact hF.up rfl) ⟨?_, by omega, by omega⟩ (by omega)
      rw [hM', up2_n (by decide), hs, ← hv.1]
      exact hw'
    refine ⟨fun c1 => ⟨fun c2 => ⟨fun c3 => ?_, fun c3 => ?_⟩, fun c2 => ?_⟩, fun c1 => ?_⟩
    · unfold qX12_ruled_J115
      refine ⟨by omega, by omega, r6, ?_⟩
      intro M13 h13
      exact key _ _ _ _ h13 (by rw [if_neg c1, if_pos c2])
    · intro x14 e14 _
      have f14 : x14 = x6 - 1000 := by rw [e14]; exact w32_id (by omega)
      have := hw.2.2 (by omega) (by omega)
      refine ⟨by omega, by omega, ?_⟩
      intro x17 e17 r17
      unfold qX12_ruled_J115
      refine ⟨by omega, by omega, r17, ?_⟩
      intro M13 h13
      exact key _ _ _ _ h13 (by rw [if_neg c1, if_pos c2])
    · have h2 := hw.2.1 (by omega) c1
      intro x18 e18 _ x19 e19 _ x20 e20 _
      have f18 : x18 = v1 + (-1) - 1 := by rw [e18]; exact w32_id (by omega)
      have f20 : x20 = v1 + (-1) - 1 := by rw [e20]; exact w32_id (by omega)
      refine ⟨by omega, by omega, ?_⟩
      intro x23 e23 _
      refine ⟨by omega, by omega, ?_⟩
      intro x26 e26 _
      refine sX12_worked (p0 := x19) (p1 := x23) (p2 := x26) hI ?_
      intro x27 _
      refine ⟨by omega, by omega, ?_⟩
      intro M30 h30
      exact key _ _ _ _ h30 (by rw [if_neg c1, if_neg c2])
    · have h1 := hw.1 c1
      intro x31 e31 _ x32 e32 _
      have f31 : x31 = v1 - 1 := by rw [e31]; exact w32_id (by omega)
      have f32 : x32 = v1 - 1 := by rw [e32]; exact w32_id (by omega)
      refine ⟨by omega, by omega, ?_⟩
      intro x35 e35 _ x36 e36 _
      refine ⟨by omega, by omega, ?_⟩
      intro M39 h39
      exact key _ _ _ _ h39 (by rw [if_pos c1]; omega)
theorem sX12_ruled {b : Int} {M : Mem} {Q : Int → Mem → Prop} (hI : IM b M) (hQ : ∀ z : Int, ∀ M' : Mem, IM b M' → FrJ (fun k j => k = 13) M M' → Q z M') : qX12_ruled M Q := by
  unfold qX12_ruled
  refine ⟨81, sX12_ruled_L4 (b := b) (M0 := M) ?_ _ _ _ _ hI FrJ.rf ⟨rfl, by omega, by omega⟩ (by omega)⟩
  intro M' h' hF x41 _ _
  refine ⟨fun c => fun x43 _ _ => hQ _ _ h' hF, fun c => ?_⟩
  intro x44 _ _
  refine ⟨fun c => ?_, fun c => ?_⟩ <;>
  · unfold qX12_ruled_J148
    refine ⟨by decide, ?_⟩
    refine sX12_flag h' ?_
    intro z _ _ x48 _ _
    exact hQ _ _ h' hF
theorem sX12_weatherOn {p1 : Int} {b : Int} {M : Mem} {Q : Int → Mem → Prop} (hI : IM b M) (hp : 0 ≤ p1 ∧ p1 ≤ 2147483647) (hQ : ∀ z : Int, Q z M) : qX12_weatherOn p1 M Q := by
  unfold qX12_weatherOn
  have hbn := hI.nn
  intro x1_646 ex1_646 rx1_646
  have bx1_646 : 1 ≤ x1_646 ∧ x1_646 ≤ 20 := by rw [ex1_646]; exact bm_c1_7.mp (hI.bx _ _)
  refine ⟨by omega, ?_⟩
  intro x3_647 ex3_647 rx3_647
  first | (have fx3_647 := rmI_b (a := p1) (b := x1_646) (by omega) (by omega); rw [← ex3_647] at fx3_647) | skip
  refine ⟨by omega, ?_⟩
  refine ⟨by omega, ?_⟩
  intro x6_648 ex6_648 rx6_648
  have bx6_648 : -2147483648 ≤ x6_648 ∧ x6_648 ≤ 2147483647 := rx6_648
  exact hQ _
theorem sX12_paceOf {k1 : Nat} {p2 : Int} {b : Int} {M : Mem} {Q : Int → Mem → Prop} (hI : IM b M) (hk1 : isN k1) (hp : 0 ≤ p2 ∧ p2 ≤ 5) (hQ : ∀ z : Int, ∀ M' : Mem, IM b M' → FrJ (fun k j => k = 14 ∨ k = 13) M M' → (0 ≤ z ∧ z ≤ 3) → Q z M') : qX12_paceOf k1 p2 M Q := by
  unfold qX12_paceOf
  have hbn := hI.nn
  have ek1 : k1 = 5 ∨ k1 = 6 := hk1
  refine sX12_isOn (p1 := p2) hI hk1 (by omega) ?_
  intro x1_649 p650 q651 q652
  refine ⟨fun c => ?_, fun c => ?_⟩
  · refine ⟨by omega, ?_⟩
    refine ⟨by omega, ?_⟩
    intro x5_654 ex5_654 rx5_654
    have rbx5_654 : -2147483648 ≤ x5_654 ∧ x5_654 ≤ 2147483647 := rx5_654
    have nbx5_654 : BN (b) p2 x5_654 := by rw [ex5_654]; exact (bm_n hk1).mp (hI.bx _ _)
    first | (have bx5_654 : -1 ≤ x5_654 ∧ x5_654 ≤ 29 := nbx5_654.1 (by omega)) | (have bx5_654 : -1 ≤ x5_654 ∧ x5_654 ≤ 29 := nbx5_654.2.1 (by omega)) | skip
    intro M6_655 h_M6_655
    have hM6_655 : IM (b) M6_655 := by rw [h_M6_655]; exact hI.up (by omega) (by simp [BM])
    have hFM6_655 : FrJ (fun k j => k = 14 ∨ k = 13) M M6_655 := by rw [h_M6_655]; exact (FrJ.rf).up (by omega)
    intro x7_656 ex7_656 rx7_656
    have rbx7_656 : -2147483648 ≤ x7_656 ∧ x7_656 ≤ 2147483647 := rx7_656
    have nbx7_656 : BN (b) p2 x7_656 := by rw [ex7_656]; exact (bm_n hk1).mp (hM6_655.bx _ _)
    first | (have bx7_656 : -1 ≤ x7_656 ∧ x7_656 ≤ 29 := nbx7_656.1 (by omega)) | (have bx7_656 : -1 ≤ x7_656 ∧ x7_656 ≤ 29 := nbx7_656.2.1 (by omega)) | skip
    have fx7_656 : x7_656 = M k1 p2 := by rw [ex7_656, h_M6_655, up2_n (by omega)]
    refine sX12_freeAhead (p2 := x7_656) hM6_655 hk1 (by omega) ?_
    intro x8_657 p658 q659
    intro M9_660 h_M9_660
    have hM9_660 : IM (b) M9_660 := by rw [h_M9_660]; exact hM6_655.up (by omega) (by simp [BM])
    have hFM9_660 : FrJ (fun k j => k = 14 ∨ k = 13) M M9_660 := by rw [h_M9_660]; exact (hFM6_655).up (by omega)
    intro x10_661 ex10_661 rx10_661
    have rbx10_661 : -2147483648 ≤ x10_661 ∧ x10_661 ≤ 2147483647 := rx10_661
    have nbx10_661 : BN (b) p2 x10_661 := by rw [ex10_661]; exact (bm_n hk1).mp (hM9_660.bx _ _)
    first | (have bx10_661 : -1 ≤ x10_661 ∧ x10_661 ≤ 29 := nbx10_661.1 (by omega)) | (have bx10_661 : -1 ≤ x10_661 ∧ x10_661 ≤ 29 := nbx10_661.2.1 (by omega)) | skip
    have fx10_661 : x10_661 = M k1 p2 := by rw [ex10_661, h_M9_660, up2_n (by omega), h_M6_655, up2_n (by omega)]
    refine ⟨by omega, ?_⟩
    refine ⟨by omega, ?_⟩
    intro x13_662 ex13_662 rx13_662
    have bx13_662 : -2147483648 ≤ x13_662 ∧ x13_662 ≤ 2147483647 := rx13_662
    have fx13_662 : x13_662 = M 2 x10_661 := by rw [ex13_662, h_M9_660, up2_n (by decide), h_M6_655, up2_n (by decide)]
    have cgx13_662 : x13_662 = M9_660 2 (M9_660 k1 p2) := by rw [ex13_662, ← ex10_661]
    refine sX12_flag (p0 := x13_662) hM9_660  ?_
    intro x14_663 p664 q665
    intro M15_666 h_M15_666
    have hM15_666 : IM (b) M15_666 := by rw [h_M15_666]; exact hM9_660.up (by omega) (by simp [BM])
    have hFM15_666 : FrJ (fun k j => k = 14 ∨ k = 13) M M15_666 := by rw [h_M15_666]; exact (hFM9_660).up (by omega)
    intro x16_667 ex16_667 rx16_667
    have rbx16_667 : -2147483648 ≤ x16_667 ∧ x16_667 ≤ 2147483647 := rx16_667
    first | (have bx16_667 : 0 ≤ x16_667 ∧ x16_667 ≤ (b) := by rw [ex16_667]; exact ((bm_n hk1).mp (hM15_666.bx _ _)).2.2.2 (by omega)) | skip
    have fx16_667 : x16_667 = M k1 37 := by rw [ex16_667, h_M15_666, up2_n (by omega), h_M9_660, up2_n (by omega), h_M6_655, up2_n (by omega)]
    refine sX12_weatherOn (p1 := x16_667) hM15_666 (by omega) ?_
    intro x17_668 q669
    intro M18_670 h_M18_670
    have hM18_670 : IM (b) M18_670 := by rw [h_M18_670]; exact hM15_666.up (by omega) (by simp [BM])
    have hFM18_670 : FrJ (fun k j => k = 14 ∨ k = 13) M M18_670 := by rw [h_M18_670]; exact (hFM15_666).up (by omega)
    intro x19_671 ex19_671 rx19_671
    have rbx19_671 : -2147483648 ≤ x19_671 ∧ x19_671 ≤ 2147483647 := rx19_671
    first | (have bx19_671 : 0 ≤ x19_671 ∧ x19_671 ≤ (b) := by rw [ex19_671]; exact ((bm_n hk1).mp (hM18_670.bx _ _)).2.2.2 (by omega)) | skip
    have fx19_671 : x19_671 = M k1 37 := by rw [ex19_671, h_M18_670, up2_n (by omega), h_M15_666, up2_n (by omega), h_M9_660, up2_n (by omega), h_M6_655, up2_n (by omega)]
    intro x20_672 ex20_672 rx20_672
    first | (have fx20_672 := rmI_b (a := x19_671) (b := 10) (by omega) (by omega); rw [← ex20_672] at fx20_672) | skip
    intro M21_673 h_M21_673
    have hM21_673 : IM (b) M21_673 := by rw [h_M21_673]; exact hM18_670.up (by omega) (by simp [BM])
    have hFM21_673 : FrJ (fun k j => k = 14 ∨ k = 13) M M21_673 := by rw [h_M21_673]; exact (hFM18_670).up (by omega)
    intro M22_674 h_M22_674
    have hM22_674 : IM (b) M22_674 := by rw [h_M22_674]; exact hM21_673.up (by omega) (by simp [BM])
    have hFM22_674 : FrJ (fun k j => k = 14 ∨ k = 13) M M22_674 := by rw [h_M22_674]; exact (hFM21_673).up (by omega)
    refine sX12_bitsBy (p2 := 21) (p3 := p2) hM22_674 hk1 (by omega) ?_
    intro x23_675 q676
    refine sJ6_bitCountM (p0 := x23_675) hM22_674  ?_
    intro x24_677 p678 q679
    intro M25_680 h_M25_680
    have hM25_680 : IM (b) M25_680 := by rw [h_M25_680]; exact hM22_674.up (by omega) (by simp [BM])
    have hFM25_680 : FrJ (fun k j => k = 14 ∨ k = 13) M M25_680 := by rw [h_M25_680]; exact (hFM22_674).up (by omega)
    refine sX12_ruled  hM25_680  ?_
    intro x26_681 M26_682 hM26_682 gM26_682 q683
    have hFM26_682 : FrJ (fun k j => k = 14 ∨ k = 13) M M26_682 := (hFM25_680).tr (gM26_682.mono (by intro k j h; omega))
    intro x27_684 ex27_684 rx27_684
    intro x28_685 ex28_685 rx28_685
    exact hQ _ _ (hM26_682.mono (by first | exact Int.le_refl _ | omega)) hFM26_682 (by omega)
  · exact hQ _ _ (hI.mono (by first | exact Int.le_refl _ | omega)) FrJ.rf (by omega)
theorem sX12_isMourner {p1 : Int} {b : Int} {M : Mem} {Q : Int → Mem → Prop} (hI : IM b M) (hQ : ∀ z : Int, (¬ z = 0 → 0 ≤ p1 ∧ p1 ≤ 7) → Q z M) : qX12_isMourner p1 M Q := by
  unfold qX12_isMourner
  have hbn := hI.nn
  intro x1_725 ex1_725 rx1_725
  have bx1_725 : 0 ≤ x1_725 ∧ x1_725 ≤ 8 := by rw [ex1_725]; exact bm_c1_5.mp (hI.bx _ _)
  refine ⟨(by first | assumption | exact (by omega)), ?_⟩
  refine sX12_in (p0 := p1) (p2 := 0) (p4 := x1_725 - 1) hI  ?_
  intro x3_726 p727 q728 q729
  refine ⟨by omega, ?_⟩
  exact hQ _ (by omega)
theorem sX12_nearest_L5 {k1 : Nat} {p2 : Int}  {Q : Int → Mem → Prop} {b : Int} {M0 : Mem} (hk1 : isN k1) (hp : -1 ≤ p2 ∧ p2 ≤ 29) (hQ : ∀ z : Int, (-1 ≤ z ∧ z ≤ 5 ∧ (0 ≤ z → 0 ≤ M0 k1 z)) → Q z M0) : ∀ (n : Nat) (v3 v4 : Int), IM (b) M0 → ((v3 = -1 ∨ 0 ≤ v3 ∧ v3 ≤ 5 ∧ 0 ≤ M0 k1 v3) ∧ 0 ≤ v4 ∧ v4 ≤ 6) → 6 - v4 < (n : Int) → qX12_nearest_L5 k1 p2 Q n v3 v4 M0 := by
  intro n
  induction n with
  | zero => intro v3 v4 hI hv hm; exact absurd hm (by omega)
  | succ n ih =>
    intro v3 v4 hI hv hm
    rw [qX12_nearest_L5]
    have hbn := hI.nn
    have ek1 : k1 = 5 ∨ k1 = 6 := hk1
    intro x1_730 ex1_730 rx1_730
    have bx1_730 : 0 ≤ x1_730 ∧ x1_730 ≤ 6 := by rw [ex1_730]; exact bm_c1_4.mp (hI.bx _ _)
    refine ⟨(by first | assumption | exact (by omega)), ?_⟩
    refine ⟨fun c => ?_, fun c => ?_⟩
    · refine ⟨(by first | assumption | exact (by omega)), ?_⟩
      exact hQ _ (by omega)
    · refine sX12_isOn (p1 := v4) hI hk1 (by omega) ?_
      intro x5_733 p734 q735 q736
      refine ⟨fun c => ?_, fun c => ?_⟩
      · exact ih _ _ (hI.mono (by first | exact Int.le_refl _ | omega)) (by omega) (by omega)
      · refine ⟨by omega, ?_⟩
        refine ⟨by omega, ?_⟩
        intro x9_739 ex9_739 rx9_739
        have rbx9_739 : -2147483648 ≤ x9_739 ∧ x9_739 ≤ 2147483647 := rx9_739
        have nbx9_739 : BN (b) v4 x9_739 := by rw [ex9_739]; exact (bm_n hk1).mp (hI.bx _ _)
        first | (have bx9_739 : -1 ≤ x9_739 ∧ x9_739 ≤ 29 := nbx9_739.1 (by omega)) | (have bx9_739 : -1 ≤ x9_739 ∧ x9_739 ≤ 29 := nbx9_739.2.1 (by omega)) | skip
        refine ⟨(by first | assumption | exact (by omega)), ?_⟩
        intro x11_740 px11_740 nx11_740
        have bx11_740 : 0 ≤ x11_740 ∧ (x9_739 - p2 = x11_740 ∨ x9_739 - p2 = -x11_740) := by omega
        refine ⟨(by first | assumption | exact (by omega)), ?_⟩
        refine ⟨fun c => ?_, fun c => ?_⟩
        · refine ⟨by omega, ?_⟩
          refine ⟨by omega, ?_⟩
          intro x16_742 ex16_742 rx16_742
          have rbx16_742 : -2147483648 ≤ x16_742 ∧ x16_742 ≤ 2147483647 := rx16_742
          have nbx16_742 : BN (b) v3 x16_742 := by rw [ex16_742]; exact (bm_n hk1).mp (hI.bx _ _)
          first | (have bx16_742 : -1 ≤ x16_742 ∧ x16_742 ≤ 29 := nbx16_742.1 (by omega)) | (have bx16_742 : -1 ≤ x16_742 ∧ x16_742 ≤ 29 := nbx16_742.2.1 (by omega)) | skip
          refine ⟨(by first | assumption | exact (by omega)), ?_⟩
          intro x18_743 px18_743 nx18_743
          have bx18_743 : 0 ≤ x18_743 ∧ (x16_742 - p2 = x18_743 ∨ x16_742 - p2 = -x18_743) := by omega
          unfold qX12_nearest_J52
          refine ⟨(by first | assumption | exact (by omega)), ?_⟩
          refine ⟨(by first | assumption | exact (by omega)), ?_⟩
          refine ⟨fun c => ?_, fun c => ?_⟩
          · exact ih _ _ (hI.mono (by first | exact Int.le_refl _ | omega)) (by omega) (by omega)
          · refine ⟨fun c => ?_, fun c => ?_⟩
            · exact ih _ _ (hI.mono (by first | exact Int.le_refl _ | omega)) (by omega) (by omega)
            · refine ⟨by omega, ?_⟩
              refine ⟨by omega, ?_⟩
              intro x25_748 ex25_748 rx25_748
              have rbx25_748 : -2147483648 ≤ x25_748 ∧ x25_748 ≤ 2147483647 := rx25_748
              have nbx25_748 : BN (b) v4 x25_748 := by rw [ex25_748]; exact (bm_n hk1).mp (hI.bx _ _)
              first | (have bx25_748 : -1 ≤ x25_748 ∧ x25_748 ≤ 29 := nbx25_748.1 (by omega)) | (have bx25_748 : -1 ≤ x25_748 ∧ x25_748 ≤ 29 := nbx25_748.2.1 (by omega)) | skip
              refine ⟨by omega, ?_⟩
              refine ⟨by omega, ?_⟩
              intro x28_749 ex28_749 rx28_749
              have rbx28_749 : -2147483648 ≤ x28_749 ∧ x28_749 ≤ 2147483647 := rx28_749
              have nbx28_749 : BN (b) v3 x28_749 := by rw [ex28_749]; exact (bm_n hk1).mp (hI.bx _ _)
              first | (have bx28_749 : -1 ≤ x28_749 ∧ x28_749 ≤ 29 := nbx28_749.1 (by omega)) | (have bx28_749 : -1 ≤ x28_749 ∧ x28_749 ≤ 29 := nbx28_749.2.1 (by omega)) | skip
              refine ⟨fun c => ?_, fun c => ?_⟩
              · exact ih _ _ (hI.mono (by first | exact Int.le_refl _ | omega)) (by omega) (by omega)
              · exact ih _ _ (hI.mono (by first | exact Int.le_refl _ | omega)) (by omega) (by omega)
        · unfold qX12_nearest_J52
          refine ⟨(by first | assumption | exact (by omega)), ?_⟩
          refine ⟨(by first | assumption | exact (by omega)), ?_⟩
          refine ⟨fun c => ?_, fun c => ?_⟩
          · exact ih _ _ (hI.mono (by first | exact Int.le_refl _ | omega)) (by omega) (by omega)
          · refine ⟨fun c => ?_, fun c => ?_⟩
            · exact ih _ _ (hI.mono (by first | exact Int.le_refl _ | omega)) (by omega) (by omega)
            · refine ⟨by omega, ?_⟩
              refine ⟨by omega, ?_⟩
              intro x25_757 ex25_757 rx25_757
              have rbx25_757 : -2147483648 ≤ x25_757 ∧ x25_757 ≤ 2147483647 := rx25_757
              have nbx25_757 : BN (b) v4 x25_757 := by rw [ex25_757]; exact (bm_n hk1).mp (hI.bx _ _)
              first | (have bx25_757 : -1 ≤ x25_757 ∧ x25_757 ≤ 29 := nbx25_757.1 (by omega)) | (have bx25_757 : -1 ≤ x25_757 ∧ x25_757 ≤ 29 := nbx25_757.2.1 (by omega)) | skip
              refine ⟨by omega, ?_⟩
              refine ⟨by omega, ?_⟩
              intro x28_758 ex28_758 rx28_758
              have rbx28_758 : -2147483648 ≤ x28_758 ∧ x28_758 ≤ 2147483647 := rx28_758
              have nbx28_758 : BN (b) v3 x28_758 := by rw [ex28_758]; exact (bm_n hk1).mp (hI.bx _ _)
              first | (have bx28_758 : -1 ≤ x28_758 ∧ x28_758 ≤ 29 := nbx28_758.1 (by omega)) | (have bx28_758 : -1 ≤ x28_758 ∧ x28_758 ≤ 29 := nbx28_758.2.1 (by omega)) | skip
              refine ⟨fun c => ?_, fun c => ?_⟩
              · exact ih _ _ (hI.mono (by first | exact Int.le_refl _ | omega)) (by omega) (by omega)
              · exact ih _ _ (hI.mono (by first | exact Int.le_refl _ | omega)) (by omega) (by omega)
end
