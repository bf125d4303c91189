section
theorem sX12_in {p0 : Int} {p2 : Int} {p4 : Int} {b : Int} {M : Mem} {Q : Int → Mem → Prop} (hI : IM b M) (hQ : ∀ z : Int, ((z = 0 ∨ z = 1) ∧ (z = 1 → p2 ≤ p0 ∧ p0 ≤ p4) ∧ (z = 0 → p0 < p2 ∨ p4 < p0)) → Q z M) : qX12_in p0 p2 p4 M Q := by
  unfold qX12_in
  have hbn := hI.nn
  intro x1_22 rx1_22 cx1_22
  refine ⟨fun c => ?_, fun c => ?_⟩
  · exact hQ _ (by omega)
  · intro x3_25 rx3_25 cx3_25
    refine ⟨fun c => ?_, fun c => ?_⟩
    · exact hQ _ (by omega)
    · exact hQ _ (by omega)
theorem sX12_begins {p1 : Int} {b : Int} {M : Mem} {Q : Int → Mem → Prop} (hI : IM b M) (hp : 0 ≤ p1 ∧ p1 ≤ 80) (hQ : ∀ z : Int, ∀ M' : Mem, IM b M' → FrJ (fun k j => k = 1 ∧ (j = 14 ∨ j = 15 ∨ j = 16 ∨ j = 17)) M M' → (0 ≤ z ∧ z ≤ 80 ∧ M' 1 15 = 0 ∧ M' 1 16 ≤ p1 ∧ M' 1 17 = 0 ∧ z = M 1 14 ∧ M' 1 14 = 0) → Q z M') : qX12_begins p1 M Q := by
  unfold qX12_begins
  have hbn := hI.nn
  have u37 : 0 ≤ M 1 14 ∧ M 1 14 ≤ 80 := bm_c1_14.mp (hI.bx _ _)
  have u38 : 0 ≤ M 1 15 ∧ M 1 15 ≤ 80 := bm_c1_15.mp (hI.bx _ _)
  have u39 : 0 ≤ M 1 16 ∧ M 1 16 ≤ 80 := bm_c1_16.mp (hI.bx _ _)
  intro x1_40 ex1_40 rx1_40
  have bx1_40 : 0 ≤ x1_40 ∧ x1_40 ≤ 80 := by rw [ex1_40]; exact bm_c1_14.mp (hI.bx _ _)
  intro M2_41 h_M2_41
  have hM2_41 : IM (b) M2_41 := by rw [h_M2_41]; exact hI.up (by omega) (bm_c1_14.mpr (by omega))
  have hFM2_41 : FrJ (fun k j => k = 1 ∧ (j = 14 ∨ j = 15 ∨ j = 16 ∨ j = 17)) M M2_41 := by rw [h_M2_41]; exact (FrJ.rf).up (by omega)
  intro M3_42 h_M3_42
  have hM3_42 : IM (b) M3_42 := by rw [h_M3_42]; exact hM2_41.up (by omega) (bm_c1_15.mpr (by omega))
  have hFM3_42 : FrJ (fun k j => k = 1 ∧ (j = 14 ∨ j = 15 ∨ j = 16 ∨ j = 17)) M M3_42 := by rw [h_M3_42]; exact (hFM2_41).up (by omega)
  intro M4_43 h_M4_43
  have hM4_43 : IM (b) M4_43 := by rw [h_M4_43]; exact hM3_42.up (by omega) (by simp [BM])
  have hFM4_43 : FrJ (fun k j => k = 1 ∧ (j = 14 ∨ j = 15 ∨ j = 16 ∨ j = 17)) M M4_43 := by rw [h_M4_43]; exact (hFM3_42).up (by omega)
  intro x5_44 ex5_44 rx5_44
  intro M6_45 h_M6_45
  have hM6_45 : IM (b) M6_45 := by rw [h_M6_45]; exact hM4_43.up (by omega) (bm_c1_16.mpr (by omega))
  have hFM6_45 : FrJ (fun k j => k = 1 ∧ (j = 14 ∨ j = 15 ∨ j = 16 ∨ j = 17)) M M6_45 := by rw [h_M6_45]; exact (hFM4_43).up (by omega)
  have u46 : 0 ≤ M6_45 1 15 ∧ M6_45 1 15 ≤ 80 := bm_c1_15.mp (hM6_45.bx _ _)
  have u47 : 0 ≤ M6_45 1 16 ∧ M6_45 1 16 ≤ 80 := bm_c1_16.mp (hM6_45.bx _ _)
  have u48 : 0 ≤ M6_45 1 14 ∧ M6_45 1 14 ≤ 80 := bm_c1_14.mp (hM6_45.bx _ _)
  have t49 : M6_45 1 15 = 0 := by rw [h_M6_45, up2_j (by decide), h_M4_43, up2_j (by decide), h_M3_42, up2_s]
  have t50 : M6_45 1 16 = x5_44 := by rw [h_M6_45, up2_s]
  have t51 : M6_45 1 17 = 0 := by rw [h_M6_45, up2_j (by decide), h_M4_43, up2_s]
  have t52 : M6_45 1 14 = 0 := by rw [h_M6_45, up2_j (by decide), h_M4_43, up2_j (by decide), h_M3_42, up2_j (by decide), h_M2_41, up2_s]
  exact hQ _ _ (hM6_45.mono (by first | exact Int.le_refl _ | omega)) hFM6_45 (by omega)
theorem sX12_flag {p0 : Int} {b : Int} {M : Mem} {Q : Int → Mem → Prop} (hI : IM b M) (hQ : ∀ z : Int, ((z = 0 ∨ z = 1) ∧ (z = 0 → p0 = 0) ∧ (z = 1 → ¬ p0 = 0)) → Q z M) : qX12_flag p0 M Q := by
  unfold qX12_flag
  have hbn := hI.nn
  refine ⟨fun c => ?_, fun c => ?_⟩
  · exact hQ _ (by omega)
  · exact hQ _ (by omega)
theorem sX12_takesOf_L2 {bs : List Int} {X38 : Int → Mem → Prop} {Q : Int → Mem → Prop} {b : Int} {M0 : Mem} (hp : (bs.length : Int) ≤ 7) (hQ : ∀ z : Int, ∀ M' : Mem, IM b M' → FrJ (fun k j => k = 1 ∧ j = 15) M0 M' → (-1 ≤ z ∧ z < bs.length ∧ z ≤ 6 ∧ M0 1 15 ≤ M' 1 15 ∧ (0 ≤ z → M' 1 15 = M0 1 15 + 1)) → Q z M') (hX38 : ∀ w1 : Int, ∀ M' : Mem, IM (b) M' → FrJ (fun k j => k = 1 ∧ j = 15) M0 M' → (0 ≤ w1 ∧ w1 < bs.length ∧ M' 1 15 < M' 1 16 ∧ M' 1 16 ≤ 80 ∧ M' 1 15 = M0 1 15) → X38 w1 M') : ∀ (n : Nat) (v2 : Int) (M : Mem), IM (b) M → FrJ (fun k j => k = 1 ∧ j = 15) M0 M → (0 ≤ v2 ∧ v2 ≤ bs.length ∧ M 1 15 = M0 1 15) → bs.length - v2 < (n : Int) → qX12_takesOf_L2 bs X38 Q n v2 M := by
  intro n
  induction n with
  | zero => intro v2 M hI hF hv hm; exact absurd hm (by omega)
  | succ n ih =>
    intro v2 M hI hF hv hm
    rw [qX12_takesOf_L2]
    have hbn := hI.nn
    have u55 : 0 ≤ M 1 15 ∧ M 1 15 ≤ 80 := bm_c1_15.mp (hI.bx _ _)
    have u56 : 0 ≤ M 1 16 ∧ M 1 16 ≤ 80 := bm_c1_16.mp (hI.bx _ _)
    intro x1_57 ex1_57 rx1_57
    refine ⟨(by first | assumption | exact (by omega)), ?_⟩
    refine ⟨fun c => ?_, fun c => ?_⟩
    · have u59 : 0 ≤ M 1 15 ∧ M 1 15 ≤ 80 := bm_c1_15.mp (hI.bx _ _)
      exact hQ _ _ (hI.mono (by first | exact Int.le_refl _ | omega)) hF (by omega)
    · intro x4_61 ex4_61 rx4_61
      have bx4_61 : 0 ≤ x4_61 ∧ x4_61 ≤ 80 := by rw [ex4_61]; exact bm_c1_15.mp (hI.bx _ _)
      intro x5_62 ex5_62 rx5_62
      have bx5_62 : 0 ≤ x5_62 ∧ x5_62 ≤ 80 := by rw [ex5_62]; exact bm_c1_16.mp (hI.bx _ _)
      refine ⟨fun c => ?_, fun c => ?_⟩
      · have u64 : 0 ≤ M 1 15 ∧ M 1 15 ≤ 80 := bm_c1_15.mp (hI.bx _ _)
        exact hQ _ _ (hI.mono (by first | exact Int.le_refl _ | omega)) hF (by omega)
      · refine ⟨by omega, ?_⟩
        refine ⟨by omega, ?_⟩
        intro x9_66 ex9_66 rx9_66
        intro x10_67 ex10_67 rx10_67
        have bx10_67 : 0 ≤ x10_67 ∧ x10_67 ≤ 80 := by rw [ex10_67]; exact bm_c1_15.mp (hI.bx _ _)
        refine ⟨by omega, ?_⟩
        refine ⟨by omega, ?_⟩
        intro x13_68 ex13_68 rx13_68
        have bx13_68 : 0 ≤ x13_68 ∧ x13_68 ≤ 255 := by rw [ex13_68]; exact bm_c7.mp (hI.bx _ _)
        have cgx13_68 : x13_68 = M 7 (M 1 15) := by rw [ex13_68, ← ex10_67]
        refine ⟨fun c => ?_, fun c => ?_⟩
        · exact ih _ _ (hI.mono (by first | exact Int.le_refl _ | omega)) hF (by omega) (by omega)
        · exact hX38 _ _ (hI.mono (by first | exact Int.le_refl _ | omega)) hF (by omega)
theorem sX12_takesOf {bs : List Int} {b : Int} {M : Mem} {Q : Int → Mem → Prop} (hI : IM b M) (hp : (bs.length : Int) ≤ 7) (hQ : ∀ z : Int, ∀ M' : Mem, IM b M' → FrJ (fun k j => k = 1 ∧ j = 15) M M' → (-1 ≤ z ∧ z < bs.length ∧ z ≤ 6 ∧ M 1 15 ≤ M' 1 15 ∧ (0 ≤ z → M' 1 15 = M 1 15 + 1)) → Q z M') : qX12_takesOf bs M Q := by
  unfold qX12_takesOf
  have hbn := hI.nn
  have u71 : 0 ≤ M 1 15 ∧ M 1 15 ≤ 80 := bm_c1_15.mp (hI.bx _ _)
  refine ⟨(bs.length + 1), ?_⟩
  refine sX12_takesOf_L2 (b := b)  (M0 := M) hp ?_ ?_ _ _ _ (hI.mono (by first | exact Int.le_refl _ | omega)) FrJ.rf (by omega) (by omega)
  · exact hQ
  · intro v2_72 M_73 hM_73 hFM_73 p74
    intro x16_75 ex16_75 rx16_75
    have bx16_75 : 0 ≤ x16_75 ∧ x16_75 ≤ 80 := by rw [ex16_75]; exact bm_c1_15.mp (hM_73.bx _ _)
    refine ⟨(by first | assumption | exact (by omega)), ?_⟩
    intro M18_76 h_M18_76
    have hM18_76 : IM (b) M18_76 := by rw [h_M18_76]; exact hM_73.up (by omega) (bm_c1_15.mpr (by omega))
    have hFM18_76 : FrJ (fun k j => k = 1 ∧ j = 15) M M18_76 := by rw [h_M18_76]; exact (hFM_73).up (by omega)
    refine ⟨(by first | assumption | exact (by omega)), ?_⟩
    have u77 : 0 ≤ M18_76 1 15 ∧ M18_76 1 15 ≤ 80 := bm_c1_15.mp (hM18_76.bx _ _)
    have t78 : M18_76 1 15 = x16_75 + 1 := by rw [h_M18_76, up2_s]
    exact hQ _ _ (hM18_76.mono (by first | exact Int.le_refl _ | omega)) hFM18_76 (by omega)
theorem sX12_faultOf {p1 : Int} {p2 : Int} {p3 : Int} {b : Int} {M : Mem} {Q : Int → Mem → Prop} (hI : IM b M) (hp : 0 ≤ p2 ∧ p2 ≤ 80) (hQ : ∀ z : Int, (-100 ≤ z ∧ z ≤ 0 ∧ (p3 = 0 → z ≤ -1)) → Q z M) : qX12_faultOf p1 p2 p3 M Q := by
  unfold qX12_faultOf
  have hbn := hI.nn
  refine ⟨fun c => ?_, fun c => ?_⟩
  · unfold qX12_faultOf_J19
    unfold qX12_faultOf_J20
    refine ⟨fun c => ?_, fun c => ?_⟩
    · unfold qX12_faultOf_J44
      refine ⟨(by first | assumption | exact (by omega)), ?_⟩
      refine ⟨fun c => ?_, fun c => ?_⟩
      · intro x5_144 ex5_144 rx5_144
        have bx5_144 : 0 ≤ x5_144 ∧ x5_144 ≤ 80 := by rw [ex5_144]; exact bm_c1_15.mp (hI.bx _ _)
        refine ⟨(by first | assumption | exact (by omega)), ?_⟩
        exact hQ _ (by omega)
      · exact hQ _ (by omega)
    · refine ⟨(by first | assumption | exact (by omega)), ?_⟩
      refine ⟨fun c => ?_, fun c => ?_⟩
      · refine ⟨(by first | assumption | exact (by omega)), ?_⟩
        exact hQ _ (by omega)
      · intro x10_149 ex10_149 rx10_149
        have bx10_149 : 0 ≤ x10_149 ∧ x10_149 ≤ 80 := by rw [ex10_149]; exact bm_c1_15.mp (hI.bx _ _)
        refine ⟨fun c => ?_, fun c => ?_⟩
        · unfold qX12_faultOf_J44
          refine ⟨(by first | assumption | exact (by omega)), ?_⟩
          refine ⟨fun c => ?_, fun c => ?_⟩
          · intro x5_152 ex5_152 rx5_152
            have bx5_152 : 0 ≤ x5_152 ∧ x5_152 ≤ 80 := by rw [ex5_152]; exact bm_c1_15.mp (hI.bx _ _)
            refine ⟨(by first | assumption | exact (by omega)), ?_⟩
            exact hQ _ (by omega)
          · exact hQ _ (by omega)
        · refine ⟨(by first | assumption | exact (by omega)), ?_⟩
          exact hQ _ (by omega)
  · intro x13_156 ex13_156 rx13_156
    have bx13_156 : 0 ≤ x13_156 ∧ x13_156 ≤ 80 := by rw [ex13_156]; exact bm_c1_15.mp (hI.bx _ _)
    intro x14_157 ex14_157 rx14_157
    have bx14_157 : 0 ≤ x14_157 ∧ x14_157 ≤ 80 := by rw [ex14_157]; exact bm_c1_16.mp (hI.bx _ _)
    refine ⟨fun c => ?_, fun c => ?_⟩
    · unfold qX12_faultOf_J19
      unfold qX12_faultOf_J20
      refine ⟨fun c => ?_, fun c => ?_⟩
      · unfold qX12_faultOf_J44
        refine ⟨(by first | assumption | exact (by omega)), ?_⟩
        refine ⟨fun c => ?_, fun c => ?_⟩
        · intro x5_161 ex5_161 rx5_161
          have bx5_161 : 0 ≤ x5_161 ∧ x5_161 ≤ 80 := by rw [ex5_161]; exact bm_c1_15.mp (hI.bx _ _)
          refine ⟨(by first | assumption | exact (by omega)), ?_⟩
          exact hQ _ (by omega)
        · exact hQ _ (by omega)
      · refine ⟨(by first | assumption | exact (by omega)), ?_⟩
        refine ⟨fun c => ?_, fun c => ?_⟩
        · refine ⟨(by first | assumption | exact (by omega)), ?_⟩
          exact hQ _ (by omega)
        · intro x10_166 ex10_166 rx10_166
          have bx10_166 : 0 ≤ x10_166 ∧ x10_166 ≤ 80 := by rw [ex10_166]; exact bm_c1_15.mp (hI.bx _ _)
          refine ⟨fun c => ?_, fun c => ?_⟩
          · unfold qX12_faultOf_J44
            refine ⟨(by first | assumption | exact (by omega)), ?_⟩
            refine ⟨fun c => ?_, fun c => ?_⟩
            · intro x5_169 ex5_169 rx5_169
              have bx5_169 : 0 ≤ x5_169 ∧ x5_169 ≤ 80 := by rw [ex5_169]; exact bm_c1_15.mp (hI.bx _ _)
              refine ⟨(by first | assumption | exact (by omega)), ?_⟩
              exact hQ _ (by omega)
            · exact hQ _ (by omega)
          · refine ⟨(by first | assumption | exact (by omega)), ?_⟩
            exact hQ _ (by omega)
    · unfold qX12_faultOf_J20
      refine ⟨fun c => ?_, fun c => ?_⟩
      · unfold qX12_faultOf_J44
        refine ⟨(by first | assumption | exact (by omega)), ?_⟩
        refine ⟨fun c => ?_, fun c => ?_⟩
        · intro x5_175 ex5_175 rx5_175
          have bx5_175 : 0 ≤ x5_175 ∧ x5_175 ≤ 80 := by rw [ex5_175]; exact bm_c1_15.mp (hI.bx _ _)
          refine ⟨(by first | assumption | exact (by omega)), ?_⟩
          exact hQ _ (by omega)
        · exact hQ _ (by omega)
      · refine ⟨(by first | assumption | exact (by omega)), ?_⟩
        refine ⟨fun c => ?_, fun c => ?_⟩
        · refine ⟨(by first | assumption | exact (by omega)), ?_⟩
          exact hQ _ (by omega)
        · intro x10_180 ex10_180 rx10_180
          have bx10_180 : 0 ≤ x10_180 ∧ x10_180 ≤ 80 := by rw [ex10_180]; exact bm_c1_15.mp (hI.bx _ _)
          refine ⟨fun c => ?_, fun c => ?_⟩
          · unfold qX12_faultOf_J44
            refine ⟨(by first | assumption | exact (by omega)), ?_⟩
            refine ⟨fun c => ?_, fun c => ?_⟩
            · intro x5_183 ex5_183 rx5_183
              have bx5_183 : 0 ≤ x5_183 ∧ x5_183 ≤ 80 := by rw [ex5_183]; exact bm_c1_15.mp (hI.bx _ _)
              refine ⟨(by first | assumption | exact (by omega)), ?_⟩
              exact hQ _ (by omega)
            · exact hQ _ (by omega)
          · refine ⟨(by first | assumption | exact (by omega)), ?_⟩
            exact hQ _ (by omega)
theorem sX12_gate  {b : Int} {M : Mem} {Q : Int → Mem → Prop} (hI : IM b M) (hQ : ∀ z : Int, (3 ≤ z ∧ z ≤ 29 ∧ z = M 1 3 - 1) → Q z M) : qX12_gate M Q := by
  unfold qX12_gate
  have hbn := hI.nn
  have u220 : 4 ≤ M 1 3 ∧ M 1 3 ≤ 30 := bm_c1_3.mp (hI.bx _ _)
  intro x1_221 ex1_221 rx1_221
  have bx1_221 : 4 ≤ x1_221 ∧ x1_221 ≤ 30 := by rw [ex1_221]; exact bm_c1_3.mp (hI.bx _ _)
  refine ⟨(by first | assumption | exact (by omega)), ?_⟩
  exact hQ _ (by omega)
theorem sX12_isDigit  {b : Int} {M : Mem} {Q : Int → Mem → Prop} (hI : IM b M) (hQ : ∀ z : Int, ((z = 1 → M 1 15 < M 1 16 ∧ M 1 16 ≤ 80 ∧ 48 ≤ M 7 (M 1 15) ∧ M 7 (M 1 15) ≤ 57) ∧ (z = 0 → ¬ (M 1 15 < M 1 16 ∧ M 1 16 ≤ 80 ∧ 48 ≤ M 7 (M 1 15) ∧ M 7 (M 1 15) ≤ 57)) ∧ (z = 0 ∨ z = 1)) → Q z M) : qX12_isDigit M Q := by
  unfold qX12_isDigit
  have hbn := hI.nn
  have u222 : 0 ≤ M 1 15 ∧ M 1 15 ≤ 80 := bm_c1_15.mp (hI.bx _ _)
  have u223 : 0 ≤ M 1 16 ∧ M 1 16 ≤ 80 := bm_c1_16.mp (hI.bx _ _)
  intro x1_224 ex1_224 rx1_224
  have bx1_224 : 0 ≤ x1_224 ∧ x1_224 ≤ 80 := by rw [ex1_224]; exact bm_c1_15.mp (hI.bx _ _)
  intro x2_225 ex2_225 rx2_225
  have bx2_225 : 0 ≤ x2_225 ∧ x2_225 ≤ 80 := by rw [ex2_225]; exact bm_c1_16.mp (hI.bx _ _)
  refine ⟨fun c => ?_, fun c => ?_⟩
  · exact hQ _ (by omega)
  · intro x4_228 ex4_228 rx4_228
    have bx4_228 : 0 ≤ x4_228 ∧ x4_228 ≤ 80 := by rw [ex4_228]; exact bm_c1_15.mp (hI.bx _ _)
    refine ⟨by omega, ?_⟩
    refine ⟨by omega, ?_⟩
    intro x7_229 ex7_229 rx7_229
    have bx7_229 : 0 ≤ x7_229 ∧ x7_229 ≤ 255 := by rw [ex7_229]; exact bm_c7.mp (hI.bx _ _)
    have cgx7_229 : x7_229 = M 7 (M 1 15) := by rw [ex7_229, ← ex4_228]
    refine sX12_in (p0 := x7_229) (p2 := 48) (p4 := 57) hI  ?_
    intro x8_230 p231 q232 q233
    refine ⟨fun c => ?_, fun c => ?_⟩
    · exact hQ _ (by omega)
    · exact hQ _ (by omega)
theorem sX12_number_L13 {p1 : Int}  {Q : Int → Mem → Prop} {b : Int} {M0 : Mem} (hp : 1 ≤ p1 ∧ p1 ≤ 3) (hQ : ∀ z : Int, ∀ M' : Mem, IM b M' → FrJ (fun k j => k = 1 ∧ j = 15) M0 M' → (-1 ≤ z ∧ z ≤ 999 ∧ (p1 = 1 → z ≤ 9) ∧ (p1 = 2 → z ≤ 99) ∧ M0 1 15 ≤ M' 1 15 ∧ (0 ≤ z → M0 1 15 + 1 ≤ M' 1 15) ∧ (M0 1 15 < M0 1 16 ∧ 48 ≤ M0 7 (M0 1 15) ∧ M0 7 (M0 1 15) ≤ 57 → 0 ≤ z)) → Q z M') : ∀ (n : Nat) (v2 v3 : Int) (M : Mem), IM (b) M → FrJ (fun k j => k = 1 ∧ j = 15) M0 M → (0 ≤ v3 ∧ v3 ≤ p1 ∧ 0 ≤ v2 ∧ (v3 = 0 → v2 = 0 ∧ M 1 15 < M 1 16 ∧ M 1 16 ≤ 80 ∧ 48 ≤ M 7 (M 1 15) ∧ M 7 (M 1 15) ≤ 57) ∧ (v3 = 1 → v2 ≤ 9) ∧ (v3 = 2 → v2 ≤ 99) ∧ v2 ≤ 999 ∧ M0 1 15 + v3 ≤ M 1 15) → 3 - v3 < (n : Int) → qX12_number_L13 p1 Q n v2 v3 M := by
  intro n
  induction n with
  | zero => intro v2 v3 M hI hF hv hm; exact absurd hm (by omega)
  | succ n ih =>
    intro v2 v3 M hI hF hv hm
    rw [qX12_number_L13]
    have hbn := hI.nn
    have u236 : 0 ≤ M 1 15 ∧ M 1 15 ≤ 80 := bm_c1_15.mp (hI.bx _ _)
    have u237 : 0 ≤ M 1 16 ∧ M 1 16 ≤ 80 := bm_c1_16.mp (hI.bx _ _)
    refine ⟨(by first | assumption | exact (by omega)), ?_⟩
    refine ⟨fun c => ?_, fun c => ?_⟩
    · refine ⟨(by first | assumption | exact (by omega)), ?_⟩
      have u239 : 0 ≤ M 1 15 ∧ M 1 15 ≤ 80 := bm_c1_15.mp (hI.bx _ _)
      exact hQ _ _ (hI.mono (by first | exact Int.le_refl _ | omega)) hF (by omega)
    · refine sX12_isDigit  hI  ?_
      intro x6_241 p242 q243 q244
      refine ⟨fun c => ?_, fun c => ?_⟩
      · refine ⟨(by first | assumption | exact (by omega)), ?_⟩
        have u246 : 0 ≤ M 1 15 ∧ M 1 15 ≤ 80 := bm_c1_15.mp (hI.bx _ _)
        exact hQ _ _ (hI.mono (by first | exact Int.le_refl _ | omega)) hF (by omega)
      · intro x9_248 ex9_248 rx9_248
        have bx9_248 : 0 ≤ x9_248 ∧ x9_248 ≤ 80 := by rw [ex9_248]; exact bm_c1_15.mp (hI.bx _ _)
        refine ⟨by omega, ?_⟩
        refine ⟨by omega, ?_⟩
        intro x12_249 ex12_249 rx12_249
        have bx12_249 : 0 ≤ x12_249 ∧ x12_249 ≤ 255 := by rw [ex12_249]; exact bm_c7.mp (hI.bx _ _)
        have cgx12_249 : x12_249 = M 7 (M 1 15) := by rw [ex12_249, ← ex9_248]
        intro x13_250 ex13_250 rx13_250
        have bx13_250 : 0 ≤ x13_250 ∧ x13_250 ≤ 80 := by rw [ex13_250]; exact bm_c1_15.mp (hI.bx _ _)
        refine ⟨(by first | assumption | exact (by omega)), ?_⟩
        intro M15_251 h_M15_251
        have hM15_251 : IM (b) M15_251 := by rw [h_M15_251]; exact hI.up (by omega) (bm_c1_15.mpr (by omega))
        have hFM15_251 : FrJ (fun k j => k = 1 ∧ j = 15) M0 M15_251 := by rw [h_M15_251]; exact (hF).up (by omega)
        have u252 : 0 ≤ M15_251 1 15 ∧ M15_251 1 15 ≤ 80 := bm_c1_15.mp (hM15_251.bx _ _)
        have t253 : M15_251 1 15 = x13_250 + 1 := by rw [h_M15_251, up2_s]
        exact ih _ _ _ (hM15_251.mono (by first | exact Int.le_refl _ | omega)) hFM15_251 (by omega) (by omega)
theorem sX12_number {p1 : Int} {b : Int} {M : Mem} {Q : Int → Mem → Prop} (hI : IM b M) (hp : 1 ≤ p1 ∧ p1 ≤ 3) (hQ : ∀ z : Int, ∀ M' : Mem, IM b M' → FrJ (fun k j => k = 1 ∧ j = 15) M M' → (-1 ≤ z ∧ z ≤ 999 ∧ (p1 = 1 → z ≤ 9) ∧ (p1 = 2 → z ≤ 99) ∧ M 1 15 ≤ M' 1 15 ∧ (0 ≤ z → M 1 15 + 1 ≤ M' 1 15) ∧ (M 1 15 < M 1 16 ∧ 48 ≤ M 7 (M 1 15) ∧ M 7 (M 1 15) ≤ 57 → 0 ≤ z)) → Q z M') : qX12_number p1 M Q := by
  unfold qX12_number
  have hbn := hI.nn
  have u254 : 0 ≤ M 1 15 ∧ M 1 15 ≤ 80 := bm_c1_15.mp (hI.bx _ _)
  have u255 : 0 ≤ M 1 16 ∧ M 1 16 ≤ 80 := bm_c1_16.mp (hI.bx _ _)
  refine sX12_isDigit  hI  ?_
  intro x1_256 p257 q258 q259
  refine ⟨fun c => ?_, fun c => ?_⟩
  · refine ⟨4, ?_⟩
    have u261 : 0 ≤ M 1 15 ∧ M 1 15 ≤ 80 := bm_c1_15.mp (hI.bx _ _)
    refine sX12_number_L13 (b := b) (p1 := p1) (M0 := M) hp ?_ _ _ _ _ (hI.mono (by first | exact Int.le_refl _ | omega)) FrJ.rf (by omega) (by omega)
    · exact hQ
  · have u263 : 0 ≤ M 1 15 ∧ M 1 15 ≤ 80 := bm_c1_15.mp (hI.bx _ _)
    exact hQ _ _ (hI.mono (by first | exact Int.le_refl _ | omega)) FrJ.rf (by omega)
theorem sX12_onCell_L5 {k1 : Nat} {p2 : Int}  {Q : Int → Mem → Prop} {b : Int} {M0 : Mem} (hk1 : isN k1) (hQ : ∀ z : Int, (-1 ≤ z ∧ z ≤ 5 ∧ (0 ≤ z → M0 k1 z = p2 ∧ z < M0 1 4)) → Q z M0) : ∀ (n : Nat) (v3 v4 : Int), IM (b) M0 → ((v3 = -1 ∨ 0 ≤ v3 ∧ v3 < M0 1 4 ∧ M0 k1 v3 = p2) ∧ -1 ≤ v3 ∧ v3 ≤ 5 ∧ 0 ≤ v4 ∧ v4 ≤ 6) → 6 - v4 < (n : Int) → qX12_onCell_L5 k1 p2 Q n v3 v4 M0 := by
  intro n
  induction n with
  | zero => intro v3 v4 hI hv hm; exact absurd hm (by omega)
  | succ n ih =>
    intro v3 v4 hI hv hm
    rw [qX12_onCell_L5]
    have hbn := hI.nn
    have ek1 : k1 = 5 ∨ k1 = 6 := hk1
    have u264 : 0 ≤ M0 1 4 ∧ M0 1 4 ≤ 6 := bm_c1_4.mp (hI.bx _ _)
    intro x1_265 ex1_265 rx1_265
    have bx1_265 : 0 ≤ x1_265 ∧ x1_265 ≤ 6 := by rw [ex1_265]; exact bm_c1_4.mp (hI.bx _ _)
    refine ⟨(by first | assumption | exact (by omega)), ?_⟩
    refine ⟨fun c => ?_, fun c => ?_⟩
    · refine ⟨(by first | assumption | exact (by omega)), ?_⟩
      exact hQ _ (by omega)
    · refine ⟨by omega, ?_⟩
      refine ⟨by omega, ?_⟩
      intro x7_268 ex7_268 rx7_268
      have rbx7_268 : -2147483648 ≤ x7_268 ∧ x7_268 ≤ 2147483647 := rx7_268
      have nbx7_268 : BN (b) v4 x7_268 := by rw [ex7_268]; exact (bm_n hk1).mp (hI.bx _ _)
      first | (have bx7_268 : -1 ≤ x7_268 ∧ x7_268 ≤ 29 := nbx7_268.1 (by omega)) | (have bx7_268 : -1 ≤ x7_268 ∧ x7_268 ≤ 29 := nbx7_268.2.1 (by omega)) | skip
      refine ⟨fun c => ?_, fun c => ?_⟩
      · exact ih _ _ (hI.mono (by first | exact Int.le_refl _ | omega)) (by omega) (by omega)
      · exact ih _ _ (hI.mono (by first | exact Int.le_refl _ | omega)) (by omega) (by omega)
theorem sX12_onCell {k1 : Nat} {p2 : Int} {b : Int} {M : Mem} {Q : Int → Mem → Prop} (hI : IM b M) (hk1 : isN k1) (hQ : ∀ z : Int, (-1 ≤ z ∧ z ≤ 5 ∧ (0 ≤ z → M k1 z = p2 ∧ z < M 1 4)) → Q z M) : qX12_onCell k1 p2 M Q := by
  unfold qX12_onCell
  have hbn := hI.nn
  have ek1 : k1 = 5 ∨ k1 = 6 := hk1
  have u271 : 0 ≤ M 1 4 ∧ M 1 4 ≤ 6 := bm_c1_4.mp (hI.bx _ _)
  refine ⟨7, ?_⟩
  refine sX12_onCell_L5 (b := b) (p2 := p2) (M0 := M) hk1 ?_ _ _ _ (hI.mono (by first | exact Int.le_refl _ | omega)) (by omega) (by omega)
  · exact hQ
theorem sX12_takes {p1 : Int} {b : Int} {M : Mem} {Q : Int → Mem → Prop} (hI : IM b M) (hQ : ∀ z : Int, ∀ M' : Mem, IM b M' → FrJ (fun k j => k = 1 ∧ j = 15) M M' → (M 1 15 ≤ M' 1 15 ∧ (z = 1 → M' 1 15 = M 1 15 + 1)) → Q z M') : qX12_takes p1 M Q := by
  unfold qX12_takes
  have hbn := hI.nn
  have u408 : 0 ≤ M 1 15 ∧ M 1 15 ≤ 80 := bm_c1_15.mp (hI.bx _ _)
  intro x1_409 ex1_409 rx1_409
  have bx1_409 : 0 ≤ x1_409 ∧ x1_409 ≤ 80 := by rw [ex1_409]; exact bm_c1_15.mp (hI.bx _ _)
  intro x2_410 ex2_410 rx2_410
  have bx2_410 : 0 ≤ x2_410 ∧ x2_410 ≤ 80 := by rw [ex2_410]; exact bm_c1_16.mp (hI.bx _ _)
  refine ⟨fun c => ?_, fun c => ?_⟩
  · unfold qX12_takes_J28
    unfold qX12_takes_J29
    intro x4_412 ex4_412 rx4_412
    have bx4_412 : 0 ≤ x4_412 ∧ x4_412 ≤ 80 := by rw [ex4_412]; exact bm_c1_15.mp (hI.bx _ _)
    refine ⟨(by first | assumption | exact (by omega)), ?_⟩
    refine sX12_flag (p0 := 0) hI  ?_
    intro x6_413 p414 q415
    refine ⟨(by first | assumption | exact (by omega)), ?_⟩
    intro M8_416 h_M8_416
    have hM8_416 : IM (b) M8_416 := by rw [h_M8_416]; exact hI.up (by omega) (bm_c1_15.mpr (by omega))
    have hFM8_416 : FrJ (fun k j => k = 1 ∧ j = 15) M M8_416 := by rw [h_M8_416]; exact (FrJ.rf).up (by omega)
    refine ⟨by omega, ?_⟩
    have u417 : 0 ≤ M8_416 1 15 ∧ M8_416 1 15 ≤ 80 := bm_c1_15.mp (hM8_416.bx _ _)
    have t418 : M8_416 1 15 = x4_412 + x6_413 := by rw [h_M8_416, up2_s]
    exact hQ _ _ (hM8_416.mono (by first | exact Int.le_refl _ | omega)) hFM8_416 (by omega)
  · intro x10_420 ex10_420 rx10_420
    have bx10_420 : 0 ≤ x10_420 ∧ x10_420 ≤ 80 := by rw [ex10_420]; exact bm_c1_15.mp (hI.bx _ _)
    refine ⟨by omega, ?_⟩
    refine ⟨by omega, ?_⟩
    intro x13_421 ex13_421 rx13_421
    have bx13_421 : 0 ≤ x13_421 ∧ x13_421 ≤ 255 := by rw [ex13_421]; exact bm_c7.mp (hI.bx _ _)
    have cgx13_421 : x13_421 = M 7 (M 1 15) := by rw [ex13_421, ← ex10_420]
    refine ⟨fun c => ?_, fun c => ?_⟩
    · unfold qX12_takes_J28
      unfold qX12_takes_J29
      intro x4_423 ex4_423 rx4_423
      have bx4_423 : 0 ≤ x4_423 ∧ x4_423 ≤ 80 := by rw [ex4_423]; exact bm_c1_15.mp (hI.bx _ _)
      refine ⟨(by first | assumption | exact (by omega)), ?_⟩
      refine sX12_flag (p0 := 0) hI  ?_
      intro x6_424 p425 q426
      refine ⟨(by first | assumption | exact (by omega)), ?_⟩
      intro M8_427 h_M8_427
      have hM8_427 : IM (b) M8_427 := by rw [h_M8_427]; exact hI.up (by omega) (bm_c1_15.mpr (by omega))
      have hFM8_427 : FrJ (fun k j => k = 1 ∧ j = 15) M M8_427 := by rw [h_M8_427]; exact (FrJ.rf).up (by omega)
      refine ⟨by omega, ?_⟩
      have u428 : 0 ≤ M8_427 1 15 ∧ M8_427 1 15 ≤ 80 := bm_c1_15.mp (hM8_427.bx _ _)
      have t429 : M8_427 1 15 = x4_423 + x6_424 := by rw [h_M8_427, up2_s]
      exact hQ _ _ (hM8_427.mono (by first | exact Int.le_refl _ | omega)) hFM8_427 (by omega)
    · unfold qX12_takes_J29
      intro x4_431 ex4_431 rx4_431
      have bx4_431 : 0 ≤ x4_431 ∧ x4_431 ≤ 80 := by rw [ex4_431]; exact bm_c1_15.mp (hI.bx _ _)
      refine ⟨(by first | assumption | exact (by omega)), ?_⟩
      refine sX12_flag (p0 := 1) hI  ?_
      intro x6_432 p433 q434
      refine ⟨(by first | assumption | exact (by omega)), ?_⟩
      intro M8_435 h_M8_435
      have hM8_435 : IM (b) M8_435 := by rw [h_M8_435]; exact hI.up (by omega) (bm_c1_15.mpr (by omega))
      have hFM8_435 : FrJ (fun k j => k = 1 ∧ j = 15) M M8_435 := by rw [h_M8_435]; exact (FrJ.rf).up (by omega)
      refine ⟨by omega, ?_⟩
      have u436 : 0 ≤ M8_435 1 15 ∧ M8_435 1 15 ≤ 80 := bm_c1_15.mp (hM8_435.bx _ _)
      have t437 : M8_435 1 15 = x4_431 + x6_432 := by rw [h_M8_435, up2_s]
      exact hQ _ _ (hM8_435.mono (by first | exact Int.le_refl _ | omega)) hFM8_435 (by omega)
end
section
/-- the owners that are read -/
def RO (M : Mem) : Prop := ∀ i, 0 ≤ i → i < M 1 20 → 0 ≤ M 9 (2 * i + 1) ∧ M 9 (2 * i + 1) ≤ 5
theorem RO.fr {M M' : Mem} (h : RO M) (h1 : M' 1 20 = M 1 20) (h2 : ∀ j, M' 9 j = M 9 j) : RO M' := by
  intro i hi hl
  rw [h2]
  exact h i hi (by rw [← h1]; exact hl)
theorem dpc_le (f : Int → Int) (n : Nat) : dpc f n ≤ n := by
  induction n with
  | zero => exact Int.le_refl _
  | succ n ih =>
    unfold dpc
    split
    · omega
    · split <;> omega
theorem dpc_nn {f : Int → Int} {m : Int} (h : WFC f m) (n : Nat) (hn : (n : Int) ≤ m) : 0 ≤ dpc f n := by
  induction n with
  | zero => exact Int.le_refl _
  | succ n ih =>
    have i := ih (by omega)
    obtain ⟨a, b, _⟩ := h n (by omega)
    unfold dpc
    split
    · omega
    · rename_i c
      split
      · omega
      · have := b (by omega) c
        omega
theorem dpc_cg {f g : Int → Int} (n : Nat) (h : ∀ j : Int, 0 ≤ j → j < n → f j = g j) : dpc f n = dpc g n := by
  induction n with
  | zero => rfl
  | succ n ih =>
    unfold dpc
    rw [ih (fun j a b => h j a (by omega)), h n (by omega) (by omega)]
theorem WFC.cg {f g : Int → Int} {n : Int} (w : WFC g n) (h : ∀ j : Int, 0 ≤ j → j < n → f j = g j) : WFC f n := by
  intro j hj
  have hd := dpc_cg j (f := f) (g := g) (fun i a b => h i a (by omega))
  rw [hd, h j (by omega) hj]
  exact w j hj
theorem sX12_laysCode_L7 {k1 : Nat} {p2 : Int} {Q : Mem → Prop} {b : Int} {M0 : Mem} (hp : 0 ≤ p2 ∧ p2 ≤ 80) (hk : k1 ≠ 11) (hQ : ∀ M' : Mem, IB b M' → M' 1 24 = p2 → (∀ j, 0 ≤ j → j < p2 → M' 11 j = M0 k1 j) → FrJ (fun k j => k = 11 ∨ k = 1 ∧ j = 24) M0 M' → Q M') : ∀ (n : Nat) (v3 : Int) (M : Mem), IB b M → M 1 24 = p2 → (∀ j, 0 ≤ j → j < v3 → M 11 j = M0 k1 j) → (∀ j, M k1 j = M0 k1 j) → FrJ (fun k j => k = 11 ∨ k = 1 ∧ j = 24) M0 M → (0 ≤ v3 ∧ v3 ≤ p2) → p2 - v3 < (n : Int) → qX12_laysCode_L7 k1 p2 Q n v3 M := by
  intro n
  induction n with
  | zero => intro v3 M hI h24 h1 h2 hF hv hm; exact absurd hm (by omega)
  | succ n ih =>
    intro v3 M hI h24 h1 h2 hF hv hm
    rw [qX12_laysCode_L7]
    refine ⟨(by omega), ⟨fun c => hQ _ hI h24 (fun j a q => h1 j a (by omega)) hF, fun c => ⟨by omega, by omega, ?_⟩⟩⟩
    intro x6 e6 _ M7 h7
    refine ih _ _ (by rw [h7]; exact hI.up (by simp [BM])) (by rw [h7, up2_n (by decide)]; exact h24) ?_ (fun j => by rw [h7, up2_n hk]; exact h2 j) (by rw [h7]; exact hF.up (Or.inl rfl)) (by omega) (by omega)
    intro j a q
    rw [h7]
    by_cases cj : j = v3
    · rw [cj, up2_s, e6, h2]
    · rw [up2_j cj]; exact h1 j a (by omega)
theorem sX12_laysCode {k1 : Nat} {p2 : Int} {b : Int} {M : Mem} {Q : Mem → Prop} (hI : IM b M) (hp : 0 ≤ p2 ∧ p2 ≤ 80) (hk : k1 ≠ 11 ∧ k1 ≠ 1) (hw : WFC (M k1) p2) (hQ : ∀ M' : Mem, IM b M' → FrJ (fun k j => k = 11 ∨ k = 1 ∧ j = 24) M M' → Q M') : qX12_laysCode k1 p2 M Q := by
  unfold qX12_laysCode
  intro M1 h1
  refine ⟨81, sX12_laysCode_L7 (b := b) (M0 := M) hp hk.1 ?_ _ _ _ (by rw [h1]; exact hI.1.up (bm_c1_24.mpr hp)) (by rw [h1, up2_s]) (fun j a q => by omega) (fun j => by rw [h1, up2_n hk.2]) (by rw [h1]; exact FrJ.rf.up (Or.inr ⟨rfl, rfl⟩)) (by omega) (by omega)⟩
  intro M' h' h24 hj hF
  refine hQ _ ⟨h', ?_⟩ hF
  rw [h24]
  exact hw.cg hj
theorem WFC.add {f g : Int → Int} {n v : Int} (w : WFC f n) (hn : 0 ≤ n) (hv : (v = 3000 → 1 ≤ dpc f n.toNat) ∧ (2000 ≤ v → v ≠ 3000 → 2 ≤ dpc f n.toNat) ∧ (1000 ≤ v → v < 2000 → v < 1007)) (hg : ∀ j, 0 ≤ j → j < n → g j = f j) (hgn : g n = v) : WFC g (n + 1) ∧ dpc g (n + 1).toNat = dpc f n.toNat + (if v = 3000 then 0 else if v < 2000 then 1 else -1) := by
  have hd : dpc g n.toNat = dpc f n.toNat := dpc_cg _ (fun j a b => hg j a (by omega))
  refine ⟨?_, ?_⟩
  · intro j hj
    by_cases c : (j : Int) < n
    · exact (w.cg hg) j c
    · have ej : j = n.toNat := by omega
      have ec : ((n.toNat : Nat) : Int) = n := by omega
      rw [ej, ec, hgn, hd]
      exact hv
  · rw [show (n + 1).toNat = n.toNat + 1 from by omega]
    show dpc g n.toNat + (if g (n.toNat : Nat) = 3000 then 0 else if g (n.toNat : Nat) < 2000 then 1 else -1) = _
    rw [show ((n.toNat : Nat) : Int) = n from by omega, hgn, hd]
theorem sX12_codes {p1 : Int} {b : Int} {M : Mem} {Q : Mem → Prop} (hI : IM b M) (hp : M 1 25 ≤ 79) (hQ : ∀ M' : Mem, IM b M' → M' 1 25 = M 1 25 + 1 → M' 1 15 = M 1 15 → M' 1 17 = M 1 17 → (∀ j, j ≠ M 1 25 → M' 12 j = M 12 j) → M' 12 (M 1 25) = p1 → Q M') : qX12_codes p1 M Q := by
  unfold qX12_codes
  intro x1 e1 _
  have b1 : 0 ≤ x1 ∧ x1 ≤ 80 := by rw [e1]; exact bm_c1_25.mp (hI.bx _ _)
  refine ⟨by omega, by omega, ?_⟩
  intro M4 h4 x5 e5 _
  have f5 : x5 = x1 := by rw [e5, h4, up2_n (by decide), e1]
  refine ⟨(by omega), ?_⟩
  intro M7 h7
  have i4 : IM b M4 := by rw [h4]; exact hI.up (by omega) (by simp [BM])
  refine hQ _ (by rw [h7]; exact i4.up (by omega) (bm_c1_25.mpr (by omega))) (by rw [h7, up2_s, f5, e1]) (by rw [h7, up2_j (by decide), h4, up2_n (by decide)]) (by rw [h7, up2_j (by decide), h4, up2_n (by decide)]) ?_ ?_
  · intro j hj
    rw [h7, up2_n (by decide), h4, up2_j (by rw [e1]; exact hj)]
  · rw [h7, up2_n (by decide), h4, ← e1, up2_s]
/-- what is asked of the code that is being read -/
def RQ (b : Int) (M : Mem) : Prop := IM b M ∧ WFC (M 12) (M 1 25) ∧ M 1 25 ≤ M 1 15 ∧ 0 ≤ M 1 17 ∧ M 1 17 ≤ 4
/-- what stands behind a piece that was read -/
def RP (b : Int) (M M' : Mem) (z : Int) : Prop := IM b M' ∧ M 1 15 ≤ M' 1 15 ∧ M' 1 25 - M 1 25 ≤ M' 1 15 - M 1 15 ∧ (z = 1 → M' 1 17 = M 1 17 ∧ WFC (M' 12) (M' 1 25) ∧ dpc (M' 12) (M' 1 25).toNat = dpc (M 12) (M 1 25).toNat + 1)
theorem sX12_reads : ∀ (d t : Nat) (p1 b : Int) (M : Mem) (Q : Int → Mem → Prop), RQ b M → (0 ≤ p1 ∧ p1 ≤ 3) → (80 - M 1 15) + 6 * (4 - M 1 17) + 1 + (if t = 0 then 0 else 4 - p1) ≤ (d : Int) → (∀ (z : Int) (M' : Mem), (z = 0 ∨ z = 1) → RP b M M' z → iR z → Q z M') → qX12_reads d t p1 M Q := by
  intro d
  induction d with
  | zero =>
    intro t p1 b M Q hR hp hm hQ
    exfalso
    have b15 := bm_c1_15.mp (hR.1.bx 1 15)
    have h4 := hR.2.2.2.2
    split at hm <;> omega
  | succ d ih =>
    intro t p1 b M Q hR hp hm hQ
    obtain ⟨hI, hW, hc, hn0, hn4⟩ := hR
    have b15 := bm_c1_15.mp (hI.bx 1 15)
    have b25 := bm_c1_25.mp (hI.bx 1 25)
    have d0 := dpc_nn hW (M 1 25).toNat (by omega)
    have r0 : ∀ z : Int, (z = 0 ∨ z = 1) → iR z := fun z h => (by omega)
    cases t with
    | zero =>
      rw [if_pos rfl] at hm
      show bX12_readsThing (qX12_reads d) M Q
      unfold bX12_readsThing
      refine sX12_takes (p1 := 45) hI ?_
      intro x1 M1 h1 g1 p1' _ q1
      have c1 : M1 1 25 = M 1 25 := g1 1 25 (by omega)
      have n1 : M1 1 17 = M 1 17 := g1 1 17 (by omega)
      have w1 : M1 12 = M 12 := funext fun j => g1 12 j (by omega)
      refine ⟨fun k1 => ?_, fun k1 => ?_⟩
      · refine sX12_isDigit h1 ?_
        intro x3 p3 _ _
        refine ⟨fun k3 => ?_, fun k3 => ?_⟩
        · refine sX12_takesOf h1 (by decide) ?_
          intro x5 M5 h5 g5 p5 _
          have c5 : M5 1 25 = M1 1 25 := g5 1 25 (by omega)
          have n5 : M5 1 17 = M1 1 17 := g5 1 17 (by omega)
          have w5 : M5 12 = M1 12 := funext fun j => g5 12 j (by omega)
          refine ⟨fun k5 => ?_, fun k5 => ?_⟩
          · intro x7 e7 _
            refine ⟨fun k7 => hQ _ _ (Or.inl rfl) ⟨h5, by omega, by omega, fun q => absurd q (by decide)⟩ (by decide), fun k7 => ?_⟩
            refine sX12_takes (p1 := 40) h5 ?_
            intro x9 M9 h9 g9 p9 _ q9
            have c9 : M9 1 25 = M5 1 25 := g9 1 25 (by omega)
            have n9 : M9 1 17 = M5 1 17 := g9 1 17 (by omega)
            have w9 : M9 12 = M5 12 := funext fun j => g9 12 j (by omega)
            refine ⟨fun k9 => ?_, fun k9 => hQ _ _ (Or.inl rfl) ⟨h9, by omega, by omega, fun q => absurd q (by decide)⟩ (by decide)⟩
            have p9' := p9.2 (by omega)
            intro x11 e11 _
            refine ⟨(by omega), ?_⟩
            intro M13 h13
            have i13 : IM b M13 := by rw [h13]; exact h9.up (by omega) (by simp [BM])
            have c13 : M13 1 25 = M9 1 25 := by rw [h13, up2_j (by decide)]
            have a13 : M13 1 15 = M9 1 15 := by rw [h13, up2_j (by decide)]
            have n13 : M13 1 17 = M9 1 17 + 1 := by rw [h13, up2_s, e11]
            have w13 : M13 12 = M9 12 := by rw [h13, up2_n (by decide)]
            have e13 : M13 12 = M 12 := by rw [w13, w9, w5, w1]
            have e25 : M13 1 25 = M 1 25 := by omega
            refine ih 1 0 b M13 _ ⟨i13, by rw [e13, e25]; exact hW, by omega, by omega, by omega⟩ (by omega) (by rw [if_neg (by decide)]; omega) ?_
            intro x14 M14 z14 r14 _ _ q14
            refine ⟨fun k14 => hQ _ _ (Or.inl rfl) ⟨r14.1, by have := r14.2.1; omega, by have := r14.2.2.1; omega, fun q => absurd q (by decide)⟩ (by decide), fun k14 => ?_⟩
            obtain ⟨i14, a14, s14, t14⟩ := r14
            obtain ⟨n14, w14, d14⟩ := t14 (by omega)
            refine sX12_takes (p1 := 41) i14 ?_
            intro x16 M16 h16 g16 p16 _ q16
            have c16 : M16 1 25 = M14 1 25 := g16 1 25 (by omega)
            have n16 : M16 1 17 = M14 1 17 := g16 1 17 (by omega)
            have w16 : M16 12 = M14 12 := funext fun j => g16 12 j (by omega)
            refine ⟨fun k16 => ?_, fun k16 => hQ _ _ (Or.inl rfl) ⟨h16, by omega, by omega, fun q => absurd q (by decide)⟩ (by decide)⟩
            intro x18 e18 _
            refine ⟨(by omega), ?_⟩
            intro M20 h20
            have a20 : M20 1 15 = M16 1 15 := by rw [h20, up2_j (by decide)]
            have c20 : M20 1 25 = M16 1 25 := by rw [h20, up2_j (by decide)]
            have n20 : M20 1 17 = x18 - 1 := by rw [h20, up2_s]
            have w20 : M20 12 = M14 12 := by rw [h20, up2_n (by decide), w16]
            refine hQ _ _ (Or.inr rfl) ⟨by rw [h20]; exact h16.up (by omega) (by simp [BM]), by omega, by omega, fun _ => ⟨by omega, ?_, ?_⟩⟩ (by decide)
            · rw [w20, c20, c16]; exact w14
            · rw [w20, c20, c16, d14, e13, e25]
          · refine ⟨(by omega), ?_⟩
            have p5' := p5.2.2.2.2 (by omega)
            have bb5 := bm_c1_15.mp (h5.bx 1 15)
            refine sX12_codes h5 (by omega) ?_
            intro M22 h22 c22 a22 n22 j22 v22
            have e5 : M5 12 = M 12 := by rw [w5, w1]
            have e25 : M5 1 25 = M 1 25 := by omega
            have A := hW.add (g := M22 12) (v := 1000 + x5) b25.1 ⟨by omega, by omega, by omega⟩ (fun j a q => by rw [j22 j (by omega), e5]) (by rw [← e25]; exact v22)
            rw [if_neg (by omega), if_pos (by omega)] at A
            have e22 : M22 1 25 = M 1 25 + 1 := by omega
            exact hQ _ _ (Or.inr rfl) ⟨h22, by omega, by omega, fun _ => ⟨by omega, by rw [e22]; exact A.1, by rw [e22]; exact A.2⟩⟩ (by decide)
        · refine sX12_number (p1 := 3) h1 (by omega) ?_
          intro x23 M23 h23 g23 p23 _
          have c23 : M23 1 25 = M1 1 25 := g23 1 25 (by omega)
          have n23 : M23 1 17 = M1 1 17 := g23 1 17 (by omega)
          have w23 : M23 12 = M1 12 := funext fun j => g23 12 j (by omega)
          have dg := p3.1 (by omega)
          have z23 := p23.2.2.2.2.2.2 ⟨dg.1, dg.2.2.1, dg.2.2.2⟩
          have a23 := p23.2.2.2.2.2.1 z23
          have bb23 := bm_c1_15.mp (h23.bx 1 15)
          refine sX12_codes h23 (by omega) ?_
          intro M24 h24 c24 a24 n24 j24 v24
          have e25 : M23 1 25 = M 1 25 := by omega
          have A := hW.add (g := M24 12) (v := x23) b25.1 ⟨by omega, by omega, by omega⟩ (fun j a q => by rw [j24 j (by omega), w23, w1]) (by rw [← e25]; exact v24)
          rw [if_neg (by omega), if_pos (by omega)] at A
          have e24 : M24 1 25 = M 1 25 + 1 := by omega
          exact hQ _ _ (Or.inr rfl) ⟨h24, by omega, by omega, fun _ => ⟨by omega, by rw [e24]; exact A.1, by rw [e24]; exact A.2⟩⟩ (by decide)
      · have p1'' := p1'.2 (by omega)
        have e1 : M1 1 25 = M 1 25 := c1
        refine ih 0 0 b M1 _ ⟨h1, by rw [w1, e1]; exact hW, by omega, by omega, by omega⟩ (by omega) (by rw [if_pos rfl]; omega) ?_
        intro x25 M25 z25 r25 _ _ q25
        obtain ⟨i25, a25, s25, t25⟩ := r25
        refine sX12_codes i25 (by have := bm_c1_15.mp (i25.bx 1 15); omega) ?_
        intro M26 h26 c26 a26 n26 j26 v26
        refine ⟨q25, hQ _ _ q25 ⟨h26, by omega, by omega, fun q => ?_⟩ (r0 _ q25)⟩
        obtain ⟨n25, w25, d25⟩ := t25 q
        have bb := bm_c1_25.mp (i25.bx 1 25)
        rw [w1, e1] at d25
        have A := w25.add (g := M26 12) (v := 3000) bb.1 ⟨by omega, by omega, by omega⟩ (fun j a q => j26 j (by omega)) v26
        rw [if_pos rfl] at A
        rw [c26]
        exact ⟨by omega, A.1, by rw [A.2, d25]; omega⟩
    | succ t =>
      rw [if_neg (by omega)] at hm
      show bX12_readsRank (qX12_reads d) p1 M Q
      unfold bX12_readsRank
      refine ⟨fun k1 => ⟨(by omega), ?_⟩, fun k1 => ?_⟩
      · refine ih 1 (p1 + 1) b M _ ⟨hI, hW, hc, hn0, hn4⟩ (by omega) (by rw [if_neg (by decide)]; omega) ?_
        intro x3 M3 z3 r3 _ _ q3
        refine ⟨fun k3 => ?_, fun k3 => hQ _ _ (Or.inl rfl) ⟨r3.1, r3.2.1, r3.2.2.1, fun q => absurd q (by decide)⟩ (by decide)⟩
        rw [show x3 = 1 from by omega] at r3
        have loop : ∀ (n : Nat) (v2 : Int) (M4 : Mem), (v2 = 0 ∨ v2 = 1) → RP b M M4 1 → 2 * (80 - M4 1 15) + v2 < (n : Int) → qX12_readsRank_L24 (qX12_reads d) p1 Q n v2 M4 := by
          intro n
          induction n with
          | zero => intro v2 M4 hv hr hm2; exact absurd hm2 (by have := bm_c1_15.mp (hr.1.bx 1 15); omega)
          | succ n ihn =>
            intro v2 M4 hv hr hm2
            have hr0 := hr
            obtain ⟨i4, a4, s4, t4⟩ := hr
            obtain ⟨n4, w4, d4⟩ := t4 rfl
            have bb4 := bm_c1_15.mp (i4.bx 1 15)
            rw [qX12_readsRank_L24]
            refine ⟨r0 _ hv, ⟨fun k4 => hQ _ _ (Or.inr rfl) hr0 (by decide), fun k4 => ?_⟩⟩
            have J : ∀ (t0 : Nat), t0 < 9 → ((bS t0).length : Int) ≤ 3 → qX12_readsRank_J50 (qX12_reads d) p1 (qX12_readsRank_L24 (qX12_reads d) p1 Q n) Q t0 M4 := by
              intro t0 ht hl
              unfold qX12_readsRank_J50
              refine ⟨ht, ?_⟩
              refine sX12_takesOf i4 (by omega) ?_
              intro x9 M9 h9 g9 p9 _
              have c9 : M9 1 25 = M4 1 25 := g9 1 25 (by omega)
              have n9 : M9 1 17 = M4 1 17 := g9 1 17 (by omega)
              have w9 : M9 12 = M4 12 := funext fun j => g9 12 j (by omega)
              refine ⟨fun k9 => ⟨(by omega), ?_⟩, fun k9 => hQ _ _ (Or.inr rfl) ⟨h9, by omega, by omega, fun _ => ⟨by omega, by rw [w9, c9]; exact w4, by rw [w9, c9]; exact d4⟩⟩ (by decide)⟩
              have p9' := p9.2.2.2.2 k9
              refine ih 1 (p1 + 1) b M9 _ ⟨h9, by rw [w9, c9]; exact w4, by omega, by omega, by omega⟩ (by omega) (by rw [if_neg (by decide)]; omega) ?_
              intro x13 M13 z13 r13 _ _ q13
              obtain ⟨i13, a13, s13, t13⟩ := r13
              refine ⟨fun k13 => ?_, fun k13 => hQ _ _ (Or.inl rfl) ⟨i13, by omega, by omega, fun q => absurd q (by decide)⟩ (by decide)⟩
              obtain ⟨n13, w13, d13⟩ := t13 (by omega)
              rw [w9, c9] at d13
              have J96 : ∀ t1 : Int, (0 ≤ t1 ∧ t1 ≤ 5) → qX12_readsRank_J96 (qX12_reads d) p1 (qX12_readsRank_L24 (qX12_reads d) p1 Q n) Q t1 (2000 + x9) M13 := by
                intro t1 ht1
                unfold qX12_readsRank_J96
                refine ⟨(by omega), ?_⟩
                refine sX12_codes i13 (by have := bm_c1_15.mp (i13.bx 1 15); omega) ?_
                intro M18 h18 c18 a18 n18 j18 v18
                have bb := bm_c1_25.mp (i13.bx 1 25)
                have bb9 := bm_c1_15.mp (h9.bx 1 15)
                have A := w13.add (g := M18 12) (v := 2000 + x9 + t1) bb.1 ⟨by omega, by omega, by omega⟩ (fun j a q => j18 j (by omega)) v18
                rw [if_neg (by omega), if_neg (by omega)] at A
                have hr18 : RP b M M18 1 := ⟨h18, by omega, by omega, fun _ => ⟨by omega, by rw [c18]; exact A.1, by rw [c18, A.2, d13, d4]; omega⟩⟩
                refine ⟨fun _ => ihn _ _ (Or.inl rfl) hr18 (by omega), fun _ => ihn _ _ (Or.inr rfl) hr18 (by omega)⟩
              refine ⟨fun _ => ⟨fun _ => J96 _ (by omega), fun _ => J96 _ (by omega)⟩, fun _ => J96 _ (by omega)⟩
            refine ⟨fun _ => ⟨fun _ => J 7 (by decide) (by decide), fun _ => J 6 (by decide) (by decide)⟩, fun _ => J 5 (by decide) (by decide)⟩
        exact ⟨162, loop _ _ _ (Or.inr rfl) r3 (by have := bm_c1_15.mp (r3.1.bx 1 15); omega)⟩
      · refine ih 0 0 b M _ ⟨hI, hW, hc, hn0, hn4⟩ (by omega) (by rw [if_pos rfl]; omega) ?_
        intro x21 M21 z21 r21 _ _ q21
        exact ⟨q21, hQ _ _ q21 r21 (r0 _ q21)⟩
theorem sX12_readsRule {b : Int} {M : Mem} {Q : Int → Mem → Prop} (hI : IM b M) (hQ : ∀ z : Int, ∀ M' : Mem, IM b M' → (-100 ≤ z ∧ z ≤ 0) → (z = 0 → WFC (M' 12) (M' 1 25)) → Q z M') : qX12_readsRule M Q := by
  unfold qX12_readsRule
  refine sX12_begins (p1 := 40) hI (by omega) ?_
  intro x1 M1 h1 g1 p1 _ M2 h2
  have i2 : IM b M2 := by rw [h2]; exact h1.up (by omega) (bm_c1_25.mpr (by decide))
  have c2 : M2 1 25 = 0 := by rw [h2, up2_s]
  have w2 : WFC (M2 12) (M2 1 25) := by rw [c2]; intro j hj; omega
  have a2 : M2 1 15 = 0 := by rw [h2, up2_j (by decide)]; exact p1.2.2.1
  have J29 : ∀ (t0 : Int) (M3 : Mem), IM b M3 → (t0 = 0 ∨ t0 = 1) → (t0 = 1 → WFC (M3 12) (M3 1 25)) → qX12_readsRule_J29 Q x1 t0 M3 := by
    intro t0 M3 i3 h0 w3
    unfold qX12_readsRule_J29
    refine ⟨(by omega), (by omega), ?_⟩
    refine sX12_faultOf (p1 := x1) (p2 := 40) (p3 := t0) i3 (by omega) ?_
    intro x6 p6 _
    exact hQ _ _ i3 ⟨p6.1, p6.2.1⟩ (fun q => w3 (by omega))
  refine ⟨fun k1 => ?_, fun k1 => ⟨140, by omega, ?_⟩⟩
  · unfold qX12_readsRule_J24
    exact J29 _ _ i2 (Or.inr rfl) (fun _ => w2)
  · have n2 : M2 1 17 = 0 := by
      rw [h2, up2_j (by decide)]
      exact p1.2.2.2.2.1
    show qX12_reads 140 1 0 M2 _
    refine sX12_reads 140 1 0 b M2 _ ⟨i2, w2, by omega, by omega, by omega⟩ (by omega) (by rw [if_neg (by decide)]; omega) ?_
    intro x7 M7 z7 r7 _ _ q7
    refine ⟨fun k7 => J29 _ _ r7.1 (Or.inl rfl) (fun q => absurd q (by decide)), fun k7 => ?_⟩
    unfold qX12_readsRule_J24
    exact J29 _ _ r7.1 (Or.inr rfl) (fun _ => (r7.2.2.2 (by omega)).2.1)
theorem sX12_bitsBy_L6 {k1 : Nat} {p2 : Int} {p3 : Int}  {Q : Int → Mem → Prop} {b : Int} {M0 : Mem} (hk1 : isN k1) (hp : 0 ≤ p2 ∧ p2 ≤ 29) (hQ : ∀ z : Int, Q z M0) : ∀ (n : Nat) (v4 v5 : Int), IM (b) M0 → (0 ≤ v5 ∧ v5 ≤ 8) → iR v4 → 8 - v5 < (n : Int) → qX12_bitsBy_L6 k1 p2 p3 Q n v4 v5 M0 := by
  intro n
  induction n with
  | zero => intro v4 v5 hI hv hrv4 hm; exact absurd hm (by omega)
  | succ n ih =>
    intro v4 v5 hI hv hrv4 hm
    rw [qX12_bitsBy_L6]
    have hbn := hI.nn
    have ek1 : k1 = 5 ∨ k1 = 6 := hk1
    intro x1_568 ex1_568 rx1_568
    have bx1_568 : 0 ≤ x1_568 ∧ x1_568 ≤ 8 := by rw [ex1_568]; exact bm_c1_5.mp (hI.bx _ _)
    refine ⟨(by first | assumption | exact (by omega)), ?_⟩
    refine ⟨fun c => ?_, fun c => ?_⟩
    · refine ⟨(by first | assumption | exact (by omega)), ?_⟩
      exact hQ _
    · refine ⟨by omega, ?_⟩
      refine ⟨by omega, ?_⟩
      intro x7_571 ex7_571 rx7_571
      have rbx7_571 : -2147483648 ≤ x7_571 ∧ x7_571 ≤ 2147483647 := rx7_571
      have nbx7_571 : BN (b) (p2 + v5) x7_571 := by rw [ex7_571]; exact (bm_n hk1).mp (hI.bx _ _)
      first | (have bx7_571 : -1 ≤ x7_571 ∧ x7_571 ≤ 29 := nbx7_571.1 (by omega)) | (have bx7_571 : -1 ≤ x7_571 ∧ x7_571 ≤ 29 := nbx7_571.2.1 (by omega)) | skip
      refine ⟨fun c => ?_, fun c => ?_⟩
      · intro x9_573 ex9_573 rx9_573
        first | (have fx9_573 := oI_64 (a := v4) (b := 0) (by omega) (by omega); rw [← ex9_573] at fx9_573) | skip
        exact ih _ _ (hI.mono (by first | exact Int.le_refl _ | omega)) (by omega) (by first | assumption | exact (by omega)) (by omega)
      · intro x10_575 ex10_575 rx10_575
        first | (have fx10_575 := slI_1 (b := v5) (by omega); rw [← ex10_575] at fx10_575) | skip
        intro x11_576 ex11_576 rx11_576
        first | (have fx11_576 := oI_64 (a := v4) (b := x10_575) (by omega) (by omega); rw [← ex11_576] at fx11_576) | skip
        exact ih _ _ (hI.mono (by first | exact Int.le_refl _ | omega)) (by omega) (by first | assumption | exact (by omega)) (by omega)
theorem sX12_bitsBy {k1 : Nat} {p2 : Int} {p3 : Int} {b : Int} {M : Mem} {Q : Int → Mem → Prop} (hI : IM b M) (hk1 : isN k1) (hp : 0 ≤ p2 ∧ p2 ≤ 29) (hQ : ∀ z : Int, Q z M) : qX12_bitsBy k1 p2 p3 M Q := by
  unfold qX12_bitsBy
  have hbn := hI.nn
  have ek1 : k1 = 5 ∨ k1 = 6 := hk1
  refine ⟨9, ?_⟩
  refine sX12_bitsBy_L6 (b := b) (p2 := p2) (p3 := p3) (M0 := M) hk1 hp ?_ _ _ _ (hI.mono (by first | exact Int.le_refl _ | omega)) (by omega) (by first | assumption | exact (by omega)) (by omega)
  · exact hQ
theorem sX12_isHearse {p1 : Int} {b : Int} {M : Mem} {Q : Int → Mem → Prop} (hI : IM b M) (hQ : ∀ z : Int, (¬ z = 0 → 0 ≤ p1 ∧ p1 ≤ 5) → Q z M) : qX12_isHearse p1 M Q := by
  unfold qX12_isHearse
  have hbn := hI.nn
  intro x1_577 ex1_577 rx1_577
  have bx1_577 : 0 ≤ x1_577 ∧ x1_577 ≤ 6 := by rw [ex1_577]; exact bm_c1_4.mp (hI.bx _ _)
  refine ⟨(by first | assumption | exact (by omega)), ?_⟩
  refine sX12_in (p0 := p1) (p2 := 0) (p4 := x1_577 - 1) hI  ?_
  intro x3_578 p579 q580 q581
  refine ⟨by omega, ?_⟩
  exact hQ _ (by omega)
theorem sX12_owners_L4 {p1 : Int}  {Q : Int → Mem → Prop} {b : Int} {M0 : Mem} (hQ : ∀ z : Int, Q z M0) : ∀ (n : Nat) (v2 v3 : Int), IM (b) M0 → (0 ≤ v3 ∧ v3 ≤ 8) → iR v2 → 8 - v3 < (n : Int) → qX12_owners_L4 p1 Q n v2 v3 M0 := by
  intro n
  induction n with
  | zero => intro v2 v3 hI hv hrv2 hm; exact absurd hm (by omega)
  | succ n ih =>
    intro v2 v3 hI hv hrv2 hm
    rw [qX12_owners_L4]
    have hbn := hI.nn
    intro x1_582 ex1_582 rx1_582
    have bx1_582 : 0 ≤ x1_582 ∧ x1_582 ≤ 8 := by rw [ex1_582]; exact bm_c1_5.mp (hI.bx _ _)
    refine ⟨(by first | assumption | exact (by omega)), ?_⟩
    refine ⟨fun c => ?_, fun c => ?_⟩
    · refine ⟨(by first | assumption | exact (by omega)), ?_⟩
      exact hQ _
    · refine ⟨by omega, ?_⟩
      refine ⟨by omega, ?_⟩
      intro x7_585 ex7_585 rx7_585
      have bx7_585 : 0 ≤ x7_585 ∧ x7_585 ≤ 5 := by rw [ex7_585]; exact bm_c3.mp (hI.bx _ _)
      refine ⟨fun c => ?_, fun c => ?_⟩
      · intro x9_587 ex9_587 rx9_587
        first | (have fx9_587 := oI_64 (a := v2) (b := 0) (by omega) (by omega); rw [← ex9_587] at fx9_587) | skip
        exact ih _ _ (hI.mono (by first | exact Int.le_refl _ | omega)) (by omega) (by first | assumption | exact (by omega)) (by omega)
      · intro x10_589 ex10_589 rx10_589
        first | (have fx10_589 := slI_1 (b := v3) (by omega); rw [← ex10_589] at fx10_589) | skip
        intro x11_590 ex11_590 rx11_590
        first | (have fx11_590 := oI_64 (a := v2) (b := x10_589) (by omega) (by omega); rw [← ex11_590] at fx11_590) | skip
        exact ih _ _ (hI.mono (by first | exact Int.le_refl _ | omega)) (by omega) (by first | assumption | exact (by omega)) (by omega)
theorem sX12_owners {p1 : Int} {b : Int} {M : Mem} {Q : Int → Mem → Prop} (hI : IM b M) (hQ : ∀ z : Int, Q z M) : qX12_owners p1 M Q := by
  unfold qX12_owners
  have hbn := hI.nn
  refine ⟨9, ?_⟩
  refine sX12_owners_L4 (b := b) (p1 := p1) (M0 := M) ?_ _ _ _ (hI.mono (by first | exact Int.le_refl _ | omega)) (by omega) (by first | assumption | exact (by omega)) (by omega)
  · exact hQ
theorem sX12_freeAhead_L2 {k1 : Nat} {p2 : Int}  {Q : Int → Mem → Prop} {b : Int} {M0 : Mem} (hk1 : isN k1) (hp : 0 ≤ p2 ∧ p2 ≤ 29) (hQ : ∀ z : Int, (0 ≤ z ∧ z ≤ 30) → Q z M0) : ∀ (n : Nat) (v3 : Int), IM (b) M0 → (0 ≤ v3 ∧ v3 ≤ 30) → 30 - v3 < (n : Int) → qX12_freeAhead_L2 k1 p2 Q n v3 M0 := by
  intro n
  induction n with
  | zero => intro v3 hI hv hm; exact absurd hm (by omega)
  | succ n ih =>
    intro v3 hI hv hm
    rw [qX12_freeAhead_L2]
    have hbn := hI.nn
    have ek1 : k1 = 5 ∨ k1 = 6 := hk1
    refine sX12_gate  hI  ?_
    intro x1_591 p592 q593
    refine ⟨(by first | assumption | exact (by omega)), ?_⟩
    refine ⟨fun c => ?_, fun c => ?_⟩
    · refine ⟨(by first | assumption | exact (by omega)), ?_⟩
      exact hQ _ (by omega)
    · refine sX12_gate  hI  ?_
      intro x5_596 p597 q598
      refine ⟨(by first | assumption | exact (by omega)), ?_⟩
      refine ⟨fun c => ?_, fun c => ?_⟩
      · exact ih _ (hI.mono (by first | exact Int.le_refl _ | omega)) (by omega) (by omega)
      · refine sX12_onCell (p2 := p2 + v3 + 1) hI hk1 ?_
        intro x8_601 p602 q603
        refine ⟨fun c => ?_, fun c => ?_⟩
        · refine ⟨(by first | assumption | exact (by omega)), ?_⟩
          exact hQ _ (by omega)
        · exact ih _ (hI.mono (by first | exact Int.le_refl _ | omega)) (by omega) (by omega)
theorem sX12_freeAhead {k1 : Nat} {p2 : Int} {b : Int} {M : Mem} {Q : Int → Mem → Prop} (hI : IM b M) (hk1 : isN k1) (hp : 0 ≤ p2 ∧ p2 ≤ 29) (hQ : ∀ z : Int, (0 ≤ z ∧ z ≤ 30) → Q z M) : qX12_freeAhead k1 p2 M Q := by
  unfold qX12_freeAhead
  have hbn := hI.nn
  have ek1 : k1 = 5 ∨ k1 = 6 := hk1
  refine ⟨31, ?_⟩
  refine sX12_freeAhead_L2 (b := b) (p2 := p2) (M0 := M) hk1 hp ?_ _ _ (hI.mono (by first | exact Int.le_refl _ | omega)) (by omega) (by omega)
  · exact hQ
theorem sX12_isOn {k0 : Nat} {p1 : Int} {b : Int} {M : Mem} {Q : Int → Mem → Prop} (hI : IM b M) (hk0 : isN k0) (hp : 0 ≤ p1 ∧ p1 ≤ 37) (hQ : ∀ z : Int, ((z = 1 → 0 ≤ M k0 p1) ∧ (z = 0 → M k0 p1 < 0)) → Q z M) : qX12_isOn k0 p1 M Q := by
  unfold qX12_isOn
  have hbn := hI.nn
  have ek0 : k0 = 5 ∨ k0 = 6 := hk0
  refine ⟨by omega, ?_⟩
  refine ⟨by omega, ?_⟩
  intro x3_606 ex3_606 rx3_606
  have rbx3_606 : -2147483648 ≤ x3_606 ∧ x3_606 ≤ 2147483647 := rx3_606
  have nbx3_606 : BN (b) p1 x3_606 := by rw [ex3_606]; exact (bm_n hk0).mp (hI.bx _ _)
  first | (have bx3_606 : -1 ≤ x3_606 ∧ x3_606 ≤ 29 := nbx3_606.1 (by omega)) | (have bx3_606 : -1 ≤ x3_606 ∧ x3_606 ≤ 29 := nbx3_606.2.1 (by omega)) | skip
  refine ⟨fun c => ?_, fun c => ?_⟩
  · exact hQ _ (by omega)
  · exact hQ _ (by omega)
theorem sX12_worked {p0 : Int} {p1 : Int} {p2 : Int} {b : Int} {M : Mem} {Q : Int → Mem → Prop} (hI : IM b M) (hQ : ∀ z : Int, Q z M) : qX12_worked p0 p1 p2 M Q := by
  unfold qX12_worked
  have hbn := hI.nn
  refine ⟨fun c => ?_, fun c => ?_, fun c => ?_, fun c => ?_, fun c => ?_, fun c => ?_, fun c => ?_⟩
  · refine ⟨fun c => ?_, fun c => ?_⟩
    · unfold qX12_worked_J50
      refine ⟨(by first | assumption | exact (by omega)), ?_⟩
      refine sX12_flag (p0 := 0) hI  ?_
      intro x4_611 p612 q613
      exact hQ _
    · unfold qX12_worked_J50
      refine ⟨(by first | assumption | exact (by omega)), ?_⟩
      refine sX12_flag (p0 := 1) hI  ?_
      intro x4_615 p616 q617
      exact hQ _
  · refine ⟨fun c => ?_, fun c => ?_⟩
    · unfold qX12_worked_J64
      refine ⟨(by first | assumption | exact (by omega)), ?_⟩
      refine sX12_flag (p0 := 0) hI  ?_
      intro x7_620 p621 q622
      exact hQ _
    · unfold qX12_worked_J64
      refine ⟨(by first | assumption | exact (by omega)), ?_⟩
      refine sX12_flag (p0 := 1) hI  ?_
      intro x7_624 p625 q626
      exact hQ _
  · refine ⟨fun c => ?_, fun c => ?_⟩
    · unfold qX12_worked_J78
      refine ⟨(by first | assumption | exact (by omega)), ?_⟩
      refine sX12_flag (p0 := 0) hI  ?_
      intro x10_629 p630 q631
      exact hQ _
    · unfold qX12_worked_J78
      refine ⟨(by first | assumption | exact (by omega)), ?_⟩
      refine sX12_flag (p0 := 1) hI  ?_
      intro x10_633 p634 q635
      exact hQ _
  · intro x11_637 ex11_637 rx11_637
    first | (have fx11_637 : x11_637 = p1 + p2 := by rw [ex11_637]; exact w32_id (by omega)) | skip
    exact hQ _
  · intro x12_639 ex12_639 rx12_639
    first | (have fx12_639 : x12_639 = p1 - p2 := by rw [ex12_639]; exact w32_id (by omega)) | skip
    exact hQ _
  · intro x13_641 ex13_641 rx13_641
    first | (have fx13_641 : x13_641 = p1 * p2 := by rw [ex13_641]; exact w32_id (by omega)) | skip
    exact hQ _
  · refine ⟨fun c => ?_, fun c => ?_⟩
    · refine ⟨by omega, ?_⟩
      intro x16_644 ex16_644 rx16_644
      first | (have fx16_644 := dvI_b (a := p1) (b := p2) (by omega) (by omega); rw [← ex16_644] at fx16_644) | skip
      exact hQ _
    · exact hQ _
theorem sX12_ruled_L4 {X125 : Mem → Prop} {Q : Int → Mem → Prop} {b : Int} {M0 : Mem} (hX : ∀ M' : Mem, IM b M' → FrJ (fun k j => k = 13) M0 M' → X125 M') : ∀ (n : Nat) (v1 v2 : Int) (M : Mem), IM b M → FrJ (fun k j => k = 13) M0 M → (v1 = dpc (M 11) v2.toNat ∧ 0 ≤ v2 ∧ v2 ≤ 80) → 80 - v2 < (n : Int) → qX12_ruled_L4 X125 Q n v1 v2 M := by
  intro n
  induction n with
  | zero => intro v1 v2 M hI hF hv hm; exact absurd hm (by omega)
  | succ n ih =>
    intro v1 v2 M hI hF hv hm
    rw [qX12_ruled_L4]
    intro x1 e1 _
    have b1 : 0 ≤ x1 ∧ x1 ≤ 80 := by rw [e1]; exact bm_c1_24.mp (hI.bx _ _)
    refine ⟨(by omega), ⟨fun c => hX _ hI hF, fun c => ?_⟩⟩
    refine ⟨by omega, by omega, ?_⟩
    intro x6 e6 r6
    have hw := hI.2 v2.toNat (by omega)
    have hc : ((v2.toNat : Nat) : Int) = v2 := by omega
    have hn := dpc_nn hI.2 v2.toNat (by omega)
    have hl := dpc_le (M 11) v2.toNat
    rw [hc, ← e6] at hw
    have hs : dpc (M 11) (v2 + 1).toNat = dpc (M 11) v2.toNat + (if x6 = 3000 then 0 else if x6 < 2000 then 1 else -1) := by
      rw [show (v2 + 1).toNat = v2.toNat + 1 from by omega]
      show dpc (M 11) v2.toNat + (if M 11 (v2.toNat : Nat) = 3000 then 0 else if M 11 (v2.toNat : Nat) < 2000 then 1 else -1) = _
      rw [hc, ← e6]
    have key : ∀ (M' : Mem) (j v w : Int), M' = up2 M 13 j v → w = v1 + (if x6 = 3000 then 0 else if x6 < 2000 then 1 else -1) → qX12_ruled_L4 X125 Q n w (v2 + 1) M' := by
      intro M' j v w hM' hw'
      refine ih _ _ _ (by rw [hM']; exact hI.up (by omega) (by simp [BM])) (by rw [hM']; exact hF.up rfl) ⟨?_, by omega, by omega⟩ (by omega)
      rw [hM', up2_n (by decide), hs, ← hv.1]
      exact hw'
    refine ⟨fun c1 => ⟨fun c2 => ⟨fun c3 => ?_, fun c3 => ?_⟩, fun c2 => ?_⟩, fun c1 => ?_⟩
    · unfold qX12_ruled_J115
      refine ⟨by omega, by omega, r6, ?_⟩
      intro M13 h13
      exact key _ _ _ _ h13 (by rw [if_neg c1, if_pos c2])
    · intro x14 e14 _
      have f14 : x14 = x6 - 1000 := by rw [e14]; exact w32_id (by omega)
      have := hw.2.2 (by omega) (by omega)
      refine ⟨by omega, by omega, ?_⟩
      intro x17 e17 r17
      unfold qX12_ruled_J115
      refine ⟨by omega, by omega, r17, ?_⟩
      intro M13 h13
      exact key _ _ _ _ h13 (by rw [if_neg c1, if_pos c2])
    · have h2 := hw.2.1 (by omega) c1
      intro x18 e18 _ x19 e19 _ x20 e20 _
      have f18 : x18 = v1 + (-1) - 1 := by rw [e18]; exact w32_id (by omega)
      have f20 : x20 = v1 + (-1) - 1 := by rw [e20]; exact w32_id (by omega)
      refine ⟨by omega, by omega, ?_⟩
      intro x23 e23 _
      refine ⟨by omega, by omega, ?_⟩
      intro x26 e26 _
      refine sX12_worked (p0 := x19) (p1 := x23) (p2 := x26) hI ?_
      intro x27 _
      refine ⟨by omega, by omega, ?_⟩
      intro M30 h30
      exact key _ _ _ _ h30 (by rw [if_neg c1, if_neg c2])
    · have h1 := hw.1 c1
      intro x31 e31 _ x32 e32 _
      have f31 : x31 = v1 - 1 := by rw [e31]; exact w32_id (by omega)
      have f32 : x32 = v1 - 1 := by rw [e32]; exact w32_id (by omega)
      refine ⟨by omega, by omega, ?_⟩
      intro x35 e35 _ x36 e36 _
      refine ⟨by omega, by omega, ?_⟩
      intro M39 h39
      exact key _ _ _ _ h39 (by rw [if_pos c1]; omega)
theorem sX12_ruled {b : Int} {M : Mem} {Q : Int → Mem → Prop} (hI : IM b M) (hQ : ∀ z : Int, ∀ M' : Mem, IM b M' → FrJ (fun k j => k = 13) M M' → Q z M') : qX12_ruled M Q := by
  unfold qX12_ruled
  refine ⟨81, sX12_ruled_L4 (b := b) (M0 := M) ?_ _ _ _ _ hI FrJ.rf ⟨rfl, by omega, by omega⟩ (by omega)⟩
  intro M' h' hF x41 _ _
  refine ⟨fun c => fun x43 _ _ => hQ _ _ h' hF, fun c => ?_⟩
  intro x44 _ _
  refine ⟨fun c => ?_, fun c => ?_⟩ <;>
  · unfold qX12_ruled_J148
    refine ⟨by decide, ?_⟩
    refine sX12_flag h' ?_
    intro z _ _ x48 _ _
    exact hQ _ _ h' hF
theorem sX12_weatherOn {p1 : Int} {b : Int} {M : Mem} {Q : Int → Mem → Prop} (hI : IM b M) (hp : 0 ≤ p1 ∧ p1 ≤ 2147483647) (hQ : ∀ z : Int, Q z M) : qX12_weatherOn p1 M Q := by
  unfold qX12_weatherOn
  have hbn := hI.nn
  intro x1_646 ex1_646 rx1_646
  have bx1_646 : 1 ≤ x1_646 ∧ x1_646 ≤ 20 := by rw [ex1_646]; exact bm_c1_7.mp (hI.bx _ _)
  refine ⟨by omega, ?_⟩
  intro x3_647 ex3_647 rx3_647
  first | (have fx3_647 := rmI_b (a := p1) (b := x1_646) (by omega) (by omega); rw [← ex3_647] at fx3_647) | skip
  refine ⟨by omega, ?_⟩
  refine ⟨by omega, ?_⟩
  intro x6_648 ex6_648 rx6_648
  have bx6_648 : -2147483648 ≤ x6_648 ∧ x6_648 ≤ 2147483647 := rx6_648
  exact hQ _
theorem sX12_paceOf {k1 : Nat} {p2 : Int} {b : Int} {M : Mem} {Q : Int → Mem → Prop} (hI : IM b M) (hk1 : isN k1) (hp : 0 ≤ p2 ∧ p2 ≤ 5) (hQ : ∀ z : Int, ∀ M' : Mem, IM b M' → FrJ (fun k j => k = 14 ∨ k = 13) M M' → (0 ≤ z ∧ z ≤ 3) → Q z M') : qX12_paceOf k1 p2 M Q := by
  unfold qX12_paceOf
  have hbn := hI.nn
  have ek1 : k1 = 5 ∨ k1 = 6 := hk1
  refine sX12_isOn (p1 := p2) hI hk1 (by omega) ?_
  intro x1_649 p650 q651 q652
  refine ⟨fun c => ?_, fun c => ?_⟩
  · refine ⟨by omega, ?_⟩
    refine ⟨by omega, ?_⟩
    intro x5_654 ex5_654 rx5_654
    have rbx5_654 : -2147483648 ≤ x5_654 ∧ x5_654 ≤ 2147483647 := rx5_654
    have nbx5_654 : BN (b) p2 x5_654 := by rw [ex5_654]; exact (bm_n hk1).mp (hI.bx _ _)
    first | (have bx5_654 : -1 ≤ x5_654 ∧ x5_654 ≤ 29 := nbx5_654.1 (by omega)) | (have bx5_654 : -1 ≤ x5_654 ∧ x5_654 ≤ 29 := nbx5_654.2.1 (by omega)) | skip
    intro M6_655 h_M6_655
    have hM6_655 : IM (b) M6_655 := by rw [h_M6_655]; exact hI.up (by omega) (by simp [BM])
    have hFM6_655 : FrJ (fun k j => k = 14 ∨ k = 13) M M6_655 := by rw [h_M6_655]; exact (FrJ.rf).up (by omega)
    intro x7_656 ex7_656 rx7_656
    have rbx7_656 : -2147483648 ≤ x7_656 ∧ x7_656 ≤ 2147483647 := rx7_656
    have nbx7_656 : BN (b) p2 x7_656 := by rw [ex7_656]; exact (bm_n hk1).mp (hM6_655.bx _ _)
    first | (have bx7_656 : -1 ≤ x7_656 ∧ x7_656 ≤ 29 := nbx7_656.1 (by omega)) | (have bx7_656 : -1 ≤ x7_656 ∧ x7_656 ≤ 29 := nbx7_656.2.1 (by omega)) | skip
    have fx7_656 : x7_656 = M k1 p2 := by rw [ex7_656, h_M6_655, up2_n (by omega)]
    refine sX12_freeAhead (p2 := x7_656) hM6_655 hk1 (by omega) ?_
    intro x8_657 p658 q659
    intro M9_660 h_M9_660
    have hM9_660 : IM (b) M9_660 := by rw [h_M9_660]; exact hM6_655.up (by omega) (by simp [BM])
    have hFM9_660 : FrJ (fun k j => k = 14 ∨ k = 13) M M9_660 := by rw [h_M9_660]; exact (hFM6_655).up (by omega)
    intro x10_661 ex10_661 rx10_661
    have rbx10_661 : -2147483648 ≤ x10_661 ∧ x10_661 ≤ 2147483647 := rx10_661
    have nbx10_661 : BN (b) p2 x10_661 := by rw [ex10_661]; exact (bm_n hk1).mp (hM9_660.bx _ _)
    first | (have bx10_661 : -1 ≤ x10_661 ∧ x10_661 ≤ 29 := nbx10_661.1 (by omega)) | (have bx10_661 : -1 ≤ x10_661 ∧ x10_661 ≤ 29 := nbx10_661.2.1 (by omega)) | skip
    have fx10_661 : x10_661 = M k1 p2 := by rw [ex10_661, h_M9_660, up2_n (by omega), h_M6_655, up2_n (by omega)]
    refine ⟨by omega, ?_⟩
    refine ⟨by omega, ?_⟩
    intro x13_662 ex13_662 rx13_662
    have bx13_662 : -2147483648 ≤ x13_662 ∧ x13_662 ≤ 2147483647 := rx13_662
    have fx13_662 : x13_662 = M 2 x10_661 := by rw [ex13_662, h_M9_660, up2_n (by decide), h_M6_655, up2_n (by decide)]
    have cgx13_662 : x13_662 = M9_660 2 (M9_660 k1 p2) := by rw [ex13_662, ← ex10_661]
    refine sX12_flag (p0 := x13_662) hM9_660  ?_
    intro x14_663 p664 q665
    intro M15_666 h_M15_666
    have hM15_666 : IM (b) M15_666 := by rw [h_M15_666]; exact hM9_660.up (by omega) (by simp [BM])
    have hFM15_666 : FrJ (fun k j => k = 14 ∨ k = 13) M M15_666 := by rw [h_M15_666]; exact (hFM9_660).up (by omega)
    intro x16_667 ex16_667 rx16_667
    have rbx16_667 : -2147483648 ≤ x16_667 ∧ x16_667 ≤ 2147483647 := rx16_667
    first | (have bx16_667 : 0 ≤ x16_667 ∧ x16_667 ≤ (b) := by rw [ex16_667]; exact ((bm_n hk1).mp (hM15_666.bx _ _)).2.2.2 (by omega)) | skip
    have fx16_667 : x16_667 = M k1 37 := by rw [ex16_667, h_M15_666, up2_n (by omega), h_M9_660, up2_n (by omega), h_M6_655, up2_n (by omega)]
    refine sX12_weatherOn (p1 := x16_667) hM15_666 (by omega) ?_
    intro x17_668 q669
    intro M18_670 h_M18_670
    have hM18_670 : IM (b) M18_670 := by rw [h_M18_670]; exact hM15_666.up (by omega) (by simp [BM])
    have hFM18_670 : FrJ (fun k j => k = 14 ∨ k = 13) M M18_670 := by rw [h_M18_670]; exact (hFM15_666).up (by omega)
    intro x19_671 ex19_671 rx19_671
    have rbx19_671 : -2147483648 ≤ x19_671 ∧ x19_671 ≤ 2147483647 := rx19_671
    first | (have bx19_671 : 0 ≤ x19_671 ∧ x19_671 ≤ (b) := by rw [ex19_671]; exact ((bm_n hk1).mp (hM18_670.bx _ _)).2.2.2 (by omega)) | skip
    have fx19_671 : x19_671 = M k1 37 := by rw [ex19_671, h_M18_670, up2_n (by omega), h_M15_666, up2_n (by omega), h_M9_660, up2_n (by omega), h_M6_655, up2_n (by omega)]
    intro x20_672 ex20_672 rx20_672
    first | (have fx20_672 := rmI_b (a := x19_671) (b := 10) (by omega) (by omega); rw [← ex20_672] at fx20_672) | skip
    intro M21_673 h_M21_673
    have hM21_673 : IM (b) M21_673 := by rw [h_M21_673]; exact hM18_670.up (by omega) (by simp [BM])
    have hFM21_673 : FrJ (fun k j => k = 14 ∨ k = 13) M M21_673 := by rw [h_M21_673]; exact (hFM18_670).up (by omega)
    intro M22_674 h_M22_674
    have hM22_674 : IM (b) M22_674 := by rw [h_M22_674]; exact hM21_673.up (by omega) (by simp [BM])
    have hFM22_674 : FrJ (fun k j => k = 14 ∨ k = 13) M M22_674 := by rw [h_M22_674]; exact (hFM21_673).up (by omega)
    refine sX12_bitsBy (p2 := 21) (p3 := p2) hM22_674 hk1 (by omega) ?_
    intro x23_675 q676
    refine sJ6_bitCountM (p0 := x23_675) hM22_674  ?_
    intro x24_677 p678 q679
    intro M25_680 h_M25_680
    have hM25_680 : IM (b) M25_680 := by rw [h_M25_680]; exact hM22_674.up (by omega) (by simp [BM])
    have hFM25_680 : FrJ (fun k j => k = 14 ∨ k = 13) M M25_680 := by rw [h_M25_680]; exact (hFM22_674).up (by omega)
    refine sX12_ruled  hM25_680  ?_
    intro x26_681 M26_682 hM26_682 gM26_682 q683
    have hFM26_682 : FrJ (fun k j => k = 14 ∨ k = 13) M M26_682 := (hFM25_680).tr (gM26_682.mono (by intro k j h; omega))
    intro x27_684 ex27_684 rx27_684
    intro x28_685 ex28_685 rx28_685
    exact hQ _ _ (hM26_682.mono (by first | exact Int.le_refl _ | omega)) hFM26_682 (by omega)
  · exact hQ _ _ (hI.mono (by first | exact Int.le_refl _ | omega)) FrJ.rf (by omega)
theorem sX12_refuse  {b : Int} {M : Mem} {Q : Int → Mem → Prop} (hI : IM b M) (hQ : ∀ z : Int, ∀ M' : Mem, IM b M' → Q z M') : qX12_refuse M Q := by
  unfold qX12_refuse
  have hbn := hI.nn
  intro M1_687 h_M1_687
  have hM1_687 : IM (b) M1_687 := by rw [h_M1_687]; exact hI.up (by omega) (by simp [BM])
  exact hQ _ _ (hM1_687.mono (by first | exact Int.le_refl _ | omega))
theorem sX12_hearse {p1 : Int} {p2 : Int} {b : Int} {M : Mem} {Q : Int → Mem → Prop} (hI : IM b M) (hQ : ∀ z : Int, ∀ M' : Mem, IM b M' → Q z M') : qX12_hearse p1 p2 M Q := by
  unfold qX12_hearse
  have hbn := hI.nn
  intro M1_688 h_M1_688
  have hM1_688 : IM (b) M1_688 := by rw [h_M1_688]; exact hI.up (by omega) (by simp [BM])
  refine sX12_isHearse (p1 := p1) hM1_688  ?_
  intro x2_689 p690 q691 q692
  refine ⟨fun c => ?_, fun c => ?_⟩
  · unfold qX12_hearse_J25
    refine sX12_refuse  hM1_688  ?_
    intro x4_694 M4_695 hM4_695 q696
    exact hQ _ _ (hM4_695.mono (by first | exact Int.le_refl _ | omega))
  · refine sX12_in (p0 := p2) (p2 := 0) (p4 := 5) hM1_688  ?_
    intro x5_698 p699 q700 q701
    refine ⟨fun c => ?_, fun c => ?_⟩
    · refine ⟨fun c => ?_, fun c => ?_, fun c => ?_, fun c => ?_, fun c => ?_, fun c => ?_⟩
      · refine ⟨by omega, ?_⟩
        refine ⟨by omega, ?_⟩
        intro x10_704 ex10_704 rx10_704
        have rbx10_704 : -2147483648 ≤ x10_704 ∧ x10_704 ≤ 2147483647 := rx10_704
        have nbx10_704 : BN (b) p1 x10_704 := by rw [ex10_704]; exact (bm_n (Or.inl rfl)).mp (hM1_688.bx _ _)
        first | (have bx10_704 : -1 ≤ x10_704 ∧ x10_704 ≤ 29 := nbx10_704.1 (by omega)) | (have bx10_704 : -1 ≤ x10_704 ∧ x10_704 ≤ 29 := nbx10_704.2.1 (by omega)) | skip
        have fx10_704 : x10_704 = M 5 p1 := by rw [ex10_704, h_M1_688, up2_n (by decide)]
        exact hQ _ _ (hM1_688.mono (by first | exact Int.le_refl _ | omega))
      · refine ⟨by omega, ?_⟩
        refine ⟨by omega, ?_⟩
        intro x13_706 ex13_706 rx13_706
        have bx13_706 : -2147483648 ≤ x13_706 ∧ x13_706 ≤ 2147483647 := rx13_706
        have fx13_706 : x13_706 = M 5 (6 + p1) := by rw [ex13_706, h_M1_688, up2_n (by decide)]
        exact hQ _ _ (hM1_688.mono (by first | exact Int.le_refl _ | omega))
      · refine sX12_paceOf (p2 := p1) hM1_688 (Or.inl rfl) (by omega) ?_
        intro x14_708 M14_709 hM14_709 gM14_709 p710 q711
        exact hQ _ _ (hM14_709.mono (by first | exact Int.le_refl _ | omega))
      · refine sX12_bitsBy (p2 := 21) (p3 := p1) hM1_688 (Or.inl rfl) (by omega) ?_
        intro x15_713 q714
        exact hQ _ _ (hM1_688.mono (by first | exact Int.le_refl _ | omega))
      · refine sX12_bitsBy (p2 := 29) (p3 := p1) hM1_688 (Or.inl rfl) (by omega) ?_
        intro x16_716 q717
        exact hQ _ _ (hM1_688.mono (by first | exact Int.le_refl _ | omega))
      · refine sX12_owners (p1 := p1) hM1_688  ?_
        intro x17_719 q720
        exact hQ _ _ (hM1_688.mono (by first | exact Int.le_refl _ | omega))
    · unfold qX12_hearse_J25
      refine sX12_refuse  hM1_688  ?_
      intro x4_722 M4_723 hM4_723 q724
      exact hQ _ _ (hM4_723.mono (by first | exact Int.le_refl _ | omega))
theorem sX12_isMourner {p1 : Int} {b : Int} {M : Mem} {Q : Int → Mem → Prop} (hI : IM b M) (hQ : ∀ z : Int, (¬ z = 0 → 0 ≤ p1 ∧ p1 ≤ 7) → Q z M) : qX12_isMourner p1 M Q := by
  unfold qX12_isMourner
  have hbn := hI.nn
  intro x1_725 ex1_725 rx1_725
  have bx1_725 : 0 ≤ x1_725 ∧ x1_725 ≤ 8 := by rw [ex1_725]; exact bm_c1_5.mp (hI.bx _ _)
  refine ⟨(by first | assumption | exact (by omega)), ?_⟩
  refine sX12_in (p0 := p1) (p2 := 0) (p4 := x1_725 - 1) hI  ?_
  intro x3_726 p727 q728 q729
  refine ⟨by omega, ?_⟩
  exact hQ _ (by omega)
theorem sX12_nearest_L5 {k1 : Nat} {p2 : Int}  {Q : Int → Mem → Prop} {b : Int} {M0 : Mem} (hk1 : isN k1) (hp : -1 ≤ p2 ∧ p2 ≤ 29) (hQ : ∀ z : Int, (-1 ≤ z ∧ z ≤ 5 ∧ (0 ≤ z → 0 ≤ M0 k1 z)) → Q z M0) : ∀ (n : Nat) (v3 v4 : Int), IM (b) M0 → ((v3 = -1 ∨ 0 ≤ v3 ∧ v3 ≤ 5 ∧ 0 ≤ M0 k1 v3) ∧ 0 ≤ v4 ∧ v4 ≤ 6) → 6 - v4 < (n : Int) → qX12_nearest_L5 k1 p2 Q n v3 v4 M0 := by
  intro n
  induction n with
  | zero => intro v3 v4 hI hv hm; exact absurd hm (by omega)
  | succ n ih =>
    intro v3 v4 hI hv hm
    rw [qX12_nearest_L5]
    have hbn := hI.nn
    have ek1 : k1 = 5 ∨ k1 = 6 := hk1
    intro x1_730 ex1_730 rx1_730
    have bx1_730 : 0 ≤ x1_730 ∧ x1_730 ≤ 6 := by rw [ex1_730]; exact bm_c1_4.mp (hI.bx _ _)
    refine ⟨(by first | assumption | exact (by omega)), ?_⟩
    refine ⟨fun c => ?_, fun c => ?_⟩
    · refine ⟨(by first | assumption | exact (by omega)), ?_⟩
      exact hQ _ (by omega)
    · refine sX12_isOn (p1 := v4) hI hk1 (by omega) ?_
      intro x5_733 p734 q735 q736
      refine ⟨fun c => ?_, fun c => ?_⟩
      · exact ih _ _ (hI.mono (by first | exact Int.le_refl _ | omega)) (by omega) (by omega)
      · refine ⟨by omega, ?_⟩
        refine ⟨by omega, ?_⟩
        intro x9_739 ex9_739 rx9_739
        have rbx9_739 : -2147483648 ≤ x9_739 ∧ x9_739 ≤ 2147483647 := rx9_739
        have nbx9_739 : BN (b) v4 x9_739 := by rw [ex9_739]; exact (bm_n hk1).mp (hI.bx _ _)
        first | (have bx9_739 : -1 ≤ x9_739 ∧ x9_739 ≤ 29 := nbx9_739.1 (by omega)) | (have bx9_739 : -1 ≤ x9_739 ∧ x9_739 ≤ 29 := nbx9_739.2.1 (by omega)) | skip
        refine ⟨(by first | assumption | exact (by omega)), ?_⟩
        intro x11_740 px11_740 nx11_740
        have bx11_740 : 0 ≤ x11_740 ∧ (x9_739 - p2 = x11_740 ∨ x9_739 - p2 = -x11_740) := by omega
        refine ⟨(by first | assumption | exact (by omega)), ?_⟩
        refine ⟨fun c => ?_, fun c => ?_⟩
        · refine ⟨by omega, ?_⟩
          refine ⟨by omega, ?_⟩
          intro x16_742 ex16_742 rx16_742
          have rbx16_742 : -2147483648 ≤ x16_742 ∧ x16_742 ≤ 2147483647 := rx16_742
          have nbx16_742 : BN (b) v3 x16_742 := by rw [ex16_742]; exact (bm_n hk1).mp (hI.bx _ _)
          first | (have bx16_742 : -1 ≤ x16_742 ∧ x16_742 ≤ 29 := nbx16_742.1 (by omega)) | (have bx16_742 : -1 ≤ x16_742 ∧ x16_742 ≤ 29 := nbx16_742.2.1 (by omega)) | skip
          refine ⟨(by first | assumption | exact (by omega)), ?_⟩
          intro x18_743 px18_743 nx18_743
          have bx18_743 : 0 ≤ x18_743 ∧ (x16_742 - p2 = x18_743 ∨ x16_742 - p2 = -x18_743) := by omega
          unfold qX12_nearest_J52
          refine ⟨(by first | assumption | exact (by omega)), ?_⟩
          refine ⟨(by first | assumption | exact (by omega)), ?_⟩
          refine ⟨fun c => ?_, fun c => ?_⟩
          · exact ih _ _ (hI.mono (by first | exact Int.le_refl _ | omega)) (by omega) (by omega)
          · refine ⟨fun c => ?_, fun c => ?_⟩
            · exact ih _ _ (hI.mono (by first | exact Int.le_refl _ | omega)) (by omega) (by omega)
            · refine ⟨by omega, ?_⟩
              refine ⟨by omega, ?_⟩
              intro x25_748 ex25_748 rx25_748
              have rbx25_748 : -2147483648 ≤ x25_748 ∧ x25_748 ≤ 2147483647 := rx25_748
              have nbx25_748 : BN (b) v4 x25_748 := by rw [ex25_748]; exact (bm_n hk1).mp (hI.bx _ _)
              first | (have bx25_748 : -1 ≤ x25_748 ∧ x25_748 ≤ 29 := nbx25_748.1 (by omega)) | (have bx25_748 : -1 ≤ x25_748 ∧ x25_748 ≤ 29 := nbx25_748.2.1 (by omega)) | skip
              refine ⟨by omega, ?_⟩
              refine ⟨by omega, ?_⟩
              intro x28_749 ex28_749 rx28_749
              have rbx28_749 : -2147483648 ≤ x28_749 ∧ x28_749 ≤ 2147483647 := rx28_749
              have nbx28_749 : BN (b) v3 x28_749 := by rw [ex28_749]; exact (bm_n hk1).mp (hI.bx _ _)
              first | (have bx28_749 : -1 ≤ x28_749 ∧ x28_749 ≤ 29 := nbx28_749.1 (by omega)) | (have bx28_749 : -1 ≤ x28_749 ∧ x28_749 ≤ 29 := nbx28_749.2.1 (by omega)) | skip
              refine ⟨fun c => ?_, fun c => ?_⟩
              · exact ih _ _ (hI.mono (by first | exact Int.le_refl _ | omega)) (by omega) (by omega)
              · exact ih _ _ (hI.mono (by first | exact Int.le_refl _ | omega)) (by omega) (by omega)
        · unfold qX12_nearest_J52
          refine ⟨(by first | assumption | exact (by omega)), ?_⟩
          refine ⟨(by first | assumption | exact (by omega)), ?_⟩
          refine ⟨fun c => ?_, fun c => ?_⟩
          · exact ih _ _ (hI.mono (by first | exact Int.le_refl _ | omega)) (by omega) (by omega)
          · refine ⟨fun c => ?_, fun c => ?_⟩
            · exact ih _ _ (hI.mono (by first | exact Int.le_refl _ | omega)) (by omega) (by omega)
            · refine ⟨by omega, ?_⟩
              refine ⟨by omega, ?_⟩
              intro x25_757 ex25_757 rx25_757
              have rbx25_757 : -2147483648 ≤ x25_757 ∧ x25_757 ≤ 2147483647 := rx25_757
              have nbx25_757 : BN (b) v4 x25_757 := by rw [ex25_757]; exact (bm_n hk1).mp (hI.bx _ _)
              first | (have bx25_757 : -1 ≤ x25_757 ∧ x25_757 ≤ 29 := nbx25_757.1 (by omega)) | (have bx25_757 : -1 ≤ x25_757 ∧ x25_757 ≤ 29 := nbx25_757.2.1 (by omega)) | skip
              refine ⟨by omega, ?_⟩
              refine ⟨by omega, ?_⟩
              intro x28_758 ex28_758 rx28_758
              have rbx28_758 : -2147483648 ≤ x28_758 ∧ x28_758 ≤ 2147483647 := rx28_758
              have nbx28_758 : BN (b) v3 x28_758 := by rw [ex28_758]; exact (bm_n hk1).mp (hI.bx _ _)
              first | (have bx28_758 : -1 ≤ x28_758 ∧ x28_758 ≤ 29 := nbx28_758.1 (by omega)) | (have bx28_758 : -1 ≤ x28_758 ∧ x28_758 ≤ 29 := nbx28_758.2.1 (by omega)) | skip
              refine ⟨fun c => ?_, fun c => ?_⟩
              · exact ih _ _ (hI.mono (by first | exact Int.le_refl _ | omega)) (by omega) (by omega)
              · exact ih _ _ (hI.mono (by first | exact Int.le_refl _ | omega)) (by omega) (by omega)
end
section
theorem sX12_nearest {k1 : Nat} {p2 : Int} {b : Int} {M : Mem} {Q : Int → Mem → Prop} (hI : IM b M) (hk1 : isN k1) (hp : -1 ≤ p2 ∧ p2 ≤ 29) (hQ : ∀ z : Int, (-1 ≤ z ∧ z ≤ 5 ∧ (0 ≤ z → 0 ≤ M k1 z)) → Q z M) : qX12_nearest k1 p2 M Q := by
  unfold qX12_nearest
  have hbn := hI.nn
  have ek1 : k1 = 5 ∨ k1 = 6 := hk1
  refine ⟨7, ?_⟩
  refine sX12_nearest_L5 (b := b) (p2 := p2) (M0 := M) hk1 hp ?_ _ _ _ (hI.mono (by first | exact Int.le_refl _ | omega)) (by omega) (by omega)
  · exact hQ
theorem sX12_mourner {p1 : Int} {p2 : Int} {b : Int} {M : Mem} {Q : Int → Mem → Prop} (hI : IM b M) (hQ : ∀ z : Int, ∀ M' : Mem, IM b M' → Q z M') : qX12_mourner p1 p2 M Q := by
  unfold qX12_mourner
  have hbn := hI.nn
  intro M1_761 h_M1_761
  have hM1_761 : IM (b) M1_761 := by rw [h_M1_761]; exact hI.up (by omega) (by simp [BM])
  refine sX12_isMourner (p1 := p1) hM1_761  ?_
  intro x2_762 p763 q764 q765
  refine ⟨fun c => ?_, fun c => ?_⟩
  · unfold qX12_mourner_J25
    refine sX12_refuse  hM1_761  ?_
    intro x4_767 M4_768 hM4_768 q769
    exact hQ _ _ (hM4_768.mono (by first | exact Int.le_refl _ | omega))
  · refine sX12_in (p0 := p2) (p2 := 0) (p4 := 4) hM1_761  ?_
    intro x5_771 p772 q773 q774
    refine ⟨fun c => ?_, fun c => ?_⟩
    · refine ⟨fun c => ?_, fun c => ?_, fun c => ?_, fun c => ?_, fun c => ?_⟩
      · refine ⟨by omega, ?_⟩
        refine ⟨by omega, ?_⟩
        intro x10_777 ex10_777 rx10_777
        have rbx10_777 : -2147483648 ≤ x10_777 ∧ x10_777 ≤ 2147483647 := rx10_777
        first | (have bx10_777 : -1 ≤ x10_777 ∧ x10_777 ≤ 29 := by rw [ex10_777]; exact ((bm_n (Or.inl rfl)).mp (hM1_761.bx _ _)).2.1 (by omega)) | skip
        have fx10_777 : x10_777 = M 5 (13 + p1) := by rw [ex10_777, h_M1_761, up2_n (by decide)]
        exact hQ _ _ (hM1_761.mono (by first | exact Int.le_refl _ | omega))
      · refine ⟨by omega, ?_⟩
        refine ⟨by omega, ?_⟩
        intro x13_779 ex13_779 rx13_779
        have bx13_779 : 0 ≤ x13_779 ∧ x13_779 ≤ 5 := by rw [ex13_779]; exact bm_c3.mp (hM1_761.bx _ _)
        have fx13_779 : x13_779 = M 3 p1 := by rw [ex13_779, h_M1_761, up2_n (by decide)]
        exact hQ _ _ (hM1_761.mono (by first | exact Int.le_refl _ | omega))
      · refine ⟨by omega, ?_⟩
        refine ⟨by omega, ?_⟩
        intro x16_781 ex16_781 rx16_781
        have rbx16_781 : -2147483648 ≤ x16_781 ∧ x16_781 ≤ 2147483647 := rx16_781
        first | (have bx16_781 : -1 ≤ x16_781 ∧ x16_781 ≤ 5 := by rw [ex16_781]; exact ((bm_n (Or.inl rfl)).mp (hM1_761.bx _ _)).2.2.1 (by omega)) | skip
        have fx16_781 : x16_781 = M 5 (21 + p1) := by rw [ex16_781, h_M1_761, up2_n (by decide)]
        exact hQ _ _ (hM1_761.mono (by first | exact Int.le_refl _ | omega))
      · refine ⟨by omega, ?_⟩
        refine ⟨by omega, ?_⟩
        intro x19_783 ex19_783 rx19_783
        have bx19_783 : -2147483648 ≤ x19_783 ∧ x19_783 ≤ 2147483647 := rx19_783
        have fx19_783 : x19_783 = M 5 (29 + p1) := by rw [ex19_783, h_M1_761, up2_n (by decide)]
        exact hQ _ _ (hM1_761.mono (by first | exact Int.le_refl _ | omega))
      · refine ⟨by omega, ?_⟩
        refine ⟨by omega, ?_⟩
        intro x22_785 ex22_785 rx22_785
        have rbx22_785 : -2147483648 ≤ x22_785 ∧ x22_785 ≤ 2147483647 := rx22_785
        first | (have bx22_785 : -1 ≤ x22_785 ∧ x22_785 ≤ 29 := by rw [ex22_785]; exact ((bm_n (Or.inl rfl)).mp (hM1_761.bx _ _)).2.1 (by omega)) | skip
        have fx22_785 : x22_785 = M 5 (13 + p1) := by rw [ex22_785, h_M1_761, up2_n (by decide)]
        refine sX12_nearest (p2 := x22_785) hM1_761 (Or.inl rfl) (by omega) ?_
        intro x23_786 p787 q788
        exact hQ _ _ (hM1_761.mono (by first | exact Int.le_refl _ | omega))
    · unfold qX12_mourner_J25
      refine sX12_refuse  hM1_761  ?_
      intro x4_790 M4_791 hM4_791 q792
      exact hQ _ _ (hM4_791.mono (by first | exact Int.le_refl _ | omega))
theorem sX12_isEnded {k0 : Nat} {p1 : Int} {b : Int} {M : Mem} {Q : Int → Mem → Prop} (hI : IM b M) (hk0 : isN k0) (hp : 0 ≤ p1 ∧ p1 ≤ 7) (hQ : ∀ z : Int, Q z M) : qX12_isEnded k0 p1 M Q := by
  unfold qX12_isEnded
  have hbn := hI.nn
  have ek0 : k0 = 5 ∨ k0 = 6 := hk0
  refine ⟨by omega, ?_⟩
  refine ⟨by omega, ?_⟩
  intro x3_793 ex3_793 rx3_793
  have bx3_793 : -2147483648 ≤ x3_793 ∧ x3_793 ≤ 2147483647 := rx3_793
  refine ⟨fun c => ?_, fun c => ?_⟩
  · exact hQ _
  · exact hQ _
theorem sX12_enters {p1 : Int} {b : Int} {M : Mem} {Q : Mem → Prop} (hI : IM b M) (hp : M 1 1 ≤ 23) (hQ : ∀ M' : Mem, IM b M' → (M' 1 1 = M 1 1 + 1) → Q M') : qX12_enters p1 M Q := by
  unfold qX12_enters
  have hbn := hI.nn
  have u1032 : 0 ≤ M 1 1 ∧ M 1 1 ≤ 24 := bm_c1_1.mp (hI.bx _ _)
  intro x1_1033 ex1_1033 rx1_1033
  have bx1_1033 : 0 ≤ x1_1033 ∧ x1_1033 ≤ 24 := by rw [ex1_1033]; exact bm_c1_1.mp (hI.bx _ _)
  refine ⟨by omega, ?_⟩
  refine ⟨by omega, ?_⟩
  intro M4_1034 h_M4_1034
  have hM4_1034 : IM (b) M4_1034 := by rw [h_M4_1034]; exact hI.up (by omega) (by simp [BM])
  intro x5_1035 ex5_1035 rx5_1035
  have bx5_1035 : 0 ≤ x5_1035 ∧ x5_1035 ≤ 24 := by rw [ex5_1035]; exact bm_c1_1.mp (hM4_1034.bx _ _)
  have fx5_1035 : x5_1035 = M 1 1 := by rw [ex5_1035, h_M4_1034, up2_n (by decide)]
  refine ⟨(by first | assumption | exact (by omega)), ?_⟩
  intro M7_1036 h_M7_1036
  have hM7_1036 : IM (b) M7_1036 := by rw [h_M7_1036]; exact hM4_1034.up (by omega) (bm_c1_1.mpr (by omega))
  have u1037 : 0 ≤ M7_1036 1 1 ∧ M7_1036 1 1 ≤ 24 := bm_c1_1.mp (hM7_1036.bx _ _)
  have t1038 : M7_1036 1 1 = x5_1035 + 1 := by rw [h_M7_1036, up2_s]
  exact hQ _ (hM7_1036.mono (by first | exact Int.le_refl _ | omega)) (by omega)
theorem sX12_goal_L27 {k1 : Nat} {p2 : Int} {p3 : Int}  {Q : Int → Mem → Prop} {b : Int} {M0 : Mem} (hk1 : isN k1) (hQ : ∀ z : Int, (0 ≤ z ∧ z ≤ 29) → Q z M0) : ∀ (n : Nat) (v4 v5 v6 v7 v8 : Int), IM (b) M0 → (0 ≤ v4 ∧ v4 ≤ 29 ∧ 0 ≤ v5 ∧ v5 ≤ 29 ∧ 1 ≤ v8 ∧ v8 ≤ 30 ∧ 0 ≤ p3 ∧ p3 ≤ 3) → iR v6 → iR v7 → 30 - v8 < (n : Int) → qX12_goal_L27 k1 p2 p3 Q n v4 v5 v6 v7 v8 M0 := by
  intro n
  induction n with
  | zero => intro v4 v5 v6 v7 v8 hI hv hrv6 hrv7 hm; exact absurd hm (by omega)
  | succ n ih =>
    intro v4 v5 v6 v7 v8 hI hv hrv6 hrv7 hm
    rw [qX12_goal_L27]
    have hbn := hI.nn
    have ek1 : k1 = 5 ∨ k1 = 6 := hk1
    refine sX12_gate  hI  ?_
    intro x7_1039 p1040 q1041
    refine ⟨(by first | assumption | exact (by omega)), ?_⟩
    intro x9_1042 ex9_1042 rx9_1042
    refine ⟨(by first | assumption | exact (by omega)), ?_⟩
    refine ⟨fun c => ?_, fun c => ?_⟩
    · refine ⟨(by first | assumption | exact (by omega)), ?_⟩
      exact hQ _ (by omega)
    · refine ⟨(by first | assumption | exact (by omega)), ?_⟩
      refine ⟨fun c => ?_, fun c => ?_⟩
      · unfold qX12_goal_J58
        unfold qX12_goal_J63
        refine sX12_gate  hI  ?_
        intro x15_1046 p1047 q1048
        refine ⟨(by first | assumption | exact (by omega)), ?_⟩
        refine ⟨fun c => ?_, fun c => ?_⟩
        · unfold qX12_goal_J84
          unfold qX12_goal_J89
          refine ⟨(by first | assumption | exact (by omega)), ?_⟩
          refine ⟨fun c => ?_, fun c => ?_⟩
          · unfold qX12_goal_J111
            unfold qX12_goal_J113
            refine ⟨(by first | assumption | exact (by omega)), ?_⟩
            refine ⟨fun c => ?_, fun c => ?_⟩
            · exact ih _ _ _ _ _ (hI.mono (by first | exact Int.le_refl _ | omega)) (by omega) (by first | assumption | exact (by omega)) (by first | assumption | exact (by omega)) (by omega)
            · refine ⟨(by first | assumption | exact (by omega)), ?_⟩
              refine ⟨fun c => ?_, fun c => ?_⟩
              · exact ih _ _ _ _ _ (hI.mono (by first | exact Int.le_refl _ | omega)) (by omega) (by first | assumption | exact (by omega)) (by first | assumption | exact (by omega)) (by omega)
              · exact ih _ _ _ _ _ (hI.mono (by first | exact Int.le_refl _ | omega)) (by omega) (by first | assumption | exact (by omega)) (by first | assumption | exact (by omega)) (by omega)
          · refine ⟨(by first | assumption | exact (by omega)), ?_⟩
            refine ⟨fun c => ?_, fun c => ?_⟩
            · unfold qX12_goal_J106
              unfold qX12_goal_J113
              refine ⟨(by first | assumption | exact (by omega)), ?_⟩
              refine ⟨fun c => ?_, fun c => ?_⟩
              · exact ih _ _ _ _ _ (hI.mono (by first | exact Int.le_refl _ | omega)) (by omega) (by first | assumption | exact (by omega)) (by first | assumption | exact (by omega)) (by omega)
              · refine ⟨(by first | assumption | exact (by omega)), ?_⟩
                refine ⟨fun c => ?_, fun c => ?_⟩
                · exact ih _ _ _ _ _ (hI.mono (by first | exact Int.le_refl _ | omega)) (by omega) (by first | assumption | exact (by omega)) (by first | assumption | exact (by omega)) (by omega)
                · exact ih _ _ _ _ _ (hI.mono (by first | exact Int.le_refl _ | omega)) (by omega) (by first | assumption | exact (by omega)) (by first | assumption | exact (by omega)) (by omega)
            · refine ⟨(by first | assumption | exact (by omega)), ?_⟩
              refine ⟨fun c => ?_, fun c => ?_⟩
              · unfold qX12_goal_J111
                unfold qX12_goal_J113
                refine ⟨(by first | assumption | exact (by omega)), ?_⟩
                refine ⟨fun c => ?_, fun c => ?_⟩
                · exact ih _ _ _ _ _ (hI.mono (by first | exact Int.le_refl _ | omega)) (by omega) (by first | assumption | exact (by omega)) (by first | assumption | exact (by omega)) (by omega)
                · refine ⟨(by first | assumption | exact (by omega)), ?_⟩
                  refine ⟨fun c => ?_, fun c => ?_⟩
                  · exact ih _ _ _ _ _ (hI.mono (by first | exact Int.le_refl _ | omega)) (by omega) (by first | assumption | exact (by omega)) (by first | assumption | exact (by omega)) (by omega)
                  · exact ih _ _ _ _ _ (hI.mono (by first | exact Int.le_refl _ | omega)) (by omega) (by first | assumption | exact (by omega)) (by first | assumption | exact (by omega)) (by omega)
              · unfold qX12_goal_J106
                unfold qX12_goal_J113
                refine ⟨(by first | assumption | exact (by omega)), ?_⟩
                refine ⟨fun c => ?_, fun c => ?_⟩
                · exact ih _ _ _ _ _ (hI.mono (by first | exact Int.le_refl _ | omega)) (by omega) (by first | assumption | exact (by omega)) (by first | assumption | exact (by omega)) (by omega)
                · refine ⟨(by first | assumption | exact (by omega)), ?_⟩
                  refine ⟨fun c => ?_, fun c => ?_⟩
                  · exact ih _ _ _ _ _ (hI.mono (by first | exact Int.le_refl _ | omega)) (by omega) (by first | assumption | exact (by omega)) (by first | assumption | exact (by omega)) (by omega)
                  · exact ih _ _ _ _ _ (hI.mono (by first | exact Int.le_refl _ | omega)) (by omega) (by first | assumption | exact (by omega)) (by first | assumption | exact (by omega)) (by omega)
        · refine sX12_onCell (p2 := v8) hI hk1 ?_
          intro x28_1073 p1074 q1075
          refine ⟨fun c => ?_, fun c => ?_⟩
          · unfold qX12_goal_J89
            refine ⟨(by first | assumption | exact (by omega)), ?_⟩
            refine ⟨fun c => ?_, fun c => ?_⟩
            · unfold qX12_goal_J111
              unfold qX12_goal_J113
              refine ⟨(by first | assumption | exact (by omega)), ?_⟩
              refine ⟨fun c => ?_, fun c => ?_⟩
              · exact ih _ _ _ _ _ (hI.mono (by first | exact Int.le_refl _ | omega)) (by omega) (by first | assumption | exact (by omega)) (by first | assumption | exact (by omega)) (by omega)
              · refine ⟨(by first | assumption | exact (by omega)), ?_⟩
                refine ⟨fun c => ?_, fun c => ?_⟩
                · exact ih _ _ _ _ _ (hI.mono (by first | exact Int.le_refl _ | omega)) (by omega) (by first | assumption | exact (by omega)) (by first | assumption | exact (by omega)) (by omega)
                · exact ih _ _ _ _ _ (hI.mono (by first | exact Int.le_refl _ | omega)) (by omega) (by first | assumption | exact (by omega)) (by first | assumption | exact (by omega)) (by omega)
            · refine ⟨(by first | assumption | exact (by omega)), ?_⟩
              refine ⟨fun c => ?_, fun c => ?_⟩
              · unfold qX12_goal_J106
                unfold qX12_goal_J113
                refine ⟨(by first | assumption | exact (by omega)), ?_⟩
                refine ⟨fun c => ?_, fun c => ?_⟩
                · exact ih _ _ _ _ _ (hI.mono (by first | exact Int.le_refl _ | omega)) (by omega) (by first | assumption | exact (by omega)) (by first | assumption | exact (by omega)) (by omega)
                · refine ⟨(by first | assumption | exact (by omega)), ?_⟩
                  refine ⟨fun c => ?_, fun c => ?_⟩
                  · exact ih _ _ _ _ _ (hI.mono (by first | exact Int.le_refl _ | omega)) (by omega) (by first | assumption | exact (by omega)) (by first | assumption | exact (by omega)) (by omega)
                  · exact ih _ _ _ _ _ (hI.mono (by first | exact Int.le_refl _ | omega)) (by omega) (by first | assumption | exact (by omega)) (by first | assumption | exact (by omega)) (by omega)
              · refine ⟨(by first | assumption | exact (by omega)), ?_⟩
                refine ⟨fun c => ?_, fun c => ?_⟩
                · unfold qX12_goal_J111
                  unfold qX12_goal_J113
                  refine ⟨(by first | assumption | exact (by omega)), ?_⟩
                  refine ⟨fun c => ?_, fun c => ?_⟩
                  · exact ih _ _ _ _ _ (hI.mono (by first | exact Int.le_refl _ | omega)) (by omega) (by first | assumption | exact (by omega)) (by first | assumption | exact (by omega)) (by omega)
                  · refine ⟨(by first | assumption | exact (by omega)), ?_⟩
                    refine ⟨fun c => ?_, fun c => ?_⟩
                    · exact ih _ _ _ _ _ (hI.mono (by first | exact Int.le_refl _ | omega)) (by omega) (by first | assumption | exact (by omega)) (by first | assumption | exact (by omega)) (by omega)
                    · exact ih _ _ _ _ _ (hI.mono (by first | exact Int.le_refl _ | omega)) (by omega) (by first | assumption | exact (by omega)) (by first | assumption | exact (by omega)) (by omega)
                · unfold qX12_goal_J106
                  unfold qX12_goal_J113
                  refine ⟨(by first | assumption | exact (by omega)), ?_⟩
                  refine ⟨fun c => ?_, fun c => ?_⟩
                  · exact ih _ _ _ _ _ (hI.mono (by first | exact Int.le_refl _ | omega)) (by omega) (by first | assumption | exact (by omega)) (by first | assumption | exact (by omega)) (by omega)
                  · refine ⟨(by first | assumption | exact (by omega)), ?_⟩
                    refine ⟨fun c => ?_, fun c => ?_⟩
                    · exact ih _ _ _ _ _ (hI.mono (by first | exact Int.le_refl _ | omega)) (by omega) (by first | assumption | exact (by omega)) (by first | assumption | exact (by omega)) (by omega)
                    · exact ih _ _ _ _ _ (hI.mono (by first | exact Int.le_refl _ | omega)) (by omega) (by first | assumption | exact (by omega)) (by first | assumption | exact (by omega)) (by omega)
          · unfold qX12_goal_J84
            unfold qX12_goal_J89
            refine ⟨(by first | assumption | exact (by omega)), ?_⟩
            refine ⟨fun c => ?_, fun c => ?_⟩
            · unfold qX12_goal_J111
              unfold qX12_goal_J113
              refine ⟨(by first | assumption | exact (by omega)), ?_⟩
              refine ⟨fun c => ?_, fun c => ?_⟩
              · exact ih _ _ _ _ _ (hI.mono (by first | exact Int.le_refl _ | omega)) (by omega) (by first | assumption | exact (by omega)) (by first | assumption | exact (by omega)) (by omega)
              · refine ⟨(by first | assumption | exact (by omega)), ?_⟩
                refine ⟨fun c => ?_, fun c => ?_⟩
                · exact ih _ _ _ _ _ (hI.mono (by first | exact Int.le_refl _ | omega)) (by omega) (by first | assumption | exact (by omega)) (by first | assumption | exact (by omega)) (by omega)
                · exact ih _ _ _ _ _ (hI.mono (by first | exact Int.le_refl _ | omega)) (by omega) (by first | assumption | exact (by omega)) (by first | assumption | exact (by omega)) (by omega)
            · refine ⟨(by first | assumption | exact (by omega)), ?_⟩
              refine ⟨fun c => ?_, fun c => ?_⟩
              · unfold qX12_goal_J106
                unfold qX12_goal_J113
                refine ⟨(by first | assumption | exact (by omega)), ?_⟩
                refine ⟨fun c => ?_, fun c => ?_⟩
                · exact ih _ _ _ _ _ (hI.mono (by first | exact Int.le_refl _ | omega)) (by omega) (by first | assumption | exact (by omega)) (by first | assumption | exact (by omega)) (by omega)
                · refine ⟨(by first | assumption | exact (by omega)), ?_⟩
                  refine ⟨fun c => ?_, fun c => ?_⟩
                  · exact ih _ _ _ _ _ (hI.mono (by first | exact Int.le_refl _ | omega)) (by omega) (by first | assumption | exact (by omega)) (by first | assumption | exact (by omega)) (by omega)
                  · exact ih _ _ _ _ _ (hI.mono (by first | exact Int.le_refl _ | omega)) (by omega) (by first | assumption | exact (by omega)) (by first | assumption | exact (by omega)) (by omega)
              · refine ⟨(by first | assumption | exact (by omega)), ?_⟩
                refine ⟨fun c => ?_, fun c => ?_⟩
                · unfold qX12_goal_J111
                  unfold qX12_goal_J113
                  refine ⟨(by first | assumption | exact (by omega)), ?_⟩
                  refine ⟨fun c => ?_, fun c => ?_⟩
                  · exact ih _ _ _ _ _ (hI.mono (by first | exact Int.le_refl _ | omega)) (by omega) (by first | assumption | exact (by omega)) (by first | assumption | exact (by omega)) (by omega)
                  · refine ⟨(by first | assumption | exact (by omega)), ?_⟩
                    refine ⟨fun c => ?_, fun c => ?_⟩
                    · exact ih _ _ _ _ _ (hI.mono (by first | exact Int.le_refl _ | omega)) (by omega) (by first | assumption | exact (by omega)) (by first | assumption | exact (by omega)) (by omega)
                    · exact ih _ _ _ _ _ (hI.mono (by first | exact Int.le_refl _ | omega)) (by omega) (by first | assumption | exact (by omega)) (by first | assumption | exact (by omega)) (by omega)
                · unfold qX12_goal_J106
                  unfold qX12_goal_J113
                  refine ⟨(by first | assumption | exact (by omega)), ?_⟩
                  refine ⟨fun c => ?_, fun c => ?_⟩
                  · exact ih _ _ _ _ _ (hI.mono (by first | exact Int.le_refl _ | omega)) (by omega) (by first | assumption | exact (by omega)) (by first | assumption | exact (by omega)) (by omega)
                  · refine ⟨(by first | assumption | exact (by omega)), ?_⟩
                    refine ⟨fun c => ?_, fun c => ?_⟩
                    · exact ih _ _ _ _ _ (hI.mono (by first | exact Int.le_refl _ | omega)) (by omega) (by first | assumption | exact (by omega)) (by first | assumption | exact (by omega)) (by omega)
                    · exact ih _ _ _ _ _ (hI.mono (by first | exact Int.le_refl _ | omega)) (by omega) (by first | assumption | exact (by omega)) (by first | assumption | exact (by omega)) (by omega)
      · refine ⟨by omega, ?_⟩
        refine ⟨by omega, ?_⟩
        intro x32_1123 ex32_1123 rx32_1123
        have bx32_1123 : -2147483648 ≤ x32_1123 ∧ x32_1123 ≤ 2147483647 := rx32_1123
        refine ⟨fun c => ?_, fun c => ?_⟩
        · unfold qX12_goal_J63
          refine sX12_gate  hI  ?_
          intro x15_1125 p1126 q1127
          refine ⟨(by first | assumption | exact (by omega)), ?_⟩
          refine ⟨fun c => ?_, fun c => ?_⟩
          · unfold qX12_goal_J84
            unfold qX12_goal_J89
            refine ⟨(by first | assumption | exact (by omega)), ?_⟩
            refine ⟨fun c => ?_, fun c => ?_⟩
            · unfold qX12_goal_J111
              unfold qX12_goal_J113
              refine ⟨(by first | assumption | exact (by omega)), ?_⟩
              refine ⟨fun c => ?_, fun c => ?_⟩
              · exact ih _ _ _ _ _ (hI.mono (by first | exact Int.le_refl _ | omega)) (by omega) (by first | assumption | exact (by omega)) (by first | assumption | exact (by omega)) (by omega)
              · refine ⟨(by first | assumption | exact (by omega)), ?_⟩
                refine ⟨fun c => ?_, fun c => ?_⟩
                · exact ih _ _ _ _ _ (hI.mono (by first | exact Int.le_refl _ | omega)) (by omega) (by first | assumption | exact (by omega)) (by first | assumption | exact (by omega)) (by omega)
                · exact ih _ _ _ _ _ (hI.mono (by first | exact Int.le_refl _ | omega)) (by omega) (by first | assumption | exact (by omega)) (by first | assumption | exact (by omega)) (by omega)
            · refine ⟨(by first | assumption | exact (by omega)), ?_⟩
              refine ⟨fun c => ?_, fun c => ?_⟩
              · unfold qX12_goal_J106
                unfold qX12_goal_J113
                refine ⟨(by first | assumption | exact (by omega)), ?_⟩
                refine ⟨fun c => ?_, fun c => ?_⟩
                · exact ih _ _ _ _ _ (hI.mono (by first | exact Int.le_refl _ | omega)) (by omega) (by first | assumption | exact (by omega)) (by first | assumption | exact (by omega)) (by omega)
                · refine ⟨(by first | assumption | exact (by omega)), ?_⟩
                  refine ⟨fun c => ?_, fun c => ?_⟩
                  · exact ih _ _ _ _ _ (hI.mono (by first | exact Int.le_refl _ | omega)) (by omega) (by first | assumption | exact (by omega)) (by first | assumption | exact (by omega)) (by omega)
                  · exact ih _ _ _ _ _ (hI.mono (by first | exact Int.le_refl _ | omega)) (by omega) (by first | assumption | exact (by omega)) (by first | assumption | exact (by omega)) (by omega)
              · refine ⟨(by first | assumption | exact (by omega)), ?_⟩
                refine ⟨fun c => ?_, fun c => ?_⟩
                · unfold qX12_goal_J111
                  unfold qX12_goal_J113
                  refine ⟨(by first | assumption | exact (by omega)), ?_⟩
                  refine ⟨fun c => ?_, fun c => ?_⟩
                  · exact ih _ _ _ _ _ (hI.mono (by first | exact Int.le_refl _ | omega)) (by omega) (by first | assumption | exact (by omega)) (by first | assumption | exact (by omega)) (by omega)
                  · refine ⟨(by first | assumption | exact (by omega)), ?_⟩
                    refine ⟨fun c => ?_, fun c => ?_⟩
                    · exact ih _ _ _ _ _ (hI.mono (by first | exact Int.le_refl _ | omega)) (by omega) (by first | assumption | exact (by omega)) (by first | assumption | exact (by omega)) (by omega)
                    · exact ih _ _ _ _ _ (hI.mono (by first | exact Int.le_refl _ | omega)) (by omega) (by first | assumption | exact (by omega)) (by first | assumption | exact (by omega)) (by omega)
                · unfold qX12_goal_J106
                  unfold qX12_goal_J113
                  refine ⟨(by first | assumption | exact (by omega)), ?_⟩
                  refine ⟨fun c => ?_, fun c => ?_⟩
                  · exact ih _ _ _ _ _ (hI.mono (by first | exact Int.le_refl _ | omega)) (by omega) (by first | assumption | exact (by omega)) (by first | assumption | exact (by omega)) (by omega)
                  · refine ⟨(by first | assumption | exact (by omega)), ?_⟩
                    refine ⟨fun c => ?_, fun c => ?_⟩
                    · exact ih _ _ _ _ _ (hI.mono (by first | exact Int.le_refl _ | omega)) (by omega) (by first | assumption | exact (by omega)) (by first | assumption | exact (by omega)) (by omega)
                    · exact ih _ _ _ _ _ (hI.mono (by first | exact Int.le_refl _ | omega)) (by omega) (by first | assumption | exact (by omega)) (by first | assumption | exact (by omega)) (by omega)
          · refine sX12_onCell (p2 := v8) hI hk1 ?_
            intro x28_1152 p1153 q1154
            refine ⟨fun c => ?_, fun c => ?_⟩
            · unfold qX12_goal_J89
              refine ⟨(by first | assumption | exact (by omega)), ?_⟩
              refine ⟨fun c => ?_, fun c => ?_⟩
              · unfold qX12_goal_J111
                unfold qX12_goal_J113
                refine ⟨(by first | assumption | exact (by omega)), ?_⟩
                refine ⟨fun c => ?_, fun c => ?_⟩
                · exact ih _ _ _ _ _ (hI.mono (by first | exact Int.le_refl _ | omega)) (by omega) (by first | assumption | exact (by omega)) (by first | assumption | exact (by omega)) (by omega)
                · refine ⟨(by first | assumption | exact (by omega)), ?_⟩
                  refine ⟨fun c => ?_, fun c => ?_⟩
                  · exact ih _ _ _ _ _ (hI.mono (by first | exact Int.le_refl _ | omega)) (by omega) (by first | assumption | exact (by omega)) (by first | assumption | exact (by omega)) (by omega)
                  · exact ih _ _ _ _ _ (hI.mono (by first | exact Int.le_refl _ | omega)) (by omega) (by first | assumption | exact (by omega)) (by first | assumption | exact (by omega)) (by omega)
              · refine ⟨(by first | assumption | exact (by omega)), ?_⟩
                refine ⟨fun c => ?_, fun c => ?_⟩
                · unfold qX12_goal_J106
                  unfold qX12_goal_J113
                  refine ⟨(by first | assumption | exact (by omega)), ?_⟩
                  refine ⟨fun c => ?_, fun c => ?_⟩
                  · exact ih _ _ _ _ _ (hI.mono (by first | exact Int.le_refl _ | omega)) (by omega) (by first | assumption | exact (by omega)) (by first | assumption | exact (by omega)) (by omega)
                  · refine ⟨(by first | assumption | exact (by omega)), ?_⟩
                    refine ⟨fun c => ?_, fun c => ?_⟩
                    · exact ih _ _ _ _ _ (hI.mono (by first | exact Int.le_refl _ | omega)) (by omega) (by first | assumption | exact (by omega)) (by first | assumption | exact (by omega)) (by omega)
                    · exact ih _ _ _ _ _ (hI.mono (by first | exact Int.le_refl _ | omega)) (by omega) (by first | assumption | exact (by omega)) (by first | assumption | exact (by omega)) (by omega)
                · refine ⟨(by first | assumption | exact (by omega)), ?_⟩
                  refine ⟨fun c => ?_, fun c => ?_⟩
                  · unfold qX12_goal_J111
                    unfold qX12_goal_J113
                    refine ⟨(by first | assumption | exact (by omega)), ?_⟩
                    refine ⟨fun c => ?_, fun c => ?_⟩
                    · exact ih _ _ _ _ _ (hI.mono (by first | exact Int.le_refl _ | omega)) (by omega) (by first | assumption | exact (by omega)) (by first | assumption | exact (by omega)) (by omega)
                    · refine ⟨(by first | assumption | exact (by omega)), ?_⟩
                      refine ⟨fun c => ?_, fun c => ?_⟩
                      · exact ih _ _ _ _ _ (hI.mono (by first | exact Int.le_refl _ | omega)) (by omega) (by first | assumption | exact (by omega)) (by first | assumption | exact (by omega)) (by omega)
                      · exact ih _ _ _ _ _ (hI.mono (by first | exact Int.le_refl _ | omega)) (by omega) (by first | assumption | exact (by omega)) (by first | assumption | exact (by omega)) (by omega)
                  · unfold qX12_goal_J106
                    unfold qX12_goal_J113
                    refine ⟨(by first | assumption | exact (by omega)), ?_⟩
                    refine ⟨fun c => ?_, fun c => ?_⟩
                    · exact ih _ _ _ _ _ (hI.mono (by first | exact Int.le_refl _ | omega)) (by omega) (by first | assumption | exact (by omega)) (by first | assumption | exact (by omega)) (by omega)
                    · refine ⟨(by first | assumption | exact (by omega)), ?_⟩
                      refine ⟨fun c => ?_, fun c => ?_⟩
                      · exact ih _ _ _ _ _ (hI.mono (by first | exact Int.le_refl _ | omega)) (by omega) (by first | assumption | exact (by omega)) (by first | assumption | exact (by omega)) (by omega)
                      · exact ih _ _ _ _ _ (hI.mono (by first | exact Int.le_refl _ | omega)) (by omega) (by first | assumption | exact (by omega)) (by first | assumption | exact (by omega)) (by omega)
            · unfold qX12_goal_J84
              unfold qX12_goal_J89
              refine ⟨(by first | assumption | exact (by omega)), ?_⟩
              refine ⟨fun c => ?_, fun c => ?_⟩
              · unfold qX12_goal_J111
                unfold qX12_goal_J113
                refine ⟨(by first | assumption | exact (by omega)), ?_⟩
                refine ⟨fun c => ?_, fun c => ?_⟩
                · exact ih _ _ _ _ _ (hI.mono (by first | exact Int.le_refl _ | omega)) (by omega) (by first | assumption | exact (by omega)) (by first | assumption | exact (by omega)) (by omega)
                · refine ⟨(by first | assumption | exact (by omega)), ?_⟩
                  refine ⟨fun c => ?_, fun c => ?_⟩
                  · exact ih _ _ _ _ _ (hI.mono (by first | exact Int.le_refl _ | omega)) (by omega) (by first | assumption | exact (by omega)) (by first | assumption | exact (by omega)) (by omega)
                  · exact ih _ _ _ _ _ (hI.mono (by first | exact Int.le_refl _ | omega)) (by omega) (by first | assumption | exact (by omega)) (by first | assumption | exact (by omega)) (by omega)
              · refine ⟨(by first | assumption | exact (by omega)), ?_⟩
                refine ⟨fun c => ?_, fun c => ?_⟩
                · unfold qX12_goal_J106
                  unfold qX12_goal_J113
                  refine ⟨(by first | assumption | exact (by omega)), ?_⟩
                  refine ⟨fun c => ?_, fun c => ?_⟩
                  · exact ih _ _ _ _ _ (hI.mono (by first | exact Int.le_refl _ | omega)) (by omega) (by first | assumption | exact (by omega)) (by first | assumption | exact (by omega)) (by omega)
                  · refine ⟨(by first | assumption | exact (by omega)), ?_⟩
                    refine ⟨fun c => ?_, fun c => ?_⟩
                    · exact ih _ _ _ _ _ (hI.mono (by first | exact Int.le_refl _ | omega)) (by omega) (by first | assumption | exact (by omega)) (by first | assumption | exact (by omega)) (by omega)
                    · exact ih _ _ _ _ _ (hI.mono (by first | exact Int.le_refl _ | omega)) (by omega) (by first | assumption | exact (by omega)) (by first | assumption | exact (by omega)) (by omega)
                · refine ⟨(by first | assumption | exact (by omega)), ?_⟩
                  refine ⟨fun c => ?_, fun c => ?_⟩
                  · unfold qX12_goal_J111
                    unfold qX12_goal_J113
                    refine ⟨(by first | assumption | exact (by omega)), ?_⟩
                    refine ⟨fun c => ?_, fun c => ?_⟩
                    · exact ih _ _ _ _ _ (hI.mono (by first | exact Int.le_refl _ | omega)) (by omega) (by first | assumption | exact (by omega)) (by first | assumption | exact (by omega)) (by omega)
                    · refine ⟨(by first | assumption | exact (by omega)), ?_⟩
                      refine ⟨fun c => ?_, fun c => ?_⟩
                      · exact ih _ _ _ _ _ (hI.mono (by first | exact Int.le_refl _ | omega)) (by omega) (by first | assumption | exact (by omega)) (by first | assumption | exact (by omega)) (by omega)
                      · exact ih _ _ _ _ _ (hI.mono (by first | exact Int.le_refl _ | omega)) (by omega) (by first | assumption | exact (by omega)) (by first | assumption | exact (by omega)) (by omega)
                  · unfold qX12_goal_J106
                    unfold qX12_goal_J113
                    refine ⟨(by first | assumption | exact (by omega)), ?_⟩
                    refine ⟨fun c => ?_, fun c => ?_⟩
                    · exact ih _ _ _ _ _ (hI.mono (by first | exact Int.le_refl _ | omega)) (by omega) (by first | assumption | exact (by omega)) (by first | assumption | exact (by omega)) (by omega)
                    · refine ⟨(by first | assumption | exact (by omega)), ?_⟩
                      refine ⟨fun c => ?_, fun c => ?_⟩
                      · exact ih _ _ _ _ _ (hI.mono (by first | exact Int.le_refl _ | omega)) (by omega) (by first | assumption | exact (by omega)) (by first | assumption | exact (by omega)) (by omega)
                      · exact ih _ _ _ _ _ (hI.mono (by first | exact Int.le_refl _ | omega)) (by omega) (by first | assumption | exact (by omega)) (by first | assumption | exact (by omega)) (by omega)
        · unfold qX12_goal_J58
          unfold qX12_goal_J63
          refine sX12_gate  hI  ?_
          intro x15_1202 p1203 q1204
          refine ⟨(by first | assumption | exact (by omega)), ?_⟩
          refine ⟨fun c => ?_, fun c => ?_⟩
          · unfold qX12_goal_J84
            unfold qX12_goal_J89
            refine ⟨(by first | assumption | exact (by omega)), ?_⟩
            refine ⟨fun c => ?_, fun c => ?_⟩
            · unfold qX12_goal_J111
              unfold qX12_goal_J113
              refine ⟨(by first | assumption | exact (by omega)), ?_⟩
              refine ⟨fun c => ?_, fun c => ?_⟩
              · exact ih _ _ _ _ _ (hI.mono (by first | exact Int.le_refl _ | omega)) (by omega) (by first | assumption | exact (by omega)) (by first | assumption | exact (by omega)) (by omega)
              · refine ⟨(by first | assumption | exact (by omega)), ?_⟩
                refine ⟨fun c => ?_, fun c => ?_⟩
                · exact ih _ _ _ _ _ (hI.mono (by first | exact Int.le_refl _ | omega)) (by omega) (by first | assumption | exact (by omega)) (by first | assumption | exact (by omega)) (by omega)
                · exact ih _ _ _ _ _ (hI.mono (by first | exact Int.le_refl _ | omega)) (by omega) (by first | assumption | exact (by omega)) (by first | assumption | exact (by omega)) (by omega)
            · refine ⟨(by first | assumption | exact (by omega)), ?_⟩
              refine ⟨fun c => ?_, fun c => ?_⟩
              · unfold qX12_goal_J106
                unfold qX12_goal_J113
                refine ⟨(by first | assumption | exact (by omega)), ?_⟩
                refine ⟨fun c => ?_, fun c => ?_⟩
                · exact ih _ _ _ _ _ (hI.mono (by first | exact Int.le_refl _ | omega)) (by omega) (by first | assumption | exact (by omega)) (by first | assumption | exact (by omega)) (by omega)
                · refine ⟨(by first | assumption | exact (by omega)), ?_⟩
                  refine ⟨fun c => ?_, fun c => ?_⟩
                  · exact ih _ _ _ _ _ (hI.mono (by first | exact Int.le_refl _ | omega)) (by omega) (by first | assumption | exact (by omega)) (by first | assumption | exact (by omega)) (by omega)
                  · exact ih _ _ _ _ _ (hI.mono (by first | exact Int.le_refl _ | omega)) (by omega) (by first | assumption | exact (by omega)) (by first | assumption | exact (by omega)) (by omega)
              · refine ⟨(by first | assumption | exact (by omega)), ?_⟩
                refine ⟨fun c => ?_, fun c => ?_⟩
                · unfold qX12_goal_J111
                  unfold qX12_goal_J113
                  refine ⟨(by first | assumption | exact (by omega)), ?_⟩
                  refine ⟨fun c => ?_, fun c => ?_⟩
                  · exact ih _ _ _ _ _ (hI.mono (by first | exact Int.le_refl _ | omega)) (by omega) (by first | assumption | exact (by omega)) (by first | assumption | exact (by omega)) (by omega)
                  · refine ⟨(by first | assumption | exact (by omega)), ?_⟩
                    refine ⟨fun c => ?_, fun c => ?_⟩
                    · exact ih _ _ _ _ _ (hI.mono (by first | exact Int.le_refl _ | omega)) (by omega) (by first | assumption | exact (by omega)) (by first | assumption | exact (by omega)) (by omega)
                    · exact ih _ _ _ _ _ (hI.mono (by first | exact Int.le_refl _ | omega)) (by omega) (by first | assumption | exact (by omega)) (by first | assumption | exact (by omega)) (by omega)
                · unfold qX12_goal_J106
                  unfold qX12_goal_J113
                  refine ⟨(by first | assumption | exact (by omega)), ?_⟩
                  refine ⟨fun c => ?_, fun c => ?_⟩
                  · exact ih _ _ _ _ _ (hI.mono (by first | exact Int.le_refl _ | omega)) (by omega) (by first | assumption | exact (by omega)) (by first | assumption | exact (by omega)) (by omega)
                  · refine ⟨(by first | assumption | exact (by omega)), ?_⟩
                    refine ⟨fun c => ?_, fun c => ?_⟩
                    · exact ih _ _ _ _ _ (hI.mono (by first | exact Int.le_refl _ | omega)) (by omega) (by first | assumption | exact (by omega)) (by first | assumption | exact (by omega)) (by omega)
                    · exact ih _ _ _ _ _ (hI.mono (by first | exact Int.le_refl _ | omega)) (by omega) (by first | assumption | exact (by omega)) (by first | assumption | exact (by omega)) (by omega)
          · refine sX12_onCell (p2 := v8) hI hk1 ?_
            intro x28_1229 p1230 q1231
            refine ⟨fun c => ?_, fun c => ?_⟩
            · unfold qX12_goal_J89
              refine ⟨(by first | assumption | exact (by omega)), ?_⟩
              refine ⟨fun c => ?_, fun c => ?_⟩
              · unfold qX12_goal_J111
                unfold qX12_goal_J113
                refine ⟨(by first | assumption | exact (by omega)), ?_⟩
                refine ⟨fun c => ?_, fun c => ?_⟩
                · exact ih _ _ _ _ _ (hI.mono (by first | exact Int.le_refl _ | omega)) (by omega) (by first | assumption | exact (by omega)) (by first | assumption | exact (by omega)) (by omega)
                · refine ⟨(by first | assumption | exact (by omega)), ?_⟩
                  refine ⟨fun c => ?_, fun c => ?_⟩
                  · exact ih _ _ _ _ _ (hI.mono (by first | exact Int.le_refl _ | omega)) (by omega) (by first | assumption | exact (by omega)) (by first | assumption | exact (by omega)) (by omega)
                  · exact ih _ _ _ _ _ (hI.mono (by first | exact Int.le_refl _ | omega)) (by omega) (by first | assumption | exact (by omega)) (by first | assumption | exact (by omega)) (by omega)
              · refine ⟨(by first | assumption | exact (by omega)), ?_⟩
                refine ⟨fun c => ?_, fun c => ?_⟩
                · unfold qX12_goal_J106
                  unfold qX12_goal_J113
                  refine ⟨(by first | assumption | exact (by omega)), ?_⟩
                  refine ⟨fun c => ?_, fun c => ?_⟩
                  · exact ih _ _ _ _ _ (hI.mono (by first | exact Int.le_refl _ | omega)) (by omega) (by first | assumption | exact (by omega)) (by first | assumption | exact (by omega)) (by omega)
                  · refine ⟨(by first | assumption | exact (by omega)), ?_⟩
                    refine ⟨fun c => ?_, fun c => ?_⟩
                    · exact ih _ _ _ _ _ (hI.mono (by first | exact Int.le_refl _ | omega)) (by omega) (by first | assumption | exact (by omega)) (by first | assumption | exact (by omega)) (by omega)
                    · exact ih _ _ _ _ _ (hI.mono (by first | exact Int.le_refl _ | omega)) (by omega) (by first | assumption | exact (by omega)) (by first | assumption | exact (by omega)) (by omega)
                · refine ⟨(by first | assumption | exact (by omega)), ?_⟩
                  refine ⟨fun c => ?_, fun c => ?_⟩
                  · unfold qX12_goal_J111
                    unfold qX12_goal_J113
                    refine ⟨(by first | assumption | exact (by omega)), ?_⟩
                    refine ⟨fun c => ?_, fun c => ?_⟩
                    · exact ih _ _ _ _ _ (hI.mono (by first | exact Int.le_refl _ | omega)) (by omega) (by first | assumption | exact (by omega)) (by first | assumption | exact (by omega)) (by omega)
                    · refine ⟨(by first | assumption | exact (by omega)), ?_⟩
                      refine ⟨fun c => ?_, fun c => ?_⟩
                      · exact ih _ _ _ _ _ (hI.mono (by first | exact Int.le_refl _ | omega)) (by omega) (by first | assumption | exact (by omega)) (by first | assumption | exact (by omega)) (by omega)
                      · exact ih _ _ _ _ _ (hI.mono (by first | exact Int.le_refl _ | omega)) (by omega) (by first | assumption | exact (by omega)) (by first | assumption | exact (by omega)) (by omega)
                  · unfold qX12_goal_J106
                    unfold qX12_goal_J113
                    refine ⟨(by first | assumption | exact (by omega)), ?_⟩
                    refine ⟨fun c => ?_, fun c => ?_⟩
                    · exact ih _ _ _ _ _ (hI.mono (by first | exact Int.le_refl _ | omega)) (by omega) (by first | assumption | exact (by omega)) (by first | assumption | exact (by omega)) (by omega)
                    · refine ⟨(by first | assumption | exact (by omega)), ?_⟩
                      refine ⟨fun c => ?_, fun c => ?_⟩
                      · exact ih _ _ _ _ _ (hI.mono (by first | exact Int.le_refl _ | omega)) (by omega) (by first | assumption | exact (by omega)) (by first | assumption | exact (by omega)) (by omega)
                      · exact ih _ _ _ _ _ (hI.mono (by first | exact Int.le_refl _ | omega)) (by omega) (by first | assumption | exact (by omega)) (by first | assumption | exact (by omega)) (by omega)
            · unfold qX12_goal_J84
              unfold qX12_goal_J89
              refine ⟨(by first | assumption | exact (by omega)), ?_⟩
              refine ⟨fun c => ?_, fun c => ?_⟩
              · unfold qX12_goal_J111
                unfold qX12_goal_J113
                refine ⟨(by first | assumption | exact (by omega)), ?_⟩
                refine ⟨fun c => ?_, fun c => ?_⟩
                · exact ih _ _ _ _ _ (hI.mono (by first | exact Int.le_refl _ | omega)) (by omega) (by first | assumption | exact (by omega)) (by first | assumption | exact (by omega)) (by omega)
                · refine ⟨(by first | assumption | exact (by omega)), ?_⟩
                  refine ⟨fun c => ?_, fun c => ?_⟩
                  · exact ih _ _ _ _ _ (hI.mono (by first | exact Int.le_refl _ | omega)) (by omega) (by first | assumption | exact (by omega)) (by first | assumption | exact (by omega)) (by omega)
                  · exact ih _ _ _ _ _ (hI.mono (by first | exact Int.le_refl _ | omega)) (by omega) (by first | assumption | exact (by omega)) (by first | assumption | exact (by omega)) (by omega)
              · refine ⟨(by first | assumption | exact (by omega)), ?_⟩
                refine ⟨fun c => ?_, fun c => ?_⟩
                · unfold qX12_goal_J106
                  unfold qX12_goal_J113
                  refine ⟨(by first | assumption | exact (by omega)), ?_⟩
                  refine ⟨fun c => ?_, fun c => ?_⟩
                  · exact ih _ _ _ _ _ (hI.mono (by first | exact Int.le_refl _ | omega)) (by omega) (by first | assumption | exact (by omega)) (by first | assumption | exact (by omega)) (by omega)
                  · refine ⟨(by first | assumption | exact (by omega)), ?_⟩
                    refine ⟨fun c => ?_, fun c => ?_⟩
                    · exact ih _ _ _ _ _ (hI.mono (by first | exact Int.le_refl _ | omega)) (by omega) (by first | assumption | exact (by omega)) (by first | assumption | exact (by omega)) (by omega)
                    · exact ih _ _ _ _ _ (hI.mono (by first | exact Int.le_refl _ | omega)) (by omega) (by first | assumption | exact (by omega)) (by first | assumption | exact (by omega)) (by omega)
                · refine ⟨(by first | assumption | exact (by omega)), ?_⟩
                  refine ⟨fun c => ?_, fun c => ?_⟩
                  · unfold qX12_goal_J111
                    unfold qX12_goal_J113
                    refine ⟨(by first | assumption | exact (by omega)), ?_⟩
                    refine ⟨fun c => ?_, fun c => ?_⟩
                    · exact ih _ _ _ _ _ (hI.mono (by first | exact Int.le_refl _ | omega)) (by omega) (by first | assumption | exact (by omega)) (by first | assumption | exact (by omega)) (by omega)
                    · refine ⟨(by first | assumption | exact (by omega)), ?_⟩
                      refine ⟨fun c => ?_, fun c => ?_⟩
                      · exact ih _ _ _ _ _ (hI.mono (by first | exact Int.le_refl _ | omega)) (by omega) (by first | assumption | exact (by omega)) (by first | assumption | exact (by omega)) (by omega)
                      · exact ih _ _ _ _ _ (hI.mono (by first | exact Int.le_refl _ | omega)) (by omega) (by first | assumption | exact (by omega)) (by first | assumption | exact (by omega)) (by omega)
                  · unfold qX12_goal_J106
                    unfold qX12_goal_J113
                    refine ⟨(by first | assumption | exact (by omega)), ?_⟩
                    refine ⟨fun c => ?_, fun c => ?_⟩
                    · exact ih _ _ _ _ _ (hI.mono (by first | exact Int.le_refl _ | omega)) (by omega) (by first | assumption | exact (by omega)) (by first | assumption | exact (by omega)) (by omega)
                    · refine ⟨(by first | assumption | exact (by omega)), ?_⟩
                      refine ⟨fun c => ?_, fun c => ?_⟩
                      · exact ih _ _ _ _ _ (hI.mono (by first | exact Int.le_refl _ | omega)) (by omega) (by first | assumption | exact (by omega)) (by first | assumption | exact (by omega)) (by omega)
                      · exact ih _ _ _ _ _ (hI.mono (by first | exact Int.le_refl _ | omega)) (by omega) (by first | assumption | exact (by omega)) (by first | assumption | exact (by omega)) (by omega)
theorem sX12_goal {k1 : Nat} {p2 : Int} {p3 : Int} {b : Int} {M : Mem} {Q : Int → Mem → Prop} (hI : IM b M) (hk1 : isN k1) (hp : 0 ≤ p2 ∧ p2 ≤ 5 ∧ 0 ≤ M k1 p2 ∧ 0 ≤ p3 ∧ p3 ≤ 3) (hQ : ∀ z : Int, (0 ≤ z ∧ z ≤ 29) → Q z M) : qX12_goal k1 p2 p3 M Q := by
  unfold qX12_goal
  have hbn := hI.nn
  have ek1 : k1 = 5 ∨ k1 = 6 := hk1
  refine ⟨by omega, ?_⟩
  refine ⟨by omega, ?_⟩
  intro x3_1278 ex3_1278 rx3_1278
  have rbx3_1278 : -2147483648 ≤ x3_1278 ∧ x3_1278 ≤ 2147483647 := rx3_1278
  have nbx3_1278 : BN (b) p2 x3_1278 := by rw [ex3_1278]; exact (bm_n hk1).mp (hI.bx _ _)
  first | (have bx3_1278 : -1 ≤ x3_1278 ∧ x3_1278 ≤ 29 := nbx3_1278.1 (by omega)) | (have bx3_1278 : -1 ≤ x3_1278 ∧ x3_1278 ≤ 29 := nbx3_1278.2.1 (by omega)) | skip
  refine ⟨by omega, ?_⟩
  refine ⟨by omega, ?_⟩
  intro x6_1279 ex6_1279 rx6_1279
  have bx6_1279 : -2147483648 ≤ x6_1279 ∧ x6_1279 ≤ 2147483647 := rx6_1279
  have cgx6_1279 : x6_1279 = M 2 (M k1 p2) := by rw [ex6_1279, ← ex3_1278]
  refine ⟨31, ?_⟩
  refine sX12_goal_L27 (b := b) (p2 := p2) (p3 := p3) (M0 := M) hk1 ?_ _ _ _ _ _ _ (hI.mono (by first | exact Int.le_refl _ | omega)) (by omega) (by first | assumption | exact (by omega)) (by first | assumption | exact (by omega)) (by omega)
  · exact hQ
theorem sX12_hearseGoes {k1 : Nat} {p2 : Int} {b : Int} {M : Mem} {Q : Mem → Prop} (hI : IM b M) (hk1 : isN k1) (hp : 0 ≤ p2 ∧ p2 ≤ 5 ∧ 0 ≤ M k1 p2) (hQ : ∀ M' : Mem, IM b M' → FrJ (fun k j => (k = k1 ∧ (j = p2 ∨ j = 6 + p2 ∨ j = 12)) ∨ k = 14 ∨ k = 13 ∨ (k = 1 ∧ j = 30) ∨ k = 16) M M' → Q M') : qX12_hearseGoes k1 p2 M Q := by
  unfold qX12_hearseGoes
  have hbn := hI.nn
  have ek1 : k1 = 5 ∨ k1 = 6 := hk1
  refine sX12_paceOf (p2 := p2) hI hk1 (by omega) ?_
  intro x1_1280 M1_1281 hM1_1281 gM1_1281 p1282 q1283
  have hFM1_1281 : FrJ (fun k j => (k = k1 ∧ (j = p2 ∨ j = 6 + p2 ∨ j = 12)) ∨ k = 14 ∨ k = 13 ∨ (k = 1 ∧ j = 30) ∨ k = 16) M M1_1281 := (FrJ.rf).tr (gM1_1281.mono (by intro k j h; omega))
  first | (have t1284 : M1_1281 k1 p2 = M k1 p2 := gM1_1281 k1 p2 (by omega)) | skip
  first | (have t1285 : M1_1281 k1 p2 = M k1 p2 := gM1_1281 k1 p2 (by omega)) | skip
  refine sX12_goal (p2 := p2) (p3 := x1_1280) hM1_1281 hk1 (by omega) ?_
  intro x2_1286 p1287 q1288
  refine ⟨by omega, ?_⟩
  refine ⟨by omega, ?_⟩
  intro x5_1289 ex5_1289 rx5_1289
  have rbx5_1289 : -2147483648 ≤ x5_1289 ∧ x5_1289 ≤ 2147483647 := rx5_1289
  have nbx5_1289 : BN (b) p2 x5_1289 := by rw [ex5_1289]; exact (bm_n hk1).mp (hM1_1281.bx _ _)
  first | (have bx5_1289 : -1 ≤ x5_1289 ∧ x5_1289 ≤ 29 := nbx5_1289.1 (by omega)) | (have bx5_1289 : -1 ≤ x5_1289 ∧ x5_1289 ≤ 29 := nbx5_1289.2.1 (by omega)) | skip
  refine ⟨fun c => ?_, fun c => ?_⟩
  · refine sX12_gate  hM1_1281  ?_
    intro x7_1291 p1292 q1293
    refine ⟨fun c => ?_, fun c => ?_⟩
    · intro M9_1295 h_M9_1295
      have hM9_1295 : IM (b) M9_1295 := by rw [h_M9_1295]; exact hM1_1281.up (isN.nu hk1 _) ((bm_n hk1).mpr (by first | assumption | exact ⟨by omega, by omega, by omega, by omega⟩))
      have hFM9_1295 : FrJ (fun k j => (k = k1 ∧ (j = p2 ∨ j = 6 + p2 ∨ j = 12)) ∨ k = 14 ∨ k = 13 ∨ (k = 1 ∧ j = 30) ∨ k = 16) M M9_1295 := by rw [h_M9_1295]; exact (hFM1_1281).up (by omega)
      exact hQ _ (hM9_1295.mono (by first | exact Int.le_refl _ | omega)) hFM9_1295
    · intro x10_1297 ex10_1297 rx10_1297
      have bx10_1297 : -2147483648 ≤ x10_1297 ∧ x10_1297 ≤ 2147483647 := rx10_1297
      intro x11_1298 ex11_1298 rx11_1298
      first | (have fx11_1298 : x11_1298 = x10_1297 + 1 := by rw [ex11_1298]; exact w32_id (by omega)) | skip
      intro M12_1299 h_M12_1299
      have hM12_1299 : IM (b) M12_1299 := by rw [h_M12_1299]; exact hM1_1281.up (isN.nu hk1 _) ((bm_n hk1).mpr (by first | assumption | exact ⟨by omega, by omega, by omega, by omega⟩))
      have hFM12_1299 : FrJ (fun k j => (k = k1 ∧ (j = p2 ∨ j = 6 + p2 ∨ j = 12)) ∨ k = 14 ∨ k = 13 ∨ (k = 1 ∧ j = 30) ∨ k = 16) M M12_1299 := by rw [h_M12_1299]; exact (hFM1_1281).up (by omega)
      intro x13_1300 ex13_1300 rx13_1300
      have bx13_1300 : -2147483648 ≤ x13_1300 ∧ x13_1300 ≤ 2147483647 := rx13_1300
      have fx13_1300 : x13_1300 = x11_1298 := by rw [ex13_1300, h_M12_1299, up2_s]
      refine ⟨by omega, ?_⟩
      refine ⟨by omega, ?_⟩
      intro M16_1301 h_M16_1301
      have hM16_1301 : IM (b) M16_1301 := by rw [h_M16_1301]; exact hM12_1299.up (isN.nu hk1 _) ((bm_n hk1).mpr (by first | assumption | exact ⟨by omega, by omega, by omega, by omega⟩))
      have hFM16_1301 : FrJ (fun k j => (k = k1 ∧ (j = p2 ∨ j = 6 + p2 ∨ j = 12)) ∨ k = 14 ∨ k = 13 ∨ (k = 1 ∧ j = 30) ∨ k = 16) M M16_1301 := by rw [h_M16_1301]; exact (hFM12_1299).up (by omega)
      intro M17_1302 h_M17_1302
      have hM17_1302 : IM (b) M17_1302 := by rw [h_M17_1302]; exact hM16_1301.up (isN.nu hk1 _) ((bm_n hk1).mpr (by first | assumption | exact ⟨by omega, by omega, by omega, by omega⟩))
      have hFM17_1302 : FrJ (fun k j => (k = k1 ∧ (j = p2 ∨ j = 6 + p2 ∨ j = 12)) ∨ k = 14 ∨ k = 13 ∨ (k = 1 ∧ j = 30) ∨ k = 16) M M17_1302 := by rw [h_M17_1302]; exact (hFM16_1301).up (by omega)
      exact hQ _ (hM17_1302.mono (by first | exact Int.le_refl _ | omega)) hFM17_1302
  · intro x18_1304 ex18_1304 rx18_1304
    have bx18_1304 : -2147483648 ≤ x18_1304 ∧ x18_1304 ≤ 2147483647 := rx18_1304
    intro x19_1305 ex19_1305 rx19_1305
    first | (have fx19_1305 : x19_1305 = x18_1304 + 1 := by rw [ex19_1305]; exact w32_id (by omega)) | skip
    intro M20_1306 h_M20_1306
    have hM20_1306 : IM (b) M20_1306 := by rw [h_M20_1306]; exact hM1_1281.up (by omega) (by simp [BM])
    have hFM20_1306 : FrJ (fun k j => (k = k1 ∧ (j = p2 ∨ j = 6 + p2 ∨ j = 12)) ∨ k = 14 ∨ k = 13 ∨ (k = 1 ∧ j = 30) ∨ k = 16) M M20_1306 := by rw [h_M20_1306]; exact (hFM1_1281).up (by omega)
    refine ⟨by omega, ?_⟩
    refine ⟨by omega, ?_⟩
    intro x23_1307 ex23_1307 rx23_1307
    have bx23_1307 : -2147483648 ≤ x23_1307 ∧ x23_1307 ≤ 2147483647 := rx23_1307
    have fx23_1307 : x23_1307 = M1_1281 16 x2_1286 := by rw [ex23_1307, h_M20_1306, up2_n (by decide)]
    intro x24_1308 ex24_1308 rx24_1308
    first | (have fx24_1308 : x24_1308 = x23_1307 + 1 := by rw [ex24_1308]; exact w32_id (by omega)) | skip
    intro M25_1309 h_M25_1309
    have hM25_1309 : IM (b) M25_1309 := by rw [h_M25_1309]; exact hM20_1306.up (by omega) (by simp [BM])
    have hFM25_1309 : FrJ (fun k j => (k = k1 ∧ (j = p2 ∨ j = 6 + p2 ∨ j = 12)) ∨ k = 14 ∨ k = 13 ∨ (k = 1 ∧ j = 30) ∨ k = 16) M M25_1309 := by rw [h_M25_1309]; exact (hFM20_1306).up (by omega)
    exact hQ _ (hM25_1309.mono (by first | exact Int.le_refl _ | omega)) hFM25_1309
/-- the line of the hearses on the street: on it, none twice -/
def LN (k1 : Nat) (M : Mem) : Prop := (∀ i, 0 ≤ i → i < M 1 35 → 0 ≤ M k1 (M 18 i)) ∧ ∀ i j, 0 ≤ i → i < j → j < M 1 35 → M 18 i ≠ M 18 j
def tOn (f : Int → Int) (v h : Int) : Int := if v < f h then 1 else 0
theorem tOn_b (f : Int → Int) (v h : Int) : 0 ≤ tOn f v h ∧ tOn f v h ≤ 1 ∧ tOn f v h ≤ tOn f (v - 1) h := by
  unfold tOn
  refine ⟨by split <;> decide, by split <;> decide, ?_⟩
  split
  · rw [if_pos (by omega)]; exact Int.le_refl _
  · split <;> decide
def sOn (f : Int → Int) (v : Int) : Int := tOn f v 0 + tOn f v 1 + tOn f v 2 + tOn f v 3 + tOn f v 4 + tOn f v 5
theorem sOn_hit {f : Int → Int} {v h : Int} (h0 : 0 ≤ h ∧ h ≤ 5) (hv : f h = v) : sOn f v + 1 ≤ sOn f (v - 1) ∧ sOn f v ≤ 5 := by
  have a0 := tOn_b f v 0
  have a1 := tOn_b f v 1
  have a2 := tOn_b f v 2
  have a3 := tOn_b f v 3
  have a4 := tOn_b f v 4
  have a5 := tOn_b f v 5
  have z1 : tOn f v h = 0 := by unfold tOn; rw [if_neg (by omega)]
  have z2 : tOn f (v - 1) h = 1 := by unfold tOn; rw [if_pos (by omega)]
  unfold sOn
  have : h = 0 ∨ h = 1 ∨ h = 2 ∨ h = 3 ∨ h = 4 ∨ h = 5 := by omega
  rcases this with rfl | rfl | rfl | rfl | rfl | rfl <;> omega
theorem sOn_mono (f : Int → Int) (v : Int) : sOn f v ≤ sOn f (v - 1) := by
  have a0 := tOn_b f v 0
  have a1 := tOn_b f v 1
  have a2 := tOn_b f v 2
  have a3 := tOn_b f v 3
  have a4 := tOn_b f v 4
  have a5 := tOn_b f v 5
  unfold sOn
  omega
theorem sX12_laysLine_L12 {k1 : Nat} {Q : Mem → Prop} {b : Int} (hk1 : isN k1) (hQ : ∀ M' : Mem, IM b M' → LN k1 M' → Q M') : ∀ (n : Nat) (v2 : Int) (M : Mem), IM b M → (-1 ≤ v2 ∧ v2 ≤ 29) → M 1 35 ≤ sOn (M k1) v2 → (∀ i, 0 ≤ i → i < M 1 35 → v2 < M k1 (M 18 i)) → (∀ i j, 0 ≤ i → i < j → j < M 1 35 → M 18 i ≠ M 18 j) → v2 + 1 < (n : Int) → qX12_laysLine_L12 k1 Q n v2 M := by
  intro n
  induction n with
  | zero => intro v2 M hI hv h1 h2 h3 hm; exact absurd hm (by omega)
  | succ n ih =>
    intro v2 M hI hv h1 h2 h3 hm
    have hk5 : k1 = 5 ∨ k1 = 6 := hk1
    rw [qX12_laysLine_L12]
    refine ⟨(by omega), ⟨fun c => hQ _ hI ⟨fun i a q => by have := h2 i a q; omega, h3⟩, fun c => ?_⟩⟩
    refine sX12_onCell (p2 := v2) hI hk1 ?_
    intro x5 p5 _
    refine ⟨fun c2 => ?_, fun c2 => ?_⟩
    · exact ih (v2 + -1) M hI (by omega) (by have := sOn_mono (M k1) v2; rw [show v2 + -1 = v2 - 1 from by omega]; omega) (fun i a q => by have := h2 i a q; omega) h3 (by omega)
    · have hc := (p5.2.2 (by omega)).1
      have hh := sOn_hit (f := M k1) (v := v2) (h := x5) (by omega) hc
      intro x7 e7 _
      have b7 : 0 ≤ x7 ∧ x7 ≤ 6 := by rw [e7]; exact bm_c1_35.mp (hI.bx _ _)
      refine ⟨by omega, by omega, ?_⟩
      intro M10 h10
      have i10 : IM b M10 := by rw [h10]; exact hI.up (by omega) (bm_c18.mpr (by omega))
      intro x11 e11 _
      have f11 : x11 = x7 := by rw [e11, h10, up2_n (by decide), e7]
      refine ⟨(by omega), ?_⟩
      intro M13 h13
      have i13 : IM b M13 := by rw [h13]; exact i10.up (by omega) (bm_c1_35.mpr (by omega))
      have g1 : M13 1 35 = x7 + 1 := by rw [h13, up2_s, f11]
      have g2 : M13 k1 = M k1 := by rw [h13, up2_n (by omega), h10, up2_n (by omega)]
      have g3 : ∀ i, i ≠ x7 → M13 18 i = M 18 i := fun i hi => by rw [h13, up2_n (by decide), h10, up2_j hi]
      have g4 : M13 18 x7 = x5 := by rw [h13, up2_n (by decide), h10, up2_s]
      refine ih (v2 + -1) M13 i13 (by omega) ?_ ?_ ?_ (by omega)
      · rw [g1, g2, show v2 + -1 = v2 - 1 from by omega]; omega
      · intro i a q
        rw [g1] at q
        rw [g2]
        by_cases ci : i = x7
        · rw [ci, g4]; omega
        · rw [g3 i ci]
          have := h2 i a (by omega)
          omega
      · intro i j a q r
        rw [g1] at r
        by_cases cj : j = x7
        · rw [cj, g4, g3 i (by omega)]
          have := h2 i a (by omega)
          intro he
          rw [he] at this
          omega
        · rw [g3 j cj, g3 i (by omega)]
          exact h3 i j a q (by omega)
theorem sX12_laysLineF {k1 : Nat} {b : Int} {M : Mem} {Q : Mem → Prop} (hI : IM b M) (hk1 : isN k1) (hQ : ∀ M' : Mem, IM b M' → LN k1 M' → Q M') : qX12_laysLine k1 M Q := by
  have hk5 : k1 = 5 ∨ k1 = 6 := hk1
  unfold qX12_laysLine
  intro M1 h1
  have i1 : IM b M1 := by rw [h1]; exact hI.up (by omega) (bm_c1_35.mpr (by decide))
  have g1 : M1 1 35 = 0 := by rw [h1, up2_s]
  refine sX12_gate i1 ?_
  intro x2 p2 _
  refine ⟨31, sX12_laysLine_L12 hk1 hQ _ _ _ i1 (by omega) ?_ (fun i a q => by omega) (fun i j a q r => by omega) (by omega)⟩
  rw [g1]
  have a0 := tOn_b (M1 k1) (x2 - 1) 0
  have a1 := tOn_b (M1 k1) (x2 - 1) 1
  have a2 := tOn_b (M1 k1) (x2 - 1) 2
  have a3 := tOn_b (M1 k1) (x2 - 1) 3
  have a4 := tOn_b (M1 k1) (x2 - 1) 4
  have a5 := tOn_b (M1 k1) (x2 - 1) 5
  unfold sOn
  omega
theorem sX12_laysLine {k1 : Nat} {b : Int} {M : Mem} {Q : Mem → Prop} (hI : IM b M) (hk1 : isN k1) (hQ : ∀ M' : Mem, IM b M' → Q M') : qX12_laysLine k1 M Q := sX12_laysLineF hI hk1 (fun M' h _ => hQ M' h)
theorem sX12_mournerGoes {k1 : Nat} {p2 : Int} {b : Int} {M : Mem} {Q : Mem → Prop} (hI : IM b M) (hk1 : isN k1) (hp : 0 ≤ p2 ∧ p2 ≤ 7) (hQ : ∀ M' : Mem, IM b M' → Q M') : qX12_mournerGoes k1 p2 M Q := by
  unfold qX12_mournerGoes
  have hbn := hI.nn
  have ek1 : k1 = 5 ∨ k1 = 6 := hk1
  refine ⟨by omega, ?_⟩
  refine ⟨by omega, ?_⟩
  intro x3_1310 ex3_1310 rx3_1310
  have rbx3_1310 : -2147483648 ≤ x3_1310 ∧ x3_1310 ≤ 2147483647 := rx3_1310
  first | (have bx3_1310 : -1 ≤ x3_1310 ∧ x3_1310 ≤ 5 := by rw [ex3_1310]; exact ((bm_n hk1).mp (hI.bx _ _)).2.2.1 (by omega)) | skip
  refine ⟨fun c => ?_, fun c => ?_⟩
  · unfold qX12_mournerGoes_J27
    refine ⟨by omega, ?_⟩
    refine ⟨by omega, ?_⟩
    intro x7_1312 ex7_1312 rx7_1312
    have rbx7_1312 : -2147483648 ≤ x7_1312 ∧ x7_1312 ≤ 2147483647 := rx7_1312
    first | (have bx7_1312 : -1 ≤ x7_1312 ∧ x7_1312 ≤ 29 := by rw [ex7_1312]; exact ((bm_n hk1).mp (hI.bx _ _)).2.1 (by omega)) | skip
    refine sX12_nearest (p2 := x7_1312) hI hk1 (by omega) ?_
    intro x8_1313 p1314 q1315
    refine ⟨fun c => ?_, fun c => ?_⟩
    · unfold qX12_mournerGoes_J105
      refine ⟨(by first | assumption | exact (by omega)), ?_⟩
      refine ⟨fun c => ?_, fun c => ?_⟩
      · exact hQ _ (hI.mono (by first | exact Int.le_refl _ | omega))
      · refine ⟨by omega, ?_⟩
        refine ⟨by omega, ?_⟩
        intro x14_1319 ex14_1319 rx14_1319
        have rbx14_1319 : -2147483648 ≤ x14_1319 ∧ x14_1319 ≤ 2147483647 := rx14_1319
        have nbx14_1319 : BN (b) x3_1310 x14_1319 := by rw [ex14_1319]; exact (bm_n hk1).mp (hI.bx _ _)
        first | (have bx14_1319 : -1 ≤ x14_1319 ∧ x14_1319 ≤ 29 := nbx14_1319.1 (by omega)) | (have bx14_1319 : -1 ≤ x14_1319 ∧ x14_1319 ≤ 29 := nbx14_1319.2.1 (by omega)) | skip
        have cgx14_1319 : x14_1319 = M k1 (M k1 (21 + p2)) := by rw [ex14_1319, ← ex3_1310]
        refine ⟨(by first | assumption | exact (by omega)), ?_⟩
        refine ⟨fun c => ?_, fun c => ?_⟩
        · intro x17_1321 ex17_1321 rx17_1321
          have rbx17_1321 : -2147483648 ≤ x17_1321 ∧ x17_1321 ≤ 2147483647 := rx17_1321
          have nbx17_1321 : BN (b) x3_1310 x17_1321 := by rw [ex17_1321]; exact (bm_n hk1).mp (hI.bx _ _)
          first | (have bx17_1321 : -1 ≤ x17_1321 ∧ x17_1321 ≤ 29 := nbx17_1321.1 (by omega)) | (have bx17_1321 : -1 ≤ x17_1321 ∧ x17_1321 ≤ 29 := nbx17_1321.2.1 (by omega)) | skip
          have cgx17_1321 : x17_1321 = M k1 (M k1 (21 + p2)) := by rw [ex17_1321, ← ex3_1310]
          refine ⟨(by first | assumption | exact (by omega)), ?_⟩
          intro x19_1322 ex19_1322 rx19_1322
          unfold qX12_mournerGoes_J145
          refine ⟨by omega, ?_⟩
          refine ⟨by omega, ?_⟩
          refine ⟨(by first | assumption | exact (by omega)), ?_⟩
          intro M23_1323 h_M23_1323
          have hM23_1323 : IM (b) M23_1323 := by rw [h_M23_1323]; exact hI.up (isN.nu hk1 _) ((bm_n hk1).mpr (by first | assumption | exact ⟨by omega, by omega, by omega, by omega⟩))
          exact hQ _ (hM23_1323.mono (by first | exact Int.le_refl _ | omega))
        · intro x24_1325 ex24_1325 rx24_1325
          have rbx24_1325 : -2147483648 ≤ x24_1325 ∧ x24_1325 ≤ 2147483647 := rx24_1325
          have nbx24_1325 : BN (b) x3_1310 x24_1325 := by rw [ex24_1325]; exact (bm_n hk1).mp (hI.bx _ _)
          first | (have bx24_1325 : -1 ≤ x24_1325 ∧ x24_1325 ≤ 29 := nbx24_1325.1 (by omega)) | (have bx24_1325 : -1 ≤ x24_1325 ∧ x24_1325 ≤ 29 := nbx24_1325.2.1 (by omega)) | skip
          have cgx24_1325 : x24_1325 = M k1 (M k1 (21 + p2)) := by rw [ex24_1325, ← ex3_1310]
          refine ⟨(by first | assumption | exact (by omega)), ?_⟩
          intro x26_1326 ex26_1326 rx26_1326
          unfold qX12_mournerGoes_J145
          refine ⟨by omega, ?_⟩
          refine ⟨by omega, ?_⟩
          refine ⟨(by first | assumption | exact (by omega)), ?_⟩
          intro M23_1327 h_M23_1327
          have hM23_1327 : IM (b) M23_1327 := by rw [h_M23_1327]; exact hI.up (isN.nu hk1 _) ((bm_n hk1).mpr (by first | assumption | exact ⟨by omega, by omega, by omega, by omega⟩))
          exact hQ _ (hM23_1327.mono (by first | exact Int.le_refl _ | omega))
    · refine ⟨(by first | assumption | exact (by omega)), ?_⟩
      refine ⟨fun c => ?_, fun c => ?_⟩
      · unfold qX12_mournerGoes_J75
        refine ⟨by omega, ?_⟩
        refine ⟨by omega, ?_⟩
        refine ⟨(by first | assumption | exact (by omega)), ?_⟩
        intro M32_1330 h_M32_1330
        have hM32_1330 : IM (b) M32_1330 := by rw [h_M32_1330]; exact hI.up (isN.nu hk1 _) ((bm_n hk1).mpr (by first | assumption | exact ⟨by omega, by omega, by omega, by omega⟩))
        intro x33_1331 ex33_1331 rx33_1331
        have bx33_1331 : -2147483648 ≤ x33_1331 ∧ x33_1331 ≤ 2147483647 := rx33_1331
        have fx33_1331 : x33_1331 = M 1 31 := by rw [ex33_1331, h_M32_1330, up2_n (by omega)]
        intro x34_1332 ex34_1332 rx34_1332
        first | (have fx34_1332 : x34_1332 = x33_1331 + 1 := by rw [ex34_1332]; exact w32_id (by omega)) | skip
        intro M35_1333 h_M35_1333
        have hM35_1333 : IM (b) M35_1333 := by rw [h_M35_1333]; exact hM32_1330.up (by omega) (by simp [BM])
        refine ⟨by omega, ?_⟩
        refine ⟨by omega, ?_⟩
        intro x38_1334 ex38_1334 rx38_1334
        have bx38_1334 : -2147483648 ≤ x38_1334 ∧ x38_1334 ≤ 2147483647 := rx38_1334
        have fx38_1334 : x38_1334 = M 17 p2 := by rw [ex38_1334, h_M35_1333, up2_n (by decide), h_M32_1330, up2_n (by omega)]
        intro x39_1335 ex39_1335 rx39_1335
        first | (have fx39_1335 : x39_1335 = x38_1334 + 1 := by rw [ex39_1335]; exact w32_id (by omega)) | skip
        intro M40_1336 h_M40_1336
        have hM40_1336 : IM (b) M40_1336 := by rw [h_M40_1336]; exact hM35_1333.up (by omega) (by simp [BM])
        unfold qX12_mournerGoes_J105
        refine ⟨(by first | assumption | exact (by omega)), ?_⟩
        refine ⟨fun c => ?_, fun c => ?_⟩
        · exact hQ _ (hM40_1336.mono (by first | exact Int.le_refl _ | omega))
        · refine ⟨by omega, ?_⟩
          refine ⟨by omega, ?_⟩
          intro x14_1339 ex14_1339 rx14_1339
          have rbx14_1339 : -2147483648 ≤ x14_1339 ∧ x14_1339 ≤ 2147483647 := rx14_1339
          have nbx14_1339 : BN (b) x8_1313 x14_1339 := by rw [ex14_1339]; exact (bm_n hk1).mp (hM40_1336.bx _ _)
          first | (have bx14_1339 : -1 ≤ x14_1339 ∧ x14_1339 ≤ 29 := nbx14_1339.1 (by omega)) | (have bx14_1339 : -1 ≤ x14_1339 ∧ x14_1339 ≤ 29 := nbx14_1339.2.1 (by omega)) | skip
          have fx14_1339 : x14_1339 = M32_1330 k1 x8_1313 := by rw [ex14_1339, h_M40_1336, up2_n (by omega), h_M35_1333, up2_n (by omega)]
          refine ⟨(by first | assumption | exact (by omega)), ?_⟩
          refine ⟨fun c => ?_, fun c => ?_⟩
          · intro x17_1341 ex17_1341 rx17_1341
            have rbx17_1341 : -2147483648 ≤ x17_1341 ∧ x17_1341 ≤ 2147483647 := rx17_1341
            have nbx17_1341 : BN (b) x8_1313 x17_1341 := by rw [ex17_1341]; exact (bm_n hk1).mp (hM40_1336.bx _ _)
            first | (have bx17_1341 : -1 ≤ x17_1341 ∧ x17_1341 ≤ 29 := nbx17_1341.1 (by omega)) | (have bx17_1341 : -1 ≤ x17_1341 ∧ x17_1341 ≤ 29 := nbx17_1341.2.1 (by omega)) | skip
            have fx17_1341 : x17_1341 = M32_1330 k1 x8_1313 := by rw [ex17_1341, h_M40_1336, up2_n (by omega), h_M35_1333, up2_n (by omega)]
            refine ⟨(by first | assumption | exact (by omega)), ?_⟩
            intro x19_1342 ex19_1342 rx19_1342
            unfold qX12_mournerGoes_J145
            refine ⟨by omega, ?_⟩
            refine ⟨by omega, ?_⟩
            refine ⟨(by first | assumption | exact (by omega)), ?_⟩
            intro M23_1343 h_M23_1343
            have hM23_1343 : IM (b) M23_1343 := by rw [h_M23_1343]; exact hM40_1336.up (isN.nu hk1 _) ((bm_n hk1).mpr (by first | assumption | exact ⟨by omega, by omega, by omega, by omega⟩))
            exact hQ _ (hM23_1343.mono (by first | exact Int.le_refl _ | omega))
          · intro x24_1345 ex24_1345 rx24_1345
            have rbx24_1345 : -2147483648 ≤ x24_1345 ∧ x24_1345 ≤ 2147483647 := rx24_1345
            have nbx24_1345 : BN (b) x8_1313 x24_1345 := by rw [ex24_1345]; exact (bm_n hk1).mp (hM40_1336.bx _ _)
            first | (have bx24_1345 : -1 ≤ x24_1345 ∧ x24_1345 ≤ 29 := nbx24_1345.1 (by omega)) | (have bx24_1345 : -1 ≤ x24_1345 ∧ x24_1345 ≤ 29 := nbx24_1345.2.1 (by omega)) | skip
            have fx24_1345 : x24_1345 = M32_1330 k1 x8_1313 := by rw [ex24_1345, h_M40_1336, up2_n (by omega), h_M35_1333, up2_n (by omega)]
            refine ⟨(by first | assumption | exact (by omega)), ?_⟩
            intro x26_1346 ex26_1346 rx26_1346
            unfold qX12_mournerGoes_J145
            refine ⟨by omega, ?_⟩
            refine ⟨by omega, ?_⟩
            refine ⟨(by first | assumption | exact (by omega)), ?_⟩
            intro M23_1347 h_M23_1347
            have hM23_1347 : IM (b) M23_1347 := by rw [h_M23_1347]; exact hM40_1336.up (isN.nu hk1 _) ((bm_n hk1).mpr (by first | assumption | exact ⟨by omega, by omega, by omega, by omega⟩))
            exact hQ _ (hM23_1347.mono (by first | exact Int.le_refl _ | omega))
      · refine ⟨by omega, ?_⟩
        refine ⟨by omega, ?_⟩
        intro x43_1349 ex43_1349 rx43_1349
        have rbx43_1349 : -2147483648 ≤ x43_1349 ∧ x43_1349 ≤ 2147483647 := rx43_1349
        have nbx43_1349 : BN (b) x8_1313 x43_1349 := by rw [ex43_1349]; exact (bm_n hk1).mp (hI.bx _ _)
        first | (have bx43_1349 : -1 ≤ x43_1349 ∧ x43_1349 ≤ 29 := nbx43_1349.1 (by omega)) | (have bx43_1349 : -1 ≤ x43_1349 ∧ x43_1349 ≤ 29 := nbx43_1349.2.1 (by omega)) | skip
        refine ⟨(by first | assumption | exact (by omega)), ?_⟩
        intro x45_1350 px45_1350 nx45_1350
        have bx45_1350 : 0 ≤ x45_1350 ∧ (x43_1349 - x7_1312 = x45_1350 ∨ x43_1349 - x7_1312 = -x45_1350) := by omega
        refine ⟨by omega, ?_⟩
        refine ⟨by omega, ?_⟩
        intro x48_1351 ex48_1351 rx48_1351
        have rbx48_1351 : -2147483648 ≤ x48_1351 ∧ x48_1351 ≤ 2147483647 := rx48_1351
        have nbx48_1351 : BN (b) x3_1310 x48_1351 := by rw [ex48_1351]; exact (bm_n hk1).mp (hI.bx _ _)
        first | (have bx48_1351 : -1 ≤ x48_1351 ∧ x48_1351 ≤ 29 := nbx48_1351.1 (by omega)) | (have bx48_1351 : -1 ≤ x48_1351 ∧ x48_1351 ≤ 29 := nbx48_1351.2.1 (by omega)) | skip
        have cgx48_1351 : x48_1351 = M k1 (M k1 (21 + p2)) := by rw [ex48_1351, ← ex3_1310]
        refine ⟨(by first | assumption | exact (by omega)), ?_⟩
        intro x50_1352 px50_1352 nx50_1352
        have bx50_1352 : 0 ≤ x50_1352 ∧ (x48_1351 - x7_1312 = x50_1352 ∨ x48_1351 - x7_1312 = -x50_1352) := by omega
        refine ⟨(by first | assumption | exact (by omega)), ?_⟩
        refine ⟨(by first | assumption | exact (by omega)), ?_⟩
        refine ⟨fun c => ?_, fun c => ?_⟩
        · unfold qX12_mournerGoes_J105
          refine ⟨(by first | assumption | exact (by omega)), ?_⟩
          refine ⟨fun c => ?_, fun c => ?_⟩
          · exact hQ _ (hI.mono (by first | exact Int.le_refl _ | omega))
          · refine ⟨by omega, ?_⟩
            refine ⟨by omega, ?_⟩
            intro x14_1356 ex14_1356 rx14_1356
            have rbx14_1356 : -2147483648 ≤ x14_1356 ∧ x14_1356 ≤ 2147483647 := rx14_1356
            have nbx14_1356 : BN (b) x3_1310 x14_1356 := by rw [ex14_1356]; exact (bm_n hk1).mp (hI.bx _ _)
            first | (have bx14_1356 : -1 ≤ x14_1356 ∧ x14_1356 ≤ 29 := nbx14_1356.1 (by omega)) | (have bx14_1356 : -1 ≤ x14_1356 ∧ x14_1356 ≤ 29 := nbx14_1356.2.1 (by omega)) | skip
            have cgx14_1356 : x14_1356 = M k1 (M k1 (21 + p2)) := by rw [ex14_1356, ← ex3_1310]
            refine ⟨(by first | assumption | exact (by omega)), ?_⟩
            refine ⟨fun c => ?_, fun c => ?_⟩
            · intro x17_1358 ex17_1358 rx17_1358
              have rbx17_1358 : -2147483648 ≤ x17_1358 ∧ x17_1358 ≤ 2147483647 := rx17_1358
              have nbx17_1358 : BN (b) x3_1310 x17_1358 := by rw [ex17_1358]; exact (bm_n hk1).mp (hI.bx _ _)
              first | (have bx17_1358 : -1 ≤ x17_1358 ∧ x17_1358 ≤ 29 := nbx17_1358.1 (by omega)) | (have bx17_1358 : -1 ≤ x17_1358 ∧ x17_1358 ≤ 29 := nbx17_1358.2.1 (by omega)) | skip
              have cgx17_1358 : x17_1358 = M k1 (M k1 (21 + p2)) := by rw [ex17_1358, ← ex3_1310]
              refine ⟨(by first | assumption | exact (by omega)), ?_⟩
              intro x19_1359 ex19_1359 rx19_1359
              unfold qX12_mournerGoes_J145
              refine ⟨by omega, ?_⟩
              refine ⟨by omega, ?_⟩
              refine ⟨(by first | assumption | exact (by omega)), ?_⟩
              intro M23_1360 h_M23_1360
              have hM23_1360 : IM (b) M23_1360 := by rw [h_M23_1360]; exact hI.up (isN.nu hk1 _) ((bm_n hk1).mpr (by first | assumption | exact ⟨by omega, by omega, by omega, by omega⟩))
              exact hQ _ (hM23_1360.mono (by first | exact Int.le_refl _ | omega))
            · intro x24_1362 ex24_1362 rx24_1362
              have rbx24_1362 : -2147483648 ≤ x24_1362 ∧ x24_1362 ≤ 2147483647 := rx24_1362
              have nbx24_1362 : BN (b) x3_1310 x24_1362 := by rw [ex24_1362]; exact (bm_n hk1).mp (hI.bx _ _)
              first | (have bx24_1362 : -1 ≤ x24_1362 ∧ x24_1362 ≤ 29 := nbx24_1362.1 (by omega)) | (have bx24_1362 : -1 ≤ x24_1362 ∧ x24_1362 ≤ 29 := nbx24_1362.2.1 (by omega)) | skip
              have cgx24_1362 : x24_1362 = M k1 (M k1 (21 + p2)) := by rw [ex24_1362, ← ex3_1310]
              refine ⟨(by first | assumption | exact (by omega)), ?_⟩
              intro x26_1363 ex26_1363 rx26_1363
              unfold qX12_mournerGoes_J145
              refine ⟨by omega, ?_⟩
              refine ⟨by omega, ?_⟩
              refine ⟨(by first | assumption | exact (by omega)), ?_⟩
              intro M23_1364 h_M23_1364
              have hM23_1364 : IM (b) M23_1364 := by rw [h_M23_1364]; exact hI.up (isN.nu hk1 _) ((bm_n hk1).mpr (by first | assumption | exact ⟨by omega, by omega, by omega, by omega⟩))
              exact hQ _ (hM23_1364.mono (by first | exact Int.le_refl _ | omega))
        · unfold qX12_mournerGoes_J75
          refine ⟨by omega, ?_⟩
          refine ⟨by omega, ?_⟩
          refine ⟨(by first | assumption | exact (by omega)), ?_⟩
          intro M32_1366 h_M32_1366
          have hM32_1366 : IM (b) M32_1366 := by rw [h_M32_1366]; exact hI.up (isN.nu hk1 _) ((bm_n hk1).mpr (by first | assumption | exact ⟨by omega, by omega, by omega, by omega⟩))
          intro x33_1367 ex33_1367 rx33_1367
          have bx33_1367 : -2147483648 ≤ x33_1367 ∧ x33_1367 ≤ 2147483647 := rx33_1367
          have fx33_1367 : x33_1367 = M 1 31 := by rw [ex33_1367, h_M32_1366, up2_n (by omega)]
          intro x34_1368 ex34_1368 rx34_1368
          first | (have fx34_1368 : x34_1368 = x33_1367 + 1 := by rw [ex34_1368]; exact w32_id (by omega)) | skip
          intro M35_1369 h_M35_1369
          have hM35_1369 : IM (b) M35_1369 := by rw [h_M35_1369]; exact hM32_1366.up (by omega) (by simp [BM])
          refine ⟨by omega, ?_⟩
          refine ⟨by omega, ?_⟩
          intro x38_1370 ex38_1370 rx38_1370
          have bx38_1370 : -2147483648 ≤ x38_1370 ∧ x38_1370 ≤ 2147483647 := rx38_1370
          have fx38_1370 : x38_1370 = M 17 p2 := by rw [ex38_1370, h_M35_1369, up2_n (by decide), h_M32_1366, up2_n (by omega)]
          intro x39_1371 ex39_1371 rx39_1371
          first | (have fx39_1371 : x39_1371 = x38_1370 + 1 := by rw [ex39_1371]; exact w32_id (by omega)) | skip
          intro M40_1372 h_M40_1372
          have hM40_1372 : IM (b) M40_1372 := by rw [h_M40_1372]; exact hM35_1369.up (by omega) (by simp [BM])
          unfold qX12_mournerGoes_J105
          refine ⟨(by first | assumption | exact (by omega)), ?_⟩
          refine ⟨fun c => ?_, fun c => ?_⟩
          · exact hQ _ (hM40_1372.mono (by first | exact Int.le_refl _ | omega))
          · refine ⟨by omega, ?_⟩
            refine ⟨by omega, ?_⟩
            intro x14_1375 ex14_1375 rx14_1375
            have rbx14_1375 : -2147483648 ≤ x14_1375 ∧ x14_1375 ≤ 2147483647 := rx14_1375
            have nbx14_1375 : BN (b) x8_1313 x14_1375 := by rw [ex14_1375]; exact (bm_n hk1).mp (hM40_1372.bx _ _)
            first | (have bx14_1375 : -1 ≤ x14_1375 ∧ x14_1375 ≤ 29 := nbx14_1375.1 (by omega)) | (have bx14_1375 : -1 ≤ x14_1375 ∧ x14_1375 ≤ 29 := nbx14_1375.2.1 (by omega)) | skip
            have fx14_1375 : x14_1375 = M32_1366 k1 x8_1313 := by rw [ex14_1375, h_M40_1372, up2_n (by omega), h_M35_1369, up2_n (by omega)]
            refine ⟨(by first | assumption | exact (by omega)), ?_⟩
            refine ⟨fun c => ?_, fun c => ?_⟩
            · intro x17_1377 ex17_1377 rx17_1377
              have rbx17_1377 : -2147483648 ≤ x17_1377 ∧ x17_1377 ≤ 2147483647 := rx17_1377
              have nbx17_1377 : BN (b) x8_1313 x17_1377 := by rw [ex17_1377]; exact (bm_n hk1).mp (hM40_1372.bx _ _)
              first | (have bx17_1377 : -1 ≤ x17_1377 ∧ x17_1377 ≤ 29 := nbx17_1377.1 (by omega)) | (have bx17_1377 : -1 ≤ x17_1377 ∧ x17_1377 ≤ 29 := nbx17_1377.2.1 (by omega)) | skip
              have fx17_1377 : x17_1377 = M32_1366 k1 x8_1313 := by rw [ex17_1377, h_M40_1372, up2_n (by omega), h_M35_1369, up2_n (by omega)]
              refine ⟨(by first | assumption | exact (by omega)), ?_⟩
              intro x19_1378 ex19_1378 rx19_1378
              unfold qX12_mournerGoes_J145
              refine ⟨by omega, ?_⟩
              refine ⟨by omega, ?_⟩
              refine ⟨(by first | assumption | exact (by omega)), ?_⟩
              intro M23_1379 h_M23_1379
              have hM23_1379 : IM (b) M23_1379 := by rw [h_M23_1379]; exact hM40_1372.up (isN.nu hk1 _) ((bm_n hk1).mpr (by first | assumption | exact ⟨by omega, by omega, by omega, by omega⟩))
              exact hQ _ (hM23_1379.mono (by first | exact Int.le_refl _ | omega))
            · intro x24_1381 ex24_1381 rx24_1381
              have rbx24_1381 : -2147483648 ≤ x24_1381 ∧ x24_1381 ≤ 2147483647 := rx24_1381
              have nbx24_1381 : BN (b) x8_1313 x24_1381 := by rw [ex24_1381]; exact (bm_n hk1).mp (hM40_1372.bx _ _)
              first | (have bx24_1381 : -1 ≤ x24_1381 ∧ x24_1381 ≤ 29 := nbx24_1381.1 (by omega)) | (have bx24_1381 : -1 ≤ x24_1381 ∧ x24_1381 ≤ 29 := nbx24_1381.2.1 (by omega)) | skip
              have fx24_1381 : x24_1381 = M32_1366 k1 x8_1313 := by rw [ex24_1381, h_M40_1372, up2_n (by omega), h_M35_1369, up2_n (by omega)]
              refine ⟨(by first | assumption | exact (by omega)), ?_⟩
              intro x26_1382 ex26_1382 rx26_1382
              unfold qX12_mournerGoes_J145
              refine ⟨by omega, ?_⟩
              refine ⟨by omega, ?_⟩
              refine ⟨(by first | assumption | exact (by omega)), ?_⟩
              intro M23_1383 h_M23_1383
              have hM23_1383 : IM (b) M23_1383 := by rw [h_M23_1383]; exact hM40_1372.up (isN.nu hk1 _) ((bm_n hk1).mpr (by first | assumption | exact ⟨by omega, by omega, by omega, by omega⟩))
              exact hQ _ (hM23_1383.mono (by first | exact Int.le_refl _ | omega))
  · refine sX12_isOn (p1 := x3_1310) hI hk1 (by omega) ?_
    intro x54_1385 p1386 q1387 q1388
    refine ⟨fun c => ?_, fun c => ?_⟩
    · unfold qX12_mournerGoes_J27
      refine ⟨by omega, ?_⟩
      refine ⟨by omega, ?_⟩
      intro x7_1390 ex7_1390 rx7_1390
      have rbx7_1390 : -2147483648 ≤ x7_1390 ∧ x7_1390 ≤ 2147483647 := rx7_1390
      first | (have bx7_1390 : -1 ≤ x7_1390 ∧ x7_1390 ≤ 29 := by rw [ex7_1390]; exact ((bm_n hk1).mp (hI.bx _ _)).2.1 (by omega)) | skip
      refine sX12_nearest (p2 := x7_1390) hI hk1 (by omega) ?_
      intro x8_1391 p1392 q1393
      refine ⟨fun c => ?_, fun c => ?_⟩
      · unfold qX12_mournerGoes_J105
        refine ⟨(by first | assumption | exact (by omega)), ?_⟩
        refine ⟨fun c => ?_, fun c => ?_⟩
        · exact hQ _ (hI.mono (by first | exact Int.le_refl _ | omega))
        · refine ⟨by omega, ?_⟩
          refine ⟨by omega, ?_⟩
          intro x14_1397 ex14_1397 rx14_1397
          have rbx14_1397 : -2147483648 ≤ x14_1397 ∧ x14_1397 ≤ 2147483647 := rx14_1397
          have nbx14_1397 : BN (b) x3_1310 x14_1397 := by rw [ex14_1397]; exact (bm_n hk1).mp (hI.bx _ _)
          first | (have bx14_1397 : -1 ≤ x14_1397 ∧ x14_1397 ≤ 29 := nbx14_1397.1 (by omega)) | (have bx14_1397 : -1 ≤ x14_1397 ∧ x14_1397 ≤ 29 := nbx14_1397.2.1 (by omega)) | skip
          have cgx14_1397 : x14_1397 = M k1 (M k1 (21 + p2)) := by rw [ex14_1397, ← ex3_1310]
          refine ⟨(by first | assumption | exact (by omega)), ?_⟩
          refine ⟨fun c => ?_, fun c => ?_⟩
          · intro x17_1399 ex17_1399 rx17_1399
            have rbx17_1399 : -2147483648 ≤ x17_1399 ∧ x17_1399 ≤ 2147483647 := rx17_1399
            have nbx17_1399 : BN (b) x3_1310 x17_1399 := by rw [ex17_1399]; exact (bm_n hk1).mp (hI.bx _ _)
            first | (have bx17_1399 : -1 ≤ x17_1399 ∧ x17_1399 ≤ 29 := nbx17_1399.1 (by omega)) | (have bx17_1399 : -1 ≤ x17_1399 ∧ x17_1399 ≤ 29 := nbx17_1399.2.1 (by omega)) | skip
            have cgx17_1399 : x17_1399 = M k1 (M k1 (21 + p2)) := by rw [ex17_1399, ← ex3_1310]
            refine ⟨(by first | assumption | exact (by omega)), ?_⟩
            intro x19_1400 ex19_1400 rx19_1400
            unfold qX12_mournerGoes_J145
            refine ⟨by omega, ?_⟩
            refine ⟨by omega, ?_⟩
            refine ⟨(by first | assumption | exact (by omega)), ?_⟩
            intro M23_1401 h_M23_1401
            have hM23_1401 : IM (b) M23_1401 := by rw [h_M23_1401]; exact hI.up (isN.nu hk1 _) ((bm_n hk1).mpr (by first | assumption | exact ⟨by omega, by omega, by omega, by omega⟩))
            exact hQ _ (hM23_1401.mono (by first | exact Int.le_refl _ | omega))
          · intro x24_1403 ex24_1403 rx24_1403
            have rbx24_1403 : -2147483648 ≤ x24_1403 ∧ x24_1403 ≤ 2147483647 := rx24_1403
            have nbx24_1403 : BN (b) x3_1310 x24_1403 := by rw [ex24_1403]; exact (bm_n hk1).mp (hI.bx _ _)
            first | (have bx24_1403 : -1 ≤ x24_1403 ∧ x24_1403 ≤ 29 := nbx24_1403.1 (by omega)) | (have bx24_1403 : -1 ≤ x24_1403 ∧ x24_1403 ≤ 29 := nbx24_1403.2.1 (by omega)) | skip
            have cgx24_1403 : x24_1403 = M k1 (M k1 (21 + p2)) := by rw [ex24_1403, ← ex3_1310]
            refine ⟨(by first | assumption | exact (by omega)), ?_⟩
            intro x26_1404 ex26_1404 rx26_1404
            unfold qX12_mournerGoes_J145
            refine ⟨by omega, ?_⟩
            refine ⟨by omega, ?_⟩
            refine ⟨(by first | assumption | exact (by omega)), ?_⟩
            intro M23_1405 h_M23_1405
            have hM23_1405 : IM (b) M23_1405 := by rw [h_M23_1405]; exact hI.up (isN.nu hk1 _) ((bm_n hk1).mpr (by first | assumption | exact ⟨by omega, by omega, by omega, by omega⟩))
            exact hQ _ (hM23_1405.mono (by first | exact Int.le_refl _ | omega))
      · refine ⟨(by first | assumption | exact (by omega)), ?_⟩
        refine ⟨fun c => ?_, fun c => ?_⟩
        · unfold qX12_mournerGoes_J75
          refine ⟨by omega, ?_⟩
          refine ⟨by omega, ?_⟩
          refine ⟨(by first | assumption | exact (by omega)), ?_⟩
          intro M32_1408 h_M32_1408
          have hM32_1408 : IM (b) M32_1408 := by rw [h_M32_1408]; exact hI.up (isN.nu hk1 _) ((bm_n hk1).mpr (by first | assumption | exact ⟨by omega, by omega, by omega, by omega⟩))
          intro x33_1409 ex33_1409 rx33_1409
          have bx33_1409 : -2147483648 ≤ x33_1409 ∧ x33_1409 ≤ 2147483647 := rx33_1409
          have fx33_1409 : x33_1409 = M 1 31 := by rw [ex33_1409, h_M32_1408, up2_n (by omega)]
          intro x34_1410 ex34_1410 rx34_1410
          first | (have fx34_1410 : x34_1410 = x33_1409 + 1 := by rw [ex34_1410]; exact w32_id (by omega)) | skip
          intro M35_1411 h_M35_1411
          have hM35_1411 : IM (b) M35_1411 := by rw [h_M35_1411]; exact hM32_1408.up (by omega) (by simp [BM])
          refine ⟨by omega, ?_⟩
          refine ⟨by omega, ?_⟩
          intro x38_1412 ex38_1412 rx38_1412
          have bx38_1412 : -2147483648 ≤ x38_1412 ∧ x38_1412 ≤ 2147483647 := rx38_1412
          have fx38_1412 : x38_1412 = M 17 p2 := by rw [ex38_1412, h_M35_1411, up2_n (by decide), h_M32_1408, up2_n (by omega)]
          intro x39_1413 ex39_1413 rx39_1413
          first | (have fx39_1413 : x39_1413 = x38_1412 + 1 := by rw [ex39_1413]; exact w32_id (by omega)) | skip
          intro M40_1414 h_M40_1414
          have hM40_1414 : IM (b) M40_1414 := by rw [h_M40_1414]; exact hM35_1411.up (by omega) (by simp [BM])
          unfold qX12_mournerGoes_J105
          refine ⟨(by first | assumption | exact (by omega)), ?_⟩
          refine ⟨fun c => ?_, fun c => ?_⟩
          · exact hQ _ (hM40_1414.mono (by first | exact Int.le_refl _ | omega))
          · refine ⟨by omega, ?_⟩
            refine ⟨by omega, ?_⟩
            intro x14_1417 ex14_1417 rx14_1417
            have rbx14_1417 : -2147483648 ≤ x14_1417 ∧ x14_1417 ≤ 2147483647 := rx14_1417
            have nbx14_1417 : BN (b) x8_1391 x14_1417 := by rw [ex14_1417]; exact (bm_n hk1).mp (hM40_1414.bx _ _)
            first | (have bx14_1417 : -1 ≤ x14_1417 ∧ x14_1417 ≤ 29 := nbx14_1417.1 (by omega)) | (have bx14_1417 : -1 ≤ x14_1417 ∧ x14_1417 ≤ 29 := nbx14_1417.2.1 (by omega)) | skip
            have fx14_1417 : x14_1417 = M32_1408 k1 x8_1391 := by rw [ex14_1417, h_M40_1414, up2_n (by omega), h_M35_1411, up2_n (by omega)]
            refine ⟨(by first | assumption | exact (by omega)), ?_⟩
            refine ⟨fun c => ?_, fun c => ?_⟩
            · intro x17_1419 ex17_1419 rx17_1419
              have rbx17_1419 : -2147483648 ≤ x17_1419 ∧ x17_1419 ≤ 2147483647 := rx17_1419
              have nbx17_1419 : BN (b) x8_1391 x17_1419 := by rw [ex17_1419]; exact (bm_n hk1).mp (hM40_1414.bx _ _)
              first | (have bx17_1419 : -1 ≤ x17_1419 ∧ x17_1419 ≤ 29 := nbx17_1419.1 (by omega)) | (have bx17_1419 : -1 ≤ x17_1419 ∧ x17_1419 ≤ 29 := nbx17_1419.2.1 (by omega)) | skip
              have fx17_1419 : x17_1419 = M32_1408 k1 x8_1391 := by rw [ex17_1419, h_M40_1414, up2_n (by omega), h_M35_1411, up2_n (by omega)]
              refine ⟨(by first | assumption | exact (by omega)), ?_⟩
              intro x19_1420 ex19_1420 rx19_1420
              unfold qX12_mournerGoes_J145
              refine ⟨by omega, ?_⟩
              refine ⟨by omega, ?_⟩
              refine ⟨(by first | assumption | exact (by omega)), ?_⟩
              intro M23_1421 h_M23_1421
              have hM23_1421 : IM (b) M23_1421 := by rw [h_M23_1421]; exact hM40_1414.up (isN.nu hk1 _) ((bm_n hk1).mpr (by first | assumption | exact ⟨by omega, by omega, by omega, by omega⟩))
              exact hQ _ (hM23_1421.mono (by first | exact Int.le_refl _ | omega))
            · intro x24_1423 ex24_1423 rx24_1423
              have rbx24_1423 : -2147483648 ≤ x24_1423 ∧ x24_1423 ≤ 2147483647 := rx24_1423
              have nbx24_1423 : BN (b) x8_1391 x24_1423 := by rw [ex24_1423]; exact (bm_n hk1).mp (hM40_1414.bx _ _)
              first | (have bx24_1423 : -1 ≤ x24_1423 ∧ x24_1423 ≤ 29 := nbx24_1423.1 (by omega)) | (have bx24_1423 : -1 ≤ x24_1423 ∧ x24_1423 ≤ 29 := nbx24_1423.2.1 (by omega)) | skip
              have fx24_1423 : x24_1423 = M32_1408 k1 x8_1391 := by rw [ex24_1423, h_M40_1414, up2_n (by omega), h_M35_1411, up2_n (by omega)]
              refine ⟨(by first | assumption | exact (by omega)), ?_⟩
              intro x26_1424 ex26_1424 rx26_1424
              unfold qX12_mournerGoes_J145
              refine ⟨by omega, ?_⟩
              refine ⟨by omega, ?_⟩
              refine ⟨(by first | assumption | exact (by omega)), ?_⟩
              intro M23_1425 h_M23_1425
              have hM23_1425 : IM (b) M23_1425 := by rw [h_M23_1425]; exact hM40_1414.up (isN.nu hk1 _) ((bm_n hk1).mpr (by first | assumption | exact ⟨by omega, by omega, by omega, by omega⟩))
              exact hQ _ (hM23_1425.mono (by first | exact Int.le_refl _ | omega))
        · refine ⟨by omega, ?_⟩
          refine ⟨by omega, ?_⟩
          intro x43_1427 ex43_1427 rx43_1427
          have rbx43_1427 : -2147483648 ≤ x43_1427 ∧ x43_1427 ≤ 2147483647 := rx43_1427
          have nbx43_1427 : BN (b) x8_1391 x43_1427 := by rw [ex43_1427]; exact (bm_n hk1).mp (hI.bx _ _)
          first | (have bx43_1427 : -1 ≤ x43_1427 ∧ x43_1427 ≤ 29 := nbx43_1427.1 (by omega)) | (have bx43_1427 : -1 ≤ x43_1427 ∧ x43_1427 ≤ 29 := nbx43_1427.2.1 (by omega)) | skip
          refine ⟨(by first | assumption | exact (by omega)), ?_⟩
          intro x45_1428 px45_1428 nx45_1428
          have bx45_1428 : 0 ≤ x45_1428 ∧ (x43_1427 - x7_1390 = x45_1428 ∨ x43_1427 - x7_1390 = -x45_1428) := by omega
          refine ⟨by omega, ?_⟩
          refine ⟨by omega, ?_⟩
          intro x48_1429 ex48_1429 rx48_1429
          have rbx48_1429 : -2147483648 ≤ x48_1429 ∧ x48_1429 ≤ 2147483647 := rx48_1429
          have nbx48_1429 : BN (b) x3_1310 x48_1429 := by rw [ex48_1429]; exact (bm_n hk1).mp (hI.bx _ _)
          first | (have bx48_1429 : -1 ≤ x48_1429 ∧ x48_1429 ≤ 29 := nbx48_1429.1 (by omega)) | (have bx48_1429 : -1 ≤ x48_1429 ∧ x48_1429 ≤ 29 := nbx48_1429.2.1 (by omega)) | skip
          have cgx48_1429 : x48_1429 = M k1 (M k1 (21 + p2)) := by rw [ex48_1429, ← ex3_1310]
          refine ⟨(by first | assumption | exact (by omega)), ?_⟩
          intro x50_1430 px50_1430 nx50_1430
          have bx50_1430 : 0 ≤ x50_1430 ∧ (x48_1429 - x7_1390 = x50_1430 ∨ x48_1429 - x7_1390 = -x50_1430) := by omega
          refine ⟨(by first | assumption | exact (by omega)), ?_⟩
          refine ⟨(by first | assumption | exact (by omega)), ?_⟩
          refine ⟨fun c => ?_, fun c => ?_⟩
          · unfold qX12_mournerGoes_J105
            refine ⟨(by first | assumption | exact (by omega)), ?_⟩
            refine ⟨fun c => ?_, fun c => ?_⟩
            · exact hQ _ (hI.mono (by first | exact Int.le_refl _ | omega))
            · refine ⟨by omega, ?_⟩
              refine ⟨by omega, ?_⟩
              intro x14_1434 ex14_1434 rx14_1434
              have rbx14_1434 : -2147483648 ≤ x14_1434 ∧ x14_1434 ≤ 2147483647 := rx14_1434
              have nbx14_1434 : BN (b) x3_1310 x14_1434 := by rw [ex14_1434]; exact (bm_n hk1).mp (hI.bx _ _)
              first | (have bx14_1434 : -1 ≤ x14_1434 ∧ x14_1434 ≤ 29 := nbx14_1434.1 (by omega)) | (have bx14_1434 : -1 ≤ x14_1434 ∧ x14_1434 ≤ 29 := nbx14_1434.2.1 (by omega)) | skip
              have cgx14_1434 : x14_1434 = M k1 (M k1 (21 + p2)) := by rw [ex14_1434, ← ex3_1310]
              refine ⟨(by first | assumption | exact (by omega)), ?_⟩
              refine ⟨fun c => ?_, fun c => ?_⟩
              · intro x17_1436 ex17_1436 rx17_1436
                have rbx17_1436 : -2147483648 ≤ x17_1436 ∧ x17_1436 ≤ 2147483647 := rx17_1436
                have nbx17_1436 : BN (b) x3_1310 x17_1436 := by rw [ex17_1436]; exact (bm_n hk1).mp (hI.bx _ _)
                first | (have bx17_1436 : -1 ≤ x17_1436 ∧ x17_1436 ≤ 29 := nbx17_1436.1 (by omega)) | (have bx17_1436 : -1 ≤ x17_1436 ∧ x17_1436 ≤ 29 := nbx17_1436.2.1 (by omega)) | skip
                have cgx17_1436 : x17_1436 = M k1 (M k1 (21 + p2)) := by rw [ex17_1436, ← ex3_1310]
                refine ⟨(by first | assumption | exact (by omega)), ?_⟩
                intro x19_1437 ex19_1437 rx19_1437
                unfold qX12_mournerGoes_J145
                refine ⟨by omega, ?_⟩
                refine ⟨by omega, ?_⟩
                refine ⟨(by first | assumption | exact (by omega)), ?_⟩
                intro M23_1438 h_M23_1438
                have hM23_1438 : IM (b) M23_1438 := by rw [h_M23_1438]; exact hI.up (isN.nu hk1 _) ((bm_n hk1).mpr (by first | assumption | exact ⟨by omega, by omega, by omega, by omega⟩))
                exact hQ _ (hM23_1438.mono (by first | exact Int.le_refl _ | omega))
              · intro x24_1440 ex24_1440 rx24_1440
                have rbx24_1440 : -2147483648 ≤ x24_1440 ∧ x24_1440 ≤ 2147483647 := rx24_1440
                have nbx24_1440 : BN (b) x3_1310 x24_1440 := by rw [ex24_1440]; exact (bm_n hk1).mp (hI.bx _ _)
                first | (have bx24_1440 : -1 ≤ x24_1440 ∧ x24_1440 ≤ 29 := nbx24_1440.1 (by omega)) | (have bx24_1440 : -1 ≤ x24_1440 ∧ x24_1440 ≤ 29 := nbx24_1440.2.1 (by omega)) | skip
                have cgx24_1440 : x24_1440 = M k1 (M k1 (21 + p2)) := by rw [ex24_1440, ← ex3_1310]
                refine ⟨(by first | assumption | exact (by omega)), ?_⟩
                intro x26_1441 ex26_1441 rx26_1441
                unfold qX12_mournerGoes_J145
                refine ⟨by omega, ?_⟩
                refine ⟨by omega, ?_⟩
                refine ⟨(by first | assumption | exact (by omega)), ?_⟩
                intro M23_1442 h_M23_1442
                have hM23_1442 : IM (b) M23_1442 := by rw [h_M23_1442]; exact hI.up (isN.nu hk1 _) ((bm_n hk1).mpr (by first | assumption | exact ⟨by omega, by omega, by omega, by omega⟩))
                exact hQ _ (hM23_1442.mono (by first | exact Int.le_refl _ | omega))
          · unfold qX12_mournerGoes_J75
            refine ⟨by omega, ?_⟩
            refine ⟨by omega, ?_⟩
            refine ⟨(by first | assumption | exact (by omega)), ?_⟩
            intro M32_1444 h_M32_1444
            have hM32_1444 : IM (b) M32_1444 := by rw [h_M32_1444]; exact hI.up (isN.nu hk1 _) ((bm_n hk1).mpr (by first | assumption | exact ⟨by omega, by omega, by omega, by omega⟩))
            intro x33_1445 ex33_1445 rx33_1445
            have bx33_1445 : -2147483648 ≤ x33_1445 ∧ x33_1445 ≤ 2147483647 := rx33_1445
            have fx33_1445 : x33_1445 = M 1 31 := by rw [ex33_1445, h_M32_1444, up2_n (by omega)]
            intro x34_1446 ex34_1446 rx34_1446
            first | (have fx34_1446 : x34_1446 = x33_1445 + 1 := by rw [ex34_1446]; exact w32_id (by omega)) | skip
            intro M35_1447 h_M35_1447
            have hM35_1447 : IM (b) M35_1447 := by rw [h_M35_1447]; exact hM32_1444.up (by omega) (by simp [BM])
            refine ⟨by omega, ?_⟩
            refine ⟨by omega, ?_⟩
            intro x38_1448 ex38_1448 rx38_1448
            have bx38_1448 : -2147483648 ≤ x38_1448 ∧ x38_1448 ≤ 2147483647 := rx38_1448
            have fx38_1448 : x38_1448 = M 17 p2 := by rw [ex38_1448, h_M35_1447, up2_n (by decide), h_M32_1444, up2_n (by omega)]
            intro x39_1449 ex39_1449 rx39_1449
            first | (have fx39_1449 : x39_1449 = x38_1448 + 1 := by rw [ex39_1449]; exact w32_id (by omega)) | skip
            intro M40_1450 h_M40_1450
            have hM40_1450 : IM (b) M40_1450 := by rw [h_M40_1450]; exact hM35_1447.up (by omega) (by simp [BM])
            unfold qX12_mournerGoes_J105
            refine ⟨(by first | assumption | exact (by omega)), ?_⟩
            refine ⟨fun c => ?_, fun c => ?_⟩
            · exact hQ _ (hM40_1450.mono (by first | exact Int.le_refl _ | omega))
            · refine ⟨by omega, ?_⟩
              refine ⟨by omega, ?_⟩
              intro x14_1453 ex14_1453 rx14_1453
              have rbx14_1453 : -2147483648 ≤ x14_1453 ∧ x14_1453 ≤ 2147483647 := rx14_1453
              have nbx14_1453 : BN (b) x8_1391 x14_1453 := by rw [ex14_1453]; exact (bm_n hk1).mp (hM40_1450.bx _ _)
              first | (have bx14_1453 : -1 ≤ x14_1453 ∧ x14_1453 ≤ 29 := nbx14_1453.1 (by omega)) | (have bx14_1453 : -1 ≤ x14_1453 ∧ x14_1453 ≤ 29 := nbx14_1453.2.1 (by omega)) | skip
              have fx14_1453 : x14_1453 = M32_1444 k1 x8_1391 := by rw [ex14_1453, h_M40_1450, up2_n (by omega), h_M35_1447, up2_n (by omega)]
              refine ⟨(by first | assumption | exact (by omega)), ?_⟩
              refine ⟨fun c => ?_, fun c => ?_⟩
              · intro x17_1455 ex17_1455 rx17_1455
                have rbx17_1455 : -2147483648 ≤ x17_1455 ∧ x17_1455 ≤ 2147483647 := rx17_1455
                have nbx17_1455 : BN (b) x8_1391 x17_1455 := by rw [ex17_1455]; exact (bm_n hk1).mp (hM40_1450.bx _ _)
                first | (have bx17_1455 : -1 ≤ x17_1455 ∧ x17_1455 ≤ 29 := nbx17_1455.1 (by omega)) | (have bx17_1455 : -1 ≤ x17_1455 ∧ x17_1455 ≤ 29 := nbx17_1455.2.1 (by omega)) | skip
                have fx17_1455 : x17_1455 = M32_1444 k1 x8_1391 := by rw [ex17_1455, h_M40_1450, up2_n (by omega), h_M35_1447, up2_n (by omega)]
                refine ⟨(by first | assumption | exact (by omega)), ?_⟩
                intro x19_1456 ex19_1456 rx19_1456
                unfold qX12_mournerGoes_J145
                refine ⟨by omega, ?_⟩
                refine ⟨by omega, ?_⟩
                refine ⟨(by first | assumption | exact (by omega)), ?_⟩
                intro M23_1457 h_M23_1457
                have hM23_1457 : IM (b) M23_1457 := by rw [h_M23_1457]; exact hM40_1450.up (isN.nu hk1 _) ((bm_n hk1).mpr (by first | assumption | exact ⟨by omega, by omega, by omega, by omega⟩))
                exact hQ _ (hM23_1457.mono (by first | exact Int.le_refl _ | omega))
              · intro x24_1459 ex24_1459 rx24_1459
                have rbx24_1459 : -2147483648 ≤ x24_1459 ∧ x24_1459 ≤ 2147483647 := rx24_1459
                have nbx24_1459 : BN (b) x8_1391 x24_1459 := by rw [ex24_1459]; exact (bm_n hk1).mp (hM40_1450.bx _ _)
                first | (have bx24_1459 : -1 ≤ x24_1459 ∧ x24_1459 ≤ 29 := nbx24_1459.1 (by omega)) | (have bx24_1459 : -1 ≤ x24_1459 ∧ x24_1459 ≤ 29 := nbx24_1459.2.1 (by omega)) | skip
                have fx24_1459 : x24_1459 = M32_1444 k1 x8_1391 := by rw [ex24_1459, h_M40_1450, up2_n (by omega), h_M35_1447, up2_n (by omega)]
                refine ⟨(by first | assumption | exact (by omega)), ?_⟩
                intro x26_1460 ex26_1460 rx26_1460
                unfold qX12_mournerGoes_J145
                refine ⟨by omega, ?_⟩
                refine ⟨by omega, ?_⟩
                refine ⟨(by first | assumption | exact (by omega)), ?_⟩
                intro M23_1461 h_M23_1461
                have hM23_1461 : IM (b) M23_1461 := by rw [h_M23_1461]; exact hM40_1450.up (isN.nu hk1 _) ((bm_n hk1).mpr (by first | assumption | exact ⟨by omega, by omega, by omega, by omega⟩))
                exact hQ _ (hM23_1461.mono (by first | exact Int.le_refl _ | omega))
    · refine ⟨by omega, ?_⟩
      refine ⟨by omega, ?_⟩
      intro M58_1463 h_M58_1463
      have hM58_1463 : IM (b) M58_1463 := by rw [h_M58_1463]; exact hI.up (isN.nu hk1 _) ((bm_n hk1).mpr (by first | assumption | exact ⟨by omega, by omega, by omega, by omega⟩))
      exact hQ _ (hM58_1463.mono (by first | exact Int.le_refl _ | omega))
theorem sX12_stepGoes_L34 {k1 : Nat} {X62 : Mem → Prop} {Q : Mem → Prop} {b : Int} (hb : b + 1 ≤ 2000000000) (hk1 : isN k1) (hQ : ∀ M' : Mem, IM (b + 1) M' → Q M') (hX62 : ∀ M' : Mem, IM (b) M' → X62 M') : ∀ (n : Nat) (v2 : Int) (M : Mem), IM (b) M → (0 ≤ v2 ∧ v2 ≤ 8) → 8 - v2 < (n : Int) → qX12_stepGoes_L34 k1 X62 Q n v2 M := by
  intro n
  induction n with
  | zero => intro v2 M hI hv hm; exact absurd hm (by omega)
  | succ n ih =>
    intro v2 M hI hv hm
    rw [qX12_stepGoes_L34]
    have hbn := hI.nn
    have ek1 : k1 = 5 ∨ k1 = 6 := hk1
    intro x10_1464 ex10_1464 rx10_1464
    have bx10_1464 : 0 ≤ x10_1464 ∧ x10_1464 ≤ 8 := by rw [ex10_1464]; exact bm_c1_5.mp (hI.bx _ _)
    refine ⟨(by first | assumption | exact (by omega)), ?_⟩
    refine ⟨fun c => ?_, fun c => ?_⟩
    · exact hX62 _ (hI.mono (by first | exact Int.le_refl _ | omega))
    · refine sX12_isEnded (p1 := v2) hI hk1 (by omega) ?_
      intro x13_1467 q1468 q1469
      refine ⟨fun c => ?_, fun c => ?_⟩
      · exact ih _ _ (hI.mono (by first | exact Int.le_refl _ | omega)) (by omega) (by omega)
      · refine sX12_mournerGoes (p2 := v2) hI hk1 (by omega) ?_
        intro M15_1472 hM15_1472
        exact ih _ _ (hM15_1472.mono (by first | exact Int.le_refl _ | omega)) (by omega) (by omega)
theorem sX12_stepGoes_L7 {k1 : Nat} {X32 : Mem → Prop} {Q : Mem → Prop} {b : Int} (hk1 : isN k1) (hX : ∀ M' : Mem, IM b M' → X32 M') : ∀ (n : Nat) (v2 : Int) (M : Mem), IM b M → (0 ≤ v2 ∧ v2 ≤ 6) → (∀ i, v2 ≤ i → i < M 1 35 → 0 ≤ M k1 (M 18 i)) → (∀ i j, 0 ≤ i → i < j → j < M 1 35 → M 18 i ≠ M 18 j) → 6 - v2 < (n : Int) → qX12_stepGoes_L7 k1 X32 Q n v2 M := by
  intro n
  induction n with
  | zero => intro v2 M hI hv h2 h3 hm; exact absurd hm (by omega)
  | succ n ih =>
    intro v2 M hI hv h2 h3 hm
    have hk5 : k1 = 5 ∨ k1 = 6 := hk1
    rw [qX12_stepGoes_L7]
    intro x2 e2 _
    have b2 : 0 ≤ x2 ∧ x2 ≤ 6 := by rw [e2]; exact bm_c1_35.mp (hI.bx _ _)
    refine ⟨(by omega), ⟨fun c => hX _ hI, fun c => ?_⟩⟩
    refine ⟨by omega, by omega, ?_⟩
    intro x7 e7 _
    have b7 : 0 ≤ x7 ∧ x7 ≤ 5 := by rw [e7]; exact bm_c18.mp (hI.bx _ _)
    have ho := h2 v2 (by omega) (by omega)
    rw [← e7] at ho
    refine sX12_hearseGoes (p2 := x7) hI hk1 ⟨by omega, by omega, ho⟩ ?_
    intro M8 h8 g8
    have g1 : M8 1 35 = M 1 35 := g8 1 35 (by omega)
    have g2 : ∀ i, M8 18 i = M 18 i := fun i => g8 18 i (by omega)
    refine ih _ _ h8 (by omega) ?_ ?_ (by omega)
    · intro i a q
      rw [g1] at q
      have hb := bm_c18.mp (hI.bx 18 i)
      have hd := h3 v2 i (by omega) (by omega) q
      rw [g2, g8 k1 (M 18 i) (by omega)]
      exact h2 i (by omega) q
    · intro i j a q r
      rw [g1] at r
      rw [g2, g2]
      exact h3 i j a q r
theorem sX12_stepGoes {k1 : Nat} {b : Int} {M : Mem} {Q : Mem → Prop} (hI : IM b M) (hb : b + 1 ≤ 2000000000) (hk1 : isN k1) (hQ : ∀ M' : Mem, IM (b + 1) M' → Q M') : qX12_stepGoes k1 M Q := by
  have hk5 : k1 = 5 ∨ k1 = 6 := hk1
  unfold qX12_stepGoes
  refine sX12_laysLineF hI hk1 ?_
  intro M1 h1 l1
  refine ⟨7, sX12_stepGoes_L7 (b := b) hk1 ?_ _ _ _ h1 (by omega) l1.1 l1.2 (by omega)⟩
  intro M2 h2
  refine ⟨9, sX12_stepGoes_L34 (b := b) hb hk1 hQ ?_ _ _ _ h2 (by omega) (by omega)⟩
  intro M3 h3 x17 e17 _
  have b17 : 0 ≤ x17 ∧ x17 ≤ b := by rw [e17]; exact ((bm_n hk1).mp (h3.bx _ _)).2.2.2 rfl
  refine ⟨(by omega), ?_⟩
  intro M19 h19
  refine hQ _ ?_
  rw [h19]
  exact (h3.mono (by first | exact Int.le_refl _ | omega)).up (isN.nu hk1 _) ((bm_n hk1).mpr ⟨by omega, by omega, by omega, by omega⟩)
theorem sX12_goesOn_L12 {k1 : Nat} {p2 : Int} {X31 : Mem → Prop} {Q : Mem → Prop} {b : Int} (hb : b + 200 ≤ 2000000000) (hk1 : isN k1) (hp : p2 ≤ 200) (hQ : ∀ M' : Mem, IM (b + 200) M' → Q M') (hX31 : ∀ M' : Mem, IM (b) M' → X31 M') : ∀ (n : Nat) (v3 : Int) (M : Mem), IM (b) M → (0 ≤ v3 ∧ v3 ≤ 30) → 30 - v3 < (n : Int) → qX12_goesOn_L12 k1 p2 X31 Q n v3 M := by
  intro n
  induction n with
  | zero => intro v3 M hI hv hm; exact absurd hm (by omega)
  | succ n ih =>
    intro v3 M hI hv hm
    rw [qX12_goesOn_L12]
    have hbn := hI.nn
    have ek1 : k1 = 5 ∨ k1 = 6 := hk1
    refine ⟨(by first | assumption | exact (by omega)), ?_⟩
    refine ⟨fun c => ?_, fun c => ?_⟩
    · exact hX31 _ (hI.mono (by first | exact Int.le_refl _ | omega))
    · refine ⟨by omega, ?_⟩
      refine ⟨by omega, ?_⟩
      intro M7_1475 h_M7_1475
      have hM7_1475 : IM (b) M7_1475 := by rw [h_M7_1475]; exact hI.up (by omega) (by simp [BM])
      exact ih _ _ (hM7_1475.mono (by first | exact Int.le_refl _ | omega)) (by omega) (by omega)
theorem sX12_goesOn_L33 {k1 : Nat} {p2 : Int} {X52 : Mem → Prop} {Q : Mem → Prop} {b : Int} (hb : b + 200 ≤ 2000000000) (hk1 : isN k1) (hp : p2 ≤ 200) (hQ : ∀ M' : Mem, IM (b + 200) M' → Q M') (hX52 : ∀ M' : Mem, IM (b) M' → X52 M') : ∀ (n : Nat) (v3 : Int) (M : Mem), IM (b) M → (0 ≤ v3 ∧ v3 ≤ 8) → 8 - v3 < (n : Int) → qX12_goesOn_L33 k1 p2 X52 Q n v3 M := by
  intro n
  induction n with
  | zero => intro v3 M hI hv hm; exact absurd hm (by omega)
  | succ n ih =>
    intro v3 M hI hv hm
    rw [qX12_goesOn_L33]
    have hbn := hI.nn
    have ek1 : k1 = 5 ∨ k1 = 6 := hk1
    refine ⟨(by first | assumption | exact (by omega)), ?_⟩
    refine ⟨fun c => ?_, fun c => ?_⟩
    · exact hX52 _ (hI.mono (by first | exact Int.le_refl _ | omega))
    · refine ⟨by omega, ?_⟩
      refine ⟨by omega, ?_⟩
      intro M13_1478 h_M13_1478
      have hM13_1478 : IM (b) M13_1478 := by rw [h_M13_1478]; exact hI.up (by omega) (by simp [BM])
      exact ih _ _ (hM13_1478.mono (by first | exact Int.le_refl _ | omega)) (by omega) (by omega)
theorem sX12_goesOn_L54 {k1 : Nat} {p2 : Int}  {Q : Mem → Prop} {b : Int} (hb : b + 200 ≤ 2000000000) (hk1 : isN k1) (hp : p2 ≤ 200) (hQ : ∀ M' : Mem, IM (b + 200) M' → Q M') : ∀ (n : Nat) (v3 : Int) (M : Mem), IM (b + v3) M → (0 ≤ v3 ∧ v3 ≤ 200) → 200 - v3 < (n : Int) → qX12_goesOn_L54 k1 p2 Q n v3 M := by
  intro n
  induction n with
  | zero => intro v3 M hI hv hm; exact absurd hm (by omega)
  | succ n ih =>
    intro v3 M hI hv hm
    rw [qX12_goesOn_L54]
    have hbn := hI.nn
    have ek1 : k1 = 5 ∨ k1 = 6 := hk1
    refine ⟨(by first | assumption | exact (by omega)), ?_⟩
    refine ⟨fun c => ?_, fun c => ?_⟩
    · exact hQ _ (hI.mono (by first | exact Int.le_refl _ | omega))
    · refine sX12_stepGoes  hI (by omega) hk1 ?_
      intro M17_1481 hM17_1481
      exact ih _ _ (hM17_1481.mono (by first | exact Int.le_refl _ | omega)) (by omega) (by omega)
theorem sX12_goesOn {k1 : Nat} {p2 : Int} {b : Int} {M : Mem} {Q : Mem → Prop} (hI : IM b M) (hb : b + 200 ≤ 2000000000) (hk1 : isN k1) (hp : p2 ≤ 200) (hQ : ∀ M' : Mem, IM (b + 200) M' → Q M') : qX12_goesOn k1 p2 M Q := by
  unfold qX12_goesOn
  have hbn := hI.nn
  have ek1 : k1 = 5 ∨ k1 = 6 := hk1
  intro M1_1482 h_M1_1482
  have hM1_1482 : IM (b) M1_1482 := by rw [h_M1_1482]; exact hI.up (by omega) (by simp [BM])
  intro M2_1483 h_M2_1483
  have hM2_1483 : IM (b) M2_1483 := by rw [h_M2_1483]; exact hM1_1482.up (by omega) (by simp [BM])
  refine ⟨31, ?_⟩
  refine sX12_goesOn_L12 (b := b) (p2 := p2) hb hk1 hp ?_ ?_ _ _ _ (hM2_1483.mono (by first | exact Int.le_refl _ | omega)) (by omega) (by omega)
  · exact hQ
  · intro M_1484 hM_1484
    refine ⟨9, ?_⟩
    refine sX12_goesOn_L33 (b := b) (p2 := p2) hb hk1 hp ?_ ?_ _ _ _ (hM_1484.mono (by first | exact Int.le_refl _ | omega)) (by omega) (by omega)
    · exact hQ
    · intro M_1485 hM_1485
      refine ⟨201, ?_⟩
      refine sX12_goesOn_L54 (b := b) (p2 := p2) hb hk1 hp ?_ _ _ _ (hM_1485.mono (by first | exact Int.le_refl _ | omega)) (by omega) (by omega)
      · exact hQ
theorem sX12_turnsOne {k1 : Nat} {p2 : Int} {b : Int} {M : Mem} {Q : Int → Mem → Prop} (hI : IM b M) (hk1 : isN k1) (hQ : ∀ z : Int, ∀ M' : Mem, IM b M' → Q z M') : qX12_turnsOne k1 p2 M Q := by
  unfold qX12_turnsOne
  have hbn := hI.nn
  have ek1 : k1 = 5 ∨ k1 = 6 := hk1
  refine sX12_isMourner (p1 := p2) hI  ?_
  intro x1_1524 p1525 q1526 q1527
  refine ⟨fun c => ?_, fun c => ?_⟩
  · refine sX12_isEnded (p1 := p2) hI hk1 (by omega) ?_
    intro x3_1529 q1530 q1531
    refine ⟨fun c => ?_, fun c => ?_⟩
    · refine ⟨by omega, ?_⟩
      refine ⟨by omega, ?_⟩
      intro x7_1533 ex7_1533 rx7_1533
      have rbx7_1533 : -2147483648 ≤ x7_1533 ∧ x7_1533 ≤ 2147483647 := rx7_1533
      first | (have bx7_1533 : -1 ≤ x7_1533 ∧ x7_1533 ≤ 5 := by rw [ex7_1533]; exact ((bm_n hk1).mp (hI.bx _ _)).2.2.1 (by omega)) | skip
      refine ⟨by omega, ?_⟩
      refine ⟨by omega, ?_⟩
      intro x10_1534 ex10_1534 rx10_1534
      have bx10_1534 : 0 ≤ x10_1534 ∧ x10_1534 ≤ 5 := by rw [ex10_1534]; exact bm_c3.mp (hI.bx _ _)
      refine sX12_isOn (p1 := x10_1534) hI hk1 (by omega) ?_
      intro x11_1535 p1536 q1537 q1538
      refine ⟨fun c => ?_, fun c => ?_⟩
      · exact hQ _ _ (hI.mono (by first | exact Int.le_refl _ | omega))
      · intro x13_1541 ex13_1541 rx13_1541
        have bx13_1541 : 0 ≤ x13_1541 ∧ x13_1541 ≤ 5 := by rw [ex13_1541]; exact bm_c3.mp (hI.bx _ _)
        refine ⟨fun c => ?_, fun c => ?_⟩
        · intro x15_1543 ex15_1543 rx15_1543
          have bx15_1543 : 0 ≤ x15_1543 ∧ x15_1543 ≤ 5 := by rw [ex15_1543]; exact bm_c3.mp (hI.bx _ _)
          intro M16_1544 h_M16_1544
          have hM16_1544 : IM (b) M16_1544 := by rw [h_M16_1544]; exact hI.up (isN.nu hk1 _) ((bm_n hk1).mpr (by first | assumption | exact ⟨by omega, by omega, by omega, by omega⟩))
          refine ⟨fun c => ?_, fun c => ?_⟩
          · exact hQ _ _ (hM16_1544.mono (by first | exact Int.le_refl _ | omega))
          · exact hQ _ _ (hM16_1544.mono (by first | exact Int.le_refl _ | omega))
        · exact hQ _ _ (hI.mono (by first | exact Int.le_refl _ | omega))
    · exact hQ _ _ (hI.mono (by first | exact Int.le_refl _ | omega))
  · exact hQ _ _ (hI.mono (by first | exact Int.le_refl _ | omega))
end
section
theorem sX12_pushesOne {k1 : Nat} {p2 : Int} {p3 : Int} {b : Int} {M : Mem} {Q : Int → Mem → Prop} (hI : IM b M) (hk1 : isN k1) (hQ : ∀ z : Int, ∀ M' : Mem, IM b M' → Q z M') : qX12_pushesOne k1 p2 p3 M Q := by
  unfold qX12_pushesOne
  have hbn := hI.nn
  have ek1 : k1 = 5 ∨ k1 = 6 := hk1
  refine sX12_isMourner (p1 := p2) hI  ?_
  intro x1_1558 p1559 q1560 q1561
  refine ⟨fun c => ?_, fun c => ?_⟩
  · exact hQ _ _ (hI.mono (by first | exact Int.le_refl _ | omega))
  · refine sX12_in (p0 := p3) (p2 := (-9)) (p4 := 9) hI  ?_
    intro x3_1564 p1565 q1566 q1567
    refine ⟨fun c => ?_, fun c => ?_⟩
    · exact hQ _ _ (hI.mono (by first | exact Int.le_refl _ | omega))
    · refine ⟨fun c => ?_, fun c => ?_⟩
      · refine sX12_isEnded (p1 := p2) hI hk1 (by omega) ?_
        intro x6_1571 q1572 q1573
        refine ⟨fun c => ?_, fun c => ?_⟩
        · refine sX12_gate  hI  ?_
          intro x8_1575 p1576 q1577
          refine ⟨by omega, ?_⟩
          refine ⟨by omega, ?_⟩
          intro x11_1578 ex11_1578 rx11_1578
          have rbx11_1578 : -2147483648 ≤ x11_1578 ∧ x11_1578 ≤ 2147483647 := rx11_1578
          first | (have bx11_1578 : -1 ≤ x11_1578 ∧ x11_1578 ≤ 29 := by rw [ex11_1578]; exact ((bm_n hk1).mp (hI.bx _ _)).2.1 (by omega)) | skip
          refine ⟨(by first | assumption | exact (by omega)), ?_⟩
          refine ⟨(by first | assumption | exact (by omega)), ?_⟩
          intro x14_1579 ex14_1579 rx14_1579
          intro x15_1580 ex15_1580 rx15_1580
          intro M16_1581 h_M16_1581
          have hM16_1581 : IM (b) M16_1581 := by rw [h_M16_1581]; exact hI.up (isN.nu hk1 _) ((bm_n hk1).mpr (by first | assumption | exact ⟨by omega, by omega, by omega, by omega⟩))
          intro x17_1582 ex17_1582 rx17_1582
          have rbx17_1582 : -2147483648 ≤ x17_1582 ∧ x17_1582 ≤ 2147483647 := rx17_1582
          first | (have bx17_1582 : -1 ≤ x17_1582 ∧ x17_1582 ≤ 29 := by rw [ex17_1582]; exact ((bm_n hk1).mp (hM16_1581.bx _ _)).2.1 (by omega)) | skip
          have fx17_1582 : x17_1582 = x15_1580 := by rw [ex17_1582, h_M16_1581, up2_s]
          exact hQ _ _ (hM16_1581.mono (by first | exact Int.le_refl _ | omega))
        · exact hQ _ _ (hI.mono (by first | exact Int.le_refl _ | omega))
      · exact hQ _ _ (hI.mono (by first | exact Int.le_refl _ | omega))
theorem sX12_line_L20   {Q : Int → Mem → Prop} {b : Int} (hQ : ∀ z : Int, ∀ M' : Mem, IM b M' → Q z M') : ∀ (n : Nat) (v1 : Int) (M : Mem), IM (b) M → (0 ≤ v1 ∧ v1 ≤ 6 ∧ M 1 1 = v1) → 6 - v1 < (n : Int) → qX12_line_L20 Q n v1 M := by
  intro n
  induction n with
  | zero => intro v1 M hI hv hm; exact absurd hm (by omega)
  | succ n ih =>
    intro v1 M hI hv hm
    rw [qX12_line_L20]
    have hbn := hI.nn
    have u1690 : 0 ≤ M 1 1 ∧ M 1 1 ≤ 24 := bm_c1_1.mp (hI.bx _ _)
    intro x4_1691 ex4_1691 rx4_1691
    have bx4_1691 : 0 ≤ x4_1691 ∧ x4_1691 ≤ 6 := by rw [ex4_1691]; exact bm_c1_35.mp (hI.bx _ _)
    refine ⟨(by first | assumption | exact (by omega)), ?_⟩
    refine ⟨fun c => ?_, fun c => ?_⟩
    · intro x7_1693 ex7_1693 rx7_1693
      have bx7_1693 : 0 ≤ x7_1693 ∧ x7_1693 ≤ 6 := by rw [ex7_1693]; exact bm_c1_35.mp (hI.bx _ _)
      exact hQ _ _ (hI.mono (by first | exact Int.le_refl _ | omega))
    · refine ⟨by omega, ?_⟩
      refine ⟨by omega, ?_⟩
      intro x10_1695 ex10_1695 rx10_1695
      have bx10_1695 : 0 ≤ x10_1695 ∧ x10_1695 ≤ 5 := by rw [ex10_1695]; exact bm_c18.mp (hI.bx _ _)
      have u1696 : 0 ≤ M 1 1 ∧ M 1 1 ≤ 24 := bm_c1_1.mp (hI.bx _ _)
      refine sX12_enters (p1 := x10_1695) hI (by omega) ?_
      intro M11_1697 hM11_1697 p1698
      have u1699 : 0 ≤ M11_1697 1 1 ∧ M11_1697 1 1 ≤ 24 := bm_c1_1.mp (hM11_1697.bx _ _)
      exact ih _ _ (hM11_1697.mono (by first | exact Int.le_refl _ | omega)) (by omega) (by omega)
theorem sX12_line  {b : Int} {M : Mem} {Q : Int → Mem → Prop} (hI : IM b M) (hQ : ∀ z : Int, ∀ M' : Mem, IM b M' → Q z M') : qX12_line M Q := by
  unfold qX12_line
  have hbn := hI.nn
  intro M1_1700 h_M1_1700
  have hM1_1700 : IM (b) M1_1700 := by rw [h_M1_1700]; exact hI.up (by omega) (by simp [BM])
  refine sX12_laysLine  hM1_1700 (Or.inl rfl) ?_
  intro M2_1701 hM2_1701
  intro M3_1702 h_M3_1702
  have hM3_1702 : IM (b) M3_1702 := by rw [h_M3_1702]; exact hM2_1701.up (by omega) (bm_c1_1.mpr (by omega))
  refine ⟨7, ?_⟩
  have u1703 : 0 ≤ M3_1702 1 1 ∧ M3_1702 1 1 ≤ 24 := bm_c1_1.mp (hM3_1702.bx _ _)
  have t1704 : M3_1702 1 1 = 0 := by rw [h_M3_1702, up2_s]
  refine sX12_line_L20 (b := b)  ?_ _ _ _ (hM3_1702.mono (by first | exact Int.le_refl _ | omega)) (by omega) (by omega)
  · exact hQ
theorem sX12_copies_L2   {Q : Mem → Prop} {b : Int} (hQ : ∀ M' : Mem, IM b M' → Q M') : ∀ (n : Nat) (v1 : Int) (M : Mem), IM (b) M → (0 ≤ v1 ∧ v1 ≤ 38) → 38 - v1 < (n : Int) → qX12_copies_L2 Q n v1 M := by
  intro n
  induction n with
  | zero => intro v1 M hI hv hm; exact absurd hm (by omega)
  | succ n ih =>
    intro v1 M hI hv hm
    rw [qX12_copies_L2]
    have hbn := hI.nn
    refine ⟨(by first | assumption | exact (by omega)), ?_⟩
    refine ⟨fun c => ?_, fun c => ?_⟩
    · exact hQ _ (hI.mono (by first | exact Int.le_refl _ | omega))
    · refine ⟨by omega, ?_⟩
      refine ⟨by omega, ?_⟩
      intro x5_1707 ex5_1707 rx5_1707
      have rbx5_1707 : -2147483648 ≤ x5_1707 ∧ x5_1707 ≤ 2147483647 := rx5_1707
      have nbx5_1707 : BN (b) v1 x5_1707 := by rw [ex5_1707]; exact (bm_n (Or.inl rfl)).mp (hI.bx _ _)
      first | (have bx5_1707 : -1 ≤ x5_1707 ∧ x5_1707 ≤ 29 := nbx5_1707.1 (by omega)) | (have bx5_1707 : -1 ≤ x5_1707 ∧ x5_1707 ≤ 29 := nbx5_1707.2.1 (by omega)) | skip
      intro M6_1708 h_M6_1708
      have hM6_1708 : IM (b) M6_1708 := by rw [h_M6_1708]; exact hI.up (isN.nu (Or.inr rfl) _) ((bm_n (Or.inr rfl)).mpr (by first | assumption | exact ⟨by omega, by omega, by omega, by omega⟩))
      exact ih _ _ (hM6_1708.mono (by first | exact Int.le_refl _ | omega)) (by omega) (by omega)
theorem sX12_copies  {b : Int} {M : Mem} {Q : Mem → Prop} (hI : IM b M) (hQ : ∀ M' : Mem, IM b M' → Q M') : qX12_copies M Q := by
  unfold qX12_copies
  have hbn := hI.nn
  refine ⟨39, ?_⟩
  refine sX12_copies_L2 (b := b)  ?_ _ _ _ (hI.mono (by first | exact Int.le_refl _ | omega)) (by omega) (by omega)
  · exact hQ
theorem sX12_ahead_L39 {p1 : Int}  {Q : Int → Mem → Prop} {b : Int} (hb : b + 200 ≤ 2000000000) (hQ : ∀ z : Int, ∀ M' : Mem, IM (b + 200) M' → Q z M') : ∀ (n : Nat) (v2 : Int) (M : Mem), IM (b + 200) M → (0 ≤ v2 ∧ v2 ≤ 6 ∧ M 1 1 = v2) → 6 - v2 < (n : Int) → qX12_ahead_L39 p1 Q n v2 M := by
  intro n
  induction n with
  | zero => intro v2 M hI hv hm; exact absurd hm (by omega)
  | succ n ih =>
    intro v2 M hI hv hm
    rw [qX12_ahead_L39]
    have hbn := hI.nn
    have u1709 : 0 ≤ M 1 1 ∧ M 1 1 ≤ 24 := bm_c1_1.mp (hI.bx _ _)
    intro x7_1710 ex7_1710 rx7_1710
    have bx7_1710 : 0 ≤ x7_1710 ∧ x7_1710 ≤ 6 := by rw [ex7_1710]; exact bm_c1_4.mp (hI.bx _ _)
    refine ⟨(by first | assumption | exact (by omega)), ?_⟩
    refine ⟨fun c => ?_, fun c => ?_⟩
    · intro x10_1712 ex10_1712 rx10_1712
      have bx10_1712 : -2147483648 ≤ x10_1712 ∧ x10_1712 ≤ 2147483647 := rx10_1712
      exact hQ _ _ (hI.mono (by first | exact Int.le_refl _ | omega))
    · refine ⟨by omega, ?_⟩
      refine ⟨by omega, ?_⟩
      intro x13_1714 ex13_1714 rx13_1714
      have rbx13_1714 : -2147483648 ≤ x13_1714 ∧ x13_1714 ≤ 2147483647 := rx13_1714
      have nbx13_1714 : BN (b + 200) v2 x13_1714 := by rw [ex13_1714]; exact (bm_n (Or.inr rfl)).mp (hI.bx _ _)
      first | (have bx13_1714 : -1 ≤ x13_1714 ∧ x13_1714 ≤ 29 := nbx13_1714.1 (by omega)) | (have bx13_1714 : -1 ≤ x13_1714 ∧ x13_1714 ≤ 29 := nbx13_1714.2.1 (by omega)) | skip
      have u1715 : 0 ≤ M 1 1 ∧ M 1 1 ≤ 24 := bm_c1_1.mp (hI.bx _ _)
      refine sX12_enters (p1 := x13_1714) hI (by omega) ?_
      intro M14_1716 hM14_1716 p1717
      have u1718 : 0 ≤ M14_1716 1 1 ∧ M14_1716 1 1 ≤ 24 := bm_c1_1.mp (hM14_1716.bx _ _)
      exact ih _ _ (hM14_1716.mono (by first | exact Int.le_refl _ | omega)) (by omega) (by omega)
theorem sX12_ahead {p1 : Int} {b : Int} {M : Mem} {Q : Int → Mem → Prop} (hI : IM b M) (hb : b + 200 ≤ 2000000000) (hQ : ∀ z : Int, ∀ M' : Mem, IM (b + 200) M' → Q z M') : qX12_ahead p1 M Q := by
  unfold qX12_ahead
  have hbn := hI.nn
  intro M1_1719 h_M1_1719
  have hM1_1719 : IM (b) M1_1719 := by rw [h_M1_1719]; exact hI.up (by omega) (by simp [BM])
  refine sX12_in (p0 := p1) (p2 := 0) (p4 := 99) hM1_1719  ?_
  intro x2_1720 p1721 q1722 q1723
  refine ⟨fun c => ?_, fun c => ?_⟩
  · refine sX12_copies  hM1_1719  ?_
    intro M4_1725 hM4_1725
    refine sX12_goesOn (p2 := p1) hM4_1725 (by omega) (Or.inr rfl) (by omega) ?_
    intro M5_1726 hM5_1726
    intro M6_1727 h_M6_1727
    have hM6_1727 : IM (b + 200) M6_1727 := by rw [h_M6_1727]; exact hM5_1726.up (by omega) (bm_c1_1.mpr (by omega))
    refine ⟨7, ?_⟩
    have u1728 : 0 ≤ M6_1727 1 1 ∧ M6_1727 1 1 ≤ 24 := bm_c1_1.mp (hM6_1727.bx _ _)
    have t1729 : M6_1727 1 1 = 0 := by rw [h_M6_1727, up2_s]
    refine sX12_ahead_L39 (b := b) (p1 := p1) hb ?_ _ _ _ (hM6_1727.mono (by first | exact Int.le_refl _ | omega)) (by omega) (by omega)
    · exact hQ
  · exact hQ _ _ (hM1_1719.mono (by first | exact Int.le_refl _ | omega))
theorem sX12_arrives_L21 {p1 : Int} {X39 : Int → Mem → Prop} {Q : Int → Mem → Prop} {b : Int} (hb : b + 201 ≤ 2000000000) (hQ : ∀ z : Int, ∀ M' : Mem, IM (b + 201) M' → Q z M') (hX39 : ∀ w1 : Int, ∀ M' : Mem, IM (b + 200) M' → (0 ≤ w1 ∧ w1 ≤ 200) → X39 w1 M') : ∀ (n : Nat) (v2 : Int) (M : Mem), IM (b + v2) M → (0 ≤ v2 ∧ v2 ≤ 201 ∧ 0 ≤ p1 ∧ p1 ≤ 5) → 201 - v2 < (n : Int) → qX12_arrives_L21 p1 X39 Q n v2 M := by
  intro n
  induction n with
  | zero => intro v2 M hI hv hm; exact absurd hm (by omega)
  | succ n ih =>
    intro v2 M hI hv hm
    rw [qX12_arrives_L21]
    have hbn := hI.nn
    refine ⟨(by first | assumption | exact (by omega)), ?_⟩
    refine ⟨fun c => ?_, fun c => ?_⟩
    · exact hQ _ _ (hI.mono (by first | exact Int.le_refl _ | omega))
    · refine sX12_isOn (p1 := p1) hI (Or.inr rfl) (by omega) ?_
      intro x7_1733 p1734 q1735 q1736
      refine ⟨fun c => ?_, fun c => ?_⟩
      · refine sX12_stepGoes  hI (by omega) (Or.inr rfl) ?_
        intro M9_1738 hM9_1738
        exact ih _ _ (hM9_1738.mono (by first | exact Int.le_refl _ | omega)) (by omega) (by omega)
      · exact hX39 _ _ (hI.mono (by first | exact Int.le_refl _ | omega)) (by omega)
theorem sX12_arrives {p1 : Int} {b : Int} {M : Mem} {Q : Int → Mem → Prop} (hI : IM b M) (hb : b + 201 ≤ 2000000000) (hQ : ∀ z : Int, ∀ M' : Mem, IM (b + 201) M' → Q z M') : qX12_arrives p1 M Q := by
  unfold qX12_arrives
  have hbn := hI.nn
  intro M1_1740 h_M1_1740
  have hM1_1740 : IM (b) M1_1740 := by rw [h_M1_1740]; exact hI.up (by omega) (by simp [BM])
  refine sX12_isHearse (p1 := p1) hM1_1740  ?_
  intro x2_1741 p1742 q1743 q1744
  refine ⟨fun c => ?_, fun c => ?_⟩
  · refine sX12_copies  hM1_1740  ?_
    intro M4_1746 hM4_1746
    refine ⟨202, ?_⟩
    refine sX12_arrives_L21 (b := b) (p1 := p1) hb ?_ ?_ _ _ _ (hM4_1746.mono (by first | exact Int.le_refl _ | omega)) (by omega) (by omega)
    · exact hQ
    · intro v2_1747 M_1748 hM_1748 p1749
      intro M11_1750 h_M11_1750
      have hM11_1750 : IM (b + 200) M11_1750 := by rw [h_M11_1750]; exact hM_1748.up (by omega) (bm_c1_1.mpr (by omega))
      refine ⟨by omega, ?_⟩
      refine ⟨by omega, ?_⟩
      intro x14_1751 ex14_1751 rx14_1751
      have bx14_1751 : -2147483648 ≤ x14_1751 ∧ x14_1751 ≤ 2147483647 := rx14_1751
      have fx14_1751 : x14_1751 = M_1748 6 (6 + p1) := by rw [ex14_1751, h_M11_1750, up2_n (by decide)]
      have u1752 : 0 ≤ M11_1750 1 1 ∧ M11_1750 1 1 ≤ 24 := bm_c1_1.mp (hM11_1750.bx _ _)
      have t1753 : M11_1750 1 1 = 0 := by rw [h_M11_1750, up2_s]
      refine sX12_enters (p1 := x14_1751) hM11_1750 (by omega) ?_
      intro M15_1754 hM15_1754 p1755
      refine ⟨(by first | assumption | exact (by omega)), ?_⟩
      exact hQ _ _ (hM15_1754.mono (by first | exact Int.le_refl _ | omega))
  · exact hQ _ _ (hM1_1740.mono (by first | exact Int.le_refl _ | omega))
theorem sX12_jam_L36 {p1 : Int} {X71 : Int → Mem → Prop} {Q : Int → Mem → Prop} {b : Int} (hb : b + 200 ≤ 2000000000) (hQ : ∀ z : Int, ∀ M' : Mem, IM (b + 200) M' → Q z M') (hX71 : ∀ w1 : Int, ∀ M' : Mem, IM (b + 200) M' → (0 ≤ w1 ∧ w1 ≤ 29) → X71 w1 M') : ∀ (n : Nat) (v2 v3 : Int) (M : Mem), IM (b + 200) M → (0 ≤ v2 ∧ v2 ≤ 29 ∧ 0 ≤ v3 ∧ v3 ≤ 30) → 30 - v3 < (n : Int) → qX12_jam_L36 p1 X71 Q n v2 v3 M := by
  intro n
  induction n with
  | zero => intro v2 v3 M hI hv hm; exact absurd hm (by omega)
  | succ n ih =>
    intro v2 v3 M hI hv hm
    rw [qX12_jam_L36]
    have hbn := hI.nn
    intro x6_1757 ex6_1757 rx6_1757
    have bx6_1757 : 4 ≤ x6_1757 ∧ x6_1757 ≤ 30 := by rw [ex6_1757]; exact bm_c1_3.mp (hI.bx _ _)
    refine ⟨(by first | assumption | exact (by omega)), ?_⟩
    refine ⟨fun c => ?_, fun c => ?_⟩
    · exact hX71 _ _ (hI.mono (by first | exact Int.le_refl _ | omega)) (by omega)
    · refine ⟨by omega, ?_⟩
      refine ⟨by omega, ?_⟩
      intro x11_1760 ex11_1760 rx11_1760
      have bx11_1760 : -2147483648 ≤ x11_1760 ∧ x11_1760 ≤ 2147483647 := rx11_1760
      refine ⟨by omega, ?_⟩
      refine ⟨by omega, ?_⟩
      intro x14_1761 ex14_1761 rx14_1761
      have bx14_1761 : -2147483648 ≤ x14_1761 ∧ x14_1761 ≤ 2147483647 := rx14_1761
      refine ⟨fun c => ?_, fun c => ?_⟩
      · exact ih _ _ _ (hI.mono (by first | exact Int.le_refl _ | omega)) (by omega) (by omega)
      · exact ih _ _ _ (hI.mono (by first | exact Int.le_refl _ | omega)) (by omega) (by omega)
theorem sX12_jam {p1 : Int} {b : Int} {M : Mem} {Q : Int → Mem → Prop} (hI : IM b M) (hb : b + 200 ≤ 2000000000) (hQ : ∀ z : Int, ∀ M' : Mem, IM (b + 200) M' → Q z M') : qX12_jam p1 M Q := by
  unfold qX12_jam
  have hbn := hI.nn
  intro M1_1764 h_M1_1764
  have hM1_1764 : IM (b) M1_1764 := by rw [h_M1_1764]; exact hI.up (by omega) (by simp [BM])
  refine sX12_in (p0 := p1) (p2 := 1) (p4 := 60) hM1_1764  ?_
  intro x2_1765 p1766 q1767 q1768
  refine ⟨fun c => ?_, fun c => ?_⟩
  · refine sX12_copies  hM1_1764  ?_
    intro M4_1770 hM4_1770
    refine sX12_goesOn (p2 := p1) hM4_1770 (by omega) (Or.inr rfl) (by omega) ?_
    intro M5_1771 hM5_1771
    refine ⟨31, ?_⟩
    refine sX12_jam_L36 (b := b) (p1 := p1) hb ?_ ?_ _ _ _ _ (hM5_1771.mono (by first | exact Int.le_refl _ | omega)) (by omega) (by omega)
    · exact hQ
    · intro v2_1772 M_1773 hM_1773 p1774
      intro M17_1775 h_M17_1775
      have hM17_1775 : IM (b + 200) M17_1775 := by rw [h_M17_1775]; exact hM_1773.up (by omega) (bm_c1_1.mpr (by omega))
      refine ⟨by omega, ?_⟩
      refine ⟨by omega, ?_⟩
      intro x20_1776 ex20_1776 rx20_1776
      have bx20_1776 : -2147483648 ≤ x20_1776 ∧ x20_1776 ≤ 2147483647 := rx20_1776
      have fx20_1776 : x20_1776 = M_1773 16 v2_1772 := by rw [ex20_1776, h_M17_1775, up2_n (by decide)]
      have u1777 : 0 ≤ M17_1775 1 1 ∧ M17_1775 1 1 ≤ 24 := bm_c1_1.mp (hM17_1775.bx _ _)
      have t1778 : M17_1775 1 1 = 0 := by rw [h_M17_1775, up2_s]
      refine sX12_enters (p1 := x20_1776) hM17_1775 (by omega) ?_
      intro M21_1779 hM21_1779 p1780
      intro x22_1781 ex22_1781 rx22_1781
      have bx22_1781 : -2147483648 ≤ x22_1781 ∧ x22_1781 ≤ 2147483647 := rx22_1781
      have u1782 : 0 ≤ M21_1779 1 1 ∧ M21_1779 1 1 ≤ 24 := bm_c1_1.mp (hM21_1779.bx _ _)
      refine sX12_enters (p1 := x22_1781) hM21_1779 (by omega) ?_
      intro M23_1783 hM23_1783 p1784
      refine ⟨(by first | assumption | exact (by omega)), ?_⟩
      exact hQ _ _ (hM23_1783.mono (by first | exact Int.le_refl _ | omega))
  · exact hQ _ _ (hM1_1764.mono (by first | exact Int.le_refl _ | omega))
theorem sX12_isAhead {k0 : Nat} {p1 : Int} {p2 : Int} {b : Int} {M : Mem} {Q : Int → Mem → Prop} (hI : IM b M) (hk0 : isN k0) (hp : 0 ≤ p1 ∧ p1 ≤ 5 ∧ 0 ≤ p2 ∧ p2 ≤ 5) (hQ : ∀ z : Int, Q z M) : qX12_isAhead k0 p1 p2 M Q := by
  unfold qX12_isAhead
  have hbn := hI.nn
  have ek0 : k0 = 5 ∨ k0 = 6 := hk0
  refine sX12_isOn (p1 := p1) hI hk0 (by omega) ?_
  intro x1_1786 p1787 q1788 q1789
  refine ⟨fun c => ?_, fun c => ?_⟩
  · refine sX12_isOn (p1 := p2) hI hk0 (by omega) ?_
    intro x3_1791 p1792 q1793 q1794
    refine ⟨fun c => ?_, fun c => ?_⟩
    · exact hQ _
    · refine ⟨by omega, ?_⟩
      refine ⟨by omega, ?_⟩
      intro x7_1797 ex7_1797 rx7_1797
      have bx7_1797 : -2147483648 ≤ x7_1797 ∧ x7_1797 ≤ 2147483647 := rx7_1797
      refine ⟨by omega, ?_⟩
      refine ⟨by omega, ?_⟩
      intro x10_1798 ex10_1798 rx10_1798
      have bx10_1798 : -2147483648 ≤ x10_1798 ∧ x10_1798 ≤ 2147483647 := rx10_1798
      refine ⟨fun c => ?_, fun c => ?_⟩
      · exact hQ _
      · exact hQ _
  · refine sX12_isOn (p1 := p2) hI hk0 (by omega) ?_
    intro x12_1802 p1803 q1804 q1805
    refine ⟨fun c => ?_, fun c => ?_⟩
    · exact hQ _
    · refine ⟨by omega, ?_⟩
      refine ⟨by omega, ?_⟩
      intro x16_1808 ex16_1808 rx16_1808
      have rbx16_1808 : -2147483648 ≤ x16_1808 ∧ x16_1808 ≤ 2147483647 := rx16_1808
      have nbx16_1808 : BN (b) p1 x16_1808 := by rw [ex16_1808]; exact (bm_n hk0).mp (hI.bx _ _)
      first | (have bx16_1808 : -1 ≤ x16_1808 ∧ x16_1808 ≤ 29 := nbx16_1808.1 (by omega)) | (have bx16_1808 : -1 ≤ x16_1808 ∧ x16_1808 ≤ 29 := nbx16_1808.2.1 (by omega)) | skip
      refine ⟨by omega, ?_⟩
      refine ⟨by omega, ?_⟩
      intro x19_1809 ex19_1809 rx19_1809
      have rbx19_1809 : -2147483648 ≤ x19_1809 ∧ x19_1809 ≤ 2147483647 := rx19_1809
      have nbx19_1809 : BN (b) p2 x19_1809 := by rw [ex19_1809]; exact (bm_n hk0).mp (hI.bx _ _)
      first | (have bx19_1809 : -1 ≤ x19_1809 ∧ x19_1809 ≤ 29 := nbx19_1809.1 (by omega)) | (have bx19_1809 : -1 ≤ x19_1809 ∧ x19_1809 ≤ 29 := nbx19_1809.2.1 (by omega)) | skip
      refine ⟨fun c => ?_, fun c => ?_⟩
      · exact hQ _
      · exact hQ _
theorem sX12_passes_L71 {p1 : Int} {p2 : Int} {X97 : Int → Mem → Prop} {Q : Int → Mem → Prop} {b : Int} (hb : b + 62 ≤ 2000000000) (hQ : ∀ z : Int, ∀ M' : Mem, IM (b + 62) M' → Q z M') (hX97 : ∀ w1 : Int, ∀ M' : Mem, IM (b + 62) M' → (1 ≤ w1 ∧ w1 ≤ 61) → X97 w1 M') : ∀ (n : Nat) (v3 : Int) (M : Mem), IM (b + v3) M → (1 ≤ v3 ∧ v3 ≤ 61 ∧ 0 ≤ p1 ∧ p1 ≤ 5 ∧ 0 ≤ p2 ∧ p2 ≤ 5) → 61 - v3 < (n : Int) → qX12_passes_L71 p1 p2 X97 Q n v3 M := by
  intro n
  induction n with
  | zero => intro v3 M hI hv hm; exact absurd hm (by omega)
  | succ n ih =>
    intro v3 M hI hv hm
    rw [qX12_passes_L71]
    have hbn := hI.nn
    refine ⟨(by first | assumption | exact (by omega)), ?_⟩
    refine ⟨fun c => ?_, fun c => ?_⟩
    · exact hQ _ _ (hI.mono (by first | exact Int.le_refl _ | omega))
    · refine sX12_stepGoes  hI (by omega) (Or.inr rfl) ?_
      intro M16_1814 hM16_1814
      refine sX12_isAhead (p1 := p1) (p2 := p2) hM16_1814 (Or.inr rfl) (by omega) ?_
      intro x17_1815 q1816 q1817
      refine ⟨fun c => ?_, fun c => ?_⟩
      · exact ih _ _ (hM16_1814.mono (by first | exact Int.le_refl _ | omega)) (by omega) (by omega)
      · exact hX97 _ _ (hM16_1814.mono (by first | exact Int.le_refl _ | omega)) (by omega)
theorem sX12_passes {p1 : Int} {p2 : Int} {b : Int} {M : Mem} {Q : Int → Mem → Prop} (hI : IM b M) (hb : b + 62 ≤ 2000000000) (hQ : ∀ z : Int, ∀ M' : Mem, IM (b + 62) M' → Q z M') : qX12_passes p1 p2 M Q := by
  unfold qX12_passes
  have hbn := hI.nn
  intro M1_1820 h_M1_1820
  have hM1_1820 : IM (b) M1_1820 := by rw [h_M1_1820]; exact hI.up (by omega) (by simp [BM])
  refine sX12_isHearse (p1 := p1) hM1_1820  ?_
  intro x2_1821 p1822 q1823 q1824
  refine ⟨fun c => ?_, fun c => ?_⟩
  · exact hQ _ _ (hM1_1820.mono (by first | exact Int.le_refl _ | omega))
  · refine sX12_isHearse (p1 := p2) hM1_1820  ?_
    intro x4_1827 p1828 q1829 q1830
    refine ⟨fun c => ?_, fun c => ?_⟩
    · exact hQ _ _ (hM1_1820.mono (by first | exact Int.le_refl _ | omega))
    · refine ⟨fun c => ?_, fun c => ?_⟩
      · refine sX12_isOn (p1 := p1) hM1_1820 (Or.inl rfl) (by omega) ?_
        intro x7_1834 p1835 q1836 q1837
        refine ⟨fun c => ?_, fun c => ?_⟩
        · exact hQ _ _ (hM1_1820.mono (by first | exact Int.le_refl _ | omega))
        · refine sX12_isOn (p1 := p2) hM1_1820 (Or.inl rfl) (by omega) ?_
          intro x9_1840 p1841 q1842 q1843
          refine ⟨fun c => ?_, fun c => ?_⟩
          · exact hQ _ _ (hM1_1820.mono (by first | exact Int.le_refl _ | omega))
          · refine sX12_isAhead (p1 := p1) (p2 := p2) hM1_1820 (Or.inl rfl) (by omega) ?_
            intro x11_1846 q1847 q1848
            refine ⟨fun c => ?_, fun c => ?_⟩
            · refine sX12_copies  hM1_1820  ?_
              intro M13_1850 hM13_1850
              refine ⟨62, ?_⟩
              refine sX12_passes_L71 (b := b) (p1 := p1) (p2 := p2) hb ?_ ?_ _ _ _ (hM13_1850.mono (by first | exact Int.le_refl _ | omega)) (by omega) (by omega)
              · exact hQ
              · intro v3_1851 M_1852 hM_1852 p1853
                intro M20_1854 h_M20_1854
                have hM20_1854 : IM (b + 62) M20_1854 := by rw [h_M20_1854]; exact hM_1852.up (by omega) (bm_c1_1.mpr (by omega))
                refine ⟨by omega, ?_⟩
                refine ⟨by omega, ?_⟩
                intro x23_1855 ex23_1855 rx23_1855
                have rbx23_1855 : -2147483648 ≤ x23_1855 ∧ x23_1855 ≤ 2147483647 := rx23_1855
                have nbx23_1855 : BN (b + 62) p1 x23_1855 := by rw [ex23_1855]; exact (bm_n (Or.inr rfl)).mp (hM20_1854.bx _ _)
                first | (have bx23_1855 : -1 ≤ x23_1855 ∧ x23_1855 ≤ 29 := nbx23_1855.1 (by omega)) | (have bx23_1855 : -1 ≤ x23_1855 ∧ x23_1855 ≤ 29 := nbx23_1855.2.1 (by omega)) | skip
                have fx23_1855 : x23_1855 = M_1852 6 p1 := by rw [ex23_1855, h_M20_1854, up2_n (by decide)]
                have u1856 : 0 ≤ M20_1854 1 1 ∧ M20_1854 1 1 ≤ 24 := bm_c1_1.mp (hM20_1854.bx _ _)
                have t1857 : M20_1854 1 1 = 0 := by rw [h_M20_1854, up2_s]
                refine sX12_enters (p1 := x23_1855) hM20_1854 (by omega) ?_
                intro M24_1858 hM24_1858 p1859
                refine ⟨(by first | assumption | exact (by omega)), ?_⟩
                exact hQ _ _ (hM24_1858.mono (by first | exact Int.le_refl _ | omega))
            · exact hQ _ _ (hM1_1820.mono (by first | exact Int.le_refl _ | omega))
      · exact hQ _ _ (hM1_1820.mono (by first | exact Int.le_refl _ | omega))
theorem sX12_ends_L30 {p1 : Int} {X48 : Int → Mem → Prop} {Q : Int → Mem → Prop} {b : Int} (hb : b + 402 ≤ 2000000000) (hQ : ∀ z : Int, ∀ M' : Mem, IM (b + 402) M' → Q z M') (hX48 : ∀ w1 : Int, ∀ M' : Mem, IM (b + 402) M' → (0 ≤ w1 ∧ w1 ≤ 200) → X48 w1 M') : ∀ (n : Nat) (v2 : Int) (M : Mem), IM (b + 200 + v2) M → (0 ≤ v2 ∧ v2 ≤ 201 ∧ 0 ≤ p1 ∧ p1 ≤ 7) → 201 - v2 < (n : Int) → qX12_ends_L30 p1 X48 Q n v2 M := by
  intro n
  induction n with
  | zero => intro v2 M hI hv hm; exact absurd hm (by omega)
  | succ n ih =>
    intro v2 M hI hv hm
    rw [qX12_ends_L30]
    have hbn := hI.nn
    refine ⟨(by first | assumption | exact (by omega)), ?_⟩
    refine ⟨fun c => ?_, fun c => ?_⟩
    · exact hQ _ _ (hI.mono (by first | exact Int.le_refl _ | omega))
    · refine sX12_isEnded (p1 := p1) hI (Or.inr rfl) (by omega) ?_
      intro x8_1864 q1865 q1866
      refine ⟨fun c => ?_, fun c => ?_⟩
      · refine sX12_stepGoes  hI (by omega) (Or.inr rfl) ?_
        intro M10_1868 hM10_1868
        exact ih _ _ (hM10_1868.mono (by first | exact Int.le_refl _ | omega)) (by omega) (by omega)
      · exact hX48 _ _ (hI.mono (by first | exact Int.le_refl _ | omega)) (by omega)
theorem sX12_ends {p1 : Int} {b : Int} {M : Mem} {Q : Int → Mem → Prop} (hI : IM b M) (hb : b + 402 ≤ 2000000000) (hQ : ∀ z : Int, ∀ M' : Mem, IM (b + 402) M' → Q z M') : qX12_ends p1 M Q := by
  unfold qX12_ends
  have hbn := hI.nn
  intro M1_1870 h_M1_1870
  have hM1_1870 : IM (b) M1_1870 := by rw [h_M1_1870]; exact hI.up (by omega) (by simp [BM])
  refine sX12_isMourner (p1 := p1) hM1_1870  ?_
  intro x2_1871 p1872 q1873 q1874
  refine ⟨fun c => ?_, fun c => ?_⟩
  · refine sX12_copies  hM1_1870  ?_
    intro M4_1876 hM4_1876
    refine sX12_goesOn (p2 := 0) hM4_1876 (by omega) (Or.inr rfl) (by omega) ?_
    intro M5_1877 hM5_1877
    refine ⟨202, ?_⟩
    refine sX12_ends_L30 (b := b) (p1 := p1) hb ?_ ?_ _ _ _ (hM5_1877.mono (by first | exact Int.le_refl _ | omega)) (by omega) (by omega)
    · exact hQ
    · intro v2_1878 M_1879 hM_1879 p1880
      intro M12_1881 h_M12_1881
      have hM12_1881 : IM (b + 402) M12_1881 := by rw [h_M12_1881]; exact hM_1879.up (by omega) (bm_c1_1.mpr (by omega))
      refine ⟨(by first | assumption | exact (by omega)), ?_⟩
      have u1882 : 0 ≤ M12_1881 1 1 ∧ M12_1881 1 1 ≤ 24 := bm_c1_1.mp (hM12_1881.bx _ _)
      have t1883 : M12_1881 1 1 = 0 := by rw [h_M12_1881, up2_s]
      refine sX12_enters (p1 := v2_1878) hM12_1881 (by omega) ?_
      intro M14_1884 hM14_1884 p1885
      refine ⟨by omega, ?_⟩
      refine ⟨by omega, ?_⟩
      intro x17_1886 ex17_1886 rx17_1886
      have bx17_1886 : -2147483648 ≤ x17_1886 ∧ x17_1886 ≤ 2147483647 := rx17_1886
      have u1887 : 0 ≤ M14_1884 1 1 ∧ M14_1884 1 1 ≤ 24 := bm_c1_1.mp (hM14_1884.bx _ _)
      refine sX12_enters (p1 := x17_1886) hM14_1884 (by omega) ?_
      intro M18_1888 hM18_1888 p1889
      refine ⟨by omega, ?_⟩
      refine ⟨by omega, ?_⟩
      intro x21_1890 ex21_1890 rx21_1890
      have bx21_1890 : -2147483648 ≤ x21_1890 ∧ x21_1890 ≤ 2147483647 := rx21_1890
      exact hQ _ _ (hM18_1888.mono (by first | exact Int.le_refl _ | omega))
  · exact hQ _ _ (hM1_1870.mono (by first | exact Int.le_refl _ | omega))
theorem sX12_endedBy_L5 {k1 : Nat} {p2 : Int}  {Q : Int → Mem → Prop} {b : Int} {M0 : Mem} (hk1 : isN k1) (hQ : ∀ z : Int, Q z M0) : ∀ (n : Nat) (v3 v4 : Int), IM (b) M0 → (0 ≤ v4 ∧ v4 ≤ 8) → iR v3 → 8 - v4 < (n : Int) → qX12_endedBy_L5 k1 p2 Q n v3 v4 M0 := by
  intro n
  induction n with
  | zero => intro v3 v4 hI hv hrv3 hm; exact absurd hm (by omega)
  | succ n ih =>
    intro v3 v4 hI hv hrv3 hm
    rw [qX12_endedBy_L5]
    have hbn := hI.nn
    have ek1 : k1 = 5 ∨ k1 = 6 := hk1
    intro x1_1892 ex1_1892 rx1_1892
    have bx1_1892 : 0 ≤ x1_1892 ∧ x1_1892 ≤ 8 := by rw [ex1_1892]; exact bm_c1_5.mp (hI.bx _ _)
    refine ⟨(by first | assumption | exact (by omega)), ?_⟩
    refine ⟨fun c => ?_, fun c => ?_⟩
    · refine ⟨(by first | assumption | exact (by omega)), ?_⟩
      exact hQ _
    · refine sX12_isEnded (p1 := v4) hI hk1 (by omega) ?_
      intro x5_1895 q1896 q1897
      refine ⟨fun c => ?_, fun c => ?_⟩
      · intro x7_1899 ex7_1899 rx7_1899
        first | (have fx7_1899 := oI_64 (a := v3) (b := 0) (by omega) (by omega); rw [← ex7_1899] at fx7_1899) | skip
        exact ih _ _ (hI.mono (by first | exact Int.le_refl _ | omega)) (by omega) (by first | assumption | exact (by omega)) (by omega)
      · refine ⟨by omega, ?_⟩
        refine ⟨by omega, ?_⟩
        intro x10_1901 ex10_1901 rx10_1901
        have bx10_1901 : -2147483648 ≤ x10_1901 ∧ x10_1901 ≤ 2147483647 := rx10_1901
        refine ⟨by omega, ?_⟩
        refine ⟨by omega, ?_⟩
        intro x13_1902 ex13_1902 rx13_1902
        have bx13_1902 : 0 ≤ x13_1902 ∧ x13_1902 ≤ 5 := by rw [ex13_1902]; exact bm_c3.mp (hI.bx _ _)
        refine ⟨fun c => ?_, fun c => ?_⟩
        · unfold qX12_endedBy_J46
          refine ⟨(by first | assumption | exact (by omega)), ?_⟩
          refine ⟨fun c => ?_, fun c => ?_⟩
          · intro x17_1905 ex17_1905 rx17_1905
            first | (have fx17_1905 := oI_64 (a := v3) (b := 0) (by omega) (by omega); rw [← ex17_1905] at fx17_1905) | skip
            exact ih _ _ (hI.mono (by first | exact Int.le_refl _ | omega)) (by omega) (by first | assumption | exact (by omega)) (by omega)
          · intro x18_1907 ex18_1907 rx18_1907
            first | (have fx18_1907 := slI_1 (b := v4) (by omega); rw [← ex18_1907] at fx18_1907) | skip
            intro x19_1908 ex19_1908 rx19_1908
            first | (have fx19_1908 := oI_64 (a := v3) (b := x18_1907) (by omega) (by omega); rw [← ex19_1908] at fx19_1908) | skip
            exact ih _ _ (hI.mono (by first | exact Int.le_refl _ | omega)) (by omega) (by first | assumption | exact (by omega)) (by omega)
        · unfold qX12_endedBy_J46
          refine ⟨(by first | assumption | exact (by omega)), ?_⟩
          refine ⟨fun c => ?_, fun c => ?_⟩
          · intro x17_1911 ex17_1911 rx17_1911
            first | (have fx17_1911 := oI_64 (a := v3) (b := 0) (by omega) (by omega); rw [← ex17_1911] at fx17_1911) | skip
            exact ih _ _ (hI.mono (by first | exact Int.le_refl _ | omega)) (by omega) (by first | assumption | exact (by omega)) (by omega)
          · intro x18_1913 ex18_1913 rx18_1913
            first | (have fx18_1913 := slI_1 (b := v4) (by omega); rw [← ex18_1913] at fx18_1913) | skip
            intro x19_1914 ex19_1914 rx19_1914
            first | (have fx19_1914 := oI_64 (a := v3) (b := x18_1913) (by omega) (by omega); rw [← ex19_1914] at fx19_1914) | skip
            exact ih _ _ (hI.mono (by first | exact Int.le_refl _ | omega)) (by omega) (by first | assumption | exact (by omega)) (by omega)
end
