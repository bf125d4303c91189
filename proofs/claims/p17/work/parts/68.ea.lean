theorem sX12_in {p0 : Int} {p2 : Int} {p4 : Int} {b : Int} {M : Mem} {Q : Int → Mem → Prop} (hI : IM b M) (hQ : ∀ z : Int, ((z = 0 ∨ z = 1) ∧ (z = 1 → p2 ≤ p0 ∧ p0 ≤ p4) ∧ (z = 0 → p0 < p2 ∨ p4 < p0)) → Q z M) : qX12_in p0 p2 p4 M Q := by
  unfold qX12_in
  have hbn := hI.nn
  intro x1_22 rx1_22 cx1_22
  refine ⟨fun c => ?_, fun c => ?_⟩
  · exact hQ _ (by omega)
  · intro x3_25 rx3_25 cx3_25
    refine ⟨fun c => ?_, fun c => ?_⟩
    · exact hQ _ (by omega)
    · exact hQ _ (by omega)
theorem sX12_begins {p1 : Int} {b : Int} {M : Mem} {Q : Int → Mem → Prop} (hI : IM b M) (hp : 0 ≤ p1 ∧ p1 ≤ 80) (hQ : ∀ z : Int, ∀ M' : Mem, IM b M' → FrJ (fun k j => k = 1 ∧ (j = 14 ∨ j = 15 ∨ j = 16 ∨ j = 17)) M M' → (0 ≤ z ∧ z ≤ 80 ∧ M' 1 15 = 0 ∧ M' 1 16 ≤ p1 ∧ M' 1 17 = 0 ∧ z = M 1 14 ∧ M' 1 14 = 0) → Q z M') : qX12_begins p1 M Q := by
  unfold qX12_begins
  have hbn := hI.nn
  have u37 : 0 ≤ M 1 14 ∧ M 1 14 ≤ 80 := bm_c1_14.mp (hI.bx _ _)
  have u38 : 0 ≤ M 1 15 ∧ M 1 15 ≤ 80 := bm_c1_15.mp (hI.bx _ _)
  have u39 : 0 ≤ M 1 16 ∧ M 1 16 ≤ 80 := bm_c1_16.mp (hI.bx _ _)
  intro x1_40 ex1_40 rx1_40
  have bx1_40 : 0 ≤ x1_40 ∧ x1_40 ≤ 80 := by rw [ex1_40]; exact bm_c1_14.mp (hI.bx _ _)
  intro M2_41 h_M2_41
  have hM2_41 : IM (b) M2_41 := by rw [h_M2_41]; exact hI.up (by omega) (bm_c1_14.mpr (by omega))
  have hFM2_41 : FrJ (fun k j => k = 1 ∧ (j = 14 ∨ j = 15 ∨ j = 16 ∨ j = 17)) M M2_41 := by rw [h_M2_41]; exact (FrJ.rf).up (by omega)
  intro M3_42 h_M3_42
  have hM3_42 : IM (b) M3_42 := by rw [h_M3_42]; exact hM2_41.up (by omega) (bm_c1_15.mpr (by omega))
  have hFM3_42 : FrJ (fun k j => k = 1 ∧ (j = 14 ∨ j = 15 ∨ j = 16 ∨ j = 17)) M M3_42 := by rw [h_M3_42]; exact (hFM2_41).up (by omega)
  intro M4_43 h_M4_43
  have hM4_43 : IM (b) M4_43 := by rw [h_M4_43]; exact hM3_42.up (by omega) (by simp [BM])
  have hFM4_43 : FrJ (fun k j => k = 1 ∧ (j = 14 ∨ j = 15 ∨ j = 16 ∨ j = 17)) M M4_43 := by rw [h_M4_43]; exact (hFM3_42).up (by omega)
  intro x5_44 ex5_44 rx5_44
  intro M6_45 h_M6_45
  have hM6_45 : IM (b) M6_45 := by rw [h_M6_45]; exact hM4_43.up (by omega) (bm_c1_16.mpr (by omega))
  have hFM6_45 : FrJ (fun k j => k = 1 ∧ (j = 14 ∨ j = 15 ∨ j = 16 ∨ j = 17)) M M6_45 := by rw [h_M6_45]; exact (hFM4_43).up (by omega)
  have u46 : 0 ≤ M6_45 1 15 ∧ M6_45 1 15 ≤ 80 := bm_c1_15.mp (hM6_45.bx _ _)
  have u47 : 0 ≤ M6_45 1 16 ∧ M6_45 1 16 ≤ 80 := bm_c1_16.mp (hM6_45.bx _ _)
  have u48 : 0 ≤ M6_45 1 14 ∧ M6_45 1 14 ≤ 80 := bm_c1_14.mp (hM6_45.bx _ _)
  have t49 : M6_45 1 15 = 0 := by rw [h_M6_45, up2_j (by decide), h_M4_43, up2_j (by decide), h_M3_42, up2_s]
  have t50 : M6_45 1 16 = x5_44 := by rw [h_M6_45, up2_s]
  have t51 : M6_45 1 17 = 0 := by rw [h_M6_45, up2_j (by decide), h_M4_43, up2_s]
  have t52 : M6_45 1 14 = 0 := by rw [h_M6_45, up2_j (by decide), h_M4_43, up2_j (by decide), h_M3_42, up2_j (by decide), h_M2_41, up2_s]
  exact hQ _ _ (hM6_45.mono (by omega)) hFM6_45 (by omega)
theorem sX12_flag {p0 : Int} {b : Int} {M : Mem} {Q : Int → Mem → Prop} (hI : IM b M) (hQ : ∀ z : Int, ((z = 0 ∨ z = 1) ∧ (z = 0 → p0 = 0) ∧ (z = 1 → ¬ p0 = 0)) → Q z M) : qX12_flag p0 M Q := by
  unfold qX12_flag
  have hbn := hI.nn
  refine ⟨fun c => ?_, fun c => ?_⟩
  · exact hQ _ (by omega)
  · exact hQ _ (by omega)
theorem sX12_takesOf_L2 {bs : List Int} {X38 : Int → Mem → Prop} {Q : Int → Mem → Prop} {b : Int} {M0 : Mem} (hp : (bs.length : Int) ≤ 7) (hQ : ∀ z : Int, ∀ M' : Mem, IM b M' → FrJ (fun k j => k = 1 ∧ j = 15) M0 M' → (-1 ≤ z ∧ z < bs.length ∧ z ≤ 6 ∧ M0 1 15 ≤ M' 1 15 ∧ (0 ≤ z → M' 1 15 = M0 1 15 + 1)) → Q z M') (hX38 : ∀ w1 : Int, ∀ M' : Mem, IM (b) M' → FrJ (fun k j => k = 1 ∧ j = 15) M0 M' → (0 ≤ w1 ∧ w1 < bs.length ∧ M' 1 15 < M' 1 16 ∧ M' 1 16 ≤ 80 ∧ M' 1 15 = M0 1 15) → X38 w1 M') : ∀ (n : Nat) (v2 : Int) (M : Mem), IM (b) M → FrJ (fun k j => k = 1 ∧ j = 15) M0 M → (0 ≤ v2 ∧ v2 ≤ bs.length ∧ M 1 15 = M0 1 15) → bs.length - v2 < (n : Int) → qX12_takesOf_L2 bs X38 Q n v2 M := by
  intro n
  induction n with
  | zero => intro v2 M hI hF hv hm; exact absurd hm (by omega)
  | succ n ih =>
    intro v2 M hI hF hv hm
    rw [qX12_takesOf_L2]
    have hbn := hI.nn
    have u55 : 0 ≤ M 1 15 ∧ M 1 15 ≤ 80 := bm_c1_15.mp (hI.bx _ _)
    have u56 : 0 ≤ M 1 16 ∧ M 1 16 ≤ 80 := bm_c1_16.mp (hI.bx _ _)
    intro x1_57 ex1_57 rx1_57
    refine ⟨(by first | assumption | exact (by omega)), ?_⟩
    refine ⟨fun c => ?_, fun c => ?_⟩
    · have u59 : 0 ≤ M 1 15 ∧ M 1 15 ≤ 80 := bm_c1_15.mp (hI.bx _ _)
      exact hQ _ _ (hI.mono (by omega)) hF (by omega)
    · intro x4_61 ex4_61 rx4_61
      have bx4_61 : 0 ≤ x4_61 ∧ x4_61 ≤ 80 := by rw [ex4_61]; exact bm_c1_15.mp (hI.bx _ _)
      intro x5_62 ex5_62 rx5_62
      have bx5_62 : 0 ≤ x5_62 ∧ x5_62 ≤ 80 := by rw [ex5_62]; exact bm_c1_16.mp (hI.bx _ _)
      refine ⟨fun c => ?_, fun c => ?_⟩
      · have u64 : 0 ≤ M 1 15 ∧ M 1 15 ≤ 80 := bm_c1_15.mp (hI.bx _ _)
        exact hQ _ _ (hI.mono (by omega)) hF (by omega)
      · refine ⟨by omega, ?_⟩
        refine ⟨by omega, ?_⟩
        intro x9_66 ex9_66 rx9_66
        intro x10_67 ex10_67 rx10_67
        have bx10_67 : 0 ≤ x10_67 ∧ x10_67 ≤ 80 := by rw [ex10_67]; exact bm_c1_15.mp (hI.bx _ _)
        refine ⟨by omega, ?_⟩
        refine ⟨by omega, ?_⟩
        intro x13_68 ex13_68 rx13_68
        have bx13_68 : 0 ≤ x13_68 ∧ x13_68 ≤ 255 := by rw [ex13_68]; exact bm_c7.mp (hI.bx _ _)
        have cgx13_68 : x13_68 = M 7 (M 1 15) := by rw [ex13_68, ← ex10_67]
        refine ⟨fun c => ?_, fun c => ?_⟩
        · exact ih _ _ (hI.mono (by omega)) hF (by omega) (by omega)
        · exact hX38 _ _ (hI.mono (by omega)) hF (by omega)
theorem sX12_takesOf {bs : List Int} {b : Int} {M : Mem} {Q : Int → Mem → Prop} (hI : IM b M) (hp : (bs.length : Int) ≤ 7) (hQ : ∀ z : Int, ∀ M' : Mem, IM b M' → FrJ (fun k j => k = 1 ∧ j = 15) M M' → (-1 ≤ z ∧ z < bs.length ∧ z ≤ 6 ∧ M 1 15 ≤ M' 1 15 ∧ (0 ≤ z → M' 1 15 = M 1 15 + 1)) → Q z M') : qX12_takesOf bs M Q := by
  unfold qX12_takesOf
  have hbn := hI.nn
  have u71 : 0 ≤ M 1 15 ∧ M 1 15 ≤ 80 := bm_c1_15.mp (hI.bx _ _)
  refine ⟨(bs.length + 1), ?_⟩
  refine sX12_takesOf_L2 (b := b)  (M0 := M) hp ?_ ?_ _ _ _ (hI.mono (by omega)) FrJ.rf (by omega) (by omega)
  · exact hQ
  · intro v2_72 M_73 hM_73 hFM_73 p74
    intro x16_75 ex16_75 rx16_75
    have bx16_75 : 0 ≤ x16_75 ∧ x16_75 ≤ 80 := by rw [ex16_75]; exact bm_c1_15.mp (hM_73.bx _ _)
    refine ⟨(by first | assumption | exact (by omega)), ?_⟩
    intro M18_76 h_M18_76
    have hM18_76 : IM (b) M18_76 := by rw [h_M18_76]; exact hM_73.up (by omega) (bm_c1_15.mpr (by omega))
    have hFM18_76 : FrJ (fun k j => k = 1 ∧ j = 15) M M18_76 := by rw [h_M18_76]; exact (hFM_73).up (by omega)
    refine ⟨(by first | assumption | exact (by omega)), ?_⟩
    have u77 : 0 ≤ M18_76 1 15 ∧ M18_76 1 15 ≤ 80 := bm_c1_15.mp (hM18_76.bx _ _)
    have t78 : M18_76 1 15 = x16_75 + 1 := by rw [h_M18_76, up2_s]
    exact hQ _ _ (hM18_76.mono (by omega)) hFM18_76 (by omega)
theorem sX12_faultOf {p1 : Int} {p2 : Int} {p3 : Int} {b : Int} {M : Mem} {Q : Int → Mem → Prop} (hI : IM b M) (hp : 0 ≤ p2 ∧ p2 ≤ 80) (hQ : ∀ z : Int, (-100 ≤ z ∧ z ≤ 0 ∧ (p3 = 0 → z ≤ -1)) → Q z M) : qX12_faultOf p1 p2 p3 M Q := by
  unfold qX12_faultOf
  have hbn := hI.nn
  refine ⟨fun c => ?_, fun c => ?_⟩
  · unfold qX12_faultOf_J19
    unfold qX12_faultOf_J20
    refine ⟨fun c => ?_, fun c => ?_⟩
    · unfold qX12_faultOf_J44
      refine ⟨(by first | assumption | exact (by omega)), ?_⟩
      refine ⟨fun c => ?_, fun c => ?_⟩
      · intro x5_144 ex5_144 rx5_144
        have bx5_144 : 0 ≤ x5_144 ∧ x5_144 ≤ 80 := by rw [ex5_144]; exact bm_c1_15.mp (hI.bx _ _)
        refine ⟨(by first | assumption | exact (by omega)), ?_⟩
        exact hQ _ (by omega)
      · exact hQ _ (by omega)
    · refine ⟨(by first | assumption | exact (by omega)), ?_⟩
      refine ⟨fun c => ?_, fun c => ?_⟩
      · refine ⟨(by first | assumption | exact (by omega)), ?_⟩
        exact hQ _ (by omega)
      · intro x10_149 ex10_149 rx10_149
        have bx10_149 : 0 ≤ x10_149 ∧ x10_149 ≤ 80 := by rw [ex10_149]; exact bm_c1_15.mp (hI.bx _ _)
        refine ⟨fun c => ?_, fun c => ?_⟩
        · unfold qX12_faultOf_J44
          refine ⟨(by first | assumption | exact (by omega)), ?_⟩
          refine ⟨fun c => ?_, fun c => ?_⟩
          · intro x5_152 ex5_152 rx5_152
            have bx5_152 : 0 ≤ x5_152 ∧ x5_152 ≤ 80 := by rw [ex5_152]; exact bm_c1_15.mp (hI.bx _ _)
            refine ⟨(by first | assumption | exact (by omega)), ?_⟩
            exact hQ _ (by omega)
          · exact hQ _ (by omega)
        · refine ⟨(by first | assumption | exact (by omega)), ?_⟩
          exact hQ _ (by omega)
  · intro x13_156 ex13_156 rx13_156
    have bx13_156 : 0 ≤ x13_156 ∧ x13_156 ≤ 80 := by rw [ex13_156]; exact bm_c1_15.mp (hI.bx _ _)
    intro x14_157 ex14_157 rx14_157
    have bx14_157 : 0 ≤ x14_157 ∧ x14_157 ≤ 80 := by rw [ex14_157]; exact bm_c1_16.mp (hI.bx _ _)
    refine ⟨fun c => ?_, fun c => ?_⟩
    · unfold qX12_faultOf_J19
      unfold qX12_faultOf_J20
      refine ⟨fun c => ?_, fun c => ?_⟩
      · unfold qX12_faultOf_J44
        refine ⟨(by first | assumption | exact (by omega)), ?_⟩
        refine ⟨fun c => ?_, fun c => ?_⟩
        · intro x5_161 ex5_161 rx5_161
          have bx5_161 : 0 ≤ x5_161 ∧ x5_161 ≤ 80 := by rw [ex5_161]; exact bm_c1_15.mp (hI.bx _ _)
          refine ⟨(by first | assumption | exact (by omega)), ?_⟩
          exact hQ _ (by omega)
        · exact hQ _ (by omega)
      · refine ⟨(by first | assumption | exact (by omega)), ?_⟩
        refine ⟨fun c => ?_, fun c => ?_⟩
        · refine ⟨(by first | assumption | exact (by omega)), ?_⟩
          exact hQ _ (by omega)
        · intro x10_166 ex10_166 rx10_166
          have bx10_166 : 0 ≤ x10_166 ∧ x10_166 ≤ 80 := by rw [ex10_166]; exact bm_c1_15.mp (hI.bx _ _)
          refine ⟨fun c => ?_, fun c => ?_⟩
          · unfold qX12_faultOf_J44
            refine ⟨(by first | assumption | exact (by omega)), ?_⟩
            refine ⟨fun c => ?_, fun c => ?_⟩
            · intro x5_169 ex5_169 rx5_169
              have bx5_169 : 0 ≤ x5_169 ∧ x5_169 ≤ 80 := by rw [ex5_169]; exact bm_c1_15.mp (hI.bx _ _)
              refine ⟨(by first | assumption | exact (by omega)), ?_⟩
              exact hQ _ (by omega)
            · exact hQ _ (by omega)
          · refine ⟨(by first | assumption | exact (by omega)), ?_⟩
            exact hQ _ (by omega)
    · unfold qX12_faultOf_J20
      refine ⟨fun c => ?_, fun c => ?_⟩
      · unfold qX12_faultOf_J44
        refine ⟨(by first | assumption | exact (by omega)), ?_⟩
        refine ⟨fun c => ?_, fun c => ?_⟩
        · intro x5_175 ex5_175 rx5_175
          have bx5_175 : 0 ≤ x5_175 ∧ x5_175 ≤ 80 := by rw [ex5_175]; exact bm_c1_15.mp (hI.bx _ _)
          refine ⟨(by first | assumption | exact (by omega)), ?_⟩
          exact hQ _ (by omega)
        · exact hQ _ (by omega)
      · refine ⟨(by first | assumption | exact (by omega)), ?_⟩
        refine ⟨fun c => ?_, fun c => ?_⟩
        · refine ⟨(by first | assumption | exact (by omega)), ?_⟩
          exact hQ _ (by omega)
        · intro x10_180 ex10_180 rx10_180
          have bx10_180 : 0 ≤ x10_180 ∧ x10_180 ≤ 80 := by rw [ex10_180]; exact bm_c1_15.mp (hI.bx _ _)
          refine ⟨fun c => ?_, fun c => ?_⟩
          · unfold qX12_faultOf_J44
            refine ⟨(by first | assumption | exact (by omega)), ?_⟩
            refine ⟨fun c => ?_, fun c => ?_⟩
            · intro x5_183 ex5_183 rx5_183
              have bx5_183 : 0 ≤ x5_183 ∧ x5_183 ≤ 80 := by rw [ex5_183]; exact bm_c1_15.mp (hI.bx _ _)
              refine ⟨(by first | assumption | exact (by omega)), ?_⟩
              exact hQ _ (by omega)
            · exact hQ _ (by omega)
          · refine ⟨(by first | assumption | exact (by omega)), ?_⟩
            exact hQ _ (by omega)
theorem sX12_gate  {b : Int} {M : Mem} {Q : Int → Mem → Prop} (hI : IM b M) (hQ : ∀ z : Int, (3 ≤ z ∧ z ≤ 29 ∧ z = M 1 3 - 1) → Q z M) : qX12_gate M Q := by
  unfold qX12_gate
  have hbn := hI.nn
  have u220 : 4 ≤ M 1 3 ∧ M 1 3 ≤ 30 := bm_c1_3.mp (hI.bx _ _)
  intro x1_221 ex1_221 rx1_221
  have bx1_221 : 4 ≤ x1_221 ∧ x1_221 ≤ 30 := by rw [ex1_221]; exact bm_c1_3.mp (hI.bx _ _)
  refine ⟨(by first | assumption | exact (by omega)), ?_⟩
  exact hQ _ (by omega)
theorem sX12_isDigit  {b : Int} {M : Mem} {Q : Int → Mem → Prop} (hI : IM b M) (hQ : ∀ z : Int, ((z = 1 → M 1 15 < M 1 16 ∧ M 1 16 ≤ 80 ∧ 48 ≤ M 7 (M 1 15) ∧ M 7 (M 1 15) ≤ 57) ∧ (z = 0 → ¬ (M 1 15 < M 1 16 ∧ M 1 16 ≤ 80 ∧ 48 ≤ M 7 (M 1 15) ∧ M 7 (M 1 15) ≤ 57)) ∧ (z = 0 ∨ z = 1)) → Q z M) : qX12_isDigit M Q := by
  unfold qX12_isDigit
  have hbn := hI.nn
  have u222 : 0 ≤ M 1 15 ∧ M 1 15 ≤ 80 := bm_c1_15.mp (hI.bx _ _)
  have u223 : 0 ≤ M 1 16 ∧ M 1 16 ≤ 80 := bm_c1_16.mp (hI.bx _ _)
  intro x1_224 ex1_224 rx1_224
  have bx1_224 : 0 ≤ x1_224 ∧ x1_224 ≤ 80 := by rw [ex1_224]; exact bm_c1_15.mp (hI.bx _ _)
  intro x2_225 ex2_225 rx2_225
  have bx2_225 : 0 ≤ x2_225 ∧ x2_225 ≤ 80 := by rw [ex2_225]; exact bm_c1_16.mp (hI.bx _ _)
  refine ⟨fun c => ?_, fun c => ?_⟩
  · exact hQ _ (by omega)
  · intro x4_228 ex4_228 rx4_228
    have bx4_228 : 0 ≤ x4_228 ∧ x4_228 ≤ 80 := by rw [ex4_228]; exact bm_c1_15.mp (hI.bx _ _)
    refine ⟨by omega, ?_⟩
    refine ⟨by omega, ?_⟩
    intro x7_229 ex7_229 rx7_229
    have bx7_229 : 0 ≤ x7_229 ∧ x7_229 ≤ 255 := by rw [ex7_229]; exact bm_c7.mp (hI.bx _ _)
    have cgx7_229 : x7_229 = M 7 (M 1 15) := by rw [ex7_229, ← ex4_228]
    refine sX12_in (p0 := x7_229) (p2 := 48) (p4 := 57) hI  ?_
    intro x8_230 p231 q232 q233
    refine ⟨fun c => ?_, fun c => ?_⟩
    · exact hQ _ (by omega)
    · exact hQ _ (by omega)
theorem sX12_number_L13 {p1 : Int}  {Q : Int → Mem → Prop} {b : Int} {M0 : Mem} (hp : 1 ≤ p1 ∧ p1 ≤ 3) (hQ : ∀ z : Int, ∀ M' : Mem, IM b M' → FrJ (fun k j => k = 1 ∧ j = 15) M0 M' → (-1 ≤ z ∧ z ≤ 999 ∧ (p1 = 1 → z ≤ 9) ∧ (p1 = 2 → z ≤ 99) ∧ M0 1 15 ≤ M' 1 15 ∧ (0 ≤ z → M0 1 15 + 1 ≤ M' 1 15) ∧ (M0 1 15 < M0 1 16 ∧ 48 ≤ M0 7 (M0 1 15) ∧ M0 7 (M0 1 15) ≤ 57 → 0 ≤ z)) → Q z M') : ∀ (n : Nat) (v2 v3 : Int) (M : Mem), IM (b) M → FrJ (fun k j => k = 1 ∧ j = 15) M0 M → (0 ≤ v3 ∧ v3 ≤ p1 ∧ 0 ≤ v2 ∧ (v3 = 0 → v2 = 0 ∧ M 1 15 < M 1 16 ∧ M 1 16 ≤ 80 ∧ 48 ≤ M 7 (M 1 15) ∧ M 7 (M 1 15) ≤ 57) ∧ (v3 = 1 → v2 ≤ 9) ∧ (v3 = 2 → v2 ≤ 99) ∧ v2 ≤ 999 ∧ M0 1 15 + v3 ≤ M 1 15) → 3 - v3 < (n : Int) → qX12_number_L13 p1 Q n v2 v3 M := by
  intro n
  induction n with
  | zero => intro v2 v3 M hI hF hv hm; exact absurd hm (by omega)
  | succ n ih =>
    intro v2 v3 M hI hF hv hm
    rw [qX12_number_L13]
    have hbn := hI.nn
    have u236 : 0 ≤ M 1 15 ∧ M 1 15 ≤ 80 := bm_c1_15.mp (hI.bx _ _)
    have u237 : 0 ≤ M 1 16 ∧ M 1 16 ≤ 80 := bm_c1_16.mp (hI.bx _ _)
    refine ⟨(by first | assumption | exact (by omega)), ?_⟩
    refine ⟨fun c => ?_, fun c => ?_⟩
    · refine ⟨(by first | assumption | exact (by omega)), ?_⟩
      have u239 : 0 ≤ M 1 15 ∧ M 1 15 ≤ 80 := bm_c1_15.mp (hI.bx _ _)
      exact hQ _ _ (hI.mono (by omega)) hF (by omega)
    · refine sX12_isDigit  hI  ?_
      intro x6_241 p242 q243 q244
      refine ⟨fun c => ?_, fun c => ?_⟩
      · refine ⟨(by first | assumption | exact (by omega)), ?_⟩
        have u246 : 0 ≤ M 1 15 ∧ M 1 15 ≤ 80 := bm_c1_15.mp (hI.bx _ _)
        exact hQ _ _ (hI.mono (by omega)) hF (by omega)
      · intro x9_248 ex9_248 rx9_248
        have bx9_248 : 0 ≤ x9_248 ∧ x9_248 ≤ 80 := by rw [ex9_248]; exact bm_c1_15.mp (hI.bx _ _)
        refine ⟨by omega, ?_⟩
        refine ⟨by omega, ?_⟩
        intro x12_249 ex12_249 rx12_249
        have bx12_249 : 0 ≤ x12_249 ∧ x12_249 ≤ 255 := by rw [ex12_249]; exact bm_c7.mp (hI.bx _ _)
        have cgx12_249 : x12_249 = M 7 (M 1 15) := by rw [ex12_249, ← ex9_248]
        intro x13_250 ex13_250 rx13_250
        have bx13_250 : 0 ≤ x13_250 ∧ x13_250 ≤ 80 := by rw [ex13_250]; exact bm_c1_15.mp (hI.bx _ _)
        refine ⟨(by first | assumption | exact (by omega)), ?_⟩
        intro M15_251 h_M15_251
        have hM15_251 : IM (b) M15_251 := by rw [h_M15_251]; exact hI.up (by omega) (bm_c1_15.mpr (by omega))
        have hFM15_251 : FrJ (fun k j => k = 1 ∧ j = 15) M0 M15_251 := by rw [h_M15_251]; exact (hF).up (by omega)
        have u252 : 0 ≤ M15_251 1 15 ∧ M15_251 1 15 ≤ 80 := bm_c1_15.mp (hM15_251.bx _ _)
        have t253 : M15_251 1 15 = x13_250 + 1 := by rw [h_M15_251, up2_s]
        exact ih _ _ _ (hM15_251.mono (by omega)) hFM15_251 (by omega) (by omega)
theorem sX12_number {p1 : Int} {b : Int} {M : Mem} {Q : Int → Mem → Prop} (hI : IM b M) (hp : 1 ≤ p1 ∧ p1 ≤ 3) (hQ : ∀ z : Int, ∀ M' : Mem, IM b M' → FrJ (fun k j => k = 1 ∧ j = 15) M M' → (-1 ≤ z ∧ z ≤ 999 ∧ (p1 = 1 → z ≤ 9) ∧ (p1 = 2 → z ≤ 99) ∧ M 1 15 ≤ M' 1 15 ∧ (0 ≤ z → M 1 15 + 1 ≤ M' 1 15) ∧ (M 1 15 < M 1 16 ∧ 48 ≤ M 7 (M 1 15) ∧ M 7 (M 1 15) ≤ 57 → 0 ≤ z)) → Q z M') : qX12_number p1 M Q := by
  unfold qX12_number
  have hbn := hI.nn
  have u254 : 0 ≤ M 1 15 ∧ M 1 15 ≤ 80 := bm_c1_15.mp (hI.bx _ _)
  have u255 : 0 ≤ M 1 16 ∧ M 1 16 ≤ 80 := bm_c1_16.mp (hI.bx _ _)
  refine sX12_isDigit  hI  ?_
  intro x1_256 p257 q258 q259
  refine ⟨fun c => ?_, fun c => ?_⟩
  · refine ⟨4, ?_⟩
    have u261 : 0 ≤ M 1 15 ∧ M 1 15 ≤ 80 := bm_c1_15.mp (hI.bx _ _)
    refine sX12_number_L13 (b := b) (p1 := p1) (M0 := M) hp ?_ _ _ _ _ (hI.mono (by omega)) FrJ.rf (by omega) (by omega)
    · exact hQ
  · have u263 : 0 ≤ M 1 15 ∧ M 1 15 ≤ 80 := bm_c1_15.mp (hI.bx _ _)
    exact hQ _ _ (hI.mono (by omega)) FrJ.rf (by omega)
theorem sX12_onCell_L5 {k1 : Nat} {p2 : Int}  {Q : Int → Mem → Prop} {b : Int} {M0 : Mem} (hk1 : isN k1) (hQ : ∀ z : Int, (-1 ≤ z ∧ z ≤ 5 ∧ (0 ≤ z → M0 k1 z = p2 ∧ z < M0 1 4)) → Q z M0) : ∀ (n : Nat) (v3 v4 : Int), IM (b) M0 → ((v3 = -1 ∨ 0 ≤ v3 ∧ v3 < M0 1 4 ∧ M0 k1 v3 = p2) ∧ -1 ≤ v3 ∧ v3 ≤ 5 ∧ 0 ≤ v4 ∧ v4 ≤ 6) → 6 - v4 < (n : Int) → qX12_onCell_L5 k1 p2 Q n v3 v4 M0 := by
  intro n
  induction n with
  | zero => intro v3 v4 hI hv hm; exact absurd hm (by omega)
  | succ n ih =>
    intro v3 v4 hI hv hm
    rw [qX12_onCell_L5]
    have hbn := hI.nn
    have ek1 : k1 = 5 ∨ k1 = 6 := hk1
    have u264 : 0 ≤ M0 1 4 ∧ M0 1 4 ≤ 6 := bm_c1_4.mp (hI.bx _ _)
    intro x1_265 ex1_265 rx1_265
    have bx1_265 : 0 ≤ x1_265 ∧ x1_265 ≤ 6 := by rw [ex1_265]; exact bm_c1_4.mp (hI.bx _ _)
    refine ⟨(by first | assumption | exact (by omega)), ?_⟩
    refine ⟨fun c => ?_, fun c => ?_⟩
    · refine ⟨(by first | assumption | exact (by omega)), ?_⟩
      exact hQ _ (by omega)
    · refine ⟨by omega, ?_⟩
      refine ⟨by omega, ?_⟩
      intro x7_268 ex7_268 rx7_268
      have rbx7_268 : -2147483648 ≤ x7_268 ∧ x7_268 ≤ 2147483647 := rx7_268
      have nbx7_268 : BN (b) v4 x7_268 := by rw [ex7_268]; exact (bm_n hk1).mp (hI.bx _ _)
      first | (have bx7_268 : -1 ≤ x7_268 ∧ x7_268 ≤ 29 := nbx7_268.1 (by omega)) | (have bx7_268 : -1 ≤ x7_268 ∧ x7_268 ≤ 29 := nbx7_268.2.1 (by omega)) | skip
      refine ⟨fun c => ?_, fun c => ?_⟩
      · exact ih _ _ (hI.mono (by omega)) (by omega) (by omega)
      · exact ih _ _ (hI.mono (by omega)) (by omega) (by omega)
theorem sX12_onCell {k1 : Nat} {p2 : Int} {b : Int} {M : Mem} {Q : Int → Mem → Prop} (hI : IM b M) (hk1 : isN k1) (hQ : ∀ z : Int, (-1 ≤ z ∧ z ≤ 5 ∧ (0 ≤ z → M k1 z = p2 ∧ z < M 1 4)) → Q z M) : qX12_onCell k1 p2 M Q := by
  unfold qX12_onCell
  have hbn := hI.nn
  have ek1 : k1 = 5 ∨ k1 = 6 := hk1
  have u271 : 0 ≤ M 1 4 ∧ M 1 4 ≤ 6 := bm_c1_4.mp (hI.bx _ _)
  refine ⟨7, ?_⟩
  refine sX12_onCell_L5 (b := b) (p2 := p2) (M0 := M) hk1 ?_ _ _ _ (hI.mono (by omega)) (by omega) (by omega)
  · exact hQ
theorem sX12_takes {p1 : Int} {b : Int} {M : Mem} {Q : Int → Mem → Prop} (hI : IM b M) (hQ : ∀ z : Int, ∀ M' : Mem, IM b M' → FrJ (fun k j => k = 1 ∧ j = 15) M M' → (M 1 15 ≤ M' 1 15 ∧ (z = 1 → M' 1 15 = M 1 15 + 1)) → Q z M') : qX12_takes p1 M Q := by
  unfold qX12_takes
  have hbn := hI.nn
  have u408 : 0 ≤ M 1 15 ∧ M 1 15 ≤ 80 := bm_c1_15.mp (hI.bx _ _)
  intro x1_409 ex1_409 rx1_409
  have bx1_409 : 0 ≤ x1_409 ∧ x1_409 ≤ 80 := by rw [ex1_409]; exact bm_c1_15.mp (hI.bx _ _)
  intro x2_410 ex2_410 rx2_410
  have bx2_410 : 0 ≤ x2_410 ∧ x2_410 ≤ 80 := by rw [ex2_410]; exact bm_c1_16.mp (hI.bx _ _)
  refine ⟨fun c => ?_, fun c => ?_⟩
  · unfold qX12_takes_J28
    unfold qX12_takes_J29
    intro x4_412 ex4_412 rx4_412
    have bx4_412 : 0 ≤ x4_412 ∧ x4_412 ≤ 80 := by rw [ex4_412]; exact bm_c1_15.mp (hI.bx _ _)
    refine ⟨(by first | assumption | exact (by omega)), ?_⟩
    refine sX12_flag (p0 := 0) hI  ?_
    intro x6_413 p414 q415
    refine ⟨(by first | assumption | exact (by omega)), ?_⟩
    intro M8_416 h_M8_416
    have hM8_416 : IM (b) M8_416 := by rw [h_M8_416]; exact hI.up (by omega) (bm_c1_15.mpr (by omega))
    have hFM8_416 : FrJ (fun k j => k = 1 ∧ j = 15) M M8_416 := by rw [h_M8_416]; exact (FrJ.rf).up (by omega)
    refine ⟨by omega, ?_⟩
    have u417 : 0 ≤ M8_416 1 15 ∧ M8_416 1 15 ≤ 80 := bm_c1_15.mp (hM8_416.bx _ _)
    have t418 : M8_416 1 15 = x4_412 + x6_413 := by rw [h_M8_416, up2_s]
    exact hQ _ _ (hM8_416.mono (by omega)) hFM8_416 (by omega)
  · intro x10_420 ex10_420 rx10_420
    have bx10_420 : 0 ≤ x10_420 ∧ x10_420 ≤ 80 := by rw [ex10_420]; exact bm_c1_15.mp (hI.bx _ _)
    refine ⟨by omega, ?_⟩
    refine ⟨by omega, ?_⟩
    intro x13_421 ex13_421 rx13_421
    have bx13_421 : 0 ≤ x13_421 ∧ x13_421 ≤ 255 := by rw [ex13_421]; exact bm_c7.mp (hI.bx _ _)
    have cgx13_421 : x13_421 = M 7 (M 1 15) := by rw [ex13_421, ← ex10_420]
    refine ⟨fun c => ?_, fun c => ?_⟩
    · unfold qX12_takes_J28
      unfold qX12_takes_J29
      intro x4_423 ex4_423 rx4_423
      have bx4_423 : 0 ≤ x4_423 ∧ x4_423 ≤ 80 := by rw [ex4_423]; exact bm_c1_15.mp (hI.bx _ _)
      refine ⟨(by first | assumption | exact (by omega)), ?_⟩
      refine sX12_flag (p0 := 0) hI  ?_
      intro x6_424 p425 q426
      refine ⟨(by first | assumption | exact (by omega)), ?_⟩
      intro M8_427 h_M8_427
      have hM8_427 : IM (b) M8_427 := by rw [h_M8_427]; exact hI.up (by omega) (bm_c1_15.mpr (by omega))
      have hFM8_427 : FrJ (fun k j => k = 1 ∧ j = 15) M M8_427 := by rw [h_M8_427]; exact (FrJ.rf).up (by omega)
      refine ⟨by omega, ?_⟩
      have u428 : 0 ≤ M8_427 1 15 ∧ M8_427 1 15 ≤ 80 := bm_c1_15.mp (hM8_427.bx _ _)
      have t429 : M8_427 1 15 = x4_423 + x6_424 := by rw [h_M8_427, up2_s]
      exact hQ _ _ (hM8_427.mono (by omega)) hFM8_427 (by omega)
    · unfold qX12_takes_J29
      intro x4_431 ex4_431 rx4_431
      have bx4_431 : 0 ≤ x4_431 ∧ x4_431 ≤ 80 := by rw [ex4_431]; exact bm_c1_15.mp (hI.bx _ _)
      refine ⟨(by first | assumption | exact (by omega)), ?_⟩
      refine sX12_flag (p0 := 1) hI  ?_
      intro x6_432 p433 q434
      refine ⟨(by first | assumption | exact (by omega)), ?_⟩
      intro M8_435 h_M8_435
      have hM8_435 : IM (b) M8_435 := by rw [h_M8_435]; exact hI.up (by omega) (bm_c1_15.mpr (by omega))
      have hFM8_435 : FrJ (fun k j => k = 1 ∧ j = 15) M M8_435 := by rw [h_M8_435]; exact (FrJ.rf).up (by omega)
      refine ⟨by omega, ?_⟩
      have u436 : 0 ≤ M8_435 1 15 ∧ M8_435 1 15 ≤ 80 := bm_c1_15.mp (hM8_435.bx _ _)
      have t437 : M8_435 1 15 = x4_431 + x6_432 := by rw [h_M8_435, up2_s]
      exact hQ _ _ (hM8_435.mono (by omega)) hFM8_435 (by omega)
