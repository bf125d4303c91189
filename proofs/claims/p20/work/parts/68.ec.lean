section
theorem sX12_nearest {k1 : Nat} {p2 : Int} {b : Int} {M : Mem} {Q : Int → Mem → Prop} (hI : IM b M) (hk1 : isN k1) (hp : -1 ≤ p2 ∧ p2 ≤ 29) (hQ : ∀ z : Int, (-1 ≤ z ∧ z ≤ 5 ∧ (0 ≤ z → 0 ≤ M k1 z)) → Q z M) : qX12_nearest k1 p2 M Q := by
  unfold qX12_nearest
  have hbn := hI.nn
  have ek1 : k1 = 5 ∨ k1 = 6 := hk1
  refine ⟨7, ?_⟩
  refine sX12_nearest_L5 (b := b) (p2 := p2) (M0 := M) hk1 hp ?_ _ _ _ (hI.mono (by first | exact Int.le_refl _ | omega)) (by omega) (by omega)
  · exact hQ
theorem sX12_isEnded {k0 : Nat} {p1 : Int} {b : Int} {M : Mem} {Q : Int → Mem → Prop} (hI : IM b M) (hk0 : isN k0) (hp : 0 ≤ p1 ∧ p1 ≤ 7) (hQ : ∀ z : Int, Q z M) : qX12_isEnded k0 p1 M Q := by
  unfold qX12_isEnded
  have hbn := hI.nn
  have ek0 : k0 = 5 ∨ k0 = 6 := hk0
  refine ⟨by omega, ?_⟩
  refine ⟨by omega, ?_⟩
  intro x3_793 ex3_793 rx3_793
  have bx3_793 : -2147483648 ≤ x3_793 ∧ x3_793 ≤ 2147483647 := rx3_793
  refine ⟨fun c => ?_, fun c => ?_⟩
  · exact hQ _
  · exact hQ _
theorem sX12_enters {p1 : Int} {b : Int} {M : Mem} {Q : Mem → Prop} (hI : IM b M) (hp : M 1 1 ≤ 23) (hQ : ∀ M' : Mem, IM b M' → (M' 1 1 = M 1 1 + 1) → Q M') : qX12_enters p1 M Q := by
  unfold qX12_enters
  have hbn := hI.nn
  have u1032 : 0 ≤ M 1 1 ∧ M 1 1 ≤ 24 := bm_c1_1.mp (hI.bx _ _)
  intro x1_1033 ex1_1033 rx1_1033
  have bx1_1033 : 0 ≤ x1_1033 ∧ x1_1033 ≤ 24 := by rw [ex1_1033]; exact bm_c1_1.mp (hI.bx _ _)
  refine ⟨by omega, ?_⟩
  refine ⟨by omega, ?_⟩
  intro M4_1034 h_M4_1034
  have hM4_1034 : IM (b) M4_1034 := by rw [h_M4_1034]; exact hI.up (by omega) (by simp [BM])
  intro x5_1035 ex5_1035 rx5_1035
  have bx5_1035 : 0 ≤ x5_1035 ∧ x5_1035 ≤ 24 := by rw [ex5_1035]; exact bm_c1_1.mp (hM4_1034.bx _ _)
  have fx5_1035 : x5_1035 = M 1 1 := by rw [ex5_1035, h_M4_1034, up2_n (by decide)]
  refine ⟨(by first | assumption | exact (by omega)), ?_⟩
  intro M7_1036 h_M7_1036
  have hM7_1036 : IM (b) M7_1036 := by rw [h_M7_1036]; exact hM4_1034.up (by omega) (bm_c1_1.mpr (by omega))
  have u1037 : 0 ≤ M7_1036 1 1 ∧ M7_1036 1 1 ≤ 24 := bm_c1_1.mp (hM7_1036.bx _ _)
  have t1038 : M7_1036 1 1 = x5_1035 + 1 := by rw [h_M7_1036, up2_s]
  exact hQ _ (hM7_1036.mono (by first | exact Int.le_refl _ | omega)) (by omega)
theorem sX12_goal_L27 {k1 : Nat} {p2 : Int} {p3 : Int}  {Q : Int → Mem → Prop} {b : Int} {M0 : Mem} (hk1 : isN k1) (hQ : ∀ z : Int, (0 ≤ z ∧ z ≤ 29) → Q z M0) : ∀ (n : Nat) (v4 v5 v6 v7 v8 : Int), IM (b) M0 → (0 ≤ v4 ∧ v4 ≤ 29 ∧ 0 ≤ v5 ∧ v5 ≤ 29 ∧ 1 ≤ v8 ∧ v8 ≤ 30 ∧ 0 ≤ p3 ∧ p3 ≤ 3) → iR v6 → iR v7 → 30 - v8 < (n : Int) → qX12_goal_L27 k1 p2 p3 Q n v4 v5 v6 v7 v8 M0 := by
  intro n
  induction n with
  | zero => intro v4 v5 v6 v7 v8 hI hv hrv6 hrv7 hm; exact absurd hm (by omega)
  | succ n ih =>
    intro v4 v5 v6 v7 v8 hI hv hrv6 hrv7 hm
    rw [qX12_goal_L27]
    have hbn := hI.nn
    have ek1 : k1 = 5 ∨ k1 = 6 := hk1
    refine sX12_gate  hI  ?_
    intro x7_1039 p1040 q1041
    refine ⟨(by first | assumption | exact (by omega)), ?_⟩
    intro x9_1042 ex9_1042 rx9_1042
    refine ⟨(by first | assumption | exact (by omega)), ?_⟩
    refine ⟨fun c => ?_, fun c => ?_⟩
    · refine ⟨(by first | assumption | exact (by omega)), ?_⟩
      exact hQ _ (by omega)
    · refine ⟨(by first | assumption | exact (by omega)), ?_⟩
      refine ⟨fun c => ?_, fun c => ?_⟩
      · unfold qX12_goal_J58
        unfold qX12_goal_J63
        refine sX12_gate  hI  ?_
        intro x15_1046 p1047 q1048
        refine ⟨(by first | assumption | exact (by omega)), ?_⟩
        refine ⟨fun c => ?_, fun c => ?_⟩
        · unfold qX12_goal_J84
          unfold qX12_goal_J89
          refine ⟨(by first | assumption | exact (by omega)), ?_⟩
          refine ⟨fun c => ?_, fun c => ?_⟩
          · unfold qX12_goal_J111
            unfold qX12_goal_J113
            refine ⟨(by first | assumption | exact (by omega)), ?_⟩
            refine ⟨fun c => ?_, fun c => ?_⟩
            · exact ih _ _ _ _ _ (hI.mono (by first | exact Int.le_refl _ | omega)) (by omega) (by first | assumption | exact (by omega)) (by first | assumption | exact (by omega)) (by omega)
            · refine ⟨(by first | assumption | exact (by omega)), ?_⟩
              refine ⟨fun c => ?_, fun c => ?_⟩
              · exact ih _ _ _ _ _ (hI.mono (by first | exact Int.le_refl _ | omega)) (by omega) (by first | assumption | exact (by omega)) (by first | assumption | exact (by omega)) (by omega)
              · exact ih _ _ _ _ _ (hI.mono (by first | exact Int.le_refl _ | omega)) (by omega) (by first | assumption | exact (by omega)) (by first | assumption | exact (by omega)) (by omega)
          · refine ⟨(by first | assumption | exact (by omega)), ?_⟩
            refine ⟨fun c => ?_, fun c => ?_⟩
            · unfold qX12_goal_J106
              unfold qX12_goal_J113
              refine ⟨(by first | assumption | exact (by omega)), ?_⟩
              refine ⟨fun c => ?_, fun c => ?_⟩
              · exact ih _ _ _ _ _ (hI.mono (by first | exact Int.le_refl _ | omega)) (by omega) (by first | assumption | exact (by omega)) (by first | assumption | exact (by omega)) (by omega)
              · refine ⟨(by first | assumption | exact (by omega)), ?_⟩
                refine ⟨fun c => ?_, fun c => ?_⟩
                · exact ih _ _ _ _ _ (hI.mono (by first | exact Int.le_refl _ | omega)) (by omega) (by first | assumption | exact (by omega)) (by first | assumption | exact (by omega)) (by omega)
                · exact ih _ _ _ _ _ (hI.mono (by first | exact Int.le_refl _ | omega)) (by omega) (by first | assumption | exact (by omega)) (by first | assumption | exact (by omega)) (by omega)
            · refine ⟨(by first | assumption | exact (by omega)), ?_⟩
              refine ⟨fun c => ?_, fun c => ?_⟩
              · unfold qX12_goal_J111
                unfold qX12_goal_J113
                refine ⟨(by first | assumption | exact (by omega)), ?_⟩
                refine ⟨fun c => ?_, fun c => ?_⟩
                · exact ih _ _ _ _ _ (hI.mono (by first | exact Int.le_refl _ | omega)) (by omega) (by first | assumption | exact (by omega)) (by first | assumption | exact (by omega)) (by omega)
                · refine ⟨(by first | assumption | exact (by omega)), ?_⟩
                  refine ⟨fun c => ?_, fun c => ?_⟩
                  · exact ih _ _ _ _ _ (hI.mono (by first | exact Int.le_refl _ | omega)) (by omega) (by first | assumption | exact (by omega)) (by first | assumption | exact (by omega)) (by omega)
                  · exact ih _ _ _ _ _ (hI.mono (by first | exact Int.le_refl _ | omega)) (by omega) (by first | assumption | exact (by omega)) (by first | assumption | exact (by omega)) (by omega)
              · unfold qX12_goal_J106
                unfold qX12_goal_J113
                refine ⟨(by first | assumption | exact (by omega)), ?_⟩
                refine ⟨fun c => ?_, fun c => ?_⟩
                · exact ih _ _ _ _ _ (hI.mono (by first | exact Int.le_refl _ | omega)) (by omega) (by first | assumption | exact (by omega)) (by first | assumption | exact (by omega)) (by omega)
                · refine ⟨(by first | assumption | exact (by omega)), ?_⟩
                  refine ⟨fun c => ?_, fun c => ?_⟩
                  · exact ih _ _ _ _ _ (hI.mono (by first | exact Int.le_refl _ | omega)) (by omega) (by first | assumption | exact (by omega)) (by first | assumption | exact (by omega)) (by omega)
                  · exact ih _ _ _ _ _ (hI.mono (by first | exact Int.le_refl _ | omega)) (by omega) (by first | assumption | exact (by omega)) (by first | assumption | exact (by omega)) (by omega)
        · refine sX12_onCell (p2 := v8) hI hk1 ?_
          intro x28_1073 p1074 q1075
          refine ⟨fun c => ?_, fun c => ?_⟩
          · unfold qX12_goal_J89
            refine ⟨(by first | assumption | exact (by omega)), ?_⟩
            refine ⟨fun c => ?_, fun c => ?_⟩
            · unfold qX12_goal_J111
              unfold qX12_goal_J113
              refine ⟨(by first | assumption | exact (by omega)), ?_⟩
              refine ⟨fun c => ?_, fun c => ?_⟩
              · exact ih _ _ _ _ _ (hI.mono (by first | exact Int.le_refl _ | omega)) (by omega) (by first | assumption | exact (by omega)) (by first | assumption | exact (by omega)) (by omega)
              · refine ⟨(by first | assumption | exact (by omega)), ?_⟩
                refine ⟨fun c => ?_, fun c => ?_⟩
                · exact ih _ _ _ _ _ (hI.mono (by first | exact Int.le_refl _ | omega)) (by omega) (by first | assumption | exact (by omega)) (by first | assumption | exact (by omega)) (by omega)
                · exact ih _ _ _ _ _ (hI.mono (by first | exact Int.le_refl _ | omega)) (by omega) (by first | assumption | exact (by omega)) (by first | assumption | exact (by omega)) (by omega)
            · refine ⟨(by first | assumption | exact (by omega)), ?_⟩
              refine ⟨fun c => ?_, fun c => ?_⟩
              · unfold qX12_goal_J106
                unfold qX12_goal_J113
                refine ⟨(by first | assumption | exact (by omega)), ?_⟩
                refine ⟨fun c => ?_, fun c => ?_⟩
                · exact ih _ _ _ _ _ (hI.mono (by first | exact Int.le_refl _ | omega)) (by omega) (by first | assumption | exact (by omega)) (by first | assumption | exact (by omega)) (by omega)
                · refine ⟨(by first | assumption | exact (by omega)), ?_⟩
                  refine ⟨fun c => ?_, fun c => ?_⟩
                  · exact ih _ _ _ _ _ (hI.mono (by first | exact Int.le_refl _ | omega)) (by omega) (by first | assumption | exact (by omega)) (by first | assumption | exact (by omega)) (by omega)
                  · exact ih _ _ _ _ _ (hI.mono (by first | exact Int.le_refl _ | omega)) (by omega) (by first | assumption | exact (by omega)) (by first | assumption | exact (by omega)) (by omega)
              · refine ⟨(by first | assumption | exact (by omega)), ?_⟩
                refine ⟨fun c => ?_, fun c => ?_⟩
                · unfold qX12_goal_J111
                  unfold qX12_goal_J113
                  refine ⟨(by first | assumption | exact (by omega)), ?_⟩
                  refine ⟨fun c => ?_, fun c => ?_⟩
                  · exact ih _ _ _ _ _ (hI.mono (by first | exact Int.le_refl _ | omega)) (by omega) (by first | assumption | exact (by omega)) (by first | assumption | exact (by omega)) (by omega)
                  · refine ⟨(by first | assumption | exact (by omega)), ?_⟩
                    refine ⟨fun c => ?_, fun c => ?_⟩
                    · exact ih _ _ _ _ _ (hI.mono (by first | exact Int.le_refl _ | omega)) (by omega) (by first | assumption | exact (by omega)) (by first | assumption | exact (by omega)) (by omega)
                    · exact ih _ _ _ _ _ (hI.mono (by first | exact Int.le_refl _ | omega)) (by omega) (by first | assumption | exact (by omega)) (by first | assumption | exact (by omega)) (by omega)
                · unfold qX12_goal_J106
                  unfold qX12_goal_J113
                  refine ⟨(by first | assumption | exact (by omega)), ?_⟩
                  refine ⟨fun c => ?_, fun c => ?_⟩
                  · exact ih _ _ _ _ _ (hI.mono (by first | exact Int.le_refl _ | omega)) (by omega) (by first | assumption | exact (by omega)) (by first | assumption | exact (by omega)) (by omega)
                  · refine ⟨(by first | assumption | exact (by omega)), ?_⟩
                    refine ⟨fun c => ?_, fun c => ?_⟩
                    · exact ih _ _ _ _ _ (hI.mono (by first | exact Int.le_refl _ | omega)) (by omega) (by first | assumption | exact (by omega)) (by first | assumption | exact (by omega)) (by omega)
                    · exact ih _ _ _ _ _ (hI.mono (by first | exact Int.le_refl _ | omega)) (by omega) (by first | assumption | exact (by omega)) (by first | assumption | exact (by omega)) (by omega)
          · unfold qX12_goal_J84
            unfold qX12_goal_J89
            refine ⟨(by first | assumption | exact (by omega)), ?_⟩
            refine ⟨fun c => ?_, fun c => ?_⟩
            · unfold qX12_goal_J111
              unfold qX12_goal_J113
              refine ⟨(by first | assumption | exact (by omega)), ?_⟩
              refine ⟨fun c => ?_, fun c => ?_⟩
              · exact ih _ _ _ _ _ (hI.mono (by first | exact Int.le_refl _ | omega)) (by omega) (by first | assumption | exact (by omega)) (by first | assumption | exact (by omega)) (by omega)
              · refine ⟨(by first | assumption | exact (by omega)), ?_⟩
                refine ⟨fun c => ?_, fun c => ?_⟩
                · exact ih _ _ _ _ _ (hI.mono (by first | exact Int.le_refl _ | omega)) (by omega) (by first | assumption | exact (by omega)) (by first | assumption | exact (by omega)) (by omega)
                · exact ih _ _ _ _ _ (hI.mono (by first | exact Int.le_refl _ | omega)) (by omega) (by first | assumption | exact (by omega)) (by first | assumption | exact (by omega)) (by omega)
            · refine ⟨(by first | assumption | exact (by omega)), ?_⟩
              refine ⟨fun c => ?_, fun c => ?_⟩
              · unfold qX12_goal_J106
                unfold qX12_goal_J113
                refine ⟨(by first | assumption | exact (by omega)), ?_⟩
                refine ⟨fun c => ?_, fun c => ?_⟩
                · exact ih _ _ _ _ _ (hI.mono (by first | exact Int.le_refl _ | omega)) (by omega) (by first | assumption | exact (by omega)) (by first | assumption | exact (by omega)) (by omega)
                · refine ⟨(by first | assumption | exact (by omega)), ?_⟩
                  refine ⟨fun c => ?_, fun c => ?_⟩
                  · exact ih _ _ _ _ _ (hI.mono (by first | exact Int.le_refl _ | omega)) (by omega) (by first | assumption | exact (by omega)) (by first | assumption | exact (by omega)) (by omega)
                  · exact ih _ _ _ _ _ (hI.mono (by first | exact Int.le_refl _ | omega)) (by omega) (by first | assumption | exact (by omega)) (by first | assumption | exact (by omega)) (by omega)
              · refine ⟨(by first | assumption | exact (by omega)), ?_⟩
                refine ⟨fun c => ?_, fun c => ?_⟩
                · unfold qX12_goal_J111
                  unfold qX12_goal_J113
                  refine ⟨(by first | assumption | exact (by omega)), ?_⟩
                  refine ⟨fun c => ?_, fun c => ?_⟩
                  · exact ih _ _ _ _ _ (hI.mono (by first | exact Int.le_refl _ | omega)) (by omega) (by first | assumption | exact (by omega)) (by first | assumption | exact (by omega)) (by omega)
                  · refine ⟨(by first | assumption | exact (by omega)), ?_⟩
                    refine ⟨fun c => ?_, fun c => ?_⟩
                    · exact ih _ _ _ _ _ (hI.mono (by first | exact Int.le_refl _ | omega)) (by omega) (by first | assumption | exact (by omega)) (by first | assumption | exact (by omega)) (by omega)
                    · exact ih _ _ _ _ _ (hI.mono (by first | exact Int.le_refl _ | omega)) (by omega) (by first | assumption | exact (by omega)) (by first | assumption | exact (by omega)) (by omega)
                · unfold qX12_goal_J106
                  unfold qX12_goal_J113
                  refine ⟨(by first | assumption | exact (by omega)), ?_⟩
                  refine ⟨fun c => ?_, fun c => ?_⟩
                  · exact ih _ _ _ _ _ (hI.mono (by first | exact Int.le_refl _ | omega)) (by omega) (by first | assumption | exact (by omega)) (by first | assumption | exact (by omega)) (by omega)
                  · refine ⟨(by first | assumption | exact (by omega)), ?_⟩
                    refine ⟨fun c => ?_, fun c => ?_⟩
                    · exact ih _ _ _ _ _ (hI.mono (by first | exact Int.le_refl _ | omega)) (by omega) (by first | assumption | exact (by omega)) (by first | assumption | exact (by omega)) (by omega)
                    · exact ih _ _ _ _ _ (hI.mono (by first | exact Int.le_refl _ | omega)) (by omega) (by first | assumption | exact (by omega)) (by first | assumption | exact (by omega)) (by omega)
      · refine ⟨by omega, ?_⟩
        refine ⟨by omega, ?_⟩
        intro x32_1123 ex32_1123 rx32_1123
        have bx32_1123 : -2147483648 ≤ x32_1123 ∧ x32_1123 ≤ 2147483647 := rx32_1123
        refine ⟨fun c => ?_, fun c => ?_⟩
        · unfold qX12_goal_J63
          refine sX12_gate  hI  ?_
          intro x15_1125 p1126 q1127
          refine ⟨(by first | assumption | exact (by omega)), ?_⟩
          refine ⟨fun c => ?_, fun c => ?_⟩
          · unfold qX12_goal_J84
            unfold qX12_goal_J89
            refine ⟨(by first | assumption | exact (by omega)), ?_⟩
            refine ⟨fun c => ?_, fun c => ?_⟩
            · unfold qX12_goal_J111
              unfold qX12_goal_J113
              refine ⟨(by first | assumption | exact (by omega)), ?_⟩
              refine ⟨fun c => ?_, fun c => ?_⟩
              · exact ih _ _ _ _ _ (hI.mono (by first | exact Int.le_refl _ | omega)) (by omega) (by first | assumption | exact (by omega)) (by first | assumption | exact (by omega)) (by omega)
              · refine ⟨(by first | assumption | exact (by omega)), ?_⟩
                refine ⟨fun c => ?_, fun c => ?_⟩
                · exact ih _ _ _ _ _ (hI.mono (by first | exact Int.le_refl _ | omega)) (by omega) (by first | assumption | exact (by omega)) (by first | assumption | exact (by omega)) (by omega)
                · exact ih _ _ _ _ _ (hI.mono (by first | exact Int.le_refl _ | omega)) (by omega) (by first | assumption | exact (by omega)) (by first | assumption | exact (by omega)) (by omega)
            · refine ⟨(by first | assumption | exact (by omega)), ?_⟩
              refine ⟨fun c => ?_, fun c => ?_⟩
              · unfold qX12_goal_J106
                unfold qX12_goal_J113
                refine ⟨(by first | assumption | exact (by omega)), ?_⟩
                refine ⟨fun c => ?_, fun c => ?_⟩
                · exact ih _ _ _ _ _ (hI.mono (by first | exact Int.le_refl _ | omega)) (by omega) (by first | assumption | exact (by omega)) (by first | assumption | exact (by omega)) (by omega)
                · refine ⟨(by first | assumption | exact (by omega)), ?_⟩
                  refine ⟨fun c => ?_, fun c => ?_⟩
                  · exact ih _ _ _ _ _ (hI.mono (by first | exact Int.le_refl _ | omega)) (by omega) (by first | assumption | exact (by omega)) (by first | assumption | exact (by omega)) (by omega)
                  · exact ih _ _ _ _ _ (hI.mono (by first | exact Int.le_refl _ | omega)) (by omega) (by first | assumption | exact (by omega)) (by first | assumption | exact (by omega)) (by omega)
              · refine ⟨(by first | assumption | exact (by omega)), ?_⟩
                refine ⟨fun c => ?_, fun c => ?_⟩
                · unfold qX12_goal_J111
                  unfold qX12_goal_J113
                  refine ⟨(by first | assumption | exact (by omega)), ?_⟩
                  refine ⟨fun c => ?_, fun c => ?_⟩
                  · exact ih _ _ _ _ _ (hI.mono (by first | exact Int.le_refl _ | omega)) (by omega) (by first | assumption | exact (by omega)) (by first | assumption | exact (by omega)) (by omega)
                  · refine ⟨(by first | assumption | exact (by omega)), ?_⟩
                    refine ⟨fun c => ?_, fun c => ?_⟩
                    · exact ih _ _ _ _ _ (hI.mono (by first | exact Int.le_refl _ | omega)) (by omega) (by first | assumption | exact (by omega)) (by first | assumption | exact (by omega)) (by omega)
                    · exact ih _ _ _ _ _ (hI.mono (by first | exact Int.le_refl _ | omega)) (by omega) (by first | assumption | exact (by omega)) (by first | assumption | exact (by omega)) (by omega)
                · unfold qX12_goal_J106
                  unfold qX12_goal_J113
                  refine ⟨(by first | assumption | exact (by omega)), ?_⟩
                  refine ⟨fun c => ?_, fun c => ?_⟩
                  · exact ih _ _ _ _ _ (hI.mono (by first | exact Int.le_refl _ | omega)) (by omega) (by first | assumption | exact (by omega)) (by first | assumption | exact (by omega)) (by omega)
                  · refine ⟨(by first | assumption | exact (by omega)), ?_⟩
                    refine ⟨fun c => ?_, fun c => ?_⟩
                    · exact ih _ _ _ _ _ (hI.mono (by first | exact Int.le_refl _ | omega)) (by omega) (by first | assumption | exact (by omega)) (by first | assumption | exact (by omega)) (by omega)
                    · exact ih _ _ _ _ _ (hI.mono (by first | exact Int.le_refl _ | omega)) (by omega) (by first | assumption | exact (by omega)) (by first | assumption | exact (by omega)) (by omega)
          · refine sX12_onCell (p2 := v8) hI hk1 ?_
            intro x28_1152 p1153 q1154
            refine ⟨fun c => ?_, fun c => ?_⟩
            · unfold qX12_goal_J89
              refine ⟨(by first | assumption | exact (by omega)), ?_⟩
              refine ⟨fun c => ?_, fun c => ?_⟩
              · unfold qX12_goal_J111
                unfold qX12_goal_J113
                refine ⟨(by first | assumption | exact (by omega)), ?_⟩
                refine ⟨fun c => ?_, fun c => ?_⟩
                · exact ih _ _ _ _ _ (hI.mono (by first | exact Int.le_refl _ | omega)) (by omega) (by first | assumption | exact (by omega)) (by first | assumption | exact (by omega)) (by omega)
                · refine ⟨(by first | assumption | exact (by omega)), ?_⟩
                  refine ⟨fun c => ?_, fun c => ?_⟩
                  · exact ih _ _ _ _ _ (hI.mono (by first | exact Int.le_refl _ | omega)) (by omega) (by first | assumption | exact (by omega)) (by first | assumption | exact (by omega)) (by omega)
                  · exact ih _ _ _ _ _ (hI.mono (by first | exact Int.le_refl _ | omega)) (by omega) (by first | assumption | exact (by omega)) (by first | assumption | exact (by omega)) (by omega)
              · refine ⟨(by first | assumption | exact (by omega)), ?_⟩
                refine ⟨fun c => ?_, fun c => ?_⟩
                · unfold qX12_goal_J106
                  unfold qX12_goal_J113
                  refine ⟨(by first | assumption | exact (by omega)), ?_⟩
                  refine ⟨fun c => ?_, fun c => ?_⟩
                  · exact ih _ _ _ _ _ (hI.mono (by first | exact Int.le_refl _ | omega)) (by omega) (by first | assumption | exact (by omega)) (by first | assumption | exact (by omega)) (by omega)
                  · refine ⟨(by first | assumption | exact (by omega)), ?_⟩
                    refine ⟨fun c => ?_, fun c => ?_⟩
                    · exact ih _ _ _ _ _ (hI.mono (by first | exact Int.le_refl _ | omega)) (by omega) (by first | assumption | exact (by omega)) (by first | assumption | exact (by omega)) (by omega)
                    · exact ih _ _ _ _ _ (hI.mono (by first | exact Int.le_refl _ | omega)) (by omega) (by first | assumption | exact (by omega)) (by first | assumption | exact (by omega)) (by omega)
                · refine ⟨(by first | assumption | exact (by omega)), ?_⟩
                  refine ⟨fun c => ?_, fun c => ?_⟩
                  · unfold qX12_goal_J111
                    unfold qX12_goal_J113
                    refine ⟨(by first | assumption | exact (by omega)), ?_⟩
                    refine ⟨fun c => ?_, fun c => ?_⟩
                    · exact ih _ _ _ _ _ (hI.mono (by first | exact Int.le_refl _ | omega)) (by omega) (by first | assumption | exact (by omega)) (by first | assumption | exact (by omega)) (by omega)
                    · refine ⟨(by first | assumption | exact (by omega)), ?_⟩
                      refine ⟨fun c => ?_, fun c => ?_⟩
                      · exact ih _ _ _ _ _ (hI.mono (by first | exact Int.le_refl _ | omega)) (by omega) (by first | assumption | exact (by omega)) (by first | assumption | exact (by omega)) (by omega)
                      · exact ih _ _ _ _ _ (hI.mono (by first | exact Int.le_refl _ | omega)) (by omega) (by first | assumption | exact (by omega)) (by first | assumption | exact (by omega)) (by omega)
                  · unfold qX12_goal_J106
                    unfold qX12_goal_J113
                    refine ⟨(by first | assumption | exact (by omega)), ?_⟩
                    refine ⟨fun c => ?_, fun c => ?_⟩
                    · exact ih _ _ _ _ _ (hI.mono (by first | exact Int.le_refl _ | omega)) (by omega) (by first | assumption | exact (by omega)) (by first | assumption | exact (by omega)) (by omega)
                    · refine ⟨(by first | assumption | exact (by omega)), ?_⟩
                      refine ⟨fun c => ?_, fun c => ?_⟩
                      · exact ih _ _ _ _ _ (hI.mono (by first | exact Int.le_refl _ | omega)) (by omega) (by first | assumption | exact (by omega)) (by first | assumption | exact (by omega)) (by omega)
                      · exact ih _ _ _ _ _ (hI.mono (by first | exact Int.le_refl _ | omega)) (by omega) (by first | assumption | exact (by omega)) (by first | assumption | exact (by omega)) (by omega)
            · unfold qX12_goal_J84
              unfold qX12_goal_J89
              refine ⟨(by first | assumption | exact (by omega)), ?_⟩
              refine ⟨fun c => ?_, fun c => ?_⟩
              · unfold qX12_goal_J111
                unfold qX12_goal_J113
                refine ⟨(by first | assumption | exact (by omega)), ?_⟩
                refine ⟨fun c => ?_, fun c => ?_⟩
                · exact ih _ _ _ _ _ (hI.mono (by first | exact Int.le_refl _ | omega)) (by omega) (by first | assumption | exact (by omega)) (by first | assumption | exact (by omega)) (by omega)
                · refine ⟨(by first | assumption | exact (by omega)), ?_⟩
                  refine ⟨fun c => ?_, fun c => ?_⟩
                  · exact ih _ _ _ _ _ (hI.mono (by first | exact Int.le_refl _ | omega)) (by omega) (by first | assumption | exact (by omega)) (by first | assumption | exact (by omega)) (by omega)
                  · exact ih _ _ _ _ _ (hI.mono (by first | exact Int.le_refl _ | omega)) (by omega) (by first | assumption | exact (by omega)) (by first | assumption | exact (by omega)) (by omega)
              · refine ⟨(by first | assumption | exact (by omega)), ?_⟩
                refine ⟨fun c => ?_, fun c => ?_⟩
                · unfold qX12_goal_J106
                  unfold qX12_goal_J113
                  refine ⟨(by first | assumption | exact (by omega)), ?_⟩
                  refine ⟨fun c => ?_, fun c => ?_⟩
                  · exact ih _ _ _ _ _ (hI.mono (by first | exact Int.le_refl _ | omega)) (by omega) (by first | assumption | exact (by omega)) (by first | assumption | exact (by omega)) (by omega)
                  · refine ⟨(by first | assumption | exact (by omega)), ?_⟩
                    refine ⟨fun c => ?_, fun c => ?_⟩
                    · exact ih _ _ _ _ _ (hI.mono (by first | exact Int.le_refl _ | omega)) (by omega) (by first | assumption | exact (by omega)) (by first | assumption | exact (by omega)) (by omega)
                    · exact ih _ _ _ _ _ (hI.mono (by first | exact Int.le_refl _ | omega)) (by omega) (by first | assumption | exact (by omega)) (by first | assumption | exact (by omega)) (by omega)
                · refine ⟨(by first | assumption | exact (by omega)), ?_⟩
                  refine ⟨fun c => ?_, fun c => ?_⟩
                  · unfold qX12_goal_J111
                    unfold qX12_goal_J113
                    refine ⟨(by first | assumption | exact (by omega)), ?_⟩
                    refine ⟨fun c => ?_, fun c => ?_⟩
                    · exact ih _ _ _ _ _ (hI.mono (by first | exact Int.le_refl _ | omega)) (by omega) (by first | assumption | exact (by omega)) (by first | assumption | exact (by omega)) (by omega)
                    · refine ⟨(by first | assumption | exact (by omega)), ?_⟩
                      refine ⟨fun c => ?_, fun c => ?_⟩
                      · exact ih _ _ _ _ _ (hI.mono (by first | exact Int.le_refl _ | omega)) (by omega) (by first | assumption | exact (by omega)) (by first | assumption | exact (by omega)) (by omega)
                      · exact ih _ _ _ _ _ (hI.mono (by first | exact Int.le_refl _ | omega)) (by omega) (by first | assumption | exact (by omega)) (by first | assumption | exact (by omega)) (by omega)
                  · unfold qX12_goal_J106
                    unfold qX12_goal_J113
                    refine ⟨(by first | assumption | exact (by omega)), ?_⟩
                    refine ⟨fun c => ?_, fun c => ?_⟩
                    · exact ih _ _ _ _ _ (hI.mono (by first | exact Int.le_refl _ | omega)) (by omega) (by first | assumption | exact (by omega)) (by first | assumption | exact (by omega)) (by omega)
                    · refine ⟨(by first | assumption | exact (by omega)), ?_⟩
                      refine ⟨fun c => ?_, fun c => ?_⟩
                      · exact ih _ _ _ _ _ (hI.mono (by first | exact Int.le_refl _ | omega)) (by omega) (by first | assumption | exact (by omega)) (by first | assumption | exact (by omega)) (by omega)
                      · exact ih _ _ _ _ _ (hI.mono (by first | exact Int.le_refl _ | omega)) (by omega) (by first | assumption | exact (by omega)) (by first | assumption | exact (by omega)) (by omega)
        · unfold qX12_goal_J58
          unfold qX12_goal_J63
          refine sX12_gate  hI  ?_
          intro x15_1202 p1203 q1204
          refine ⟨(by first | assumption | exact (by omega)), ?_⟩
          refine ⟨fun c => ?_, fun c => ?_⟩
          · unfold qX12_goal_J84
            unfold qX12_goal_J89
            refine ⟨(by first | assumption | exact (by omega)), ?_⟩
            refine ⟨fun c => ?_, fun c => ?_⟩
            · unfold qX12_goal_J111
              unfold qX12_goal_J113
              refine ⟨(by first | assumption | exact (by omega)), ?_⟩
              refine ⟨fun c => ?_, fun c => ?_⟩
              · exact ih _ _ _ _ _ (hI.mono (by first | exact Int.le_refl _ | omega)) (by omega) (by first | assumption | exact (by omega)) (by first | assumption | exact (by omega)) (by omega)
              · refine ⟨(by first | assumption | exact (by omega)), ?_⟩
                refine ⟨fun c => ?_, fun c => ?_⟩
                · exact ih _ _ _ _ _ (hI.mono (by first | exact Int.le_refl _ | omega)) (by omega) (by first | assumption | exact (by omega)) (by first | assumption | exact (by omega)) (by omega)
                · exact ih _ _ _ _ _ (hI.mono (by first | exact Int.le_refl _ | omega)) (by omega) (by first | assumption | exact (by omega)) (by first | assumption | exact (by omega)) (by omega)
            · refine ⟨(by first | assumption | exact (by omega)), ?_⟩
              refine ⟨fun c => ?_, fun c => ?_⟩
              · unfold qX12_goal_J106
                unfold qX12_goal_J113
                refine ⟨(by first | assumption | exact (by omega)), ?_⟩
                refine ⟨fun c => ?_, fun c => ?_⟩
                · exact ih _ _ _ _ _ (hI.mono (by first | exact Int.le_refl _ | omega)) (by omega) (by first | assumption | exact (by omega)) (by first | assumption | exact (by omega)) (by omega)
                · refine ⟨(by first | assumption | exact (by omega)), ?_⟩
                  refine ⟨fun c => ?_, fun c => ?_⟩
                  · exact ih _ _ _ _ _ (hI.mono (by first | exact Int.le_refl _ | omega)) (by omega) (by first | assumption | exact (by omega)) (by first | assumption | exact (by omega)) (by omega)
                  · exact ih _ _ _ _ _ (hI.mono (by first | exact Int.le_refl _ | omega)) (by omega) (by first | assumption | exact (by omega)) (by first | assumption | exact (by omega)) (by omega)
              · refine ⟨(by first | assumption | exact (by omega)), ?_⟩
                refine ⟨fun c => ?_, fun c => ?_⟩
                · unfold qX12_goal_J111
                  unfold qX12_goal_J113
                  refine ⟨(by first | assumption | exact (by omega)), ?_⟩
                  refine ⟨fun c => ?_, fun c => ?_⟩
                  · exact ih _ _ _ _ _ (hI.mono (by first | exact Int.le_refl _ | omega)) (by omega) (by first | assumption | exact (by omega)) (by first | assumption | exact (by omega)) (by omega)
                  · refine ⟨(by first | assumption | exact (by omega)), ?_⟩
                    refine ⟨fun c => ?_, fun c => ?_⟩
                    · exact ih _ _ _ _ _ (hI.mono (by first | exact Int.le_refl _ | omega)) (by omega) (by first | assumption | exact (by omega)) (by first | assumption | exact (by omega)) (by omega)
                    · exact ih _ _ _ _ _ (hI.mono (by first | exact Int.le_refl _ | omega)) (by omega) (by first | assumption | exact (by omega)) (by first | assumption | exact (by omega)) (by omega)
                · unfold qX12_goal_J106
                  unfold qX12_goal_J113
                  refine ⟨(by first | assumption | exact (by omega)), ?_⟩
                  refine ⟨fun c => ?_, fun c => ?_⟩
                  · exact ih _ _ _ _ _ (hI.mono (by first | exact Int.le_refl _ | omega)) (by omega) (by first | assumption | exact (by omega)) (by first | assumption | exact (by omega)) (by omega)
                  · refine ⟨(by first | assumption | exact (by omega)), ?_⟩
                    refine ⟨fun c => ?_, fun c => ?_⟩
                    · exact ih _ _ _ _ _ (hI.mono (by first | exact Int.le_refl _ | omega)) (by omega) (by first | assumption | exact (by omega)) (by first | assumption | exact (by omega)) (by omega)
                    · exact ih _ _ _ _ _ (hI.mono (by first | exact Int.le_refl _ | omega)) (by omega) (by first | assumption | exact (by omega)) (by first | assumption | exact (by omega)) (by omega)
          · refine sX12_onCell (p2 := v8) hI hk1 ?_
            intro x28_1229 p1230 q1231
            refine ⟨fun c => ?_, fun c => ?_⟩
            · unfold qX12_goal_J89
              refine ⟨(by first | assumption | exact (by omega)), ?_⟩
              refine ⟨fun c => ?_, fun c => ?_⟩
              · unfold qX12_goal_J111
                unfold qX12_goal_J113
                refine ⟨(by first | assumption | exact (by omega)), ?_⟩
                refine ⟨fun c => ?_, fun c => ?_⟩
                · exact ih _ _ _ _ _ (hI.mono (by first | exact Int.le_refl _ | omega)) (by omega) (by first | assumption | exact (by omega)) (by first | assumption | exact (by omega)) (by omega)
                · refine ⟨(by first | assumption | exact (by omega)), ?_⟩
                  refine ⟨fun c => ?_, fun c => ?_⟩
                  · exact ih _ _ _ _ _ (hI.mono (by first | exact Int.le_refl _ | omega)) (by omega) (by first | assumption | exact (by omega)) (by first | assumption | exact (by omega)) (by omega)
                  · exact ih _ _ _ _ _ (hI.mono (by first | exact Int.le_refl _ | omega)) (by omega) (by first | assumption | exact (by omega)) (by first | assumption | exact (by omega)) (by omega)
              · refine ⟨(by first | assumption | exact (by omega)), ?_⟩
                refine ⟨fun c => ?_, fun c => ?_⟩
                · unfold qX12_goal_J106
                  unfold qX12_goal_J113
                  refine ⟨(by first | assumption | exact (by omega)), ?_⟩
                  refine ⟨fun c => ?_, fun c => ?_⟩
                  · exact ih _ _ _ _ _ (hI.mono (by first | exact Int.le_refl _ | omega)) (by omega) (by first | assumption | exact (by omega)) (by first | assumption | exact (by omega)) (by omega)
                  · refine ⟨(by first | assumption | exact (by omega)), ?_⟩
                    refine ⟨fun c => ?_, fun c => ?_⟩
                    · exact ih _ _ _ _ _ (hI.mono (by first | exact Int.le_refl _ | omega)) (by omega) (by first | assumption | exact (by omega)) (by first | assumption | exact (by omega)) (by omega)
                    · exact ih _ _ _ _ _ (hI.mono (by first | exact Int.le_refl _ | omega)) (by omega) (by first | assumption | exact (by omega)) (by first | assumption | exact (by omega)) (by omega)
                · refine ⟨(by first | assumption | exact (by omega)), ?_⟩
                  refine ⟨fun c => ?_, fun c => ?_⟩
                  · unfold qX12_goal_J111
                    unfold qX12_goal_J113
                    refine ⟨(by first | assumption | exact (by omega)), ?_⟩
                    refine ⟨fun c => ?_, fun c => ?_⟩
                    · exact ih _ _ _ _ _ (hI.mono (by first | exact Int.le_refl _ | omega)) (by omega) (by first | assumption | exact (by omega)) (by first | assumption | exact (by omega)) (by omega)
                    · refine ⟨(by first | assumption | exact (by omega)), ?_⟩
                      refine ⟨fun c => ?_, fun c => ?_⟩
                      · exact ih _ _ _ _ _ (hI.mono (by first | exact Int.le_refl _ | omega)) (by omega) (by first | assumption | exact (by omega)) (by first | assumption | exact (by omega)) (by omega)
                      · exact ih _ _ _ _ _ (hI.mono (by first | exact Int.le_refl _ | omega)) (by omega) (by first | assumption | exact (by omega)) (by first | assumption | exact (by omega)) (by omega)
                  · unfold qX12_goal_J106
                    unfold qX12_goal_J113
                    refine ⟨(by first | assumption | exact (by omega)), ?_⟩
                    refine ⟨fun c => ?_, fun c => ?_⟩
                    · exact ih _ _ _ _ _ (hI.mono (by first | exact Int.le_refl _ | omega)) (by omega) (by first | assumption | exact (by omega)) (by first | assumption | exact (by omega)) (by omega)
                    · refine ⟨(by first | assumption | exact (by omega)), ?_⟩
                      refine ⟨fun c => ?_, fun c => ?_⟩
                      · exact ih _ _ _ _ _ (hI.mono (by first | exact Int.le_refl _ | omega)) (by omega) (by first | assumption | exact (by omega)) (by first | assumption | exact (by omega)) (by omega)
                      · exact ih _ _ _ _ _ (hI.mono (by first | exact Int.le_refl _ | omega)) (by omega) (by first | assumption | exact (by omega)) (by first | assumption | exact (by omega)) (by omega)
            · unfold qX12_goal_J84
              unfold qX12_goal_J89
              refine ⟨(by first | assumption | exact (by omega)), ?_⟩
              refine ⟨fun c => ?_, fun c => ?_⟩
              · unfold qX12_goal_J111
                unfold qX12_goal_J113
                refine ⟨(by first | assumption | exact (by omega)), ?_⟩
                refine ⟨fun c => ?_, fun c => ?_⟩
                · exact ih _ _ _ _ _ (hI.mono (by first | exact Int.le_refl _ | omega)) (by omega) (by first | assumption | exact (by omega)) (by first | assumption | exact (by omega)) (by omega)
                · refine ⟨(by first | assumption | exact (by omega)), ?_⟩
                  refine ⟨fun c => ?_, fun c => ?_⟩
                  · exact ih _ _ _ _ _ (hI.mono (by first | exact Int.le_refl _ | omega)) (by omega) (by first | assumption | exact (by omega)) (by first | assumption | exact (by omega)) (by omega)
                  · exact ih _ _ _ _ _ (hI.mono (by first | exact Int.le_refl _ | omega)) (by omega) (by first | assumption | exact (by omega)) (by first | assumption | exact (by omega)) (by omega)
              · refine ⟨(by first | assumption | exact (by omega)), ?_⟩
                refine ⟨fun c => ?_, fun c => ?_⟩
                · unfold qX12_goal_J106
                  unfold qX12_goal_J113
                  refine ⟨(by first | assumption | exact (by omega)), ?_⟩
                  refine ⟨fun c => ?_, fun c => ?_⟩
                  · exact ih _ _ _ _ _ (hI.mono (by first | exact Int.le_refl _ | omega)) (by omega) (by first | assumption | exact (by omega)) (by first | assumption | exact (by omega)) (by omega)
                  · refine ⟨(by first | assumption | exact (by omega)), ?_⟩
                    refine ⟨fun c => ?_, fun c => ?_⟩
                    · exact ih _ _ _ _ _ (hI.mono (by first | exact Int.le_refl _ | omega)) (by omega) (by first | assumption | exact (by omega)) (by first | assumption | exact (by omega)) (by omega)
                    · exact ih _ _ _ _ _ (hI.mono (by first | exact Int.le_refl _ | omega)) (by omega) (by first | assumption | exact (by omega)) (by first | assumption | exact (by omega)) (by omega)
                · refine ⟨(by first | assumption | exact (by omega)), ?_⟩
                  refine ⟨fun c => ?_, fun c => ?_⟩
                  · unfold qX12_goal_J111
                    unfold qX12_goal_J113
                    refine ⟨(by first | assumption | exact (by omega)), ?_⟩
                    refine ⟨fun c => ?_, fun c => ?_⟩
                    · exact ih _ _ _ _ _ (hI.mono (by first | exact Int.le_refl _ | omega)) (by omega) (by first | assumption | exact (by omega)) (by first | assumption | exact (by omega)) (by omega)
                    · refine ⟨(by first | assumption | exact (by omega)), ?_⟩
                      refine ⟨fun c => ?_, fun c => ?_⟩
                      · exact ih _ _ _ _ _ (hI.mono (by first | exact Int.le_refl _ | omega)) (by omega) (by first | assumption | exact (by omega)) (by first | assumption | exact (by omega)) (by omega)
                      · exact ih _ _ _ _ _ (hI.mono (by first | exact Int.le_refl _ | omega)) (by omega) (by first | assumption | exact (by omega)) (by first | assumption | exact (by omega)) (by omega)
                  · unfold qX12_goal_J106
                    unfold qX12_goal_J113
                    refine ⟨(by first | assumption | exact (by omega)), ?_⟩
                    refine ⟨fun c => ?_, fun c => ?_⟩
                    · exact ih _ _ _ _ _ (hI.mono (by first | exact Int.le_refl _ | omega)) (by omega) (by first | assumption | exact (by omega)) (by first | assumption | exact (by omega)) (by omega)
                    · refine ⟨(by first | assumption | exact (by omega)), ?_⟩
                      refine ⟨fun c => ?_, fun c => ?_⟩
                      · exact ih _ _ _ _ _ (hI.mono (by first | exact Int.le_refl _ | omega)) (by omega) (by first | assumption | exact (by omega)) (by first | assumption | exact (by omega)) (by omega)
                      · exact ih _ _ _ _ _ (hI.mono (by first | exact Int.le_refl _ | omega)) (by omega) (by first | assumption | exact (by omega)) (by first | assumption | exact (by omega)) (by omega)
theorem sX12_goal {k1 : Nat} {p2 : Int} {p3 : Int} {b : Int} {M : Mem} {Q : Int → Mem → Prop} (hI : IM b M) (hk1 : isN k1) (hp : 0 ≤ p2 ∧ p2 ≤ 5 ∧ 0 ≤ M k1 p2 ∧ 0 ≤ p3 ∧ p3 ≤ 3) (hQ : ∀ z : Int, (0 ≤ z ∧ z ≤ 29) → Q z M) : qX12_goal k1 p2 p3 M Q := by
  unfold qX12_goal
  have hbn := hI.nn
  have ek1 : k1 = 5 ∨ k1 = 6 := hk1
  refine ⟨by omega, ?_⟩
  refine ⟨by omega, ?_⟩
  intro x3_1278 ex3_1278 rx3_1278
  have rbx3_1278 : -2147483648 ≤ x3_1278 ∧ x3_1278 ≤ 2147483647 := rx3_1278
  have nbx3_1278 : BN (b) p2 x3_1278 := by rw [ex3_1278]; exact (bm_n hk1).mp (hI.bx _ _)
  first | (have bx3_1278 : -1 ≤ x3_1278 ∧ x3_1278 ≤ 29 := nbx3_1278.1 (by omega)) | (have bx3_1278 : -1 ≤ x3_1278 ∧ x3_1278 ≤ 29 := nbx3_1278.2.1 (by omega)) | skip
  refine ⟨by omega, ?_⟩
  refine ⟨by omega, ?_⟩
  intro x6_1279 ex6_1279 rx6_1279
  have bx6_1279 : -2147483648 ≤ x6_1279 ∧ x6_1279 ≤ 2147483647 := rx6_1279
  have cgx6_1279 : x6_1279 = M 2 (M k1 p2) := by rw [ex6_1279, ← ex3_1278]
  refine ⟨31, ?_⟩
  refine sX12_goal_L27 (b := b) (p2 := p2) (p3 := p3) (M0 := M) hk1 ?_ _ _ _ _ _ _ (hI.mono (by first | exact Int.le_refl _ | omega)) (by omega) (by first | assumption | exact (by omega)) (by first | assumption | exact (by omega)) (by omega)
  · exact hQ
theorem sX12_hearseGoes {k1 : Nat} {p2 : Int} {b : Int} {M : Mem} {Q : Mem → Prop} (hI : IM b M) (hk1 : isN k1) (hp : 0 ≤ p2 ∧ p2 ≤ 5 ∧ 0 ≤ M k1 p2) (hQ : ∀ M' : Mem, IM b M' → FrJ (fun k j => (k = k1 ∧ (j = p2 ∨ j = 6 + p2 ∨ j = 12)) ∨ k = 14 ∨ k = 13 ∨ (k = 1 ∧ j = 30) ∨ k = 16) M M' → Q M') : qX12_hearseGoes k1 p2 M Q := by
  unfold qX12_hearseGoes
  have hbn := hI.nn
  have ek1 : k1 = 5 ∨ k1 = 6 := hk1
  refine sX12_paceOf (p2 := p2) hI hk1 (by omega) ?_
  intro x1_1280 M1_1281 hM1_1281 gM1_1281 p1282 q1283
  have hFM1_1281 : FrJ (fun k j => (k = k1 ∧ (j = p2 ∨ j = 6 + p2 ∨ j = 12)) ∨ k = 14 ∨ k = 13 ∨ (k = 1 ∧ j = 30) ∨ k = 16) M M1_1281 := (FrJ.rf).tr (gM1_1281.mono (by intro k j h; omega))
  first | (have t1284 : M1_1281 k1 p2 = M k1 p2 := gM1_1281 k1 p2 (by omega)) | skip
  first | (have t1285 : M1_1281 k1 p2 = M k1 p2 := gM1_1281 k1 p2 (by omega)) | skip
  refine sX12_goal (p2 := p2) (p3 := x1_1280) hM1_1281 hk1 (by omega) ?_
  intro x2_1286 p1287 q1288
  refine ⟨by omega, ?_⟩
  refine ⟨by omega, ?_⟩
  intro x5_1289 ex5_1289 rx5_1289
  have rbx5_1289 : -2147483648 ≤ x5_1289 ∧ x5_1289 ≤ 2147483647 := rx5_1289
  have nbx5_1289 : BN (b) p2 x5_1289 := by rw [ex5_1289]; exact (bm_n hk1).mp (hM1_1281.bx _ _)
  first | (have bx5_1289 : -1 ≤ x5_1289 ∧ x5_1289 ≤ 29 := nbx5_1289.1 (by omega)) | (have bx5_1289 : -1 ≤ x5_1289 ∧ x5_1289 ≤ 29 := nbx5_1289.2.1 (by omega)) | skip
  refine ⟨fun c => ?_, fun c => ?_⟩
  · refine sX12_gate  hM1_1281  ?_
    intro x7_1291 p1292 q1293
    refine ⟨fun c => ?_, fun c => ?_⟩
    · intro M9_1295 h_M9_1295
      have hM9_1295 : IM (b) M9_1295 := by rw [h_M9_1295]; exact hM1_1281.up (isN.nu hk1 _) ((bm_n hk1).mpr (by first | assumption | exact ⟨by omega, by omega, by omega, by omega⟩))
      have hFM9_1295 : FrJ (fun k j => (k = k1 ∧ (j = p2 ∨ j = 6 + p2 ∨ j = 12)) ∨ k = 14 ∨ k = 13 ∨ (k = 1 ∧ j = 30) ∨ k = 16) M M9_1295 := by rw [h_M9_1295]; exact (hFM1_1281).up (by omega)
      exact hQ _ (hM9_1295.mono (by first | exact Int.le_refl _ | omega)) hFM9_1295
    · intro x10_1297 ex10_1297 rx10_1297
      have bx10_1297 : -2147483648 ≤ x10_1297 ∧ x10_1297 ≤ 2147483647 := rx10_1297
      intro x11_1298 ex11_1298 rx11_1298
      first | (have fx11_1298 : x11_1298 = x10_1297 + 1 := by rw [ex11_1298]; exact w32_id (by omega)) | skip
      intro M12_1299 h_M12_1299
      have hM12_1299 : IM (b) M12_1299 := by rw [h_M12_1299]; exact hM1_1281.up (isN.nu hk1 _) ((bm_n hk1).mpr (by first | assumption | exact ⟨by omega, by omega, by omega, by omega⟩))
      have hFM12_1299 : FrJ (fun k j => (k = k1 ∧ (j = p2 ∨ j = 6 + p2 ∨ j = 12)) ∨ k = 14 ∨ k = 13 ∨ (k = 1 ∧ j = 30) ∨ k = 16) M M12_1299 := by rw [h_M12_1299]; exact (hFM1_1281).up (by omega)
      intro x13_1300 ex13_1300 rx13_1300
      have bx13_1300 : -2147483648 ≤ x13_1300 ∧ x13_1300 ≤ 2147483647 := rx13_1300
      have fx13_1300 : x13_1300 = x11_1298 := by rw [ex13_1300, h_M12_1299, up2_s]
      refine ⟨by omega, ?_⟩
      refine ⟨by omega, ?_⟩
      intro M16_1301 h_M16_1301
      have hM16_1301 : IM (b) M16_1301 := by rw [h_M16_1301]; exact hM12_1299.up (isN.nu hk1 _) ((bm_n hk1).mpr (by first | assumption | exact ⟨by omega, by omega, by omega, by omega⟩))
      have hFM16_1301 : FrJ (fun k j => (k = k1 ∧ (j = p2 ∨ j = 6 + p2 ∨ j = 12)) ∨ k = 14 ∨ k = 13 ∨ (k = 1 ∧ j = 30) ∨ k = 16) M M16_1301 := by rw [h_M16_1301]; exact (hFM12_1299).up (by omega)
      intro M17_1302 h_M17_1302
      have hM17_1302 : IM (b) M17_1302 := by rw [h_M17_1302]; exact hM16_1301.up (isN.nu hk1 _) ((bm_n hk1).mpr (by first | assumption | exact ⟨by omega, by omega, by omega, by omega⟩))
      have hFM17_1302 : FrJ (fun k j => (k = k1 ∧ (j = p2 ∨ j = 6 + p2 ∨ j = 12)) ∨ k = 14 ∨ k = 13 ∨ (k = 1 ∧ j = 30) ∨ k = 16) M M17_1302 := by rw [h_M17_1302]; exact (hFM16_1301).up (by omega)
      exact hQ _ (hM17_1302.mono (by first | exact Int.le_refl _ | omega)) hFM17_1302
  · intro x18_1304 ex18_1304 rx18_1304
    have bx18_1304 : -2147483648 ≤ x18_1304 ∧ x18_1304 ≤ 2147483647 := rx18_1304
    intro x19_1305 ex19_1305 rx19_1305
    first | (have fx19_1305 : x19_1305 = x18_1304 + 1 := by rw [ex19_1305]; exact w32_id (by omega)) | skip
    intro M20_1306 h_M20_1306
    have hM20_1306 : IM (b) M20_1306 := by rw [h_M20_1306]; exact hM1_1281.up (by omega) (by simp [BM])
    have hFM20_1306 : FrJ (fun k j => (k = k1 ∧ (j = p2 ∨ j = 6 + p2 ∨ j = 12)) ∨ k = 14 ∨ k = 13 ∨ (k = 1 ∧ j = 30) ∨ k = 16) M M20_1306 := by rw [h_M20_1306]; exact (hFM1_1281).up (by omega)
    refine ⟨by omega, ?_⟩
    refine ⟨by omega, ?_⟩
    intro x23_1307 ex23_1307 rx23_1307
    have bx23_1307 : -2147483648 ≤ x23_1307 ∧ x23_1307 ≤ 2147483647 := rx23_1307
    have fx23_1307 : x23_1307 = M1_1281 16 x2_1286 := by rw [ex23_1307, h_M20_1306, up2_n (by decide)]
    intro x24_1308 ex24_1308 rx24_1308
    first | (have fx24_1308 : x24_1308 = x23_1307 + 1 := by rw [ex24_1308]; exact w32_id (by omega)) | skip
    intro M25_1309 h_M25_1309
    have hM25_1309 : IM (b) M25_1309 := by rw [h_M25_1309]; exact hM20_1306.up (by omega) (by simp [BM])
    have hFM25_1309 : FrJ (fun k j => (k = k1 ∧ (j = p2 ∨ j = 6 + p2 ∨ j = 12)) ∨ k = 14 ∨ k = 13 ∨ (k = 1 ∧ j = 30) ∨ k = 16) M M25_1309 := by rw [h_M25_1309]; exact (hFM20_1306).up (by omega)
    exact hQ _ (hM25_1309.mono (by first | exact Int.le_refl _ | omega)) hFM25_1309
/-- the line of the hearses on the street: on it, none twice -/
def LN (k1 : Nat) (M : Mem) : Prop := (∀ i, 0 ≤ i → i < M 1 35 → 0 ≤ M k1 (M 18 i)) ∧ ∀ i j, 0 ≤ i → i < j → j < M 1 35 → M 18 i ≠ M 18 j
def tOn (f : Int → Int) (v h : Int) : Int := if v < f h then 1 else 0
theorem tOn_b (f : Int → Int) (v h : Int) : 0 ≤ tOn f v h ∧ tOn f v h ≤ 1 ∧ tOn f v h ≤ tOn f (v - 1) h := by
  unfold tOn
  refine ⟨by split <;> decide, by split <;> decide, ?_⟩
  split
  · rw [if_pos (by omega)]; exact Int.le_refl _
  · split <;> decide
def sOn (f : Int → Int) (v : Int) : Int := tOn f v 0 + tOn f v 1 + tOn f v 2 + tOn f v 3 + tOn f v 4 + tOn f v 5
theorem sOn_hit {f : Int → Int} {v h : Int} (h0 : 0 ≤ h ∧ h ≤ 5) (hv : f h = v) : sOn f v + 1 ≤ sOn f (v - 1) ∧ sOn f v ≤ 5 := by
  have a0 := tOn_b f v 0
  have a1 := tOn_b f v 1
  have a2 := tOn_b f v 2
  have a3 := tOn_b f v 3
  have a4 := tOn_b f v 4
  have a5 := tOn_b f v 5
  have z1 : tOn f v h = 0 := by unfold tOn; rw [if_neg (by omega)]
  have z2 : tOn f (v - 1) h = 1 := by unfold tOn; rw [if_pos (by omega)]
  unfold sOn
  have : h = 0 ∨ h = 1 ∨ h = 2 ∨ h = 3 ∨ h = 4 ∨ h = 5 := by omega
  rcases this with rfl | rfl | rfl | rfl | rfl | rfl <;> omega
theorem sOn_mono (f : Int → Int) (v : Int) : sOn f v ≤ sOn f (v - 1) := by
  have a0 := tOn_b f v 0
  have a1 := tOn_b f v 1
  have a2 := tOn_b f v 2
  have a3 := tOn_b f v 3
  have a4 := tOn_b f v 4
  have a5 := tOn_b f v 5
  unfold sOn
  omega
theorem sX12_laysLine_L12 {k1 : Nat} {Q : Mem → Prop} {b : Int} (hk1 : isN k1) (hQ : ∀ M' : Mem, IM b M' → LN k1 M' → Q M') : ∀ (n : Nat) (v2 : Int) (M : Mem), IM b M → (-1 ≤ v2 ∧ v2 ≤ 29) → M 1 35 ≤ sOn (M k1) v2 → (∀ i, 0 ≤ i → i < M 1 35 → v2 < M k1 (M 18 i)) → (∀ i j, 0 ≤ i → i < j → j < M 1 35 → M 18 i ≠ M 18 j) → v2 + 1 < (n : Int) → qX12_laysLine_L12 k1 Q n v2 M := by
  intro n
  induction n with
  | zero => intro v2 M hI hv h1 h2 h3 hm; exact absurd hm (by omega)
  | succ n ih =>
    intro v2 M hI hv h1 h2 h3 hm
    have hk5 : k1 = 5 ∨ k1 = 6 := hk1
    rw [qX12_laysLine_L12]
    refine ⟨(by omega), ⟨fun c => hQ _ hI ⟨fun i a q => by have := h2 i a q; omega, h3⟩, fun c => ?_⟩⟩
    refine sX12_onCell (p2 := v2) hI hk1 ?_
    intro x5 p5 _
    refine ⟨fun c2 => ?_, fun c2 => ?_⟩
    · exact ih (v2 + -1) M hI (by omega) (by have := sOn_mono (M k1) v2; rw [show v2 + -1 = v2 - 1 from by omega]; omega) (fun i a q => by have := h2 i a q; omega) h3 (by omega)
    · have hc := (p5.2.2 (by omega)).1
      have hh := sOn_hit (f := M k1) (v := v2) (h := x5) (by omega) hc
      intro x7 e7 _
      have b7 : 0 ≤ x7 ∧ x7 ≤ 6 := by rw [e7]; exact bm_c1_35.mp (hI.bx _ _)
      refine ⟨by omega, by omega, ?_⟩
      intro M10 h10
      have i10 : IM b M10 := by rw [h10]; exact hI.up (by omega) (bm_c18.mpr (by omega))
      intro x11 e11 _
      have f11 : x11 = x7 := by rw [e11, h10, up2_n (by decide), e7]
      refine ⟨(by omega), ?_⟩
      intro M13 h13
      have i13 : IM b M13 := by rw [h13]; exact i10.up (by omega) (bm_c1_35.mpr (by omega))
      have g1 : M13 1 35 = x7 + 1 := by rw [h13, up2_s, f11]
      have g2 : M13 k1 = M k1 := by rw [h13, up2_n (by omega), h10, up2_n (by omega)]
      have g3 : ∀ i, i ≠ x7 → M13 18 i = M 18 i := fun i hi => by rw [h13, up2_n (by decide), h10, up2_j hi]
      have g4 : M13 18 x7 = x5 := by rw [h13, up2_n (by decide), h10, up2_s]
      refine ih (v2 + -1) M13 i13 (by omega) ?_ ?_ ?_ (by omega)
      · rw [g1, g2, show v2 + -1 = v2 - 1 from by omega]; omega
      · intro i a q
        rw [g1] at q
        rw [g2]
        by_cases ci : i = x7
        · rw [ci, g4]; omega
        · rw [g3 i ci]
          have := h2 i a (by omega)
          omega
      · intro i j a q r
        rw [g1] at r
        by_cases cj : j = x7
        · rw [cj, g4, g3 i (by omega)]
          have := h2 i a (by omega)
          intro he
          rw [he] at this
          omega
        · rw [g3 j cj, g3 i (by omega)]
          exact h3 i j a q (by omega)
theorem sX12_laysLineF {k1 : Nat} {b : Int} {M : Mem} {Q : Mem → Prop} (hI : IM b M) (hk1 : isN k1) (hQ : ∀ M' : Mem, IM b M' → LN k1 M' → Q M') : qX12_laysLine k1 M Q := by
  have hk5 : k1 = 5 ∨ k1 = 6 := hk1
  unfold qX12_laysLine
  intro M1 h1
  have i1 : IM b M1 := by rw [h1]; exact hI.up (by omega) (bm_c1_35.mpr (by decide))
  have g1 : M1 1 35 = 0 := by rw [h1, up2_s]
  refine sX12_gate i1 ?_
  intro x2 p2 _
  refine ⟨31, sX12_laysLine_L12 hk1 hQ _ _ _ i1 (by omega) ?_ (fun i a q => by omega) (fun i j a q r => by omega) (by omega)⟩
  rw [g1]
  have a0 := tOn_b (M1 k1) (x2 - 1) 0
  have a1 := tOn_b (M1 k1) (x2 - 1) 1
  have a2 := tOn_b (M1 k1) (x2 - 1) 2
  have a3 := tOn_b (M1 k1) (x2 - 1) 3
  have a4 := tOn_b (M1 k1) (x2 - 1) 4
  have a5 := tOn_b (M1 k1) (x2 - 1) 5
  unfold sOn
  omega
theorem sX12_laysLine {k1 : Nat} {b : Int} {M : Mem} {Q : Mem → Prop} (hI : IM b M) (hk1 : isN k1) (hQ : ∀ M' : Mem, IM b M' → Q M') : qX12_laysLine k1 M Q := sX12_laysLineF hI hk1 (fun M' h _ => hQ M' h)
theorem sX12_mournerGoes {k1 : Nat} {p2 : Int} {b : Int} {M : Mem} {Q : Mem → Prop} (hI : IM b M) (hk1 : isN k1) (hp : 0 ≤ p2 ∧ p2 ≤ 7) (hQ : ∀ M' : Mem, IM b M' → Q M') : qX12_mournerGoes k1 p2 M Q := by
  unfold qX12_mournerGoes
  have hbn := hI.nn
  have ek1 : k1 = 5 ∨ k1 = 6 := hk1
  refine ⟨by omega, ?_⟩
  refine ⟨by omega, ?_⟩
  intro x3_1310 ex3_1310 rx3_1310
  have rbx3_1310 : -2147483648 ≤ x3_1310 ∧ x3_1310 ≤ 2147483647 := rx3_1310
  first | (have bx3_1310 : -1 ≤ x3_1310 ∧ x3_1310 ≤ 5 := by rw [ex3_1310]; exact ((bm_n hk1).mp (hI.bx _ _)).2.2.1 (by omega)) | skip
  refine ⟨fun c => ?_, fun c => ?_⟩
  · unfold qX12_mournerGoes_J27
    refine ⟨by omega, ?_⟩
    refine ⟨by omega, ?_⟩
    intro x7_1312 ex7_1312 rx7_1312
    have rbx7_1312 : -2147483648 ≤ x7_1312 ∧ x7_1312 ≤ 2147483647 := rx7_1312
    first | (have bx7_1312 : -1 ≤ x7_1312 ∧ x7_1312 ≤ 29 := by rw [ex7_1312]; exact ((bm_n hk1).mp (hI.bx _ _)).2.1 (by omega)) | skip
    refine sX12_nearest (p2 := x7_1312) hI hk1 (by omega) ?_
    intro x8_1313 p1314 q1315
    refine ⟨fun c => ?_, fun c => ?_⟩
    · unfold qX12_mournerGoes_J105
      refine ⟨(by first | assumption | exact (by omega)), ?_⟩
      refine ⟨fun c => ?_, fun c => ?_⟩
      · exact hQ _ (hI.mono (by first | exact Int.le_refl _ | omega))
      · refine ⟨by omega, ?_⟩
        refine ⟨by omega, ?_⟩
        intro x14_1319 ex14_1319 rx14_1319
        have rbx14_1319 : -2147483648 ≤ x14_1319 ∧ x14_1319 ≤ 2147483647 := rx14_1319
        have nbx14_1319 : BN (b) x3_1310 x14_1319 := by rw [ex14_1319]; exact (bm_n hk1).mp (hI.bx _ _)
        first | (have bx14_1319 : -1 ≤ x14_1319 ∧ x14_1319 ≤ 29 := nbx14_1319.1 (by omega)) | (have bx14_1319 : -1 ≤ x14_1319 ∧ x14_1319 ≤ 29 := nbx14_1319.2.1 (by omega)) | skip
        have cgx14_1319 : x14_1319 = M k1 (M k1 (21 + p2)) := by rw [ex14_1319, ← ex3_1310]
        refine ⟨(by first | assumption | exact (by omega)), ?_⟩
        refine ⟨fun c => ?_, fun c => ?_⟩
        · intro x17_1321 ex17_1321 rx17_1321
          have rbx17_1321 : -2147483648 ≤ x17_1321 ∧ x17_1321 ≤ 2147483647 := rx17_1321
          have nbx17_1321 : BN (b) x3_1310 x17_1321 := by rw [ex17_1321]; exact (bm_n hk1).mp (hI.bx _ _)
          first | (have bx17_1321 : -1 ≤ x17_1321 ∧ x17_1321 ≤ 29 := nbx17_1321.1 (by omega)) | (have bx17_1321 : -1 ≤ x17_1321 ∧ x17_1321 ≤ 29 := nbx17_1321.2.1 (by omega)) | skip
          have cgx17_1321 : x17_1321 = M k1 (M k1 (21 + p2)) := by rw [ex17_1321, ← ex3_1310]
          refine ⟨(by first | assumption | exact (by omega)), ?_⟩
          intro x19_1322 ex19_1322 rx19_1322
          unfold qX12_mournerGoes_J145
          refine ⟨by omega, ?_⟩
          refine ⟨by omega, ?_⟩
          refine ⟨(by first | assumption | exact (by omega)), ?_⟩
          intro M23_1323 h_M23_1323
          have hM23_1323 : IM (b) M23_1323 := by rw [h_M23_1323]; exact hI.up (isN.nu hk1 _) ((bm_n hk1).mpr (by first | assumption | exact ⟨by omega, by omega, by omega, by omega⟩))
          exact hQ _ (hM23_1323.mono (by first | exact Int.le_refl _ | omega))
        · intro x24_1325 ex24_1325 rx24_1325
          have rbx24_1325 : -2147483648 ≤ x24_1325 ∧ x24_1325 ≤ 2147483647 := rx24_1325
          have nbx24_1325 : BN (b) x3_1310 x24_1325 := by rw [ex24_1325]; exact (bm_n hk1).mp (hI.bx _ _)
          first | (have bx24_1325 : -1 ≤ x24_1325 ∧ x24_1325 ≤ 29 := nbx24_1325.1 (by omega)) | (have bx24_1325 : -1 ≤ x24_1325 ∧ x24_1325 ≤ 29 := nbx24_1325.2.1 (by omega)) | skip
          have cgx24_1325 : x24_1325 = M k1 (M k1 (21 + p2)) := by rw [ex24_1325, ← ex3_1310]
          refine ⟨(by first | assumption | exact (by omega)), ?_⟩
          intro x26_1326 ex26_1326 rx26_1326
          unfold qX12_mournerGoes_J145
          refine ⟨by omega, ?_⟩
          refine ⟨by omega, ?_⟩
          refine ⟨(by first | assumption | exact (by omega)), ?_⟩
          intro M23_1327 h_M23_1327
          have hM23_1327 : IM (b) M23_1327 := by rw [h_M23_1327]; exact hI.up (isN.nu hk1 _) ((bm_n hk1).mpr (by first | assumption | exact ⟨by omega, by omega, by omega, by omega⟩))
          exact hQ _ (hM23_1327.mono (by first | exact Int.le_refl _ | omega))
    · refine ⟨(by first | assumption | exact (by omega)), ?_⟩
      refine ⟨fun c => ?_, fun c => ?_⟩
      · unfold qX12_mournerGoes_J75
        refine ⟨by omega, ?_⟩
        refine ⟨by omega, ?_⟩
        refine ⟨(by first | assumption | exact (by omega)), ?_⟩
        intro M32_1330 h_M32_1330
        have hM32_1330 : IM (b) M32_1330 := by rw [h_M32_1330]; exact hI.up (isN.nu hk1 _) ((bm_n hk1).mpr (by first | assumption | exact ⟨by omega, by omega, by omega, by omega⟩))
        intro x33_1331 ex33_1331 rx33_1331
        have bx33_1331 : -2147483648 ≤ x33_1331 ∧ x33_1331 ≤ 2147483647 := rx33_1331
        have fx33_1331 : x33_1331 = M 1 31 := by rw [ex33_1331, h_M32_1330, up2_n (by omega)]
        intro x34_1332 ex34_1332 rx34_1332
        first | (have fx34_1332 : x34_1332 = x33_1331 + 1 := by rw [ex34_1332]; exact w32_id (by omega)) | skip
        intro M35_1333 h_M35_1333
        have hM35_1333 : IM (b) M35_1333 := by rw [h_M35_1333]; exact hM32_1330.up (by omega) (by simp [BM])
        refine ⟨by omega, ?_⟩
        refine ⟨by omega, ?_⟩
        intro x38_1334 ex38_1334 rx38_1334
        have bx38_1334 : -2147483648 ≤ x38_1334 ∧ x38_1334 ≤ 2147483647 := rx38_1334
        have fx38_1334 : x38_1334 = M 17 p2 := by rw [ex38_1334, h_M35_1333, up2_n (by decide), h_M32_1330, up2_n (by omega)]
        intro x39_1335 ex39_1335 rx39_1335
        first | (have fx39_1335 : x39_1335 = x38_1334 + 1 := by rw [ex39_1335]; exact w32_id (by omega)) | skip
        intro M40_1336 h_M40_1336
        have hM40_1336 : IM (b) M40_1336 := by rw [h_M40_1336]; exact hM35_1333.up (by omega) (by simp [BM])
        unfold qX12_mournerGoes_J105
        refine ⟨(by first | assumption | exact (by omega)), ?_⟩
        refine ⟨fun c => ?_, fun c => ?_⟩
        · exact hQ _ (hM40_1336.mono (by first | exact Int.le_refl _ | omega))
        · refine ⟨by omega, ?_⟩
          refine ⟨by omega, ?_⟩
          intro x14_1339 ex14_1339 rx14_1339
          have rbx14_1339 : -2147483648 ≤ x14_1339 ∧ x14_1339 ≤ 2147483647 := rx14_1339
          have nbx14_1339 : BN (b) x8_1313 x14_1339 := by rw [ex14_1339]; exact (bm_n hk1).mp (hM40_1336.bx _ _)
          first | (have bx14_1339 : -1 ≤ x14_1339 ∧ x14_1339 ≤ 29 := nbx14_1339.1 (by omega)) | (have bx14_1339 : -1 ≤ x14_1339 ∧ x14_1339 ≤ 29 := nbx14_1339.2.1 (by omega)) | skip
          have fx14_1339 : x14_1339 = M32_1330 k1 x8_1313 := by rw [ex14_1339, h_M40_1336, up2_n (by omega), h_M35_1333, up2_n (by omega)]
          refine ⟨(by first | assumption | exact (by omega)), ?_⟩
          refine ⟨fun c => ?_, fun c => ?_⟩
          · intro x17_1341 ex17_1341 rx17_1341
            have rbx17_1341 : -2147483648 ≤ x17_1341 ∧ x17_1341 ≤ 2147483647 := rx17_1341
            have nbx17_1341 : BN (b) x8_1313 x17_1341 := by rw [ex17_1341]; exact (bm_n hk1).mp (hM40_1336.bx _ _)
            first | (have bx17_1341 : -1 ≤ x17_1341 ∧ x17_1341 ≤ 29 := nbx17_1341.1 (by omega)) | (have bx17_1341 : -1 ≤ x17_1341 ∧ x17_1341 ≤ 29 := nbx17_1341.2.1 (by omega)) | skip
            have fx17_1341 : x17_1341 = M32_1330 k1 x8_1313 := by rw [ex17_1341, h_M40_1336, up2_n (by omega), h_M35_1333, up2_n (by omega)]
            refine ⟨(by first | assumption | exact (by omega)), ?_⟩
            intro x19_1342 ex19_1342 rx19_1342
            unfold qX12_mournerGoes_J145
            refine ⟨by omega, ?_⟩
            refine ⟨by omega, ?_⟩
            refine ⟨(by first | assumption | exact (by omega)), ?_⟩
            intro M23_1343 h_M23_1343
            have hM23_1343 : IM (b) M23_1343 := by rw [h_M23_1343]; exact hM40_1336.up (isN.nu hk1 _) ((bm_n hk1).mpr (by first | assumption | exact ⟨by omega, by omega, by omega, by omega⟩))
            exact hQ _ (hM23_1343.mono (by first | exact Int.le_refl _ | omega))
          · intro x24_1345 ex24_1345 rx24_1345
            have rbx24_1345 : -2147483648 ≤ x24_1345 ∧ x24_1345 ≤ 2147483647 := rx24_1345
            have nbx24_1345 : BN (b) x8_1313 x24_1345 := by rw [ex24_1345]; exact (bm_n hk1).mp (hM40_1336.bx _ _)
            first | (have bx24_1345 : -1 ≤ x24_1345 ∧ x24_1345 ≤ 29 := nbx24_1345.1 (by omega)) | (have bx24_1345 : -1 ≤ x24_1345 ∧ x24_1345 ≤ 29 := nbx24_1345.2.1 (by omega)) | skip
            have fx24_1345 : x24_1345 = M32_1330 k1 x8_1313 := by rw [ex24_1345, h_M40_1336, up2_n (by omega), h_M35_1333, up2_n (by omega)]
            refine ⟨(by first | assumption | exact (by omega)), ?_⟩
            intro x26_1346 ex26_1346 rx26_1346
            unfold qX12_mournerGoes_J145
            refine ⟨by omega, ?_⟩
            refine ⟨by omega, ?_⟩
            refine ⟨(by first | assumption | exact (by omega)), ?_⟩
            intro M23_1347 h_M23_1347
            have hM23_1347 : IM (b) M23_1347 := by rw [h_M23_1347]; exact hM40_1336.up (isN.nu hk1 _) ((bm_n hk1).mpr (by first | assumption | exact ⟨by omega, by omega, by omega, by omega⟩))
            exact hQ _ (hM23_1347.mono (by first | exact Int.le_refl _ | omega))
      · refine ⟨by omega, ?_⟩
        refine ⟨by omega, ?_⟩
        intro x43_1349 ex43_1349 rx43_1349
        have rbx43_1349 : -2147483648 ≤ x43_1349 ∧ x43_1349 ≤ 2147483647 := rx43_1349
        have nbx43_1349 : BN (b) x8_1313 x43_1349 := by rw [ex43_1349]; exact (bm_n hk1).mp (hI.bx _ _)
        first | (have bx43_1349 : -1 ≤ x43_1349 ∧ x43_1349 ≤ 29 := nbx43_1349.1 (by omega)) | (have bx43_1349 : -1 ≤ x43_1349 ∧ x43_1349 ≤ 29 := nbx43_1349.2.1 (by omega)) | skip
        refine ⟨(by first | assumption | exact (by omega)), ?_⟩
        intro x45_1350 px45_1350 nx45_1350
        have bx45_1350 : 0 ≤ x45_1350 ∧ (x43_1349 - x7_1312 = x45_1350 ∨ x43_1349 - x7_1312 = -x45_1350) := by omega
        refine ⟨by omega, ?_⟩
        refine ⟨by omega, ?_⟩
        intro x48_1351 ex48_1351 rx48_1351
        have rbx48_1351 : -2147483648 ≤ x48_1351 ∧ x48_1351 ≤ 2147483647 := rx48_1351
        have nbx48_1351 : BN (b) x3_1310 x48_1351 := by rw [ex48_1351]; exact (bm_n hk1).mp (hI.bx _ _)
        first | (have bx48_1351 : -1 ≤ x48_1351 ∧ x48_1351 ≤ 29 := nbx48_1351.1 (by omega)) | (have bx48_1351 : -1 ≤ x48_1351 ∧ x48_1351 ≤ 29 := nbx48_1351.2.1 (by omega)) | skip
        have cgx48_1351 : x48_1351 = M k1 (M k1 (21 + p2)) := by rw [ex48_1351, ← ex3_1310]
        refine ⟨(by first | assumption | exact (by omega)), ?_⟩
        intro x50_1352 px50_1352 nx50_1352
        have bx50_1352 : 0 ≤ x50_1352 ∧ (x48_1351 - x7_1312 = x50_1352 ∨ x48_1351 - x7_1312 = -x50_1352) := by omega
        refine ⟨(by first | assumption | exact (by omega)), ?_⟩
        refine ⟨(by first | assumption | exact (by omega)), ?_⟩
        refine ⟨fun c => ?_, fun c => ?_⟩
        · unfold qX12_mournerGoes_J105
          refine ⟨(by first | assumption | exact (by omega)), ?_⟩
          refine ⟨fun c => ?_, fun c => ?_⟩
          · exact hQ _ (hI.mono (by first | exact Int.le_refl _ | omega))
          · refine ⟨by omega, ?_⟩
            refine ⟨by omega, ?_⟩
            intro x14_1356 ex14_1356 rx14_1356
            have rbx14_1356 : -2147483648 ≤ x14_1356 ∧ x14_1356 ≤ 2147483647 := rx14_1356
            have nbx14_1356 : BN (b) x3_1310 x14_1356 := by rw [ex14_1356]; exact (bm_n hk1).mp (hI.bx _ _)
            first | (have bx14_1356 : -1 ≤ x14_1356 ∧ x14_1356 ≤ 29 := nbx14_1356.1 (by omega)) | (have bx14_1356 : -1 ≤ x14_1356 ∧ x14_1356 ≤ 29 := nbx14_1356.2.1 (by omega)) | skip
            have cgx14_1356 : x14_1356 = M k1 (M k1 (21 + p2)) := by rw [ex14_1356, ← ex3_1310]
            refine ⟨(by first | assumption | exact (by omega)), ?_⟩
            refine ⟨fun c => ?_, fun c => ?_⟩
            · intro x17_1358 ex17_1358 rx17_1358
              have rbx17_1358 : -2147483648 ≤ x17_1358 ∧ x17_1358 ≤ 2147483647 := rx17_1358
              have nbx17_1358 : BN (b) x3_1310 x17_1358 := by rw [ex17_1358]; exact (bm_n hk1).mp (hI.bx _ _)
              first | (have bx17_1358 : -1 ≤ x17_1358 ∧ x17_1358 ≤ 29 := nbx17_1358.1 (by omega)) | (have bx17_1358 : -1 ≤ x17_1358 ∧ x17_1358 ≤ 29 := nbx17_1358.2.1 (by omega)) | skip
              have cgx17_1358 : x17_1358 = M k1 (M k1 (21 + p2)) := by rw [ex17_1358, ← ex3_1310]
              refine ⟨(by first | assumption | exact (by omega)), ?_⟩
              intro x19_1359 ex19_1359 rx19_1359
              unfold qX12_mournerGoes_J145
              refine ⟨by omega, ?_⟩
              refine ⟨by omega, ?_⟩
              refine ⟨(by first | assumption | exact (by omega)), ?_⟩
              intro M23_1360 h_M23_1360
              have hM23_1360 : IM (b) M23_1360 := by rw [h_M23_1360]; exact hI.up (isN.nu hk1 _) ((bm_n hk1).mpr (by first | assumption | exact ⟨by omega, by omega, by omega, by omega⟩))
              exact hQ _ (hM23_1360.mono (by first | exact Int.le_refl _ | omega))
            · intro x24_1362 ex24_1362 rx24_1362
              have rbx24_1362 : -2147483648 ≤ x24_1362 ∧ x24_1362 ≤ 2147483647 := rx24_1362
              have nbx24_1362 : BN (b) x3_1310 x24_1362 := by rw [ex24_1362]; exact (bm_n hk1).mp (hI.bx _ _)
              first | (have bx24_1362 : -1 ≤ x24_1362 ∧ x24_1362 ≤ 29 := nbx24_1362.1 (by omega)) | (have bx24_1362 : -1 ≤ x24_1362 ∧ x24_1362 ≤ 29 := nbx24_1362.2.1 (by omega)) | skip
              have cgx24_1362 : x24_1362 = M k1 (M k1 (21 + p2)) := by rw [ex24_1362, ← ex3_1310]
              refine ⟨(by first | assumption | exact (by omega)), ?_⟩
              intro x26_1363 ex26_1363 rx26_1363
              unfold qX12_mournerGoes_J145
              refine ⟨by omega, ?_⟩
              refine ⟨by omega, ?_⟩
              refine ⟨(by first | assumption | exact (by omega)), ?_⟩
              intro M23_1364 h_M23_1364
              have hM23_1364 : IM (b) M23_1364 := by rw [h_M23_1364]; exact hI.up (isN.nu hk1 _) ((bm_n hk1).mpr (by first | assumption | exact ⟨by omega, by omega, by omega, by omega⟩))
              exact hQ _ (hM23_1364.mono (by first | exact Int.le_refl _ | omega))
        · unfold qX12_mournerGoes_J75
          refine ⟨by omega, ?_⟩
          refine ⟨by omega, ?_⟩
          refine ⟨(by first | assumption | exact (by omega)), ?_⟩
          intro M32_1366 h_M32_1366
          have hM32_1366 : IM (b) M32_1366 := by rw [h_M32_1366]; exact hI.up (isN.nu hk1 _) ((bm_n hk1).mpr (by first | assumption | exact ⟨by omega, by omega, by omega, by omega⟩))
          intro x33_1367 ex33_1367 rx33_1367
          have bx33_1367 : -2147483648 ≤ x33_1367 ∧ x33_1367 ≤ 2147483647 := rx33_1367
          have fx33_1367 : x33_1367 = M 1 31 := by rw [ex33_1367, h_M32_1366, up2_n (by omega)]
          intro x34_1368 ex34_1368 rx34_1368
          first | (have fx34_1368 : x34_1368 = x33_1367 + 1 := by rw [ex34_1368]; exact w32_id (by omega)) | skip
          intro M35_1369 h_M35_1369
          have hM35_1369 : IM (b) M35_1369 := by rw [h_M35_1369]; exact hM32_1366.up (by omega) (by simp [BM])
          refine ⟨by omega, ?_⟩
          refine ⟨by omega, ?_⟩
          intro x38_1370 ex38_1370 rx38_1370
          have bx38_1370 : -2147483648 ≤ x38_1370 ∧ x38_1370 ≤ 2147483647 := rx38_1370
          have fx38_1370 : x38_1370 = M 17 p2 := by rw [ex38_1370, h_M35_1369, up2_n (by decide), h_M32_1366, up2_n (by omega)]
          intro x39_1371 ex39_1371 rx39_1371
          first | (have fx39_1371 : x39_1371 = x38_1370 + 1 := by rw [ex39_1371]; exact w32_id (by omega)) | skip
          intro M40_1372 h_M40_1372
          have hM40_1372 : IM (b) M40_1372 := by rw [h_M40_1372]; exact hM35_1369.up (by omega) (by simp [BM])
          unfold qX12_mournerGoes_J105
          refine ⟨(by first | assumption | exact (by omega)), ?_⟩
          refine ⟨fun c => ?_, fun c => ?_⟩
          · exact hQ _ (hM40_1372.mono (by first | exact Int.le_refl _ | omega))
          · refine ⟨by omega, ?_⟩
            refine ⟨by omega, ?_⟩
            intro x14_1375 ex14_1375 rx14_1375
            have rbx14_1375 : -2147483648 ≤ x14_1375 ∧ x14_1375 ≤ 2147483647 := rx14_1375
            have nbx14_1375 : BN (b) x8_1313 x14_1375 := by rw [ex14_1375]; exact (bm_n hk1).mp (hM40_1372.bx _ _)
            first | (have bx14_1375 : -1 ≤ x14_1375 ∧ x14_1375 ≤ 29 := nbx14_1375.1 (by omega)) | (have bx14_1375 : -1 ≤ x14_1375 ∧ x14_1375 ≤ 29 := nbx14_1375.2.1 (by omega)) | skip
            have fx14_1375 : x14_1375 = M32_1366 k1 x8_1313 := by rw [ex14_1375, h_M40_1372, up2_n (by omega), h_M35_1369, up2_n (by omega)]
            refine ⟨(by first | assumption | exact (by omega)), ?_⟩
            refine ⟨fun c => ?_, fun c => ?_⟩
            · intro x17_1377 ex17_1377 rx17_1377
              have rbx17_1377 : -2147483648 ≤ x17_1377 ∧ x17_1377 ≤ 2147483647 := rx17_1377
              have nbx17_1377 : BN (b) x8_1313 x17_1377 := by rw [ex17_1377]; exact (bm_n hk1).mp (hM40_1372.bx _ _)
              first | (have bx17_1377 : -1 ≤ x17_1377 ∧ x17_1377 ≤ 29 := nbx17_1377.1 (by omega)) | (have bx17_1377 : -1 ≤ x17_1377 ∧ x17_1377 ≤ 29 := nbx17_1377.2.1 (by omega)) | skip
              have fx17_1377 : x17_1377 = M32_1366 k1 x8_1313 := by rw [ex17_1377, h_M40_1372, up2_n (by omega), h_M35_1369, up2_n (by omega)]
              refine ⟨(by first | assumption | exact (by omega)), ?_⟩
              intro x19_1378 ex19_1378 rx19_1378
              unfold qX12_mournerGoes_J145
              refine ⟨by omega, ?_⟩
              refine ⟨by omega, ?_⟩
              refine ⟨(by first | assumption | exact (by omega)), ?_⟩
              intro M23_1379 h_M23_1379
              have hM23_1379 : IM (b) M23_1379 := by rw [h_M23_1379]; exact hM40_1372.up (isN.nu hk1 _) ((bm_n hk1).mpr (by first | assumption | exact ⟨by omega, by omega, by omega, by omega⟩))
              exact hQ _ (hM23_1379.mono (by first | exact Int.le_refl _ | omega))
            · intro x24_1381 ex24_1381 rx24_1381
              have rbx24_1381 : -2147483648 ≤ x24_1381 ∧ x24_1381 ≤ 2147483647 := rx24_1381
              have nbx24_1381 : BN (b) x8_1313 x24_1381 := by rw [ex24_1381]; exact (bm_n hk1).mp (hM40_1372.bx _ _)
              first | (have bx24_1381 : -1 ≤ x24_1381 ∧ x24_1381 ≤ 29 := nbx24_1381.1 (by omega)) | (have bx24_1381 : -1 ≤ x24_1381 ∧ x24_1381 ≤ 29 := nbx24_1381.2.1 (by omega)) | skip
              have fx24_1381 : x24_1381 = M32_1366 k1 x8_1313 := by rw [ex24_1381, h_M40_1372, up2_n (by omega), h_M35_1369, up2_n (by omega)]
              refine ⟨(by first | assumption | exact (by omega)), ?_⟩
              intro x26_1382 ex26_1382 rx26_1382
              unfold qX12_mournerGoes_J145
              refine ⟨by omega, ?_⟩
              refine ⟨by omega, ?_⟩
              refine ⟨(by first | assumption | exact (by omega)), ?_⟩
              intro M23_1383 h_M23_1383
              have hM23_1383 : IM (b) M23_1383 := by rw [h_M23_1383]; exact hM40_1372.up (isN.nu hk1 _) ((bm_n hk1).mpr (by first | assumption | exact ⟨by omega, by omega, by omega, by omega⟩))
              exact hQ _ (hM23_1383.mono (by first | exact Int.le_refl _ | omega))
  · refine sX12_isOn (p1 := x3_1310) hI hk1 (by omega) ?_
    intro x54_1385 p1386 q1387 q1388
    refine ⟨fun c => ?_, fun c => ?_⟩
    · unfold qX12_mournerGoes_J27
      refine ⟨by omega, ?_⟩
      refine ⟨by omega, ?_⟩
      intro x7_1390 ex7_1390 rx7_1390
      have rbx7_1390 : -2147483648 ≤ x7_1390 ∧ x7_1390 ≤ 2147483647 := rx7_1390
      first | (have bx7_1390 : -1 ≤ x7_1390 ∧ x7_1390 ≤ 29 := by rw [ex7_1390]; exact ((bm_n hk1).mp (hI.bx _ _)).2.1 (by omega)) | skip
      refine sX12_nearest (p2 := x7_1390) hI hk1 (by omega) ?_
      intro x8_1391 p1392 q1393
      refine ⟨fun c => ?_, fun c => ?_⟩
      · unfold qX12_mournerGoes_J105
        refine ⟨(by first | assumption | exact (by omega)), ?_⟩
        refine ⟨fun c => ?_, fun c => ?_⟩
        · exact hQ _ (hI.mono (by first | exact Int.le_refl _ | omega))
        · refine ⟨by omega, ?_⟩
          refine ⟨by omega, ?_⟩
          intro x14_1397 ex14_1397 rx14_1397
          have rbx14_1397 : -2147483648 ≤ x14_1397 ∧ x14_1397 ≤ 2147483647 := rx14_1397
          have nbx14_1397 : BN (b) x3_1310 x14_1397 := by rw [ex14_1397]; exact (bm_n hk1).mp (hI.bx _ _)
          first | (have bx14_1397 : -1 ≤ x14_1397 ∧ x14_1397 ≤ 29 := nbx14_1397.1 (by omega)) | (have bx14_1397 : -1 ≤ x14_1397 ∧ x14_1397 ≤ 29 := nbx14_1397.2.1 (by omega)) | skip
          have cgx14_1397 : x14_1397 = M k1 (M k1 (21 + p2)) := by rw [ex14_1397, ← ex3_1310]
          refine ⟨(by first | assumption | exact (by omega)), ?_⟩
          refine ⟨fun c => ?_, fun c => ?_⟩
          · intro x17_1399 ex17_1399 rx17_1399
            have rbx17_1399 : -2147483648 ≤ x17_1399 ∧ x17_1399 ≤ 2147483647 := rx17_1399
            have nbx17_1399 : BN (b) x3_1310 x17_1399 := by rw [ex17_1399]; exact (bm_n hk1).mp (hI.bx _ _)
            first | (have bx17_1399 : -1 ≤ x17_1399 ∧ x17_1399 ≤ 29 := nbx17_1399.1 (by omega)) | (have bx17_1399 : -1 ≤ x17_1399 ∧ x17_1399 ≤ 29 := nbx17_1399.2.1 (by omega)) | skip
            have cgx17_1399 : x17_1399 = M k1 (M k1 (21 + p2)) := by rw [ex17_1399, ← ex3_1310]
            refine ⟨(by first | assumption | exact (by omega)), ?_⟩
            intro x19_1400 ex19_1400 rx19_1400
            unfold qX12_mournerGoes_J145
            refine ⟨by omega, ?_⟩
            refine ⟨by omega, ?_⟩
            refine ⟨(by first | assumption | exact (by omega)), ?_⟩
            intro M23_1401 h_M23_1401
            have hM23_1401 : IM (b) M23_1401 := by rw [h_M23_1401]; exact hI.up (isN.nu hk1 _) ((bm_n hk1).mpr (by first | assumption | exact ⟨by omega, by omega, by omega, by omega⟩))
            exact hQ _ (hM23_1401.mono (by first | exact Int.le_refl _ | omega))
          · intro x24_1403 ex24_1403 rx24_1403
            have rbx24_1403 : -2147483648 ≤ x24_1403 ∧ x24_1403 ≤ 2147483647 := rx24_1403
            have nbx24_1403 : BN (b) x3_1310 x24_1403 := by rw [ex24_1403]; exact (bm_n hk1).mp (hI.bx _ _)
            first | (have bx24_1403 : -1 ≤ x24_1403 ∧ x24_1403 ≤ 29 := nbx24_1403.1 (by omega)) | (have bx24_1403 : -1 ≤ x24_1403 ∧ x24_1403 ≤ 29 := nbx24_1403.2.1 (by omega)) | skip
            have cgx24_1403 : x24_1403 = M k1 (M k1 (21 + p2)) := by rw [ex24_1403, ← ex3_1310]
            refine ⟨(by first | assumption | exact (by omega)), ?_⟩
            intro x26_1404 ex26_1404 rx26_1404
            unfold qX12_mournerGoes_J145
            refine ⟨by omega, ?_⟩
            refine ⟨by omega, ?_⟩
            refine ⟨(by first | assumption | exact (by omega)), ?_⟩
            intro M23_1405 h_M23_1405
            have hM23_1405 : IM (b) M23_1405 := by rw [h_M23_1405]; exact hI.up (isN.nu hk1 _) ((bm_n hk1).mpr (by first | assumption | exact ⟨by omega, by omega, by omega, by omega⟩))
            exact hQ _ (hM23_1405.mono (by first | exact Int.le_refl _ | omega))
      · refine ⟨(by first | assumption | exact (by omega)), ?_⟩
        refine ⟨fun c => ?_, fun c => ?_⟩
        · unfold qX12_mournerGoes_J75
          refine ⟨by omega, ?_⟩
          refine ⟨by omega, ?_⟩
          refine ⟨(by first | assumption | exact (by omega)), ?_⟩
          intro M32_1408 h_M32_1408
          have hM32_1408 : IM (b) M32_1408 := by rw [h_M32_1408]; exact hI.up (isN.nu hk1 _) ((bm_n hk1).mpr (by first | assumption | exact ⟨by omega, by omega, by omega, by omega⟩))
          intro x33_1409 ex33_1409 rx33_1409
          have bx33_1409 : -2147483648 ≤ x33_1409 ∧ x33_1409 ≤ 2147483647 := rx33_1409
          have fx33_1409 : x33_1409 = M 1 31 := by rw [ex33_1409, h_M32_1408, up2_n (by omega)]
          intro x34_1410 ex34_1410 rx34_1410
          first | (have fx34_1410 : x34_1410 = x33_1409 + 1 := by rw [ex34_1410]; exact w32_id (by omega)) | skip
          intro M35_1411 h_M35_1411
          have hM35_1411 : IM (b) M35_1411 := by rw [h_M35_1411]; exact hM32_1408.up (by omega) (by simp [BM])
          refine ⟨by omega, ?_⟩
          refine ⟨by omega, ?_⟩
          intro x38_1412 ex38_1412 rx38_1412
          have bx38_1412 : -2147483648 ≤ x38_1412 ∧ x38_1412 ≤ 2147483647 := rx38_1412
          have fx38_1412 : x38_1412 = M 17 p2 := by rw [ex38_1412, h_M35_1411, up2_n (by decide), h_M32_1408, up2_n (by omega)]
          intro x39_1413 ex39_1413 rx39_1413
          first | (have fx39_1413 : x39_1413 = x38_1412 + 1 := by rw [ex39_1413]; exact w32_id (by omega)) | skip
          intro M40_1414 h_M40_1414
          have hM40_1414 : IM (b) M40_1414 := by rw [h_M40_1414]; exact hM35_1411.up (by omega) (by simp [BM])
          unfold qX12_mournerGoes_J105
          refine ⟨(by first | assumption | exact (by omega)), ?_⟩
          refine ⟨fun c => ?_, fun c => ?_⟩
          · exact hQ _ (hM40_1414.mono (by first | exact Int.le_refl _ | omega))
          · refine ⟨by omega, ?_⟩
            refine ⟨by omega, ?_⟩
            intro x14_1417 ex14_1417 rx14_1417
            have rbx14_1417 : -2147483648 ≤ x14_1417 ∧ x14_1417 ≤ 2147483647 := rx14_1417
            have nbx14_1417 : BN (b) x8_1391 x14_1417 := by rw [ex14_1417]; exact (bm_n hk1).mp (hM40_1414.bx _ _)
            first | (have bx14_1417 : -1 ≤ x14_1417 ∧ x14_1417 ≤ 29 := nbx14_1417.1 (by omega)) | (have bx14_1417 : -1 ≤ x14_1417 ∧ x14_1417 ≤ 29 := nbx14_1417.2.1 (by omega)) | skip
            have fx14_1417 : x14_1417 = M32_1408 k1 x8_1391 := by rw [ex14_1417, h_M40_1414, up2_n (by omega), h_M35_1411, up2_n (by omega)]
            refine ⟨(by first | assumption | exact (by omega)), ?_⟩
            refine ⟨fun c => ?_, fun c => ?_⟩
            · intro x17_1419 ex17_1419 rx17_1419
              have rbx17_1419 : -2147483648 ≤ x17_1419 ∧ x17_1419 ≤ 2147483647 := rx17_1419
              have nbx17_1419 : BN (b) x8_1391 x17_1419 := by rw [ex17_1419]; exact (bm_n hk1).mp (hM40_1414.bx _ _)
              first | (have bx17_1419 : -1 ≤ x17_1419 ∧ x17_1419 ≤ 29 := nbx17_1419.1 (by omega)) | (have bx17_1419 : -1 ≤ x17_1419 ∧ x17_1419 ≤ 29 := nbx17_1419.2.1 (by omega)) | skip
              have fx17_1419 : x17_1419 = M32_1408 k1 x8_1391 := by rw [ex17_1419, h_M40_1414, up2_n (by omega), h_M35_1411, up2_n (by omega)]
              refine ⟨(by first | assumption | exact (by omega)), ?_⟩
              intro x19_1420 ex19_1420 rx19_1420
              unfold qX12_mournerGoes_J145
              refine ⟨by omega, ?_⟩
              refine ⟨by omega, ?_⟩
              refine ⟨(by first | assumption | exact (by omega)), ?_⟩
              intro M23_1421 h_M23_1421
              have hM23_1421 : IM (b) M23_1421 := by rw [h_M23_1421]; exact hM40_1414.up (isN.nu hk1 _) ((bm_n hk1).mpr (by first | assumption | exact ⟨by omega, by omega, by omega, by omega⟩))
              exact hQ _ (hM23_1421.mono (by first | exact Int.le_refl _ | omega))
            · intro x24_1423 ex24_1423 rx24_1423
              have rbx24_1423 : -2147483648 ≤ x24_1423 ∧ x24_1423 ≤ 2147483647 := rx24_1423
              have nbx24_1423 : BN (b) x8_1391 x24_1423 := by rw [ex24_1423]; exact (bm_n hk1).mp (hM40_1414.bx _ _)
              first | (have bx24_1423 : -1 ≤ x24_1423 ∧ x24_1423 ≤ 29 := nbx24_1423.1 (by omega)) | (have bx24_1423 : -1 ≤ x24_1423 ∧ x24_1423 ≤ 29 := nbx24_1423.2.1 (by omega)) | skip
              have fx24_1423 : x24_1423 = M32_1408 k1 x8_1391 := by rw [ex24_1423, h_M40_1414, up2_n (by omega), h_M35_1411, up2_n (by omega)]
              refine ⟨(by first | assumption | exact (by omega)), ?_⟩
              intro x26_1424 ex26_1424 rx26_1424
              unfold qX12_mournerGoes_J145
              refine ⟨by omega, ?_⟩
              refine ⟨by omega, ?_⟩
              refine ⟨(by first | assumption | exact (by omega)), ?_⟩
              intro M23_1425 h_M23_1425
              have hM23_1425 : IM (b) M23_1425 := by rw [h_M23_1425]; exact hM40_1414.up (isN.nu hk1 _) ((bm_n hk1).mpr (by first | assumption | exact ⟨by omega, by omega, by omega, by omega⟩))
              exact hQ _ (hM23_1425.mono (by first | exact Int.le_refl _ | omega))
        · refine ⟨by omega, ?_⟩
          refine ⟨by omega, ?_⟩
          intro x43_1427 ex43_1427 rx43_1427
          have rbx43_1427 : -2147483648 ≤ x43_1427 ∧ x43_1427 ≤ 2147483647 := rx43_1427
          have nbx43_1427 : BN (b) x8_1391 x43_1427 := by rw [ex43_1427]; exact (bm_n hk1).mp (hI.bx _ _)
          first | (have bx43_1427 : -1 ≤ x43_1427 ∧ x43_1427 ≤ 29 := nbx43_1427.1 (by omega)) | (have bx43_1427 : -1 ≤ x43_1427 ∧ x43_1427 ≤ 29 := nbx43_1427.2.1 (by omega)) | skip
          refine ⟨(by first | assumption | exact (by omega)), ?_⟩
          intro x45_1428 px45_1428 nx45_1428
          have bx45_1428 : 0 ≤ x45_1428 ∧ (x43_1427 - x7_1390 = x45_1428 ∨ x43_1427 - x7_1390 = -x45_1428) := by omega
          refine ⟨by omega, ?_⟩
          refine ⟨by omega, ?_⟩
          intro x48_1429 ex48_1429 rx48_1429
          have rbx48_1429 : -2147483648 ≤ x48_1429 ∧ x48_1429 ≤ 2147483647 := rx48_1429
          have nbx48_1429 : BN (b) x3_1310 x48_1429 := by rw [ex48_1429]; exact (bm_n hk1).mp (hI.bx _ _)
          first | (have bx48_1429 : -1 ≤ x48_1429 ∧ x48_1429 ≤ 29 := nbx48_1429.1 (by omega)) | (have bx48_1429 : -1 ≤ x48_1429 ∧ x48_1429 ≤ 29 := nbx48_1429.2.1 (by omega)) | skip
          have cgx48_1429 : x48_1429 = M k1 (M k1 (21 + p2)) := by rw [ex48_1429, ← ex3_1310]
          refine ⟨(by first | assumption | exact (by omega)), ?_⟩
          intro x50_1430 px50_1430 nx50_1430
          have bx50_1430 : 0 ≤ x50_1430 ∧ (x48_1429 - x7_1390 = x50_1430 ∨ x48_1429 - x7_1390 = -x50_1430) := by omega
          refine ⟨(by first | assumption | exact (by omega)), ?_⟩
          refine ⟨(by first | assumption | exact (by omega)), ?_⟩
          refine ⟨fun c => ?_, fun c => ?_⟩
          · unfold qX12_mournerGoes_J105
            refine ⟨(by first | assumption | exact (by omega)), ?_⟩
            refine ⟨fun c => ?_, fun c => ?_⟩
            · exact hQ _ (hI.mono (by first | exact Int.le_refl _ | omega))
            · refine ⟨by omega, ?_⟩
              refine ⟨by omega, ?_⟩
              intro x14_1434 ex14_1434 rx14_1434
              have rbx14_1434 : -2147483648 ≤ x14_1434 ∧ x14_1434 ≤ 2147483647 := rx14_1434
              have nbx14_1434 : BN (b) x3_1310 x14_1434 := by rw [ex14_1434]; exact (bm_n hk1).mp (hI.bx _ _)
              first | (have bx14_1434 : -1 ≤ x14_1434 ∧ x14_1434 ≤ 29 := nbx14_1434.1 (by omega)) | (have bx14_1434 : -1 ≤ x14_1434 ∧ x14_1434 ≤ 29 := nbx14_1434.2.1 (by omega)) | skip
              have cgx14_1434 : x14_1434 = M k1 (M k1 (21 + p2)) := by rw [ex14_1434, ← ex3_1310]
              refine ⟨(by first | assumption | exact (by omega)), ?_⟩
              refine ⟨fun c => ?_, fun c => ?_⟩
              · intro x17_1436 ex17_1436 rx17_1436
                have rbx17_1436 : -2147483648 ≤ x17_1436 ∧ x17_1436 ≤ 2147483647 := rx17_1436
                have nbx17_1436 : BN (b) x3_1310 x17_1436 := by rw [ex17_1436]; exact (bm_n hk1).mp (hI.bx _ _)
                first | (have bx17_1436 : -1 ≤ x17_1436 ∧ x17_1436 ≤ 29 := nbx17_1436.1 (by omega)) | (have bx17_1436 : -1 ≤ x17_1436 ∧ x17_1436 ≤ 29 := nbx17_1436.2.1 (by omega)) | skip
                have cgx17_1436 : x17_1436 = M k1 (M k1 (21 + p2)) := by rw [ex17_1436, ← ex3_1310]
                refine ⟨(by first | assumption | exact (by omega)), ?_⟩
                intro x19_1437 ex19_1437 rx19_1437
                unfold qX12_mournerGoes_J145
                refine ⟨by omega, ?_⟩
                refine ⟨by omega, ?_⟩
                refine ⟨(by first | assumption | exact (by omega)), ?_⟩
                intro M23_1438 h_M23_1438
                have hM23_1438 : IM (b) M23_1438 := by rw [h_M23_1438]; exact hI.up (isN.nu hk1 _) ((bm_n hk1).mpr (by first | assumption | exact ⟨by omega, by omega, by omega, by omega⟩))
                exact hQ _ (hM23_1438.mono (by first | exact Int.le_refl _ | omega))
              · intro x24_1440 ex24_1440 rx24_1440
                have rbx24_1440 : -2147483648 ≤ x24_1440 ∧ x24_1440 ≤ 2147483647 := rx24_1440
                have nbx24_1440 : BN (b) x3_1310 x24_1440 := by rw [ex24_1440]; exact (bm_n hk1).mp (hI.bx _ _)
                first | (have bx24_1440 : -1 ≤ x24_1440 ∧ x24_1440 ≤ 29 := nbx24_1440.1 (by omega)) | (have bx24_1440 : -1 ≤ x24_1440 ∧ x24_1440 ≤ 29 := nbx24_1440.2.1 (by omega)) | skip
                have cgx24_1440 : x24_1440 = M k1 (M k1 (21 + p2)) := by rw [ex24_1440, ← ex3_1310]
                refine ⟨(by first | assumption | exact (by omega)), ?_⟩
                intro x26_1441 ex26_1441 rx26_1441
                unfold qX12_mournerGoes_J145
                refine ⟨by omega, ?_⟩
                refine ⟨by omega, ?_⟩
                refine ⟨(by first | assumption | exact (by omega)), ?_⟩
                intro M23_1442 h_M23_1442
                have hM23_1442 : IM (b) M23_1442 := by rw [h_M23_1442]; exact hI.up (isN.nu hk1 _) ((bm_n hk1).mpr (by first | assumption | exact ⟨by omega, by omega, by omega, by omega⟩))
                exact hQ _ (hM23_1442.mono (by first | exact Int.le_refl _ | omega))
          · unfold qX12_mournerGoes_J75
            refine ⟨by omega, ?_⟩
            refine ⟨by omega, ?_⟩
            refine ⟨(by first | assumption | exact (by omega)), ?_⟩
            intro M32_1444 h_M32_1444
            have hM32_1444 : IM (b) M32_1444 := by rw [h_M32_1444]; exact hI.up (isN.nu hk1 _) ((bm_n hk1).mpr (by first | assumption | exact ⟨by omega, by omega, by omega, by omega⟩))
            intro x33_1445 ex33_1445 rx33_1445
            have bx33_1445 : -2147483648 ≤ x33_1445 ∧ x33_1445 ≤ 2147483647 := rx33_1445
            have fx33_1445 : x33_1445 = M 1 31 := by rw [ex33_1445, h_M32_1444, up2_n (by omega)]
            intro x34_1446 ex34_1446 rx34_1446
            first | (have fx34_1446 : x34_1446 = x33_1445 + 1 := by rw [ex34_1446]; exact w32_id (by omega)) | skip
            intro M35_1447 h_M35_1447
            have hM35_1447 : IM (b) M35_1447 := by rw [h_M35_1447]; exact hM32_1444.up (by omega) (by simp [BM])
            refine ⟨by omega, ?_⟩
            refine ⟨by omega, ?_⟩
            intro x38_1448 ex38_1448 rx38_1448
            have bx38_1448 : -2147483648 ≤ x38_1448 ∧ x38_1448 ≤ 2147483647 := rx38_1448
            have fx38_1448 : x38_1448 = M 17 p2 := by rw [ex38_1448, h_M35_1447, up2_n (by decide), h_M32_1444, up2_n (by omega)]
            intro x39_1449 ex39_1449 rx39_1449
            first | (have fx39_1449 : x39_1449 = x38_1448 + 1 := by rw [ex39_1449]; exact w32_id (by omega)) | skip
            intro M40_1450 h_M40_1450
            have hM40_1450 : IM (b) M40_1450 := by rw [h_M40_1450]; exact hM35_1447.up (by omega) (by simp [BM])
            unfold qX12_mournerGoes_J105
            refine ⟨(by first | assumption | exact (by omega)), ?_⟩
            refine ⟨fun c => ?_, fun c => ?_⟩
            · exact hQ _ (hM40_1450.mono (by first | exact Int.le_refl _ | omega))
            · refine ⟨by omega, ?_⟩
              refine ⟨by omega, ?_⟩
              intro x14_1453 ex14_1453 rx14_1453
              have rbx14_1453 : -2147483648 ≤ x14_1453 ∧ x14_1453 ≤ 2147483647 := rx14_1453
              have nbx14_1453 : BN (b) x8_1391 x14_1453 := by rw [ex14_1453]; exact (bm_n hk1).mp (hM40_1450.bx _ _)
              first | (have bx14_1453 : -1 ≤ x14_1453 ∧ x14_1453 ≤ 29 := nbx14_1453.1 (by omega)) | (have bx14_1453 : -1 ≤ x14_1453 ∧ x14_1453 ≤ 29 := nbx14_1453.2.1 (by omega)) | skip
              have fx14_1453 : x14_1453 = M32_1444 k1 x8_1391 := by rw [ex14_1453, h_M40_1450, up2_n (by omega), h_M35_1447, up2_n (by omega)]
              refine ⟨(by first | assumption | exact (by omega)), ?_⟩
              refine ⟨fun c => ?_, fun c => ?_⟩
              · intro x17_1455 ex17_1455 rx17_1455
                have rbx17_1455 : -2147483648 ≤ x17_1455 ∧ x17_1455 ≤ 2147483647 := rx17_1455
                have nbx17_1455 : BN (b) x8_1391 x17_1455 := by rw [ex17_1455]; exact (bm_n hk1).mp (hM40_1450.bx _ _)
                first | (have bx17_1455 : -1 ≤ x17_1455 ∧ x17_1455 ≤ 29 := nbx17_1455.1 (by omega)) | (have bx17_1455 : -1 ≤ x17_1455 ∧ x17_1455 ≤ 29 := nbx17_1455.2.1 (by omega)) | skip
                have fx17_1455 : x17_1455 = M32_1444 k1 x8_1391 := by rw [ex17_1455, h_M40_1450, up2_n (by omega), h_M35_1447, up2_n (by omega)]
                refine ⟨(by first | assumption | exact (by omega)), ?_⟩
                intro x19_1456 ex19_1456 rx19_1456
                unfold qX12_mournerGoes_J145
                refine ⟨by omega, ?_⟩
                refine ⟨by omega, ?_⟩
                refine ⟨(by first | assumption | exact (by omega)), ?_⟩
                intro M23_1457 h_M23_1457
                have hM23_1457 : IM (b) M23_1457 := by rw [h_M23_1457]; exact hM40_1450.up (isN.nu hk1 _) ((bm_n hk1).mpr (by first | assumption | exact ⟨by omega, by omega, by omega, by omega⟩))
                exact hQ _ (hM23_1457.mono (by first | exact Int.le_refl _ | omega))
              · intro x24_1459 ex24_1459 rx24_1459
                have rbx24_1459 : -2147483648 ≤ x24_1459 ∧ x24_1459 ≤ 2147483647 := rx24_1459
                have nbx24_1459 : BN (b) x8_1391 x24_1459 := by rw [ex24_1459]; exact (bm_n hk1).mp (hM40_1450.bx _ _)
                first | (have bx24_1459 : -1 ≤ x24_1459 ∧ x24_1459 ≤ 29 := nbx24_1459.1 (by omega)) | (have bx24_1459 : -1 ≤ x24_1459 ∧ x24_1459 ≤ 29 := nbx24_1459.2.1 (by omega)) | skip
                have fx24_1459 : x24_1459 = M32_1444 k1 x8_1391 := by rw [ex24_1459, h_M40_1450, up2_n (by omega), h_M35_1447, up2_n (by omega)]
                refine ⟨(by first | assumption | exact (by omega)), ?_⟩
                intro x26_1460 ex26_1460 rx26_1460
                unfold qX12_mournerGoes_J145
                refine ⟨by omega, ?_⟩
                refine ⟨by omega, ?_⟩
                refine ⟨(by first | assumption | exact (by omega)), ?_⟩
                intro M23_1461 h_M23_1461
                have hM23_1461 : IM (b) M23_1461 := by rw [h_M23_1461]; exact hM40_1450.up (isN.nu hk1 _) ((bm_n hk1).mpr (by first | assumption | exact ⟨by omega, by omega, by omega, by omega⟩))
                exact hQ _ (hM23_1461.mono (by first | exact Int.le_refl _ | omega))
    · refine ⟨by omega, ?_⟩
      refine ⟨by omega, ?_⟩
      intro M58_1463 h_M58_1463
      have hM58_1463 : IM (b) M58_1463 := by rw [h_M58_1463]; exact hI.up (isN.nu hk1 _) ((bm_n hk1).mpr (by first | assumption | exact ⟨by omega, by omega, by omega, by omega⟩))
      exact hQ _ (hM58_1463.mono (by first | exact Int.le_refl _ | omega))
theorem sX12_stepGoes_L34 {k1 : Nat} {X62 : Mem → Prop} {Q : Mem → Prop} {b : Int} (hb : b + 1 ≤ 2000000000) (hk1 : isN k1) (hQ : ∀ M' : Mem, IM (b + 1) M' → Q M') (hX62 : ∀ M' : Mem, IM (b) M' → X62 M') : ∀ (n : Nat) (v2 : Int) (M : Mem), IM (b) M → (0 ≤ v2 ∧ v2 ≤ 8) → 8 - v2 < (n : Int) → qX12_stepGoes_L34 k1 X62 Q n v2 M := by
  intro n
  induction n with
  | zero => intro v2 M hI hv hm; exact absurd hm (by omega)
  | succ n ih =>
    intro v2 M hI hv hm
    rw [qX12_stepGoes_L34]
    have hbn := hI.nn
    have ek1 : k1 = 5 ∨ k1 = 6 := hk1
    intro x10_1464 ex10_1464 rx10_1464
    have bx10_1464 : 0 ≤ x10_1464 ∧ x10_1464 ≤ 8 := by rw [ex10_1464]; exact bm_c1_5.mp (hI.bx _ _)
    refine ⟨(by first | assumption | exact (by omega)), ?_⟩
    refine ⟨fun c => ?_, fun c => ?_⟩
    · exact hX62 _ (hI.mono (by first | exact Int.le_refl _ | omega))
    · refine sX12_isEnded (p1 := v2) hI hk1 (by omega) ?_
      intro x13_1467 q1468 q1469
      refine ⟨fun c => ?_, fun c => ?_⟩
      · exact ih _ _ (hI.mono (by first | exact Int.le_refl _ | omega)) (by omega) (by omega)
      · refine sX12_mournerGoes (p2 := v2) hI hk1 (by omega) ?_
        intro M15_1472 hM15_1472
        exact ih _ _ (hM15_1472.mono (by first | exact Int.le_refl _ | omega)) (by omega) (by omega)
theorem sX12_stepGoes_L7 {k1 : Nat} {X32 : Mem → Prop} {Q : Mem → Prop} {b : Int} (hk1 : isN k1) (hX : ∀ M' : Mem, IM b M' → X32 M') : ∀ (n : Nat) (v2 : Int) (M : Mem), IM b M → (0 ≤ v2 ∧ v2 ≤ 6) → (∀ i, v2 ≤ i → i < M 1 35 → 0 ≤ M k1 (M 18 i)) → (∀ i j, 0 ≤ i → i < j → j < M 1 35 → M 18 i ≠ M 18 j) → 6 - v2 < (n : Int) → qX12_stepGoes_L7 k1 X32 Q n v2 M := by
  intro n
  induction n with
  | zero => intro v2 M hI hv h2 h3 hm; exact absurd hm (by omega)
  | succ n ih =>
    intro v2 M hI hv h2 h3 hm
    have hk5 : k1 = 5 ∨ k1 = 6 := hk1
    rw [qX12_stepGoes_L7]
    intro x2 e2 _
    have b2 : 0 ≤ x2 ∧ x2 ≤ 6 := by rw [e2]; exact bm_c1_35.mp (hI.bx _ _)
    refine ⟨(by omega), ⟨fun c => hX _ hI, fun c => ?_⟩⟩
    refine ⟨by omega, by omega, ?_⟩
    intro x7 e7 _
    have b7 : 0 ≤ x7 ∧ x7 ≤ 5 := by rw [e7]; exact bm_c18.mp (hI.bx _ _)
    have ho := h2 v2 (by omega) (by omega)
    rw [← e7] at ho
    refine sX12_hearseGoes (p2 := x7) hI hk1 ⟨by omega, by omega, ho⟩ ?_
    intro M8 h8 g8
    have g1 : M8 1 35 = M 1 35 := g8 1 35 (by omega)
    have g2 : ∀ i, M8 18 i = M 18 i := fun i => g8 18 i (by omega)
    refine ih _ _ h8 (by omega) ?_ ?_ (by omega)
    · intro i a q
      rw [g1] at q
      have hb := bm_c18.mp (hI.bx 18 i)
      have hd := h3 v2 i (by omega) (by omega) q
      rw [g2, g8 k1 (M 18 i) (by omega)]
      exact h2 i (by omega) q
    · intro i j a q r
      rw [g1] at r
      rw [g2, g2]
      exact h3 i j a q r
theorem sX12_stepGoes {k1 : Nat} {b : Int} {M : Mem} {Q : Mem → Prop} (hI : IM b M) (hb : b + 1 ≤ 2000000000) (hk1 : isN k1) (hQ : ∀ M' : Mem, IM (b + 1) M' → Q M') : qX12_stepGoes k1 M Q := by
  have hk5 : k1 = 5 ∨ k1 = 6 := hk1
  unfold qX12_stepGoes
  refine sX12_laysLineF hI hk1 ?_
  intro M1 h1 l1
  refine ⟨7, sX12_stepGoes_L7 (b := b) hk1 ?_ _ _ _ h1 (by omega) l1.1 l1.2 (by omega)⟩
  intro M2 h2
  refine ⟨9, sX12_stepGoes_L34 (b := b) hb hk1 hQ ?_ _ _ _ h2 (by omega) (by omega)⟩
  intro M3 h3 x17 e17 _
  have b17 : 0 ≤ x17 ∧ x17 ≤ b := by rw [e17]; exact ((bm_n hk1).mp (h3.bx _ _)).2.2.2 rfl
  refine ⟨(by omega), ?_⟩
  intro M19 h19
  refine hQ _ ?_
  rw [h19]
  exact (h3.mono (by first | exact Int.le_refl _ | omega)).up (isN.nu hk1 _) ((bm_n hk1).mpr ⟨by omega, by omega, by omega, by omega⟩)
theorem sX12_goesOn_L12 {k1 : Nat} {p2 : Int} {X31 : Mem → Prop} {Q : Mem → Prop} {b : Int} (hb : b + 200 ≤ 2000000000) (hk1 : isN k1) (hp : p2 ≤ 200) (hQ : ∀ M' : Mem, IM (b + 200) M' → Q M') (hX31 : ∀ M' : Mem, IM (b) M' → X31 M') : ∀ (n : Nat) (v3 : Int) (M : Mem), IM (b) M → (0 ≤ v3 ∧ v3 ≤ 30) → 30 - v3 < (n : Int) → qX12_goesOn_L12 k1 p2 X31 Q n v3 M := by
  intro n
  induction n with
  | zero => intro v3 M hI hv hm; exact absurd hm (by omega)
  | succ n ih =>
    intro v3 M hI hv hm
    rw [qX12_goesOn_L12]
    have hbn := hI.nn
    have ek1 : k1 = 5 ∨ k1 = 6 := hk1
    refine ⟨(by first | assumption | exact (by omega)), ?_⟩
    refine ⟨fun c => ?_, fun c => ?_⟩
    · exact hX31 _ (hI.mono (by first | exact Int.le_refl _ | omega))
    · refine ⟨by omega, ?_⟩
      refine ⟨by omega, ?_⟩
      intro M7_1475 h_M7_1475
      have hM7_1475 : IM (b) M7_1475 := by rw [h_M7_1475]; exact hI.up (by omega) (by simp [BM])
      exact ih _ _ (hM7_1475.mono (by first | exact Int.le_refl _ | omega)) (by omega) (by omega)
theorem sX12_goesOn_L33 {k1 : Nat} {p2 : Int} {X52 : Mem → Prop} {Q : Mem → Prop} {b : Int} (hb : b + 200 ≤ 2000000000) (hk1 : isN k1) (hp : p2 ≤ 200) (hQ : ∀ M' : Mem, IM (b + 200) M' → Q M') (hX52 : ∀ M' : Mem, IM (b) M' → X52 M') : ∀ (n : Nat) (v3 : Int) (M : Mem), IM (b) M → (0 ≤ v3 ∧ v3 ≤ 8) → 8 - v3 < (n : Int) → qX12_goesOn_L33 k1 p2 X52 Q n v3 M := by
  intro n
  induction n with
  | zero => intro v3 M hI hv hm; exact absurd hm (by omega)
  | succ n ih =>
    intro v3 M hI hv hm
    rw [qX12_goesOn_L33]
    have hbn := hI.nn
    have ek1 : k1 = 5 ∨ k1 = 6 := hk1
    refine ⟨(by first | assumption | exact (by omega)), ?_⟩
    refine ⟨fun c => ?_, fun c => ?_⟩
    · exact hX52 _ (hI.mono (by first | exact Int.le_refl _ | omega))
    · refine ⟨by omega, ?_⟩
      refine ⟨by omega, ?_⟩
      intro M13_1478 h_M13_1478
      have hM13_1478 : IM (b) M13_1478 := by rw [h_M13_1478]; exact hI.up (by omega) (by simp [BM])
      exact ih _ _ (hM13_1478.mono (by first | exact Int.le_refl _ | omega)) (by omega) (by omega)
theorem sX12_goesOn_L54 {k1 : Nat} {p2 : Int}  {Q : Mem → Prop} {b : Int} (hb : b + 200 ≤ 2000000000) (hk1 : isN k1) (hp : p2 ≤ 200) (hQ : ∀ M' : Mem, IM (b + 200) M' → Q M') : ∀ (n : Nat) (v3 : Int) (M : Mem), IM (b + v3) M → (0 ≤ v3 ∧ v3 ≤ 200) → 200 - v3 < (n : Int) → qX12_goesOn_L54 k1 p2 Q n v3 M := by
  intro n
  induction n with
  | zero => intro v3 M hI hv hm; exact absurd hm (by omega)
  | succ n ih =>
    intro v3 M hI hv hm
    rw [qX12_goesOn_L54]
    have hbn := hI.nn
    have ek1 : k1 = 5 ∨ k1 = 6 := hk1
    refine ⟨(by first | assumption | exact (by omega)), ?_⟩
    refine ⟨fun c => ?_, fun c => ?_⟩
    · exact hQ _ (hI.mono (by first | exact Int.le_refl _ | omega))
    · refine sX12_stepGoes  hI (by omega) hk1 ?_
      intro M17_1481 hM17_1481
      exact ih _ _ (hM17_1481.mono (by first | exact Int.le_refl _ | omega)) (by omega) (by omega)
theorem sX12_goesOn {k1 : Nat} {p2 : Int} {b : Int} {M : Mem} {Q : Mem → Prop} (hI : IM b M) (hb : b + 200 ≤ 2000000000) (hk1 : isN k1) (hp : p2 ≤ 200) (hQ : ∀ M' : Mem, IM (b + 200) M' → Q M') : qX12_goesOn k1 p2 M Q := by
  unfold qX12_goesOn
  have hbn := hI.nn
  have ek1 : k1 = 5 ∨ k1 = 6 := hk1
  intro M1_1482 h_M1_1482
  have hM1_1482 : IM (b) M1_1482 := by rw [h_M1_1482]; exact hI.up (by omega) (by simp [BM])
  intro M2_1483 h_M2_1483
  have hM2_1483 : IM (b) M2_1483 := by rw [h_M2_1483]; exact hM1_1482.up (by omega) (by simp [BM])
  refine ⟨31, ?_⟩
  refine sX12_goesOn_L12 (b := b) (p2 := p2) hb hk1 hp ?_ ?_ _ _ _ (hM2_1483.mono (by first | exact Int.le_refl _ | omega)) (by omega) (by omega)
  · exact hQ
  · intro M_1484 hM_1484
    refine ⟨9, ?_⟩
    refine sX12_goesOn_L33 (b := b) (p2 := p2) hb hk1 hp ?_ ?_ _ _ _ (hM_1484.mono (by first | exact Int.le_refl _ | omega)) (by omega) (by omega)
    · exact hQ
    · intro M_1485 hM_1485
      refine ⟨201, ?_⟩
      refine sX12_goesOn_L54 (b := b) (p2 := p2) hb hk1 hp ?_ _ _ _ (hM_1485.mono (by first | exact Int.le_refl _ | omega)) (by omega) (by omega)
      · exact hQ
theorem sX12_turnsOne {k1 : Nat} {p2 : Int} {b : Int} {M : Mem} {Q : Int → Mem → Prop} (hI : IM b M) (hk1 : isN k1) (hQ : ∀ z : Int, ∀ M' : Mem, IM b M' → Q z M') : qX12_turnsOne k1 p2 M Q := by
  unfold qX12_turnsOne
  have hbn := hI.nn
  have ek1 : k1 = 5 ∨ k1 = 6 := hk1
  refine sX12_isMourner (p1 := p2) hI  ?_
  intro x1_1524 p1525 q1526 q1527
  refine ⟨fun c => ?_, fun c => ?_⟩
  · refine sX12_isEnded (p1 := p2) hI hk1 (by omega) ?_
    intro x3_1529 q1530 q1531
    refine ⟨fun c => ?_, fun c => ?_⟩
    · refine ⟨by omega, ?_⟩
      refine ⟨by omega, ?_⟩
      intro x7_1533 ex7_1533 rx7_1533
      have rbx7_1533 : -2147483648 ≤ x7_1533 ∧ x7_1533 ≤ 2147483647 := rx7_1533
      first | (have bx7_1533 : -1 ≤ x7_1533 ∧ x7_1533 ≤ 5 := by rw [ex7_1533]; exact ((bm_n hk1).mp (hI.bx _ _)).2.2.1 (by omega)) | skip
      refine ⟨by omega, ?_⟩
      refine ⟨by omega, ?_⟩
      intro x10_1534 ex10_1534 rx10_1534
      have bx10_1534 : 0 ≤ x10_1534 ∧ x10_1534 ≤ 5 := by rw [ex10_1534]; exact bm_c3.mp (hI.bx _ _)
      refine sX12_isOn (p1 := x10_1534) hI hk1 (by omega) ?_
      intro x11_1535 p1536 q1537 q1538
      refine ⟨fun c => ?_, fun c => ?_⟩
      · exact hQ _ _ (hI.mono (by first | exact Int.le_refl _ | omega))
      · intro x13_1541 ex13_1541 rx13_1541
        have bx13_1541 : 0 ≤ x13_1541 ∧ x13_1541 ≤ 5 := by rw [ex13_1541]; exact bm_c3.mp (hI.bx _ _)
        refine ⟨fun c => ?_, fun c => ?_⟩
        · intro x15_1543 ex15_1543 rx15_1543
          have bx15_1543 : 0 ≤ x15_1543 ∧ x15_1543 ≤ 5 := by rw [ex15_1543]; exact bm_c3.mp (hI.bx _ _)
          intro M16_1544 h_M16_1544
          have hM16_1544 : IM (b) M16_1544 := by rw [h_M16_1544]; exact hI.up (isN.nu hk1 _) ((bm_n hk1).mpr (by first | assumption | exact ⟨by omega, by omega, by omega, by omega⟩))
          refine ⟨fun c => ?_, fun c => ?_⟩
          · exact hQ _ _ (hM16_1544.mono (by first | exact Int.le_refl _ | omega))
          · exact hQ _ _ (hM16_1544.mono (by first | exact Int.le_refl _ | omega))
        · exact hQ _ _ (hI.mono (by first | exact Int.le_refl _ | omega))
    · exact hQ _ _ (hI.mono (by first | exact Int.le_refl _ | omega))
  · exact hQ _ _ (hI.mono (by first | exact Int.le_refl _ | omega))
end
section
theorem sX12_copies_L2   {Q : Mem → Prop} {b : Int} (hQ : ∀ M' : Mem, IM b M' → Q M') : ∀ (n : Nat) (v1 : Int) (M : Mem), IM (b) M → (0 ≤ v1 ∧ v1 ≤ 38) → 38 - v1 < (n : Int) → qX12_copies_L2 Q n v1 M := by
  intro n
  induction n with
  | zero => intro v1 M hI hv hm; exact absurd hm (by omega)
  | succ n ih =>
    intro v1 M hI hv hm
    rw [qX12_copies_L2]
    have hbn := hI.nn
    refine ⟨(by first | assumption | exact (by omega)), ?_⟩
    refine ⟨fun c => ?_, fun c => ?_⟩
    · exact hQ _ (hI.mono (by first | exact Int.le_refl _ | omega))
    · refine ⟨by omega, ?_⟩
      refine ⟨by omega, ?_⟩
      intro x5_1707 ex5_1707 rx5_1707
      have rbx5_1707 : -2147483648 ≤ x5_1707 ∧ x5_1707 ≤ 2147483647 := rx5_1707
      have nbx5_1707 : BN (b) v1 x5_1707 := by rw [ex5_1707]; exact (bm_n (Or.inl rfl)).mp (hI.bx _ _)
      first | (have bx5_1707 : -1 ≤ x5_1707 ∧ x5_1707 ≤ 29 := nbx5_1707.1 (by omega)) | (have bx5_1707 : -1 ≤ x5_1707 ∧ x5_1707 ≤ 29 := nbx5_1707.2.1 (by omega)) | skip
      intro M6_1708 h_M6_1708
      have hM6_1708 : IM (b) M6_1708 := by rw [h_M6_1708]; exact hI.up (isN.nu (Or.inr rfl) _) ((bm_n (Or.inr rfl)).mpr (by first | assumption | exact ⟨by omega, by omega, by omega, by omega⟩))
      exact ih _ _ (hM6_1708.mono (by first | exact Int.le_refl _ | omega)) (by omega) (by omega)
theorem sX12_copies  {b : Int} {M : Mem} {Q : Mem → Prop} (hI : IM b M) (hQ : ∀ M' : Mem, IM b M' → Q M') : qX12_copies M Q := by
  unfold qX12_copies
  have hbn := hI.nn
  refine ⟨39, ?_⟩
  refine sX12_copies_L2 (b := b)  ?_ _ _ _ (hI.mono (by first | exact Int.le_refl _ | omega)) (by omega) (by omega)
  · exact hQ
theorem sX12_jam_L36 {p1 : Int} {X71 : Int → Mem → Prop} {Q : Int → Mem → Prop} {b : Int} (hb : b + 200 ≤ 2000000000) (hQ : ∀ z : Int, ∀ M' : Mem, IM (b + 200) M' → Q z M') (hX71 : ∀ w1 : Int, ∀ M' : Mem, IM (b + 200) M' → (0 ≤ w1 ∧ w1 ≤ 29) → X71 w1 M') : ∀ (n : Nat) (v2 v3 : Int) (M : Mem), IM (b + 200) M → (0 ≤ v2 ∧ v2 ≤ 29 ∧ 0 ≤ v3 ∧ v3 ≤ 30) → 30 - v3 < (n : Int) → qX12_jam_L36 p1 X71 Q n v2 v3 M := by
  intro n
  induction n with
  | zero => intro v2 v3 M hI hv hm; exact absurd hm (by omega)
  | succ n ih =>
    intro v2 v3 M hI hv hm
    rw [qX12_jam_L36]
    have hbn := hI.nn
    intro x6_1757 ex6_1757 rx6_1757
    have bx6_1757 : 4 ≤ x6_1757 ∧ x6_1757 ≤ 30 := by rw [ex6_1757]; exact bm_c1_3.mp (hI.bx _ _)
    refine ⟨(by first | assumption | exact (by omega)), ?_⟩
    refine ⟨fun c => ?_, fun c => ?_⟩
    · exact hX71 _ _ (hI.mono (by first | exact Int.le_refl _ | omega)) (by omega)
    · refine ⟨by omega, ?_⟩
      refine ⟨by omega, ?_⟩
      intro x11_1760 ex11_1760 rx11_1760
      have bx11_1760 : -2147483648 ≤ x11_1760 ∧ x11_1760 ≤ 2147483647 := rx11_1760
      refine ⟨by omega, ?_⟩
      refine ⟨by omega, ?_⟩
      intro x14_1761 ex14_1761 rx14_1761
      have bx14_1761 : -2147483648 ≤ x14_1761 ∧ x14_1761 ≤ 2147483647 := rx14_1761
      refine ⟨fun c => ?_, fun c => ?_⟩
      · exact ih _ _ _ (hI.mono (by first | exact Int.le_refl _ | omega)) (by omega) (by omega)
      · exact ih _ _ _ (hI.mono (by first | exact Int.le_refl _ | omega)) (by omega) (by omega)
theorem sX12_jam {p1 : Int} {b : Int} {M : Mem} {Q : Int → Mem → Prop} (hI : IM b M) (hb : b + 200 ≤ 2000000000) (hQ : ∀ z : Int, ∀ M' : Mem, IM (b + 200) M' → Q z M') : qX12_jam p1 M Q := by
  unfold qX12_jam
  have hbn := hI.nn
  intro M1_1764 h_M1_1764
  have hM1_1764 : IM (b) M1_1764 := by rw [h_M1_1764]; exact hI.up (by omega) (by simp [BM])
  refine sX12_in (p0 := p1) (p2 := 1) (p4 := 60) hM1_1764  ?_
  intro x2_1765 p1766 q1767 q1768
  refine ⟨fun c => ?_, fun c => ?_⟩
  · refine sX12_copies  hM1_1764  ?_
    intro M4_1770 hM4_1770
    refine sX12_goesOn (p2 := p1) hM4_1770 (by omega) (Or.inr rfl) (by omega) ?_
    intro M5_1771 hM5_1771
    refine ⟨31, ?_⟩
    refine sX12_jam_L36 (b := b) (p1 := p1) hb ?_ ?_ _ _ _ _ (hM5_1771.mono (by first | exact Int.le_refl _ | omega)) (by omega) (by omega)
    · exact hQ
    · intro v2_1772 M_1773 hM_1773 p1774
      intro M17_1775 h_M17_1775
      have hM17_1775 : IM (b + 200) M17_1775 := by rw [h_M17_1775]; exact hM_1773.up (by omega) (bm_c1_1.mpr (by omega))
      refine ⟨by omega, ?_⟩
      refine ⟨by omega, ?_⟩
      intro x20_1776 ex20_1776 rx20_1776
      have bx20_1776 : -2147483648 ≤ x20_1776 ∧ x20_1776 ≤ 2147483647 := rx20_1776
      have fx20_1776 : x20_1776 = M_1773 16 v2_1772 := by rw [ex20_1776, h_M17_1775, up2_n (by decide)]
      have u1777 : 0 ≤ M17_1775 1 1 ∧ M17_1775 1 1 ≤ 24 := bm_c1_1.mp (hM17_1775.bx _ _)
      have t1778 : M17_1775 1 1 = 0 := by rw [h_M17_1775, up2_s]
      refine sX12_enters (p1 := x20_1776) hM17_1775 (by omega) ?_
      intro M21_1779 hM21_1779 p1780
      intro x22_1781 ex22_1781 rx22_1781
      have bx22_1781 : -2147483648 ≤ x22_1781 ∧ x22_1781 ≤ 2147483647 := rx22_1781
      have u1782 : 0 ≤ M21_1779 1 1 ∧ M21_1779 1 1 ≤ 24 := bm_c1_1.mp (hM21_1779.bx _ _)
      refine sX12_enters (p1 := x22_1781) hM21_1779 (by omega) ?_
      intro M23_1783 hM23_1783 p1784
      refine ⟨(by first | assumption | exact (by omega)), ?_⟩
      exact hQ _ _ (hM23_1783.mono (by first | exact Int.le_refl _ | omega))
  · exact hQ _ _ (hM1_1764.mono (by first | exact Int.le_refl _ | omega))
theorem sX12_endedBy_L5 {k1 : Nat} {p2 : Int}  {Q : Int → Mem → Prop} {b : Int} {M0 : Mem} (hk1 : isN k1) (hQ : ∀ z : Int, Q z M0) : ∀ (n : Nat) (v3 v4 : Int), IM (b) M0 → (0 ≤ v4 ∧ v4 ≤ 8) → iR v3 → 8 - v4 < (n : Int) → qX12_endedBy_L5 k1 p2 Q n v3 v4 M0 := by
  intro n
  induction n with
  | zero => intro v3 v4 hI hv hrv3 hm; exact absurd hm (by omega)
  | succ n ih =>
    intro v3 v4 hI hv hrv3 hm
    rw [qX12_endedBy_L5]
    have hbn := hI.nn
    have ek1 : k1 = 5 ∨ k1 = 6 := hk1
    intro x1_1892 ex1_1892 rx1_1892
    have bx1_1892 : 0 ≤ x1_1892 ∧ x1_1892 ≤ 8 := by rw [ex1_1892]; exact bm_c1_5.mp (hI.bx _ _)
    refine ⟨(by first | assumption | exact (by omega)), ?_⟩
    refine ⟨fun c => ?_, fun c => ?_⟩
    · refine ⟨(by first | assumption | exact (by omega)), ?_⟩
      exact hQ _
    · refine sX12_isEnded (p1 := v4) hI hk1 (by omega) ?_
      intro x5_1895 q1896 q1897
      refine ⟨fun c => ?_, fun c => ?_⟩
      · intro x7_1899 ex7_1899 rx7_1899
        first | (have fx7_1899 := oI_64 (a := v3) (b := 0) (by omega) (by omega); rw [← ex7_1899] at fx7_1899) | skip
        exact ih _ _ (hI.mono (by first | exact Int.le_refl _ | omega)) (by omega) (by first | assumption | exact (by omega)) (by omega)
      · refine ⟨by omega, ?_⟩
        refine ⟨by omega, ?_⟩
        intro x10_1901 ex10_1901 rx10_1901
        have bx10_1901 : -2147483648 ≤ x10_1901 ∧ x10_1901 ≤ 2147483647 := rx10_1901
        refine ⟨by omega, ?_⟩
        refine ⟨by omega, ?_⟩
        intro x13_1902 ex13_1902 rx13_1902
        have bx13_1902 : 0 ≤ x13_1902 ∧ x13_1902 ≤ 5 := by rw [ex13_1902]; exact bm_c3.mp (hI.bx _ _)
        refine ⟨fun c => ?_, fun c => ?_⟩
        · unfold qX12_endedBy_J46
          refine ⟨(by first | assumption | exact (by omega)), ?_⟩
          refine ⟨fun c => ?_, fun c => ?_⟩
          · intro x17_1905 ex17_1905 rx17_1905
            first | (have fx17_1905 := oI_64 (a := v3) (b := 0) (by omega) (by omega); rw [← ex17_1905] at fx17_1905) | skip
            exact ih _ _ (hI.mono (by first | exact Int.le_refl _ | omega)) (by omega) (by first | assumption | exact (by omega)) (by omega)
          · intro x18_1907 ex18_1907 rx18_1907
            first | (have fx18_1907 := slI_1 (b := v4) (by omega); rw [← ex18_1907] at fx18_1907) | skip
            intro x19_1908 ex19_1908 rx19_1908
            first | (have fx19_1908 := oI_64 (a := v3) (b := x18_1907) (by omega) (by omega); rw [← ex19_1908] at fx19_1908) | skip
            exact ih _ _ (hI.mono (by first | exact Int.le_refl _ | omega)) (by omega) (by first | assumption | exact (by omega)) (by omega)
        · unfold qX12_endedBy_J46
          refine ⟨(by first | assumption | exact (by omega)), ?_⟩
          refine ⟨fun c => ?_, fun c => ?_⟩
          · intro x17_1911 ex17_1911 rx17_1911
            first | (have fx17_1911 := oI_64 (a := v3) (b := 0) (by omega) (by omega); rw [← ex17_1911] at fx17_1911) | skip
            exact ih _ _ (hI.mono (by first | exact Int.le_refl _ | omega)) (by omega) (by first | assumption | exact (by omega)) (by omega)
          · intro x18_1913 ex18_1913 rx18_1913
            first | (have fx18_1913 := slI_1 (b := v4) (by omega); rw [← ex18_1913] at fx18_1913) | skip
            intro x19_1914 ex19_1914 rx19_1914
            first | (have fx19_1914 := oI_64 (a := v3) (b := x18_1913) (by omega) (by omega); rw [← ex19_1914] at fx19_1914) | skip
            exact ih _ _ (hI.mono (by first | exact Int.le_refl _ | omega)) (by omega) (by first | assumption | exact (by omega)) (by omega)
end
