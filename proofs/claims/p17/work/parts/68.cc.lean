theorem sX10_advance_L64 {k1 : Nat} {k2 : Nat}  {Q : Mem → Prop} (hk1 : isS k1) (hk2 : isL k2) (hQ : ∀ M' : Mem, IX M' → Q M') : ∀ (n : Nat) (v4 : Int) (M : Mem), IX M → (0 ≤ v4 ∧ v4 ≤ 8) → 8 - v4 < (n : Int) → qX10_advance_L64 k1 k2 Q n v4 M := by
  intro n
  induction n with
  | zero => intro v4 M hI hv hm; exact absurd hm (by omega)
  | succ n ih =>
    intro v4 M hI hv hm
    rw [qX10_advance_L64]
    have ek1 : 0 < k1 ∧ k1 < 155 ∧ (k1 - 1) % 7 = 0 := hk1
    have ek2 : k2 = 187 ∨ k2 = 192 := hk2
    intro x13_943 ex13_943 rx13_943
    have bx13_943 : 0 ≤ x13_943 ∧ x13_943 ≤ 8 := by rw [ex13_943]; exact (bx_s0_7 hk1).mp (hI.bx _ _)
    refine ⟨(by first | assumption | exact (by omega)), ?_⟩
    refine ⟨fun c => ?_, fun c => ?_⟩
    · intro x16_945 ex16_945 rx16_945
      have bx16_945 : -2147483648 ≤ x16_945 ∧ x16_945 ≤ 2147483647 := rx16_945
      intro x17_946 ex17_946 rx17_946
      first | (have fx17_946 : x17_946 = x16_945 + 1 := by rw [ex17_946]; exact w32_id (by omega)) | skip
      intro M18_947 h_M18_947
      have hM18_947 : IX M18_947 := by rw [h_M18_947]; exact hI.up (isS.nsp hk1 0 (by decide)) (bx_sf0 hk1 (by decide) (by decide))
      exact hQ _ hM18_947
    · refine sX6_hasEnded (p1 := v4) hI hk1 (by omega) ?_
      intro x19_949 q950 q951
      refine ⟨fun c => ?_, fun c => ?_⟩
      · exact ih _ _ hI (by omega) (by omega)
      · refine sX10_moveMourner (p2 := v4) hI hk1 (by omega) ?_
        intro M21_954 hM21_954
        exact ih _ _ hM21_954 (by omega) (by omega)
theorem sX10_advance {k1 : Nat} {k2 : Nat} {M : Mem} {Q : Mem → Prop} (hI : IX M) (hk1 : isS k1) (hk2 : isL k2) (hQ : ∀ M' : Mem, IX M' → Q M') : qX10_advance k1 k2 M Q := by
  unfold qX10_advance
  have ek1 : 0 < k1 ∧ k1 < 155 ∧ (k1 - 1) % 7 = 0 := hk1
  have ek2 : k2 = 187 ∨ k2 = 192 := hk2
  intro M1_955 h_M1_955
  have hM1_955 : IX M1_955 := by rw [h_M1_955]; exact hI.up (by decide) (by simp [BX])
  intro x2_956 ex2_956 rx2_956
  have bx2_956 : 4 ≤ x2_956 ∧ x2_956 ≤ 30 := by rw [ex2_956]; exact (bx_c158_1).mp (hM1_955.bx _ _)
  have fx2_956 : x2_956 = M 158 1 := by rw [ex2_956, h_M1_955, up2_n (by decide)]
  refine ⟨7, ?_⟩
  refine sX10_advance_L16 hk1 hk2 ?_ ?_ ?_ _ _ _ _ hM1_955 (by omega) (by omega)
  · exact hQ
  · intro M_957 hM_957
    refine ⟨9, ?_⟩
    refine sX10_advance_L64 hk1 hk2 ?_ _ _ _ hM_957 (by omega) (by omega)
    · exact hQ
  · intro M_958 hM_958
    refine ⟨9, ?_⟩
    refine sX10_advance_L64 hk1 hk2 ?_ _ _ _ hM_958 (by omega) (by omega)
    · exact hQ
theorem sX10_forgetTallies_L12  {X31 : Mem → Prop} {Q : Mem → Prop} (hQ : ∀ M' : Mem, IX M' → Q M') (hX31 : ∀ M' : Mem, IX M' → X31 M') : ∀ (n : Nat) (v1 : Int) (M : Mem), IX M → (0 ≤ v1 ∧ v1 ≤ 30) → 30 - v1 < (n : Int) → qX10_forgetTallies_L12 X31 Q n v1 M := by
  intro n
  induction n with
  | zero => intro v1 M hI hv hm; exact absurd hm (by omega)
  | succ n ih =>
    intro v1 M hI hv hm
    rw [qX10_forgetTallies_L12]
    refine ⟨(by first | assumption | exact (by omega)), ?_⟩
    refine ⟨fun c => ?_, fun c => ?_⟩
    · exact hX31 _ hI
    · refine ⟨by omega, ?_⟩
      refine ⟨by omega, ?_⟩
      intro M7_961 h_M7_961
      have hM7_961 : IX M7_961 := by rw [h_M7_961]; exact hI.up (by decide) (by simp [BX])
      exact ih _ _ hM7_961 (by omega) (by omega)
theorem sX10_forgetTallies_L33   {Q : Mem → Prop} (hQ : ∀ M' : Mem, IX M' → Q M') : ∀ (n : Nat) (v1 : Int) (M : Mem), IX M → (0 ≤ v1 ∧ v1 ≤ 8) → 8 - v1 < (n : Int) → qX10_forgetTallies_L33 Q n v1 M := by
  intro n
  induction n with
  | zero => intro v1 M hI hv hm; exact absurd hm (by omega)
  | succ n ih =>
    intro v1 M hI hv hm
    rw [qX10_forgetTallies_L33]
    refine ⟨(by first | assumption | exact (by omega)), ?_⟩
    refine ⟨fun c => ?_, fun c => ?_⟩
    · exact hQ _ hI
    · refine ⟨by omega, ?_⟩
      refine ⟨by omega, ?_⟩
      intro M13_964 h_M13_964
      have hM13_964 : IX M13_964 := by rw [h_M13_964]; exact hI.up (by decide) (by simp [BX])
      exact ih _ _ hM13_964 (by omega) (by omega)
theorem sX10_forgetTallies  {M : Mem} {Q : Mem → Prop} (hI : IX M) (hQ : ∀ M' : Mem, IX M' → Q M') : qX10_forgetTallies M Q := by
  unfold qX10_forgetTallies
  intro M1_965 h_M1_965
  have hM1_965 : IX M1_965 := by rw [h_M1_965]; exact hI.up (by decide) (by simp [BX])
  intro M2_966 h_M2_966
  have hM2_966 : IX M2_966 := by rw [h_M2_966]; exact hM1_965.up (by decide) (by simp [BX])
  refine ⟨31, ?_⟩
  refine sX10_forgetTallies_L12 ?_ ?_ _ _ _ hM2_966 (by omega) (by omega)
  · exact hQ
  · intro M_967 hM_967
    refine ⟨9, ?_⟩
    refine sX10_forgetTallies_L33 ?_ _ _ _ hM_967 (by omega) (by omega)
    · exact hQ
theorem sX10_walk_L7 {k1 : Nat} {k2 : Nat} {p3 : Int}  {Q : Mem → Prop} (hk1 : isS k1) (hk2 : isL k2) (hp : p3 ≤ 200) (hQ : ∀ M' : Mem, IX M' → Q M') : ∀ (n : Nat) (v4 : Int) (M : Mem), IX M → (0 ≤ v4 ∧ v4 ≤ 200) → 200 - v4 < (n : Int) → qX10_walk_L7 k1 k2 p3 Q n v4 M := by
  intro n
  induction n with
  | zero => intro v4 M hI hv hm; exact absurd hm (by omega)
  | succ n ih =>
    intro v4 M hI hv hm
    rw [qX10_walk_L7]
    have ek1 : 0 < k1 ∧ k1 < 155 ∧ (k1 - 1) % 7 = 0 := hk1
    have ek2 : k2 = 187 ∨ k2 = 192 := hk2
    refine ⟨(by first | assumption | exact (by omega)), ?_⟩
    refine ⟨fun c => ?_, fun c => ?_⟩
    · exact hQ _ hI
    · refine sX10_advance  hI hk1 hk2 ?_
      intro M4_970 hM4_970
      exact ih _ _ hM4_970 (by omega) (by omega)
theorem sX10_walk {k1 : Nat} {k2 : Nat} {p3 : Int} {M : Mem} {Q : Mem → Prop} (hI : IX M) (hk1 : isS k1) (hk2 : isL k2) (hp : p3 ≤ 200) (hQ : ∀ M' : Mem, IX M' → Q M') : qX10_walk k1 k2 p3 M Q := by
  unfold qX10_walk
  have ek1 : 0 < k1 ∧ k1 < 155 ∧ (k1 - 1) % 7 = 0 := hk1
  have ek2 : k2 = 187 ∨ k2 = 192 := hk2
  refine sX10_forgetTallies  hI  ?_
  intro M1_971 hM1_971
  refine ⟨201, ?_⟩
  refine sX10_walk_L7 hk1 hk2 hp ?_ _ _ _ hM1_971 (by omega) (by omega)
  · exact hQ
theorem sX11_isDone {p0 : Int} {M : Mem} {Q : Int → Mem → Prop} (hI : IX M) (hQ : ∀ z : Int, Q z M) : qX11_isDone p0 M Q := by
  unfold qX11_isDone
  refine ⟨fun c => ?_, fun c => ?_⟩
  · exact hQ _
  · refine ⟨fun c => ?_, fun c => ?_⟩
    · exact hQ _
    · exact hQ _
theorem sX4_add {p1 : Int} {M : Mem} {Q : Mem → Prop} (hI : IX M) (hQ : ∀ M' : Mem, IX M' → Q M') : qX4_add p1 M Q := by
  unfold qX4_add
  intro x1_994 ex1_994 rx1_994
  have bx1_994 : 0 ≤ x1_994 ∧ x1_994 ≤ 8 := by rw [ex1_994]; exact (bx_c167_1).mp (hI.bx _ _)
  refine ⟨fun c => ?_, fun c => ?_⟩
  · exact hQ _ hI
  · intro x3_997 ex3_997 rx3_997
    have bx3_997 : 0 ≤ x3_997 ∧ x3_997 ≤ 8 := by rw [ex3_997]; exact (bx_c167_1).mp (hI.bx _ _)
    refine ⟨by omega, ?_⟩
    refine ⟨by omega, ?_⟩
    intro M6_998 h_M6_998
    have hM6_998 : IX M6_998 := by rw [h_M6_998]; exact hI.up (by decide) (by simp [BX])
    intro x7_999 ex7_999 rx7_999
    have bx7_999 : 0 ≤ x7_999 ∧ x7_999 ≤ 8 := by rw [ex7_999]; exact (bx_c167_1).mp (hM6_998.bx _ _)
    have fx7_999 : x7_999 = M 167 1 := by rw [ex7_999, h_M6_998, up2_n (by decide)]
    refine ⟨(by first | assumption | exact (by omega)), ?_⟩
    intro M9_1000 h_M9_1000
    have hM9_1000 : IX M9_1000 := by rw [h_M9_1000]; exact hM6_998.up (by decide) ((bx_c167_1).mpr (by omega))
    exact hQ _ hM9_1000
theorem sX4_clear  {M : Mem} {Q : Mem → Prop} (hI : IX M) (hQ : ∀ M' : Mem, IX M' → Q M') : qX4_clear M Q := by
  unfold qX4_clear
  intro M1_1001 h_M1_1001
  have hM1_1001 : IX M1_1001 := by rw [h_M1_1001]; exact hI.up (by decide) ((bx_c167_1).mpr (by omega))
  exact hQ _ hM1_1001
theorem sX4_tellTwo {p1 : Int} {p3 : Int} {M : Mem} {Q : Mem → Prop} (hI : IX M) (hQ : ∀ M' : Mem, IX M' → Q M') : qX4_tellTwo p1 p3 M Q := by
  unfold qX4_tellTwo
  refine sX4_clear  hI  ?_
  intro M1_1002 hM1_1002
  refine sX4_add (p1 := p1) hM1_1002  ?_
  intro M2_1003 hM2_1003
  refine sX4_add (p1 := p3) hM2_1003  ?_
  intro M3_1004 hM3_1004
  exact hQ _ hM3_1004
theorem sX6_isMourner {k0 : Nat} {p1 : Int} {M : Mem} {Q : Int → Mem → Prop} (hI : IX M) (hk0 : isS k0) (hQ : ∀ z : Int, (¬ z = 0 → 0 ≤ p1 ∧ p1 ≤ 7) → Q z M) : qX6_isMourner k0 p1 M Q := by
  unfold qX6_isMourner
  have ek0 : 0 < k0 ∧ k0 < 155 ∧ (k0 - 1) % 7 = 0 := hk0
  refine ⟨fun c => ?_, fun c => ?_⟩
  · exact hQ _ (by omega)
  · intro x2_1020 ex2_1020 rx2_1020
    have bx2_1020 : 0 ≤ x2_1020 ∧ x2_1020 ≤ 8 := by rw [ex2_1020]; exact (bx_s0_7 hk0).mp (hI.bx _ _)
    refine ⟨fun c => ?_, fun c => ?_⟩
    · exact hQ _ (by omega)
    · exact hQ _ (by omega)
theorem sX6_turn {k0 : Nat} {p1 : Int} {M : Mem} {Q : Int → Mem → Prop} (hI : IX M) (hk0 : isS k0) (hQ : ∀ z : Int, ∀ M' : Mem, IX M' → Q z M') : qX6_turn k0 p1 M Q := by
  unfold qX6_turn
  have ek0 : 0 < k0 ∧ k0 < 155 ∧ (k0 - 1) % 7 = 0 := hk0
  refine sX6_isMourner (p1 := p1) hI hk0 ?_
  intro x1_1023 p1024 q1025 q1026
  refine ⟨fun c => ?_, fun c => ?_⟩
  · refine sX6_hasEnded (p1 := p1) hI hk0 (by omega) ?_
    intro x3_1028 q1029 q1030
    refine ⟨fun c => ?_, fun c => ?_⟩
    · refine ⟨by omega, ?_⟩
      refine ⟨by omega, ?_⟩
      intro x7_1032 ex7_1032 rx7_1032
      have bx7_1032 : -1 ≤ x7_1032 ∧ x7_1032 ≤ 5 := by rw [ex7_1032]; exact (bx_s5 hk0).mp (hI.bx _ _)
      intro x8_1033 ex8_1033 rx8_1033
      have bx8_1033 : 0 ≤ x8_1033 ∧ x8_1033 ≤ 5 := by rw [ex8_1033]; exact (bx_s4 hk0).mp (hI.bx _ _)
      refine sX6_hasArrived (p1 := x8_1033) hI hk0 (by omega) ?_
      intro x9_1034 q1035 q1036
      refine ⟨fun c => ?_, fun c => ?_⟩
      · exact hQ _ _ hI
      · intro x11_1039 ex11_1039 rx11_1039
        have bx11_1039 : 0 ≤ x11_1039 ∧ x11_1039 ≤ 5 := by rw [ex11_1039]; exact (bx_s4 hk0).mp (hI.bx _ _)
        refine ⟨fun c => ?_, fun c => ?_⟩
        · intro x13_1041 ex13_1041 rx13_1041
          have bx13_1041 : 0 ≤ x13_1041 ∧ x13_1041 ≤ 5 := by rw [ex13_1041]; exact (bx_s4 hk0).mp (hI.bx _ _)
          intro M14_1042 h_M14_1042
          have hM14_1042 : IX M14_1042 := by rw [h_M14_1042]; exact hI.up (isS.nsp hk0 5 (by decide)) ((bx_s5 hk0).mpr (by omega))
          refine ⟨fun c => ?_, fun c => ?_⟩
          · exact hQ _ _ hM14_1042
          · exact hQ _ _ hM14_1042
        · exact hQ _ _ hI
    · exact hQ _ _ hI
  · exact hQ _ _ hI
theorem sX6_shove {k0 : Nat} {p1 : Int} {p2 : Int} {M : Mem} {Q : Int → Mem → Prop} (hI : IX M) (hk0 : isS k0) (hQ : ∀ z : Int, ∀ M' : Mem, IX M' → Q z M') : qX6_shove k0 p1 p2 M Q := by
  unfold qX6_shove
  have ek0 : 0 < k0 ∧ k0 < 155 ∧ (k0 - 1) % 7 = 0 := hk0
  refine sX6_isMourner (p1 := p1) hI hk0 ?_
  intro x1_1055 p1056 q1057 q1058
  refine ⟨fun c => ?_, fun c => ?_⟩
  · exact hQ _ _ hI
  · refine ⟨fun c => ?_, fun c => ?_⟩
    · exact hQ _ _ hI
    · refine ⟨fun c => ?_, fun c => ?_⟩
      · exact hQ _ _ hI
      · refine ⟨fun c => ?_, fun c => ?_⟩
        · refine sX6_hasEnded (p1 := p1) hI hk0 (by omega) ?_
          intro x6_1066 q1067 q1068
          refine ⟨fun c => ?_, fun c => ?_⟩
          · refine ⟨by omega, ?_⟩
            refine ⟨by omega, ?_⟩
            intro x10_1070 ex10_1070 rx10_1070
            have bx10_1070 : -1 ≤ x10_1070 ∧ x10_1070 ≤ 29 := by rw [ex10_1070]; exact (bx_s3 hk0).mp (hI.bx _ _)
            refine ⟨(by first | assumption | exact (by omega)), ?_⟩
            refine sX8_putOnStreet (p1 := x10_1070 + p2) hI  ?_
            intro x12_1071 p1072 q1073
            intro M13_1074 h_M13_1074
            have hM13_1074 : IX M13_1074 := by rw [h_M13_1074]; exact hI.up (isS.nsp hk0 3 (by decide)) ((bx_s3 hk0).mpr (by omega))
            intro x14_1075 ex14_1075 rx14_1075
            have bx14_1075 : -1 ≤ x14_1075 ∧ x14_1075 ≤ 29 := by rw [ex14_1075]; exact (bx_s3 hk0).mp (hM13_1074.bx _ _)
            have fx14_1075 : x14_1075 = x12_1071 := by rw [ex14_1075, h_M13_1074, up2_s]
            exact hQ _ _ hM13_1074
          · exact hQ _ _ hI
        · exact hQ _ _ hI
theorem sX6_isHearse {k0 : Nat} {p1 : Int} {M : Mem} {Q : Int → Mem → Prop} (hI : IX M) (hk0 : isS k0) (hQ : ∀ z : Int, (¬ z = 0 → 0 ≤ p1 ∧ p1 ≤ 5) → Q z M) : qX6_isHearse k0 p1 M Q := by
  unfold qX6_isHearse
  have ek0 : 0 < k0 ∧ k0 < 155 ∧ (k0 - 1) % 7 = 0 := hk0
  refine ⟨fun c => ?_, fun c => ?_⟩
  · exact hQ _ (by omega)
  · intro x2_1087 ex2_1087 rx2_1087
    have bx2_1087 : 0 ≤ x2_1087 ∧ x2_1087 ≤ 6 := by rw [ex2_1087]; exact (bx_s0_6 hk0).mp (hI.bx _ _)
    refine ⟨fun c => ?_, fun c => ?_⟩
    · exact hQ _ (by omega)
    · exact hQ _ (by omega)
theorem sX11_line_L17   {Q : Int → Mem → Prop} (hQ : ∀ z : Int, ∀ M' : Mem, IX M' → Q z M') : ∀ (n : Nat) (v1 v2 : Int) (M : Mem), IX M → (-1 ≤ v1 ∧ v1 ≤ 30 ∧ 0 ≤ v2 ∧ v2 ≤ 6) → 6 - v2 < (n : Int) → qX11_line_L17 Q n v1 v2 M := by
  intro n
  induction n with
  | zero => intro v1 v2 M hI hv hm; exact absurd hm (by omega)
  | succ n ih =>
    intro v1 v2 M hI hv hm
    rw [qX11_line_L17]
    refine ⟨(by first | assumption | exact (by omega)), ?_⟩
    refine ⟨fun c => ?_, fun c => ?_⟩
    · intro x5_1841 ex5_1841 rx5_1841
      have bx5_1841 : 0 ≤ x5_1841 ∧ x5_1841 ≤ 8 := by rw [ex5_1841]; exact (bx_c167_1).mp (hI.bx _ _)
      exact hQ _ _ hI
    · refine ⟨(by first | assumption | exact (by omega)), ?_⟩
      refine sX6_foremostBelow (p1 := v1) hI (show isS 1 by decide) ?_
      intro x7_1843 p1844 q1845
      refine ⟨fun c => ?_, fun c => ?_⟩
      · refine ⟨by omega, ?_⟩
        refine ⟨by omega, ?_⟩
        intro x11_1847 ex11_1847 rx11_1847
        have bx11_1847 : -1 ≤ x11_1847 ∧ x11_1847 ≤ 29 := by rw [ex11_1847]; exact (bx_s1 (show isS 1 by decide)).mp (hI.bx _ _)
        refine sX4_add (p1 := x7_1843) hI  ?_
        intro M12_1848 hM12_1848
        exact ih _ _ _ hM12_1848 (by omega) (by omega)
      · intro x13_1850 ex13_1850 rx13_1850
        have bx13_1850 : 0 ≤ x13_1850 ∧ x13_1850 ≤ 8 := by rw [ex13_1850]; exact (bx_c167_1).mp (hI.bx _ _)
        exact hQ _ _ hI
theorem sX11_line  {M : Mem} {Q : Int → Mem → Prop} (hI : IX M) (hQ : ∀ z : Int, ∀ M' : Mem, IX M' → Q z M') : qX11_line M Q := by
  unfold qX11_line
  refine sX4_clear  hI  ?_
  intro M1_1851 hM1_1851
  intro x2_1852 ex2_1852 rx2_1852
  have bx2_1852 : 4 ≤ x2_1852 ∧ x2_1852 ≤ 30 := by rw [ex2_1852]; exact (bx_c158_1).mp (hM1_1851.bx _ _)
  refine ⟨7, ?_⟩
  refine sX11_line_L17 ?_ _ _ _ _ hM1_1851 (by omega) (by omega)
  · exact hQ
theorem sX11_ahead_L48 {p1 : Int}  {Q : Int → Mem → Prop} (hQ : ∀ z : Int, ∀ M' : Mem, IX M' → Q z M') : ∀ (n : Nat) (v2 : Int) (M : Mem), IX M → (0 ≤ v2 ∧ v2 ≤ 6) → 6 - v2 < (n : Int) → qX11_ahead_L48 p1 Q n v2 M := by
  intro n
  induction n with
  | zero => intro v2 M hI hv hm; exact absurd hm (by omega)
  | succ n ih =>
    intro v2 M hI hv hm
    rw [qX11_ahead_L48]
    intro x7_1853 ex7_1853 rx7_1853
    have bx7_1853 : 0 ≤ x7_1853 ∧ x7_1853 ≤ 6 := by rw [ex7_1853]; exact (bx_s0_6 (show isS 8 by decide)).mp (hI.bx _ _)
    refine ⟨(by first | assumption | exact (by omega)), ?_⟩
    refine ⟨fun c => ?_, fun c => ?_⟩
    · intro x10_1855 ex10_1855 rx10_1855
      have bx10_1855 : -2147483648 ≤ x10_1855 ∧ x10_1855 ≤ 2147483647 := rx10_1855
      exact hQ _ _ hI
    · refine ⟨by omega, ?_⟩
      refine ⟨by omega, ?_⟩
      intro x13_1857 ex13_1857 rx13_1857
      have bx13_1857 : -1 ≤ x13_1857 ∧ x13_1857 ≤ 29 := by rw [ex13_1857]; exact (bx_s1 (show isS 8 by decide)).mp (hI.bx _ _)
      refine sX4_add (p1 := x13_1857) hI  ?_
      intro M14_1858 hM14_1858
      exact ih _ _ hM14_1858 (by omega) (by omega)
theorem sX11_ahead {p1 : Int} {M : Mem} {Q : Int → Mem → Prop} (hI : IX M) (hQ : ∀ z : Int, ∀ M' : Mem, IX M' → Q z M') : qX11_ahead p1 M Q := by
  unfold qX11_ahead
  refine ⟨fun c => ?_, fun c => ?_⟩
  · exact hQ _ _ hI
  · refine ⟨fun c => ?_, fun c => ?_⟩
    · refine sX6_copyFrom  hI (show isS 8 by decide) (show isS 1 by decide) ?_
      intro M3_1862 hM3_1862 gM3_1862
      refine ⟨(hM3_1862).l16, ?_⟩
      refine sX10_walk (p3 := p1) hM3_1862 (show isS 8 by decide) (hM3_1862).l16 (by omega) ?_
      intro M5_1863 hM5_1863
      refine sX4_clear  hM5_1863  ?_
      intro M6_1864 hM6_1864
      refine ⟨7, ?_⟩
      refine sX11_ahead_L48 ?_ _ _ _ hM6_1864 (by omega) (by omega)
      · exact hQ
    · exact hQ _ _ hI
theorem sX4_tellOne {p1 : Int} {M : Mem} {Q : Mem → Prop} (hI : IX M) (hQ : ∀ M' : Mem, IX M' → Q M') : qX4_tellOne p1 M Q := by
  unfold qX4_tellOne
  refine sX4_clear  hI  ?_
  intro M1_1866 hM1_1866
  refine sX4_add (p1 := p1) hM1_1866  ?_
  intro M2_1867 hM2_1867
  exact hQ _ hM2_1867
theorem sX11_arrives_L26 {p1 : Int} {X65 : Int → Mem → Prop} {Q : Int → Mem → Prop} (hQ : ∀ z : Int, ∀ M' : Mem, IX M' → Q z M') (hX65 : ∀ w1 : Int, ∀ M' : Mem, IX M' → (0 ≤ w1 ∧ w1 ≤ 200 ∧ 0 ≤ p1 ∧ p1 ≤ 5) → X65 w1 M') : ∀ (n : Nat) (v2 : Int) (M : Mem), IX M → (0 ≤ v2 ∧ v2 ≤ 200 ∧ 0 ≤ p1 ∧ p1 ≤ 5) → 200 - v2 < (n : Int) → qX11_arrives_L26 p1 X65 Q n v2 M := by
  intro n
  induction n with
  | zero => intro v2 M hI hv hm; exact absurd hm (by omega)
  | succ n ih =>
    intro v2 M hI hv hm
    rw [qX11_arrives_L26]
    refine ⟨(by first | assumption | exact (by omega)), ?_⟩
    refine ⟨fun c => ?_, fun c => ?_⟩
    · exact hX65 _ _ hI (by omega)
    · refine sX6_hasArrived (p1 := p1) hI (show isS 8 by decide) (by omega) ?_
      intro x6_1870 q1871 q1872
      refine ⟨fun c => ?_, fun c => ?_⟩
      · exact hX65 _ _ hI (by omega)
      · refine ⟨(hI).l16, ?_⟩
        refine sX10_advance  hI (show isS 8 by decide) (hI).l16 ?_
        intro M9_1875 hM9_1875
        exact ih _ _ hM9_1875 (by omega) (by omega)
theorem sX11_arrives {p1 : Int} {M : Mem} {Q : Int → Mem → Prop} (hI : IX M) (hQ : ∀ z : Int, ∀ M' : Mem, IX M' → Q z M') : qX11_arrives p1 M Q := by
  unfold qX11_arrives
  refine sX6_isHearse (p1 := p1) hI (show isS 1 by decide) ?_
  intro x1_1876 p1877 q1878 q1879
  refine ⟨fun c => ?_, fun c => ?_⟩
  · refine sX6_copyFrom  hI (show isS 8 by decide) (show isS 1 by decide) ?_
    intro M3_1881 hM3_1881 gM3_1881
    refine ⟨201, ?_⟩
    refine sX11_arrives_L26 ?_ ?_ _ _ _ hM3_1881 (by omega) (by omega)
    · exact hQ
    · intro v2_1882 M_1883 hM_1883 p1884
      unfold qX11_arrives_J65
      refine sX6_hasArrived (p1 := p1) hM_1883 (show isS 8 by decide) (by omega) ?_
      intro x11_1885 q1886 q1887
      refine ⟨fun c => ?_, fun c => ?_⟩
      · refine ⟨by omega, ?_⟩
        refine ⟨by omega, ?_⟩
        intro x15_1889 ex15_1889 rx15_1889
        have bx15_1889 : -2147483648 ≤ x15_1889 ∧ x15_1889 ≤ 2147483647 := rx15_1889
        refine sX4_tellOne (p1 := x15_1889) hM_1883  ?_
        intro M16_1890 hM16_1890
        refine ⟨(by first | assumption | exact (by omega)), ?_⟩
        exact hQ _ _ hM16_1890
      · exact hQ _ _ hM_1883
  · exact hQ _ _ hI
theorem sX11_jam_L44 {p1 : Int} {X84 : Int → Mem → Prop} {Q : Int → Mem → Prop} (hQ : ∀ z : Int, ∀ M' : Mem, IX M' → Q z M') (hX84 : ∀ w1 : Int, ∀ M' : Mem, IX M' → (0 ≤ w1 ∧ w1 ≤ 29) → X84 w1 M') : ∀ (n : Nat) (v2 v3 : Int) (M : Mem), IX M → (0 ≤ v2 ∧ v2 ≤ 29 ∧ 1 ≤ v3 ∧ v3 ≤ 30) → 30 - v3 < (n : Int) → qX11_jam_L44 p1 X84 Q n v2 v3 M := by
  intro n
  induction n with
  | zero => intro v2 v3 M hI hv hm; exact absurd hm (by omega)
  | succ n ih =>
    intro v2 v3 M hI hv hm
    rw [qX11_jam_L44]
    intro x6_1893 ex6_1893 rx6_1893
    have bx6_1893 : 4 ≤ x6_1893 ∧ x6_1893 ≤ 30 := by rw [ex6_1893]; exact (bx_c158_1).mp (hI.bx _ _)
    refine ⟨(by first | assumption | exact (by omega)), ?_⟩
    refine ⟨fun c => ?_, fun c => ?_⟩
    · exact hX84 _ _ hI (by omega)
    · refine ⟨by omega, ?_⟩
      refine ⟨by omega, ?_⟩
      intro x11_1896 ex11_1896 rx11_1896
      have bx11_1896 : -2147483648 ≤ x11_1896 ∧ x11_1896 ≤ 2147483647 := rx11_1896
      refine ⟨by omega, ?_⟩
      refine ⟨by omega, ?_⟩
      intro x14_1897 ex14_1897 rx14_1897
      have bx14_1897 : -2147483648 ≤ x14_1897 ∧ x14_1897 ≤ 2147483647 := rx14_1897
      refine ⟨fun c => ?_, fun c => ?_⟩
      · exact ih _ _ _ hI (by omega) (by omega)
      · exact ih _ _ _ hI (by omega) (by omega)
theorem sX11_jam {p1 : Int} {M : Mem} {Q : Int → Mem → Prop} (hI : IX M) (hQ : ∀ z : Int, ∀ M' : Mem, IX M' → Q z M') : qX11_jam p1 M Q := by
  unfold qX11_jam
  refine ⟨fun c => ?_, fun c => ?_⟩
  · exact hQ _ _ hI
  · refine ⟨fun c => ?_, fun c => ?_⟩
    · refine sX6_copyFrom  hI (show isS 8 by decide) (show isS 1 by decide) ?_
      intro M3_1903 hM3_1903 gM3_1903
      refine ⟨(hM3_1903).l16, ?_⟩
      refine sX10_walk (p3 := p1) hM3_1903 (show isS 8 by decide) (hM3_1903).l16 (by omega) ?_
      intro M5_1904 hM5_1904
      refine ⟨31, ?_⟩
      refine sX11_jam_L44 ?_ ?_ _ _ _ _ hM5_1904 (by omega) (by omega)
      · exact hQ
      · intro v2_1905 M_1906 hM_1906 p1907
        refine ⟨by omega, ?_⟩
        refine ⟨by omega, ?_⟩
        intro x19_1908 ex19_1908 rx19_1908
        have bx19_1908 : -2147483648 ≤ x19_1908 ∧ x19_1908 ≤ 2147483647 := rx19_1908
        intro x20_1909 ex20_1909 rx20_1909
        have bx20_1909 : -2147483648 ≤ x20_1909 ∧ x20_1909 ≤ 2147483647 := rx20_1909
        refine sX4_tellTwo (p1 := x19_1908) (p3 := x20_1909) hM_1906  ?_
        intro M21_1910 hM21_1910
        refine ⟨(by first | assumption | exact (by omega)), ?_⟩
        exact hQ _ _ hM21_1910
    · exact hQ _ _ hI
theorem sX6_isAheadOf {k0 : Nat} {p1 : Int} {p2 : Int} {M : Mem} {Q : Int → Mem → Prop} (hI : IX M) (hk0 : isS k0) (hp : 0 ≤ p1 ∧ p1 ≤ 5 ∧ 0 ≤ p2 ∧ p2 ≤ 5) (hQ : ∀ z : Int, Q z M) : qX6_isAheadOf k0 p1 p2 M Q := by
  unfold qX6_isAheadOf
  have ek0 : 0 < k0 ∧ k0 < 155 ∧ (k0 - 1) % 7 = 0 := hk0
  refine sX6_hasArrived (p1 := p1) hI hk0 (by omega) ?_
  intro x1_1912 q1913 q1914
  refine ⟨fun c => ?_, fun c => ?_⟩
  · refine sX6_hasArrived (p1 := p2) hI hk0 (by omega) ?_
    intro x3_1916 q1917 q1918
    refine ⟨fun c => ?_, fun c => ?_⟩
    · exact hQ _
    · refine ⟨by omega, ?_⟩
      refine ⟨by omega, ?_⟩
      intro x7_1921 ex7_1921 rx7_1921
      have bx7_1921 : -1 ≤ x7_1921 ∧ x7_1921 ≤ 29 := by rw [ex7_1921]; exact (bx_s1 hk0).mp (hI.bx _ _)
      refine ⟨by omega, ?_⟩
      refine ⟨by omega, ?_⟩
      intro x10_1922 ex10_1922 rx10_1922
      have bx10_1922 : -1 ≤ x10_1922 ∧ x10_1922 ≤ 29 := by rw [ex10_1922]; exact (bx_s1 hk0).mp (hI.bx _ _)
      refine ⟨fun c => ?_, fun c => ?_⟩
      · exact hQ _
      · exact hQ _
  · refine sX6_hasArrived (p1 := p2) hI hk0 (by omega) ?_
    intro x12_1926 q1927 q1928
    refine ⟨fun c => ?_, fun c => ?_⟩
    · exact hQ _
    · refine ⟨by omega, ?_⟩
      refine ⟨by omega, ?_⟩
      intro x16_1931 ex16_1931 rx16_1931
      have bx16_1931 : -2147483648 ≤ x16_1931 ∧ x16_1931 ≤ 2147483647 := rx16_1931
      refine ⟨by omega, ?_⟩
      refine ⟨by omega, ?_⟩
      intro x19_1932 ex19_1932 rx19_1932
      have bx19_1932 : -2147483648 ≤ x19_1932 ∧ x19_1932 ≤ 2147483647 := rx19_1932
      refine ⟨fun c => ?_, fun c => ?_⟩
      · exact hQ _
      · exact hQ _
