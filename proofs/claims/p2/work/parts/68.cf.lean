theorem sX11_isBestAnswer {p0 : Int} {p1 : Int} {p2 : Int} {M : Mem} {Q : Int → Mem → Prop} (hI : IX M) (hp : 0 ≤ p0 ∧ p0 ≤ 9 ∧ 0 ≤ p1 ∧ p1 ≤ 9 ∧ 0 ≤ p2 ∧ p2 ≤ 20) (hQ : ∀ z : Int, Q z M) : qX11_isBestAnswer p0 p1 p2 M Q := by
  unfold qX11_isBestAnswer
  refine sX11_gain (p0 := p0) (p1 := p1) (p2 := p2) hI (by omega) ?_
  intro x1_2850 p2851 q2852
  refine ⟨11, ?_⟩
  refine sX11_isBestAnswer_L10 hp ?_ _ _ _ hI (by omega) (by omega)
  · exact hQ
theorem sX11_rests_L32 {p1 : Int} {X85 : Int → Int → Mem → Prop} {Q : Int → Mem → Prop} (hQ : ∀ z : Int, ∀ M' : Mem, IX M' → Q z M') (hX85 : ∀ w1 w2 : Int, ∀ M' : Mem, IX M' → (0 ≤ w1 ∧ w1 ≤ 10 * w2 + 10 ∧ 0 ≤ w2 ∧ w2 ≤ 9 ∧ 0 ≤ p1 ∧ p1 ≤ 20) → X85 w1 w2 M') : ∀ (n : Nat) (v2 v3 v4 : Int) (M : Mem), IX M → (0 ≤ v2 ∧ v2 ≤ 10 * v3 + v4 ∧ 0 ≤ v3 ∧ v3 ≤ 9 ∧ 0 ≤ v4 ∧ v4 ≤ 10 ∧ 0 ≤ p1 ∧ p1 ≤ 20) → 10 - v4 < (n : Int) → qX11_rests_L32 p1 X85 Q n v2 v3 v4 M := by
  intro n
  induction n with
  | zero => intro v2 v3 v4 M hI hv hm; exact absurd hm (by omega)
  | succ n ih =>
    intro v2 v3 v4 M hI hv hm
    rw [qX11_rests_L32]
    refine ⟨(by first | assumption | exact ⟨by omega, by omega⟩), ?_⟩
    refine ⟨fun c => ?_, fun c => ?_⟩
    · exact hX85 _ _ _ hI (by omega)
    · refine ⟨(by first | assumption | exact ⟨by omega, by omega⟩), ?_⟩
      refine sX11_isBestAnswer (p0 := v3) (p1 := v4) (p2 := p1) hI (by omega) ?_
      intro x10_2855 q2856 q2857
      refine ⟨fun c => ?_, fun c => ?_⟩
      · exact ih _ _ _ _ hI (by omega) (by omega)
      · refine sX11_isBestAnswer (p0 := v4) (p1 := v3) (p2 := p1) hI (by omega) ?_
        intro x12_2860 q2861 q2862
        refine ⟨fun c => ?_, fun c => ?_⟩
        · exact ih _ _ _ _ hI (by omega) (by omega)
        · refine ⟨(by first | assumption | exact ⟨by omega, by omega⟩), ?_⟩
          refine ⟨fun c => ?_, fun c => ?_⟩
          · exact ih _ _ _ _ hI (by omega) (by omega)
          · refine sX4_tellTwo (p1 := v3) (p3 := v4) hI  ?_
            intro M16_2867 hM16_2867
            exact ih _ _ _ _ hM16_2867 (by omega) (by omega)
theorem sX11_rests_L23 {p1 : Int}  {Q : Int → Mem → Prop} (hQ : ∀ z : Int, ∀ M' : Mem, IX M' → Q z M') : ∀ (n : Nat) (v2 v3 : Int) (M : Mem), IX M → (0 ≤ v2 ∧ v2 ≤ 10 * v3 ∧ 0 ≤ v3 ∧ v3 ≤ 10 ∧ 0 ≤ p1 ∧ p1 ≤ 20) → 10 - v3 < (n : Int) → qX11_rests_L23 p1 Q n v2 v3 M := by
  intro n
  induction n with
  | zero => intro v2 v3 M hI hv hm; exact absurd hm (by omega)
  | succ n ih =>
    intro v2 v3 M hI hv hm
    rw [qX11_rests_L23]
    refine ⟨(by first | assumption | exact ⟨by omega, by omega⟩), ?_⟩
    refine ⟨fun c => ?_, fun c => ?_⟩
    · refine ⟨(by first | assumption | exact ⟨by omega, by omega⟩), ?_⟩
      exact hQ _ _ hI
    · refine ⟨11, ?_⟩
      refine sX11_rests_L32 ?_ ?_ _ _ _ _ _ hI (by omega) (by omega)
      · exact hQ
      · intro v2_2870 v3_2871 M_2872 hM_2872 p2873
        exact ih _ _ _ hM_2872 (by omega) (by omega)
theorem sX11_rests {p1 : Int} {M : Mem} {Q : Int → Mem → Prop} (hI : IX M) (hQ : ∀ z : Int, ∀ M' : Mem, IX M' → Q z M') : qX11_rests p1 M Q := by
  unfold qX11_rests
  refine ⟨fun c => ?_, fun c => ?_⟩
  · exact hQ _ _ hI
  · refine ⟨fun c => ?_, fun c => ?_⟩
    · refine sX4_clear  hI  ?_
      intro M3_2877 hM3_2877
      refine ⟨11, ?_⟩
      refine sX11_rests_L23 ?_ _ _ _ _ hM3_2877 (by omega) (by omega)
      · exact hQ
    · exact hQ _ _ hI
theorem sX11_draw {p1 : Int} {M : Mem} {Q : Int → Mem → Prop} (hI : IX M) (hp : p1 ≤ 100) (hQ : ∀ z : Int, ∀ M' : Mem, IX M' → (0 ≤ z ∧ z ≤ 99 ∧ (1 ≤ p1 → z ≤ p1 - 1)) → Q z M') : qX11_draw p1 M Q := by
  unfold qX11_draw
  intro x1_2879 ex1_2879 rx1_2879
  have bx1_2879 : -2147483648 ≤ x1_2879 ∧ x1_2879 ≤ 2147483647 := rx1_2879
  intro x2_2880 ex2_2880 rx2_2880
  first | (have fx2_2880 : x2_2880 = x1_2879 * 1103515245 := by rw [ex2_2880]; exact w32_id ⟨by omega, by omega⟩) | skip
  intro x3_2881 ex3_2881 rx3_2881
  first | (have fx3_2881 : x3_2881 = x2_2880 + 12345 := by rw [ex3_2881]; exact w32_id ⟨by omega, by omega⟩) | skip
  intro M4_2882 h_M4_2882
  have hM4_2882 : IX M4_2882 := by rw [h_M4_2882]; exact hI.up15 (by decide)
  refine ⟨fun c => ?_, fun c => ?_⟩
  · intro x6_2884 ex6_2884 rx6_2884
    have bx6_2884 : -2147483648 ≤ x6_2884 ∧ x6_2884 ≤ 2147483647 := rx6_2884
    have fx6_2884 : x6_2884 = x3_2881 := by rw [ex6_2884, h_M4_2882, up2_s]
    intro x7_2885 ex7_2885 rx7_2885
    have fx7_2885 := usI_16 x6_2884; rw [← ex7_2885] at fx7_2885
    refine ⟨by omega, ?_⟩
    intro x9_2886 ex9_2886 rx9_2886
    first | (have fx9_2886 := rmI_b (a := x7_2885) (b := p1) ⟨by omega, by omega⟩ ⟨by omega, by omega⟩; rw [← ex9_2886] at fx9_2886) | skip
    exact hQ _ _ hM4_2882 (by omega)
  · exact hQ _ _ hM4_2882 (by omega)
theorem sX11_years_L31 {p1 : Int} {p2 : Int} {X155 : Mem → Prop} {Q : Int → Mem → Prop} (hQ : ∀ z : Int, ∀ M' : Mem, IX M' → Q z M') (hX155 : ∀ M' : Mem, IX M' → X155 M') : ∀ (n : Nat) (v3 : Int) (M : Mem), IX M → (0 ≤ v3 ∧ v3 ≤ 60 ∧ p2 ≤ 60) → 60 - v3 < (n : Int) → qX11_years_L31 p1 p2 X155 Q n v3 M := by
  intro n
  induction n with
  | zero => intro v3 M hI hv hm; exact absurd hm (by omega)
  | succ n ih =>
    intro v3 M hI hv hm
    rw [qX11_years_L31]
    refine ⟨(by first | assumption | exact ⟨by omega, by omega⟩), ?_⟩
    refine ⟨fun c => ?_, fun c => ?_⟩
    · exact hX155 _ hI
    · refine sX11_draw (p1 := 4) hI (by omega) ?_
      intro x7_2890 M7_2891 hM7_2891 p2892 q2893
      refine ⟨fun c => ?_, fun c => ?_⟩
      · refine ⟨fun c => ?_, fun c => ?_⟩
        · intro x10_2896 ex10_2896 rx10_2896
          have bx10_2896 : 0 ≤ x10_2896 ∧ x10_2896 ≤ 8 := by rw [ex10_2896]; exact (bx_s0_7 (show isS 8 by decide)).mp (hM7_2891.bx _ _)
          refine ⟨fun c => ?_, fun c => ?_⟩
          · exact ih _ _ hM7_2891 (by omega) (by omega)
          · intro x12_2899 ex12_2899 rx12_2899
            have bx12_2899 : 0 ≤ x12_2899 ∧ x12_2899 ≤ 8 := by rw [ex12_2899]; exact (bx_s0_7 (show isS 8 by decide)).mp (hM7_2891.bx _ _)
            refine sX11_draw (p1 := x12_2899) hM7_2891 (by omega) ?_
            intro x13_2900 M13_2901 hM13_2901 p2902 q2903
            refine sX11_draw (p1 := 5) hM13_2901 (by omega) ?_
            intro x14_2904 M14_2905 hM14_2905 p2906 q2907
            refine ⟨(by first | assumption | exact ⟨by omega, by omega⟩), ?_⟩
            refine sX6_shove (p1 := x13_2900) (p2 := x14_2904 - 2) hM14_2905 (show isS 8 by decide) ?_
            intro x16_2908 M16_2909 hM16_2909 q2910
            exact ih _ _ hM16_2909 (by omega) (by omega)
        · intro x17_2912 ex17_2912 rx17_2912
          have bx17_2912 : 0 ≤ x17_2912 ∧ x17_2912 ≤ 8 := by rw [ex17_2912]; exact (bx_s0_7 (show isS 8 by decide)).mp (hM7_2891.bx _ _)
          refine ⟨fun c => ?_, fun c => ?_⟩
          · exact ih _ _ hM7_2891 (by omega) (by omega)
          · intro x19_2915 ex19_2915 rx19_2915
            have bx19_2915 : 0 ≤ x19_2915 ∧ x19_2915 ≤ 8 := by rw [ex19_2915]; exact (bx_s0_7 (show isS 8 by decide)).mp (hM7_2891.bx _ _)
            refine sX11_draw (p1 := x19_2915) hM7_2891 (by omega) ?_
            intro x20_2916 M20_2917 hM20_2917 p2918 q2919
            refine sX6_turn (p1 := x20_2916) hM20_2917 (show isS 8 by decide) ?_
            intro x21_2920 M21_2921 hM21_2921 q2922
            exact ih _ _ hM21_2921 (by omega) (by omega)
      · refine ⟨(hM7_2891).l16, ?_⟩
        refine sX10_advance  hM7_2891 (show isS 8 by decide) (hM7_2891).l16 ?_
        intro M23_2924 hM23_2924
        exact ih _ _ hM23_2924 (by omega) (by omega)
theorem sX11_years {p1 : Int} {p2 : Int} {M : Mem} {Q : Int → Mem → Prop} (hI : IX M) (hQ : ∀ z : Int, ∀ M' : Mem, IX M' → Q z M') : qX11_years p1 p2 M Q := by
  unfold qX11_years
  refine ⟨fun c => ?_, fun c => ?_⟩
  · exact hQ _ _ hI
  · refine ⟨fun c => ?_, fun c => ?_⟩
    · refine sX6_copyFrom  hI (show isS 8 by decide) (show isS 1 by decide) ?_
      intro M3_2928 hM3_2928
      intro M4_2929 h_M4_2929
      have hM4_2929 : IX M4_2929 := by rw [h_M4_2929]; exact hM3_2928.up15 (by decide)
      refine ⟨61, ?_⟩
      refine sX11_years_L31 ?_ ?_ _ _ _ hM4_2929 (by omega) (by omega)
      · exact hQ
      · intro M_2930 hM_2930
        intro x25_2931 ex25_2931 rx25_2931
        have bx25_2931 : -2147483648 ≤ x25_2931 ∧ x25_2931 ≤ 2147483647 := rx25_2931
        refine sX6_rightBits  hM_2930 (show isS 8 by decide) ?_
        intro x26_2932 q2933
        refine sJ6_bitCount_0f7a4 (p0 := x26_2932) hM_2930  ?_
        intro x27_2934 p2935 q2936
        refine sX4_tellTwo (p1 := x25_2931) (p3 := x27_2934) hM_2930  ?_
        intro M28_2937 hM28_2937
        intro x29_2938 ex29_2938 rx29_2938
        have bx29_2938 : -2147483648 ≤ x29_2938 ∧ x29_2938 ≤ 2147483647 := rx29_2938
        exact hQ _ _ hM28_2937
    · exact hQ _ _ hI
theorem sX11_keep {p1 : Int} {M : Mem} {Q : Int → Mem → Prop} (hI : IX M) (hQ : ∀ z : Int, ∀ M' : Mem, IX M' → Q z M') : qX11_keep p1 M Q := by
  unfold qX11_keep
  refine ⟨fun c => ?_, fun c => ?_⟩
  · exact hQ _ _ hI
  · refine ⟨fun c => ?_, fun c => ?_⟩
    · refine ⟨by omega, ?_⟩
      refine ⟨by omega, ?_⟩
      refine sX6_copyFrom  hI (isS_kept (e := p1) (by omega) (by omega)) (show isS 1 by decide) ?_
      intro M5_2943 hM5_2943
      intro M6_2944 h_M6_2944
      have hM6_2944 : IX M6_2944 := by rw [h_M6_2944]; exact hM5_2943.up (by decide) (by simp [BX])
      exact hQ _ _ hM6_2944
    · exact hQ _ _ hI
theorem sX11_again {p1 : Int} {M : Mem} {Q : Int → Mem → Prop} (hI : IX M) (hQ : ∀ z : Int, ∀ M' : Mem, IX M' → Q z M') : qX11_again p1 M Q := by
  unfold qX11_again
  refine ⟨fun c => ?_, fun c => ?_⟩
  · exact hQ _ _ hI
  · refine ⟨fun c => ?_, fun c => ?_⟩
    · exact hQ _ _ hI
    · refine ⟨by omega, ?_⟩
      refine ⟨by omega, ?_⟩
      intro x5_2950 ex5_2950 rx5_2950
      have bx5_2950 : -2147483648 ≤ x5_2950 ∧ x5_2950 ≤ 2147483647 := rx5_2950
      refine ⟨fun c => ?_, fun c => ?_⟩
      · intro x7_2952 ex7_2952 rx7_2952
        have bx7_2952 : 0 ≤ x7_2952 ∧ x7_2952 ≤ 6 := by rw [ex7_2952]; exact (bx_s0_6 (isS_kept (e := p1) (by omega) (by omega))).mp (hI.bx _ _)
        intro x8_2953 ex8_2953 rx8_2953
        have bx8_2953 : 0 ≤ x8_2953 ∧ x8_2953 ≤ 6 := by rw [ex8_2953]; exact (bx_s0_6 (show isS 1 by decide)).mp (hI.bx _ _)
        refine ⟨fun c => ?_, fun c => ?_⟩
        · exact hQ _ _ hI
        · intro x10_2956 ex10_2956 rx10_2956
          have bx10_2956 : 0 ≤ x10_2956 ∧ x10_2956 ≤ 8 := by rw [ex10_2956]; exact (bx_s0_7 (isS_kept (e := p1) (by omega) (by omega))).mp (hI.bx _ _)
          intro x11_2957 ex11_2957 rx11_2957
          have bx11_2957 : 0 ≤ x11_2957 ∧ x11_2957 ≤ 8 := by rw [ex11_2957]; exact (bx_s0_7 (show isS 1 by decide)).mp (hI.bx _ _)
          refine ⟨fun c => ?_, fun c => ?_⟩
          · refine sX6_copyFrom  hI (show isS 1 by decide) (isS_kept (e := p1) (by omega) (by omega)) ?_
            intro M13_2959 hM13_2959
            refine sX1_clear  hM13_2959  ?_
            intro M14_2960 hM14_2960
            exact hQ _ _ hM14_2960
          · exact hQ _ _ hI
      · exact hQ _ _ hI
theorem sX11_count {p1 : Int} {M : Mem} {Q : Int → Mem → Prop} (hI : IX M) (hQ : ∀ z : Int, Q z M) : qX11_count p1 M Q := by
  unfold qX11_count
  refine ⟨fun c => ?_, fun c => ?_, fun c => ?_, fun c => ?_, fun c => ?_, fun c => ?_, fun c => ?_, fun c => ?_, fun c => ?_, fun c => ?_, fun c => ?_, fun c => ?_, fun c => ?_, fun c => ?_⟩
  · intro x2_2964 ex2_2964 rx2_2964
    have bx2_2964 : 4 ≤ x2_2964 ∧ x2_2964 ≤ 30 := by rw [ex2_2964]; exact (bx_c158_1).mp (hI.bx _ _)
    exact hQ _
  · intro x3_2966 ex3_2966 rx3_2966
    have bx3_2966 : 0 ≤ x3_2966 ∧ x3_2966 ≤ 6 := by rw [ex3_2966]; exact (bx_s0_6 (show isS 1 by decide)).mp (hI.bx _ _)
    exact hQ _
  · intro x4_2968 ex4_2968 rx4_2968
    have bx4_2968 : 0 ≤ x4_2968 ∧ x4_2968 ≤ 8 := by rw [ex4_2968]; exact (bx_s0_7 (show isS 1 by decide)).mp (hI.bx _ _)
    exact hQ _
  · intro x5_2970 ex5_2970 rx5_2970
    have bx5_2970 : -2147483648 ≤ x5_2970 ∧ x5_2970 ≤ 2147483647 := rx5_2970
    exact hQ _
  · intro x6_2972 ex6_2972 rx6_2972
    have bx6_2972 : -2147483648 ≤ x6_2972 ∧ x6_2972 ≤ 2147483647 := rx6_2972
    exact hQ _
  · intro x7_2974 ex7_2974 rx7_2974
    have bx7_2974 : -2147483648 ≤ x7_2974 ∧ x7_2974 ≤ 2147483647 := rx7_2974
    exact hQ _
  · refine sX6_rightBits  hI (show isS 1 by decide) ?_
    intro x8_2976 q2977
    refine sJ6_bitCount_0f7a4 (p0 := x8_2976) hI  ?_
    intro x9_2978 p2979 q2980
    exact hQ _
  · intro x10_2982 ex10_2982 rx10_2982
    have bx10_2982 : -2147483648 ≤ x10_2982 ∧ x10_2982 ≤ 2147483647 := rx10_2982
    refine sJ6_bitCount_0f7a4 (p0 := x10_2982) hI  ?_
    intro x11_2983 p2984 q2985
    exact hQ _
  · intro x12_2987 ex12_2987 rx12_2987
    have bx12_2987 : -2147483648 ≤ x12_2987 ∧ x12_2987 ≤ 2147483647 := rx12_2987
    refine sX8_weatherAt (p1 := x12_2987) hI (by omega) ?_
    intro x13_2988 q2989
    exact hQ _
  · intro x14_2991 ex14_2991 rx14_2991
    have bx14_2991 : 0 ≤ x14_2991 ∧ x14_2991 ≤ 8 := by rw [ex14_2991]; exact (bx_c182_2).mp (hI.bx _ _)
    exact hQ _
  · intro x15_2993 ex15_2993 rx15_2993
    have bx15_2993 : 0 ≤ x15_2993 ∧ x15_2993 ≤ 15 := by rw [ex15_2993]; exact (bx_c163_2).mp (hI.bx _ _)
    exact hQ _
  · intro x16_2995 ex16_2995 rx16_2995
    have bx16_2995 : 0 ≤ x16_2995 ∧ x16_2995 ≤ 8 := by rw [ex16_2995]; exact (bx_c167_1).mp (hI.bx _ _)
    exact hQ _
  · intro x17_2997 ex17_2997 rx17_2997
    have bx17_2997 : 0 ≤ x17_2997 ∧ x17_2997 ≤ 80 := by rw [ex17_2997]; exact (bx_c156_1).mp (hI.bx _ _)
    exact hQ _
  · exact hQ _
theorem sX11_paceNow {p1 : Int} {M : Mem} {Q : Int → Mem → Prop} (hI : IX M) (hp : 0 ≤ p1 ∧ p1 ≤ 5) (hQ : ∀ z : Int, ∀ M' : Mem, IX M' → Q z M') : qX11_paceNow p1 M Q := by
  unfold qX11_paceNow
  refine sX6_hasArrived (p1 := p1) hI (show isS 1 by decide) (by omega) ?_
  intro x1_2999 q3000 q3001
  refine ⟨fun c => ?_, fun c => ?_⟩
  · refine ⟨(hI).l16, ?_⟩
    refine sX2_observe (p3 := p1) hI (hI).l16 (show isS 1 by decide) (by omega) ?_
    intro M4_3003 hM4_3003
    refine ⟨(hM4_3003).l16, ?_⟩
    refine sX2_pace  hM4_3003 (hM4_3003).l16 ?_
    intro x6_3004 M6_3005 hM6_3005 p3006 q3007
    exact hQ _ _ hM6_3005
  · exact hQ _ _ hI
