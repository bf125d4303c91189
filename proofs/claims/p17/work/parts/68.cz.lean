theorem sX11_draw {p1 : Int} {M : Mem} {Q : Int → Mem → Prop} (hI : IX M) (hp : p1 ≤ 100) (hQ : ∀ z : Int, ∀ M' : Mem, IX M' → (0 ≤ z ∧ z ≤ 99 ∧ (1 ≤ p1 → z ≤ p1 - 1)) → Q z M') : qX11_draw p1 M Q := by
  unfold qX11_draw
  intro x1_2880 ex1_2880 rx1_2880
  have bx1_2880 : -2147483648 ≤ x1_2880 ∧ x1_2880 ≤ 2147483647 := rx1_2880
  intro x2_2881 ex2_2881 rx2_2881
  first | (have fx2_2881 : x2_2881 = x1_2880 * 1103515245 := by rw [ex2_2881]; exact w32_id (by omega)) | skip
  intro x3_2882 ex3_2882 rx3_2882
  first | (have fx3_2882 : x3_2882 = x2_2881 + 12345 := by rw [ex3_2882]; exact w32_id (by omega)) | skip
  intro M4_2883 h_M4_2883
  have hM4_2883 : IX M4_2883 := by rw [h_M4_2883]; exact hI.up15 (by decide)
  refine ⟨fun c => ?_, fun c => ?_⟩
  · intro x6_2885 ex6_2885 rx6_2885
    have bx6_2885 : -2147483648 ≤ x6_2885 ∧ x6_2885 ≤ 2147483647 := rx6_2885
    have fx6_2885 : x6_2885 = x3_2882 := by rw [ex6_2885, h_M4_2883, up2_s]
    intro x7_2886 ex7_2886 rx7_2886
    have fx7_2886 := usI_16 x6_2885; rw [← ex7_2886] at fx7_2886
    refine ⟨by omega, ?_⟩
    intro x9_2887 ex9_2887 rx9_2887
    first | (have fx9_2887 := rmI_b (a := x7_2886) (b := p1) (by omega) (by omega); rw [← ex9_2887] at fx9_2887) | skip
    exact hQ _ _ hM4_2883 (by omega)
  · exact hQ _ _ hM4_2883 (by omega)
theorem sX11_years_L31 {p1 : Int} {p2 : Int} {X155 : Mem → Prop} {Q : Int → Mem → Prop} (hQ : ∀ z : Int, ∀ M' : Mem, IX M' → Q z M') (hX155 : ∀ M' : Mem, IX M' → X155 M') : ∀ (n : Nat) (v3 : Int) (M : Mem), IX M → (0 ≤ v3 ∧ v3 ≤ 60 ∧ p2 ≤ 60) → 60 - v3 < (n : Int) → qX11_years_L31 p1 p2 X155 Q n v3 M := by
  intro n
  induction n with
  | zero => intro v3 M hI hv hm; exact absurd hm (by omega)
  | succ n ih =>
    intro v3 M hI hv hm
    rw [qX11_years_L31]
    refine ⟨(by first | assumption | exact (by omega)), ?_⟩
    refine ⟨fun c => ?_, fun c => ?_⟩
    · exact hX155 _ hI
    · refine sX11_draw (p1 := 4) hI (by omega) ?_
      intro x7_2891 M7_2892 hM7_2892 p2893 q2894
      refine ⟨fun c => ?_, fun c => ?_⟩
      · refine ⟨fun c => ?_, fun c => ?_⟩
        · intro x10_2897 ex10_2897 rx10_2897
          have bx10_2897 : 0 ≤ x10_2897 ∧ x10_2897 ≤ 8 := by rw [ex10_2897]; exact (bx_s0_7 (show isS 8 by decide)).mp (hM7_2892.bx _ _)
          refine ⟨fun c => ?_, fun c => ?_⟩
          · exact ih _ _ hM7_2892 (by omega) (by omega)
          · intro x12_2900 ex12_2900 rx12_2900
            have bx12_2900 : 0 ≤ x12_2900 ∧ x12_2900 ≤ 8 := by rw [ex12_2900]; exact (bx_s0_7 (show isS 8 by decide)).mp (hM7_2892.bx _ _)
            refine sX11_draw (p1 := x12_2900) hM7_2892 (by omega) ?_
            intro x13_2901 M13_2902 hM13_2902 p2903 q2904
            refine sX11_draw (p1 := 5) hM13_2902 (by omega) ?_
            intro x14_2905 M14_2906 hM14_2906 p2907 q2908
            refine ⟨(by first | assumption | exact (by omega)), ?_⟩
            refine sX6_shove (p1 := x13_2901) (p2 := x14_2905 - 2) hM14_2906 (show isS 8 by decide) ?_
            intro x16_2909 M16_2910 hM16_2910 q2911
            exact ih _ _ hM16_2910 (by omega) (by omega)
        · intro x17_2913 ex17_2913 rx17_2913
          have bx17_2913 : 0 ≤ x17_2913 ∧ x17_2913 ≤ 8 := by rw [ex17_2913]; exact (bx_s0_7 (show isS 8 by decide)).mp (hM7_2892.bx _ _)
          refine ⟨fun c => ?_, fun c => ?_⟩
          · exact ih _ _ hM7_2892 (by omega) (by omega)
          · intro x19_2916 ex19_2916 rx19_2916
            have bx19_2916 : 0 ≤ x19_2916 ∧ x19_2916 ≤ 8 := by rw [ex19_2916]; exact (bx_s0_7 (show isS 8 by decide)).mp (hM7_2892.bx _ _)
            refine sX11_draw (p1 := x19_2916) hM7_2892 (by omega) ?_
            intro x20_2917 M20_2918 hM20_2918 p2919 q2920
            refine sX6_turn (p1 := x20_2917) hM20_2918 (show isS 8 by decide) ?_
            intro x21_2921 M21_2922 hM21_2922 q2923
            exact ih _ _ hM21_2922 (by omega) (by omega)
      · refine ⟨(hM7_2892).l16, ?_⟩
        refine sX10_advance  hM7_2892 (show isS 8 by decide) (hM7_2892).l16 ?_
        intro M23_2925 hM23_2925
        exact ih _ _ hM23_2925 (by omega) (by omega)
theorem sX11_years {p1 : Int} {p2 : Int} {M : Mem} {Q : Int → Mem → Prop} (hI : IX M) (hQ : ∀ z : Int, ∀ M' : Mem, IX M' → Q z M') : qX11_years p1 p2 M Q := by
  unfold qX11_years
  refine ⟨fun c => ?_, fun c => ?_⟩
  · exact hQ _ _ hI
  · refine ⟨fun c => ?_, fun c => ?_⟩
    · refine sX6_copyFrom  hI (show isS 8 by decide) (show isS 1 by decide) ?_
      intro M3_2929 hM3_2929 gM3_2929
      intro M4_2930 h_M4_2930
      have hM4_2930 : IX M4_2930 := by rw [h_M4_2930]; exact hM3_2929.up15 (by decide)
      refine ⟨61, ?_⟩
      refine sX11_years_L31 ?_ ?_ _ _ _ hM4_2930 (by omega) (by omega)
      · exact hQ
      · intro M_2931 hM_2931
        intro x25_2932 ex25_2932 rx25_2932
        have bx25_2932 : -2147483648 ≤ x25_2932 ∧ x25_2932 ≤ 2147483647 := rx25_2932
        refine sX6_rightBits  hM_2931 (show isS 8 by decide) ?_
        intro x26_2933 q2934
        refine sJ6_bitCount_0f7a4 (p0 := x26_2933) hM_2931  ?_
        intro x27_2935 p2936 q2937
        refine sX4_tellTwo (p1 := x25_2932) (p3 := x27_2935) hM_2931  ?_
        intro M28_2938 hM28_2938
        intro x29_2939 ex29_2939 rx29_2939
        have bx29_2939 : -2147483648 ≤ x29_2939 ∧ x29_2939 ≤ 2147483647 := rx29_2939
        exact hQ _ _ hM28_2938
    · exact hQ _ _ hI
theorem sX11_count {p1 : Int} {M : Mem} {Q : Int → Mem → Prop} (hI : IX M) (hQ : ∀ z : Int, Q z M) : qX11_count p1 M Q := by
  unfold qX11_count
  refine ⟨fun c => ?_, fun c => ?_, fun c => ?_, fun c => ?_, fun c => ?_, fun c => ?_, fun c => ?_, fun c => ?_, fun c => ?_, fun c => ?_, fun c => ?_, fun c => ?_, fun c => ?_, fun c => ?_⟩
  · intro x2_2965 ex2_2965 rx2_2965
    have bx2_2965 : 4 ≤ x2_2965 ∧ x2_2965 ≤ 30 := by rw [ex2_2965]; exact (bx_c158_1).mp (hI.bx _ _)
    exact hQ _
  · intro x3_2967 ex3_2967 rx3_2967
    have bx3_2967 : 0 ≤ x3_2967 ∧ x3_2967 ≤ 6 := by rw [ex3_2967]; exact (bx_s0_6 (show isS 1 by decide)).mp (hI.bx _ _)
    exact hQ _
  · intro x4_2969 ex4_2969 rx4_2969
    have bx4_2969 : 0 ≤ x4_2969 ∧ x4_2969 ≤ 8 := by rw [ex4_2969]; exact (bx_s0_7 (show isS 1 by decide)).mp (hI.bx _ _)
    exact hQ _
  · intro x5_2971 ex5_2971 rx5_2971
    have bx5_2971 : -2147483648 ≤ x5_2971 ∧ x5_2971 ≤ 2147483647 := rx5_2971
    exact hQ _
  · intro x6_2973 ex6_2973 rx6_2973
    have bx6_2973 : -2147483648 ≤ x6_2973 ∧ x6_2973 ≤ 2147483647 := rx6_2973
    exact hQ _
  · intro x7_2975 ex7_2975 rx7_2975
    have bx7_2975 : -2147483648 ≤ x7_2975 ∧ x7_2975 ≤ 2147483647 := rx7_2975
    exact hQ _
  · refine sX6_rightBits  hI (show isS 1 by decide) ?_
    intro x8_2977 q2978
    refine sJ6_bitCount_0f7a4 (p0 := x8_2977) hI  ?_
    intro x9_2979 p2980 q2981
    exact hQ _
  · intro x10_2983 ex10_2983 rx10_2983
    have bx10_2983 : -2147483648 ≤ x10_2983 ∧ x10_2983 ≤ 2147483647 := rx10_2983
    refine sJ6_bitCount_0f7a4 (p0 := x10_2983) hI  ?_
    intro x11_2984 p2985 q2986
    exact hQ _
  · intro x12_2988 ex12_2988 rx12_2988
    have bx12_2988 : -2147483648 ≤ x12_2988 ∧ x12_2988 ≤ 2147483647 := rx12_2988
    refine sX8_weatherAt (p1 := x12_2988) hI (by omega) ?_
    intro x13_2989 q2990
    exact hQ _
  · intro x14_2992 ex14_2992 rx14_2992
    have bx14_2992 : 0 ≤ x14_2992 ∧ x14_2992 ≤ 8 := by rw [ex14_2992]; exact (bx_c182_2).mp (hI.bx _ _)
    exact hQ _
  · intro x15_2994 ex15_2994 rx15_2994
    have bx15_2994 : 0 ≤ x15_2994 ∧ x15_2994 ≤ 15 := by rw [ex15_2994]; exact (bx_c163_2).mp (hI.bx _ _)
    exact hQ _
  · intro x16_2996 ex16_2996 rx16_2996
    have bx16_2996 : 0 ≤ x16_2996 ∧ x16_2996 ≤ 8 := by rw [ex16_2996]; exact (bx_c167_1).mp (hI.bx _ _)
    exact hQ _
  · intro x17_2998 ex17_2998 rx17_2998
    have bx17_2998 : 0 ≤ x17_2998 ∧ x17_2998 ≤ 80 := by rw [ex17_2998]; exact (bx_c156_1).mp (hI.bx _ _)
    exact hQ _
  · exact hQ _
theorem sX11_paceNow {p1 : Int} {M : Mem} {Q : Int → Mem → Prop} (hI : IX M) (hp : 0 ≤ p1 ∧ p1 ≤ 5) (hQ : ∀ z : Int, ∀ M' : Mem, IX M' → Q z M') : qX11_paceNow p1 M Q := by
  unfold qX11_paceNow
  refine sX6_hasArrived (p1 := p1) hI (show isS 1 by decide) (by omega) ?_
  intro x1_3000 q3001 q3002
  refine ⟨fun c => ?_, fun c => ?_⟩
  · refine ⟨(hI).l16, ?_⟩
    refine sX2_observe (p3 := p1) hI (hI).l16 (show isS 1 by decide) (by omega) ?_
    intro M4_3004 hM4_3004
    refine ⟨(hM4_3004).l16, ?_⟩
    refine sX2_pace  hM4_3004 (hM4_3004).l16 ?_
    intro x6_3005 M6_3006 hM6_3006 p3007 q3008
    exact hQ _ _ hM6_3006
  · exact hQ _ _ hI
