theorem sX11_passes_L88 {p1 : Int} {p2 : Int} {X121 : Int → Mem → Prop} {Q : Int → Mem → Prop} (hQ : ∀ z : Int, ∀ M' : Mem, IX M' → Q z M') (hX121 : ∀ w1 : Int, ∀ M' : Mem, IX M' → (1 ≤ w1 ∧ w1 ≤ 61 ∧ 0 ≤ p1 ∧ p1 ≤ 5) → X121 w1 M') : ∀ (n : Nat) (v3 : Int) (M : Mem), IX M → (1 ≤ v3 ∧ v3 ≤ 61 ∧ 0 ≤ p1 ∧ p1 ≤ 5 ∧ 0 ≤ p2 ∧ p2 ≤ 5) → 61 - v3 < (n : Int) → qX11_passes_L88 p1 p2 X121 Q n v3 M := by
  intro n
  induction n with
  | zero => intro v3 M hI hv hm; exact absurd hm (by omega)
  | succ n ih =>
    intro v3 M hI hv hm
    rw [qX11_passes_L88]
    refine ⟨(by first | assumption | exact (by omega)), ?_⟩
    refine ⟨fun c => ?_, fun c => ?_⟩
    · exact hQ _ _ hI
    · refine ⟨(hI).l16, ?_⟩
      refine sX10_advance  hI (show isS 8 by decide) (hI).l16 ?_
      intro M21_1937 hM21_1937
      refine sX6_isAheadOf (p1 := p1) (p2 := p2) hM21_1937 (show isS 8 by decide) (by omega) ?_
      intro x22_1938 q1939 q1940
      refine ⟨fun c => ?_, fun c => ?_⟩
      · exact ih _ _ hM21_1937 (by omega) (by omega)
      · exact hX121 _ _ hM21_1937 (by omega)
theorem sX11_passes {p1 : Int} {p2 : Int} {M : Mem} {Q : Int → Mem → Prop} (hI : IX M) (hQ : ∀ z : Int, ∀ M' : Mem, IX M' → Q z M') : qX11_passes p1 p2 M Q := by
  unfold qX11_passes
  refine sX6_isHearse (p1 := p1) hI (show isS 1 by decide) ?_
  intro x1_1943 p1944 q1945 q1946
  refine ⟨fun c => ?_, fun c => ?_⟩
  · exact hQ _ _ hI
  · refine sX6_isHearse (p1 := p2) hI (show isS 1 by decide) ?_
    intro x3_1949 p1950 q1951 q1952
    refine ⟨fun c => ?_, fun c => ?_⟩
    · exact hQ _ _ hI
    · refine ⟨fun c => ?_, fun c => ?_⟩
      · refine sX6_hasArrived (p1 := p1) hI (show isS 1 by decide) (by omega) ?_
        intro x6_1956 q1957 q1958
        refine ⟨fun c => ?_, fun c => ?_⟩
        · exact hQ _ _ hI
        · refine sX6_hasArrived (p1 := p2) hI (show isS 1 by decide) (by omega) ?_
          intro x8_1961 q1962 q1963
          refine ⟨fun c => ?_, fun c => ?_⟩
          · exact hQ _ _ hI
          · refine ⟨by omega, ?_⟩
            refine ⟨by omega, ?_⟩
            intro x12_1966 ex12_1966 rx12_1966
            have bx12_1966 : -1 ≤ x12_1966 ∧ x12_1966 ≤ 29 := by rw [ex12_1966]; exact (bx_s1 (show isS 1 by decide)).mp (hI.bx _ _)
            refine ⟨by omega, ?_⟩
            refine ⟨by omega, ?_⟩
            intro x15_1967 ex15_1967 rx15_1967
            have bx15_1967 : -1 ≤ x15_1967 ∧ x15_1967 ≤ 29 := by rw [ex15_1967]; exact (bx_s1 (show isS 1 by decide)).mp (hI.bx _ _)
            refine ⟨fun c => ?_, fun c => ?_⟩
            · refine sX6_copyFrom  hI (show isS 8 by decide) (show isS 1 by decide) ?_
              intro M17_1969 hM17_1969 gM17_1969
              refine ⟨62, ?_⟩
              refine sX11_passes_L88 ?_ ?_ _ _ _ hM17_1969 (by omega) (by omega)
              · exact hQ
              · intro v3_1970 M_1971 hM_1971 p1972
                refine ⟨by omega, ?_⟩
                refine ⟨by omega, ?_⟩
                intro x27_1973 ex27_1973 rx27_1973
                have bx27_1973 : -1 ≤ x27_1973 ∧ x27_1973 ≤ 29 := by rw [ex27_1973]; exact (bx_s1 (show isS 8 by decide)).mp (hM_1971.bx _ _)
                refine sX4_tellOne (p1 := x27_1973) hM_1971  ?_
                intro M28_1974 hM28_1974
                refine ⟨(by first | assumption | exact (by omega)), ?_⟩
                exact hQ _ _ hM28_1974
            · exact hQ _ _ hI
      · exact hQ _ _ hI
theorem sX11_ends_L33 {p1 : Int} {X72 : Int → Mem → Prop} {Q : Int → Mem → Prop} (hQ : ∀ z : Int, ∀ M' : Mem, IX M' → Q z M') (hX72 : ∀ w1 : Int, ∀ M' : Mem, IX M' → (0 ≤ w1 ∧ w1 ≤ 200 ∧ 0 ≤ p1 ∧ p1 ≤ 7) → X72 w1 M') : ∀ (n : Nat) (v2 : Int) (M : Mem), IX M → (0 ≤ v2 ∧ v2 ≤ 200 ∧ 0 ≤ p1 ∧ p1 ≤ 7) → 200 - v2 < (n : Int) → qX11_ends_L33 p1 X72 Q n v2 M := by
  intro n
  induction n with
  | zero => intro v2 M hI hv hm; exact absurd hm (by omega)
  | succ n ih =>
    intro v2 M hI hv hm
    rw [qX11_ends_L33]
    refine ⟨(by first | assumption | exact (by omega)), ?_⟩
    refine ⟨fun c => ?_, fun c => ?_⟩
    · exact hX72 _ _ hI (by omega)
    · refine sX6_hasEnded (p1 := p1) hI (show isS 8 by decide) (by omega) ?_
      intro x7_1979 q1980 q1981
      refine ⟨fun c => ?_, fun c => ?_⟩
      · exact hX72 _ _ hI (by omega)
      · refine ⟨(hI).l16, ?_⟩
        refine sX10_advance  hI (show isS 8 by decide) (hI).l16 ?_
        intro M10_1984 hM10_1984
        exact ih _ _ hM10_1984 (by omega) (by omega)
theorem sX11_ends {p1 : Int} {M : Mem} {Q : Int → Mem → Prop} (hI : IX M) (hQ : ∀ z : Int, ∀ M' : Mem, IX M' → Q z M') : qX11_ends p1 M Q := by
  unfold qX11_ends
  refine sX6_isMourner (p1 := p1) hI (show isS 1 by decide) ?_
  intro x1_1985 p1986 q1987 q1988
  refine ⟨fun c => ?_, fun c => ?_⟩
  · refine sX6_copyFrom  hI (show isS 8 by decide) (show isS 1 by decide) ?_
    intro M3_1990 hM3_1990 gM3_1990
    refine sX10_forgetTallies  hM3_1990  ?_
    intro M4_1991 hM4_1991
    refine ⟨201, ?_⟩
    refine sX11_ends_L33 ?_ ?_ _ _ _ hM4_1991 (by omega) (by omega)
    · exact hQ
    · intro v2_1992 M_1993 hM_1993 p1994
      unfold qX11_ends_J72
      refine sX6_hasEnded (p1 := p1) hM_1993 (show isS 8 by decide) (by omega) ?_
      intro x12_1995 q1996 q1997
      refine ⟨fun c => ?_, fun c => ?_⟩
      · refine ⟨(by first | assumption | exact (by omega)), ?_⟩
        refine ⟨by omega, ?_⟩
        refine ⟨by omega, ?_⟩
        intro x17_1999 ex17_1999 rx17_1999
        have bx17_1999 : -2147483648 ≤ x17_1999 ∧ x17_1999 ≤ 2147483647 := rx17_1999
        refine sX4_tellTwo (p1 := v2_1992) (p3 := x17_1999) hM_1993  ?_
        intro M18_2000 hM18_2000
        intro x19_2001 ex19_2001 rx19_2001
        have bx19_2001 : -2147483648 ≤ x19_2001 ∧ x19_2001 ≤ 2147483647 := rx19_2001
        exact hQ _ _ hM18_2000
      · exact hQ _ _ hM_1993
  · exact hQ _ _ hI
theorem sX2_period {k0 : Nat} {M : Mem} {Q : Int → Mem → Prop} (hI : IX M) (hk0 : isL k0) (hQ : ∀ z : Int, (0 ≤ z ∧ z ≤ 200) → Q z M) : qX2_period k0 M Q := by
  unfold qX2_period
  have ek0 : k0 = 187 ∨ k0 = 192 := hk0
  refine sX2_uses (p1 := 4) hI hk0 ?_
  intro x1_2004 q2005 q2006
  refine ⟨fun c => ?_, fun c => ?_⟩
  · unfold qX2_period_J14
    refine sX2_uses (p1 := 3) hI hk0 ?_
    intro x3_2008 q2009 q2010
    refine ⟨fun c => ?_, fun c => ?_⟩
    · refine ⟨(by first | assumption | exact (by omega)), ?_⟩
      exact hQ _ (by omega)
    · intro x6_2013 ex6_2013 rx6_2013
      have bx6_2013 : 0 ≤ x6_2013 ∧ x6_2013 ≤ 20 := by rw [ex6_2013]; exact (bx_c158_3).mp (hI.bx _ _)
      refine ⟨(by first | assumption | exact (by omega)), ?_⟩
      exact hQ _ (by omega)
  · unfold qX2_period_J14
    refine sX2_uses (p1 := 3) hI hk0 ?_
    intro x3_2015 q2016 q2017
    refine ⟨fun c => ?_, fun c => ?_⟩
    · refine ⟨(by first | assumption | exact (by omega)), ?_⟩
      exact hQ _ (by omega)
    · intro x6_2020 ex6_2020 rx6_2020
      have bx6_2020 : 0 ≤ x6_2020 ∧ x6_2020 ≤ 20 := by rw [ex6_2020]; exact (bx_c158_3).mp (hI.bx _ _)
      refine ⟨(by first | assumption | exact (by omega)), ?_⟩
      exact hQ _ (by omega)
theorem sX10_toEnd_L15 {k1 : Nat} {k2 : Nat}  {Q : Mem → Prop} (hk1 : isS k1) (hk2 : isL k2) (hQ : ∀ M' : Mem, IX M' → Q M') : ∀ (n : Nat) (v3 v4 v5 : Int) (M : Mem), IX M → (0 ≤ v3 ∧ v3 ≤ 200 ∧ 0 ≤ v4 ∧ v4 ≤ v5 ∧ 0 ≤ v5 ∧ v5 ≤ 200) → 200 - v5 < (n : Int) → qX10_toEnd_L15 k1 k2 Q n v3 v4 v5 M := by
  intro n
  induction n with
  | zero => intro v3 v4 v5 M hI hv hm; exact absurd hm (by omega)
  | succ n ih =>
    intro v3 v4 v5 M hI hv hm
    rw [qX10_toEnd_L15]
    have ek1 : 0 < k1 ∧ k1 < 155 ∧ (k1 - 1) % 7 = 0 := hk1
    have ek2 : k2 = 187 ∨ k2 = 192 := hk2
    refine ⟨(by first | assumption | exact (by omega)), ?_⟩
    refine ⟨fun c => ?_, fun c => ?_⟩
    · exact hQ _ hI
    · refine ⟨(by first | assumption | exact (by omega)), ?_⟩
      refine ⟨(by first | assumption | exact (by omega)), ?_⟩
      refine ⟨fun c => ?_, fun c => ?_⟩
      · exact hQ _ hI
      · intro x7_2025 ex7_2025 rx7_2025
        have bx7_2025 : -2147483648 ≤ x7_2025 ∧ x7_2025 ≤ 2147483647 := rx7_2025
        intro x8_2026 ex8_2026 rx8_2026
        have bx8_2026 : 0 ≤ x8_2026 ∧ x8_2026 ≤ 8 := by rw [ex8_2026]; exact (bx_s0_7 hk1).mp (hI.bx _ _)
        refine ⟨fun c => ?_, fun c => ?_⟩
        · exact hQ _ hI
        · intro x10_2029 ex10_2029 rx10_2029
          have bx10_2029 : -2147483648 ≤ x10_2029 ∧ x10_2029 ≤ 2147483647 := rx10_2029
          intro x11_2030 ex11_2030 rx11_2030
          have bx11_2030 : 0 ≤ x11_2030 ∧ x11_2030 ≤ 6 := by rw [ex11_2030]; exact (bx_s0_6 hk1).mp (hI.bx _ _)
          refine ⟨fun c => ?_, fun c => ?_⟩
          · refine sX10_advance  hI hk1 hk2 ?_
            intro M13_2032 hM13_2032
            intro x14_2033 ex14_2033 rx14_2033
            have bx14_2033 : -2147483648 ≤ x14_2033 ∧ x14_2033 ≤ 2147483647 := rx14_2033
            refine ⟨fun c => ?_, fun c => ?_⟩
            · exact ih _ _ _ _ hM13_2032 (by omega) (by omega)
            · exact ih _ _ _ _ hM13_2032 (by omega) (by omega)
          · exact hQ _ hI
theorem sX10_toEnd {k1 : Nat} {k2 : Nat} {M : Mem} {Q : Mem → Prop} (hI : IX M) (hk1 : isS k1) (hk2 : isL k2) (hQ : ∀ M' : Mem, IX M' → Q M') : qX10_toEnd k1 k2 M Q := by
  unfold qX10_toEnd
  have ek1 : 0 < k1 ∧ k1 < 155 ∧ (k1 - 1) % 7 = 0 := hk1
  have ek2 : k2 = 187 ∨ k2 = 192 := hk2
  refine sX2_period  hI hk2 ?_
  intro x1_2037 p2038 q2039
  refine ⟨201, ?_⟩
  refine sX10_toEnd_L15 hk1 hk2 ?_ _ _ _ _ _ hI (by omega) (by omega)
  · exact hQ
theorem sX6_isRight {k0 : Nat} {p1 : Int} {M : Mem} {Q : Int → Mem → Prop} (hI : IX M) (hk0 : isS k0) (hp : 0 ≤ p1 ∧ p1 ≤ 7) (hQ : ∀ z : Int, Q z M) : qX6_isRight k0 p1 M Q := by
  unfold qX6_isRight
  have ek0 : 0 < k0 ∧ k0 < 155 ∧ (k0 - 1) % 7 = 0 := hk0
  refine ⟨by omega, ?_⟩
  refine ⟨by omega, ?_⟩
  intro x3_2040 ex3_2040 rx3_2040
  have bx3_2040 : -2147483648 ≤ x3_2040 ∧ x3_2040 ≤ 2147483647 := rx3_2040
  intro x4_2041 ex4_2041 rx4_2041
  have bx4_2041 : 0 ≤ x4_2041 ∧ x4_2041 ≤ 5 := by rw [ex4_2041]; exact (bx_s4 hk0).mp (hI.bx _ _)
  refine ⟨fun c => ?_, fun c => ?_⟩
  · exact hQ _
  · exact hQ _
theorem sX6_rightBits_L4 {k0 : Nat}  {Q : Int → Mem → Prop} {M0 : Mem} (hk0 : isS k0) (hQ : ∀ z : Int, Q z M0) : ∀ (n : Nat) (v1 v2 : Int), IX M0 → (0 ≤ v2 ∧ v2 ≤ 8) → iR v1 → 8 - v2 < (n : Int) → qX6_rightBits_L4 k0 Q n v1 v2 M0 := by
  intro n
  induction n with
  | zero => intro v1 v2 hI hv hrv1 hm; exact absurd hm (by omega)
  | succ n ih =>
    intro v1 v2 hI hv hrv1 hm
    rw [qX6_rightBits_L4]
    have ek0 : 0 < k0 ∧ k0 < 155 ∧ (k0 - 1) % 7 = 0 := hk0
    intro x1_2044 ex1_2044 rx1_2044
    have bx1_2044 : 0 ≤ x1_2044 ∧ x1_2044 ≤ 8 := by rw [ex1_2044]; exact (bx_s0_7 hk0).mp (hI.bx _ _)
    refine ⟨(by first | assumption | exact (by omega)), ?_⟩
    refine ⟨fun c => ?_, fun c => ?_⟩
    · refine ⟨(by first | assumption | exact (by omega)), ?_⟩
      exact hQ _
    · refine sX6_isRight (p1 := v2) hI hk0 (by omega) ?_
      intro x5_2047 q2048 q2049
      refine ⟨fun c => ?_, fun c => ?_⟩
      · intro x7_2051 ex7_2051 rx7_2051
        first | (have fx7_2051 := oI_64 (a := v1) (b := 0) (by omega) (by omega); rw [← ex7_2051] at fx7_2051) | skip
        exact ih _ _ hI (by omega) (by first | assumption | exact (by omega)) (by omega)
      · intro x8_2053 ex8_2053 rx8_2053
        first | (have fx8_2053 := slI_1 (b := v2) (by omega); rw [← ex8_2053] at fx8_2053) | skip
        intro x9_2054 ex9_2054 rx9_2054
        first | (have fx9_2054 := oI_64 (a := v1) (b := x8_2053) (by omega) (by omega); rw [← ex9_2054] at fx9_2054) | skip
        exact ih _ _ hI (by omega) (by first | assumption | exact (by omega)) (by omega)
theorem sX6_rightBits {k0 : Nat} {M : Mem} {Q : Int → Mem → Prop} (hI : IX M) (hk0 : isS k0) (hQ : ∀ z : Int, Q z M) : qX6_rightBits k0 M Q := by
  unfold qX6_rightBits
  have ek0 : 0 < k0 ∧ k0 < 155 ∧ (k0 - 1) % 7 = 0 := hk0
  refine ⟨9, ?_⟩
  refine sX6_rightBits_L4 hk0 ?_ _ _ _ hI (by omega) (by first | assumption | exact (by omega)) (by omega)
  · exact hQ
theorem sX11_rightOnesOfTrial {k1 : Nat} {M : Mem} {Q : Int → Mem → Prop} (hI : IX M) (hk1 : isL k1) (hQ : ∀ z : Int, ∀ M' : Mem, IX M' → Q z M') : qX11_rightOnesOfTrial k1 M Q := by
  unfold qX11_rightOnesOfTrial
  have ek1 : k1 = 187 ∨ k1 = 192 := hk1
  refine sX10_toEnd  hI (show isS 8 by decide) hk1 ?_
  intro M1_2055 hM1_2055
  refine sX6_rightBits  hM1_2055 (show isS 8 by decide) ?_
  intro x2_2056 q2057
  exact hQ _ _ hM1_2055
theorem sX6_wrongBits_L4 {k0 : Nat}  {Q : Int → Mem → Prop} {M0 : Mem} (hk0 : isS k0) (hQ : ∀ z : Int, Q z M0) : ∀ (n : Nat) (v1 v2 : Int), IX M0 → (0 ≤ v2 ∧ v2 ≤ 8) → iR v1 → 8 - v2 < (n : Int) → qX6_wrongBits_L4 k0 Q n v1 v2 M0 := by
  intro n
  induction n with
  | zero => intro v1 v2 hI hv hrv1 hm; exact absurd hm (by omega)
  | succ n ih =>
    intro v1 v2 hI hv hrv1 hm
    rw [qX6_wrongBits_L4]
    have ek0 : 0 < k0 ∧ k0 < 155 ∧ (k0 - 1) % 7 = 0 := hk0
    intro x1_2058 ex1_2058 rx1_2058
    have bx1_2058 : 0 ≤ x1_2058 ∧ x1_2058 ≤ 8 := by rw [ex1_2058]; exact (bx_s0_7 hk0).mp (hI.bx _ _)
    refine ⟨(by first | assumption | exact (by omega)), ?_⟩
    refine ⟨fun c => ?_, fun c => ?_⟩
    · refine ⟨(by first | assumption | exact (by omega)), ?_⟩
      exact hQ _
    · refine sX6_hasEnded (p1 := v2) hI hk0 (by omega) ?_
      intro x5_2061 q2062 q2063
      refine ⟨fun c => ?_, fun c => ?_⟩
      · intro x7_2065 ex7_2065 rx7_2065
        first | (have fx7_2065 := oI_64 (a := v1) (b := 0) (by omega) (by omega); rw [← ex7_2065] at fx7_2065) | skip
        exact ih _ _ hI (by omega) (by first | assumption | exact (by omega)) (by omega)
      · refine sX6_isRight (p1 := v2) hI hk0 (by omega) ?_
        intro x8_2067 q2068 q2069
        refine ⟨fun c => ?_, fun c => ?_⟩
        · intro x10_2071 ex10_2071 rx10_2071
          first | (have fx10_2071 := oI_64 (a := v1) (b := 0) (by omega) (by omega); rw [← ex10_2071] at fx10_2071) | skip
          exact ih _ _ hI (by omega) (by first | assumption | exact (by omega)) (by omega)
        · intro x11_2073 ex11_2073 rx11_2073
          first | (have fx11_2073 := slI_1 (b := v2) (by omega); rw [← ex11_2073] at fx11_2073) | skip
          intro x12_2074 ex12_2074 rx12_2074
          first | (have fx12_2074 := oI_64 (a := v1) (b := x11_2073) (by omega) (by omega); rw [← ex12_2074] at fx12_2074) | skip
          exact ih _ _ hI (by omega) (by first | assumption | exact (by omega)) (by omega)
theorem sX6_wrongBits {k0 : Nat} {M : Mem} {Q : Int → Mem → Prop} (hI : IX M) (hk0 : isS k0) (hQ : ∀ z : Int, Q z M) : qX6_wrongBits k0 M Q := by
  unfold qX6_wrongBits
  have ek0 : 0 < k0 ∧ k0 < 155 ∧ (k0 - 1) % 7 = 0 := hk0
  refine ⟨9, ?_⟩
  refine sX6_wrongBits_L4 hk0 ?_ _ _ _ hI (by omega) (by first | assumption | exact (by omega)) (by omega)
  · exact hQ
theorem sX11_right  {M : Mem} {Q : Int → Mem → Prop} (hI : IX M) (hQ : ∀ z : Int, ∀ M' : Mem, IX M' → Q z M') : qX11_right M Q := by
  unfold qX11_right
  refine sX6_copyFrom  hI (show isS 8 by decide) (show isS 1 by decide) ?_
  intro M1_2075 hM1_2075 gM1_2075
  refine ⟨(hM1_2075).l16, ?_⟩
  refine sX11_rightOnesOfTrial  hM1_2075 (hM1_2075).l16 ?_
  intro x3_2076 M3_2077 hM3_2077 q2078
  refine sX6_wrongBits  hM3_2077 (show isS 8 by decide) ?_
  intro x4_2079 q2080
  refine sX4_tellTwo (p1 := x3_2076) (p3 := x4_2079) hM3_2077  ?_
  intro M5_2081 hM5_2081
  refine sJ6_bitCount_0f7a4 (p0 := x3_2076) hM5_2081  ?_
  intro x6_2082 p2083 q2084
  exact hQ _ _ hM5_2081
theorem sX3_begin_L7 {k1 : Nat}  {Q : Mem → Prop} (hk1 : isS k1) (hQ : ∀ M' : Mem, IX M' → Q M') : ∀ (n : Nat) (v3 : Int) (M : Mem), IX M → (0 ≤ v3 ∧ v3 ≤ 30) → 30 - v3 < (n : Int) → qX3_begin_L7 k1 Q n v3 M := by
  intro n
  induction n with
  | zero => intro v3 M hI hv hm; exact absurd hm (by omega)
  | succ n ih =>
    intro v3 M hI hv hm
    rw [qX3_begin_L7]
    have ek1 : 0 < k1 ∧ k1 < 155 ∧ (k1 - 1) % 7 = 0 := hk1
    intro x2_2085 ex2_2085 rx2_2085
    have bx2_2085 : 4 ≤ x2_2085 ∧ x2_2085 ≤ 30 := by rw [ex2_2085]; exact (bx_c158_1).mp (hI.bx _ _)
    refine ⟨(by first | assumption | exact (by omega)), ?_⟩
    refine ⟨fun c => ?_, fun c => ?_⟩
    · exact hQ _ hI
    · intro x5_2088 ex5_2088 rx5_2088
      have bx5_2088 : 0 ≤ x5_2088 ∧ x5_2088 ≤ 6 := by rw [ex5_2088]; exact (bx_c179_2).mp (hI.bx _ _)
      refine ⟨fun c => ?_, fun c => ?_⟩
      · exact hQ _ hI
      · refine sX6_hearseOn (p1 := v3) hI hk1 ?_
        intro x7_2091 p2092 q2093
        refine ⟨fun c => ?_, fun c => ?_⟩
        · exact ih _ _ hI (by omega) (by omega)
        · intro x9_2096 ex9_2096 rx9_2096
          have bx9_2096 : 0 ≤ x9_2096 ∧ x9_2096 ≤ 6 := by rw [ex9_2096]; exact (bx_c179_2).mp (hI.bx _ _)
          refine ⟨by omega, ?_⟩
          refine ⟨by omega, ?_⟩
          intro M12_2097 h_M12_2097
          have hM12_2097 : IX M12_2097 := by rw [h_M12_2097]; exact hI.up (by decide) ((bx_c180).mpr (by omega))
          intro x13_2098 ex13_2098 rx13_2098
          have bx13_2098 : 0 ≤ x13_2098 ∧ x13_2098 ≤ 6 := by rw [ex13_2098]; exact (bx_c179_2).mp (hM12_2097.bx _ _)
          have fx13_2098 : x13_2098 = M 179 2 := by rw [ex13_2098, h_M12_2097, up2_n (by decide)]
          refine ⟨(by first | assumption | exact (by omega)), ?_⟩
          intro M15_2099 h_M15_2099
          have hM15_2099 : IX M15_2099 := by rw [h_M15_2099]; exact hM12_2097.up (by decide) ((bx_c179_2).mpr (by omega))
          exact ih _ _ hM15_2099 (by omega) (by omega)
theorem sX3_begin {k1 : Nat} {M : Mem} {Q : Mem → Prop} (hI : IX M) (hk1 : isS k1) (hQ : ∀ M' : Mem, IX M' → Q M') : qX3_begin k1 M Q := by
  unfold qX3_begin
  have ek1 : 0 < k1 ∧ k1 < 155 ∧ (k1 - 1) % 7 = 0 := hk1
  intro M1_2100 h_M1_2100
  have hM1_2100 : IX M1_2100 := by rw [h_M1_2100]; exact hI.up (by decide) ((bx_c179_2).mpr (by omega))
  refine ⟨31, ?_⟩
  refine sX3_begin_L7 hk1 ?_ _ _ _ hM1_2100 (by omega) (by omega)
  · exact hQ
theorem sX3_markBest  {M : Mem} {Q : Mem → Prop} (hI : IX M) (hQ : ∀ M' : Mem, IX M' → Q M') : qX3_markBest M Q := by
  unfold qX3_markBest
  intro M1_2101 h_M1_2101
  have hM1_2101 : IX M1_2101 := by rw [h_M1_2101]; exact hI.cp180_181
  exact hQ _ hM1_2101
theorem sX3_exchangeCells {p1 : Int} {p2 : Int} {M : Mem} {Q : Mem → Prop} (hI : IX M) (hp : 0 ≤ p1 ∧ p1 ≤ 5 ∧ 0 ≤ p2 ∧ p2 ≤ 5) (hQ : ∀ M' : Mem, IX M' → Q M') : qX3_exchangeCells p1 p2 M Q := by
  unfold qX3_exchangeCells
  refine ⟨by omega, ?_⟩
  refine ⟨by omega, ?_⟩
  intro x3_2102 ex3_2102 rx3_2102
  have bx3_2102 : 0 ≤ x3_2102 ∧ x3_2102 ≤ 29 := by rw [ex3_2102]; exact (bx_c180).mp (hI.bx _ _)
  refine ⟨by omega, ?_⟩
  refine ⟨by omega, ?_⟩
  intro x6_2103 ex6_2103 rx6_2103
  have bx6_2103 : 0 ≤ x6_2103 ∧ x6_2103 ≤ 29 := by rw [ex6_2103]; exact (bx_c180).mp (hI.bx _ _)
  intro M7_2104 h_M7_2104
  have hM7_2104 : IX M7_2104 := by rw [h_M7_2104]; exact hI.up (by decide) ((bx_c180).mpr (by omega))
  intro M8_2105 h_M8_2105
  have hM8_2105 : IX M8_2105 := by rw [h_M8_2105]; exact hM7_2104.up (by decide) ((bx_c180).mpr (by omega))
  exact hQ _ hM8_2105
theorem sX3_toNext_L7  {X34 : Int → Mem → Prop} {Q : Int → Mem → Prop} (hQ : ∀ z : Int, ∀ M' : Mem, IX M' → Q z M') (hX34 : ∀ w1 : Int, ∀ M' : Mem, IX M' → (-2 ≤ w1 ∧ w1 ≤ 4 ∧ w1 + 2 ≤ M' 179 2) → X34 w1 M') : ∀ (n : Nat) (v1 : Int) (M : Mem), IX M → (-2 ≤ v1 ∧ v1 ≤ 4 ∧ v1 + 2 ≤ M 179 2) → v1 + 2 < (n : Int) → qX3_toNext_L7 X34 Q n v1 M := by
  intro n
  induction n with
  | zero => intro v1 M hI hv hm; exact absurd hm (by omega)
  | succ n ih =>
    intro v1 M hI hv hm
    rw [qX3_toNext_L7]
    refine ⟨(by first | assumption | exact (by omega)), ?_⟩
    refine ⟨fun c => ?_, fun c => ?_⟩
    · exact hX34 _ _ hI (by omega)
    · refine ⟨by omega, ?_⟩
      refine ⟨by omega, ?_⟩
      intro x6_2108 ex6_2108 rx6_2108
      have bx6_2108 : 0 ≤ x6_2108 ∧ x6_2108 ≤ 29 := by rw [ex6_2108]; exact (bx_c180).mp (hI.bx _ _)
      refine ⟨by omega, ?_⟩
      refine ⟨by omega, ?_⟩
      intro x9_2109 ex9_2109 rx9_2109
      have bx9_2109 : 0 ≤ x9_2109 ∧ x9_2109 ≤ 29 := by rw [ex9_2109]; exact (bx_c180).mp (hI.bx _ _)
      refine ⟨fun c => ?_, fun c => ?_⟩
      · exact hX34 _ _ hI (by omega)
      · exact ih _ _ hI (by omega) (by omega)
theorem sX3_toNext_L47  {X73 : Int → Int → Mem → Prop} {Q : Int → Mem → Prop} (hQ : ∀ z : Int, ∀ M' : Mem, IX M' → Q z M') (hX73 : ∀ w1 w2 : Int, ∀ M' : Mem, IX M' → (0 ≤ w1 ∧ w1 ≤ 4 ∧ w1 ≤ w2 ∧ w2 ≤ 5) → X73 w1 w2 M') : ∀ (n : Nat) (v1 v2 : Int) (M : Mem), IX M → (0 ≤ v1 ∧ v1 ≤ 4 ∧ v1 ≤ v2 ∧ v2 ≤ 5) → v2 < (n : Int) → qX3_toNext_L47 X73 Q n v1 v2 M := by
  intro n
  induction n with
  | zero => intro v1 v2 M hI hv hm; exact absurd hm (by omega)
  | succ n ih =>
    intro v1 v2 M hI hv hm
    rw [qX3_toNext_L47]
    refine ⟨(by first | assumption | exact (by omega)), ?_⟩
    refine ⟨(by first | assumption | exact (by omega)), ?_⟩
    refine ⟨fun c => ?_, fun c => ?_⟩
    · exact hX73 _ _ _ hI (by omega)
    · refine ⟨by omega, ?_⟩
      refine ⟨by omega, ?_⟩
      intro x20_2114 ex20_2114 rx20_2114
      have bx20_2114 : 0 ≤ x20_2114 ∧ x20_2114 ≤ 29 := by rw [ex20_2114]; exact (bx_c180).mp (hI.bx _ _)
      refine ⟨by omega, ?_⟩
      refine ⟨by omega, ?_⟩
      intro x23_2115 ex23_2115 rx23_2115
      have bx23_2115 : 0 ≤ x23_2115 ∧ x23_2115 ≤ 29 := by rw [ex23_2115]; exact (bx_c180).mp (hI.bx _ _)
      refine ⟨fun c => ?_, fun c => ?_⟩
      · exact hX73 _ _ _ hI (by omega)
      · exact ih _ _ _ hI (by omega) (by omega)
theorem sX3_toNext_L91   {Q : Int → Mem → Prop} (hQ : ∀ z : Int, ∀ M' : Mem, IX M' → Q z M') : ∀ (n : Nat) (v3 v4 : Int) (M : Mem), IX M → (0 ≤ v3 ∧ v3 ≤ 6 ∧ -1 ≤ v4 ∧ v4 ≤ 5) → 6 - v3 < (n : Int) → qX3_toNext_L91 Q n v3 v4 M := by
  intro n
  induction n with
  | zero => intro v3 v4 M hI hv hm; exact absurd hm (by omega)
  | succ n ih =>
    intro v3 v4 M hI hv hm
    rw [qX3_toNext_L91]
    refine ⟨(by first | assumption | exact (by omega)), ?_⟩
    refine ⟨(by first | assumption | exact (by omega)), ?_⟩
    refine ⟨fun c => ?_, fun c => ?_⟩
    · exact hQ _ _ hI
    · refine sX3_exchangeCells (p1 := v3) (p2 := v4) hI (by omega) ?_
      intro M33_2120 hM33_2120
      exact ih _ _ _ hM33_2120 (by omega) (by omega)
theorem sX3_toNext  {M : Mem} {Q : Int → Mem → Prop} (hI : IX M) (hQ : ∀ z : Int, ∀ M' : Mem, IX M' → Q z M') : qX3_toNext M Q := by
  unfold qX3_toNext
  intro x1_2121 ex1_2121 rx1_2121
  have bx1_2121 : 0 ≤ x1_2121 ∧ x1_2121 ≤ 6 := by rw [ex1_2121]; exact (bx_c179_2).mp (hI.bx _ _)
  refine ⟨7, ?_⟩
  refine sX3_toNext_L7 ?_ ?_ _ _ _ hI (by omega) (by omega)
  · exact hQ
  · intro v1_2122 M_2123 hM_2123 p2124
    unfold qX3_toNext_J34
    refine ⟨(by first | assumption | exact (by omega)), ?_⟩
    refine ⟨fun c => ?_, fun c => ?_⟩
    · intro x14_2126 ex14_2126 rx14_2126
      have bx14_2126 : 0 ≤ x14_2126 ∧ x14_2126 ≤ 6 := by rw [ex14_2126]; exact (bx_c179_2).mp (hM_2123.bx _ _)
      refine ⟨6, ?_⟩
      refine sX3_toNext_L47 ?_ ?_ _ _ _ _ hM_2123 (by omega) (by omega)
      · exact hQ
      · intro v1_2127 v2_2128 M_2129 hM_2129 p2130
        unfold qX3_toNext_J73
        refine ⟨(by first | assumption | exact (by omega)), ?_⟩
        refine ⟨(by first | assumption | exact (by omega)), ?_⟩
        refine sX3_exchangeCells (p1 := v1_2127) (p2 := v2_2128) hM_2129 (by omega) ?_
        intro M28_2131 hM28_2131
        intro x29_2132 ex29_2132 rx29_2132
        have bx29_2132 : 0 ≤ x29_2132 ∧ x29_2132 ≤ 6 := by rw [ex29_2132]; exact (bx_c179_2).mp (hM28_2131.bx _ _)
        refine ⟨7, ?_⟩
        refine sX3_toNext_L91 ?_ _ _ _ _ hM28_2131 (by omega) (by omega)
        · exact hQ
    · exact hQ _ _ hM_2123
theorem sX6_placeHearses_L4 {k0 : Nat}  {Q : Mem → Prop} (hk0 : isS k0) (hQ : ∀ M' : Mem, IX M' → Q M') : ∀ (n : Nat) (v2 v3 : Int) (M : Mem), IX M → (0 ≤ v2 ∧ v2 ≤ v3 ∧ v3 ≤ 6) → 6 - v3 < (n : Int) → qX6_placeHearses_L4 k0 180 Q n v2 v3 M := by
  intro n
  induction n with
  | zero => intro v2 v3 M hI hv hm; exact absurd hm (by omega)
  | succ n ih =>
    intro v2 v3 M hI hv hm
    rw [qX6_placeHearses_L4]
    have ek0 : 0 < k0 ∧ k0 < 155 ∧ (k0 - 1) % 7 = 0 := hk0
    intro x1_2134 ex1_2134 rx1_2134
    have bx1_2134 : 0 ≤ x1_2134 ∧ x1_2134 ≤ 6 := by rw [ex1_2134]; exact (bx_s0_6 hk0).mp (hI.bx _ _)
    refine ⟨(by first | assumption | exact (by omega)), ?_⟩
    refine ⟨fun c => ?_, fun c => ?_⟩
    · exact hQ _ hI
    · refine sX6_hasArrived (p1 := v3) hI hk0 (by omega) ?_
      intro x4_2137 q2138 q2139
      refine ⟨fun c => ?_, fun c => ?_⟩
      · exact ih _ _ _ hI (by omega) (by omega)
      · refine ⟨by omega, ?_⟩
        refine ⟨by omega, ?_⟩
        intro x8_2142 ex8_2142 rx8_2142
        have bx8_2142 : 0 ≤ x8_2142 ∧ x8_2142 ≤ 29 := by rw [ex8_2142]; exact (bx_c180).mp (hI.bx _ _)
        refine ⟨by omega, ?_⟩
        refine ⟨by omega, ?_⟩
        intro M11_2143 h_M11_2143
        have hM11_2143 : IX M11_2143 := by rw [h_M11_2143]; exact hI.up (isS.nsp hk0 1 (by decide)) ((bx_s1 hk0).mpr (by omega))
        exact ih _ _ _ hM11_2143 (by omega) (by omega)
theorem sX6_placeHearses {k0 : Nat} {M : Mem} {Q : Mem → Prop} (hI : IX M) (hk0 : isS k0) (hQ : ∀ M' : Mem, IX M' → Q M') : qX6_placeHearses k0 180 M Q := by
  unfold qX6_placeHearses
  have ek0 : 0 < k0 ∧ k0 < 155 ∧ (k0 - 1) % 7 = 0 := hk0
  refine ⟨7, ?_⟩
  refine sX6_placeHearses_L4 hk0 ?_ _ _ _ _ hI (by omega) (by omega)
  · exact hQ
theorem sX11_order_L21  {X111 : Int → Mem → Prop} {Q : Int → Mem → Prop} (hQ : ∀ z : Int, ∀ M' : Mem, IX M' → Q z M') (hX111 : ∀ w1 : Int, ∀ M' : Mem, IX M' → (-1 ≤ w1 ∧ w1 ≤ 63) → X111 w1 M') : ∀ (n : Nat) (v1 v2 v3 : Int) (M : Mem), IX M → (-1 ≤ v1 ∧ v1 ≤ 63 ∧ 0 ≤ v2 ∧ v2 ≤ 1 ∧ 0 ≤ v3 ∧ v3 ≤ 720) → 720 - v3 < (n : Int) → qX11_order_L21 X111 Q n v1 v2 v3 M := by
  intro n
  induction n with
  | zero => intro v1 v2 v3 M hI hv hm; exact absurd hm (by omega)
  | succ n ih =>
    intro v1 v2 v3 M hI hv hm
    rw [qX11_order_L21]
    refine ⟨(by first | assumption | exact (by omega)), ?_⟩
    refine ⟨fun c => ?_, fun c => ?_⟩
    · exact hX111 _ _ hI (by omega)
    · refine ⟨(by first | assumption | exact (by omega)), ?_⟩
      refine ⟨fun c => ?_, fun c => ?_⟩
      · exact hX111 _ _ hI (by omega)
      · intro x6_2148 ex6_2148 rx6_2148
        have bx6_2148 : 0 ≤ x6_2148 ∧ x6_2148 ≤ 8 := by rw [ex6_2148]; exact (bx_s0_7 (show isS 1 by decide)).mp (hI.bx _ _)
        refine ⟨(by first | assumption | exact (by omega)), ?_⟩
        refine ⟨fun c => ?_, fun c => ?_⟩
        · exact hX111 _ _ hI (by omega)
        · refine sX6_copyFrom  hI (show isS 8 by decide) (show isS 1 by decide) ?_
          intro M9_2151 hM9_2151 gM9_2151
          refine sX6_placeHearses  hM9_2151 (show isS 8 by decide) ?_
          intro M10_2152 hM10_2152
          refine ⟨(hM10_2152).l16, ?_⟩
          refine sX11_rightOnesOfTrial  hM10_2152 (hM10_2152).l16 ?_
          intro x12_2153 M12_2154 hM12_2154 q2155
          refine sJ6_bitCount_0f7a4 (p0 := x12_2153) hM12_2154  ?_
          intro x13_2156 p2157 q2158
          refine ⟨fun c => ?_, fun c => ?_⟩
          · unfold qX11_order_J97
            refine sX3_toNext  hM12_2154  ?_
            intro x15_2160 M15_2161 hM15_2161 q2162 q2163
            exact ih _ _ _ _ hM15_2161 (by omega) (by omega)
          · refine sX3_markBest  hM12_2154  ?_
            intro M16_2165 hM16_2165
            unfold qX11_order_J97
            refine sX3_toNext  hM16_2165  ?_
            intro x15_2166 M15_2167 hM15_2167 q2168 q2169
            exact ih _ _ _ _ hM15_2167 (by omega) (by omega)
theorem sX11_order_L120   {Q : Int → Mem → Prop} (hQ : ∀ z : Int, ∀ M' : Mem, IX M' → Q z M') : ∀ (n : Nat) (v1 v3 : Int) (M : Mem), IX M → (-1 ≤ v1 ∧ v1 ≤ 63 ∧ 0 ≤ v3 ∧ v3 ≤ 6) → 6 - v3 < (n : Int) → qX11_order_L120 Q n v1 v3 M := by
  intro n
  induction n with
  | zero => intro v1 v3 M hI hv hm; exact absurd hm (by omega)
  | succ n ih =>
    intro v1 v3 M hI hv hm
    rw [qX11_order_L120]
    intro x19_2170 ex19_2170 rx19_2170
    have bx19_2170 : 0 ≤ x19_2170 ∧ x19_2170 ≤ 6 := by rw [ex19_2170]; exact (bx_c179_2).mp (hI.bx _ _)
    refine ⟨(by first | assumption | exact (by omega)), ?_⟩
    refine ⟨fun c => ?_, fun c => ?_⟩
    · refine ⟨(by first | assumption | exact (by omega)), ?_⟩
      exact hQ _ _ hI
    · refine ⟨by omega, ?_⟩
      refine ⟨by omega, ?_⟩
      intro x25_2173 ex25_2173 rx25_2173
      have bx25_2173 : -2147483648 ≤ x25_2173 ∧ x25_2173 ≤ 2147483647 := rx25_2173
      refine sX4_add (p1 := x25_2173) hI  ?_
      intro M26_2174 hM26_2174
      exact ih _ _ _ hM26_2174 (by omega) (by omega)
theorem sX11_order  {M : Mem} {Q : Int → Mem → Prop} (hI : IX M) (hQ : ∀ z : Int, ∀ M' : Mem, IX M' → Q z M') : qX11_order M Q := by
  unfold qX11_order
  refine sX3_begin  hI (show isS 1 by decide) ?_
  intro M1_2175 hM1_2175
  refine ⟨721, ?_⟩
  refine sX11_order_L21 ?_ ?_ _ _ _ _ _ hM1_2175 (by omega) (by omega)
  · exact hQ
  · intro v1_2176 M_2177 hM_2177 p2178
    unfold qX11_order_J111
    refine sX4_clear  hM_2177  ?_
    intro M18_2179 hM18_2179
    refine ⟨7, ?_⟩
    refine sX11_order_L120 ?_ _ _ _ _ hM18_2179 (by omega) (by omega)
    · exact hQ
theorem sX11_stands_L42 {p1 : Int} {X117 : Int → Int → Mem → Prop} {Q : Int → Mem → Prop} (hQ : ∀ z : Int, ∀ M' : Mem, IX M' → Q z M') (hX117 : ∀ w1 w2 : Int, ∀ M' : Mem, IX M' → (-1 ≤ w1 ∧ w1 ≤ 29 ∧ 0 ≤ w2 ∧ w2 ≤ 29) → X117 w1 w2 M') : ∀ (n : Nat) (v2 v3 v4 : Int) (M : Mem), IX M → (-1 ≤ v2 ∧ v2 ≤ 29 ∧ 0 ≤ v3 ∧ v3 + v4 ≤ 28 ∧ -1 ≤ v4 ∧ v4 ≤ 28 ∧ 0 ≤ p1 ∧ p1 ≤ 7) → v4 + 1 < (n : Int) → qX11_stands_L42 p1 X117 Q n v2 v3 v4 M := by
  intro n
  induction n with
  | zero => intro v2 v3 v4 M hI hv hm; exact absurd hm (by omega)
  | succ n ih =>
    intro v2 v3 v4 M hI hv hm
    rw [qX11_stands_L42]
    refine ⟨(by first | assumption | exact (by omega)), ?_⟩
    refine ⟨fun c => ?_, fun c => ?_⟩
    · exact hX117 _ _ _ hI (by omega)
    · refine sX6_copyFrom  hI (show isS 8 by decide) (show isS 1 by decide) ?_
      intro M8_2182 hM8_2182 gM8_2182
      refine ⟨by omega, ?_⟩
      refine ⟨by omega, ?_⟩
      intro M11_2183 h_M11_2183
      have hM11_2183 : IX M11_2183 := by rw [h_M11_2183]; exact hM8_2182.up (isS.nsp (show isS 8 by decide) 3 (by decide)) ((bx_s3 (show isS 8 by decide)).mpr (by omega))
      intro M12_2184 h_M12_2184
      have hM12_2184 : IX M12_2184 := by rw [h_M12_2184]; exact hM11_2183.up (isS.nsp (show isS 8 by decide) 5 (by decide)) ((bx_s5 (show isS 8 by decide)).mpr (by omega))
      refine ⟨(hM12_2184).l16, ?_⟩
      refine sX10_toEnd  hM12_2184 (show isS 8 by decide) (hM12_2184).l16 ?_
      intro M14_2185 hM14_2185
      refine sX6_isRight (p1 := p1) hM14_2185 (show isS 8 by decide) (by omega) ?_
      intro x15_2186 q2187 q2188
      refine ⟨fun c => ?_, fun c => ?_⟩
      · exact ih _ _ _ _ hM14_2185 (by omega) (by omega)
      · exact ih _ _ _ _ hM14_2185 (by omega) (by omega)
theorem sX11_stands {p1 : Int} {M : Mem} {Q : Int → Mem → Prop} (hI : IX M) (hQ : ∀ z : Int, ∀ M' : Mem, IX M' → Q z M') : qX11_stands p1 M Q := by
  unfold qX11_stands
  refine sX6_isMourner (p1 := p1) hI (show isS 1 by decide) ?_
  intro x1_2191 p2192 q2193 q2194
  refine ⟨fun c => ?_, fun c => ?_⟩
  · refine sX6_hasEnded (p1 := p1) hI (show isS 1 by decide) (by omega) ?_
    intro x3_2196 q2197 q2198
    refine ⟨fun c => ?_, fun c => ?_⟩
    · refine sX8_gate  hI  ?_
      intro x5_2200 p2201 q2202
      refine ⟨30, ?_⟩
      refine sX11_stands_L42 ?_ ?_ _ _ _ _ _ hI (by omega) (by omega)
      · exact hQ
      · intro v2_2203 v3_2204 M_2205 hM_2205 p2206
        refine ⟨(by first | assumption | exact (by omega)), ?_⟩
        refine ⟨fun c => ?_, fun c => ?_⟩
        · refine sX4_tellOne (p1 := v3_2204) hM_2205  ?_
          intro M20_2208 hM20_2208
          refine ⟨(by first | assumption | exact (by omega)), ?_⟩
          exact hQ _ _ hM20_2208
        · exact hQ _ _ hM_2205
    · exact hQ _ _ hI
  · exact hQ _ _ hI
theorem sX11_isTurned {p1 : Int} {M : Mem} {Q : Int → Mem → Prop} (hI : IX M) (hp : 0 ≤ p1 ∧ p1 ≤ 7) (hQ : ∀ z : Int, ∀ M' : Mem, IX M' → Q z M') : qX11_isTurned p1 M Q := by
  unfold qX11_isTurned
  refine sX6_hasEnded (p1 := p1) hI (show isS 8 by decide) (by omega) ?_
  intro x1_2212 q2213 q2214
  refine ⟨fun c => ?_, fun c => ?_⟩
  · unfold qX11_isTurned_J36
    unfold qX11_isTurned_J37
    refine ⟨(by first | assumption | exact (by omega)), ?_⟩
    refine ⟨fun c => ?_, fun c => ?_⟩
    · exact hQ _ _ hI
    · refine sX6_turn (p1 := p1) hI (show isS 8 by decide) ?_
      intro x5_2218 M5_2219 hM5_2219 q2220
      refine sX11_isDone (p0 := x5_2218) hM5_2219  ?_
      intro x6_2221 q2222 q2223
      refine ⟨fun c => ?_, fun c => ?_⟩
      · exact hQ _ _ hM5_2219
      · exact hQ _ _ hM5_2219
  · refine ⟨by omega, ?_⟩
    refine ⟨by omega, ?_⟩
    intro x10_2227 ex10_2227 rx10_2227
    have bx10_2227 : -1 ≤ x10_2227 ∧ x10_2227 ≤ 5 := by rw [ex10_2227]; exact (bx_s5 (show isS 8 by decide)).mp (hI.bx _ _)
    intro x11_2228 ex11_2228 rx11_2228
    have bx11_2228 : 0 ≤ x11_2228 ∧ x11_2228 ≤ 5 := by rw [ex11_2228]; exact (bx_s4 (show isS 8 by decide)).mp (hI.bx _ _)
    refine ⟨fun c => ?_, fun c => ?_⟩
    · unfold qX11_isTurned_J36
      unfold qX11_isTurned_J37
      refine ⟨(by first | assumption | exact (by omega)), ?_⟩
      refine ⟨fun c => ?_, fun c => ?_⟩
      · exact hQ _ _ hI
      · refine sX6_turn (p1 := p1) hI (show isS 8 by decide) ?_
        intro x5_2232 M5_2233 hM5_2233 q2234
        refine sX11_isDone (p0 := x5_2232) hM5_2233  ?_
        intro x6_2235 q2236 q2237
        refine ⟨fun c => ?_, fun c => ?_⟩
        · exact hQ _ _ hM5_2233
        · exact hQ _ _ hM5_2233
    · unfold qX11_isTurned_J37
      refine ⟨(by first | assumption | exact (by omega)), ?_⟩
      refine ⟨fun c => ?_, fun c => ?_⟩
      · exact hQ _ _ hI
      · refine sX6_turn (p1 := p1) hI (show isS 8 by decide) ?_
        intro x5_2243 M5_2244 hM5_2244 q2245
        refine sX11_isDone (p0 := x5_2243) hM5_2244  ?_
        intro x6_2246 q2247 q2248
        refine ⟨fun c => ?_, fun c => ?_⟩
        · exact hQ _ _ hM5_2244
        · exact hQ _ _ hM5_2244
theorem sX11_when_L31 {p1 : Int} {X119 : Int → Int → Mem → Prop} {Q : Int → Mem → Prop} (hQ : ∀ z : Int, ∀ M' : Mem, IX M' → Q z M') (hX119 : ∀ w1 w2 : Int, ∀ M' : Mem, IX M' → (-1 ≤ w1 ∧ w1 ≤ 60 ∧ -1 ≤ w2 ∧ w2 ≤ 60) → X119 w1 w2 M') : ∀ (n : Nat) (v2 v3 v4 : Int) (M : Mem), IX M → (-1 ≤ v2 ∧ v2 ≤ 60 ∧ -1 ≤ v3 ∧ v3 ≤ 60 ∧ 0 ≤ v4 ∧ v4 ≤ 61 ∧ 0 ≤ p1 ∧ p1 ≤ 7) → 61 - v4 < (n : Int) → qX11_when_L31 p1 X119 Q n v2 v3 v4 M := by
  intro n
  induction n with
  | zero => intro v2 v3 v4 M hI hv hm; exact absurd hm (by omega)
  | succ n ih =>
    intro v2 v3 v4 M hI hv hm
    rw [qX11_when_L31]
    refine ⟨(by first | assumption | exact (by omega)), ?_⟩
    refine ⟨fun c => ?_, fun c => ?_⟩
    · exact hX119 _ _ _ hI (by omega)
    · refine sX6_copyFrom  hI (show isS 8 by decide) (show isS 15 by decide) ?_
      intro M6_2253 hM6_2253 gM6_2253
      refine sX11_isTurned (p1 := p1) hM6_2253 (by omega) ?_
      intro x7_2254 M7_2255 hM7_2255 q2256 q2257
      refine ⟨fun c => ?_, fun c => ?_⟩
      · unfold qX11_when_J98
        refine ⟨(hM7_2255).l16, ?_⟩
        refine sX10_advance  hM7_2255 (show isS 15 by decide) (hM7_2255).l16 ?_
        intro M10_2259 hM10_2259
        exact ih _ _ _ _ hM10_2259 (by omega) (by omega)
      · refine ⟨(hM7_2255).l16, ?_⟩
        refine sX10_toEnd  hM7_2255 (show isS 8 by decide) (hM7_2255).l16 ?_
        intro M12_2261 hM12_2261
        refine sX6_isRight (p1 := p1) hM12_2261 (show isS 8 by decide) (by omega) ?_
        intro x13_2262 q2263 q2264
        refine ⟨fun c => ?_, fun c => ?_⟩
        · unfold qX11_when_J98
          refine ⟨(hM12_2261).l16, ?_⟩
          refine sX10_advance  hM12_2261 (show isS 15 by decide) (hM12_2261).l16 ?_
          intro M10_2266 hM10_2266
          exact ih _ _ _ _ hM10_2266 (by omega) (by omega)
        · refine ⟨(by first | assumption | exact (by omega)), ?_⟩
          refine ⟨fun c => ?_, fun c => ?_⟩
          · unfold qX11_when_J94
            unfold qX11_when_J98
            refine ⟨(hM12_2261).l16, ?_⟩
            refine sX10_advance  hM12_2261 (show isS 15 by decide) (hM12_2261).l16 ?_
            intro M10_2269 hM10_2269
            exact ih _ _ _ _ hM10_2269 (by omega) (by omega)
          · unfold qX11_when_J94
            unfold qX11_when_J98
            refine ⟨(hM12_2261).l16, ?_⟩
            refine sX10_advance  hM12_2261 (show isS 15 by decide) (hM12_2261).l16 ?_
            intro M10_2271 hM10_2271
            exact ih _ _ _ _ hM10_2271 (by omega) (by omega)
theorem sX11_when {p1 : Int} {M : Mem} {Q : Int → Mem → Prop} (hI : IX M) (hQ : ∀ z : Int, ∀ M' : Mem, IX M' → Q z M') : qX11_when p1 M Q := by
  unfold qX11_when
  refine sX6_isMourner (p1 := p1) hI (show isS 1 by decide) ?_
  intro x1_2272 p2273 q2274 q2275
  refine ⟨fun c => ?_, fun c => ?_⟩
  · refine sX6_copyFrom  hI (show isS 15 by decide) (show isS 1 by decide) ?_
    intro M3_2277 hM3_2277 gM3_2277
    refine ⟨62, ?_⟩
    refine sX11_when_L31 ?_ ?_ _ _ _ _ _ hM3_2277 (by omega) (by omega)
    · exact hQ
    · intro v2_2278 v3_2279 M_2280 hM_2280 p2281
      refine ⟨(by first | assumption | exact (by omega)), ?_⟩
      refine ⟨fun c => ?_, fun c => ?_⟩
      · refine ⟨(by first | assumption | exact (by omega)), ?_⟩
        refine sX4_tellOne (p1 := v3_2279) hM_2280  ?_
        intro M21_2283 hM21_2283
        exact hQ _ _ hM21_2283
      · exact hQ _ _ hM_2280
  · exact hQ _ _ hI
theorem sX11_ableToTurn_L15   {Q : Int → Mem → Prop} (hQ : ∀ z : Int, ∀ M' : Mem, IX M' → Q z M') : ∀ (n : Nat) (v1 v2 : Int) (M : Mem), IX M → (0 ≤ v2 ∧ v2 ≤ 8) → iR v1 → 8 - v2 < (n : Int) → qX11_ableToTurn_L15 Q n v1 v2 M := by
  intro n
  induction n with
  | zero => intro v1 v2 M hI hv hrv1 hm; exact absurd hm (by omega)
  | succ n ih =>
    intro v1 v2 M hI hv hrv1 hm
    rw [qX11_ableToTurn_L15]
    intro x2_2286 ex2_2286 rx2_2286
    have bx2_2286 : 0 ≤ x2_2286 ∧ x2_2286 ≤ 8 := by rw [ex2_2286]; exact (bx_s0_7 (show isS 1 by decide)).mp (hI.bx _ _)
    refine ⟨(by first | assumption | exact (by omega)), ?_⟩
    refine ⟨fun c => ?_, fun c => ?_⟩
    · refine ⟨(by first | assumption | exact (by omega)), ?_⟩
      exact hQ _ _ hI
    · refine sX6_turn (p1 := v2) hI (show isS 8 by decide) ?_
      intro x6_2289 M6_2290 hM6_2290 q2291
      refine sX11_isDone (p0 := x6_2289) hM6_2290  ?_
      intro x7_2292 q2293 q2294
      refine ⟨fun c => ?_, fun c => ?_⟩
      · intro x9_2296 ex9_2296 rx9_2296
        first | (have fx9_2296 := oI_64 (a := v1) (b := 0) (by omega) (by omega); rw [← ex9_2296] at fx9_2296) | skip
        exact ih _ _ _ hM6_2290 (by omega) (by first | assumption | exact (by omega)) (by omega)
      · intro x10_2298 ex10_2298 rx10_2298
        first | (have fx10_2298 := slI_1 (b := v2) (by omega); rw [← ex10_2298] at fx10_2298) | skip
        intro x11_2299 ex11_2299 rx11_2299
        first | (have fx11_2299 := oI_64 (a := v1) (b := x10_2298) (by omega) (by omega); rw [← ex11_2299] at fx11_2299) | skip
        exact ih _ _ _ hM6_2290 (by omega) (by first | assumption | exact (by omega)) (by omega)
theorem sX11_ableToTurn  {M : Mem} {Q : Int → Mem → Prop} (hI : IX M) (hQ : ∀ z : Int, ∀ M' : Mem, IX M' → Q z M') : qX11_ableToTurn M Q := by
  unfold qX11_ableToTurn
  refine sX6_copyFrom  hI (show isS 8 by decide) (show isS 1 by decide) ?_
  intro M1_2300 hM1_2300 gM1_2300
  refine ⟨9, ?_⟩
  refine sX11_ableToTurn_L15 ?_ _ _ _ _ hM1_2300 (by omega) (by first | assumption | exact (by omega)) (by omega)
  · exact hQ
theorem sX11_turnInTrial_L13 {p1 : Int}  {Q : Mem → Prop} (hQ : ∀ M' : Mem, IX M' → Q M') : ∀ (n : Nat) (v2 : Int) (M : Mem), IX M → (0 ≤ v2 ∧ v2 ≤ 8) → 8 - v2 < (n : Int) → qX11_turnInTrial_L13 p1 Q n v2 M := by
  intro n
  induction n with
  | zero => intro v2 M hI hv hm; exact absurd hm (by omega)
  | succ n ih =>
    intro v2 M hI hv hm
    rw [qX11_turnInTrial_L13]
    intro x2_2301 ex2_2301 rx2_2301
    have bx2_2301 : 0 ≤ x2_2301 ∧ x2_2301 ≤ 8 := by rw [ex2_2301]; exact (bx_s0_7 (show isS 1 by decide)).mp (hI.bx _ _)
    refine ⟨(by first | assumption | exact (by omega)), ?_⟩
    refine ⟨fun c => ?_, fun c => ?_⟩
    · exact hQ _ hI
    · intro x5_2304 ex5_2304 rx5_2304
      intro x6_2305 ex6_2305 rx6_2305
      have fx6_2305 := aI_1 x5_2304; rw [← ex6_2305] at fx6_2305
      refine ⟨fun c => ?_, fun c => ?_⟩
      · exact ih _ _ hI (by omega) (by omega)
      · refine sX6_turn (p1 := v2) hI (show isS 8 by decide) ?_
        intro x8_2308 M8_2309 hM8_2309 q2310
        exact ih _ _ hM8_2309 (by omega) (by omega)
theorem sX11_turnInTrial {p1 : Int} {M : Mem} {Q : Mem → Prop} (hI : IX M) (hQ : ∀ M' : Mem, IX M' → Q M') : qX11_turnInTrial p1 M Q := by
  unfold qX11_turnInTrial
  refine sX6_copyFrom  hI (show isS 8 by decide) (show isS 1 by decide) ?_
  intro M1_2311 hM1_2311 gM1_2311
  refine ⟨9, ?_⟩
  refine sX11_turnInTrial_L13 ?_ _ _ _ hM1_2311 (by omega) (by omega)
  · exact hQ
theorem sX11_mends_L33 {p1 : Int} {X98 : Int → Int → Mem → Prop} {X116 : Int → Int → Mem → Prop} {Q : Int → Mem → Prop} {g0 : Int} (hQ : ∀ z : Int, ∀ M' : Mem, IX M' → Q z M') (hX98 : ∀ w1 w2 : Int, ∀ M' : Mem, IX M' → (0 ≤ w1 ∧ w1 ≤ 8 ∧ 0 ≤ w2 ∧ w2 ≤ 256) → X98 w1 w2 M') (hX116 : ∀ w1 w2 : Int, ∀ M' : Mem, IX M' → (w2 = g0 ∧ 0 ≤ w2 ∧ w2 ≤ 8) → X116 w1 w2 M') : ∀ (n : Nat) (v2 v3 v4 : Int) (M : Mem), IX M → (v3 = g0 ∧ 0 ≤ v3 ∧ v3 ≤ 8 ∧ 0 ≤ v4 ∧ v4 ≤ 256) → 256 - v4 < (n : Int) → qX11_mends_L33 p1 X98 X116 Q n v2 v3 v4 M := by
  intro n
  induction n with
  | zero => intro v2 v3 v4 M hI hv hm; exact absurd hm (by omega)
  | succ n ih =>
    intro v2 v3 v4 M hI hv hm
    rw [qX11_mends_L33]
    intro x7_2312 ex7_2312 rx7_2312
    have bx7_2312 : 0 ≤ x7_2312 ∧ x7_2312 ≤ 8 := by rw [ex7_2312]; exact (bx_s0_7 (show isS 1 by decide)).mp (hI.bx _ _)
    intro x8_2313 ex8_2313 rx8_2313
    first | (have fx8_2313 := slI_1 (b := x7_2312) (by omega); rw [← ex8_2313] at fx8_2313) | skip
    refine ⟨(by first | assumption | exact (by omega)), ?_⟩
    refine ⟨fun c => ?_, fun c => ?_⟩
    · exact hX116 _ _ _ hI (by omega)
    · intro x11_2316 ex11_2316 rx11_2316
      intro x12_2317 ex12_2317 rx12_2317
      refine ⟨fun c => ?_, fun c => ?_⟩
      · unfold qX11_mends_J69
        unfold qX11_mends_J70
        refine ⟨(by first | assumption | exact (by omega)), ?_⟩
        refine ⟨fun c => ?_, fun c => ?_⟩
        · exact ih _ _ _ _ hI (by omega) (by omega)
        · refine ⟨(by first | assumption | exact (by omega)), ?_⟩
          refine sX11_turnInTrial (p1 := v4) hI  ?_
          intro M17_2321 hM17_2321
          refine ⟨(hM17_2321).l16, ?_⟩
          refine sX11_rightOnesOfTrial  hM17_2321 (hM17_2321).l16 ?_
          intro x19_2322 M19_2323 hM19_2323 q2324
          refine sJ6_bitCount_0f7a4 (p0 := x19_2322) hM19_2323  ?_
          intro x20_2325 p2326 q2327
          refine ⟨fun c => ?_, fun c => ?_⟩
          · exact ih _ _ _ _ hM19_2323 (by omega) (by omega)
          · exact hX98 _ _ _ hM19_2323 (by omega)
      · refine sJ6_bitCount_0f7a4 (p0 := v4) hI  ?_
        intro x22_2331 p2332 q2333
        refine ⟨(by first | assumption | exact (by omega)), ?_⟩
        refine ⟨fun c => ?_, fun c => ?_⟩
        · unfold qX11_mends_J69
          unfold qX11_mends_J70
          refine ⟨(by first | assumption | exact (by omega)), ?_⟩
          refine ⟨fun c => ?_, fun c => ?_⟩
          · exact ih _ _ _ _ hI (by omega) (by omega)
          · refine ⟨(by first | assumption | exact (by omega)), ?_⟩
            refine sX11_turnInTrial (p1 := v4) hI  ?_
            intro M17_2337 hM17_2337
            refine ⟨(hM17_2337).l16, ?_⟩
            refine sX11_rightOnesOfTrial  hM17_2337 (hM17_2337).l16 ?_
            intro x19_2338 M19_2339 hM19_2339 q2340
            refine sJ6_bitCount_0f7a4 (p0 := x19_2338) hM19_2339  ?_
            intro x20_2341 p2342 q2343
            refine ⟨fun c => ?_, fun c => ?_⟩
            · exact ih _ _ _ _ hM19_2339 (by omega) (by omega)
            · exact hX98 _ _ _ hM19_2339 (by omega)
        · unfold qX11_mends_J70
          refine ⟨(by first | assumption | exact (by omega)), ?_⟩
          refine ⟨fun c => ?_, fun c => ?_⟩
          · exact ih _ _ _ _ hI (by omega) (by omega)
          · refine ⟨(by first | assumption | exact (by omega)), ?_⟩
            refine sX11_turnInTrial (p1 := v4) hI  ?_
            intro M17_2349 hM17_2349
            refine ⟨(hM17_2349).l16, ?_⟩
            refine sX11_rightOnesOfTrial  hM17_2349 (hM17_2349).l16 ?_
            intro x19_2350 M19_2351 hM19_2351 q2352
            refine sJ6_bitCount_0f7a4 (p0 := x19_2350) hM19_2351  ?_
            intro x20_2353 p2354 q2355
            refine ⟨fun c => ?_, fun c => ?_⟩
            · exact ih _ _ _ _ hM19_2351 (by omega) (by omega)
            · exact hX98 _ _ _ hM19_2351 (by omega)
theorem sX11_mends_L19 {p1 : Int} {X98 : Int → Int → Mem → Prop} {Q : Int → Mem → Prop} (hQ : ∀ z : Int, ∀ M' : Mem, IX M' → Q z M') (hX98 : ∀ w1 w2 : Int, ∀ M' : Mem, IX M' → (0 ≤ w1 ∧ w1 ≤ 8 ∧ 0 ≤ w2 ∧ w2 ≤ 256) → X98 w1 w2 M') : ∀ (n : Nat) (v2 v3 : Int) (M : Mem), IX M → (0 ≤ v3 ∧ v3 ≤ 9) → 9 - v3 < (n : Int) → qX11_mends_L19 p1 X98 Q n v2 v3 M := by
  intro n
  induction n with
  | zero => intro v2 v3 M hI hv hm; exact absurd hm (by omega)
  | succ n ih =>
    intro v2 v3 M hI hv hm
    rw [qX11_mends_L19]
    intro x4_2358 ex4_2358 rx4_2358
    have bx4_2358 : 0 ≤ x4_2358 ∧ x4_2358 ≤ 8 := by rw [ex4_2358]; exact (bx_s0_7 (show isS 1 by decide)).mp (hI.bx _ _)
    refine ⟨(by first | assumption | exact (by omega)), ?_⟩
    refine ⟨fun c => ?_, fun c => ?_⟩
    · exact hQ _ _ hI
    · refine ⟨257, ?_⟩
      refine sX11_mends_L33 (g0 := v3) ?_ ?_ ?_ _ _ _ _ _ hI (by omega) (by omega)
      · exact hQ
      · intro v3_2361 v4_2362 M_2363 hM_2363 p2364
        exact hX98 _ _ _ hM_2363 (by omega)
      · intro v2_2365 v3_2366 M_2367 hM_2367 p2368
        exact ih _ _ _ hM_2367 (by omega) (by omega)
theorem sX11_mends {p1 : Int} {M : Mem} {Q : Int → Mem → Prop} (hI : IX M) (hQ : ∀ z : Int, ∀ M' : Mem, IX M' → Q z M') : qX11_mends p1 M Q := by
  unfold qX11_mends
  refine ⟨fun c => ?_, fun c => ?_⟩
  · exact hQ _ _ hI
  · refine ⟨fun c => ?_, fun c => ?_⟩
    · refine sX11_ableToTurn  hI  ?_
      intro x3_2372 M3_2373 hM3_2373 q2374
      refine ⟨10, ?_⟩
      refine sX11_mends_L19 ?_ ?_ _ _ _ _ hM3_2373 (by omega) (by omega)
      · exact hQ
      · intro v3_2375 v4_2376 M_2377 hM_2377 p2378
        refine ⟨(by first | assumption | exact (by omega)), ?_⟩
        refine sX4_tellOne (p1 := v4_2376) hM_2377  ?_
        intro M28_2379 hM28_2379
        refine ⟨(by first | assumption | exact (by omega)), ?_⟩
        exact hQ _ _ hM28_2379
    · exact hQ _ _ hI
theorem sX6_takeAway_L7 {k0 : Nat} {p1 : Int}  {Q : Mem → Prop} (hk0 : isS k0) (hp : 0 ≤ p1 ∧ p1 ≤ 5) (hQ : ∀ M' : Mem, IX M' → Q M') : ∀ (n : Nat) (v2 : Int) (M : Mem), IX M → (0 ≤ v2 ∧ v2 ≤ 8) → 8 - v2 < (n : Int) → qX6_takeAway_L7 k0 p1 Q n v2 M := by
  intro n
  induction n with
  | zero => intro v2 M hI hv hm; exact absurd hm (by omega)
  | succ n ih =>
    intro v2 M hI hv hm
    rw [qX6_takeAway_L7]
    have ek0 : 0 < k0 ∧ k0 < 155 ∧ (k0 - 1) % 7 = 0 := hk0
    intro x2_2381 ex2_2381 rx2_2381
    have bx2_2381 : 0 ≤ x2_2381 ∧ x2_2381 ≤ 8 := by rw [ex2_2381]; exact (bx_s0_7 hk0).mp (hI.bx _ _)
    refine ⟨(by first | assumption | exact (by omega)), ?_⟩
    refine ⟨fun c => ?_, fun c => ?_⟩
    · exact hQ _ hI
    · refine ⟨by omega, ?_⟩
      refine ⟨by omega, ?_⟩
      intro x7_2384 ex7_2384 rx7_2384
      have bx7_2384 : -1 ≤ x7_2384 ∧ x7_2384 ≤ 5 := by rw [ex7_2384]; exact (bx_s5 hk0).mp (hI.bx _ _)
      refine ⟨fun c => ?_, fun c => ?_⟩
      · exact ih _ _ hI (by omega) (by omega)
      · intro M9_2387 h_M9_2387
        have hM9_2387 : IX M9_2387 := by rw [h_M9_2387]; exact hI.up (isS.nsp hk0 5 (by decide)) ((bx_s5 hk0).mpr (by omega))
        exact ih _ _ hM9_2387 (by omega) (by omega)
