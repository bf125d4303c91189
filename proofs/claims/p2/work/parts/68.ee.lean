theorem sX12_endedBy {k1 : Nat} {p2 : Int} {b : Int} {M : Mem} {Q : Int → Mem → Prop} (hI : IM b M) (hk1 : isN k1) (hQ : ∀ z : Int, Q z M) : qX12_endedBy k1 p2 M Q := by
  unfold qX12_endedBy
  have hbn := hI.nn
  have ek1 : k1 = 5 ∨ k1 = 6 := hk1
  refine ⟨9, ?_⟩
  refine sX12_endedBy_L5 (b := b) (p2 := p2) (M0 := M) hk1 ?_ _ _ _ (hI.mono (by omega)) (by omega) (by first | assumption | exact ⟨by omega, by omega⟩) (by omega)
  · exact hQ
theorem sX12_rightThen_L4  {X50 : Mem → Prop} {Q : Int → Mem → Prop} {b : Int} (hb : b + 200 ≤ 2000000000) (hQ : ∀ z : Int, ∀ M' : Mem, IM (b + 200) M' → Q z M') (hX50 : ∀ M' : Mem, IM (b + 200) M' → X50 M') : ∀ (n : Nat) (v1 v2 : Int) (M : Mem), IM (b + v2) M → (0 ≤ v1 ∧ v1 ≤ 1 ∧ 0 ≤ v2 ∧ v2 ≤ 200) → 200 - v2 < (n : Int) → qX12_rightThen_L4 X50 Q n v1 v2 M := by
  intro n
  induction n with
  | zero => intro v1 v2 M hI hv hm; exact absurd hm (by omega)
  | succ n ih =>
    intro v1 v2 M hI hv hm
    rw [qX12_rightThen_L4]
    have hbn := hI.nn
    refine ⟨(by first | assumption | exact ⟨by omega, by omega⟩), ?_⟩
    refine ⟨fun c => ?_, fun c => ?_⟩
    · exact hX50 _ (hI.mono (by omega))
    · refine ⟨(by first | assumption | exact ⟨by omega, by omega⟩), ?_⟩
      refine ⟨fun c => ?_, fun c => ?_⟩
      · exact hX50 _ (hI.mono (by omega))
      · refine sX12_laysLine  hI (Or.inr rfl) ?_
        intro M5_1914 hM5_1914
        intro x6_1915 ex6_1915 rx6_1915
        have bx6_1915 : 0 ≤ x6_1915 ∧ x6_1915 ≤ 6 := by rw [ex6_1915]; exact bm_c1_35.mp (hM5_1914.bx _ _)
        refine ⟨fun c => ?_, fun c => ?_⟩
        · unfold qX12_rightThen_J35
          refine sX12_stepGoes  hM5_1914 (by omega) (Or.inr rfl) ?_
          intro M8_1917 hM8_1917
          exact ih _ _ _ (hM8_1917.mono (by omega)) (by omega) (by omega)
        · unfold qX12_rightThen_J35
          refine sX12_stepGoes  hM5_1914 (by omega) (Or.inr rfl) ?_
          intro M8_1919 hM8_1919
          exact ih _ _ _ (hM8_1919.mono (by omega)) (by omega) (by omega)
theorem sX12_rightThen  {b : Int} {M : Mem} {Q : Int → Mem → Prop} (hI : IM b M) (hb : b + 200 ≤ 2000000000) (hQ : ∀ z : Int, ∀ M' : Mem, IM (b + 200) M' → Q z M') : qX12_rightThen M Q := by
  unfold qX12_rightThen
  have hbn := hI.nn
  refine ⟨201, ?_⟩
  refine sX12_rightThen_L4 (b := b)  hb ?_ ?_ _ _ _ _ (hI.mono (by omega)) (by omega) (by omega)
  · exact hQ
  · intro M_1920 hM_1920
    unfold qX12_rightThen_J50
    refine sX12_endedBy (p2 := 1) hM_1920 (Or.inr rfl) ?_
    intro x10_1921 q1922
    exact hQ _ _ (hM_1920.mono (by omega))
theorem sX12_right  {b : Int} {M : Mem} {Q : Int → Mem → Prop} (hI : IM b M) (hb : b + 200 ≤ 2000000000) (hQ : ∀ z : Int, ∀ M' : Mem, IM (b + 200) M' → Q z M') : qX12_right M Q := by
  unfold qX12_right
  have hbn := hI.nn
  intro M1_1923 h_M1_1923
  have hM1_1923 : IM (b) M1_1923 := by rw [h_M1_1923]; exact hI.up (by omega) (by simp [BM])
  refine sX12_copies  hM1_1923  ?_
  intro M2_1924 hM2_1924
  refine sX12_rightThen  hM2_1924 (by omega) ?_
  intro x3_1925 M3_1926 hM3_1926 q1927
  intro M4_1928 h_M4_1928
  have hM4_1928 : IM (b + 200) M4_1928 := by rw [h_M4_1928]; exact hM3_1926.up (by omega) (bm_c1_1.mpr ⟨by omega, by omega⟩)
  have u1929 : 0 ≤ M4_1928 1 1 ∧ M4_1928 1 1 ≤ 24 := bm_c1_1.mp (hM4_1928.bx _ _)
  have t1930 : M4_1928 1 1 = 0 := by rw [h_M4_1928, up2_s]
  refine sX12_enters (p1 := x3_1925) hM4_1928 (by omega) ?_
  intro M5_1931 hM5_1931 p1932
  refine sX12_endedBy (p2 := 0) hM5_1931 (Or.inr rfl) ?_
  intro x6_1933 q1934
  have u1935 : 0 ≤ M5_1931 1 1 ∧ M5_1931 1 1 ≤ 24 := bm_c1_1.mp (hM5_1931.bx _ _)
  refine sX12_enters (p1 := x6_1933) hM5_1931 (by omega) ?_
  intro M7_1936 hM7_1936 p1937
  refine sJ6_bitCountM (p0 := x3_1925) hM7_1936  ?_
  intro x8_1938 p1939 q1940
  exact hQ _ _ (hM7_1936.mono (by omega))
theorem sX12_has {p0 : Int} {p1 : Int} {b : Int} {M : Mem} {Q : Int → Mem → Prop} (hI : IM b M) (hQ : ∀ z : Int, Q z M) : qX12_has p0 p1 M Q := by
  unfold qX12_has
  have hbn := hI.nn
  intro x1_1941 ex1_1941 rx1_1941
  intro x2_1942 ex2_1942 rx2_1942
  have fx2_1942 := aI_1 x1_1941; rw [← ex2_1942] at fx2_1942
  refine ⟨fun c => ?_, fun c => ?_⟩
  · exact hQ _
  · exact hQ _
theorem sX12_order  {b : Int} {M : Mem} {Q : Int → Mem → Prop} (hI : IM b M) (hb : b + 200000 ≤ 2000000000) (hQ : ∀ z : Int, Q z M) : qX12_order M Q := sorry
theorem sX12_stands_L42 {p1 : Int} {X95 : Int → Int → Mem → Prop} {Q : Int → Mem → Prop} {b : Int} (hb : b + 6000 ≤ 2000000000) (hQ : ∀ z : Int, ∀ M' : Mem, IM (b + 6000) M' → Q z M') (hX95 : ∀ w1 w2 : Int, ∀ M' : Mem, IM (b + 6000) M' → (-2 ≤ w1 ∧ w1 ≤ 29 ∧ 0 ≤ w2 ∧ w2 ≤ 29) → X95 w1 w2 M') : ∀ (n : Nat) (v2 v3 v4 : Int) (M : Mem), IM (b + 200 * (28 - v4)) M → (-2 ≤ v2 ∧ v2 ≤ 29 ∧ 0 ≤ v3 ∧ v3 + v4 ≤ 28 ∧ -1 ≤ v4 ∧ v4 ≤ 28 ∧ 0 ≤ p1 ∧ p1 ≤ 7) → v4 + 1 < (n : Int) → qX12_stands_L42 p1 X95 Q n v2 v3 v4 M := by
  intro n
  induction n with
  | zero => intro v2 v3 v4 M hI hv hm; exact absurd hm (by omega)
  | succ n ih =>
    intro v2 v3 v4 M hI hv hm
    rw [qX12_stands_L42]
    have hbn := hI.nn
    refine ⟨(by first | assumption | exact ⟨by omega, by omega⟩), ?_⟩
    refine ⟨fun c => ?_, fun c => ?_⟩
    · exact hX95 _ _ _ (hI.mono (by omega)) (by omega)
    · refine sX12_copies  hI  ?_
      intro M9_1947 hM9_1947
      refine ⟨by omega, ?_⟩
      refine ⟨by omega, ?_⟩
      intro M12_1948 h_M12_1948
      have hM12_1948 : IM (b + 200 * (28 - v4)) M12_1948 := by rw [h_M12_1948]; exact hM9_1947.up (by omega) ((bm_n (Or.inr rfl)).mpr (by first | assumption | exact ⟨by omega, by omega, by omega, by omega⟩))
      refine ⟨by omega, ?_⟩
      refine ⟨by omega, ?_⟩
      intro M15_1949 h_M15_1949
      have hM15_1949 : IM (b + 200 * (28 - v4)) M15_1949 := by rw [h_M15_1949]; exact hM12_1948.up (by omega) ((bm_n (Or.inr rfl)).mpr (by first | assumption | exact ⟨by omega, by omega, by omega, by omega⟩))
      refine sX12_rightThen  hM15_1949 (by omega) ?_
      intro x16_1950 M16_1951 hM16_1951 q1952
      refine sX12_has (p0 := x16_1950) (p1 := p1) hM16_1951  ?_
      intro x17_1953 q1954 q1955
      refine ⟨fun c => ?_, fun c => ?_⟩
      · exact ih _ _ _ _ (hM16_1951.mono (by omega)) (by omega) (by omega)
      · exact ih _ _ _ _ (hM16_1951.mono (by omega)) (by omega) (by omega)
theorem sX12_stands {p1 : Int} {b : Int} {M : Mem} {Q : Int → Mem → Prop} (hI : IM b M) (hb : b + 6000 ≤ 2000000000) (hQ : ∀ z : Int, ∀ M' : Mem, IM (b + 6000) M' → Q z M') : qX12_stands p1 M Q := by
  unfold qX12_stands
  have hbn := hI.nn
  intro M1_1958 h_M1_1958
  have hM1_1958 : IM (b) M1_1958 := by rw [h_M1_1958]; exact hI.up (by omega) (by simp [BM])
  refine sX12_isMourner (p1 := p1) hM1_1958  ?_
  intro x2_1959 p1960 q1961 q1962
  refine ⟨fun c => ?_, fun c => ?_⟩
  · refine sX12_isEnded (p1 := p1) hM1_1958 (Or.inl rfl) (by omega) ?_
    intro x4_1964 q1965 q1966
    refine ⟨fun c => ?_, fun c => ?_⟩
    · refine sX12_gate  hM1_1958  ?_
      intro x6_1968 p1969 q1970
      refine ⟨30, ?_⟩
      refine sX12_stands_L42 (b := b) (p1 := p1) hb ?_ ?_ _ _ _ _ _ (hM1_1958.mono (by omega)) (by omega) (by omega)
      · exact hQ
      · intro v2_1971 v3_1972 M_1973 hM_1973 p1974
        refine ⟨(by first | assumption | exact ⟨by omega, by omega⟩), ?_⟩
        refine ⟨fun c => ?_, fun c => ?_⟩
        · exact hQ _ _ (hM_1973.mono (by omega))
        · intro M22_1977 h_M22_1977
          have hM22_1977 : IM (b + 6000) M22_1977 := by rw [h_M22_1977]; exact hM_1973.up (by omega) (bm_c1_1.mpr ⟨by omega, by omega⟩)
          refine ⟨(by first | assumption | exact ⟨by omega, by omega⟩), ?_⟩
          have u1978 : 0 ≤ M22_1977 1 1 ∧ M22_1977 1 1 ≤ 24 := bm_c1_1.mp (hM22_1977.bx _ _)
          have t1979 : M22_1977 1 1 = 0 := by rw [h_M22_1977, up2_s]
          refine sX12_enters (p1 := v3_1972) hM22_1977 (by omega) ?_
          intro M24_1980 hM24_1980 p1981
          exact hQ _ _ (hM24_1980.mono (by omega))
    · exact hQ _ _ (hM1_1958.mono (by omega))
  · exact hQ _ _ (hM1_1958.mono (by omega))
theorem sX12_when_L24 {p1 : Int} {X142 : Int → Int → Mem → Prop} {Q : Int → Mem → Prop} {b : Int} (hb : b + 24400 ≤ 2000000000) (hQ : ∀ z : Int, ∀ M' : Mem, IM (b + 24400) M' → Q z M') (hX142 : ∀ w1 w2 : Int, ∀ M' : Mem, IM (b + 24400) M' → (-2 ≤ w1 ∧ w1 ≤ 60 ∧ 0 ≤ w2 ∧ w2 ≤ 60) → X142 w1 w2 M') : ∀ (n : Nat) (v2 v3 v4 : Int) (M : Mem), IM (b + 400 * (60 - v4)) M → (-2 ≤ v2 ∧ v2 ≤ 60 ∧ 0 ≤ v3 ∧ v3 ≤ 60 ∧ -1 ≤ v4 ∧ v4 ≤ 60 ∧ 0 ≤ p1 ∧ p1 ≤ 7) → v4 + 1 < (n : Int) → qX12_when_L24 p1 X142 Q n v2 v3 v4 M := by
  intro n
  induction n with
  | zero => intro v2 v3 v4 M hI hv hm; exact absurd hm (by omega)
  | succ n ih =>
    intro v2 v3 v4 M hI hv hm
    rw [qX12_when_L24]
    have hbn := hI.nn
    refine ⟨(by first | assumption | exact ⟨by omega, by omega⟩), ?_⟩
    refine ⟨fun c => ?_, fun c => ?_⟩
    · exact hX142 _ _ _ (hI.mono (by omega)) (by omega)
    · refine sX12_copies  hI  ?_
      intro M6_1986 hM6_1986
      refine sX12_goesOn (p2 := v4) hM6_1986 (by omega) (Or.inr rfl) (by omega) ?_
      intro M7_1987 hM7_1987
      refine sX12_isEnded (p1 := p1) hM7_1987 (Or.inr rfl) (by omega) ?_
      intro x8_1988 q1989 q1990
      refine ⟨fun c => ?_, fun c => ?_⟩
      · unfold qX12_when_J76
        unfold qX12_when_J77
        refine ⟨(by first | assumption | exact ⟨by omega, by omega⟩), ?_⟩
        refine ⟨fun c => ?_, fun c => ?_⟩
        · refine sX12_turnsOne (p2 := p1) hM7_1987 (Or.inr rfl) ?_
          intro x12_1993 M12_1994 hM12_1994 q1995
          unfold qX12_when_J97
          refine ⟨(by first | assumption | exact ⟨by omega, by omega⟩), ?_⟩
          refine ⟨fun c => ?_, fun c => ?_⟩
          · unfold qX12_when_J111
            refine sX12_rightThen  hM12_1994 (by omega) ?_
            intro x15_1997 M15_1998 hM15_1998 q1999
            refine sX12_has (p0 := x15_1997) (p1 := p1) hM15_1998  ?_
            intro x16_2000 q2001 q2002
            refine ⟨fun c => ?_, fun c => ?_⟩
            · exact ih _ _ _ _ (hM15_1998.mono (by omega)) (by omega) (by omega)
            · refine ⟨(by first | assumption | exact ⟨by omega, by omega⟩), ?_⟩
              refine ⟨fun c => ?_, fun c => ?_⟩
              · exact ih _ _ _ _ (hM15_1998.mono (by omega)) (by omega) (by omega)
              · exact ih _ _ _ _ (hM15_1998.mono (by omega)) (by omega) (by omega)
          · refine ⟨fun c => ?_, fun c => ?_⟩
            · exact ih _ _ _ _ (hM12_1994.mono (by omega)) (by omega) (by omega)
            · unfold qX12_when_J111
              refine sX12_rightThen  hM12_1994 (by omega) ?_
              intro x15_2010 M15_2011 hM15_2011 q2012
              refine sX12_has (p0 := x15_2010) (p1 := p1) hM15_2011  ?_
              intro x16_2013 q2014 q2015
              refine ⟨fun c => ?_, fun c => ?_⟩
              · exact ih _ _ _ _ (hM15_2011.mono (by omega)) (by omega) (by omega)
              · refine ⟨(by first | assumption | exact ⟨by omega, by omega⟩), ?_⟩
                refine ⟨fun c => ?_, fun c => ?_⟩
                · exact ih _ _ _ _ (hM15_2011.mono (by omega)) (by omega) (by omega)
                · exact ih _ _ _ _ (hM15_2011.mono (by omega)) (by omega) (by omega)
        · unfold qX12_when_J97
          refine ⟨(by first | assumption | exact ⟨by omega, by omega⟩), ?_⟩
          refine ⟨fun c => ?_, fun c => ?_⟩
          · unfold qX12_when_J111
            refine sX12_rightThen  hM7_1987 (by omega) ?_
            intro x15_2022 M15_2023 hM15_2023 q2024
            refine sX12_has (p0 := x15_2022) (p1 := p1) hM15_2023  ?_
            intro x16_2025 q2026 q2027
            refine ⟨fun c => ?_, fun c => ?_⟩
            · exact ih _ _ _ _ (hM15_2023.mono (by omega)) (by omega) (by omega)
            · refine ⟨(by first | assumption | exact ⟨by omega, by omega⟩), ?_⟩
              refine ⟨fun c => ?_, fun c => ?_⟩
              · exact ih _ _ _ _ (hM15_2023.mono (by omega)) (by omega) (by omega)
              · exact ih _ _ _ _ (hM15_2023.mono (by omega)) (by omega) (by omega)
          · refine ⟨fun c => ?_, fun c => ?_⟩
            · exact ih _ _ _ _ (hM7_1987.mono (by omega)) (by omega) (by omega)
            · unfold qX12_when_J111
              refine sX12_rightThen  hM7_1987 (by omega) ?_
              intro x15_2035 M15_2036 hM15_2036 q2037
              refine sX12_has (p0 := x15_2035) (p1 := p1) hM15_2036  ?_
              intro x16_2038 q2039 q2040
              refine ⟨fun c => ?_, fun c => ?_⟩
              · exact ih _ _ _ _ (hM15_2036.mono (by omega)) (by omega) (by omega)
              · refine ⟨(by first | assumption | exact ⟨by omega, by omega⟩), ?_⟩
                refine ⟨fun c => ?_, fun c => ?_⟩
                · exact ih _ _ _ _ (hM15_2036.mono (by omega)) (by omega) (by omega)
                · exact ih _ _ _ _ (hM15_2036.mono (by omega)) (by omega) (by omega)
      · refine ⟨by omega, ?_⟩
        refine ⟨by omega, ?_⟩
        intro x23_2046 ex23_2046 rx23_2046
        have rbx23_2046 : -2147483648 ≤ x23_2046 ∧ x23_2046 ≤ 2147483647 := rx23_2046
        first | (have bx23_2046 : -1 ≤ x23_2046 ∧ x23_2046 ≤ 5 := by rw [ex23_2046]; exact ((bm_n (Or.inr rfl)).mp (hM7_1987.bx _ _)).2.2.1 ⟨by omega, by omega⟩) | skip
        refine ⟨by omega, ?_⟩
        refine ⟨by omega, ?_⟩
        intro x26_2047 ex26_2047 rx26_2047
        have bx26_2047 : 0 ≤ x26_2047 ∧ x26_2047 ≤ 5 := by rw [ex26_2047]; exact bm_c3.mp (hM7_1987.bx _ _)
        refine ⟨fun c => ?_, fun c => ?_⟩
        · unfold qX12_when_J76
          unfold qX12_when_J77
          refine ⟨(by first | assumption | exact ⟨by omega, by omega⟩), ?_⟩
          refine ⟨fun c => ?_, fun c => ?_⟩
          · refine sX12_turnsOne (p2 := p1) hM7_1987 (Or.inr rfl) ?_
            intro x12_2050 M12_2051 hM12_2051 q2052
            unfold qX12_when_J97
            refine ⟨(by first | assumption | exact ⟨by omega, by omega⟩), ?_⟩
            refine ⟨fun c => ?_, fun c => ?_⟩
            · unfold qX12_when_J111
              refine sX12_rightThen  hM12_2051 (by omega) ?_
              intro x15_2054 M15_2055 hM15_2055 q2056
              refine sX12_has (p0 := x15_2054) (p1 := p1) hM15_2055  ?_
              intro x16_2057 q2058 q2059
              refine ⟨fun c => ?_, fun c => ?_⟩
              · exact ih _ _ _ _ (hM15_2055.mono (by omega)) (by omega) (by omega)
              · refine ⟨(by first | assumption | exact ⟨by omega, by omega⟩), ?_⟩
                refine ⟨fun c => ?_, fun c => ?_⟩
                · exact ih _ _ _ _ (hM15_2055.mono (by omega)) (by omega) (by omega)
                · exact ih _ _ _ _ (hM15_2055.mono (by omega)) (by omega) (by omega)
            · refine ⟨fun c => ?_, fun c => ?_⟩
              · exact ih _ _ _ _ (hM12_2051.mono (by omega)) (by omega) (by omega)
              · unfold qX12_when_J111
                refine sX12_rightThen  hM12_2051 (by omega) ?_
                intro x15_2067 M15_2068 hM15_2068 q2069
                refine sX12_has (p0 := x15_2067) (p1 := p1) hM15_2068  ?_
                intro x16_2070 q2071 q2072
                refine ⟨fun c => ?_, fun c => ?_⟩
                · exact ih _ _ _ _ (hM15_2068.mono (by omega)) (by omega) (by omega)
                · refine ⟨(by first | assumption | exact ⟨by omega, by omega⟩), ?_⟩
                  refine ⟨fun c => ?_, fun c => ?_⟩
                  · exact ih _ _ _ _ (hM15_2068.mono (by omega)) (by omega) (by omega)
                  · exact ih _ _ _ _ (hM15_2068.mono (by omega)) (by omega) (by omega)
          · unfold qX12_when_J97
            refine ⟨(by first | assumption | exact ⟨by omega, by omega⟩), ?_⟩
            refine ⟨fun c => ?_, fun c => ?_⟩
            · unfold qX12_when_J111
              refine sX12_rightThen  hM7_1987 (by omega) ?_
              intro x15_2079 M15_2080 hM15_2080 q2081
              refine sX12_has (p0 := x15_2079) (p1 := p1) hM15_2080  ?_
              intro x16_2082 q2083 q2084
              refine ⟨fun c => ?_, fun c => ?_⟩
              · exact ih _ _ _ _ (hM15_2080.mono (by omega)) (by omega) (by omega)
              · refine ⟨(by first | assumption | exact ⟨by omega, by omega⟩), ?_⟩
                refine ⟨fun c => ?_, fun c => ?_⟩
                · exact ih _ _ _ _ (hM15_2080.mono (by omega)) (by omega) (by omega)
                · exact ih _ _ _ _ (hM15_2080.mono (by omega)) (by omega) (by omega)
            · refine ⟨fun c => ?_, fun c => ?_⟩
              · exact ih _ _ _ _ (hM7_1987.mono (by omega)) (by omega) (by omega)
              · unfold qX12_when_J111
                refine sX12_rightThen  hM7_1987 (by omega) ?_
                intro x15_2092 M15_2093 hM15_2093 q2094
                refine sX12_has (p0 := x15_2092) (p1 := p1) hM15_2093  ?_
                intro x16_2095 q2096 q2097
                refine ⟨fun c => ?_, fun c => ?_⟩
                · exact ih _ _ _ _ (hM15_2093.mono (by omega)) (by omega) (by omega)
                · refine ⟨(by first | assumption | exact ⟨by omega, by omega⟩), ?_⟩
                  refine ⟨fun c => ?_, fun c => ?_⟩
                  · exact ih _ _ _ _ (hM15_2093.mono (by omega)) (by omega) (by omega)
                  · exact ih _ _ _ _ (hM15_2093.mono (by omega)) (by omega) (by omega)
        · unfold qX12_when_J77
          refine ⟨(by first | assumption | exact ⟨by omega, by omega⟩), ?_⟩
          refine ⟨fun c => ?_, fun c => ?_⟩
          · refine sX12_turnsOne (p2 := p1) hM7_1987 (Or.inr rfl) ?_
            intro x12_2104 M12_2105 hM12_2105 q2106
            unfold qX12_when_J97
            refine ⟨(by first | assumption | exact ⟨by omega, by omega⟩), ?_⟩
            refine ⟨fun c => ?_, fun c => ?_⟩
            · unfold qX12_when_J111
              refine sX12_rightThen  hM12_2105 (by omega) ?_
              intro x15_2108 M15_2109 hM15_2109 q2110
              refine sX12_has (p0 := x15_2108) (p1 := p1) hM15_2109  ?_
              intro x16_2111 q2112 q2113
              refine ⟨fun c => ?_, fun c => ?_⟩
              · exact ih _ _ _ _ (hM15_2109.mono (by omega)) (by omega) (by omega)
              · refine ⟨(by first | assumption | exact ⟨by omega, by omega⟩), ?_⟩
                refine ⟨fun c => ?_, fun c => ?_⟩
                · exact ih _ _ _ _ (hM15_2109.mono (by omega)) (by omega) (by omega)
                · exact ih _ _ _ _ (hM15_2109.mono (by omega)) (by omega) (by omega)
            · refine ⟨fun c => ?_, fun c => ?_⟩
              · exact ih _ _ _ _ (hM12_2105.mono (by omega)) (by omega) (by omega)
              · unfold qX12_when_J111
                refine sX12_rightThen  hM12_2105 (by omega) ?_
                intro x15_2121 M15_2122 hM15_2122 q2123
                refine sX12_has (p0 := x15_2121) (p1 := p1) hM15_2122  ?_
                intro x16_2124 q2125 q2126
                refine ⟨fun c => ?_, fun c => ?_⟩
                · exact ih _ _ _ _ (hM15_2122.mono (by omega)) (by omega) (by omega)
                · refine ⟨(by first | assumption | exact ⟨by omega, by omega⟩), ?_⟩
                  refine ⟨fun c => ?_, fun c => ?_⟩
                  · exact ih _ _ _ _ (hM15_2122.mono (by omega)) (by omega) (by omega)
                  · exact ih _ _ _ _ (hM15_2122.mono (by omega)) (by omega) (by omega)
          · unfold qX12_when_J97
            refine ⟨(by first | assumption | exact ⟨by omega, by omega⟩), ?_⟩
            refine ⟨fun c => ?_, fun c => ?_⟩
            · unfold qX12_when_J111
              refine sX12_rightThen  hM7_1987 (by omega) ?_
              intro x15_2133 M15_2134 hM15_2134 q2135
              refine sX12_has (p0 := x15_2133) (p1 := p1) hM15_2134  ?_
              intro x16_2136 q2137 q2138
              refine ⟨fun c => ?_, fun c => ?_⟩
              · exact ih _ _ _ _ (hM15_2134.mono (by omega)) (by omega) (by omega)
              · refine ⟨(by first | assumption | exact ⟨by omega, by omega⟩), ?_⟩
                refine ⟨fun c => ?_, fun c => ?_⟩
                · exact ih _ _ _ _ (hM15_2134.mono (by omega)) (by omega) (by omega)
                · exact ih _ _ _ _ (hM15_2134.mono (by omega)) (by omega) (by omega)
            · refine ⟨fun c => ?_, fun c => ?_⟩
              · exact ih _ _ _ _ (hM7_1987.mono (by omega)) (by omega) (by omega)
              · unfold qX12_when_J111
                refine sX12_rightThen  hM7_1987 (by omega) ?_
                intro x15_2146 M15_2147 hM15_2147 q2148
                refine sX12_has (p0 := x15_2146) (p1 := p1) hM15_2147  ?_
                intro x16_2149 q2150 q2151
                refine ⟨fun c => ?_, fun c => ?_⟩
                · exact ih _ _ _ _ (hM15_2147.mono (by omega)) (by omega) (by omega)
                · refine ⟨(by first | assumption | exact ⟨by omega, by omega⟩), ?_⟩
                  refine ⟨fun c => ?_, fun c => ?_⟩
                  · exact ih _ _ _ _ (hM15_2147.mono (by omega)) (by omega) (by omega)
                  · exact ih _ _ _ _ (hM15_2147.mono (by omega)) (by omega) (by omega)
theorem sX12_when {p1 : Int} {b : Int} {M : Mem} {Q : Int → Mem → Prop} (hI : IM b M) (hb : b + 24400 ≤ 2000000000) (hQ : ∀ z : Int, ∀ M' : Mem, IM (b + 24400) M' → Q z M') : qX12_when p1 M Q := by
  unfold qX12_when
  have hbn := hI.nn
  intro M1_2156 h_M1_2156
  have hM1_2156 : IM (b) M1_2156 := by rw [h_M1_2156]; exact hI.up (by omega) (by simp [BM])
  refine sX12_isMourner (p1 := p1) hM1_2156  ?_
  intro x2_2157 p2158 q2159 q2160
  refine ⟨fun c => ?_, fun c => ?_⟩
  · refine ⟨62, ?_⟩
    refine sX12_when_L24 (b := b) (p1 := p1) hb ?_ ?_ _ _ _ _ _ (hM1_2156.mono (by omega)) (by omega) (by omega)
    · exact hQ
    · intro v2_2162 v3_2163 M_2164 hM_2164 p2165
      refine ⟨(by first | assumption | exact ⟨by omega, by omega⟩), ?_⟩
      refine ⟨fun c => ?_, fun c => ?_⟩
      · exact hQ _ _ (hM_2164.mono (by omega))
      · intro M31_2168 h_M31_2168
        have hM31_2168 : IM (b + 24400) M31_2168 := by rw [h_M31_2168]; exact hM_2164.up (by omega) (bm_c1_1.mpr ⟨by omega, by omega⟩)
        refine ⟨(by first | assumption | exact ⟨by omega, by omega⟩), ?_⟩
        have u2169 : 0 ≤ M31_2168 1 1 ∧ M31_2168 1 1 ≤ 24 := bm_c1_1.mp (hM31_2168.bx _ _)
        have t2170 : M31_2168 1 1 = 0 := by rw [h_M31_2168, up2_s]
        refine sX12_enters (p1 := v3_2163) hM31_2168 (by omega) ?_
        intro M33_2171 hM33_2171 p2172
        exact hQ _ _ (hM33_2171.mono (by omega))
  · exact hQ _ _ (hM1_2156.mono (by omega))
theorem sX12_mends_L58 {p1 : Int} {X122 : Int → Int → Int → Mem → Prop} {Q : Int → Mem → Prop} {b : Int} {g0 : Int} {g1 : Int} (hb : b + 51200 ≤ 2000000000) (hQ : ∀ z : Int, ∀ M' : Mem, IM (b + 51200) M' → Q z M') (hX122 : ∀ w1 w2 w3 : Int, ∀ M' : Mem, IM (b + 200 * g1) M' → (w1 = g0 ∧ w2 = g1 ∧ 0 ≤ w3 ∧ w3 ≤ 1) → X122 w1 w2 w3 M') : ∀ (n : Nat) (v2 v3 v4 v5 : Int) (M : Mem), IM (b + 200 * v3) M → (v2 = g0 ∧ v3 = g1 ∧ 0 ≤ v3 ∧ v3 ≤ 255 ∧ 0 ≤ v4 ∧ v4 ≤ 1 ∧ 0 ≤ v5 ∧ v5 ≤ 8) → 8 - v5 < (n : Int) → qX12_mends_L58 p1 X122 Q n v2 v3 v4 v5 M := by
  intro n
  induction n with
  | zero => intro v2 v3 v4 v5 M hI hv hm; exact absurd hm (by omega)
  | succ n ih =>
    intro v2 v3 v4 v5 M hI hv hm
    rw [qX12_mends_L58]
    have hbn := hI.nn
    intro x11_2174 ex11_2174 rx11_2174
    have bx11_2174 : 0 ≤ x11_2174 ∧ x11_2174 ≤ 8 := by rw [ex11_2174]; exact bm_c1_5.mp (hI.bx _ _)
    refine ⟨(by first | assumption | exact ⟨by omega, by omega⟩), ?_⟩
    refine ⟨fun c => ?_, fun c => ?_⟩
    · exact hX122 _ _ _ _ (hI.mono (by omega)) (by omega)
    · refine ⟨(by first | assumption | exact ⟨by omega, by omega⟩), ?_⟩
      refine sX12_has (p0 := v3) (p1 := v5) hI  ?_
      intro x15_2177 q2178 q2179
      refine ⟨fun c => ?_, fun c => ?_⟩
      · unfold qX12_mends_J90
        refine ⟨(by first | assumption | exact ⟨by omega, by omega⟩), ?_⟩
        refine ⟨fun c => ?_, fun c => ?_⟩
        · exact ih _ _ _ _ _ (hI.mono (by omega)) (by omega) (by omega)
        · refine ⟨(by first | assumption | exact ⟨by omega, by omega⟩), ?_⟩
          refine ⟨fun c => ?_, fun c => ?_⟩
          · exact ih _ _ _ _ _ (hI.mono (by omega)) (by omega) (by omega)
          · refine ⟨fun c => ?_, fun c => ?_⟩
            · exact ih _ _ _ _ _ (hI.mono (by omega)) (by omega) (by omega)
            · exact ih _ _ _ _ _ (hI.mono (by omega)) (by omega) (by omega)
      · refine sX12_turnsOne (p2 := v5) hI (Or.inr rfl) ?_
        intro x22_2188 M22_2189 hM22_2189 q2190
        unfold qX12_mends_J90
        refine ⟨(by first | assumption | exact ⟨by omega, by omega⟩), ?_⟩
        refine ⟨fun c => ?_, fun c => ?_⟩
        · exact ih _ _ _ _ _ (hM22_2189.mono (by omega)) (by omega) (by omega)
        · refine ⟨(by first | assumption | exact ⟨by omega, by omega⟩), ?_⟩
          refine ⟨fun c => ?_, fun c => ?_⟩
          · exact ih _ _ _ _ _ (hM22_2189.mono (by omega)) (by omega) (by omega)
          · refine ⟨fun c => ?_, fun c => ?_⟩
            · exact ih _ _ _ _ _ (hM22_2189.mono (by omega)) (by omega) (by omega)
            · exact ih _ _ _ _ _ (hM22_2189.mono (by omega)) (by omega) (by omega)
theorem sX12_mends_L23 {p1 : Int} {X150 : Int → Mem → Prop} {Q : Int → Mem → Prop} {b : Int} (hb : b + 51200 ≤ 2000000000) (hQ : ∀ z : Int, ∀ M' : Mem, IM (b + 51200) M' → Q z M') (hX150 : ∀ w1 : Int, ∀ M' : Mem, IM (b + 51200) M' → (-1 ≤ w1 ∧ w1 ≤ 255) → X150 w1 M') : ∀ (n : Nat) (v2 v3 : Int) (M : Mem), IM (b + 200 * v3) M → (-1 ≤ v2 ∧ v2 ≤ 255 ∧ 0 ≤ v3 ∧ v3 ≤ 256) → 256 - v3 < (n : Int) → qX12_mends_L23 p1 X150 Q n v2 v3 M := by
  intro n
  induction n with
  | zero => intro v2 v3 M hI hv hm; exact absurd hm (by omega)
  | succ n ih =>
    intro v2 v3 M hI hv hm
    rw [qX12_mends_L23]
    have hbn := hI.nn
    intro x4_2197 ex4_2197 rx4_2197
    have bx4_2197 : 0 ≤ x4_2197 ∧ x4_2197 ≤ 8 := by rw [ex4_2197]; exact bm_c1_5.mp (hI.bx _ _)
    intro x5_2198 ex5_2198 rx5_2198
    first | (have fx5_2198 := slI_1 (b := x4_2197) ⟨by omega, by omega⟩; rw [← ex5_2198] at fx5_2198) | skip
    refine ⟨(by first | assumption | exact ⟨by omega, by omega⟩), ?_⟩
    refine ⟨fun c => ?_, fun c => ?_⟩
    · exact hX150 _ _ (hI.mono (by omega)) (by omega)
    · refine ⟨(by first | assumption | exact ⟨by omega, by omega⟩), ?_⟩
      refine ⟨fun c => ?_, fun c => ?_⟩
      · unfold qX12_mends_J48
        refine sX12_copies  hI  ?_
        intro M10_2202 hM10_2202
        refine ⟨9, ?_⟩
        refine sX12_mends_L58 (b := b) (p1 := p1) (g0 := v2) (g1 := v3) hb ?_ ?_ _ _ _ _ _ _ (hM10_2202.mono (by omega)) (by omega) (by omega)
        · exact hQ
        · intro v2_2203 v3_2204 v4_2205 M_2206 hM_2206 p2207
          refine ⟨(by first | assumption | exact ⟨by omega, by omega⟩), ?_⟩
          refine ⟨fun c => ?_, fun c => ?_⟩
          · exact ih _ _ _ (hM_2206.mono (by omega)) (by omega) (by omega)
          · refine sX12_rightThen  hM_2206 (by omega) ?_
            intro x26_2210 M26_2211 hM26_2211 q2212
            refine sJ6_bitCountM (p0 := x26_2210) hM26_2211  ?_
            intro x27_2213 p2214 q2215
            refine ⟨fun c => ?_, fun c => ?_⟩
            · exact ih _ _ _ (hM26_2211.mono (by omega)) (by omega) (by omega)
            · exact ih _ _ _ (hM26_2211.mono (by omega)) (by omega) (by omega)
      · refine sJ6_bitCountM (p0 := v3) hI  ?_
        intro x29_2219 p2220 q2221
        refine sJ6_bitCountM (p0 := v2) hI  ?_
        intro x30_2222 p2223 q2224
        refine ⟨fun c => ?_, fun c => ?_⟩
        · exact ih _ _ _ (hI.mono (by omega)) (by omega) (by omega)
        · unfold qX12_mends_J48
          refine sX12_copies  hI  ?_
          intro M10_2227 hM10_2227
          refine ⟨9, ?_⟩
          refine sX12_mends_L58 (b := b) (p1 := p1) (g0 := v2) (g1 := v3) hb ?_ ?_ _ _ _ _ _ _ (hM10_2227.mono (by omega)) (by omega) (by omega)
          · exact hQ
          · intro v2_2228 v3_2229 v4_2230 M_2231 hM_2231 p2232
            refine ⟨(by first | assumption | exact ⟨by omega, by omega⟩), ?_⟩
            refine ⟨fun c => ?_, fun c => ?_⟩
            · exact ih _ _ _ (hM_2231.mono (by omega)) (by omega) (by omega)
            · refine sX12_rightThen  hM_2231 (by omega) ?_
              intro x26_2235 M26_2236 hM26_2236 q2237
              refine sJ6_bitCountM (p0 := x26_2235) hM26_2236  ?_
              intro x27_2238 p2239 q2240
              refine ⟨fun c => ?_, fun c => ?_⟩
              · exact ih _ _ _ (hM26_2236.mono (by omega)) (by omega) (by omega)
              · exact ih _ _ _ (hM26_2236.mono (by omega)) (by omega) (by omega)
theorem sX12_mends {p1 : Int} {b : Int} {M : Mem} {Q : Int → Mem → Prop} (hI : IM b M) (hb : b + 51200 ≤ 2000000000) (hQ : ∀ z : Int, ∀ M' : Mem, IM (b + 51200) M' → Q z M') : qX12_mends p1 M Q := by
  unfold qX12_mends
  have hbn := hI.nn
  intro M1_2243 h_M1_2243
  have hM1_2243 : IM (b) M1_2243 := by rw [h_M1_2243]; exact hI.up (by omega) (by simp [BM])
  refine sX12_in (p0 := p1) (p2 := 0) (p4 := 8) hM1_2243  ?_
  intro x2_2244 p2245 q2246 q2247
  refine ⟨fun c => ?_, fun c => ?_⟩
  · refine ⟨257, ?_⟩
    refine sX12_mends_L23 (b := b) (p1 := p1) hb ?_ ?_ _ _ _ _ (hM1_2243.mono (by omega)) (by omega) (by omega)
    · exact hQ
    · intro v2_2249 M_2250 hM_2250 p2251
      refine ⟨(by first | assumption | exact ⟨by omega, by omega⟩), ?_⟩
      refine ⟨fun c => ?_, fun c => ?_⟩
      · intro M35_2253 h_M35_2253
        have hM35_2253 : IM (b + 51200) M35_2253 := by rw [h_M35_2253]; exact hM_2250.up (by omega) (bm_c1_1.mpr ⟨by omega, by omega⟩)
        have u2254 : 0 ≤ M35_2253 1 1 ∧ M35_2253 1 1 ≤ 24 := bm_c1_1.mp (hM35_2253.bx _ _)
        have t2255 : M35_2253 1 1 = 0 := by rw [h_M35_2253, up2_s]
        refine sX12_enters (p1 := v2_2249) hM35_2253 (by omega) ?_
        intro M36_2256 hM36_2256 p2257
        refine sJ6_bitCountM (p0 := v2_2249) hM36_2256  ?_
        intro x37_2258 p2259 q2260
        exact hQ _ _ (hM36_2256.mono (by omega))
      · exact hQ _ _ (hM_2250.mono (by omega))
  · exact hQ _ _ (hM1_2243.mono (by omega))
theorem sX12_misleads_L58  {X124 : Int → Int → Int → Int → Mem → Prop} {Q : Int → Mem → Prop} {b : Int} {g1 : Int} {g2 : Int} {g3 : Int} {g4 : Int} (hb : b + 1600 ≤ 2000000000) (hQ : ∀ z : Int, ∀ M' : Mem, IM (b + 1600) M' → Q z M') (hX124 : ∀ w1 w2 w3 w4 : Int, ∀ M' : Mem, IM (b + 200 + 200 * g4) M' → (w1 = g1 ∧ w2 = g2 ∧ w3 = g3 ∧ w4 = g4) → X124 w1 w2 w3 w4 M') : ∀ (n : Nat) (v1 v2 v3 v4 v5 : Int) (M : Mem), IM (b + 200 + 200 * v4) M → (v1 = g1 ∧ v2 = g2 ∧ v3 = g3 ∧ v4 = g4 ∧ 0 ≤ v4 ∧ v4 ≤ 5 ∧ 0 ≤ v5 ∧ v5 ≤ 8) → 8 - v5 < (n : Int) → qX12_misleads_L58 X124 Q n v1 v2 v3 v4 v5 M := by
  intro n
  induction n with
  | zero => intro v1 v2 v3 v4 v5 M hI hv hm; exact absurd hm (by omega)
  | succ n ih =>
    intro v1 v2 v3 v4 v5 M hI hv hm
    rw [qX12_misleads_L58]
    have hbn := hI.nn
    intro x13_2263 ex13_2263 rx13_2263
    have bx13_2263 : 0 ≤ x13_2263 ∧ x13_2263 ≤ 8 := by rw [ex13_2263]; exact bm_c1_5.mp (hI.bx _ _)
    refine ⟨(by first | assumption | exact ⟨by omega, by omega⟩), ?_⟩
    refine ⟨fun c => ?_, fun c => ?_⟩
    · exact hX124 _ _ _ _ _ (hI.mono (by omega)) (by omega)
    · refine sX12_isEnded (p1 := v5) hI (Or.inr rfl) (by omega) ?_
      intro x16_2266 q2267 q2268
      refine ⟨fun c => ?_, fun c => ?_⟩
      · unfold qX12_misleads_J107
        refine ⟨by omega, ?_⟩
        refine ⟨by omega, ?_⟩
        intro x20_2270 ex20_2270 rx20_2270
        have rbx20_2270 : -2147483648 ≤ x20_2270 ∧ x20_2270 ≤ 2147483647 := rx20_2270
        first | (have bx20_2270 : -1 ≤ x20_2270 ∧ x20_2270 ≤ 5 := by rw [ex20_2270]; exact ((bm_n (Or.inr rfl)).mp (hI.bx _ _)).2.2.1 ⟨by omega, by omega⟩) | skip
        unfold qX12_misleads_J117
        refine ⟨by omega, ?_⟩
        refine ⟨by omega, ?_⟩
        refine ⟨(by first | assumption | exact ⟨by omega, by omega⟩), ?_⟩
        intro M24_2271 h_M24_2271
        have hM24_2271 : IM (b + 200 + 200 * v4) M24_2271 := by rw [h_M24_2271]; exact hI.up (by omega) ((bm_n (Or.inr rfl)).mpr (by first | assumption | exact ⟨by omega, by omega, by omega, by omega⟩))
        exact ih _ _ _ _ _ _ (hM24_2271.mono (by omega)) (by omega) (by omega)
      · refine ⟨by omega, ?_⟩
        refine ⟨by omega, ?_⟩
        intro x27_2273 ex27_2273 rx27_2273
        have rbx27_2273 : -2147483648 ≤ x27_2273 ∧ x27_2273 ≤ 2147483647 := rx27_2273
        first | (have bx27_2273 : -1 ≤ x27_2273 ∧ x27_2273 ≤ 5 := by rw [ex27_2273]; exact ((bm_n (Or.inr rfl)).mp (hI.bx _ _)).2.2.1 ⟨by omega, by omega⟩) | skip
        refine ⟨(by first | assumption | exact ⟨by omega, by omega⟩), ?_⟩
        refine ⟨fun c => ?_, fun c => ?_⟩
        · unfold qX12_misleads_J107
          refine ⟨by omega, ?_⟩
          refine ⟨by omega, ?_⟩
          intro x20_2275 ex20_2275 rx20_2275
          have rbx20_2275 : -2147483648 ≤ x20_2275 ∧ x20_2275 ≤ 2147483647 := rx20_2275
          first | (have bx20_2275 : -1 ≤ x20_2275 ∧ x20_2275 ≤ 5 := by rw [ex20_2275]; exact ((bm_n (Or.inr rfl)).mp (hI.bx _ _)).2.2.1 ⟨by omega, by omega⟩) | skip
          unfold qX12_misleads_J117
          refine ⟨by omega, ?_⟩
          refine ⟨by omega, ?_⟩
          refine ⟨(by first | assumption | exact ⟨by omega, by omega⟩), ?_⟩
          intro M24_2276 h_M24_2276
          have hM24_2276 : IM (b + 200 + 200 * v4) M24_2276 := by rw [h_M24_2276]; exact hI.up (by omega) ((bm_n (Or.inr rfl)).mpr (by first | assumption | exact ⟨by omega, by omega, by omega, by omega⟩))
          exact ih _ _ _ _ _ _ (hM24_2276.mono (by omega)) (by omega) (by omega)
        · unfold qX12_misleads_J117
          refine ⟨by omega, ?_⟩
          refine ⟨by omega, ?_⟩
          refine ⟨(by first | assumption | exact ⟨by omega, by omega⟩), ?_⟩
          intro M24_2278 h_M24_2278
          have hM24_2278 : IM (b + 200 + 200 * v4) M24_2278 := by rw [h_M24_2278]; exact hI.up (by omega) ((bm_n (Or.inr rfl)).mpr (by first | assumption | exact ⟨by omega, by omega, by omega, by omega⟩))
          exact ih _ _ _ _ _ _ (hM24_2278.mono (by omega)) (by omega) (by omega)
theorem sX12_misleads_L22  {X168 : Int → Int → Int → Mem → Prop} {Q : Int → Mem → Prop} {b : Int} (hb : b + 1600 ≤ 2000000000) (hQ : ∀ z : Int, ∀ M' : Mem, IM (b + 1600) M' → Q z M') (hX168 : ∀ w1 w2 w3 : Int, ∀ M' : Mem, IM (b + 1600) M' → (-2 ≤ w2 ∧ w2 ≤ 5 ∧ -1 ≤ w3 ∧ w3 ≤ 63) → X168 w1 w2 w3 M') : ∀ (n : Nat) (v1 v2 v3 v4 : Int) (M : Mem), IM (b + 200 + 200 * v4) M → (-2 ≤ v2 ∧ v2 ≤ 5 ∧ -1 ≤ v3 ∧ v3 ≤ 63 ∧ 0 ≤ v4 ∧ v4 ≤ 6) → 6 - v4 < (n : Int) → qX12_misleads_L22 X168 Q n v1 v2 v3 v4 M := by
  intro n
  induction n with
  | zero => intro v1 v2 v3 v4 M hI hv hm; exact absurd hm (by omega)
  | succ n ih =>
    intro v1 v2 v3 v4 M hI hv hm
    rw [qX12_misleads_L22]
    have hbn := hI.nn
    intro x4_2279 ex4_2279 rx4_2279
    have bx4_2279 : 0 ≤ x4_2279 ∧ x4_2279 ≤ 6 := by rw [ex4_2279]; exact bm_c1_4.mp (hI.bx _ _)
    refine ⟨(by first | assumption | exact ⟨by omega, by omega⟩), ?_⟩
    refine ⟨fun c => ?_, fun c => ?_⟩
    · exact hX168 _ _ _ _ (hI.mono (by omega)) (by omega)
    · refine sX12_isOn (p1 := v4) hI (Or.inl rfl) (by omega) ?_
      intro x7_2282 p2283 q2284 q2285
      refine ⟨fun c => ?_, fun c => ?_⟩
      · exact ih _ _ _ _ _ (hI.mono (by omega)) (by omega) (by omega)
      · refine sX12_copies  hI  ?_
        intro M9_2288 hM9_2288
        refine ⟨by omega, ?_⟩
        refine ⟨by omega, ?_⟩
        intro M12_2289 h_M12_2289
        have hM12_2289 : IM (b + 200 + 200 * v4) M12_2289 := by rw [h_M12_2289]; exact hM9_2288.up (by omega) ((bm_n (Or.inr rfl)).mpr (by first | assumption | exact ⟨by omega, by omega, by omega, by omega⟩))
        refine ⟨9, ?_⟩
        refine sX12_misleads_L58 (b := b)  (g1 := v1) (g2 := v2) (g3 := v3) (g4 := v4) hb ?_ ?_ _ _ _ _ _ _ _ (hM12_2289.mono (by omega)) (by omega) (by omega)
        · exact hQ
        · intro v1_2290 v2_2291 v3_2292 v4_2293 M_2294 hM_2294 p2295
          refine sX12_rightThen  hM_2294 (by omega) ?_
          intro x31_2296 M31_2297 hM31_2297 q2298
          refine ⟨(by first | assumption | exact ⟨by omega, by omega⟩), ?_⟩
          refine sX12_owners (p1 := v4_2293) hM31_2297  ?_
          intro x33_2299 q2300
          intro x34_2301 ex34_2301 rx34_2301
          intro x35_2302 ex35_2302 rx35_2302
          refine sJ6_bitCountM (p0 := x35_2302) hM31_2297  ?_
          intro x36_2303 p2304 q2305
          refine ⟨(by first | assumption | exact ⟨by omega, by omega⟩), ?_⟩
          refine ⟨fun c => ?_, fun c => ?_⟩
          · unfold qX12_misleads_J154
            refine ⟨(by first | assumption | exact ⟨by omega, by omega⟩), ?_⟩
            refine ⟨(by first | assumption | exact ⟨by omega, by omega⟩), ?_⟩
            intro x41_2307 ex41_2307 rx41_2307
            exact ih _ _ _ _ _ (hM31_2297.mono (by omega)) (by omega) (by omega)
          · unfold qX12_misleads_J154
            refine ⟨(by first | assumption | exact ⟨by omega, by omega⟩), ?_⟩
            refine ⟨(by first | assumption | exact ⟨by omega, by omega⟩), ?_⟩
            intro x41_2309 ex41_2309 rx41_2309
            exact ih _ _ _ _ _ (hM31_2297.mono (by omega)) (by omega) (by omega)
theorem sX12_misleads  {b : Int} {M : Mem} {Q : Int → Mem → Prop} (hI : IM b M) (hb : b + 1600 ≤ 2000000000) (hQ : ∀ z : Int, ∀ M' : Mem, IM (b + 1600) M' → Q z M') : qX12_misleads M Q := by
  unfold qX12_misleads
  have hbn := hI.nn
  intro M1_2310 h_M1_2310
  have hM1_2310 : IM (b) M1_2310 := by rw [h_M1_2310]; exact hI.up (by omega) (by simp [BM])
  refine sX12_copies  hM1_2310  ?_
  intro M2_2311 hM2_2311
  refine sX12_rightThen  hM2_2311 (by omega) ?_
  intro x3_2312 M3_2313 hM3_2313 q2314
  refine ⟨7, ?_⟩
  refine sX12_misleads_L22 (b := b)  hb ?_ ?_ _ _ _ _ _ _ (hM3_2313.mono (by omega)) (by omega) (by omega)
  · exact hQ
  · intro v1_2315 v2_2316 v3_2317 M_2318 hM_2318 p2319
    refine ⟨(by first | assumption | exact ⟨by omega, by omega⟩), ?_⟩
    refine ⟨fun c => ?_, fun c => ?_⟩
    · exact hQ _ _ (hM_2318.mono (by omega))
    · intro M45_2322 h_M45_2322
      have hM45_2322 : IM (b + 1600) M45_2322 := by rw [h_M45_2322]; exact hM_2318.up (by omega) (bm_c1_1.mpr ⟨by omega, by omega⟩)
      refine ⟨(by first | assumption | exact ⟨by omega, by omega⟩), ?_⟩
      have u2323 : 0 ≤ M45_2322 1 1 ∧ M45_2322 1 1 ≤ 24 := bm_c1_1.mp (hM45_2322.bx _ _)
      have t2324 : M45_2322 1 1 = 0 := by rw [h_M45_2322, up2_s]
      refine sX12_enters (p1 := v3_2317) hM45_2322 (by omega) ?_
      intro M47_2325 hM47_2325 p2326
      refine sX12_owners (p1 := v2_2316) hM47_2325  ?_
      intro x48_2327 q2328
      intro x49_2329 ex49_2329 rx49_2329
      intro x50_2330 ex50_2330 rx50_2330
      refine sJ6_bitCountM (p0 := x50_2330) hM47_2325  ?_
      intro x51_2331 p2332 q2333
      have u2334 : 0 ≤ M47_2325 1 1 ∧ M47_2325 1 1 ≤ 24 := bm_c1_1.mp (hM47_2325.bx _ _)
      refine sX12_enters (p1 := x51_2331) hM47_2325 (by omega) ?_
      intro M52_2335 hM52_2335 p2336
      exact hQ _ _ (hM52_2335.mono (by omega))
theorem sX12_crowd_L34  {X85 : Int → Mem → Prop} {Q : Int → Mem → Prop} {b : Int} (hb : b + 200 ≤ 2000000000) (hQ : ∀ z : Int, ∀ M' : Mem, IM (b + 200) M' → Q z M') (hX85 : ∀ w1 : Int, ∀ M' : Mem, IM (b + 200) M' → (0 ≤ w1 ∧ w1 ≤ 5) → X85 w1 M') : ∀ (n : Nat) (v1 v2 : Int) (M : Mem), IM (b + 200) M → (0 ≤ v1 ∧ v1 ≤ 5 ∧ 0 ≤ v2 ∧ v2 ≤ 6) → 6 - v2 < (n : Int) → qX12_crowd_L34 X85 Q n v1 v2 M := by
  intro n
  induction n with
  | zero => intro v1 v2 M hI hv hm; exact absurd hm (by omega)
  | succ n ih =>
    intro v1 v2 M hI hv hm
    rw [qX12_crowd_L34]
    have hbn := hI.nn
    intro x6_2337 ex6_2337 rx6_2337
    have bx6_2337 : 0 ≤ x6_2337 ∧ x6_2337 ≤ 6 := by rw [ex6_2337]; exact bm_c1_4.mp (hI.bx _ _)
    refine ⟨(by first | assumption | exact ⟨by omega, by omega⟩), ?_⟩
    refine ⟨fun c => ?_, fun c => ?_⟩
    · exact hX85 _ _ (hI.mono (by omega)) (by omega)
    · refine sX12_bitsBy (p2 := 29) (p3 := v2) hI (Or.inr rfl) (by omega) ?_
      intro x9_2340 q2341
      refine sJ6_bitCountM (p0 := x9_2340) hI  ?_
      intro x10_2342 p2343 q2344
      refine ⟨(by first | assumption | exact ⟨by omega, by omega⟩), ?_⟩
      refine sX12_bitsBy (p2 := 29) (p3 := v1) hI (Or.inr rfl) (by omega) ?_
      intro x12_2345 q2346
      refine sJ6_bitCountM (p0 := x12_2345) hI  ?_
      intro x13_2347 p2348 q2349
      refine ⟨fun c => ?_, fun c => ?_⟩
      · exact ih _ _ _ (hI.mono (by omega)) (by omega) (by omega)
      · exact ih _ _ _ (hI.mono (by omega)) (by omega) (by omega)
theorem sX12_crowd  {b : Int} {M : Mem} {Q : Int → Mem → Prop} (hI : IM b M) (hb : b + 200 ≤ 2000000000) (hQ : ∀ z : Int, ∀ M' : Mem, IM (b + 200) M' → Q z M') : qX12_crowd M Q := by
  unfold qX12_crowd
  have hbn := hI.nn
  intro M1_2352 h_M1_2352
  have hM1_2352 : IM (b) M1_2352 := by rw [h_M1_2352]; exact hI.up (by omega) (by simp [BM])
  intro x2_2353 ex2_2353 rx2_2353
  have bx2_2353 : 0 ≤ x2_2353 ∧ x2_2353 ≤ 6 := by rw [ex2_2353]; exact bm_c1_4.mp (hM1_2352.bx _ _)
  have fx2_2353 : x2_2353 = M 1 4 := by rw [ex2_2353, h_M1_2352, up2_j (by decide)]
  refine ⟨fun c => ?_, fun c => ?_⟩
  · refine sX12_copies  hM1_2352  ?_
    intro M4_2355 hM4_2355
    refine sX12_goesOn (p2 := 200) hM4_2355 (by omega) (Or.inr rfl) (by omega) ?_
    intro M5_2356 hM5_2356
    refine ⟨7, ?_⟩
    refine sX12_crowd_L34 (b := b)  hb ?_ ?_ _ _ _ _ (hM5_2356.mono (by omega)) (by omega) (by omega)
    · exact hQ
    · intro v1_2357 M_2358 hM_2358 p2359
      refine ⟨(by first | assumption | exact ⟨by omega, by omega⟩), ?_⟩
      refine sX12_bitsBy (p2 := 29) (p3 := v1_2357) hM_2358 (Or.inr rfl) (by omega) ?_
      intro x17_2360 q2361
      intro M18_2362 h_M18_2362
      have hM18_2362 : IM (b + 200) M18_2362 := by rw [h_M18_2362]; exact hM_2358.up (by omega) (bm_c1_1.mpr ⟨by omega, by omega⟩)
      refine sJ6_bitCountM (p0 := x17_2360) hM18_2362  ?_
      intro x19_2363 p2364 q2365
      have u2366 : 0 ≤ M18_2362 1 1 ∧ M18_2362 1 1 ≤ 24 := bm_c1_1.mp (hM18_2362.bx _ _)
      have t2367 : M18_2362 1 1 = 0 := by rw [h_M18_2362, up2_s]
      refine sX12_enters (p1 := x19_2363) hM18_2362 (by omega) ?_
      intro M20_2368 hM20_2368 p2369
      refine sX12_owners (p1 := v1_2357) hM20_2368  ?_
      intro x21_2370 q2371
      intro x22_2372 ex22_2372 rx22_2372
      refine sJ6_bitCountM (p0 := x22_2372) hM20_2368  ?_
      intro x23_2373 p2374 q2375
      have u2376 : 0 ≤ M20_2368 1 1 ∧ M20_2368 1 1 ≤ 24 := bm_c1_1.mp (hM20_2368.bx _ _)
      refine sX12_enters (p1 := x23_2373) hM20_2368 (by omega) ?_
      intro M24_2377 hM24_2377 p2378
      exact hQ _ _ (hM24_2377.mono (by omega))
  · exact hQ _ _ (hM1_2352.mono (by omega))
theorem sX12_shares {p1 : Int} {b : Int} {M : Mem} {Q : Int → Mem → Prop} (hI : IM b M) (hQ : ∀ z : Int, Q z M) : qX12_shares p1 M Q := sorry
theorem sX12_strangers_L31  {X128 : Int → Int → Int → Int → Mem → Prop} {Q : Int → Mem → Prop} {b : Int} {g0 : Int} (hQ : ∀ z : Int, ∀ M' : Mem, IM b M' → Q z M') (hX128 : ∀ w1 w2 w3 w4 : Int, ∀ M' : Mem, IM (b) M' → (w4 = g0 ∧ 0 ≤ w1 ∧ w1 ≤ 1000000 ∧ -1 ≤ w2 ∧ w2 ≤ 7 ∧ -1 ≤ w3 ∧ w3 ≤ 7) → X128 w1 w2 w3 w4 M') : ∀ (n : Nat) (v1 v2 v3 v4 v5 : Int) (M : Mem), IM (b) M → (v4 = g0 ∧ 0 ≤ v1 ∧ v1 ≤ 1000000 ∧ -1 ≤ v2 ∧ v2 ≤ 7 ∧ -1 ≤ v3 ∧ v3 ≤ 7 ∧ 0 ≤ v4 ∧ v4 ≤ 7 ∧ 0 ≤ v5 ∧ v5 ≤ 8) → 8 - v5 < (n : Int) → qX12_strangers_L31 X128 Q n v1 v2 v3 v4 v5 M := by
  intro n
  induction n with
  | zero => intro v1 v2 v3 v4 v5 M hI hv hm; exact absurd hm (by omega)
  | succ n ih =>
    intro v1 v2 v3 v4 v5 M hI hv hm
    rw [qX12_strangers_L31]
    have hbn := hI.nn
    intro x5_2380 ex5_2380 rx5_2380
    have bx5_2380 : 0 ≤ x5_2380 ∧ x5_2380 ≤ 8 := by rw [ex5_2380]; exact bm_c1_5.mp (hI.bx _ _)
    refine ⟨(by first | assumption | exact ⟨by omega, by omega⟩), ?_⟩
    refine ⟨fun c => ?_, fun c => ?_⟩
    · exact hX128 _ _ _ _ _ (hI.mono (by omega)) (by omega)
    · refine ⟨by omega, ?_⟩
      refine ⟨by omega, ?_⟩
      intro x10_2383 ex10_2383 rx10_2383
      have rbx10_2383 : -2147483648 ≤ x10_2383 ∧ x10_2383 ≤ 2147483647 := rx10_2383
      first | (have bx10_2383 : -1 ≤ x10_2383 ∧ x10_2383 ≤ 29 := by rw [ex10_2383]; exact ((bm_n (Or.inl rfl)).mp (hI.bx _ _)).2.1 ⟨by omega, by omega⟩) | skip
      refine ⟨by omega, ?_⟩
      refine ⟨by omega, ?_⟩
      intro x13_2384 ex13_2384 rx13_2384
      have rbx13_2384 : -2147483648 ≤ x13_2384 ∧ x13_2384 ≤ 2147483647 := rx13_2384
      first | (have bx13_2384 : -1 ≤ x13_2384 ∧ x13_2384 ≤ 29 := by rw [ex13_2384]; exact ((bm_n (Or.inl rfl)).mp (hI.bx _ _)).2.1 ⟨by omega, by omega⟩) | skip
      refine ⟨(by first | assumption | exact ⟨by omega, by omega⟩), ?_⟩
      intro x15_2385 px15_2385 nx15_2385
      have bx15_2385 : 0 ≤ x15_2385 ∧ (x10_2383 - x13_2384 = x15_2385 ∨ x10_2383 - x13_2384 = -x15_2385) := by omega
      refine ⟨by omega, ?_⟩
      refine ⟨by omega, ?_⟩
      intro x18_2386 ex18_2386 rx18_2386
      have bx18_2386 : 0 ≤ x18_2386 ∧ x18_2386 ≤ 5 := by rw [ex18_2386]; exact bm_c3.mp (hI.bx _ _)
      refine ⟨by omega, ?_⟩
      refine ⟨by omega, ?_⟩
      intro x21_2387 ex21_2387 rx21_2387
      have bx21_2387 : 0 ≤ x21_2387 ∧ x21_2387 ≤ 5 := by rw [ex21_2387]; exact bm_c3.mp (hI.bx _ _)
      refine ⟨fun c => ?_, fun c => ?_⟩
      · exact ih _ _ _ _ _ _ (hI.mono (by omega)) (by omega) (by omega)
      · refine ⟨(by first | assumption | exact ⟨by omega, by omega⟩), ?_⟩
        refine sX12_isEnded (p1 := v4) hI (Or.inl rfl) (by omega) ?_
        intro x24_2390 q2391 q2392
        refine ⟨fun c => ?_, fun c => ?_⟩
        · exact ih _ _ _ _ _ _ (hI.mono (by omega)) (by omega) (by omega)
        · refine sX12_isEnded (p1 := v5) hI (Or.inl rfl) (by omega) ?_
          intro x26_2395 q2396 q2397
          refine ⟨fun c => ?_, fun c => ?_⟩
          · exact ih _ _ _ _ _ _ (hI.mono (by omega)) (by omega) (by omega)
          · refine ⟨(by first | assumption | exact ⟨by omega, by omega⟩), ?_⟩
            refine ⟨(by first | assumption | exact ⟨by omega, by omega⟩), ?_⟩
            refine ⟨fun c => ?_, fun c => ?_⟩
            · exact ih _ _ _ _ _ _ (hI.mono (by omega)) (by omega) (by omega)
            · exact ih _ _ _ _ _ _ (hI.mono (by omega)) (by omega) (by omega)
theorem sX12_strangers_L16  {X134 : Int → Int → Int → Mem → Prop} {Q : Int → Mem → Prop} {b : Int} (hQ : ∀ z : Int, ∀ M' : Mem, IM b M' → Q z M') (hX134 : ∀ w1 w2 w3 : Int, ∀ M' : Mem, IM (b) M' → (0 ≤ w1 ∧ w1 ≤ 1000000 ∧ -1 ≤ w2 ∧ w2 ≤ 7 ∧ -1 ≤ w3 ∧ w3 ≤ 7) → X134 w1 w2 w3 M') : ∀ (n : Nat) (v1 v2 v3 v4 : Int) (M : Mem), IM (b) M → (0 ≤ v1 ∧ v1 ≤ 1000000 ∧ -1 ≤ v2 ∧ v2 ≤ 7 ∧ -1 ≤ v3 ∧ v3 ≤ 7 ∧ 0 ≤ v4 ∧ v4 ≤ 8) → 8 - v4 < (n : Int) → qX12_strangers_L16 X134 Q n v1 v2 v3 v4 M := by
  intro n
  induction n with
  | zero => intro v1 v2 v3 v4 M hI hv hm; exact absurd hm (by omega)
  | succ n ih =>
    intro v1 v2 v3 v4 M hI hv hm
    rw [qX12_strangers_L16]
    have hbn := hI.nn
    intro x2_2402 ex2_2402 rx2_2402
    have bx2_2402 : 0 ≤ x2_2402 ∧ x2_2402 ≤ 8 := by rw [ex2_2402]; exact bm_c1_5.mp (hI.bx _ _)
    refine ⟨(by first | assumption | exact ⟨by omega, by omega⟩), ?_⟩
    refine ⟨fun c => ?_, fun c => ?_⟩
    · exact hX134 _ _ _ _ (hI.mono (by omega)) (by omega)
    · refine ⟨9, ?_⟩
      refine sX12_strangers_L31 (b := b)  (g0 := v4) ?_ ?_ _ _ _ _ _ _ _ (hI.mono (by omega)) (by omega) (by omega)
      · exact hQ
      · intro v1_2405 v2_2406 v3_2407 v4_2408 M_2409 hM_2409 p2410
        exact ih _ _ _ _ _ (hM_2409.mono (by omega)) (by omega) (by omega)
theorem sX12_strangers  {b : Int} {M : Mem} {Q : Int → Mem → Prop} (hI : IM b M) (hQ : ∀ z : Int, ∀ M' : Mem, IM b M' → Q z M') : qX12_strangers M Q := by
  unfold qX12_strangers
  have hbn := hI.nn
  intro M1_2411 h_M1_2411
  have hM1_2411 : IM (b) M1_2411 := by rw [h_M1_2411]; exact hI.up (by omega) (by simp [BM])
  refine ⟨9, ?_⟩
  refine sX12_strangers_L16 (b := b)  ?_ ?_ _ _ _ _ _ _ (hM1_2411.mono (by omega)) (by omega) (by omega)
  · exact hQ
  · intro v1_2412 v2_2413 v3_2414 M_2415 hM_2415 p2416
    refine ⟨(by first | assumption | exact ⟨by omega, by omega⟩), ?_⟩
    refine ⟨fun c => ?_, fun c => ?_⟩
    · intro M35_2418 h_M35_2418
      have hM35_2418 : IM (b) M35_2418 := by rw [h_M35_2418]; exact hM_2415.up (by omega) (bm_c1_1.mpr ⟨by omega, by omega⟩)
      have u2419 : 0 ≤ M35_2418 1 1 ∧ M35_2418 1 1 ≤ 24 := bm_c1_1.mp (hM35_2418.bx _ _)
      have t2420 : M35_2418 1 1 = 0 := by rw [h_M35_2418, up2_s]
      refine sX12_enters (p1 := v2_2413) hM35_2418 (by omega) ?_
      intro M36_2421 hM36_2421 p2422
      refine ⟨(by first | assumption | exact ⟨by omega, by omega⟩), ?_⟩
      have u2423 : 0 ≤ M36_2421 1 1 ∧ M36_2421 1 1 ≤ 24 := bm_c1_1.mp (hM36_2421.bx _ _)
      refine sX12_enters (p1 := v3_2414) hM36_2421 (by omega) ?_
      intro M38_2424 hM38_2424 p2425
      refine ⟨(by first | assumption | exact ⟨by omega, by omega⟩), ?_⟩
      exact hQ _ _ (hM38_2424.mono (by omega))
    · exact hQ _ _ (hM_2415.mono (by omega))
theorem sX12_doubts_L41  {X127 : Int → Int → Int → Mem → Prop} {Q : Int → Mem → Prop} {b : Int} {g1 : Int} {g2 : Int} (hQ : ∀ z : Int, ∀ M' : Mem, IM b M' → Q z M') (hX127 : ∀ w1 w2 w3 : Int, ∀ M' : Mem, IM (b) M' → (w1 = g1 ∧ w2 = g2 ∧ 0 ≤ w3 ∧ w3 ≤ 6) → X127 w1 w2 w3 M') : ∀ (n : Nat) (v1 v2 v3 v4 v5 : Int) (M : Mem), IM (b) M → (v1 = g1 ∧ v2 = g2 ∧ 0 ≤ v2 ∧ v2 ≤ 7 ∧ -1 ≤ v3 ∧ v3 ≤ 5 ∧ 0 ≤ v4 ∧ v4 ≤ v5 ∧ v5 ≤ 6) → 6 - v5 < (n : Int) → qX12_doubts_L41 X127 Q n v1 v2 v3 v4 v5 M := by
  intro n
  induction n with
  | zero => intro v1 v2 v3 v4 v5 M hI hv hm; exact absurd hm (by omega)
  | succ n ih =>
    intro v1 v2 v3 v4 v5 M hI hv hm
    rw [qX12_doubts_L41]
    have hbn := hI.nn
    intro x9_2427 ex9_2427 rx9_2427
    have bx9_2427 : 0 ≤ x9_2427 ∧ x9_2427 ≤ 6 := by rw [ex9_2427]; exact bm_c1_4.mp (hI.bx _ _)
    refine ⟨(by first | assumption | exact ⟨by omega, by omega⟩), ?_⟩
    refine ⟨fun c => ?_, fun c => ?_⟩
    · exact hX127 _ _ _ _ (hI.mono (by omega)) (by omega)
    · refine ⟨(by first | assumption | exact ⟨by omega, by omega⟩), ?_⟩
      refine ⟨fun c => ?_, fun c => ?_⟩
      · exact hX127 _ _ _ _ (hI.mono (by omega)) (by omega)
      · refine sX12_isOn (p1 := v5) hI (Or.inl rfl) (by omega) ?_
        intro x14_2432 p2433 q2434 q2435
        refine ⟨fun c => ?_, fun c => ?_⟩
        · unfold qX12_doubts_J114
          unfold qX12_doubts_J115
          refine ⟨(by first | assumption | exact ⟨by omega, by omega⟩), ?_⟩
          refine sX12_flag (p0 := 0) hI  ?_
          intro x17_2437 p2438 q2439
          exact ih _ _ _ _ _ _ (hI.mono (by omega)) (by omega) (by omega)
        · refine ⟨by omega, ?_⟩
          refine ⟨by omega, ?_⟩
          intro x20_2441 ex20_2441 rx20_2441
          have rbx20_2441 : -2147483648 ≤ x20_2441 ∧ x20_2441 ≤ 2147483647 := rx20_2441
          have nbx20_2441 : BN (b) v5 x20_2441 := by rw [ex20_2441]; exact (bm_n (Or.inl rfl)).mp (hI.bx _ _)
          first | (have bx20_2441 : -1 ≤ x20_2441 ∧ x20_2441 ≤ 29 := nbx20_2441.1 ⟨by omega, by omega⟩) | (have bx20_2441 : -1 ≤ x20_2441 ∧ x20_2441 ≤ 29 := nbx20_2441.2.1 ⟨by omega, by omega⟩) | skip
          refine ⟨by omega, ?_⟩
          refine ⟨by omega, ?_⟩
          intro x23_2442 ex23_2442 rx23_2442
          have rbx23_2442 : -2147483648 ≤ x23_2442 ∧ x23_2442 ≤ 2147483647 := rx23_2442
          first | (have bx23_2442 : -1 ≤ x23_2442 ∧ x23_2442 ≤ 29 := by rw [ex23_2442]; exact ((bm_n (Or.inl rfl)).mp (hI.bx _ _)).2.1 ⟨by omega, by omega⟩) | skip
          refine ⟨(by first | assumption | exact ⟨by omega, by omega⟩), ?_⟩
          intro x25_2443 px25_2443 nx25_2443
          have bx25_2443 : 0 ≤ x25_2443 ∧ (x20_2441 - x23_2442 = x25_2443 ∨ x20_2441 - x23_2442 = -x25_2443) := by omega
          refine ⟨by omega, ?_⟩
          refine ⟨by omega, ?_⟩
          intro x28_2444 ex28_2444 rx28_2444
          have rbx28_2444 : -2147483648 ≤ x28_2444 ∧ x28_2444 ≤ 2147483647 := rx28_2444
          have nbx28_2444 : BN (b) v3 x28_2444 := by rw [ex28_2444]; exact (bm_n (Or.inl rfl)).mp (hI.bx _ _)
          first | (have bx28_2444 : -1 ≤ x28_2444 ∧ x28_2444 ≤ 29 := nbx28_2444.1 ⟨by omega, by omega⟩) | (have bx28_2444 : -1 ≤ x28_2444 ∧ x28_2444 ≤ 29 := nbx28_2444.2.1 ⟨by omega, by omega⟩) | skip
          intro x29_2445 ex29_2445 rx29_2445
          have rbx29_2445 : -2147483648 ≤ x29_2445 ∧ x29_2445 ≤ 2147483647 := rx29_2445
          first | (have bx29_2445 : -1 ≤ x29_2445 ∧ x29_2445 ≤ 29 := by rw [ex29_2445]; exact ((bm_n (Or.inl rfl)).mp (hI.bx _ _)).2.1 ⟨by omega, by omega⟩) | skip
          refine ⟨(by first | assumption | exact ⟨by omega, by omega⟩), ?_⟩
          intro x31_2446 px31_2446 nx31_2446
          have bx31_2446 : 0 ≤ x31_2446 ∧ (x28_2444 - x29_2445 = x31_2446 ∨ x28_2444 - x29_2445 = -x31_2446) := by omega
          refine ⟨(by first | assumption | exact ⟨by omega, by omega⟩), ?_⟩
          refine ⟨(by first | assumption | exact ⟨by omega, by omega⟩), ?_⟩
          refine ⟨fun c => ?_, fun c => ?_⟩
          · unfold qX12_doubts_J114
            unfold qX12_doubts_J115
            refine ⟨(by first | assumption | exact ⟨by omega, by omega⟩), ?_⟩
            refine sX12_flag (p0 := 0) hI  ?_
            intro x17_2448 p2449 q2450
            exact ih _ _ _ _ _ _ (hI.mono (by omega)) (by omega) (by omega)
          · unfold qX12_doubts_J115
            refine ⟨(by first | assumption | exact ⟨by omega, by omega⟩), ?_⟩
            refine sX12_flag (p0 := 1) hI  ?_
            intro x17_2452 p2453 q2454
            exact ih _ _ _ _ _ _ (hI.mono (by omega)) (by omega) (by omega)
theorem sX12_doubts_L9  {X160 : Int → Mem → Prop} {Q : Int → Mem → Prop} {b : Int} (hQ : ∀ z : Int, ∀ M' : Mem, IM b M' → Q z M') (hX160 : ∀ w1 : Int, ∀ M' : Mem, IM (b) M' → iR w1 → X160 w1 M') : ∀ (n : Nat) (v1 v2 : Int) (M : Mem), IM (b) M → (0 ≤ v2 ∧ v2 ≤ 8) → iR v1 → 8 - v2 < (n : Int) → qX12_doubts_L9 X160 Q n v1 v2 M := by
  intro n
  induction n with
  | zero => intro v1 v2 M hI hv hrv1 hm; exact absurd hm (by omega)
  | succ n ih =>
    intro v1 v2 M hI hv hrv1 hm
    rw [qX12_doubts_L9]
    have hbn := hI.nn
    intro x2_2455 ex2_2455 rx2_2455
    have bx2_2455 : 0 ≤ x2_2455 ∧ x2_2455 ≤ 8 := by rw [ex2_2455]; exact bm_c1_5.mp (hI.bx _ _)
    refine ⟨(by first | assumption | exact ⟨by omega, by omega⟩), ?_⟩
    refine ⟨fun c => ?_, fun c => ?_⟩
    · exact hX160 _ _ (hI.mono (by omega)) (by first | assumption | exact ⟨by omega, by omega⟩)
    · refine ⟨by omega, ?_⟩
      refine ⟨by omega, ?_⟩
      intro x7_2458 ex7_2458 rx7_2458
      have rbx7_2458 : -2147483648 ≤ x7_2458 ∧ x7_2458 ≤ 2147483647 := rx7_2458
      first | (have bx7_2458 : -1 ≤ x7_2458 ∧ x7_2458 ≤ 29 := by rw [ex7_2458]; exact ((bm_n (Or.inl rfl)).mp (hI.bx _ _)).2.1 ⟨by omega, by omega⟩) | skip
      refine sX12_nearest (p2 := x7_2458) hI (Or.inl rfl) (by omega) ?_
      intro x8_2459 p2460 q2461
      refine ⟨7, ?_⟩
      refine sX12_doubts_L41 (b := b)  (g1 := v1) (g2 := v2) ?_ ?_ _ _ _ _ _ _ _ (hI.mono (by omega)) (by omega) (by omega)
      · exact hQ
      · intro v1_2462 v2_2463 v4_2464 M_2465 hM_2465 p2466
        unfold qX12_doubts_J127
        refine ⟨(by first | assumption | exact ⟨by omega, by omega⟩), ?_⟩
        refine ⟨fun c => ?_, fun c => ?_⟩
        · intro x38_2468 ex38_2468 rx38_2468
          first | (have fx38_2468 := oI_64 (a := v1_2462) (b := 0) ⟨by omega, by omega⟩ ⟨by omega, by omega⟩; rw [← ex38_2468] at fx38_2468) | skip
          exact ih _ _ _ (hM_2465.mono (by omega)) (by omega) (by first | assumption | exact ⟨by omega, by omega⟩) (by omega)
        · refine ⟨(by first | assumption | exact ⟨by omega, by omega⟩), ?_⟩
          refine sX12_isEnded (p1 := v2_2463) hM_2465 (Or.inl rfl) (by omega) ?_
          intro x40_2470 q2471 q2472
          refine ⟨fun c => ?_, fun c => ?_⟩
          · intro x42_2474 ex42_2474 rx42_2474
            first | (have fx42_2474 := oI_64 (a := v1_2462) (b := 0) ⟨by omega, by omega⟩ ⟨by omega, by omega⟩; rw [← ex42_2474] at fx42_2474) | skip
            exact ih _ _ _ (hM_2465.mono (by omega)) (by omega) (by first | assumption | exact ⟨by omega, by omega⟩) (by omega)
          · intro x43_2476 ex43_2476 rx43_2476
            first | (have fx43_2476 := slI_1 (b := v2_2463) ⟨by omega, by omega⟩; rw [← ex43_2476] at fx43_2476) | skip
            intro x44_2477 ex44_2477 rx44_2477
            first | (have fx44_2477 := oI_64 (a := v1_2462) (b := x43_2476) ⟨by omega, by omega⟩ ⟨by omega, by omega⟩; rw [← ex44_2477] at fx44_2477) | skip
            exact ih _ _ _ (hM_2465.mono (by omega)) (by omega) (by first | assumption | exact ⟨by omega, by omega⟩) (by omega)
theorem sX12_doubts  {b : Int} {M : Mem} {Q : Int → Mem → Prop} (hI : IM b M) (hQ : ∀ z : Int, ∀ M' : Mem, IM b M' → Q z M') : qX12_doubts M Q := by
  unfold qX12_doubts
  have hbn := hI.nn
  intro M1_2478 h_M1_2478
  have hM1_2478 : IM (b) M1_2478 := by rw [h_M1_2478]; exact hI.up (by omega) (by simp [BM])
  refine ⟨9, ?_⟩
  refine sX12_doubts_L9 (b := b)  ?_ ?_ _ _ _ _ (hM1_2478.mono (by omega)) (by omega) (by first | assumption | exact ⟨by omega, by omega⟩) (by omega)
  · exact hQ
  · intro v1_2479 M_2480 hM_2480 r2481
    intro M46_2482 h_M46_2482
    have hM46_2482 : IM (b) M46_2482 := by rw [h_M46_2482]; exact hM_2480.up (by omega) (bm_c1_1.mpr ⟨by omega, by omega⟩)
    refine ⟨(by first | assumption | exact ⟨by omega, by omega⟩), ?_⟩
    refine sJ6_bitCountM (p0 := v1_2479) hM46_2482  ?_
    intro x48_2483 p2484 q2485
    have u2486 : 0 ≤ M46_2482 1 1 ∧ M46_2482 1 1 ≤ 24 := bm_c1_1.mp (hM46_2482.bx _ _)
    have t2487 : M46_2482 1 1 = 0 := by rw [h_M46_2482, up2_s]
    refine sX12_enters (p1 := x48_2483) hM46_2482 (by omega) ?_
    intro M49_2488 hM49_2488 p2489
    exact hQ _ _ (hM49_2488.mono (by omega))
